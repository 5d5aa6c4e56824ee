theorem dX0_init_0 : decode cX0_init 0 = .ok (.aload_n 0, 1) := by decide +kernel
theorem dX0_init_1 : decode cX0_init 1 = .ok (.invokespecial 3, 3) := by decide +kernel
theorem dX0_init_4 : decode cX0_init 4 = .ok (.aload_n 0, 1) := by decide +kernel
theorem dX0_init_5 : decode cX0_init 5 = .ok (.aload_n 1, 1) := by decide +kernel
theorem dX0_init_6 : decode cX0_init 6 = .ok (.putfield 9, 3) := by decide +kernel
theorem dX0_init_9 : decode cX0_init 9 = .ok (.aload_n 0, 1) := by decide +kernel
theorem dX0_init_10 : decode cX0_init 10 = .ok (.aload_n 2, 1) := by decide +kernel
theorem dX0_init_11 : decode cX0_init 11 = .ok (.putfield 15, 3) := by decide +kernel
theorem dX0_init_14 : decode cX0_init 14 = .ok (.aload_n 0, 1) := by decide +kernel
theorem dX0_init_15 : decode cX0_init 15 = .ok (.aload_n 3, 1) := by decide +kernel
theorem dX0_init_16 : decode cX0_init 16 = .ok (.putfield 19, 3) := by decide +kernel
theorem dX0_init_19 : decode cX0_init 19 = .ok (.aload_n 0, 1) := by decide +kernel
theorem dX0_init_20 : decode cX0_init 20 = .ok (.bipush 40, 2) := by decide +kernel
theorem dX0_init_22 : decode cX0_init 22 = .ok (.newarray .int, 2) := by decide +kernel
theorem dX0_init_24 : decode cX0_init 24 = .ok (.putfield 23, 3) := by decide +kernel
theorem dX0_init_27 : decode cX0_init 27 = .ok (.aload_n 0, 1) := by decide +kernel
theorem dX0_init_28 : decode cX0_init 28 = .ok (.bipush 40, 2) := by decide +kernel
theorem dX0_init_30 : decode cX0_init 30 = .ok (.newarray .int, 2) := by decide +kernel
theorem dX0_init_32 : decode cX0_init 32 = .ok (.putfield 27, 3) := by decide +kernel
theorem dX0_init_35 : decode cX0_init 35 = .ok (.aload_n 0, 1) := by decide +kernel
theorem dX0_init_36 : decode cX0_init 36 = .ok (.bipush 40, 2) := by decide +kernel
theorem dX0_init_38 : decode cX0_init 38 = .ok (.newarray .int, 2) := by decide +kernel
theorem dX0_init_40 : decode cX0_init 40 = .ok (.putfield 30, 3) := by decide +kernel
theorem dX0_init_43 : decode cX0_init 43 = .ok (.aload_n 0, 1) := by decide +kernel
theorem dX0_init_44 : decode cX0_init 44 = .ok (.bipush 40, 2) := by decide +kernel
theorem dX0_init_46 : decode cX0_init 46 = .ok (.newarray .int, 2) := by decide +kernel
theorem dX0_init_48 : decode cX0_init 48 = .ok (.putfield 33, 3) := by decide +kernel
theorem dX0_init_51 : decode cX0_init 51 = .ok (.aload_n 0, 1) := by decide +kernel
theorem dX0_init_52 : decode cX0_init 52 = .ok (.bipush 40, 2) := by decide +kernel
theorem dX0_init_54 : decode cX0_init 54 = .ok (.newarray .int, 2) := by decide +kernel
theorem dX0_init_56 : decode cX0_init 56 = .ok (.putfield 36, 3) := by decide +kernel
theorem dX0_init_59 : decode cX0_init 59 = .ok (.aload_n 0, 1) := by decide +kernel
theorem dX0_init_60 : decode cX0_init 60 = .ok (.bipush 40, 2) := by decide +kernel
theorem dX0_init_62 : decode cX0_init 62 = .ok (.newarray .int, 2) := by decide +kernel
theorem dX0_init_64 : decode cX0_init 64 = .ok (.putfield 39, 3) := by decide +kernel
theorem dX0_init_67 : decode cX0_init 67 = .ok (.return_, 1) := by decide +kernel
theorem dX0_forget_0 : decode cX0_forget 0 = .ok (.aload_n 0, 1) := by decide +kernel
theorem dX0_forget_1 : decode cX0_forget 1 = .ok (.iconst 0, 1) := by decide +kernel
theorem dX0_forget_2 : decode cX0_forget 2 = .ok (.putfield 42, 3) := by decide +kernel
theorem dX0_forget_5 : decode cX0_forget 5 = .ok (.aload_n 0, 1) := by decide +kernel
theorem dX0_forget_6 : decode cX0_forget 6 = .ok (.iconst 0, 1) := by decide +kernel
theorem dX0_forget_7 : decode cX0_forget 7 = .ok (.putfield 46, 3) := by decide +kernel
theorem dX0_forget_10 : decode cX0_forget 10 = .ok (.return_, 1) := by decide +kernel
set_option maxRecDepth 20000 in
theorem ggX0_perform_X0_dropOldest : GoodIn wsX0_perform wsX0_dropOldest := goodIn_r _ [16, 2, 3, 4, 5, 6, 9, 1, 142, 143, 144, 145, 146, 147, 148, 149, 150, 151, 152] (by decide +kernel) (by decide +kernel)
set_option maxRecDepth 20000 in
theorem gX0_perform_X0_dropOldest : GoodIn wsX0_perform (wsV RX0 49 RX0 yX0_dropOldest wsX0_dropOldest) := goodIn_app (goodIn_of _ (by decide +kernel)) ggX0_perform_X0_dropOldest
set_option maxRecDepth 20000 in
theorem ggX0_perform_X0_carryOut : GoodIn wsX0_perform wsX0_carryOut := goodIn_r _ [20, 2, 7, 3, 4, 5, 21, 22, 23, 24, 25, 26, 27, 28, 29, 30, 31, 32, 33, 34, 35, 36, 37, 38, 39, 40, 41, 42, 43, 44, 45, 46, 47, 48, 49, 50, 51, 52, 53, 54, 55, 56, 57, 58, 59, 60, 61, 62, 63, 64, 65, 66, 67, 68, 69, 70, 71, 72, 73, 74, 75, 76, 77, 78, 79, 80, 81, 82, 83, 84, 85, 86, 87, 88, 89, 90, 91, 92, 93, 94, 95, 96, 97, 98, 99, 100, 101, 102, 103, 104, 105, 106, 107, 108, 109, 110, 111, 112, 113, 114, 115, 116, 117, 118, 119, 120, 121, 122, 123, 124, 125, 126, 127, 128, 129, 130, 131, 132, 133, 134, 135, 136, 137, 138, 139, 140, 141, 142, 143, 144, 145, 146, 147, 148, 149, 150, 151, 152, 159, 160, 161, 162, 163, 164, 165, 166, 167, 168, 169, 170, 171, 172, 173, 174, 175, 176, 177, 178, 179, 180, 181, 153, 154, 155, 156, 157, 158, 182, 183, 184, 185, 186, 187, 188, 189, 190, 191, 192, 193] (by decide +kernel) (by decide +kernel)
set_option maxRecDepth 20000 in
theorem gX0_perform_X0_carryOut : GoodIn wsX0_perform (wsV RX0 60 RX0 yX0_carryOut wsX0_carryOut) := goodIn_app (goodIn_of _ (by decide +kernel)) ggX0_perform_X0_carryOut
theorem dX0_perform_0 : decode cX0_perform 0 = .ok (.aload_n 0, 1) := by decide +kernel
theorem dX0_perform_1 : decode cX0_perform 1 = .ok (.getfield 42, 3) := by decide +kernel
theorem dX0_perform_4 : decode cX0_perform 4 = .ok (.bipush 40, 2) := by decide +kernel
theorem dX0_perform_6 : decode cX0_perform 6 = .ok (.if_icmp .lt 7, 3) := by decide +kernel
theorem dX0_perform_9 : decode cX0_perform 9 = .ok (.aload_n 0, 1) := by decide +kernel
theorem dX0_perform_10 : decode cX0_perform 10 = .ok (.invokevirtual 49, 3) := by decide +kernel
theorem dX0_perform_13 : decode cX0_perform 13 = .ok (.aload_n 0, 1) := by decide +kernel
theorem dX0_perform_14 : decode cX0_perform 14 = .ok (.getfield 23, 3) := by decide +kernel
theorem dX0_perform_17 : decode cX0_perform 17 = .ok (.aload_n 0, 1) := by decide +kernel
theorem dX0_perform_18 : decode cX0_perform 18 = .ok (.getfield 42, 3) := by decide +kernel
theorem dX0_perform_21 : decode cX0_perform 21 = .ok (.iload_n 1, 1) := by decide +kernel
theorem dX0_perform_22 : decode cX0_perform 22 = .ok (.iastore, 1) := by decide +kernel
theorem dX0_perform_23 : decode cX0_perform 23 = .ok (.aload_n 0, 1) := by decide +kernel
theorem dX0_perform_24 : decode cX0_perform 24 = .ok (.getfield 27, 3) := by decide +kernel
theorem dX0_perform_27 : decode cX0_perform 27 = .ok (.aload_n 0, 1) := by decide +kernel
theorem dX0_perform_28 : decode cX0_perform 28 = .ok (.getfield 42, 3) := by decide +kernel
theorem dX0_perform_31 : decode cX0_perform 31 = .ok (.iload_n 2, 1) := by decide +kernel
theorem dX0_perform_32 : decode cX0_perform 32 = .ok (.iastore, 1) := by decide +kernel
theorem dX0_perform_33 : decode cX0_perform 33 = .ok (.aload_n 0, 1) := by decide +kernel
theorem dX0_perform_34 : decode cX0_perform 34 = .ok (.getfield 30, 3) := by decide +kernel
theorem dX0_perform_37 : decode cX0_perform 37 = .ok (.aload_n 0, 1) := by decide +kernel
theorem dX0_perform_38 : decode cX0_perform 38 = .ok (.getfield 42, 3) := by decide +kernel
theorem dX0_perform_41 : decode cX0_perform 41 = .ok (.iload_n 3, 1) := by decide +kernel
theorem dX0_perform_42 : decode cX0_perform 42 = .ok (.iastore, 1) := by decide +kernel
theorem dX0_perform_43 : decode cX0_perform 43 = .ok (.aload_n 0, 1) := by decide +kernel
theorem dX0_perform_44 : decode cX0_perform 44 = .ok (.getfield 33, 3) := by decide +kernel
theorem dX0_perform_47 : decode cX0_perform 47 = .ok (.aload_n 0, 1) := by decide +kernel
theorem dX0_perform_48 : decode cX0_perform 48 = .ok (.getfield 42, 3) := by decide +kernel
theorem dX0_perform_51 : decode cX0_perform 51 = .ok (.iload 4, 2) := by decide +kernel
theorem dX0_perform_53 : decode cX0_perform 53 = .ok (.iastore, 1) := by decide +kernel
theorem dX0_perform_54 : decode cX0_perform 54 = .ok (.aload_n 0, 1) := by decide +kernel
theorem dX0_perform_55 : decode cX0_perform 55 = .ok (.getfield 36, 3) := by decide +kernel
theorem dX0_perform_58 : decode cX0_perform 58 = .ok (.aload_n 0, 1) := by decide +kernel
theorem dX0_perform_59 : decode cX0_perform 59 = .ok (.getfield 42, 3) := by decide +kernel
theorem dX0_perform_62 : decode cX0_perform 62 = .ok (.aload_n 0, 1) := by decide +kernel
theorem dX0_perform_63 : decode cX0_perform 63 = .ok (.getfield 15, 3) := by decide +kernel
theorem dX0_perform_66 : decode cX0_perform 66 = .ok (.getfield 52, 3) := by decide +kernel
theorem dX0_perform_69 : decode cX0_perform 69 = .ok (.iastore, 1) := by decide +kernel
theorem dX0_perform_70 : decode cX0_perform 70 = .ok (.aload_n 0, 1) := by decide +kernel
theorem dX0_perform_71 : decode cX0_perform 71 = .ok (.getfield 39, 3) := by decide +kernel
theorem dX0_perform_74 : decode cX0_perform 74 = .ok (.aload_n 0, 1) := by decide +kernel
theorem dX0_perform_75 : decode cX0_perform 75 = .ok (.getfield 42, 3) := by decide +kernel
theorem dX0_perform_78 : decode cX0_perform 78 = .ok (.aload_n 0, 1) := by decide +kernel
theorem dX0_perform_79 : decode cX0_perform 79 = .ok (.getfield 15, 3) := by decide +kernel
theorem dX0_perform_82 : decode cX0_perform 82 = .ok (.getfield 57, 3) := by decide +kernel
theorem dX0_perform_85 : decode cX0_perform 85 = .ok (.iastore, 1) := by decide +kernel
theorem dX0_perform_86 : decode cX0_perform 86 = .ok (.aload_n 0, 1) := by decide +kernel
theorem dX0_perform_87 : decode cX0_perform 87 = .ok (.aload_n 0, 1) := by decide +kernel
theorem dX0_perform_88 : decode cX0_perform 88 = .ok (.getfield 42, 3) := by decide +kernel
theorem dX0_perform_91 : decode cX0_perform 91 = .ok (.invokevirtual 60, 3) := by decide +kernel
theorem dX0_perform_94 : decode cX0_perform 94 = .ok (.aload_n 0, 1) := by decide +kernel
theorem dX0_perform_95 : decode cX0_perform 95 = .ok (.dup, 1) := by decide +kernel
theorem dX0_perform_96 : decode cX0_perform 96 = .ok (.getfield 42, 3) := by decide +kernel
theorem dX0_perform_99 : decode cX0_perform 99 = .ok (.iconst 1, 1) := by decide +kernel
theorem dX0_perform_100 : decode cX0_perform 100 = .ok (.iadd, 1) := by decide +kernel
theorem dX0_perform_101 : decode cX0_perform 101 = .ok (.putfield 42, 3) := by decide +kernel
theorem dX0_perform_104 : decode cX0_perform 104 = .ok (.aload_n 0, 1) := by decide +kernel
theorem dX0_perform_105 : decode cX0_perform 105 = .ok (.aload_n 0, 1) := by decide +kernel
theorem dX0_perform_106 : decode cX0_perform 106 = .ok (.getfield 42, 3) := by decide +kernel
theorem dX0_perform_109 : decode cX0_perform 109 = .ok (.putfield 46, 3) := by decide +kernel
theorem dX0_perform_112 : decode cX0_perform 112 = .ok (.return_, 1) := by decide +kernel
theorem dX0_dropOldest_0 : decode cX0_dropOldest 0 = .ok (.iconst 1, 1) := by decide +kernel
theorem dX0_dropOldest_1 : decode cX0_dropOldest 1 = .ok (.istore_n 1, 1) := by decide +kernel
theorem dX0_dropOldest_2 : decode cX0_dropOldest 2 = .ok (.iload_n 1, 1) := by decide +kernel
theorem dX0_dropOldest_3 : decode cX0_dropOldest 3 = .ok (.bipush 40, 2) := by decide +kernel
theorem dX0_dropOldest_5 : decode cX0_dropOldest 5 = .ok (.if_icmp .ge 93, 3) := by decide +kernel
theorem dX0_dropOldest_8 : decode cX0_dropOldest 8 = .ok (.aload_n 0, 1) := by decide +kernel
theorem dX0_dropOldest_9 : decode cX0_dropOldest 9 = .ok (.getfield 23, 3) := by decide +kernel
theorem dX0_dropOldest_12 : decode cX0_dropOldest 12 = .ok (.iload_n 1, 1) := by decide +kernel
theorem dX0_dropOldest_13 : decode cX0_dropOldest 13 = .ok (.iconst 1, 1) := by decide +kernel
theorem dX0_dropOldest_14 : decode cX0_dropOldest 14 = .ok (.isub, 1) := by decide +kernel
theorem dX0_dropOldest_15 : decode cX0_dropOldest 15 = .ok (.aload_n 0, 1) := by decide +kernel
theorem dX0_dropOldest_16 : decode cX0_dropOldest 16 = .ok (.getfield 23, 3) := by decide +kernel
theorem dX0_dropOldest_19 : decode cX0_dropOldest 19 = .ok (.iload_n 1, 1) := by decide +kernel
theorem dX0_dropOldest_20 : decode cX0_dropOldest 20 = .ok (.iaload, 1) := by decide +kernel
theorem dX0_dropOldest_21 : decode cX0_dropOldest 21 = .ok (.iastore, 1) := by decide +kernel
theorem dX0_dropOldest_22 : decode cX0_dropOldest 22 = .ok (.aload_n 0, 1) := by decide +kernel
theorem dX0_dropOldest_23 : decode cX0_dropOldest 23 = .ok (.getfield 27, 3) := by decide +kernel
theorem dX0_dropOldest_26 : decode cX0_dropOldest 26 = .ok (.iload_n 1, 1) := by decide +kernel
theorem dX0_dropOldest_27 : decode cX0_dropOldest 27 = .ok (.iconst 1, 1) := by decide +kernel
theorem dX0_dropOldest_28 : decode cX0_dropOldest 28 = .ok (.isub, 1) := by decide +kernel
theorem dX0_dropOldest_29 : decode cX0_dropOldest 29 = .ok (.aload_n 0, 1) := by decide +kernel
theorem dX0_dropOldest_30 : decode cX0_dropOldest 30 = .ok (.getfield 27, 3) := by decide +kernel
theorem dX0_dropOldest_33 : decode cX0_dropOldest 33 = .ok (.iload_n 1, 1) := by decide +kernel
theorem dX0_dropOldest_34 : decode cX0_dropOldest 34 = .ok (.iaload, 1) := by decide +kernel
theorem dX0_dropOldest_35 : decode cX0_dropOldest 35 = .ok (.iastore, 1) := by decide +kernel
theorem dX0_dropOldest_36 : decode cX0_dropOldest 36 = .ok (.aload_n 0, 1) := by decide +kernel
theorem dX0_dropOldest_37 : decode cX0_dropOldest 37 = .ok (.getfield 30, 3) := by decide +kernel
theorem dX0_dropOldest_40 : decode cX0_dropOldest 40 = .ok (.iload_n 1, 1) := by decide +kernel
theorem dX0_dropOldest_41 : decode cX0_dropOldest 41 = .ok (.iconst 1, 1) := by decide +kernel
theorem dX0_dropOldest_42 : decode cX0_dropOldest 42 = .ok (.isub, 1) := by decide +kernel
theorem dX0_dropOldest_43 : decode cX0_dropOldest 43 = .ok (.aload_n 0, 1) := by decide +kernel
theorem dX0_dropOldest_44 : decode cX0_dropOldest 44 = .ok (.getfield 30, 3) := by decide +kernel
theorem dX0_dropOldest_47 : decode cX0_dropOldest 47 = .ok (.iload_n 1, 1) := by decide +kernel
theorem dX0_dropOldest_48 : decode cX0_dropOldest 48 = .ok (.iaload, 1) := by decide +kernel
theorem dX0_dropOldest_49 : decode cX0_dropOldest 49 = .ok (.iastore, 1) := by decide +kernel
theorem dX0_dropOldest_50 : decode cX0_dropOldest 50 = .ok (.aload_n 0, 1) := by decide +kernel
theorem dX0_dropOldest_51 : decode cX0_dropOldest 51 = .ok (.getfield 33, 3) := by decide +kernel
theorem dX0_dropOldest_54 : decode cX0_dropOldest 54 = .ok (.iload_n 1, 1) := by decide +kernel
theorem dX0_dropOldest_55 : decode cX0_dropOldest 55 = .ok (.iconst 1, 1) := by decide +kernel
theorem dX0_dropOldest_56 : decode cX0_dropOldest 56 = .ok (.isub, 1) := by decide +kernel
theorem dX0_dropOldest_57 : decode cX0_dropOldest 57 = .ok (.aload_n 0, 1) := by decide +kernel
theorem dX0_dropOldest_58 : decode cX0_dropOldest 58 = .ok (.getfield 33, 3) := by decide +kernel
theorem dX0_dropOldest_61 : decode cX0_dropOldest 61 = .ok (.iload_n 1, 1) := by decide +kernel
theorem dX0_dropOldest_62 : decode cX0_dropOldest 62 = .ok (.iaload, 1) := by decide +kernel
theorem dX0_dropOldest_63 : decode cX0_dropOldest 63 = .ok (.iastore, 1) := by decide +kernel
theorem dX0_dropOldest_64 : decode cX0_dropOldest 64 = .ok (.aload_n 0, 1) := by decide +kernel
theorem dX0_dropOldest_65 : decode cX0_dropOldest 65 = .ok (.getfield 36, 3) := by decide +kernel
theorem dX0_dropOldest_68 : decode cX0_dropOldest 68 = .ok (.iload_n 1, 1) := by decide +kernel
theorem dX0_dropOldest_69 : decode cX0_dropOldest 69 = .ok (.iconst 1, 1) := by decide +kernel
theorem dX0_dropOldest_70 : decode cX0_dropOldest 70 = .ok (.isub, 1) := by decide +kernel
theorem dX0_dropOldest_71 : decode cX0_dropOldest 71 = .ok (.aload_n 0, 1) := by decide +kernel
theorem dX0_dropOldest_72 : decode cX0_dropOldest 72 = .ok (.getfield 36, 3) := by decide +kernel
theorem dX0_dropOldest_75 : decode cX0_dropOldest 75 = .ok (.iload_n 1, 1) := by decide +kernel
theorem dX0_dropOldest_76 : decode cX0_dropOldest 76 = .ok (.iaload, 1) := by decide +kernel
theorem dX0_dropOldest_77 : decode cX0_dropOldest 77 = .ok (.iastore, 1) := by decide +kernel
theorem dX0_dropOldest_78 : decode cX0_dropOldest 78 = .ok (.aload_n 0, 1) := by decide +kernel
theorem dX0_dropOldest_79 : decode cX0_dropOldest 79 = .ok (.getfield 39, 3) := by decide +kernel
theorem dX0_dropOldest_82 : decode cX0_dropOldest 82 = .ok (.iload_n 1, 1) := by decide +kernel
theorem dX0_dropOldest_83 : decode cX0_dropOldest 83 = .ok (.iconst 1, 1) := by decide +kernel
theorem dX0_dropOldest_84 : decode cX0_dropOldest 84 = .ok (.isub, 1) := by decide +kernel
theorem dX0_dropOldest_85 : decode cX0_dropOldest 85 = .ok (.aload_n 0, 1) := by decide +kernel
theorem dX0_dropOldest_86 : decode cX0_dropOldest 86 = .ok (.getfield 39, 3) := by decide +kernel
theorem dX0_dropOldest_89 : decode cX0_dropOldest 89 = .ok (.iload_n 1, 1) := by decide +kernel
theorem dX0_dropOldest_90 : decode cX0_dropOldest 90 = .ok (.iaload, 1) := by decide +kernel
theorem dX0_dropOldest_91 : decode cX0_dropOldest 91 = .ok (.iastore, 1) := by decide +kernel
theorem dX0_dropOldest_92 : decode cX0_dropOldest 92 = .ok (.iinc 1 1, 3) := by decide +kernel
theorem dX0_dropOldest_95 : decode cX0_dropOldest 95 = .ok (.goto (-93), 3) := by decide +kernel
theorem dX0_dropOldest_98 : decode cX0_dropOldest 98 = .ok (.aload_n 0, 1) := by decide +kernel
theorem dX0_dropOldest_99 : decode cX0_dropOldest 99 = .ok (.bipush 39, 2) := by decide +kernel
theorem dX0_dropOldest_101 : decode cX0_dropOldest 101 = .ok (.putfield 42, 3) := by decide +kernel
theorem dX0_dropOldest_104 : decode cX0_dropOldest 104 = .ok (.return_, 1) := by decide +kernel
set_option maxRecDepth 20000 in
theorem ggX0_takeBack_X0_reverse : GoodIn wsX0_takeBack wsX0_reverse := goodIn_r _ [6, 7, 8, 9, 10, 11, 12, 13, 14, 15, 16, 17, 18, 19, 20, 21, 22, 23, 24, 25, 26, 27, 28, 29, 30, 31, 32, 33, 34, 35, 36, 37, 38, 39, 40, 41, 42, 43, 44, 45, 46, 47, 48, 49, 50, 51, 52, 53, 54, 55, 56, 57, 58, 59, 60, 61, 62, 63, 64, 65, 66, 67, 68, 69, 70, 71, 72, 73, 74, 75] (by decide +kernel) (by decide +kernel)
set_option maxRecDepth 20000 in
theorem gX0_takeBack_X0_reverse : GoodIn wsX0_takeBack (wsV RX0 64 RX0 yX0_reverse wsX0_reverse) := goodIn_app (goodIn_of _ (by decide +kernel)) ggX0_takeBack_X0_reverse
theorem dX0_takeBack_0 : decode cX0_takeBack 0 = .ok (.aload_n 0, 1) := by decide +kernel
theorem dX0_takeBack_1 : decode cX0_takeBack 1 = .ok (.getfield 42, 3) := by decide +kernel
theorem dX0_takeBack_4 : decode cX0_takeBack 4 = .ok (.ifCond .gt 5, 3) := by decide +kernel
theorem dX0_takeBack_7 : decode cX0_takeBack 7 = .ok (.iconst 0, 1) := by decide +kernel
theorem dX0_takeBack_8 : decode cX0_takeBack 8 = .ok (.ireturn, 1) := by decide +kernel
theorem dX0_takeBack_9 : decode cX0_takeBack 9 = .ok (.aload_n 0, 1) := by decide +kernel
theorem dX0_takeBack_10 : decode cX0_takeBack 10 = .ok (.dup, 1) := by decide +kernel
theorem dX0_takeBack_11 : decode cX0_takeBack 11 = .ok (.getfield 42, 3) := by decide +kernel
theorem dX0_takeBack_14 : decode cX0_takeBack 14 = .ok (.iconst 1, 1) := by decide +kernel
theorem dX0_takeBack_15 : decode cX0_takeBack 15 = .ok (.isub, 1) := by decide +kernel
theorem dX0_takeBack_16 : decode cX0_takeBack 16 = .ok (.putfield 42, 3) := by decide +kernel
theorem dX0_takeBack_19 : decode cX0_takeBack 19 = .ok (.aload_n 0, 1) := by decide +kernel
theorem dX0_takeBack_20 : decode cX0_takeBack 20 = .ok (.aload_n 0, 1) := by decide +kernel
theorem dX0_takeBack_21 : decode cX0_takeBack 21 = .ok (.getfield 42, 3) := by decide +kernel
theorem dX0_takeBack_24 : decode cX0_takeBack 24 = .ok (.invokevirtual 64, 3) := by decide +kernel
theorem dX0_takeBack_27 : decode cX0_takeBack 27 = .ok (.iconst 1, 1) := by decide +kernel
theorem dX0_takeBack_28 : decode cX0_takeBack 28 = .ok (.ireturn, 1) := by decide +kernel
set_option maxRecDepth 20000 in
theorem ggX0_doAgain_X0_carryOut : GoodIn wsX0_doAgain wsX0_carryOut := goodIn_r _ [7, 8, 9, 10, 11, 12, 13, 14, 15, 16, 17, 18, 19, 20, 21, 22, 23, 24, 25, 26, 27, 28, 29, 30, 31, 32, 33, 34, 35, 36, 37, 38, 39, 40, 41, 42, 43, 44, 45, 46, 47, 48, 49, 50, 51, 52, 53, 54, 55, 56, 57, 58, 59, 60, 61, 62, 63, 64, 65, 66, 67, 68, 69, 70, 71, 72, 73, 74, 75, 76, 77, 78, 79, 80, 81, 82, 83, 84, 85, 86, 87, 88, 89, 90, 91, 92, 93, 94, 95, 96, 97, 98, 99, 100, 101, 102, 103, 104, 105, 106, 107, 108, 109, 110, 111, 112, 113, 114, 115, 116, 117, 118, 119, 120, 121, 122, 123, 124, 125, 126, 127, 128, 129, 130, 131, 132, 133, 134, 135, 136, 137, 138, 139, 140, 141, 142, 143, 144, 145, 146, 147, 148, 149, 150, 151, 152, 153, 154, 155, 156, 157, 158, 159, 160, 161, 162, 163, 164, 165, 166, 167, 168, 169, 170, 171, 172, 173, 174, 175, 176, 177, 178, 179, 180, 181, 182, 183, 184, 185] (by decide +kernel) (by decide +kernel)
set_option maxRecDepth 20000 in
theorem gX0_doAgain_X0_carryOut : GoodIn wsX0_doAgain (wsV RX0 60 RX0 yX0_carryOut wsX0_carryOut) := goodIn_app (goodIn_of _ (by decide +kernel)) ggX0_doAgain_X0_carryOut
theorem dX0_doAgain_0 : decode cX0_doAgain 0 = .ok (.aload_n 0, 1) := by decide +kernel
theorem dX0_doAgain_1 : decode cX0_doAgain 1 = .ok (.getfield 42, 3) := by decide +kernel
theorem dX0_doAgain_4 : decode cX0_doAgain 4 = .ok (.aload_n 0, 1) := by decide +kernel
theorem dX0_doAgain_5 : decode cX0_doAgain 5 = .ok (.getfield 46, 3) := by decide +kernel
theorem dX0_doAgain_8 : decode cX0_doAgain 8 = .ok (.if_icmp .ge 12, 3) := by decide +kernel
theorem dX0_doAgain_11 : decode cX0_doAgain 11 = .ok (.aload_n 0, 1) := by decide +kernel
theorem dX0_doAgain_12 : decode cX0_doAgain 12 = .ok (.getfield 42, 3) := by decide +kernel
theorem dX0_doAgain_15 : decode cX0_doAgain 15 = .ok (.bipush 40, 2) := by decide +kernel
theorem dX0_doAgain_17 : decode cX0_doAgain 17 = .ok (.if_icmp .lt 5, 3) := by decide +kernel
theorem dX0_doAgain_20 : decode cX0_doAgain 20 = .ok (.iconst 0, 1) := by decide +kernel
theorem dX0_doAgain_21 : decode cX0_doAgain 21 = .ok (.ireturn, 1) := by decide +kernel
theorem dX0_doAgain_22 : decode cX0_doAgain 22 = .ok (.aload_n 0, 1) := by decide +kernel
theorem dX0_doAgain_23 : decode cX0_doAgain 23 = .ok (.aload_n 0, 1) := by decide +kernel
theorem dX0_doAgain_24 : decode cX0_doAgain 24 = .ok (.getfield 42, 3) := by decide +kernel
theorem dX0_doAgain_27 : decode cX0_doAgain 27 = .ok (.invokevirtual 60, 3) := by decide +kernel
theorem dX0_doAgain_30 : decode cX0_doAgain 30 = .ok (.aload_n 0, 1) := by decide +kernel
theorem dX0_doAgain_31 : decode cX0_doAgain 31 = .ok (.dup, 1) := by decide +kernel
theorem dX0_doAgain_32 : decode cX0_doAgain 32 = .ok (.getfield 42, 3) := by decide +kernel
theorem dX0_doAgain_35 : decode cX0_doAgain 35 = .ok (.iconst 1, 1) := by decide +kernel
theorem dX0_doAgain_36 : decode cX0_doAgain 36 = .ok (.iadd, 1) := by decide +kernel
theorem dX0_doAgain_37 : decode cX0_doAgain 37 = .ok (.putfield 42, 3) := by decide +kernel
theorem dX0_doAgain_40 : decode cX0_doAgain 40 = .ok (.iconst 1, 1) := by decide +kernel
theorem dX0_doAgain_41 : decode cX0_doAgain 41 = .ok (.ireturn, 1) := by decide +kernel
set_option maxRecDepth 20000 in
theorem ggX0_carryOut_X10_slipOf : GoodIn wsX0_carryOut wsX10_slipOf := goodIn_r _ [13, 14, 15, 16, 17, 18, 19, 20, 21, 22, 23, 24, 25, 26, 27, 12, 28, 29, 30, 31, 32, 33, 34, 35, 36, 37, 38, 39, 40, 41, 42, 43, 44, 45, 46, 47, 48, 49, 50, 51, 52, 53, 54, 55, 56, 57, 58, 59, 60, 61, 62, 63, 64, 65, 66, 67, 68, 69, 70, 71, 72, 73, 154, 155, 156, 157, 158, 159, 160, 161, 162, 163, 164, 165, 166, 138, 139, 140, 141, 142, 143, 144, 145, 146, 147, 148, 149, 150, 151, 152, 153, 167, 168, 169, 170, 171, 172, 173, 174, 175, 176, 177, 178] (by decide +kernel) (by decide +kernel)
set_option maxRecDepth 20000 in
theorem gX0_carryOut_X10_slipOf : GoodIn wsX0_carryOut (wsV RX0 67 RX10 yX10_slipOf wsX10_slipOf) := goodIn_app (goodIn_of _ (by decide +kernel)) ggX0_carryOut_X10_slipOf
set_option maxRecDepth 20000 in
theorem ggX0_carryOut_X1_split : GoodIn wsX0_carryOut wsX1_split := goodIn_r _ [77, 24, 78, 79, 80, 81, 82, 83, 84, 22, 85, 86, 87, 88, 89, 90, 91, 20, 21, 23, 92, 93, 94, 56, 95, 59, 58, 96, 97, 98, 99, 100, 101, 102, 103, 104, 105, 106, 107, 108, 109, 110, 111, 112, 161, 162, 163, 164, 165, 166, 167, 168, 169, 170, 171, 172, 173] (by decide +kernel) (by decide +kernel)
set_option maxRecDepth 20000 in
theorem gX0_carryOut_X1_split : GoodIn wsX0_carryOut (wsV RX0 78 RX1 yX1_split wsX1_split) := goodIn_app (goodIn_of _ (by decide +kernel)) ggX0_carryOut_X1_split
set_option maxRecDepth 20000 in
theorem ggX0_carryOut_X1_put : GoodIn wsX0_carryOut wsX1_put := goodIn_r _ [116, 78, 90, 117, 91, 20, 21, 22, 23, 24, 161, 162, 163, 164, 165, 166, 167, 168, 169, 170, 171, 172, 173] (by decide +kernel) (by decide +kernel)
set_option maxRecDepth 20000 in
theorem gX0_carryOut_X1_put : GoodIn wsX0_carryOut (wsV RX0 82 RX1 yX1_put wsX1_put) := goodIn_app (goodIn_of _ (by decide +kernel)) ggX0_carryOut_X1_put
set_option maxRecDepth 20000 in
theorem ggX0_carryOut_X1_lift : GoodIn wsX0_carryOut wsX1_lift := goodIn_r _ [121, 78, 90, 117, 91, 20, 21, 22, 23, 24, 161, 162, 163, 164, 165, 166, 167, 168, 169, 170, 171, 172, 173] (by decide +kernel) (by decide +kernel)
set_option maxRecDepth 20000 in
theorem gX0_carryOut_X1_lift : GoodIn wsX0_carryOut (wsV RX0 86 RX1 yX1_lift wsX1_lift) := goodIn_app (goodIn_of _ (by decide +kernel)) ggX0_carryOut_X1_lift
set_option maxRecDepth 20000 in
theorem ggX0_carryOut_X1_trade : GoodIn wsX0_carryOut wsX1_trade := goodIn_r _ [125, 117, 126, 114, 115, 22, 116, 78, 90, 91, 20, 21, 23, 24, 161, 162, 163, 164, 165, 166, 167, 168, 169, 170, 171, 172, 173] (by decide +kernel) (by decide +kernel)
set_option maxRecDepth 20000 in
theorem gX0_carryOut_X1_trade : GoodIn wsX0_carryOut (wsV RX0 89 RX1 yX1_trade wsX1_trade) := goodIn_app (goodIn_of _ (by decide +kernel)) ggX0_carryOut_X1_trade
theorem dX0_carryOut_0 : decode cX0_carryOut 0 = .ok (.aload_n 0, 1) := by decide +kernel
theorem dX0_carryOut_1 : decode cX0_carryOut 1 = .ok (.getfield 23, 3) := by decide +kernel
theorem dX0_carryOut_4 : decode cX0_carryOut 4 = .ok (.iload_n 1, 1) := by decide +kernel
theorem dX0_carryOut_5 : decode cX0_carryOut 5 = .ok (.iaload, 1) := by decide +kernel
theorem dX0_carryOut_6 : decode cX0_carryOut 6 = .ok (.tableswitch 124 0 2 #[26, 80, 102], 26) := by decide +kernel
theorem dX0_carryOut_32 : decode cX0_carryOut 32 = .ok (.aload_n 0, 1) := by decide +kernel
theorem dX0_carryOut_33 : decode cX0_carryOut 33 = .ok (.getfield 15, 3) := by decide +kernel
theorem dX0_carryOut_36 : decode cX0_carryOut 36 = .ok (.aload_n 0, 1) := by decide +kernel
theorem dX0_carryOut_37 : decode cX0_carryOut 37 = .ok (.getfield 27, 3) := by decide +kernel
theorem dX0_carryOut_40 : decode cX0_carryOut 40 = .ok (.iload_n 1, 1) := by decide +kernel
theorem dX0_carryOut_41 : decode cX0_carryOut 41 = .ok (.iaload, 1) := by decide +kernel
theorem dX0_carryOut_42 : decode cX0_carryOut 42 = .ok (.aload_n 0, 1) := by decide +kernel
theorem dX0_carryOut_43 : decode cX0_carryOut 43 = .ok (.getfield 30, 3) := by decide +kernel
theorem dX0_carryOut_46 : decode cX0_carryOut 46 = .ok (.iload_n 1, 1) := by decide +kernel
theorem dX0_carryOut_47 : decode cX0_carryOut 47 = .ok (.iaload, 1) := by decide +kernel
theorem dX0_carryOut_48 : decode cX0_carryOut 48 = .ok (.aload_n 0, 1) := by decide +kernel
theorem dX0_carryOut_49 : decode cX0_carryOut 49 = .ok (.getfield 33, 3) := by decide +kernel
theorem dX0_carryOut_52 : decode cX0_carryOut 52 = .ok (.iload_n 1, 1) := by decide +kernel
theorem dX0_carryOut_53 : decode cX0_carryOut 53 = .ok (.iaload, 1) := by decide +kernel
theorem dX0_carryOut_54 : decode cX0_carryOut 54 = .ok (.aload_n 0, 1) := by decide +kernel
theorem dX0_carryOut_55 : decode cX0_carryOut 55 = .ok (.getfield 19, 3) := by decide +kernel
theorem dX0_carryOut_58 : decode cX0_carryOut 58 = .ok (.aload_n 0, 1) := by decide +kernel
theorem dX0_carryOut_59 : decode cX0_carryOut 59 = .ok (.getfield 27, 3) := by decide +kernel
theorem dX0_carryOut_62 : decode cX0_carryOut 62 = .ok (.iload_n 1, 1) := by decide +kernel
theorem dX0_carryOut_63 : decode cX0_carryOut 63 = .ok (.iaload, 1) := by decide +kernel
theorem dX0_carryOut_64 : decode cX0_carryOut 64 = .ok (.aload_n 0, 1) := by decide +kernel
theorem dX0_carryOut_65 : decode cX0_carryOut 65 = .ok (.getfield 30, 3) := by decide +kernel
theorem dX0_carryOut_68 : decode cX0_carryOut 68 = .ok (.iload_n 1, 1) := by decide +kernel
theorem dX0_carryOut_69 : decode cX0_carryOut 69 = .ok (.iaload, 1) := by decide +kernel
theorem dX0_carryOut_70 : decode cX0_carryOut 70 = .ok (.invokevirtual 67, 3) := by decide +kernel
theorem dX0_carryOut_73 : decode cX0_carryOut 73 = .ok (.aload_n 0, 1) := by decide +kernel
theorem dX0_carryOut_74 : decode cX0_carryOut 74 = .ok (.getfield 9, 3) := by decide +kernel
theorem dX0_carryOut_77 : decode cX0_carryOut 77 = .ok (.getfield 73, 3) := by decide +kernel
theorem dX0_carryOut_80 : decode cX0_carryOut 80 = .ok (.invokevirtual 78, 3) := by decide +kernel
theorem dX0_carryOut_83 : decode cX0_carryOut 83 = .ok (.goto 66, 3) := by decide +kernel
theorem dX0_carryOut_86 : decode cX0_carryOut 86 = .ok (.aload_n 0, 1) := by decide +kernel
theorem dX0_carryOut_87 : decode cX0_carryOut 87 = .ok (.getfield 15, 3) := by decide +kernel
theorem dX0_carryOut_90 : decode cX0_carryOut 90 = .ok (.aload_n 0, 1) := by decide +kernel
theorem dX0_carryOut_91 : decode cX0_carryOut 91 = .ok (.getfield 27, 3) := by decide +kernel
theorem dX0_carryOut_94 : decode cX0_carryOut 94 = .ok (.iload_n 1, 1) := by decide +kernel
theorem dX0_carryOut_95 : decode cX0_carryOut 95 = .ok (.iaload, 1) := by decide +kernel
theorem dX0_carryOut_96 : decode cX0_carryOut 96 = .ok (.aload_n 0, 1) := by decide +kernel
theorem dX0_carryOut_97 : decode cX0_carryOut 97 = .ok (.getfield 30, 3) := by decide +kernel
theorem dX0_carryOut_100 : decode cX0_carryOut 100 = .ok (.iload_n 1, 1) := by decide +kernel
theorem dX0_carryOut_101 : decode cX0_carryOut 101 = .ok (.iaload, 1) := by decide +kernel
theorem dX0_carryOut_102 : decode cX0_carryOut 102 = .ok (.invokevirtual 82, 3) := by decide +kernel
theorem dX0_carryOut_105 : decode cX0_carryOut 105 = .ok (.goto 44, 3) := by decide +kernel
theorem dX0_carryOut_108 : decode cX0_carryOut 108 = .ok (.aload_n 0, 1) := by decide +kernel
theorem dX0_carryOut_109 : decode cX0_carryOut 109 = .ok (.getfield 15, 3) := by decide +kernel
theorem dX0_carryOut_112 : decode cX0_carryOut 112 = .ok (.aload_n 0, 1) := by decide +kernel
theorem dX0_carryOut_113 : decode cX0_carryOut 113 = .ok (.getfield 27, 3) := by decide +kernel
theorem dX0_carryOut_116 : decode cX0_carryOut 116 = .ok (.iload_n 1, 1) := by decide +kernel
theorem dX0_carryOut_117 : decode cX0_carryOut 117 = .ok (.iaload, 1) := by decide +kernel
theorem dX0_carryOut_118 : decode cX0_carryOut 118 = .ok (.aload_n 0, 1) := by decide +kernel
theorem dX0_carryOut_119 : decode cX0_carryOut 119 = .ok (.getfield 30, 3) := by decide +kernel
theorem dX0_carryOut_122 : decode cX0_carryOut 122 = .ok (.iload_n 1, 1) := by decide +kernel
theorem dX0_carryOut_123 : decode cX0_carryOut 123 = .ok (.iaload, 1) := by decide +kernel
theorem dX0_carryOut_124 : decode cX0_carryOut 124 = .ok (.invokevirtual 86, 3) := by decide +kernel
theorem dX0_carryOut_127 : decode cX0_carryOut 127 = .ok (.goto 22, 3) := by decide +kernel
theorem dX0_carryOut_130 : decode cX0_carryOut 130 = .ok (.aload_n 0, 1) := by decide +kernel
theorem dX0_carryOut_131 : decode cX0_carryOut 131 = .ok (.getfield 15, 3) := by decide +kernel
theorem dX0_carryOut_134 : decode cX0_carryOut 134 = .ok (.aload_n 0, 1) := by decide +kernel
theorem dX0_carryOut_135 : decode cX0_carryOut 135 = .ok (.getfield 27, 3) := by decide +kernel
theorem dX0_carryOut_138 : decode cX0_carryOut 138 = .ok (.iload_n 1, 1) := by decide +kernel
theorem dX0_carryOut_139 : decode cX0_carryOut 139 = .ok (.iaload, 1) := by decide +kernel
theorem dX0_carryOut_140 : decode cX0_carryOut 140 = .ok (.aload_n 0, 1) := by decide +kernel
theorem dX0_carryOut_141 : decode cX0_carryOut 141 = .ok (.getfield 30, 3) := by decide +kernel
theorem dX0_carryOut_144 : decode cX0_carryOut 144 = .ok (.iload_n 1, 1) := by decide +kernel
theorem dX0_carryOut_145 : decode cX0_carryOut 145 = .ok (.iaload, 1) := by decide +kernel
theorem dX0_carryOut_146 : decode cX0_carryOut 146 = .ok (.invokevirtual 89, 3) := by decide +kernel
theorem dX0_carryOut_149 : decode cX0_carryOut 149 = .ok (.return_, 1) := by decide +kernel
set_option maxRecDepth 20000 in
theorem ggX0_reverse_X1_rejoin : GoodIn wsX0_reverse wsX1_rejoin := goodIn_r _ [13, 14, 15, 16, 17, 18, 12, 19, 20, 21, 22, 23, 24, 25, 26, 27, 28, 29, 30, 57, 58, 59, 60, 61, 62, 63, 64, 65, 66, 67, 68, 69] (by decide +kernel) (by decide +kernel)
set_option maxRecDepth 20000 in
theorem gX0_reverse_X1_rejoin : GoodIn wsX0_reverse (wsV RX0 92 RX1 yX1_rejoin wsX1_rejoin) := goodIn_app (goodIn_of _ (by decide +kernel)) ggX0_reverse_X1_rejoin
set_option maxRecDepth 20000 in
theorem ggX0_reverse_X1_lift : GoodIn wsX0_reverse wsX1_lift := goodIn_r _ [34, 15, 35, 36, 16, 17, 18, 12, 19, 14, 57, 58, 59, 60, 61, 62, 63, 64, 65, 66, 67, 68, 69] (by decide +kernel) (by decide +kernel)
set_option maxRecDepth 20000 in
theorem gX0_reverse_X1_lift : GoodIn wsX0_reverse (wsV RX0 86 RX1 yX1_lift wsX1_lift) := goodIn_app (goodIn_of _ (by decide +kernel)) ggX0_reverse_X1_lift
set_option maxRecDepth 20000 in
theorem ggX0_reverse_X1_put : GoodIn wsX0_reverse wsX1_put := goodIn_r _ [40, 15, 35, 36, 16, 17, 18, 12, 19, 14, 57, 58, 59, 60, 61, 62, 63, 64, 65, 66, 67, 68, 69] (by decide +kernel) (by decide +kernel)
set_option maxRecDepth 20000 in
theorem gX0_reverse_X1_put : GoodIn wsX0_reverse (wsV RX0 82 RX1 yX1_put wsX1_put) := goodIn_app (goodIn_of _ (by decide +kernel)) ggX0_reverse_X1_put
set_option maxRecDepth 20000 in
theorem ggX0_reverse_X1_trade : GoodIn wsX0_reverse wsX1_trade := goodIn_r _ [44, 36, 45, 38, 39, 12, 40, 15, 35, 16, 17, 18, 19, 14, 57, 58, 59, 60, 61, 62, 63, 64, 65, 66, 67, 68, 69] (by decide +kernel) (by decide +kernel)
set_option maxRecDepth 20000 in
theorem gX0_reverse_X1_trade : GoodIn wsX0_reverse (wsV RX0 89 RX1 yX1_trade wsX1_trade) := goodIn_app (goodIn_of _ (by decide +kernel)) ggX0_reverse_X1_trade
theorem dX0_reverse_0 : decode cX0_reverse 0 = .ok (.aload_n 0, 1) := by decide +kernel
theorem dX0_reverse_1 : decode cX0_reverse 1 = .ok (.getfield 23, 3) := by decide +kernel
theorem dX0_reverse_4 : decode cX0_reverse 4 = .ok (.iload_n 1, 1) := by decide +kernel
theorem dX0_reverse_5 : decode cX0_reverse 5 = .ok (.iaload, 1) := by decide +kernel
theorem dX0_reverse_6 : decode cX0_reverse 6 = .ok (.tableswitch 118 0 2 #[26, 74, 96], 26) := by decide +kernel
theorem dX0_reverse_32 : decode cX0_reverse 32 = .ok (.aload_n 0, 1) := by decide +kernel
theorem dX0_reverse_33 : decode cX0_reverse 33 = .ok (.getfield 15, 3) := by decide +kernel
theorem dX0_reverse_36 : decode cX0_reverse 36 = .ok (.aload_n 0, 1) := by decide +kernel
theorem dX0_reverse_37 : decode cX0_reverse 37 = .ok (.getfield 27, 3) := by decide +kernel
theorem dX0_reverse_40 : decode cX0_reverse 40 = .ok (.iload_n 1, 1) := by decide +kernel
theorem dX0_reverse_41 : decode cX0_reverse 41 = .ok (.iaload, 1) := by decide +kernel
theorem dX0_reverse_42 : decode cX0_reverse 42 = .ok (.aload_n 0, 1) := by decide +kernel
theorem dX0_reverse_43 : decode cX0_reverse 43 = .ok (.getfield 30, 3) := by decide +kernel
theorem dX0_reverse_46 : decode cX0_reverse 46 = .ok (.iload_n 1, 1) := by decide +kernel
theorem dX0_reverse_47 : decode cX0_reverse 47 = .ok (.iaload, 1) := by decide +kernel
theorem dX0_reverse_48 : decode cX0_reverse 48 = .ok (.invokevirtual 92, 3) := by decide +kernel
theorem dX0_reverse_51 : decode cX0_reverse 51 = .ok (.aload_n 0, 1) := by decide +kernel
theorem dX0_reverse_52 : decode cX0_reverse 52 = .ok (.getfield 15, 3) := by decide +kernel
theorem dX0_reverse_55 : decode cX0_reverse 55 = .ok (.aload_n 0, 1) := by decide +kernel
theorem dX0_reverse_56 : decode cX0_reverse 56 = .ok (.getfield 36, 3) := by decide +kernel
theorem dX0_reverse_59 : decode cX0_reverse 59 = .ok (.iload_n 1, 1) := by decide +kernel
theorem dX0_reverse_60 : decode cX0_reverse 60 = .ok (.iaload, 1) := by decide +kernel
theorem dX0_reverse_61 : decode cX0_reverse 61 = .ok (.putfield 52, 3) := by decide +kernel
theorem dX0_reverse_64 : decode cX0_reverse 64 = .ok (.aload_n 0, 1) := by decide +kernel
theorem dX0_reverse_65 : decode cX0_reverse 65 = .ok (.getfield 15, 3) := by decide +kernel
theorem dX0_reverse_68 : decode cX0_reverse 68 = .ok (.aload_n 0, 1) := by decide +kernel
theorem dX0_reverse_69 : decode cX0_reverse 69 = .ok (.getfield 39, 3) := by decide +kernel
theorem dX0_reverse_72 : decode cX0_reverse 72 = .ok (.iload_n 1, 1) := by decide +kernel
theorem dX0_reverse_73 : decode cX0_reverse 73 = .ok (.iaload, 1) := by decide +kernel
theorem dX0_reverse_74 : decode cX0_reverse 74 = .ok (.putfield 57, 3) := by decide +kernel
theorem dX0_reverse_77 : decode cX0_reverse 77 = .ok (.goto 66, 3) := by decide +kernel
theorem dX0_reverse_80 : decode cX0_reverse 80 = .ok (.aload_n 0, 1) := by decide +kernel
theorem dX0_reverse_81 : decode cX0_reverse 81 = .ok (.getfield 15, 3) := by decide +kernel
theorem dX0_reverse_84 : decode cX0_reverse 84 = .ok (.aload_n 0, 1) := by decide +kernel
theorem dX0_reverse_85 : decode cX0_reverse 85 = .ok (.getfield 27, 3) := by decide +kernel
theorem dX0_reverse_88 : decode cX0_reverse 88 = .ok (.iload_n 1, 1) := by decide +kernel
theorem dX0_reverse_89 : decode cX0_reverse 89 = .ok (.iaload, 1) := by decide +kernel
theorem dX0_reverse_90 : decode cX0_reverse 90 = .ok (.aload_n 0, 1) := by decide +kernel
theorem dX0_reverse_91 : decode cX0_reverse 91 = .ok (.getfield 30, 3) := by decide +kernel
theorem dX0_reverse_94 : decode cX0_reverse 94 = .ok (.iload_n 1, 1) := by decide +kernel
theorem dX0_reverse_95 : decode cX0_reverse 95 = .ok (.iaload, 1) := by decide +kernel
theorem dX0_reverse_96 : decode cX0_reverse 96 = .ok (.invokevirtual 86, 3) := by decide +kernel
theorem dX0_reverse_99 : decode cX0_reverse 99 = .ok (.goto 44, 3) := by decide +kernel
theorem dX0_reverse_102 : decode cX0_reverse 102 = .ok (.aload_n 0, 1) := by decide +kernel
theorem dX0_reverse_103 : decode cX0_reverse 103 = .ok (.getfield 15, 3) := by decide +kernel
theorem dX0_reverse_106 : decode cX0_reverse 106 = .ok (.aload_n 0, 1) := by decide +kernel
theorem dX0_reverse_107 : decode cX0_reverse 107 = .ok (.getfield 27, 3) := by decide +kernel
theorem dX0_reverse_110 : decode cX0_reverse 110 = .ok (.iload_n 1, 1) := by decide +kernel
theorem dX0_reverse_111 : decode cX0_reverse 111 = .ok (.iaload, 1) := by decide +kernel
theorem dX0_reverse_112 : decode cX0_reverse 112 = .ok (.aload_n 0, 1) := by decide +kernel
theorem dX0_reverse_113 : decode cX0_reverse 113 = .ok (.getfield 30, 3) := by decide +kernel
theorem dX0_reverse_116 : decode cX0_reverse 116 = .ok (.iload_n 1, 1) := by decide +kernel
theorem dX0_reverse_117 : decode cX0_reverse 117 = .ok (.iaload, 1) := by decide +kernel
theorem dX0_reverse_118 : decode cX0_reverse 118 = .ok (.invokevirtual 82, 3) := by decide +kernel
theorem dX0_reverse_121 : decode cX0_reverse 121 = .ok (.goto 22, 3) := by decide +kernel
theorem dX0_reverse_124 : decode cX0_reverse 124 = .ok (.aload_n 0, 1) := by decide +kernel
theorem dX0_reverse_125 : decode cX0_reverse 125 = .ok (.getfield 15, 3) := by decide +kernel
theorem dX0_reverse_128 : decode cX0_reverse 128 = .ok (.aload_n 0, 1) := by decide +kernel
theorem dX0_reverse_129 : decode cX0_reverse 129 = .ok (.getfield 27, 3) := by decide +kernel
theorem dX0_reverse_132 : decode cX0_reverse 132 = .ok (.iload_n 1, 1) := by decide +kernel
theorem dX0_reverse_133 : decode cX0_reverse 133 = .ok (.iaload, 1) := by decide +kernel
theorem dX0_reverse_134 : decode cX0_reverse 134 = .ok (.aload_n 0, 1) := by decide +kernel
theorem dX0_reverse_135 : decode cX0_reverse 135 = .ok (.getfield 30, 3) := by decide +kernel
theorem dX0_reverse_138 : decode cX0_reverse 138 = .ok (.iload_n 1, 1) := by decide +kernel
theorem dX0_reverse_139 : decode cX0_reverse 139 = .ok (.iaload, 1) := by decide +kernel
theorem dX0_reverse_140 : decode cX0_reverse 140 = .ok (.invokevirtual 89, 3) := by decide +kernel
theorem dX0_reverse_143 : decode cX0_reverse 143 = .ok (.return_, 1) := by decide +kernel
set_option maxRecDepth 20000 in
theorem ggX1_init_X9_init : GoodIn wsX1_init wsX9_init := goodIn_r _ [12, 13, 2, 3, 14, 21, 22, 23, 24, 25, 26, 27] (by decide +kernel) (by decide +kernel)
set_option maxRecDepth 20000 in
theorem gX1_init_X9_init : GoodIn wsX1_init (wsX9_init) := ggX1_init_X9_init
theorem dX1_init_0 : decode cX1_init 0 = .ok (.aload_n 0, 1) := by decide +kernel
theorem dX1_init_1 : decode cX1_init 1 = .ok (.invokespecial 3, 3) := by decide +kernel
theorem dX1_init_4 : decode cX1_init 4 = .ok (.aload_n 0, 1) := by decide +kernel
theorem dX1_init_5 : decode cX1_init 5 = .ok (.bipush 24, 2) := by decide +kernel
theorem dX1_init_7 : decode cX1_init 7 = .ok (.anewarray 9, 3) := by decide +kernel
theorem dX1_init_10 : decode cX1_init 10 = .ok (.putfield 11, 3) := by decide +kernel
theorem dX1_init_13 : decode cX1_init 13 = .ok (.iconst 0, 1) := by decide +kernel
theorem dX1_init_14 : decode cX1_init 14 = .ok (.istore_n 1, 1) := by decide +kernel
theorem dX1_init_15 : decode cX1_init 15 = .ok (.iload_n 1, 1) := by decide +kernel
theorem dX1_init_16 : decode cX1_init 16 = .ok (.bipush 24, 2) := by decide +kernel
theorem dX1_init_18 : decode cX1_init 18 = .ok (.if_icmp .ge 22, 3) := by decide +kernel
theorem dX1_init_21 : decode cX1_init 21 = .ok (.aload_n 0, 1) := by decide +kernel
theorem dX1_init_22 : decode cX1_init 22 = .ok (.getfield 11, 3) := by decide +kernel
theorem dX1_init_25 : decode cX1_init 25 = .ok (.iload_n 1, 1) := by decide +kernel
theorem dX1_init_26 : decode cX1_init 26 = .ok (.new 9, 3) := by decide +kernel
theorem dX1_init_29 : decode cX1_init 29 = .ok (.dup, 1) := by decide +kernel
theorem dX1_init_30 : decode cX1_init 30 = .ok (.invokespecial 17, 3) := by decide +kernel
theorem dX1_init_33 : decode cX1_init 33 = .ok (.aastore, 1) := by decide +kernel
theorem dX1_init_34 : decode cX1_init 34 = .ok (.iinc 1 1, 3) := by decide +kernel
theorem dX1_init_37 : decode cX1_init 37 = .ok (.goto (-22), 3) := by decide +kernel
theorem dX1_init_40 : decode cX1_init 40 = .ok (.aload_n 0, 1) := by decide +kernel
theorem dX1_init_41 : decode cX1_init 41 = .ok (.bipush 6, 2) := by decide +kernel
theorem dX1_init_43 : decode cX1_init 43 = .ok (.newarray .int, 2) := by decide +kernel
theorem dX1_init_45 : decode cX1_init 45 = .ok (.putfield 18, 3) := by decide +kernel
theorem dX1_init_48 : decode cX1_init 48 = .ok (.iconst 0, 1) := by decide +kernel
theorem dX1_init_49 : decode cX1_init 49 = .ok (.istore_n 1, 1) := by decide +kernel
theorem dX1_init_50 : decode cX1_init 50 = .ok (.iload_n 1, 1) := by decide +kernel
theorem dX1_init_51 : decode cX1_init 51 = .ok (.bipush 6, 2) := by decide +kernel
theorem dX1_init_53 : decode cX1_init 53 = .ok (.if_icmp .ge 16, 3) := by decide +kernel
theorem dX1_init_56 : decode cX1_init 56 = .ok (.aload_n 0, 1) := by decide +kernel
theorem dX1_init_57 : decode cX1_init 57 = .ok (.getfield 18, 3) := by decide +kernel
theorem dX1_init_60 : decode cX1_init 60 = .ok (.iload_n 1, 1) := by decide +kernel
theorem dX1_init_61 : decode cX1_init 61 = .ok (.iconst (-1), 1) := by decide +kernel
theorem dX1_init_62 : decode cX1_init 62 = .ok (.iastore, 1) := by decide +kernel
theorem dX1_init_63 : decode cX1_init 63 = .ok (.iinc 1 1, 3) := by decide +kernel
theorem dX1_init_66 : decode cX1_init 66 = .ok (.goto (-16), 3) := by decide +kernel
theorem dX1_init_69 : decode cX1_init 69 = .ok (.return_, 1) := by decide +kernel
set_option maxRecDepth 20000 in
theorem ggX1_lay_X9_layWhole : GoodIn wsX1_lay wsX9_layWhole := goodIn_r _ [14, 15, 16, 17, 18, 19, 20, 21, 44, 45, 46, 47, 48, 49, 50] (by decide +kernel) (by decide +kernel)
set_option maxRecDepth 20000 in
theorem gX1_lay_X9_layWhole : GoodIn wsX1_lay (wsV RX1 34 RX9 yX9_layWhole wsX9_layWhole) := goodIn_app (goodIn_of _ (by decide +kernel)) ggX1_lay_X9_layWhole
theorem dX1_lay_0 : decode cX1_lay 0 = .ok (.iconst 0, 1) := by decide +kernel
theorem dX1_lay_1 : decode cX1_lay 1 = .ok (.istore_n 2, 1) := by decide +kernel
theorem dX1_lay_2 : decode cX1_lay 2 = .ok (.iload_n 2, 1) := by decide +kernel
theorem dX1_lay_3 : decode cX1_lay 3 = .ok (.aload_n 1, 1) := by decide +kernel
theorem dX1_lay_4 : decode cX1_lay 4 = .ok (.getfield 22, 3) := by decide +kernel
theorem dX1_lay_7 : decode cX1_lay 7 = .ok (.if_icmp .ge 31, 3) := by decide +kernel
theorem dX1_lay_10 : decode cX1_lay 10 = .ok (.aload_n 0, 1) := by decide +kernel
theorem dX1_lay_11 : decode cX1_lay 11 = .ok (.getfield 11, 3) := by decide +kernel
theorem dX1_lay_14 : decode cX1_lay 14 = .ok (.iload_n 2, 1) := by decide +kernel
theorem dX1_lay_15 : decode cX1_lay 15 = .ok (.aaload, 1) := by decide +kernel
theorem dX1_lay_16 : decode cX1_lay 16 = .ok (.iload_n 2, 1) := by decide +kernel
theorem dX1_lay_17 : decode cX1_lay 17 = .ok (.aload_n 1, 1) := by decide +kernel
theorem dX1_lay_18 : decode cX1_lay 18 = .ok (.getfield 28, 3) := by decide +kernel
theorem dX1_lay_21 : decode cX1_lay 21 = .ok (.iload_n 2, 1) := by decide +kernel
theorem dX1_lay_22 : decode cX1_lay 22 = .ok (.iaload, 1) := by decide +kernel
theorem dX1_lay_23 : decode cX1_lay 23 = .ok (.aload_n 1, 1) := by decide +kernel
theorem dX1_lay_24 : decode cX1_lay 24 = .ok (.getfield 31, 3) := by decide +kernel
theorem dX1_lay_27 : decode cX1_lay 27 = .ok (.iload_n 2, 1) := by decide +kernel
theorem dX1_lay_28 : decode cX1_lay 28 = .ok (.iaload, 1) := by decide +kernel
theorem dX1_lay_29 : decode cX1_lay 29 = .ok (.invokevirtual 34, 3) := by decide +kernel
theorem dX1_lay_32 : decode cX1_lay 32 = .ok (.iinc 2 1, 3) := by decide +kernel
theorem dX1_lay_35 : decode cX1_lay 35 = .ok (.goto (-33), 3) := by decide +kernel
theorem dX1_lay_38 : decode cX1_lay 38 = .ok (.aload_n 0, 1) := by decide +kernel
theorem dX1_lay_39 : decode cX1_lay 39 = .ok (.aload_n 1, 1) := by decide +kernel
theorem dX1_lay_40 : decode cX1_lay 40 = .ok (.getfield 22, 3) := by decide +kernel
theorem dX1_lay_43 : decode cX1_lay 43 = .ok (.putfield 38, 3) := by decide +kernel
theorem dX1_lay_46 : decode cX1_lay 46 = .ok (.iconst 0, 1) := by decide +kernel
theorem dX1_lay_47 : decode cX1_lay 47 = .ok (.istore_n 2, 1) := by decide +kernel
theorem dX1_lay_48 : decode cX1_lay 48 = .ok (.iload_n 2, 1) := by decide +kernel
theorem dX1_lay_49 : decode cX1_lay 49 = .ok (.bipush 6, 2) := by decide +kernel
theorem dX1_lay_51 : decode cX1_lay 51 = .ok (.if_icmp .ge 16, 3) := by decide +kernel
theorem dX1_lay_54 : decode cX1_lay 54 = .ok (.aload_n 0, 1) := by decide +kernel
theorem dX1_lay_55 : decode cX1_lay 55 = .ok (.getfield 18, 3) := by decide +kernel
theorem dX1_lay_58 : decode cX1_lay 58 = .ok (.iload_n 2, 1) := by decide +kernel
theorem dX1_lay_59 : decode cX1_lay 59 = .ok (.iconst (-1), 1) := by decide +kernel
theorem dX1_lay_60 : decode cX1_lay 60 = .ok (.iastore, 1) := by decide +kernel
theorem dX1_lay_61 : decode cX1_lay 61 = .ok (.iinc 2 1, 3) := by decide +kernel
theorem dX1_lay_64 : decode cX1_lay 64 = .ok (.goto (-16), 3) := by decide +kernel
theorem dX1_lay_67 : decode cX1_lay 67 = .ok (.aload_n 0, 1) := by decide +kernel
theorem dX1_lay_68 : decode cX1_lay 68 = .ok (.iconst 0, 1) := by decide +kernel
theorem dX1_lay_69 : decode cX1_lay 69 = .ok (.putfield 41, 3) := by decide +kernel
theorem dX1_lay_72 : decode cX1_lay 72 = .ok (.aload_n 0, 1) := by decide +kernel
theorem dX1_lay_73 : decode cX1_lay 73 = .ok (.aload_n 1, 1) := by decide +kernel
theorem dX1_lay_74 : decode cX1_lay 74 = .ok (.getfield 44, 3) := by decide +kernel
theorem dX1_lay_77 : decode cX1_lay 77 = .ok (.putfield 47, 3) := by decide +kernel
theorem dX1_lay_80 : decode cX1_lay 80 = .ok (.return_, 1) := by decide +kernel
set_option maxRecDepth 20000 in
theorem ggX1_takeFrom_X9_takeFrom : GoodIn wsX1_takeFrom wsX9_takeFrom := goodIn_r _ [10, 11, 12, 13, 14, 15, 16, 17, 24, 25, 26, 27, 28, 29, 30] (by decide +kernel) (by decide +kernel)
set_option maxRecDepth 20000 in
theorem gX1_takeFrom_X9_takeFrom : GoodIn wsX1_takeFrom (wsV RX1 50 RX9 yX9_takeFrom wsX9_takeFrom) := goodIn_app (goodIn_of _ (by decide +kernel)) ggX1_takeFrom_X9_takeFrom
theorem dX1_takeFrom_0 : decode cX1_takeFrom 0 = .ok (.iconst 0, 1) := by decide +kernel
theorem dX1_takeFrom_1 : decode cX1_takeFrom 1 = .ok (.istore_n 2, 1) := by decide +kernel
theorem dX1_takeFrom_2 : decode cX1_takeFrom 2 = .ok (.iload_n 2, 1) := by decide +kernel
theorem dX1_takeFrom_3 : decode cX1_takeFrom 3 = .ok (.aload_n 1, 1) := by decide +kernel
theorem dX1_takeFrom_4 : decode cX1_takeFrom 4 = .ok (.getfield 38, 3) := by decide +kernel
theorem dX1_takeFrom_7 : decode cX1_takeFrom 7 = .ok (.if_icmp .ge 24, 3) := by decide +kernel
theorem dX1_takeFrom_10 : decode cX1_takeFrom 10 = .ok (.aload_n 0, 1) := by decide +kernel
theorem dX1_takeFrom_11 : decode cX1_takeFrom 11 = .ok (.getfield 11, 3) := by decide +kernel
theorem dX1_takeFrom_14 : decode cX1_takeFrom 14 = .ok (.iload_n 2, 1) := by decide +kernel
theorem dX1_takeFrom_15 : decode cX1_takeFrom 15 = .ok (.aaload, 1) := by decide +kernel
theorem dX1_takeFrom_16 : decode cX1_takeFrom 16 = .ok (.aload_n 1, 1) := by decide +kernel
theorem dX1_takeFrom_17 : decode cX1_takeFrom 17 = .ok (.getfield 11, 3) := by decide +kernel
theorem dX1_takeFrom_20 : decode cX1_takeFrom 20 = .ok (.iload_n 2, 1) := by decide +kernel
theorem dX1_takeFrom_21 : decode cX1_takeFrom 21 = .ok (.aaload, 1) := by decide +kernel
theorem dX1_takeFrom_22 : decode cX1_takeFrom 22 = .ok (.invokevirtual 50, 3) := by decide +kernel
theorem dX1_takeFrom_25 : decode cX1_takeFrom 25 = .ok (.iinc 2 1, 3) := by decide +kernel
theorem dX1_takeFrom_28 : decode cX1_takeFrom 28 = .ok (.goto (-26), 3) := by decide +kernel
theorem dX1_takeFrom_31 : decode cX1_takeFrom 31 = .ok (.iconst 0, 1) := by decide +kernel
theorem dX1_takeFrom_32 : decode cX1_takeFrom 32 = .ok (.istore_n 2, 1) := by decide +kernel
theorem dX1_takeFrom_33 : decode cX1_takeFrom 33 = .ok (.iload_n 2, 1) := by decide +kernel
theorem dX1_takeFrom_34 : decode cX1_takeFrom 34 = .ok (.bipush 6, 2) := by decide +kernel
theorem dX1_takeFrom_36 : decode cX1_takeFrom 36 = .ok (.if_icmp .ge 21, 3) := by decide +kernel
theorem dX1_takeFrom_39 : decode cX1_takeFrom 39 = .ok (.aload_n 0, 1) := by decide +kernel
theorem dX1_takeFrom_40 : decode cX1_takeFrom 40 = .ok (.getfield 18, 3) := by decide +kernel
theorem dX1_takeFrom_43 : decode cX1_takeFrom 43 = .ok (.iload_n 2, 1) := by decide +kernel
theorem dX1_takeFrom_44 : decode cX1_takeFrom 44 = .ok (.aload_n 1, 1) := by decide +kernel
theorem dX1_takeFrom_45 : decode cX1_takeFrom 45 = .ok (.getfield 18, 3) := by decide +kernel
theorem dX1_takeFrom_48 : decode cX1_takeFrom 48 = .ok (.iload_n 2, 1) := by decide +kernel
theorem dX1_takeFrom_49 : decode cX1_takeFrom 49 = .ok (.iaload, 1) := by decide +kernel
theorem dX1_takeFrom_50 : decode cX1_takeFrom 50 = .ok (.iastore, 1) := by decide +kernel
theorem dX1_takeFrom_51 : decode cX1_takeFrom 51 = .ok (.iinc 2 1, 3) := by decide +kernel
theorem dX1_takeFrom_54 : decode cX1_takeFrom 54 = .ok (.goto (-21), 3) := by decide +kernel
theorem dX1_takeFrom_57 : decode cX1_takeFrom 57 = .ok (.aload_n 0, 1) := by decide +kernel
theorem dX1_takeFrom_58 : decode cX1_takeFrom 58 = .ok (.aload_n 1, 1) := by decide +kernel
theorem dX1_takeFrom_59 : decode cX1_takeFrom 59 = .ok (.getfield 38, 3) := by decide +kernel
theorem dX1_takeFrom_62 : decode cX1_takeFrom 62 = .ok (.putfield 38, 3) := by decide +kernel
theorem dX1_takeFrom_65 : decode cX1_takeFrom 65 = .ok (.aload_n 0, 1) := by decide +kernel
theorem dX1_takeFrom_66 : decode cX1_takeFrom 66 = .ok (.aload_n 1, 1) := by decide +kernel
theorem dX1_takeFrom_67 : decode cX1_takeFrom 67 = .ok (.getfield 41, 3) := by decide +kernel
theorem dX1_takeFrom_70 : decode cX1_takeFrom 70 = .ok (.putfield 41, 3) := by decide +kernel
theorem dX1_takeFrom_73 : decode cX1_takeFrom 73 = .ok (.aload_n 0, 1) := by decide +kernel
theorem dX1_takeFrom_74 : decode cX1_takeFrom 74 = .ok (.aload_n 1, 1) := by decide +kernel
theorem dX1_takeFrom_75 : decode cX1_takeFrom 75 = .ok (.getfield 47, 3) := by decide +kernel
theorem dX1_takeFrom_78 : decode cX1_takeFrom 78 = .ok (.putfield 47, 3) := by decide +kernel
theorem dX1_takeFrom_81 : decode cX1_takeFrom 81 = .ok (.return_, 1) := by decide +kernel
theorem dX1_isPiece_0 : decode cX1_isPiece 0 = .ok (.iload_n 1, 1) := by decide +kernel
theorem dX1_isPiece_1 : decode cX1_isPiece 1 = .ok (.ifCond .lt 15, 3) := by decide +kernel
theorem dX1_isPiece_4 : decode cX1_isPiece 4 = .ok (.iload_n 1, 1) := by decide +kernel
theorem dX1_isPiece_5 : decode cX1_isPiece 5 = .ok (.aload_n 0, 1) := by decide +kernel
theorem dX1_isPiece_6 : decode cX1_isPiece 6 = .ok (.getfield 38, 3) := by decide +kernel
theorem dX1_isPiece_9 : decode cX1_isPiece 9 = .ok (.if_icmp .ge 7, 3) := by decide +kernel
theorem dX1_isPiece_12 : decode cX1_isPiece 12 = .ok (.iconst 1, 1) := by decide +kernel
theorem dX1_isPiece_13 : decode cX1_isPiece 13 = .ok (.goto 4, 3) := by decide +kernel
theorem dX1_isPiece_16 : decode cX1_isPiece 16 = .ok (.iconst 0, 1) := by decide +kernel
theorem dX1_isPiece_17 : decode cX1_isPiece 17 = .ok (.ireturn, 1) := by decide +kernel
set_option maxRecDepth 20000 in
theorem ggX1_isFree_X1_isPiece : GoodIn wsX1_isFree wsX1_isPiece := goodIn_r _ [7, 8, 9, 10, 11, 12, 13, 14] (by decide +kernel) (by decide +kernel)
set_option maxRecDepth 20000 in
theorem gX1_isFree_X1_isPiece : GoodIn wsX1_isFree (wsV RX1 54 RX1 yX1_isPiece wsX1_isPiece) := goodIn_app (goodIn_of _ (by decide +kernel)) ggX1_isFree_X1_isPiece
theorem dX1_isFree_0 : decode cX1_isFree 0 = .ok (.aload_n 0, 1) := by decide +kernel
theorem dX1_isFree_1 : decode cX1_isFree 1 = .ok (.iload_n 1, 1) := by decide +kernel
theorem dX1_isFree_2 : decode cX1_isFree 2 = .ok (.invokevirtual 54, 3) := by decide +kernel
theorem dX1_isFree_5 : decode cX1_isFree 5 = .ok (.ifCond .eq 20, 3) := by decide +kernel
theorem dX1_isFree_8 : decode cX1_isFree 8 = .ok (.aload_n 0, 1) := by decide +kernel
theorem dX1_isFree_9 : decode cX1_isFree 9 = .ok (.getfield 11, 3) := by decide +kernel
theorem dX1_isFree_12 : decode cX1_isFree 12 = .ok (.iload_n 1, 1) := by decide +kernel
theorem dX1_isFree_13 : decode cX1_isFree 13 = .ok (.aaload, 1) := by decide +kernel
theorem dX1_isFree_14 : decode cX1_isFree 14 = .ok (.getfield 58, 3) := by decide +kernel
theorem dX1_isFree_17 : decode cX1_isFree 17 = .ok (.iconst (-1), 1) := by decide +kernel
theorem dX1_isFree_18 : decode cX1_isFree 18 = .ok (.if_icmp .ne 7, 3) := by decide +kernel
theorem dX1_isFree_21 : decode cX1_isFree 21 = .ok (.iconst 1, 1) := by decide +kernel
theorem dX1_isFree_22 : decode cX1_isFree 22 = .ok (.goto 4, 3) := by decide +kernel
theorem dX1_isFree_25 : decode cX1_isFree 25 = .ok (.iconst 0, 1) := by decide +kernel
theorem dX1_isFree_26 : decode cX1_isFree 26 = .ok (.ireturn, 1) := by decide +kernel
set_option maxRecDepth 20000 in
theorem ggX1_canSplit_X1_isFree : GoodIn wsX1_canSplit wsX1_isFree := goodIn_r _ [6, 1, 7, 8, 9, 10, 5, 11, 12, 20, 21, 22, 23, 24, 25, 26, 27, 28, 29, 30, 31, 32] (by decide +kernel) (by decide +kernel)
set_option maxRecDepth 20000 in
theorem gX1_canSplit_X1_isFree : GoodIn wsX1_canSplit (wsV RX1 61 RX1 yX1_isFree wsX1_isFree) := goodIn_app (goodIn_of _ (by decide +kernel)) ggX1_canSplit_X1_isFree
set_option maxRecDepth 20000 in
theorem ggX1_canSplit_X9_extent : GoodIn wsX1_canSplit wsX9_extent := goodIn_r _ [17, 18, 19, 26, 27, 28, 29, 30, 31, 32] (by decide +kernel) (by decide +kernel)
set_option maxRecDepth 20000 in
theorem gX1_canSplit_X9_extent : GoodIn wsX1_canSplit (wsV RX1 64 RX9 yX9_extent wsX9_extent) := goodIn_app (goodIn_of _ (by decide +kernel)) ggX1_canSplit_X9_extent
theorem dX1_canSplit_0 : decode cX1_canSplit 0 = .ok (.aload_n 0, 1) := by decide +kernel
theorem dX1_canSplit_1 : decode cX1_canSplit 1 = .ok (.iload_n 1, 1) := by decide +kernel
theorem dX1_canSplit_2 : decode cX1_canSplit 2 = .ok (.invokevirtual 61, 3) := by decide +kernel
theorem dX1_canSplit_5 : decode cX1_canSplit 5 = .ok (.ifCond .eq 35, 3) := by decide +kernel
theorem dX1_canSplit_8 : decode cX1_canSplit 8 = .ok (.iload_n 2, 1) := by decide +kernel
theorem dX1_canSplit_9 : decode cX1_canSplit 9 = .ok (.ifCond .eq 8, 3) := by decide +kernel
theorem dX1_canSplit_12 : decode cX1_canSplit 12 = .ok (.iload_n 2, 1) := by decide +kernel
theorem dX1_canSplit_13 : decode cX1_canSplit 13 = .ok (.iconst 1, 1) := by decide +kernel
theorem dX1_canSplit_14 : decode cX1_canSplit 14 = .ok (.if_icmp .ne 26, 3) := by decide +kernel
theorem dX1_canSplit_17 : decode cX1_canSplit 17 = .ok (.iload_n 3, 1) := by decide +kernel
theorem dX1_canSplit_18 : decode cX1_canSplit 18 = .ok (.iconst 1, 1) := by decide +kernel
theorem dX1_canSplit_19 : decode cX1_canSplit 19 = .ok (.if_icmp .lt 21, 3) := by decide +kernel
theorem dX1_canSplit_22 : decode cX1_canSplit 22 = .ok (.iload_n 3, 1) := by decide +kernel
theorem dX1_canSplit_23 : decode cX1_canSplit 23 = .ok (.aload_n 0, 1) := by decide +kernel
theorem dX1_canSplit_24 : decode cX1_canSplit 24 = .ok (.getfield 11, 3) := by decide +kernel
theorem dX1_canSplit_27 : decode cX1_canSplit 27 = .ok (.iload_n 1, 1) := by decide +kernel
theorem dX1_canSplit_28 : decode cX1_canSplit 28 = .ok (.aaload, 1) := by decide +kernel
theorem dX1_canSplit_29 : decode cX1_canSplit 29 = .ok (.iload_n 2, 1) := by decide +kernel
theorem dX1_canSplit_30 : decode cX1_canSplit 30 = .ok (.invokevirtual 64, 3) := by decide +kernel
theorem dX1_canSplit_33 : decode cX1_canSplit 33 = .ok (.if_icmp .ge 7, 3) := by decide +kernel
theorem dX1_canSplit_36 : decode cX1_canSplit 36 = .ok (.iconst 1, 1) := by decide +kernel
theorem dX1_canSplit_37 : decode cX1_canSplit 37 = .ok (.goto 4, 3) := by decide +kernel
theorem dX1_canSplit_40 : decode cX1_canSplit 40 = .ok (.iconst 0, 1) := by decide +kernel
theorem dX1_canSplit_41 : decode cX1_canSplit 41 = .ok (.ireturn, 1) := by decide +kernel
set_option maxRecDepth 20000 in
theorem ggX1_split_X1_canSplit : GoodIn wsX1_split wsX1_canSplit := goodIn_r _ [10, 2, 11, 12, 13, 9, 14, 15, 16, 17, 18, 19, 1, 20, 21, 22, 23, 24, 25, 26, 44, 45, 46, 47, 48, 49, 50, 51, 52, 53, 54, 55, 56] (by decide +kernel) (by decide +kernel)
set_option maxRecDepth 20000 in
theorem gX1_split_X1_canSplit : GoodIn wsX1_split (wsV RX1 68 RX1 yX1_canSplit wsX1_canSplit) := goodIn_app (goodIn_of _ (by decide +kernel)) ggX1_split_X1_canSplit
set_option maxRecDepth 20000 in
theorem ggX1_split_X9_takeFrom : GoodIn wsX1_split wsX9_takeFrom := goodIn_r _ [30, 31, 32, 33, 25, 26, 34, 35, 50, 51, 52, 53, 54, 55, 56] (by decide +kernel) (by decide +kernel)
set_option maxRecDepth 20000 in
theorem gX1_split_X9_takeFrom : GoodIn wsX1_split (wsV RX1 50 RX9 yX9_takeFrom wsX9_takeFrom) := goodIn_app (goodIn_of _ (by decide +kernel)) ggX1_split_X9_takeFrom
set_option maxRecDepth 20000 in
theorem ggX1_split_X9_keepBehind : GoodIn wsX1_split wsX9_keepBehind := goodIn_r _ [39, 32, 25, 33, 26, 50, 51, 52, 53, 54, 55, 56] (by decide +kernel) (by decide +kernel)
set_option maxRecDepth 20000 in
theorem gX1_split_X9_keepBehind : GoodIn wsX1_split (wsV RX1 72 RX9 yX9_keepBehind wsX9_keepBehind) := goodIn_app (goodIn_of _ (by decide +kernel)) ggX1_split_X9_keepBehind
set_option maxRecDepth 20000 in
theorem ggX1_split_X9_keepAhead : GoodIn wsX1_split wsX9_keepAhead := goodIn_r _ [43, 25, 26, 50, 51, 52, 53, 54, 55, 56] (by decide +kernel) (by decide +kernel)
set_option maxRecDepth 20000 in
theorem gX1_split_X9_keepAhead : GoodIn wsX1_split (wsV RX1 76 RX9 yX9_keepAhead wsX9_keepAhead) := goodIn_app (goodIn_of _ (by decide +kernel)) ggX1_split_X9_keepAhead
theorem dX1_split_0 : decode cX1_split 0 = .ok (.aload_n 0, 1) := by decide +kernel
theorem dX1_split_1 : decode cX1_split 1 = .ok (.iload_n 1, 1) := by decide +kernel
theorem dX1_split_2 : decode cX1_split 2 = .ok (.iload_n 2, 1) := by decide +kernel
theorem dX1_split_3 : decode cX1_split 3 = .ok (.iload_n 3, 1) := by decide +kernel
theorem dX1_split_4 : decode cX1_split 4 = .ok (.invokevirtual 68, 3) := by decide +kernel
theorem dX1_split_7 : decode cX1_split 7 = .ok (.ifCond .eq 12, 3) := by decide +kernel
theorem dX1_split_10 : decode cX1_split 10 = .ok (.aload_n 0, 1) := by decide +kernel
theorem dX1_split_11 : decode cX1_split 11 = .ok (.getfield 38, 3) := by decide +kernel
theorem dX1_split_14 : decode cX1_split 14 = .ok (.bipush 24, 2) := by decide +kernel
theorem dX1_split_16 : decode cX1_split 16 = .ok (.if_icmp .lt 4, 3) := by decide +kernel
theorem dX1_split_19 : decode cX1_split 19 = .ok (.return_, 1) := by decide +kernel
theorem dX1_split_20 : decode cX1_split 20 = .ok (.aload_n 0, 1) := by decide +kernel
theorem dX1_split_21 : decode cX1_split 21 = .ok (.getfield 11, 3) := by decide +kernel
theorem dX1_split_24 : decode cX1_split 24 = .ok (.iload_n 1, 1) := by decide +kernel
theorem dX1_split_25 : decode cX1_split 25 = .ok (.aaload, 1) := by decide +kernel
theorem dX1_split_26 : decode cX1_split 26 = .ok (.astore 6, 2) := by decide +kernel
theorem dX1_split_28 : decode cX1_split 28 = .ok (.aload_n 0, 1) := by decide +kernel
theorem dX1_split_29 : decode cX1_split 29 = .ok (.getfield 11, 3) := by decide +kernel
theorem dX1_split_32 : decode cX1_split 32 = .ok (.aload_n 0, 1) := by decide +kernel
theorem dX1_split_33 : decode cX1_split 33 = .ok (.getfield 38, 3) := by decide +kernel
theorem dX1_split_36 : decode cX1_split 36 = .ok (.aaload, 1) := by decide +kernel
theorem dX1_split_37 : decode cX1_split 37 = .ok (.astore 7, 2) := by decide +kernel
theorem dX1_split_39 : decode cX1_split 39 = .ok (.aload 7, 2) := by decide +kernel
theorem dX1_split_41 : decode cX1_split 41 = .ok (.aload 6, 2) := by decide +kernel
theorem dX1_split_43 : decode cX1_split 43 = .ok (.invokevirtual 50, 3) := by decide +kernel
theorem dX1_split_46 : decode cX1_split 46 = .ok (.aload 7, 2) := by decide +kernel
theorem dX1_split_48 : decode cX1_split 48 = .ok (.iload_n 2, 1) := by decide +kernel
theorem dX1_split_49 : decode cX1_split 49 = .ok (.iload_n 3, 1) := by decide +kernel
theorem dX1_split_50 : decode cX1_split 50 = .ok (.invokevirtual 72, 3) := by decide +kernel
theorem dX1_split_53 : decode cX1_split 53 = .ok (.aload 6, 2) := by decide +kernel
theorem dX1_split_55 : decode cX1_split 55 = .ok (.iload_n 2, 1) := by decide +kernel
theorem dX1_split_56 : decode cX1_split 56 = .ok (.iload_n 3, 1) := by decide +kernel
theorem dX1_split_57 : decode cX1_split 57 = .ok (.invokevirtual 76, 3) := by decide +kernel
theorem dX1_split_60 : decode cX1_split 60 = .ok (.aload_n 0, 1) := by decide +kernel
theorem dX1_split_61 : decode cX1_split 61 = .ok (.dup, 1) := by decide +kernel
theorem dX1_split_62 : decode cX1_split 62 = .ok (.getfield 38, 3) := by decide +kernel
theorem dX1_split_65 : decode cX1_split 65 = .ok (.iconst 1, 1) := by decide +kernel
theorem dX1_split_66 : decode cX1_split 66 = .ok (.iadd, 1) := by decide +kernel
theorem dX1_split_67 : decode cX1_split 67 = .ok (.putfield 38, 3) := by decide +kernel
theorem dX1_split_70 : decode cX1_split 70 = .ok (.aload_n 0, 1) := by decide +kernel
theorem dX1_split_71 : decode cX1_split 71 = .ok (.aload_n 0, 1) := by decide +kernel
theorem dX1_split_72 : decode cX1_split 72 = .ok (.getfield 47, 3) := by decide +kernel
theorem dX1_split_75 : decode cX1_split 75 = .ok (.sipush 137, 3) := by decide +kernel
theorem dX1_split_78 : decode cX1_split 78 = .ok (.imul, 1) := by decide +kernel
theorem dX1_split_79 : decode cX1_split 79 = .ok (.bipush 71, 2) := by decide +kernel
theorem dX1_split_81 : decode cX1_split 81 = .ok (.iadd, 1) := by decide +kernel
theorem dX1_split_82 : decode cX1_split 82 = .ok (.sipush 1000, 3) := by decide +kernel
theorem dX1_split_85 : decode cX1_split 85 = .ok (.irem, 1) := by decide +kernel
theorem dX1_split_86 : decode cX1_split 86 = .ok (.putfield 47, 3) := by decide +kernel
theorem dX1_split_89 : decode cX1_split 89 = .ok (.aload_n 0, 1) := by decide +kernel
theorem dX1_split_90 : decode cX1_split 90 = .ok (.getfield 47, 3) := by decide +kernel
theorem dX1_split_93 : decode cX1_split 93 = .ok (.bipush 100, 2) := by decide +kernel
theorem dX1_split_95 : decode cX1_split 95 = .ok (.irem, 1) := by decide +kernel
theorem dX1_split_96 : decode cX1_split 96 = .ok (.iload 4, 2) := by decide +kernel
theorem dX1_split_98 : decode cX1_split 98 = .ok (.if_icmp .ge 9, 3) := by decide +kernel
theorem dX1_split_101 : decode cX1_split 101 = .ok (.aload 7, 2) := by decide +kernel
theorem dX1_split_103 : decode cX1_split 103 = .ok (.iconst 1, 1) := by decide +kernel
theorem dX1_split_104 : decode cX1_split 104 = .ok (.putfield 79, 3) := by decide +kernel
theorem dX1_split_107 : decode cX1_split 107 = .ok (.aload_n 0, 1) := by decide +kernel
theorem dX1_split_108 : decode cX1_split 108 = .ok (.dup, 1) := by decide +kernel
theorem dX1_split_109 : decode cX1_split 109 = .ok (.getfield 41, 3) := by decide +kernel
theorem dX1_split_112 : decode cX1_split 112 = .ok (.iload 5, 2) := by decide +kernel
theorem dX1_split_114 : decode cX1_split 114 = .ok (.iadd, 1) := by decide +kernel
theorem dX1_split_115 : decode cX1_split 115 = .ok (.putfield 41, 3) := by decide +kernel
theorem dX1_split_118 : decode cX1_split 118 = .ok (.return_, 1) := by decide +kernel
set_option maxRecDepth 20000 in
theorem ggX1_rejoin_X1_isPiece : GoodIn wsX1_rejoin wsX1_isPiece := goodIn_r _ [7, 1, 19, 20, 21, 22, 23, 24] (by decide +kernel) (by decide +kernel)
set_option maxRecDepth 20000 in
theorem gX1_rejoin_X1_isPiece : GoodIn wsX1_rejoin (wsV RX1 54 RX1 yX1_isPiece wsX1_isPiece) := goodIn_app (goodIn_of _ (by decide +kernel)) ggX1_rejoin_X1_isPiece
set_option maxRecDepth 20000 in
theorem ggX1_rejoin_X9_extent : GoodIn wsX1_rejoin wsX9_extent := goodIn_r _ [12, 13, 14, 25, 26, 27, 28, 29, 30, 31] (by decide +kernel) (by decide +kernel)
set_option maxRecDepth 20000 in
theorem gX1_rejoin_X9_extent : GoodIn wsX1_rejoin (wsV RX1 64 RX9 yX9_extent wsX9_extent) := goodIn_app (goodIn_of _ (by decide +kernel)) ggX1_rejoin_X9_extent
set_option maxRecDepth 20000 in
theorem ggX1_rejoin_X9_growBy : GoodIn wsX1_rejoin wsX9_growBy := goodIn_r _ [18, 13, 14, 25, 26, 27, 28, 29, 30, 31] (by decide +kernel) (by decide +kernel)
set_option maxRecDepth 20000 in
theorem gX1_rejoin_X9_growBy : GoodIn wsX1_rejoin (wsV RX1 83 RX9 yX9_growBy wsX9_growBy) := goodIn_app (goodIn_of _ (by decide +kernel)) ggX1_rejoin_X9_growBy
theorem dX1_rejoin_0 : decode cX1_rejoin 0 = .ok (.aload_n 0, 1) := by decide +kernel
theorem dX1_rejoin_1 : decode cX1_rejoin 1 = .ok (.iload_n 1, 1) := by decide +kernel
theorem dX1_rejoin_2 : decode cX1_rejoin 2 = .ok (.invokevirtual 54, 3) := by decide +kernel
theorem dX1_rejoin_5 : decode cX1_rejoin 5 = .ok (.ifCond .eq 46, 3) := by decide +kernel
theorem dX1_rejoin_8 : decode cX1_rejoin 8 = .ok (.iload_n 1, 1) := by decide +kernel
theorem dX1_rejoin_9 : decode cX1_rejoin 9 = .ok (.aload_n 0, 1) := by decide +kernel
theorem dX1_rejoin_10 : decode cX1_rejoin 10 = .ok (.getfield 38, 3) := by decide +kernel
theorem dX1_rejoin_13 : decode cX1_rejoin 13 = .ok (.iconst 1, 1) := by decide +kernel
theorem dX1_rejoin_14 : decode cX1_rejoin 14 = .ok (.isub, 1) := by decide +kernel
theorem dX1_rejoin_15 : decode cX1_rejoin 15 = .ok (.if_icmp .ge 36, 3) := by decide +kernel
theorem dX1_rejoin_18 : decode cX1_rejoin 18 = .ok (.aload_n 0, 1) := by decide +kernel
theorem dX1_rejoin_19 : decode cX1_rejoin 19 = .ok (.dup, 1) := by decide +kernel
theorem dX1_rejoin_20 : decode cX1_rejoin 20 = .ok (.getfield 38, 3) := by decide +kernel
theorem dX1_rejoin_23 : decode cX1_rejoin 23 = .ok (.iconst 1, 1) := by decide +kernel
theorem dX1_rejoin_24 : decode cX1_rejoin 24 = .ok (.isub, 1) := by decide +kernel
theorem dX1_rejoin_25 : decode cX1_rejoin 25 = .ok (.putfield 38, 3) := by decide +kernel
theorem dX1_rejoin_28 : decode cX1_rejoin 28 = .ok (.aload_n 0, 1) := by decide +kernel
theorem dX1_rejoin_29 : decode cX1_rejoin 29 = .ok (.getfield 11, 3) := by decide +kernel
theorem dX1_rejoin_32 : decode cX1_rejoin 32 = .ok (.iload_n 1, 1) := by decide +kernel
theorem dX1_rejoin_33 : decode cX1_rejoin 33 = .ok (.aaload, 1) := by decide +kernel
theorem dX1_rejoin_34 : decode cX1_rejoin 34 = .ok (.iload_n 2, 1) := by decide +kernel
theorem dX1_rejoin_35 : decode cX1_rejoin 35 = .ok (.aload_n 0, 1) := by decide +kernel
theorem dX1_rejoin_36 : decode cX1_rejoin 36 = .ok (.getfield 11, 3) := by decide +kernel
theorem dX1_rejoin_39 : decode cX1_rejoin 39 = .ok (.aload_n 0, 1) := by decide +kernel
theorem dX1_rejoin_40 : decode cX1_rejoin 40 = .ok (.getfield 38, 3) := by decide +kernel
theorem dX1_rejoin_43 : decode cX1_rejoin 43 = .ok (.aaload, 1) := by decide +kernel
theorem dX1_rejoin_44 : decode cX1_rejoin 44 = .ok (.iload_n 2, 1) := by decide +kernel
theorem dX1_rejoin_45 : decode cX1_rejoin 45 = .ok (.invokevirtual 64, 3) := by decide +kernel
theorem dX1_rejoin_48 : decode cX1_rejoin 48 = .ok (.invokevirtual 83, 3) := by decide +kernel
theorem dX1_rejoin_51 : decode cX1_rejoin 51 = .ok (.return_, 1) := by decide +kernel
set_option maxRecDepth 20000 in
theorem ggX1_put_X1_isPiece : GoodIn wsX1_put wsX1_isPiece := goodIn_r _ [8, 9, 10, 11, 12, 13, 14, 15] (by decide +kernel) (by decide +kernel)
set_option maxRecDepth 20000 in
theorem gX1_put_X1_isPiece : GoodIn wsX1_put (wsV RX1 54 RX1 yX1_isPiece wsX1_isPiece) := goodIn_app (goodIn_of _ (by decide +kernel)) ggX1_put_X1_isPiece
theorem dX1_put_0 : decode cX1_put 0 = .ok (.aload_n 0, 1) := by decide +kernel
theorem dX1_put_1 : decode cX1_put 1 = .ok (.iload_n 1, 1) := by decide +kernel
theorem dX1_put_2 : decode cX1_put 2 = .ok (.invokevirtual 54, 3) := by decide +kernel
theorem dX1_put_5 : decode cX1_put 5 = .ok (.ifCond .eq 30, 3) := by decide +kernel
theorem dX1_put_8 : decode cX1_put 8 = .ok (.iload_n 2, 1) := by decide +kernel
theorem dX1_put_9 : decode cX1_put 9 = .ok (.ifCond .lt 26, 3) := by decide +kernel
theorem dX1_put_12 : decode cX1_put 12 = .ok (.iload_n 2, 1) := by decide +kernel
theorem dX1_put_13 : decode cX1_put 13 = .ok (.bipush 6, 2) := by decide +kernel
theorem dX1_put_15 : decode cX1_put 15 = .ok (.if_icmp .ge 20, 3) := by decide +kernel
theorem dX1_put_18 : decode cX1_put 18 = .ok (.aload_n 0, 1) := by decide +kernel
theorem dX1_put_19 : decode cX1_put 19 = .ok (.getfield 11, 3) := by decide +kernel
theorem dX1_put_22 : decode cX1_put 22 = .ok (.iload_n 1, 1) := by decide +kernel
theorem dX1_put_23 : decode cX1_put 23 = .ok (.aaload, 1) := by decide +kernel
theorem dX1_put_24 : decode cX1_put 24 = .ok (.iload_n 2, 1) := by decide +kernel
theorem dX1_put_25 : decode cX1_put 25 = .ok (.putfield 58, 3) := by decide +kernel
theorem dX1_put_28 : decode cX1_put 28 = .ok (.aload_n 0, 1) := by decide +kernel
theorem dX1_put_29 : decode cX1_put 29 = .ok (.getfield 18, 3) := by decide +kernel
theorem dX1_put_32 : decode cX1_put 32 = .ok (.iload_n 2, 1) := by decide +kernel
theorem dX1_put_33 : decode cX1_put 33 = .ok (.iload_n 1, 1) := by decide +kernel
theorem dX1_put_34 : decode cX1_put 34 = .ok (.iastore, 1) := by decide +kernel
theorem dX1_put_35 : decode cX1_put 35 = .ok (.return_, 1) := by decide +kernel
set_option maxRecDepth 20000 in
theorem ggX1_lift_X1_isPiece : GoodIn wsX1_lift wsX1_isPiece := goodIn_r _ [8, 9, 10, 11, 12, 13, 14, 15] (by decide +kernel) (by decide +kernel)
set_option maxRecDepth 20000 in
theorem gX1_lift_X1_isPiece : GoodIn wsX1_lift (wsV RX1 54 RX1 yX1_isPiece wsX1_isPiece) := goodIn_app (goodIn_of _ (by decide +kernel)) ggX1_lift_X1_isPiece
theorem dX1_lift_0 : decode cX1_lift 0 = .ok (.aload_n 0, 1) := by decide +kernel
theorem dX1_lift_1 : decode cX1_lift 1 = .ok (.iload_n 1, 1) := by decide +kernel
theorem dX1_lift_2 : decode cX1_lift 2 = .ok (.invokevirtual 54, 3) := by decide +kernel
theorem dX1_lift_5 : decode cX1_lift 5 = .ok (.ifCond .eq 30, 3) := by decide +kernel
theorem dX1_lift_8 : decode cX1_lift 8 = .ok (.iload_n 2, 1) := by decide +kernel
theorem dX1_lift_9 : decode cX1_lift 9 = .ok (.ifCond .lt 26, 3) := by decide +kernel
theorem dX1_lift_12 : decode cX1_lift 12 = .ok (.iload_n 2, 1) := by decide +kernel
theorem dX1_lift_13 : decode cX1_lift 13 = .ok (.bipush 6, 2) := by decide +kernel
theorem dX1_lift_15 : decode cX1_lift 15 = .ok (.if_icmp .ge 20, 3) := by decide +kernel
theorem dX1_lift_18 : decode cX1_lift 18 = .ok (.aload_n 0, 1) := by decide +kernel
theorem dX1_lift_19 : decode cX1_lift 19 = .ok (.getfield 11, 3) := by decide +kernel
theorem dX1_lift_22 : decode cX1_lift 22 = .ok (.iload_n 1, 1) := by decide +kernel
theorem dX1_lift_23 : decode cX1_lift 23 = .ok (.aaload, 1) := by decide +kernel
theorem dX1_lift_24 : decode cX1_lift 24 = .ok (.iconst (-1), 1) := by decide +kernel
theorem dX1_lift_25 : decode cX1_lift 25 = .ok (.putfield 58, 3) := by decide +kernel
theorem dX1_lift_28 : decode cX1_lift 28 = .ok (.aload_n 0, 1) := by decide +kernel
theorem dX1_lift_29 : decode cX1_lift 29 = .ok (.getfield 18, 3) := by decide +kernel
theorem dX1_lift_32 : decode cX1_lift 32 = .ok (.iload_n 2, 1) := by decide +kernel
theorem dX1_lift_33 : decode cX1_lift 33 = .ok (.iconst (-1), 1) := by decide +kernel
theorem dX1_lift_34 : decode cX1_lift 34 = .ok (.iastore, 1) := by decide +kernel
theorem dX1_lift_35 : decode cX1_lift 35 = .ok (.return_, 1) := by decide +kernel
set_option maxRecDepth 20000 in
theorem ggX1_trade_X1_put : GoodIn wsX1_trade wsX1_put := goodIn_r _ [6, 7, 8, 1, 9, 10, 11, 5, 12, 13, 14, 15, 16, 17, 18, 19, 20, 21, 22, 23, 24, 25, 26] (by decide +kernel) (by decide +kernel)
set_option maxRecDepth 20000 in
theorem gX1_trade_X1_put : GoodIn wsX1_trade (wsV RX1 86 RX1 yX1_put wsX1_put) := goodIn_app (goodIn_of _ (by decide +kernel)) ggX1_trade_X1_put
theorem dX1_trade_0 : decode cX1_trade 0 = .ok (.iload_n 1, 1) := by decide +kernel
theorem dX1_trade_1 : decode cX1_trade 1 = .ok (.ifCond .lt 19, 3) := by decide +kernel
theorem dX1_trade_4 : decode cX1_trade 4 = .ok (.iload_n 1, 1) := by decide +kernel
theorem dX1_trade_5 : decode cX1_trade 5 = .ok (.bipush 6, 2) := by decide +kernel
theorem dX1_trade_7 : decode cX1_trade 7 = .ok (.if_icmp .ge 13, 3) := by decide +kernel
theorem dX1_trade_10 : decode cX1_trade 10 = .ok (.iload_n 2, 1) := by decide +kernel
theorem dX1_trade_11 : decode cX1_trade 11 = .ok (.ifCond .lt 9, 3) := by decide +kernel
theorem dX1_trade_14 : decode cX1_trade 14 = .ok (.iload_n 2, 1) := by decide +kernel
theorem dX1_trade_15 : decode cX1_trade 15 = .ok (.bipush 6, 2) := by decide +kernel
theorem dX1_trade_17 : decode cX1_trade 17 = .ok (.if_icmp .lt 4, 3) := by decide +kernel
theorem dX1_trade_20 : decode cX1_trade 20 = .ok (.return_, 1) := by decide +kernel
theorem dX1_trade_21 : decode cX1_trade 21 = .ok (.aload_n 0, 1) := by decide +kernel
theorem dX1_trade_22 : decode cX1_trade 22 = .ok (.getfield 18, 3) := by decide +kernel
theorem dX1_trade_25 : decode cX1_trade 25 = .ok (.iload_n 1, 1) := by decide +kernel
theorem dX1_trade_26 : decode cX1_trade 26 = .ok (.iaload, 1) := by decide +kernel
theorem dX1_trade_27 : decode cX1_trade 27 = .ok (.istore_n 3, 1) := by decide +kernel
theorem dX1_trade_28 : decode cX1_trade 28 = .ok (.aload_n 0, 1) := by decide +kernel
theorem dX1_trade_29 : decode cX1_trade 29 = .ok (.aload_n 0, 1) := by decide +kernel
theorem dX1_trade_30 : decode cX1_trade 30 = .ok (.getfield 18, 3) := by decide +kernel
theorem dX1_trade_33 : decode cX1_trade 33 = .ok (.iload_n 2, 1) := by decide +kernel
theorem dX1_trade_34 : decode cX1_trade 34 = .ok (.iaload, 1) := by decide +kernel
theorem dX1_trade_35 : decode cX1_trade 35 = .ok (.iload_n 1, 1) := by decide +kernel
theorem dX1_trade_36 : decode cX1_trade 36 = .ok (.invokevirtual 86, 3) := by decide +kernel
theorem dX1_trade_39 : decode cX1_trade 39 = .ok (.aload_n 0, 1) := by decide +kernel
theorem dX1_trade_40 : decode cX1_trade 40 = .ok (.iload_n 3, 1) := by decide +kernel
theorem dX1_trade_41 : decode cX1_trade 41 = .ok (.iload_n 2, 1) := by decide +kernel
theorem dX1_trade_42 : decode cX1_trade 42 = .ok (.invokevirtual 86, 3) := by decide +kernel
theorem dX1_trade_45 : decode cX1_trade 45 = .ok (.return_, 1) := by decide +kernel
theorem dX1_platesFilled_0 : decode cX1_platesFilled 0 = .ok (.iconst 0, 1) := by decide +kernel
theorem dX1_platesFilled_1 : decode cX1_platesFilled 1 = .ok (.istore_n 1, 1) := by decide +kernel
theorem dX1_platesFilled_2 : decode cX1_platesFilled 2 = .ok (.iconst 0, 1) := by decide +kernel
theorem dX1_platesFilled_3 : decode cX1_platesFilled 3 = .ok (.istore_n 2, 1) := by decide +kernel
theorem dX1_platesFilled_4 : decode cX1_platesFilled 4 = .ok (.iload_n 2, 1) := by decide +kernel
theorem dX1_platesFilled_5 : decode cX1_platesFilled 5 = .ok (.bipush 6, 2) := by decide +kernel
theorem dX1_platesFilled_7 : decode cX1_platesFilled 7 = .ok (.if_icmp .ge 22, 3) := by decide +kernel
theorem dX1_platesFilled_10 : decode cX1_platesFilled 10 = .ok (.aload_n 0, 1) := by decide +kernel
theorem dX1_platesFilled_11 : decode cX1_platesFilled 11 = .ok (.getfield 18, 3) := by decide +kernel
theorem dX1_platesFilled_14 : decode cX1_platesFilled 14 = .ok (.iload_n 2, 1) := by decide +kernel
theorem dX1_platesFilled_15 : decode cX1_platesFilled 15 = .ok (.iaload, 1) := by decide +kernel
theorem dX1_platesFilled_16 : decode cX1_platesFilled 16 = .ok (.iconst (-1), 1) := by decide +kernel
theorem dX1_platesFilled_17 : decode cX1_platesFilled 17 = .ok (.if_icmp .eq 6, 3) := by decide +kernel
theorem dX1_platesFilled_20 : decode cX1_platesFilled 20 = .ok (.iinc 1 1, 3) := by decide +kernel
theorem dX1_platesFilled_23 : decode cX1_platesFilled 23 = .ok (.iinc 2 1, 3) := by decide +kernel
theorem dX1_platesFilled_26 : decode cX1_platesFilled 26 = .ok (.goto (-22), 3) := by decide +kernel
theorem dX1_platesFilled_29 : decode cX1_platesFilled 29 = .ok (.iload_n 1, 1) := by decide +kernel
theorem dX1_platesFilled_30 : decode cX1_platesFilled 30 = .ok (.ireturn, 1) := by decide +kernel
theorem dX1_brokenSet_0 : decode cX1_brokenSet 0 = .ok (.iconst 0, 1) := by decide +kernel
theorem dX1_brokenSet_1 : decode cX1_brokenSet 1 = .ok (.istore_n 1, 1) := by decide +kernel
theorem dX1_brokenSet_2 : decode cX1_brokenSet 2 = .ok (.iconst 0, 1) := by decide +kernel
theorem dX1_brokenSet_3 : decode cX1_brokenSet 3 = .ok (.istore_n 2, 1) := by decide +kernel
theorem dX1_brokenSet_4 : decode cX1_brokenSet 4 = .ok (.iload_n 2, 1) := by decide +kernel
theorem dX1_brokenSet_5 : decode cX1_brokenSet 5 = .ok (.aload_n 0, 1) := by decide +kernel
theorem dX1_brokenSet_6 : decode cX1_brokenSet 6 = .ok (.getfield 38, 3) := by decide +kernel
theorem dX1_brokenSet_9 : decode cX1_brokenSet 9 = .ok (.if_icmp .ge 27, 3) := by decide +kernel
theorem dX1_brokenSet_12 : decode cX1_brokenSet 12 = .ok (.aload_n 0, 1) := by decide +kernel
theorem dX1_brokenSet_13 : decode cX1_brokenSet 13 = .ok (.getfield 11, 3) := by decide +kernel
theorem dX1_brokenSet_16 : decode cX1_brokenSet 16 = .ok (.iload_n 2, 1) := by decide +kernel
theorem dX1_brokenSet_17 : decode cX1_brokenSet 17 = .ok (.aaload, 1) := by decide +kernel
theorem dX1_brokenSet_18 : decode cX1_brokenSet 18 = .ok (.getfield 79, 3) := by decide +kernel
theorem dX1_brokenSet_21 : decode cX1_brokenSet 21 = .ok (.ifCond .eq 9, 3) := by decide +kernel
theorem dX1_brokenSet_24 : decode cX1_brokenSet 24 = .ok (.iload_n 1, 1) := by decide +kernel
theorem dX1_brokenSet_25 : decode cX1_brokenSet 25 = .ok (.iconst 1, 1) := by decide +kernel
theorem dX1_brokenSet_26 : decode cX1_brokenSet 26 = .ok (.iload_n 2, 1) := by decide +kernel
theorem dX1_brokenSet_27 : decode cX1_brokenSet 27 = .ok (.ishl, 1) := by decide +kernel
theorem dX1_brokenSet_28 : decode cX1_brokenSet 28 = .ok (.ior, 1) := by decide +kernel
theorem dX1_brokenSet_29 : decode cX1_brokenSet 29 = .ok (.istore_n 1, 1) := by decide +kernel
theorem dX1_brokenSet_30 : decode cX1_brokenSet 30 = .ok (.iinc 2 1, 3) := by decide +kernel
theorem dX1_brokenSet_33 : decode cX1_brokenSet 33 = .ok (.goto (-29), 3) := by decide +kernel
theorem dX1_brokenSet_36 : decode cX1_brokenSet 36 = .ok (.iload_n 1, 1) := by decide +kernel
theorem dX1_brokenSet_37 : decode cX1_brokenSet 37 = .ok (.ireturn, 1) := by decide +kernel
set_option maxRecDepth 20000 in
theorem ggX2_init_X2_clear : GoodIn wsX2_init wsX2_clear := goodIn_r _ [11, 12, 13, 14, 15, 16, 17, 10, 18, 5, 19, 20, 21, 22, 23] (by decide +kernel) (by decide +kernel)
set_option maxRecDepth 20000 in
theorem gX2_init_X2_clear : GoodIn wsX2_init (wsV RX2 16 RX2 yX2_clear wsX2_clear) := goodIn_app (goodIn_of _ (by decide +kernel)) ggX2_init_X2_clear
theorem dX2_init_0 : decode cX2_init 0 = .ok (.aload_n 0, 1) := by decide +kernel
theorem dX2_init_1 : decode cX2_init 1 = .ok (.invokespecial 1, 3) := by decide +kernel
theorem dX2_init_4 : decode cX2_init 4 = .ok (.aload_n 0, 1) := by decide +kernel
theorem dX2_init_5 : decode cX2_init 5 = .ok (.sipush 272, 3) := by decide +kernel
theorem dX2_init_8 : decode cX2_init 8 = .ok (.newarray .int, 2) := by decide +kernel
theorem dX2_init_10 : decode cX2_init 10 = .ok (.putfield 9, 3) := by decide +kernel
theorem dX2_init_13 : decode cX2_init 13 = .ok (.aload_n 0, 1) := by decide +kernel
theorem dX2_init_14 : decode cX2_init 14 = .ok (.bipush 32, 2) := by decide +kernel
theorem dX2_init_16 : decode cX2_init 16 = .ok (.newarray .int, 2) := by decide +kernel
theorem dX2_init_18 : decode cX2_init 18 = .ok (.putfield 13, 3) := by decide +kernel
theorem dX2_init_21 : decode cX2_init 21 = .ok (.aload_n 0, 1) := by decide +kernel
theorem dX2_init_22 : decode cX2_init 22 = .ok (.iload_n 1, 1) := by decide +kernel
theorem dX2_init_23 : decode cX2_init 23 = .ok (.invokevirtual 16, 3) := by decide +kernel
theorem dX2_init_26 : decode cX2_init 26 = .ok (.return_, 1) := by decide +kernel
set_option maxRecDepth 20000 in
theorem ggX2_clear_X2_add : GoodIn wsX2_clear wsX2_add := goodIn_r _ [8, 1, 9, 10, 11, 12, 13, 14] (by decide +kernel) (by decide +kernel)
set_option maxRecDepth 20000 in
theorem gX2_clear_X2_add : GoodIn wsX2_clear (wsV RX2 31 RX2 yX2_add wsX2_add) := goodIn_app (goodIn_of _ (by decide +kernel)) ggX2_clear_X2_add
theorem dX2_clear_0 : decode cX2_clear 0 = .ok (.aload_n 0, 1) := by decide +kernel
theorem dX2_clear_1 : decode cX2_clear 1 = .ok (.iconst 0, 1) := by decide +kernel
theorem dX2_clear_2 : decode cX2_clear 2 = .ok (.putfield 20, 3) := by decide +kernel
theorem dX2_clear_5 : decode cX2_clear 5 = .ok (.aload_n 0, 1) := by decide +kernel
theorem dX2_clear_6 : decode cX2_clear 6 = .ok (.iconst 0, 1) := by decide +kernel
theorem dX2_clear_7 : decode cX2_clear 7 = .ok (.putfield 24, 3) := by decide +kernel
theorem dX2_clear_10 : decode cX2_clear 10 = .ok (.aload_n 0, 1) := by decide +kernel
theorem dX2_clear_11 : decode cX2_clear 11 = .ok (.iconst 0, 1) := by decide +kernel
theorem dX2_clear_12 : decode cX2_clear 12 = .ok (.putfield 27, 3) := by decide +kernel
theorem dX2_clear_15 : decode cX2_clear 15 = .ok (.aload_n 0, 1) := by decide +kernel
theorem dX2_clear_16 : decode cX2_clear 16 = .ok (.iload_n 1, 1) := by decide +kernel
theorem dX2_clear_17 : decode cX2_clear 17 = .ok (.iconst 0, 1) := by decide +kernel
theorem dX2_clear_18 : decode cX2_clear 18 = .ok (.invokevirtual 31, 3) := by decide +kernel
theorem dX2_clear_21 : decode cX2_clear 21 = .ok (.return_, 1) := by decide +kernel
theorem dX2_begin_0 : decode cX2_begin 0 = .ok (.aload_n 0, 1) := by decide +kernel
theorem dX2_begin_1 : decode cX2_begin 1 = .ok (.iconst 0, 1) := by decide +kernel
theorem dX2_begin_2 : decode cX2_begin 2 = .ok (.putfield 20, 3) := by decide +kernel
theorem dX2_begin_5 : decode cX2_begin 5 = .ok (.aload_n 0, 1) := by decide +kernel
theorem dX2_begin_6 : decode cX2_begin 6 = .ok (.iconst 1, 1) := by decide +kernel
theorem dX2_begin_7 : decode cX2_begin 7 = .ok (.putfield 27, 3) := by decide +kernel
theorem dX2_begin_10 : decode cX2_begin 10 = .ok (.return_, 1) := by decide +kernel
theorem dX2_takeFrom_0 : decode cX2_takeFrom 0 = .ok (.iconst 0, 1) := by decide +kernel
theorem dX2_takeFrom_1 : decode cX2_takeFrom 1 = .ok (.istore_n 2, 1) := by decide +kernel
theorem dX2_takeFrom_2 : decode cX2_takeFrom 2 = .ok (.iload_n 2, 1) := by decide +kernel
theorem dX2_takeFrom_3 : decode cX2_takeFrom 3 = .ok (.aload_n 1, 1) := by decide +kernel
theorem dX2_takeFrom_4 : decode cX2_takeFrom 4 = .ok (.getfield 20, 3) := by decide +kernel
theorem dX2_takeFrom_7 : decode cX2_takeFrom 7 = .ok (.if_icmp .ge 21, 3) := by decide +kernel
theorem dX2_takeFrom_10 : decode cX2_takeFrom 10 = .ok (.aload_n 0, 1) := by decide +kernel
theorem dX2_takeFrom_11 : decode cX2_takeFrom 11 = .ok (.getfield 9, 3) := by decide +kernel
theorem dX2_takeFrom_14 : decode cX2_takeFrom 14 = .ok (.iload_n 2, 1) := by decide +kernel
theorem dX2_takeFrom_15 : decode cX2_takeFrom 15 = .ok (.aload_n 1, 1) := by decide +kernel
theorem dX2_takeFrom_16 : decode cX2_takeFrom 16 = .ok (.getfield 9, 3) := by decide +kernel
theorem dX2_takeFrom_19 : decode cX2_takeFrom 19 = .ok (.iload_n 2, 1) := by decide +kernel
theorem dX2_takeFrom_20 : decode cX2_takeFrom 20 = .ok (.iaload, 1) := by decide +kernel
theorem dX2_takeFrom_21 : decode cX2_takeFrom 21 = .ok (.iastore, 1) := by decide +kernel
theorem dX2_takeFrom_22 : decode cX2_takeFrom 22 = .ok (.iinc 2 1, 3) := by decide +kernel
theorem dX2_takeFrom_25 : decode cX2_takeFrom 25 = .ok (.goto (-23), 3) := by decide +kernel
theorem dX2_takeFrom_28 : decode cX2_takeFrom 28 = .ok (.aload_n 0, 1) := by decide +kernel
theorem dX2_takeFrom_29 : decode cX2_takeFrom 29 = .ok (.aload_n 1, 1) := by decide +kernel
theorem dX2_takeFrom_30 : decode cX2_takeFrom 30 = .ok (.getfield 20, 3) := by decide +kernel
theorem dX2_takeFrom_33 : decode cX2_takeFrom 33 = .ok (.putfield 20, 3) := by decide +kernel
theorem dX2_takeFrom_36 : decode cX2_takeFrom 36 = .ok (.aload_n 0, 1) := by decide +kernel
theorem dX2_takeFrom_37 : decode cX2_takeFrom 37 = .ok (.aload_n 1, 1) := by decide +kernel
theorem dX2_takeFrom_38 : decode cX2_takeFrom 38 = .ok (.getfield 24, 3) := by decide +kernel
theorem dX2_takeFrom_41 : decode cX2_takeFrom 41 = .ok (.putfield 24, 3) := by decide +kernel
theorem dX2_takeFrom_44 : decode cX2_takeFrom 44 = .ok (.aload_n 0, 1) := by decide +kernel
theorem dX2_takeFrom_45 : decode cX2_takeFrom 45 = .ok (.aload_n 1, 1) := by decide +kernel
theorem dX2_takeFrom_46 : decode cX2_takeFrom 46 = .ok (.getfield 27, 3) := by decide +kernel
theorem dX2_takeFrom_49 : decode cX2_takeFrom 49 = .ok (.putfield 27, 3) := by decide +kernel
theorem dX2_takeFrom_52 : decode cX2_takeFrom 52 = .ok (.return_, 1) := by decide +kernel
theorem dX2_countUnit_0 : decode cX2_countUnit 0 = .ok (.aload_n 0, 1) := by decide +kernel
theorem dX2_countUnit_1 : decode cX2_countUnit 1 = .ok (.getfield 24, 3) := by decide +kernel
theorem dX2_countUnit_4 : decode cX2_countUnit 4 = .ok (.bipush 30, 2) := by decide +kernel
theorem dX2_countUnit_6 : decode cX2_countUnit 6 = .ok (.if_icmp .lt 5, 3) := by decide +kernel
theorem dX2_countUnit_9 : decode cX2_countUnit 9 = .ok (.iconst 0, 1) := by decide +kernel
theorem dX2_countUnit_10 : decode cX2_countUnit 10 = .ok (.ireturn, 1) := by decide +kernel
theorem dX2_countUnit_11 : decode cX2_countUnit 11 = .ok (.aload_n 0, 1) := by decide +kernel
theorem dX2_countUnit_12 : decode cX2_countUnit 12 = .ok (.dup, 1) := by decide +kernel
theorem dX2_countUnit_13 : decode cX2_countUnit 13 = .ok (.getfield 24, 3) := by decide +kernel
theorem dX2_countUnit_16 : decode cX2_countUnit 16 = .ok (.iconst 1, 1) := by decide +kernel
theorem dX2_countUnit_17 : decode cX2_countUnit 17 = .ok (.iadd, 1) := by decide +kernel
theorem dX2_countUnit_18 : decode cX2_countUnit 18 = .ok (.putfield 24, 3) := by decide +kernel
theorem dX2_countUnit_21 : decode cX2_countUnit 21 = .ok (.iconst 1, 1) := by decide +kernel
theorem dX2_countUnit_22 : decode cX2_countUnit 22 = .ok (.ireturn, 1) := by decide +kernel
theorem dX2_add_0 : decode cX2_add 0 = .ok (.aload_n 0, 1) := by decide +kernel
theorem dX2_add_1 : decode cX2_add 1 = .ok (.getfield 20, 3) := by decide +kernel
theorem dX2_add_4 : decode cX2_add 4 = .ok (.aload_n 0, 1) := by decide +kernel
theorem dX2_add_5 : decode cX2_add 5 = .ok (.getfield 9, 3) := by decide +kernel
theorem dX2_add_8 : decode cX2_add 8 = .ok (.arraylength, 1) := by decide +kernel
theorem dX2_add_9 : decode cX2_add 9 = .ok (.if_icmp .ge 27, 3) := by decide +kernel
theorem dX2_add_12 : decode cX2_add 12 = .ok (.aload_n 0, 1) := by decide +kernel
theorem dX2_add_13 : decode cX2_add 13 = .ok (.getfield 9, 3) := by decide +kernel
theorem dX2_add_16 : decode cX2_add 16 = .ok (.aload_n 0, 1) := by decide +kernel
theorem dX2_add_17 : decode cX2_add 17 = .ok (.getfield 20, 3) := by decide +kernel
theorem dX2_add_20 : decode cX2_add 20 = .ok (.iload_n 2, 1) := by decide +kernel
theorem dX2_add_21 : decode cX2_add 21 = .ok (.iconst 5, 1) := by decide +kernel
theorem dX2_add_22 : decode cX2_add 22 = .ok (.ishl, 1) := by decide +kernel
theorem dX2_add_23 : decode cX2_add 23 = .ok (.iload_n 1, 1) := by decide +kernel
theorem dX2_add_24 : decode cX2_add 24 = .ok (.ior, 1) := by decide +kernel
theorem dX2_add_25 : decode cX2_add 25 = .ok (.iastore, 1) := by decide +kernel
theorem dX2_add_26 : decode cX2_add 26 = .ok (.aload_n 0, 1) := by decide +kernel
theorem dX2_add_27 : decode cX2_add 27 = .ok (.dup, 1) := by decide +kernel
theorem dX2_add_28 : decode cX2_add 28 = .ok (.getfield 20, 3) := by decide +kernel
theorem dX2_add_31 : decode cX2_add 31 = .ok (.iconst 1, 1) := by decide +kernel
theorem dX2_add_32 : decode cX2_add 32 = .ok (.iadd, 1) := by decide +kernel
theorem dX2_add_33 : decode cX2_add 33 = .ok (.putfield 20, 3) := by decide +kernel
theorem dX2_add_36 : decode cX2_add 36 = .ok (.return_, 1) := by decide +kernel
set_option maxRecDepth 20000 in
theorem ggX2_outcome_X2_truth : GoodIn wsX2_outcome wsX2_truth := goodIn_r _ [7] (by decide +kernel) (by decide +kernel)
set_option maxRecDepth 20000 in
theorem gX2_outcome_X2_truth : GoodIn wsX2_outcome (va_wsS RX2 35 yX2_truth wsX2_truth) := goodIn_app (goodIn_of _ (by decide +kernel)) ggX2_outcome_X2_truth
set_option maxRecDepth 20000 in
theorem ggX2_outcome_X2_joined : GoodIn wsX2_outcome wsX2_joined := goodIn_r _ [10, 4, 5, 6, 7] (by decide +kernel) (by decide +kernel)
set_option maxRecDepth 20000 in
theorem gX2_outcome_X2_joined : GoodIn wsX2_outcome (va_wsS RX2 39 yX2_joined wsX2_joined) := goodIn_app (goodIn_of _ (by decide +kernel)) ggX2_outcome_X2_joined
theorem dX2_outcome_0 : decode cX2_outcome 0 = .ok (.iconst 0, 1) := by decide +kernel
theorem dX2_outcome_1 : decode cX2_outcome 1 = .ok (.istore_n 2, 1) := by decide +kernel
theorem dX2_outcome_2 : decode cX2_outcome 2 = .ok (.iconst 0, 1) := by decide +kernel
theorem dX2_outcome_3 : decode cX2_outcome 3 = .ok (.istore_n 3, 1) := by decide +kernel
theorem dX2_outcome_4 : decode cX2_outcome 4 = .ok (.iload_n 3, 1) := by decide +kernel
theorem dX2_outcome_5 : decode cX2_outcome 5 = .ok (.aload_n 0, 1) := by decide +kernel
theorem dX2_outcome_6 : decode cX2_outcome 6 = .ok (.getfield 20, 3) := by decide +kernel
theorem dX2_outcome_9 : decode cX2_outcome 9 = .ok (.if_icmp .ge 151, 3) := by decide +kernel
theorem dX2_outcome_12 : decode cX2_outcome 12 = .ok (.aload_n 0, 1) := by decide +kernel
theorem dX2_outcome_13 : decode cX2_outcome 13 = .ok (.getfield 9, 3) := by decide +kernel
theorem dX2_outcome_16 : decode cX2_outcome 16 = .ok (.iload_n 3, 1) := by decide +kernel
theorem dX2_outcome_17 : decode cX2_outcome 17 = .ok (.iaload, 1) := by decide +kernel
theorem dX2_outcome_18 : decode cX2_outcome 18 = .ok (.bipush 31, 2) := by decide +kernel
theorem dX2_outcome_20 : decode cX2_outcome 20 = .ok (.iand, 1) := by decide +kernel
theorem dX2_outcome_21 : decode cX2_outcome 21 = .ok (.istore 4, 2) := by decide +kernel
theorem dX2_outcome_23 : decode cX2_outcome 23 = .ok (.iload 4, 2) := by decide +kernel
theorem dX2_outcome_25 : decode cX2_outcome 25 = .ok (.bipush 7, 2) := by decide +kernel
theorem dX2_outcome_27 : decode cX2_outcome 27 = .ok (.if_icmp .ge 51, 3) := by decide +kernel
theorem dX2_outcome_30 : decode cX2_outcome 30 = .ok (.iload_n 2, 1) := by decide +kernel
theorem dX2_outcome_31 : decode cX2_outcome 31 = .ok (.aload_n 0, 1) := by decide +kernel
theorem dX2_outcome_32 : decode cX2_outcome 32 = .ok (.getfield 13, 3) := by decide +kernel
theorem dX2_outcome_35 : decode cX2_outcome 35 = .ok (.arraylength, 1) := by decide +kernel
theorem dX2_outcome_36 : decode cX2_outcome 36 = .ok (.if_icmp .ge 118, 3) := by decide +kernel
theorem dX2_outcome_39 : decode cX2_outcome 39 = .ok (.iload 4, 2) := by decide +kernel
theorem dX2_outcome_41 : decode cX2_outcome 41 = .ok (.aload_n 1, 1) := by decide +kernel
theorem dX2_outcome_42 : decode cX2_outcome 42 = .ok (.arraylength, 1) := by decide +kernel
theorem dX2_outcome_43 : decode cX2_outcome 43 = .ok (.if_icmp .ge 111, 3) := by decide +kernel
theorem dX2_outcome_46 : decode cX2_outcome 46 = .ok (.aload_n 0, 1) := by decide +kernel
theorem dX2_outcome_47 : decode cX2_outcome 47 = .ok (.getfield 13, 3) := by decide +kernel
theorem dX2_outcome_50 : decode cX2_outcome 50 = .ok (.iload_n 2, 1) := by decide +kernel
theorem dX2_outcome_51 : decode cX2_outcome 51 = .ok (.iload 4, 2) := by decide +kernel
theorem dX2_outcome_53 : decode cX2_outcome 53 = .ok (.ifCond .ne 14, 3) := by decide +kernel
theorem dX2_outcome_56 : decode cX2_outcome 56 = .ok (.aload_n 0, 1) := by decide +kernel
theorem dX2_outcome_57 : decode cX2_outcome 57 = .ok (.getfield 9, 3) := by decide +kernel
theorem dX2_outcome_60 : decode cX2_outcome 60 = .ok (.iload_n 3, 1) := by decide +kernel
theorem dX2_outcome_61 : decode cX2_outcome 61 = .ok (.iaload, 1) := by decide +kernel
theorem dX2_outcome_62 : decode cX2_outcome 62 = .ok (.iconst 5, 1) := by decide +kernel
theorem dX2_outcome_63 : decode cX2_outcome 63 = .ok (.ishr, 1) := by decide +kernel
theorem dX2_outcome_64 : decode cX2_outcome 64 = .ok (.goto 7, 3) := by decide +kernel
theorem dX2_outcome_67 : decode cX2_outcome 67 = .ok (.aload_n 1, 1) := by decide +kernel
theorem dX2_outcome_68 : decode cX2_outcome 68 = .ok (.iload 4, 2) := by decide +kernel
theorem dX2_outcome_70 : decode cX2_outcome 70 = .ok (.iaload, 1) := by decide +kernel
theorem dX2_outcome_71 : decode cX2_outcome 71 = .ok (.iastore, 1) := by decide +kernel
theorem dX2_outcome_72 : decode cX2_outcome 72 = .ok (.iinc 2 1, 3) := by decide +kernel
theorem dX2_outcome_75 : decode cX2_outcome 75 = .ok (.goto 79, 3) := by decide +kernel
theorem dX2_outcome_78 : decode cX2_outcome 78 = .ok (.iload 4, 2) := by decide +kernel
theorem dX2_outcome_80 : decode cX2_outcome 80 = .ok (.bipush 7, 2) := by decide +kernel
theorem dX2_outcome_82 : decode cX2_outcome 82 = .ok (.if_icmp .ne 37, 3) := by decide +kernel
theorem dX2_outcome_85 : decode cX2_outcome 85 = .ok (.iload_n 2, 1) := by decide +kernel
theorem dX2_outcome_86 : decode cX2_outcome 86 = .ok (.ifCond .le 68, 3) := by decide +kernel
theorem dX2_outcome_89 : decode cX2_outcome 89 = .ok (.aload_n 0, 1) := by decide +kernel
theorem dX2_outcome_90 : decode cX2_outcome 90 = .ok (.getfield 13, 3) := by decide +kernel
theorem dX2_outcome_93 : decode cX2_outcome 93 = .ok (.iload_n 2, 1) := by decide +kernel
theorem dX2_outcome_94 : decode cX2_outcome 94 = .ok (.iconst 1, 1) := by decide +kernel
theorem dX2_outcome_95 : decode cX2_outcome 95 = .ok (.isub, 1) := by decide +kernel
theorem dX2_outcome_96 : decode cX2_outcome 96 = .ok (.aload_n 0, 1) := by decide +kernel
theorem dX2_outcome_97 : decode cX2_outcome 97 = .ok (.getfield 13, 3) := by decide +kernel
theorem dX2_outcome_100 : decode cX2_outcome 100 = .ok (.iload_n 2, 1) := by decide +kernel
theorem dX2_outcome_101 : decode cX2_outcome 101 = .ok (.iconst 1, 1) := by decide +kernel
theorem dX2_outcome_102 : decode cX2_outcome 102 = .ok (.isub, 1) := by decide +kernel
theorem dX2_outcome_103 : decode cX2_outcome 103 = .ok (.iaload, 1) := by decide +kernel
theorem dX2_outcome_104 : decode cX2_outcome 104 = .ok (.ifCond .ne 7, 3) := by decide +kernel
theorem dX2_outcome_107 : decode cX2_outcome 107 = .ok (.iconst 1, 1) := by decide +kernel
theorem dX2_outcome_108 : decode cX2_outcome 108 = .ok (.goto 4, 3) := by decide +kernel
theorem dX2_outcome_111 : decode cX2_outcome 111 = .ok (.iconst 0, 1) := by decide +kernel
theorem dX2_outcome_112 : decode cX2_outcome 112 = .ok (.invokestatic 35, 3) := by decide +kernel
theorem dX2_outcome_115 : decode cX2_outcome 115 = .ok (.iastore, 1) := by decide +kernel
theorem dX2_outcome_116 : decode cX2_outcome 116 = .ok (.goto 38, 3) := by decide +kernel
theorem dX2_outcome_119 : decode cX2_outcome 119 = .ok (.iload_n 2, 1) := by decide +kernel
theorem dX2_outcome_120 : decode cX2_outcome 120 = .ok (.iconst 1, 1) := by decide +kernel
theorem dX2_outcome_121 : decode cX2_outcome 121 = .ok (.if_icmp .le 33, 3) := by decide +kernel
theorem dX2_outcome_124 : decode cX2_outcome 124 = .ok (.iinc 2 (-1), 3) := by decide +kernel
theorem dX2_outcome_127 : decode cX2_outcome 127 = .ok (.aload_n 0, 1) := by decide +kernel
theorem dX2_outcome_128 : decode cX2_outcome 128 = .ok (.getfield 13, 3) := by decide +kernel
theorem dX2_outcome_131 : decode cX2_outcome 131 = .ok (.iload_n 2, 1) := by decide +kernel
theorem dX2_outcome_132 : decode cX2_outcome 132 = .ok (.iconst 1, 1) := by decide +kernel
theorem dX2_outcome_133 : decode cX2_outcome 133 = .ok (.isub, 1) := by decide +kernel
theorem dX2_outcome_134 : decode cX2_outcome 134 = .ok (.iload 4, 2) := by decide +kernel
theorem dX2_outcome_136 : decode cX2_outcome 136 = .ok (.aload_n 0, 1) := by decide +kernel
theorem dX2_outcome_137 : decode cX2_outcome 137 = .ok (.getfield 13, 3) := by decide +kernel
theorem dX2_outcome_140 : decode cX2_outcome 140 = .ok (.iload_n 2, 1) := by decide +kernel
theorem dX2_outcome_141 : decode cX2_outcome 141 = .ok (.iconst 1, 1) := by decide +kernel
theorem dX2_outcome_142 : decode cX2_outcome 142 = .ok (.isub, 1) := by decide +kernel
theorem dX2_outcome_143 : decode cX2_outcome 143 = .ok (.iaload, 1) := by decide +kernel
theorem dX2_outcome_144 : decode cX2_outcome 144 = .ok (.aload_n 0, 1) := by decide +kernel
theorem dX2_outcome_145 : decode cX2_outcome 145 = .ok (.getfield 13, 3) := by decide +kernel
theorem dX2_outcome_148 : decode cX2_outcome 148 = .ok (.iload_n 2, 1) := by decide +kernel
theorem dX2_outcome_149 : decode cX2_outcome 149 = .ok (.iaload, 1) := by decide +kernel
theorem dX2_outcome_150 : decode cX2_outcome 150 = .ok (.invokestatic 39, 3) := by decide +kernel
theorem dX2_outcome_153 : decode cX2_outcome 153 = .ok (.iastore, 1) := by decide +kernel
theorem dX2_outcome_154 : decode cX2_outcome 154 = .ok (.iinc 3 1, 3) := by decide +kernel
theorem dX2_outcome_157 : decode cX2_outcome 157 = .ok (.goto (-153), 3) := by decide +kernel
theorem dX2_outcome_160 : decode cX2_outcome 160 = .ok (.iload_n 2, 1) := by decide +kernel
theorem dX2_outcome_161 : decode cX2_outcome 161 = .ok (.ifCond .le 12, 3) := by decide +kernel
theorem dX2_outcome_164 : decode cX2_outcome 164 = .ok (.aload_n 0, 1) := by decide +kernel
theorem dX2_outcome_165 : decode cX2_outcome 165 = .ok (.getfield 13, 3) := by decide +kernel
theorem dX2_outcome_168 : decode cX2_outcome 168 = .ok (.iconst 0, 1) := by decide +kernel
theorem dX2_outcome_169 : decode cX2_outcome 169 = .ok (.iaload, 1) := by decide +kernel
theorem dX2_outcome_170 : decode cX2_outcome 170 = .ok (.goto 4, 3) := by decide +kernel
theorem dX2_outcome_173 : decode cX2_outcome 173 = .ok (.iconst 0, 1) := by decide +kernel
theorem dX2_outcome_174 : decode cX2_outcome 174 = .ok (.ireturn, 1) := by decide +kernel
set_option maxRecDepth 20000 in
theorem ggX2_joined_X2_truth : GoodIn wsX2_joined wsX2_truth := goodIn_r _ [4] (by decide +kernel) (by decide +kernel)
set_option maxRecDepth 20000 in
theorem gX2_joined_X2_truth : GoodIn wsX2_joined (va_wsS RX2 35 yX2_truth wsX2_truth) := goodIn_app (goodIn_of _ (by decide +kernel)) ggX2_joined_X2_truth
theorem dX2_joined_0 : decode cX2_joined 0 = .ok (.iload_n 0, 1) := by decide +kernel
theorem dX2_joined_1 : decode cX2_joined 1 = .ok (.tableswitch 167 8 17 #[55, 72, 89, 103, 117, 131, 135, 139, 143, 155], 55) := by decide +kernel
theorem dX2_joined_56 : decode cX2_joined 56 = .ok (.iload_n 1, 1) := by decide +kernel
theorem dX2_joined_57 : decode cX2_joined 57 = .ok (.ifCond .ne 7, 3) := by decide +kernel
theorem dX2_joined_60 : decode cX2_joined 60 = .ok (.iload_n 2, 1) := by decide +kernel
theorem dX2_joined_61 : decode cX2_joined 61 = .ok (.ifCond .eq 7, 3) := by decide +kernel
theorem dX2_joined_64 : decode cX2_joined 64 = .ok (.iconst 1, 1) := by decide +kernel
theorem dX2_joined_65 : decode cX2_joined 65 = .ok (.goto 4, 3) := by decide +kernel
theorem dX2_joined_68 : decode cX2_joined 68 = .ok (.iconst 0, 1) := by decide +kernel
theorem dX2_joined_69 : decode cX2_joined 69 = .ok (.invokestatic 35, 3) := by decide +kernel
theorem dX2_joined_72 : decode cX2_joined 72 = .ok (.ireturn, 1) := by decide +kernel
theorem dX2_joined_73 : decode cX2_joined 73 = .ok (.iload_n 1, 1) := by decide +kernel
theorem dX2_joined_74 : decode cX2_joined 74 = .ok (.ifCond .eq 11, 3) := by decide +kernel
theorem dX2_joined_77 : decode cX2_joined 77 = .ok (.iload_n 2, 1) := by decide +kernel
theorem dX2_joined_78 : decode cX2_joined 78 = .ok (.ifCond .eq 7, 3) := by decide +kernel
theorem dX2_joined_81 : decode cX2_joined 81 = .ok (.iconst 1, 1) := by decide +kernel
theorem dX2_joined_82 : decode cX2_joined 82 = .ok (.goto 4, 3) := by decide +kernel
theorem dX2_joined_85 : decode cX2_joined 85 = .ok (.iconst 0, 1) := by decide +kernel
theorem dX2_joined_86 : decode cX2_joined 86 = .ok (.invokestatic 35, 3) := by decide +kernel
theorem dX2_joined_89 : decode cX2_joined 89 = .ok (.ireturn, 1) := by decide +kernel
theorem dX2_joined_90 : decode cX2_joined 90 = .ok (.iload_n 1, 1) := by decide +kernel
theorem dX2_joined_91 : decode cX2_joined 91 = .ok (.iload_n 2, 1) := by decide +kernel
theorem dX2_joined_92 : decode cX2_joined 92 = .ok (.if_icmp .ge 7, 3) := by decide +kernel
theorem dX2_joined_95 : decode cX2_joined 95 = .ok (.iconst 1, 1) := by decide +kernel
theorem dX2_joined_96 : decode cX2_joined 96 = .ok (.goto 4, 3) := by decide +kernel
theorem dX2_joined_99 : decode cX2_joined 99 = .ok (.iconst 0, 1) := by decide +kernel
theorem dX2_joined_100 : decode cX2_joined 100 = .ok (.invokestatic 35, 3) := by decide +kernel
theorem dX2_joined_103 : decode cX2_joined 103 = .ok (.ireturn, 1) := by decide +kernel
theorem dX2_joined_104 : decode cX2_joined 104 = .ok (.iload_n 1, 1) := by decide +kernel
theorem dX2_joined_105 : decode cX2_joined 105 = .ok (.iload_n 2, 1) := by decide +kernel
theorem dX2_joined_106 : decode cX2_joined 106 = .ok (.if_icmp .le 7, 3) := by decide +kernel
theorem dX2_joined_109 : decode cX2_joined 109 = .ok (.iconst 1, 1) := by decide +kernel
theorem dX2_joined_110 : decode cX2_joined 110 = .ok (.goto 4, 3) := by decide +kernel
theorem dX2_joined_113 : decode cX2_joined 113 = .ok (.iconst 0, 1) := by decide +kernel
theorem dX2_joined_114 : decode cX2_joined 114 = .ok (.invokestatic 35, 3) := by decide +kernel
theorem dX2_joined_117 : decode cX2_joined 117 = .ok (.ireturn, 1) := by decide +kernel
theorem dX2_joined_118 : decode cX2_joined 118 = .ok (.iload_n 1, 1) := by decide +kernel
theorem dX2_joined_119 : decode cX2_joined 119 = .ok (.iload_n 2, 1) := by decide +kernel
theorem dX2_joined_120 : decode cX2_joined 120 = .ok (.if_icmp .ne 7, 3) := by decide +kernel
theorem dX2_joined_123 : decode cX2_joined 123 = .ok (.iconst 1, 1) := by decide +kernel
theorem dX2_joined_124 : decode cX2_joined 124 = .ok (.goto 4, 3) := by decide +kernel
theorem dX2_joined_127 : decode cX2_joined 127 = .ok (.iconst 0, 1) := by decide +kernel
theorem dX2_joined_128 : decode cX2_joined 128 = .ok (.invokestatic 35, 3) := by decide +kernel
theorem dX2_joined_131 : decode cX2_joined 131 = .ok (.ireturn, 1) := by decide +kernel
theorem dX2_joined_132 : decode cX2_joined 132 = .ok (.iload_n 1, 1) := by decide +kernel
theorem dX2_joined_133 : decode cX2_joined 133 = .ok (.iload_n 2, 1) := by decide +kernel
theorem dX2_joined_134 : decode cX2_joined 134 = .ok (.iadd, 1) := by decide +kernel
theorem dX2_joined_135 : decode cX2_joined 135 = .ok (.ireturn, 1) := by decide +kernel
theorem dX2_joined_136 : decode cX2_joined 136 = .ok (.iload_n 1, 1) := by decide +kernel
theorem dX2_joined_137 : decode cX2_joined 137 = .ok (.iload_n 2, 1) := by decide +kernel
theorem dX2_joined_138 : decode cX2_joined 138 = .ok (.isub, 1) := by decide +kernel
theorem dX2_joined_139 : decode cX2_joined 139 = .ok (.ireturn, 1) := by decide +kernel
theorem dX2_joined_140 : decode cX2_joined 140 = .ok (.iload_n 1, 1) := by decide +kernel
theorem dX2_joined_141 : decode cX2_joined 141 = .ok (.iload_n 2, 1) := by decide +kernel
theorem dX2_joined_142 : decode cX2_joined 142 = .ok (.imul, 1) := by decide +kernel
theorem dX2_joined_143 : decode cX2_joined 143 = .ok (.ireturn, 1) := by decide +kernel
theorem dX2_joined_144 : decode cX2_joined 144 = .ok (.iload_n 2, 1) := by decide +kernel
theorem dX2_joined_145 : decode cX2_joined 145 = .ok (.ifCond .ne 7, 3) := by decide +kernel
theorem dX2_joined_148 : decode cX2_joined 148 = .ok (.iconst 0, 1) := by decide +kernel
theorem dX2_joined_149 : decode cX2_joined 149 = .ok (.goto 6, 3) := by decide +kernel
theorem dX2_joined_152 : decode cX2_joined 152 = .ok (.iload_n 1, 1) := by decide +kernel
theorem dX2_joined_153 : decode cX2_joined 153 = .ok (.iload_n 2, 1) := by decide +kernel
theorem dX2_joined_154 : decode cX2_joined 154 = .ok (.idiv, 1) := by decide +kernel
theorem dX2_joined_155 : decode cX2_joined 155 = .ok (.ireturn, 1) := by decide +kernel
theorem dX2_joined_156 : decode cX2_joined 156 = .ok (.iload_n 2, 1) := by decide +kernel
theorem dX2_joined_157 : decode cX2_joined 157 = .ok (.ifCond .ne 7, 3) := by decide +kernel
theorem dX2_joined_160 : decode cX2_joined 160 = .ok (.iconst 0, 1) := by decide +kernel
theorem dX2_joined_161 : decode cX2_joined 161 = .ok (.goto 6, 3) := by decide +kernel
theorem dX2_joined_164 : decode cX2_joined 164 = .ok (.iload_n 1, 1) := by decide +kernel
theorem dX2_joined_165 : decode cX2_joined 165 = .ok (.iload_n 2, 1) := by decide +kernel
theorem dX2_joined_166 : decode cX2_joined 166 = .ok (.irem, 1) := by decide +kernel
theorem dX2_joined_167 : decode cX2_joined 167 = .ok (.ireturn, 1) := by decide +kernel
theorem dX2_joined_168 : decode cX2_joined 168 = .ok (.iconst 0, 1) := by decide +kernel
theorem dX2_joined_169 : decode cX2_joined 169 = .ok (.ireturn, 1) := by decide +kernel
theorem dX2_truth_0 : decode cX2_truth 0 = .ok (.iload_n 0, 1) := by decide +kernel
theorem dX2_truth_1 : decode cX2_truth 1 = .ok (.ifCond .eq 7, 3) := by decide +kernel
theorem dX2_truth_4 : decode cX2_truth 4 = .ok (.iconst 1, 1) := by decide +kernel
theorem dX2_truth_5 : decode cX2_truth 5 = .ok (.goto 4, 3) := by decide +kernel
theorem dX2_truth_8 : decode cX2_truth 8 = .ok (.iconst 0, 1) := by decide +kernel
theorem dX2_truth_9 : decode cX2_truth 9 = .ok (.ireturn, 1) := by decide +kernel
theorem dX3_init_0 : decode cX3_init 0 = .ok (.aload_n 0, 1) := by decide +kernel
theorem dX3_init_1 : decode cX3_init 1 = .ok (.invokespecial 3, 3) := by decide +kernel
theorem dX3_init_4 : decode cX3_init 4 = .ok (.return_, 1) := by decide +kernel
set_option maxRecDepth 20000 in
theorem ggX3_search_X3_canBe : GoodIn wsX3_search wsX3_canBe := goodIn_r _ [9] (by decide +kernel) (by decide +kernel)
set_option maxRecDepth 20000 in
theorem gX3_search_X3_canBe : GoodIn wsX3_search (wsV RX3 9 RX3 yX3_canBe wsX3_canBe) := goodIn_app (goodIn_of _ (by decide +kernel)) ggX3_search_X3_canBe
set_option maxRecDepth 20000 in
theorem ggX3_search_X3_icingSet : GoodIn wsX3_search wsX3_icingSet := goodIn_r _ [13, 5, 6, 7, 8, 9] (by decide +kernel) (by decide +kernel)
set_option maxRecDepth 20000 in
theorem gX3_search_X3_icingSet : GoodIn wsX3_search (wsV RX3 15 RX3 yX3_icingSet wsX3_icingSet) := goodIn_app (goodIn_of _ (by decide +kernel)) ggX3_search_X3_icingSet
set_option maxRecDepth 20000 in
theorem ggX3_search_X3_spreadOf : GoodIn wsX3_search wsX3_spreadOf := goodIn_r _ [16] (by decide +kernel) (by decide +kernel)
set_option maxRecDepth 20000 in
theorem gX3_search_X3_spreadOf : GoodIn wsX3_search (va_wsS RX3 19 yX3_spreadOf wsX3_spreadOf) := goodIn_app (goodIn_of _ (by decide +kernel)) ggX3_search_X3_spreadOf
theorem dX3_search_0 : decode cX3_search 0 = .ok (.iconst 0, 1) := by decide +kernel
theorem dX3_search_1 : decode cX3_search 1 = .ok (.istore 4, 2) := by decide +kernel
theorem dX3_search_3 : decode cX3_search 3 = .ok (.iconst 1, 1) := by decide +kernel
theorem dX3_search_4 : decode cX3_search 4 = .ok (.istore 5, 2) := by decide +kernel
theorem dX3_search_6 : decode cX3_search 6 = .ok (.iload 5, 2) := by decide +kernel
theorem dX3_search_8 : decode cX3_search 8 = .ok (.iload_n 1, 1) := by decide +kernel
theorem dX3_search_9 : decode cX3_search 9 = .ok (.if_icmp .gt 126, 3) := by decide +kernel
theorem dX3_search_12 : decode cX3_search 12 = .ok (.iload 5, 2) := by decide +kernel
theorem dX3_search_14 : decode cX3_search 14 = .ok (.iload_n 3, 1) := by decide +kernel
theorem dX3_search_15 : decode cX3_search 15 = .ok (.if_icmp .gt 120, 3) := by decide +kernel
theorem dX3_search_18 : decode cX3_search 18 = .ok (.iload_n 3, 1) := by decide +kernel
theorem dX3_search_19 : decode cX3_search 19 = .ok (.iload 5, 2) := by decide +kernel
theorem dX3_search_21 : decode cX3_search 21 = .ok (.idiv, 1) := by decide +kernel
theorem dX3_search_22 : decode cX3_search 22 = .ok (.istore 6, 2) := by decide +kernel
theorem dX3_search_24 : decode cX3_search 24 = .ok (.iload 5, 2) := by decide +kernel
theorem dX3_search_26 : decode cX3_search 26 = .ok (.iload 6, 2) := by decide +kernel
theorem dX3_search_28 : decode cX3_search 28 = .ok (.imul, 1) := by decide +kernel
theorem dX3_search_29 : decode cX3_search 29 = .ok (.iload_n 3, 1) := by decide +kernel
theorem dX3_search_30 : decode cX3_search 30 = .ok (.if_icmp .ne 99, 3) := by decide +kernel
theorem dX3_search_33 : decode cX3_search 33 = .ok (.aload_n 0, 1) := by decide +kernel
theorem dX3_search_34 : decode cX3_search 34 = .ok (.iload_n 1, 1) := by decide +kernel
theorem dX3_search_35 : decode cX3_search 35 = .ok (.iload_n 2, 1) := by decide +kernel
theorem dX3_search_36 : decode cX3_search 36 = .ok (.iload 5, 2) := by decide +kernel
theorem dX3_search_38 : decode cX3_search 38 = .ok (.iload 6, 2) := by decide +kernel
theorem dX3_search_40 : decode cX3_search 40 = .ok (.invokevirtual 9, 3) := by decide +kernel
theorem dX3_search_43 : decode cX3_search 43 = .ok (.ifCond .eq 86, 3) := by decide +kernel
theorem dX3_search_46 : decode cX3_search 46 = .ok (.aload_n 0, 1) := by decide +kernel
theorem dX3_search_47 : decode cX3_search 47 = .ok (.iload_n 1, 1) := by decide +kernel
theorem dX3_search_48 : decode cX3_search 48 = .ok (.iload_n 2, 1) := by decide +kernel
theorem dX3_search_49 : decode cX3_search 49 = .ok (.iload 5, 2) := by decide +kernel
theorem dX3_search_51 : decode cX3_search 51 = .ok (.iload 6, 2) := by decide +kernel
theorem dX3_search_53 : decode cX3_search 53 = .ok (.invokevirtual 15, 3) := by decide +kernel
theorem dX3_search_56 : decode cX3_search 56 = .ok (.invokestatic 19, 3) := by decide +kernel
theorem dX3_search_59 : decode cX3_search 59 = .ok (.istore 7, 2) := by decide +kernel
theorem dX3_search_61 : decode cX3_search 61 = .ok (.iload 5, 2) := by decide +kernel
theorem dX3_search_63 : decode cX3_search 63 = .ok (.iload 6, 2) := by decide +kernel
theorem dX3_search_65 : decode cX3_search 65 = .ok (.iadd, 1) := by decide +kernel
theorem dX3_search_66 : decode cX3_search 66 = .ok (.iconst 2, 1) := by decide +kernel
theorem dX3_search_67 : decode cX3_search 67 = .ok (.isub, 1) := by decide +kernel
theorem dX3_search_68 : decode cX3_search 68 = .ok (.istore 8, 2) := by decide +kernel
theorem dX3_search_70 : decode cX3_search 70 = .ok (.iload 4, 2) := by decide +kernel
theorem dX3_search_72 : decode cX3_search 72 = .ok (.ifCond .eq 30, 3) := by decide +kernel
theorem dX3_search_75 : decode cX3_search 75 = .ok (.iload 8, 2) := by decide +kernel
theorem dX3_search_77 : decode cX3_search 77 = .ok (.aload_n 0, 1) := by decide +kernel
theorem dX3_search_78 : decode cX3_search 78 = .ok (.getfield 23, 3) := by decide +kernel
theorem dX3_search_81 : decode cX3_search 81 = .ok (.if_icmp .lt 21, 3) := by decide +kernel
theorem dX3_search_84 : decode cX3_search 84 = .ok (.iload 8, 2) := by decide +kernel
theorem dX3_search_86 : decode cX3_search 86 = .ok (.aload_n 0, 1) := by decide +kernel
theorem dX3_search_87 : decode cX3_search 87 = .ok (.getfield 23, 3) := by decide +kernel
theorem dX3_search_90 : decode cX3_search 90 = .ok (.if_icmp .ne 36, 3) := by decide +kernel
theorem dX3_search_93 : decode cX3_search 93 = .ok (.iload 7, 2) := by decide +kernel
theorem dX3_search_95 : decode cX3_search 95 = .ok (.aload_n 0, 1) := by decide +kernel
theorem dX3_search_96 : decode cX3_search 96 = .ok (.getfield 27, 3) := by decide +kernel
theorem dX3_search_99 : decode cX3_search 99 = .ok (.if_icmp .ge 27, 3) := by decide +kernel
theorem dX3_search_102 : decode cX3_search 102 = .ok (.aload_n 0, 1) := by decide +kernel
theorem dX3_search_103 : decode cX3_search 103 = .ok (.iload 5, 2) := by decide +kernel
theorem dX3_search_105 : decode cX3_search 105 = .ok (.putfield 30, 3) := by decide +kernel
theorem dX3_search_108 : decode cX3_search 108 = .ok (.aload_n 0, 1) := by decide +kernel
theorem dX3_search_109 : decode cX3_search 109 = .ok (.iload 6, 2) := by decide +kernel
theorem dX3_search_111 : decode cX3_search 111 = .ok (.putfield 33, 3) := by decide +kernel
theorem dX3_search_114 : decode cX3_search 114 = .ok (.aload_n 0, 1) := by decide +kernel
theorem dX3_search_115 : decode cX3_search 115 = .ok (.iload 8, 2) := by decide +kernel
theorem dX3_search_117 : decode cX3_search 117 = .ok (.putfield 23, 3) := by decide +kernel
theorem dX3_search_120 : decode cX3_search 120 = .ok (.aload_n 0, 1) := by decide +kernel
theorem dX3_search_121 : decode cX3_search 121 = .ok (.iload 7, 2) := by decide +kernel
theorem dX3_search_123 : decode cX3_search 123 = .ok (.putfield 27, 3) := by decide +kernel
theorem dX3_search_126 : decode cX3_search 126 = .ok (.iinc 4 1, 3) := by decide +kernel
theorem dX3_search_129 : decode cX3_search 129 = .ok (.iinc 5 1, 3) := by decide +kernel
theorem dX3_search_132 : decode cX3_search 132 = .ok (.goto (-126), 3) := by decide +kernel
theorem dX3_search_135 : decode cX3_search 135 = .ok (.iload 4, 2) := by decide +kernel
theorem dX3_search_137 : decode cX3_search 137 = .ok (.ireturn, 1) := by decide +kernel
theorem dX3_canBe_0 : decode cX3_canBe 0 = .ok (.iload_n 3, 1) := by decide +kernel
theorem dX3_canBe_1 : decode cX3_canBe 1 = .ok (.iconst 1, 1) := by decide +kernel
theorem dX3_canBe_2 : decode cX3_canBe 2 = .ok (.if_icmp .lt 37, 3) := by decide +kernel
theorem dX3_canBe_5 : decode cX3_canBe 5 = .ok (.iload 4, 2) := by decide +kernel
theorem dX3_canBe_7 : decode cX3_canBe 7 = .ok (.iconst 1, 1) := by decide +kernel
theorem dX3_canBe_8 : decode cX3_canBe 8 = .ok (.if_icmp .lt 31, 3) := by decide +kernel
theorem dX3_canBe_11 : decode cX3_canBe 11 = .ok (.iload_n 3, 1) := by decide +kernel
theorem dX3_canBe_12 : decode cX3_canBe 12 = .ok (.iload_n 1, 1) := by decide +kernel
theorem dX3_canBe_13 : decode cX3_canBe 13 = .ok (.if_icmp .gt 26, 3) := by decide +kernel
theorem dX3_canBe_16 : decode cX3_canBe 16 = .ok (.iload 4, 2) := by decide +kernel
theorem dX3_canBe_18 : decode cX3_canBe 18 = .ok (.iload_n 2, 1) := by decide +kernel
theorem dX3_canBe_19 : decode cX3_canBe 19 = .ok (.if_icmp .gt 20, 3) := by decide +kernel
theorem dX3_canBe_22 : decode cX3_canBe 22 = .ok (.iload_n 1, 1) := by decide +kernel
theorem dX3_canBe_23 : decode cX3_canBe 23 = .ok (.iload_n 3, 1) := by decide +kernel
theorem dX3_canBe_24 : decode cX3_canBe 24 = .ok (.irem, 1) := by decide +kernel
theorem dX3_canBe_25 : decode cX3_canBe 25 = .ok (.ifCond .ne 14, 3) := by decide +kernel
theorem dX3_canBe_28 : decode cX3_canBe 28 = .ok (.iload_n 2, 1) := by decide +kernel
theorem dX3_canBe_29 : decode cX3_canBe 29 = .ok (.iload 4, 2) := by decide +kernel
theorem dX3_canBe_31 : decode cX3_canBe 31 = .ok (.irem, 1) := by decide +kernel
theorem dX3_canBe_32 : decode cX3_canBe 32 = .ok (.ifCond .ne 7, 3) := by decide +kernel
theorem dX3_canBe_35 : decode cX3_canBe 35 = .ok (.iconst 1, 1) := by decide +kernel
theorem dX3_canBe_36 : decode cX3_canBe 36 = .ok (.goto 4, 3) := by decide +kernel
theorem dX3_canBe_39 : decode cX3_canBe 39 = .ok (.iconst 0, 1) := by decide +kernel
theorem dX3_canBe_40 : decode cX3_canBe 40 = .ok (.ireturn, 1) := by decide +kernel
set_option maxRecDepth 20000 in
theorem ggX3_icingSet_X3_canBe : GoodIn wsX3_icingSet wsX3_canBe := goodIn_r _ [5] (by decide +kernel) (by decide +kernel)
set_option maxRecDepth 20000 in
theorem gX3_icingSet_X3_canBe : GoodIn wsX3_icingSet (wsV RX3 9 RX3 yX3_canBe wsX3_canBe) := goodIn_app (goodIn_of _ (by decide +kernel)) ggX3_icingSet_X3_canBe
theorem dX3_icingSet_0 : decode cX3_icingSet 0 = .ok (.lconst 0, 1) := by decide +kernel
theorem dX3_icingSet_1 : decode cX3_icingSet 1 = .ok (.lstore 5, 2) := by decide +kernel
theorem dX3_icingSet_3 : decode cX3_icingSet 3 = .ok (.aload_n 0, 1) := by decide +kernel
theorem dX3_icingSet_4 : decode cX3_icingSet 4 = .ok (.iload_n 1, 1) := by decide +kernel
theorem dX3_icingSet_5 : decode cX3_icingSet 5 = .ok (.iload_n 2, 1) := by decide +kernel
theorem dX3_icingSet_6 : decode cX3_icingSet 6 = .ok (.iload_n 3, 1) := by decide +kernel
theorem dX3_icingSet_7 : decode cX3_icingSet 7 = .ok (.iload 4, 2) := by decide +kernel
theorem dX3_icingSet_9 : decode cX3_icingSet 9 = .ok (.invokevirtual 9, 3) := by decide +kernel
theorem dX3_icingSet_12 : decode cX3_icingSet 12 = .ok (.ifCond .ne 6, 3) := by decide +kernel
theorem dX3_icingSet_15 : decode cX3_icingSet 15 = .ok (.lload 5, 2) := by decide +kernel
theorem dX3_icingSet_17 : decode cX3_icingSet 17 = .ok (.lreturn, 1) := by decide +kernel
theorem dX3_icingSet_18 : decode cX3_icingSet 18 = .ok (.iload_n 1, 1) := by decide +kernel
theorem dX3_icingSet_19 : decode cX3_icingSet 19 = .ok (.iload_n 3, 1) := by decide +kernel
theorem dX3_icingSet_20 : decode cX3_icingSet 20 = .ok (.idiv, 1) := by decide +kernel
theorem dX3_icingSet_21 : decode cX3_icingSet 21 = .ok (.istore 7, 2) := by decide +kernel
theorem dX3_icingSet_23 : decode cX3_icingSet 23 = .ok (.iload_n 2, 1) := by decide +kernel
theorem dX3_icingSet_24 : decode cX3_icingSet 24 = .ok (.iload 4, 2) := by decide +kernel
theorem dX3_icingSet_26 : decode cX3_icingSet 26 = .ok (.idiv, 1) := by decide +kernel
theorem dX3_icingSet_27 : decode cX3_icingSet 27 = .ok (.istore 8, 2) := by decide +kernel
theorem dX3_icingSet_29 : decode cX3_icingSet 29 = .ok (.iconst 0, 1) := by decide +kernel
theorem dX3_icingSet_30 : decode cX3_icingSet 30 = .ok (.istore 9, 2) := by decide +kernel
theorem dX3_icingSet_32 : decode cX3_icingSet 32 = .ok (.iload 9, 2) := by decide +kernel
theorem dX3_icingSet_34 : decode cX3_icingSet 34 = .ok (.iload_n 3, 1) := by decide +kernel
theorem dX3_icingSet_35 : decode cX3_icingSet 35 = .ok (.if_icmp .ge 94, 3) := by decide +kernel
theorem dX3_icingSet_38 : decode cX3_icingSet 38 = .ok (.iload 9, 2) := by decide +kernel
theorem dX3_icingSet_40 : decode cX3_icingSet 40 = .ok (.ifCond .ne 8, 3) := by decide +kernel
theorem dX3_icingSet_43 : decode cX3_icingSet 43 = .ok (.iload 8, 2) := by decide +kernel
theorem dX3_icingSet_45 : decode cX3_icingSet 45 = .ok (.goto 4, 3) := by decide +kernel
theorem dX3_icingSet_48 : decode cX3_icingSet 48 = .ok (.iconst 0, 1) := by decide +kernel
theorem dX3_icingSet_49 : decode cX3_icingSet 49 = .ok (.iload 9, 2) := by decide +kernel
theorem dX3_icingSet_51 : decode cX3_icingSet 51 = .ok (.iload_n 3, 1) := by decide +kernel
theorem dX3_icingSet_52 : decode cX3_icingSet 52 = .ok (.iconst 1, 1) := by decide +kernel
theorem dX3_icingSet_53 : decode cX3_icingSet 53 = .ok (.isub, 1) := by decide +kernel
theorem dX3_icingSet_54 : decode cX3_icingSet 54 = .ok (.if_icmp .ne 8, 3) := by decide +kernel
theorem dX3_icingSet_57 : decode cX3_icingSet 57 = .ok (.iload 8, 2) := by decide +kernel
theorem dX3_icingSet_59 : decode cX3_icingSet 59 = .ok (.goto 4, 3) := by decide +kernel
theorem dX3_icingSet_62 : decode cX3_icingSet 62 = .ok (.iconst 0, 1) := by decide +kernel
theorem dX3_icingSet_63 : decode cX3_icingSet 63 = .ok (.iadd, 1) := by decide +kernel
theorem dX3_icingSet_64 : decode cX3_icingSet 64 = .ok (.istore 10, 2) := by decide +kernel
theorem dX3_icingSet_66 : decode cX3_icingSet 66 = .ok (.iconst 0, 1) := by decide +kernel
theorem dX3_icingSet_67 : decode cX3_icingSet 67 = .ok (.istore 11, 2) := by decide +kernel
theorem dX3_icingSet_69 : decode cX3_icingSet 69 = .ok (.iload 11, 2) := by decide +kernel
theorem dX3_icingSet_71 : decode cX3_icingSet 71 = .ok (.iload 4, 2) := by decide +kernel
theorem dX3_icingSet_73 : decode cX3_icingSet 73 = .ok (.if_icmp .ge 50, 3) := by decide +kernel
theorem dX3_icingSet_76 : decode cX3_icingSet 76 = .ok (.iload 10, 2) := by decide +kernel
theorem dX3_icingSet_78 : decode cX3_icingSet 78 = .ok (.iload 11, 2) := by decide +kernel
theorem dX3_icingSet_80 : decode cX3_icingSet 80 = .ok (.ifCond .ne 8, 3) := by decide +kernel
theorem dX3_icingSet_83 : decode cX3_icingSet 83 = .ok (.iload 7, 2) := by decide +kernel
theorem dX3_icingSet_85 : decode cX3_icingSet 85 = .ok (.goto 4, 3) := by decide +kernel
theorem dX3_icingSet_88 : decode cX3_icingSet 88 = .ok (.iconst 0, 1) := by decide +kernel
theorem dX3_icingSet_89 : decode cX3_icingSet 89 = .ok (.iadd, 1) := by decide +kernel
theorem dX3_icingSet_90 : decode cX3_icingSet 90 = .ok (.iload 11, 2) := by decide +kernel
theorem dX3_icingSet_92 : decode cX3_icingSet 92 = .ok (.iload 4, 2) := by decide +kernel
theorem dX3_icingSet_94 : decode cX3_icingSet 94 = .ok (.iconst 1, 1) := by decide +kernel
theorem dX3_icingSet_95 : decode cX3_icingSet 95 = .ok (.isub, 1) := by decide +kernel
theorem dX3_icingSet_96 : decode cX3_icingSet 96 = .ok (.if_icmp .ne 8, 3) := by decide +kernel
theorem dX3_icingSet_99 : decode cX3_icingSet 99 = .ok (.iload 7, 2) := by decide +kernel
theorem dX3_icingSet_101 : decode cX3_icingSet 101 = .ok (.goto 4, 3) := by decide +kernel
theorem dX3_icingSet_104 : decode cX3_icingSet 104 = .ok (.iconst 0, 1) := by decide +kernel
theorem dX3_icingSet_105 : decode cX3_icingSet 105 = .ok (.iadd, 1) := by decide +kernel
theorem dX3_icingSet_106 : decode cX3_icingSet 106 = .ok (.istore 12, 2) := by decide +kernel
theorem dX3_icingSet_108 : decode cX3_icingSet 108 = .ok (.lload 5, 2) := by decide +kernel
theorem dX3_icingSet_110 : decode cX3_icingSet 110 = .ok (.lconst 1, 1) := by decide +kernel
theorem dX3_icingSet_111 : decode cX3_icingSet 111 = .ok (.iload 12, 2) := by decide +kernel
theorem dX3_icingSet_113 : decode cX3_icingSet 113 = .ok (.lshl, 1) := by decide +kernel
theorem dX3_icingSet_114 : decode cX3_icingSet 114 = .ok (.lor, 1) := by decide +kernel
theorem dX3_icingSet_115 : decode cX3_icingSet 115 = .ok (.lstore 5, 2) := by decide +kernel
theorem dX3_icingSet_117 : decode cX3_icingSet 117 = .ok (.iinc 11 1, 3) := by decide +kernel
theorem dX3_icingSet_120 : decode cX3_icingSet 120 = .ok (.goto (-51), 3) := by decide +kernel
theorem dX3_icingSet_123 : decode cX3_icingSet 123 = .ok (.iinc 9 1, 3) := by decide +kernel
theorem dX3_icingSet_126 : decode cX3_icingSet 126 = .ok (.goto (-94), 3) := by decide +kernel
theorem dX3_icingSet_129 : decode cX3_icingSet 129 = .ok (.lload 5, 2) := by decide +kernel
theorem dX3_icingSet_131 : decode cX3_icingSet 131 = .ok (.lreturn, 1) := by decide +kernel
theorem dX3_spreadOf_0 : decode cX3_spreadOf 0 = .ok (.iconst (-1), 1) := by decide +kernel
theorem dX3_spreadOf_1 : decode cX3_spreadOf 1 = .ok (.istore_n 2, 1) := by decide +kernel
theorem dX3_spreadOf_2 : decode cX3_spreadOf 2 = .ok (.iconst (-1), 1) := by decide +kernel
theorem dX3_spreadOf_3 : decode cX3_spreadOf 3 = .ok (.istore_n 3, 1) := by decide +kernel
theorem dX3_spreadOf_4 : decode cX3_spreadOf 4 = .ok (.iconst 0, 1) := by decide +kernel
theorem dX3_spreadOf_5 : decode cX3_spreadOf 5 = .ok (.istore 4, 2) := by decide +kernel
theorem dX3_spreadOf_7 : decode cX3_spreadOf 7 = .ok (.iload 4, 2) := by decide +kernel
theorem dX3_spreadOf_9 : decode cX3_spreadOf 9 = .ok (.bipush 32, 2) := by decide +kernel
theorem dX3_spreadOf_11 : decode cX3_spreadOf 11 = .ok (.if_icmp .gt 35, 3) := by decide +kernel
theorem dX3_spreadOf_14 : decode cX3_spreadOf 14 = .ok (.lload_n 0, 1) := by decide +kernel
theorem dX3_spreadOf_15 : decode cX3_spreadOf 15 = .ok (.iload 4, 2) := by decide +kernel
theorem dX3_spreadOf_17 : decode cX3_spreadOf 17 = .ok (.lshr, 1) := by decide +kernel
theorem dX3_spreadOf_18 : decode cX3_spreadOf 18 = .ok (.lconst 1, 1) := by decide +kernel
theorem dX3_spreadOf_19 : decode cX3_spreadOf 19 = .ok (.land, 1) := by decide +kernel
theorem dX3_spreadOf_20 : decode cX3_spreadOf 20 = .ok (.lconst 1, 1) := by decide +kernel
theorem dX3_spreadOf_21 : decode cX3_spreadOf 21 = .ok (.lcmp, 1) := by decide +kernel
theorem dX3_spreadOf_22 : decode cX3_spreadOf 22 = .ok (.ifCond .ne 18, 3) := by decide +kernel
theorem dX3_spreadOf_25 : decode cX3_spreadOf 25 = .ok (.iload 4, 2) := by decide +kernel
theorem dX3_spreadOf_27 : decode cX3_spreadOf 27 = .ok (.istore_n 3, 1) := by decide +kernel
theorem dX3_spreadOf_28 : decode cX3_spreadOf 28 = .ok (.iload_n 2, 1) := by decide +kernel
theorem dX3_spreadOf_29 : decode cX3_spreadOf 29 = .ok (.iconst (-1), 1) := by decide +kernel
theorem dX3_spreadOf_30 : decode cX3_spreadOf 30 = .ok (.if_icmp .ne 8, 3) := by decide +kernel
theorem dX3_spreadOf_33 : decode cX3_spreadOf 33 = .ok (.iload 4, 2) := by decide +kernel
theorem dX3_spreadOf_35 : decode cX3_spreadOf 35 = .ok (.goto 4, 3) := by decide +kernel
theorem dX3_spreadOf_38 : decode cX3_spreadOf 38 = .ok (.iload_n 2, 1) := by decide +kernel
theorem dX3_spreadOf_39 : decode cX3_spreadOf 39 = .ok (.istore_n 2, 1) := by decide +kernel
theorem dX3_spreadOf_40 : decode cX3_spreadOf 40 = .ok (.iinc 4 1, 3) := by decide +kernel
theorem dX3_spreadOf_43 : decode cX3_spreadOf 43 = .ok (.goto (-36), 3) := by decide +kernel
theorem dX3_spreadOf_46 : decode cX3_spreadOf 46 = .ok (.iload_n 3, 1) := by decide +kernel
theorem dX3_spreadOf_47 : decode cX3_spreadOf 47 = .ok (.iload_n 2, 1) := by decide +kernel
theorem dX3_spreadOf_48 : decode cX3_spreadOf 48 = .ok (.isub, 1) := by decide +kernel
theorem dX3_spreadOf_49 : decode cX3_spreadOf 49 = .ok (.ireturn, 1) := by decide +kernel
theorem dX9_init_0 : decode cX9_init 0 = .ok (.aload_n 0, 1) := by decide +kernel
theorem dX9_init_1 : decode cX9_init 1 = .ok (.invokespecial 3, 3) := by decide +kernel
theorem dX9_init_4 : decode cX9_init 4 = .ok (.aload_n 0, 1) := by decide +kernel
theorem dX9_init_5 : decode cX9_init 5 = .ok (.iconst (-1), 1) := by decide +kernel
theorem dX9_init_6 : decode cX9_init 6 = .ok (.putfield 9, 3) := by decide +kernel
theorem dX9_init_9 : decode cX9_init 9 = .ok (.return_, 1) := by decide +kernel
theorem dX9_layWhole_0 : decode cX9_layWhole 0 = .ok (.aload_n 0, 1) := by decide +kernel
theorem dX9_layWhole_1 : decode cX9_layWhole 1 = .ok (.iload_n 1, 1) := by decide +kernel
theorem dX9_layWhole_2 : decode cX9_layWhole 2 = .ok (.putfield 15, 3) := by decide +kernel
theorem dX9_layWhole_5 : decode cX9_layWhole 5 = .ok (.aload_n 0, 1) := by decide +kernel
theorem dX9_layWhole_6 : decode cX9_layWhole 6 = .ok (.iconst 0, 1) := by decide +kernel
theorem dX9_layWhole_7 : decode cX9_layWhole 7 = .ok (.putfield 18, 3) := by decide +kernel
theorem dX9_layWhole_10 : decode cX9_layWhole 10 = .ok (.aload_n 0, 1) := by decide +kernel
theorem dX9_layWhole_11 : decode cX9_layWhole 11 = .ok (.iconst 0, 1) := by decide +kernel
theorem dX9_layWhole_12 : decode cX9_layWhole 12 = .ok (.putfield 21, 3) := by decide +kernel
theorem dX9_layWhole_15 : decode cX9_layWhole 15 = .ok (.aload_n 0, 1) := by decide +kernel
theorem dX9_layWhole_16 : decode cX9_layWhole 16 = .ok (.iload_n 2, 1) := by decide +kernel
theorem dX9_layWhole_17 : decode cX9_layWhole 17 = .ok (.putfield 24, 3) := by decide +kernel
theorem dX9_layWhole_20 : decode cX9_layWhole 20 = .ok (.aload_n 0, 1) := by decide +kernel
theorem dX9_layWhole_21 : decode cX9_layWhole 21 = .ok (.iload_n 3, 1) := by decide +kernel
theorem dX9_layWhole_22 : decode cX9_layWhole 22 = .ok (.putfield 27, 3) := by decide +kernel
theorem dX9_layWhole_25 : decode cX9_layWhole 25 = .ok (.aload_n 0, 1) := by decide +kernel
theorem dX9_layWhole_26 : decode cX9_layWhole 26 = .ok (.iconst 0, 1) := by decide +kernel
theorem dX9_layWhole_27 : decode cX9_layWhole 27 = .ok (.putfield 30, 3) := by decide +kernel
theorem dX9_layWhole_30 : decode cX9_layWhole 30 = .ok (.aload_n 0, 1) := by decide +kernel
theorem dX9_layWhole_31 : decode cX9_layWhole 31 = .ok (.iconst (-1), 1) := by decide +kernel
theorem dX9_layWhole_32 : decode cX9_layWhole 32 = .ok (.putfield 9, 3) := by decide +kernel
theorem dX9_layWhole_35 : decode cX9_layWhole 35 = .ok (.return_, 1) := by decide +kernel
theorem dX9_takeFrom_0 : decode cX9_takeFrom 0 = .ok (.aload_n 0, 1) := by decide +kernel
theorem dX9_takeFrom_1 : decode cX9_takeFrom 1 = .ok (.aload_n 1, 1) := by decide +kernel
theorem dX9_takeFrom_2 : decode cX9_takeFrom 2 = .ok (.getfield 15, 3) := by decide +kernel
theorem dX9_takeFrom_5 : decode cX9_takeFrom 5 = .ok (.putfield 15, 3) := by decide +kernel
theorem dX9_takeFrom_8 : decode cX9_takeFrom 8 = .ok (.aload_n 0, 1) := by decide +kernel
theorem dX9_takeFrom_9 : decode cX9_takeFrom 9 = .ok (.aload_n 1, 1) := by decide +kernel
theorem dX9_takeFrom_10 : decode cX9_takeFrom 10 = .ok (.getfield 18, 3) := by decide +kernel
theorem dX9_takeFrom_13 : decode cX9_takeFrom 13 = .ok (.putfield 18, 3) := by decide +kernel
theorem dX9_takeFrom_16 : decode cX9_takeFrom 16 = .ok (.aload_n 0, 1) := by decide +kernel
theorem dX9_takeFrom_17 : decode cX9_takeFrom 17 = .ok (.aload_n 1, 1) := by decide +kernel
theorem dX9_takeFrom_18 : decode cX9_takeFrom 18 = .ok (.getfield 21, 3) := by decide +kernel
theorem dX9_takeFrom_21 : decode cX9_takeFrom 21 = .ok (.putfield 21, 3) := by decide +kernel
theorem dX9_takeFrom_24 : decode cX9_takeFrom 24 = .ok (.aload_n 0, 1) := by decide +kernel
theorem dX9_takeFrom_25 : decode cX9_takeFrom 25 = .ok (.aload_n 1, 1) := by decide +kernel
theorem dX9_takeFrom_26 : decode cX9_takeFrom 26 = .ok (.getfield 24, 3) := by decide +kernel
theorem dX9_takeFrom_29 : decode cX9_takeFrom 29 = .ok (.putfield 24, 3) := by decide +kernel
theorem dX9_takeFrom_32 : decode cX9_takeFrom 32 = .ok (.aload_n 0, 1) := by decide +kernel
theorem dX9_takeFrom_33 : decode cX9_takeFrom 33 = .ok (.aload_n 1, 1) := by decide +kernel
theorem dX9_takeFrom_34 : decode cX9_takeFrom 34 = .ok (.getfield 27, 3) := by decide +kernel
theorem dX9_takeFrom_37 : decode cX9_takeFrom 37 = .ok (.putfield 27, 3) := by decide +kernel
theorem dX9_takeFrom_40 : decode cX9_takeFrom 40 = .ok (.aload_n 0, 1) := by decide +kernel
theorem dX9_takeFrom_41 : decode cX9_takeFrom 41 = .ok (.aload_n 1, 1) := by decide +kernel
theorem dX9_takeFrom_42 : decode cX9_takeFrom 42 = .ok (.getfield 30, 3) := by decide +kernel
theorem dX9_takeFrom_45 : decode cX9_takeFrom 45 = .ok (.putfield 30, 3) := by decide +kernel
theorem dX9_takeFrom_48 : decode cX9_takeFrom 48 = .ok (.aload_n 0, 1) := by decide +kernel
theorem dX9_takeFrom_49 : decode cX9_takeFrom 49 = .ok (.aload_n 1, 1) := by decide +kernel
theorem dX9_takeFrom_50 : decode cX9_takeFrom 50 = .ok (.getfield 9, 3) := by decide +kernel
theorem dX9_takeFrom_53 : decode cX9_takeFrom 53 = .ok (.putfield 9, 3) := by decide +kernel
theorem dX9_takeFrom_56 : decode cX9_takeFrom 56 = .ok (.return_, 1) := by decide +kernel
theorem dX9_extent_0 : decode cX9_extent 0 = .ok (.iload_n 1, 1) := by decide +kernel
theorem dX9_extent_1 : decode cX9_extent 1 = .ok (.ifCond .ne 10, 3) := by decide +kernel
theorem dX9_extent_4 : decode cX9_extent 4 = .ok (.aload_n 0, 1) := by decide +kernel
theorem dX9_extent_5 : decode cX9_extent 5 = .ok (.getfield 24, 3) := by decide +kernel
theorem dX9_extent_8 : decode cX9_extent 8 = .ok (.goto 7, 3) := by decide +kernel
theorem dX9_extent_11 : decode cX9_extent 11 = .ok (.aload_n 0, 1) := by decide +kernel
theorem dX9_extent_12 : decode cX9_extent 12 = .ok (.getfield 27, 3) := by decide +kernel
theorem dX9_extent_15 : decode cX9_extent 15 = .ok (.ireturn, 1) := by decide +kernel
theorem dX9_along_0 : decode cX9_along 0 = .ok (.iload_n 1, 1) := by decide +kernel
theorem dX9_along_1 : decode cX9_along 1 = .ok (.ifCond .ne 10, 3) := by decide +kernel
theorem dX9_along_4 : decode cX9_along 4 = .ok (.aload_n 0, 1) := by decide +kernel
theorem dX9_along_5 : decode cX9_along 5 = .ok (.getfield 27, 3) := by decide +kernel
theorem dX9_along_8 : decode cX9_along 8 = .ok (.goto 7, 3) := by decide +kernel
theorem dX9_along_11 : decode cX9_along 11 = .ok (.aload_n 0, 1) := by decide +kernel
theorem dX9_along_12 : decode cX9_along 12 = .ok (.getfield 24, 3) := by decide +kernel
theorem dX9_along_15 : decode cX9_along 15 = .ok (.ireturn, 1) := by decide +kernel
theorem dX9_keepAhead_0 : decode cX9_keepAhead 0 = .ok (.iload_n 1, 1) := by decide +kernel
theorem dX9_keepAhead_1 : decode cX9_keepAhead 1 = .ok (.ifCond .ne 11, 3) := by decide +kernel
theorem dX9_keepAhead_4 : decode cX9_keepAhead 4 = .ok (.aload_n 0, 1) := by decide +kernel
theorem dX9_keepAhead_5 : decode cX9_keepAhead 5 = .ok (.iload_n 2, 1) := by decide +kernel
theorem dX9_keepAhead_6 : decode cX9_keepAhead 6 = .ok (.putfield 24, 3) := by decide +kernel
theorem dX9_keepAhead_9 : decode cX9_keepAhead 9 = .ok (.goto 8, 3) := by decide +kernel
theorem dX9_keepAhead_12 : decode cX9_keepAhead 12 = .ok (.aload_n 0, 1) := by decide +kernel
theorem dX9_keepAhead_13 : decode cX9_keepAhead 13 = .ok (.iload_n 2, 1) := by decide +kernel
theorem dX9_keepAhead_14 : decode cX9_keepAhead 14 = .ok (.putfield 27, 3) := by decide +kernel
theorem dX9_keepAhead_17 : decode cX9_keepAhead 17 = .ok (.return_, 1) := by decide +kernel
theorem dX9_keepBehind_0 : decode cX9_keepBehind 0 = .ok (.iload_n 1, 1) := by decide +kernel
theorem dX9_keepBehind_1 : decode cX9_keepBehind 1 = .ok (.ifCond .ne 26, 3) := by decide +kernel
theorem dX9_keepBehind_4 : decode cX9_keepBehind 4 = .ok (.aload_n 0, 1) := by decide +kernel
theorem dX9_keepBehind_5 : decode cX9_keepBehind 5 = .ok (.dup, 1) := by decide +kernel
theorem dX9_keepBehind_6 : decode cX9_keepBehind 6 = .ok (.getfield 18, 3) := by decide +kernel
theorem dX9_keepBehind_9 : decode cX9_keepBehind 9 = .ok (.iload_n 2, 1) := by decide +kernel
theorem dX9_keepBehind_10 : decode cX9_keepBehind 10 = .ok (.iadd, 1) := by decide +kernel
theorem dX9_keepBehind_11 : decode cX9_keepBehind 11 = .ok (.putfield 18, 3) := by decide +kernel
theorem dX9_keepBehind_14 : decode cX9_keepBehind 14 = .ok (.aload_n 0, 1) := by decide +kernel
theorem dX9_keepBehind_15 : decode cX9_keepBehind 15 = .ok (.dup, 1) := by decide +kernel
theorem dX9_keepBehind_16 : decode cX9_keepBehind 16 = .ok (.getfield 24, 3) := by decide +kernel
theorem dX9_keepBehind_19 : decode cX9_keepBehind 19 = .ok (.iload_n 2, 1) := by decide +kernel
theorem dX9_keepBehind_20 : decode cX9_keepBehind 20 = .ok (.isub, 1) := by decide +kernel
theorem dX9_keepBehind_21 : decode cX9_keepBehind 21 = .ok (.putfield 24, 3) := by decide +kernel
theorem dX9_keepBehind_24 : decode cX9_keepBehind 24 = .ok (.goto 23, 3) := by decide +kernel
theorem dX9_keepBehind_27 : decode cX9_keepBehind 27 = .ok (.aload_n 0, 1) := by decide +kernel
theorem dX9_keepBehind_28 : decode cX9_keepBehind 28 = .ok (.dup, 1) := by decide +kernel
theorem dX9_keepBehind_29 : decode cX9_keepBehind 29 = .ok (.getfield 21, 3) := by decide +kernel
theorem dX9_keepBehind_32 : decode cX9_keepBehind 32 = .ok (.iload_n 2, 1) := by decide +kernel
theorem dX9_keepBehind_33 : decode cX9_keepBehind 33 = .ok (.iadd, 1) := by decide +kernel
theorem dX9_keepBehind_34 : decode cX9_keepBehind 34 = .ok (.putfield 21, 3) := by decide +kernel
theorem dX9_keepBehind_37 : decode cX9_keepBehind 37 = .ok (.aload_n 0, 1) := by decide +kernel
theorem dX9_keepBehind_38 : decode cX9_keepBehind 38 = .ok (.dup, 1) := by decide +kernel
theorem dX9_keepBehind_39 : decode cX9_keepBehind 39 = .ok (.getfield 27, 3) := by decide +kernel
theorem dX9_keepBehind_42 : decode cX9_keepBehind 42 = .ok (.iload_n 2, 1) := by decide +kernel
theorem dX9_keepBehind_43 : decode cX9_keepBehind 43 = .ok (.isub, 1) := by decide +kernel
theorem dX9_keepBehind_44 : decode cX9_keepBehind 44 = .ok (.putfield 27, 3) := by decide +kernel
theorem dX9_keepBehind_47 : decode cX9_keepBehind 47 = .ok (.return_, 1) := by decide +kernel
theorem dX9_growBy_0 : decode cX9_growBy 0 = .ok (.iload_n 1, 1) := by decide +kernel
theorem dX9_growBy_1 : decode cX9_growBy 1 = .ok (.ifCond .ne 16, 3) := by decide +kernel
theorem dX9_growBy_4 : decode cX9_growBy 4 = .ok (.aload_n 0, 1) := by decide +kernel
theorem dX9_growBy_5 : decode cX9_growBy 5 = .ok (.dup, 1) := by decide +kernel
theorem dX9_growBy_6 : decode cX9_growBy 6 = .ok (.getfield 24, 3) := by decide +kernel
theorem dX9_growBy_9 : decode cX9_growBy 9 = .ok (.iload_n 2, 1) := by decide +kernel
theorem dX9_growBy_10 : decode cX9_growBy 10 = .ok (.iadd, 1) := by decide +kernel
theorem dX9_growBy_11 : decode cX9_growBy 11 = .ok (.putfield 24, 3) := by decide +kernel
theorem dX9_growBy_14 : decode cX9_growBy 14 = .ok (.goto 13, 3) := by decide +kernel
theorem dX9_growBy_17 : decode cX9_growBy 17 = .ok (.aload_n 0, 1) := by decide +kernel
theorem dX9_growBy_18 : decode cX9_growBy 18 = .ok (.dup, 1) := by decide +kernel
theorem dX9_growBy_19 : decode cX9_growBy 19 = .ok (.getfield 27, 3) := by decide +kernel
theorem dX9_growBy_22 : decode cX9_growBy 22 = .ok (.iload_n 2, 1) := by decide +kernel
theorem dX9_growBy_23 : decode cX9_growBy 23 = .ok (.iadd, 1) := by decide +kernel
theorem dX9_growBy_24 : decode cX9_growBy 24 = .ok (.putfield 27, 3) := by decide +kernel
theorem dX9_growBy_27 : decode cX9_growBy 27 = .ok (.return_, 1) := by decide +kernel
theorem dX9_holds_0 : decode cX9_holds 0 = .ok (.iload_n 1, 1) := by decide +kernel
theorem dX9_holds_1 : decode cX9_holds 1 = .ok (.aload_n 0, 1) := by decide +kernel
theorem dX9_holds_2 : decode cX9_holds 2 = .ok (.getfield 15, 3) := by decide +kernel
theorem dX9_holds_5 : decode cX9_holds 5 = .ok (.if_icmp .ne 49, 3) := by decide +kernel
theorem dX9_holds_8 : decode cX9_holds 8 = .ok (.iload_n 2, 1) := by decide +kernel
theorem dX9_holds_9 : decode cX9_holds 9 = .ok (.aload_n 0, 1) := by decide +kernel
theorem dX9_holds_10 : decode cX9_holds 10 = .ok (.getfield 18, 3) := by decide +kernel
theorem dX9_holds_13 : decode cX9_holds 13 = .ok (.if_icmp .lt 41, 3) := by decide +kernel
theorem dX9_holds_16 : decode cX9_holds 16 = .ok (.iload_n 2, 1) := by decide +kernel
theorem dX9_holds_17 : decode cX9_holds 17 = .ok (.aload_n 0, 1) := by decide +kernel
theorem dX9_holds_18 : decode cX9_holds 18 = .ok (.getfield 18, 3) := by decide +kernel
theorem dX9_holds_21 : decode cX9_holds 21 = .ok (.aload_n 0, 1) := by decide +kernel
theorem dX9_holds_22 : decode cX9_holds 22 = .ok (.getfield 24, 3) := by decide +kernel
theorem dX9_holds_25 : decode cX9_holds 25 = .ok (.iadd, 1) := by decide +kernel
theorem dX9_holds_26 : decode cX9_holds 26 = .ok (.if_icmp .ge 28, 3) := by decide +kernel
theorem dX9_holds_29 : decode cX9_holds 29 = .ok (.iload_n 3, 1) := by decide +kernel
theorem dX9_holds_30 : decode cX9_holds 30 = .ok (.aload_n 0, 1) := by decide +kernel
theorem dX9_holds_31 : decode cX9_holds 31 = .ok (.getfield 21, 3) := by decide +kernel
theorem dX9_holds_34 : decode cX9_holds 34 = .ok (.if_icmp .lt 20, 3) := by decide +kernel
theorem dX9_holds_37 : decode cX9_holds 37 = .ok (.iload_n 3, 1) := by decide +kernel
theorem dX9_holds_38 : decode cX9_holds 38 = .ok (.aload_n 0, 1) := by decide +kernel
theorem dX9_holds_39 : decode cX9_holds 39 = .ok (.getfield 21, 3) := by decide +kernel
theorem dX9_holds_42 : decode cX9_holds 42 = .ok (.aload_n 0, 1) := by decide +kernel
theorem dX9_holds_43 : decode cX9_holds 43 = .ok (.getfield 27, 3) := by decide +kernel
theorem dX9_holds_46 : decode cX9_holds 46 = .ok (.iadd, 1) := by decide +kernel
theorem dX9_holds_47 : decode cX9_holds 47 = .ok (.if_icmp .ge 7, 3) := by decide +kernel
theorem dX9_holds_50 : decode cX9_holds 50 = .ok (.iconst 1, 1) := by decide +kernel
theorem dX9_holds_51 : decode cX9_holds 51 = .ok (.goto 4, 3) := by decide +kernel
theorem dX9_holds_54 : decode cX9_holds 54 = .ok (.iconst 0, 1) := by decide +kernel
theorem dX9_holds_55 : decode cX9_holds 55 = .ok (.ireturn, 1) := by decide +kernel
theorem dX10_init_0 : decode cX10_init 0 = .ok (.aload_n 0, 1) := by decide +kernel
theorem dX10_init_1 : decode cX10_init 1 = .ok (.invokespecial 3, 3) := by decide +kernel
theorem dX10_init_4 : decode cX10_init 4 = .ok (.aload_n 0, 1) := by decide +kernel
theorem dX10_init_5 : decode cX10_init 5 = .ok (.aload_n 1, 1) := by decide +kernel
theorem dX10_init_6 : decode cX10_init 6 = .ok (.putfield 9, 3) := by decide +kernel
theorem dX10_init_9 : decode cX10_init 9 = .ok (.aload_n 0, 1) := by decide +kernel
theorem dX10_init_10 : decode cX10_init 10 = .ok (.aload_n 2, 1) := by decide +kernel
theorem dX10_init_11 : decode cX10_init 11 = .ok (.putfield 15, 3) := by decide +kernel
theorem dX10_init_14 : decode cX10_init 14 = .ok (.aload_n 0, 1) := by decide +kernel
theorem dX10_init_15 : decode cX10_init 15 = .ok (.bipush 7, 2) := by decide +kernel
theorem dX10_init_17 : decode cX10_init 17 = .ok (.newarray .int, 2) := by decide +kernel
theorem dX10_init_19 : decode cX10_init 19 = .ok (.putfield 21, 3) := by decide +kernel
theorem dX10_init_22 : decode cX10_init 22 = .ok (.aload_n 0, 1) := by decide +kernel
theorem dX10_init_23 : decode cX10_init 23 = .ok (.bipush 36, 2) := by decide +kernel
theorem dX10_init_25 : decode cX10_init 25 = .ok (.newarray .int, 2) := by decide +kernel
theorem dX10_init_27 : decode cX10_init 27 = .ok (.putfield 25, 3) := by decide +kernel
theorem dX10_init_30 : decode cX10_init 30 = .ok (.return_, 1) := by decide +kernel
set_option maxRecDepth 20000 in
theorem ggX10_measure_X7_areaOf : GoodIn wsX10_measure wsX7_areaOf := goodIn_r _ [10, 11, 12, 13, 14, 15, 16, 17, 9, 18, 19, 35, 36, 37, 38, 39, 40, 41, 48, 49, 50, 51, 52, 53, 54, 55, 56, 57, 58, 59, 60, 61, 62, 63] (by decide +kernel) (by decide +kernel)
set_option maxRecDepth 20000 in
theorem gX10_measure_X7_areaOf : GoodIn wsX10_measure (wsV RX10 28 RX7 yX7_areaOf wsX7_areaOf) := goodIn_app (goodIn_of _ (by decide +kernel)) ggX10_measure_X7_areaOf
set_option maxRecDepth 20000 in
theorem ggX10_measure_X7_icingOf : GoodIn wsX10_measure wsX7_icingOf := goodIn_r _ [23, 11, 24, 13, 12, 25, 26, 27, 15, 16, 17, 9, 18, 19, 35, 36, 37, 38, 39, 40, 41, 48, 49, 50, 51, 52, 53, 54, 55, 56, 57, 58, 59, 60, 61, 62, 63] (by decide +kernel) (by decide +kernel)
set_option maxRecDepth 20000 in
theorem gX10_measure_X7_icingOf : GoodIn wsX10_measure (wsV RX10 34 RX7 yX7_icingOf wsX7_icingOf) := goodIn_app (goodIn_of _ (by decide +kernel)) ggX10_measure_X7_icingOf
theorem dX10_measure_0 : decode cX10_measure 0 = .ok (.aload_n 0, 1) := by decide +kernel
theorem dX10_measure_1 : decode cX10_measure 1 = .ok (.getfield 21, 3) := by decide +kernel
theorem dX10_measure_4 : decode cX10_measure 4 = .ok (.iconst 1, 1) := by decide +kernel
theorem dX10_measure_5 : decode cX10_measure 5 = .ok (.aload_n 0, 1) := by decide +kernel
theorem dX10_measure_6 : decode cX10_measure 6 = .ok (.getfield 9, 3) := by decide +kernel
theorem dX10_measure_9 : decode cX10_measure 9 = .ok (.aload_n 1, 1) := by decide +kernel
theorem dX10_measure_10 : decode cX10_measure 10 = .ok (.invokevirtual 28, 3) := by decide +kernel
theorem dX10_measure_13 : decode cX10_measure 13 = .ok (.iastore, 1) := by decide +kernel
theorem dX10_measure_14 : decode cX10_measure 14 = .ok (.aload_n 0, 1) := by decide +kernel
theorem dX10_measure_15 : decode cX10_measure 15 = .ok (.getfield 21, 3) := by decide +kernel
theorem dX10_measure_18 : decode cX10_measure 18 = .ok (.iconst 2, 1) := by decide +kernel
theorem dX10_measure_19 : decode cX10_measure 19 = .ok (.aload_n 0, 1) := by decide +kernel
theorem dX10_measure_20 : decode cX10_measure 20 = .ok (.getfield 9, 3) := by decide +kernel
theorem dX10_measure_23 : decode cX10_measure 23 = .ok (.aload_n 1, 1) := by decide +kernel
theorem dX10_measure_24 : decode cX10_measure 24 = .ok (.invokevirtual 34, 3) := by decide +kernel
theorem dX10_measure_27 : decode cX10_measure 27 = .ok (.iastore, 1) := by decide +kernel
theorem dX10_measure_28 : decode cX10_measure 28 = .ok (.aload_n 0, 1) := by decide +kernel
theorem dX10_measure_29 : decode cX10_measure 29 = .ok (.getfield 21, 3) := by decide +kernel
theorem dX10_measure_32 : decode cX10_measure 32 = .ok (.iconst 3, 1) := by decide +kernel
theorem dX10_measure_33 : decode cX10_measure 33 = .ok (.iconst 0, 1) := by decide +kernel
theorem dX10_measure_34 : decode cX10_measure 34 = .ok (.iastore, 1) := by decide +kernel
theorem dX10_measure_35 : decode cX10_measure 35 = .ok (.aload_n 0, 1) := by decide +kernel
theorem dX10_measure_36 : decode cX10_measure 36 = .ok (.getfield 21, 3) := by decide +kernel
theorem dX10_measure_39 : decode cX10_measure 39 = .ok (.iconst 4, 1) := by decide +kernel
theorem dX10_measure_40 : decode cX10_measure 40 = .ok (.aload_n 1, 1) := by decide +kernel
theorem dX10_measure_41 : decode cX10_measure 41 = .ok (.getfield 37, 3) := by decide +kernel
theorem dX10_measure_44 : decode cX10_measure 44 = .ok (.ifCond .eq 7, 3) := by decide +kernel
theorem dX10_measure_47 : decode cX10_measure 47 = .ok (.iconst 1, 1) := by decide +kernel
theorem dX10_measure_48 : decode cX10_measure 48 = .ok (.goto 4, 3) := by decide +kernel
theorem dX10_measure_51 : decode cX10_measure 51 = .ok (.iconst 0, 1) := by decide +kernel
theorem dX10_measure_52 : decode cX10_measure 52 = .ok (.iastore, 1) := by decide +kernel
theorem dX10_measure_53 : decode cX10_measure 53 = .ok (.aload_n 0, 1) := by decide +kernel
theorem dX10_measure_54 : decode cX10_measure 54 = .ok (.getfield 21, 3) := by decide +kernel
theorem dX10_measure_57 : decode cX10_measure 57 = .ok (.iconst 5, 1) := by decide +kernel
theorem dX10_measure_58 : decode cX10_measure 58 = .ok (.iconst 0, 1) := by decide +kernel
theorem dX10_measure_59 : decode cX10_measure 59 = .ok (.iastore, 1) := by decide +kernel
theorem dX10_measure_60 : decode cX10_measure 60 = .ok (.aload_n 0, 1) := by decide +kernel
theorem dX10_measure_61 : decode cX10_measure 61 = .ok (.getfield 21, 3) := by decide +kernel
theorem dX10_measure_64 : decode cX10_measure 64 = .ok (.bipush 6, 2) := by decide +kernel
theorem dX10_measure_66 : decode cX10_measure 66 = .ok (.aload_n 0, 1) := by decide +kernel
theorem dX10_measure_67 : decode cX10_measure 67 = .ok (.getfield 15, 3) := by decide +kernel
theorem dX10_measure_70 : decode cX10_measure 70 = .ok (.getfield 43, 3) := by decide +kernel
theorem dX10_measure_73 : decode cX10_measure 73 = .ok (.iastore, 1) := by decide +kernel
theorem dX10_measure_74 : decode cX10_measure 74 = .ok (.return_, 1) := by decide +kernel
set_option maxRecDepth 20000 in
theorem ggX10_ofSlab_X10_measure : GoodIn wsX10_ofSlab wsX10_measure := goodIn_r _ [9, 1, 2, 10, 11, 12, 13, 14, 15, 16, 17, 18, 19, 20, 21, 22, 23, 24, 25, 26, 27, 28, 29, 30, 31, 32, 33, 34, 54, 55, 56, 57, 58, 59, 60, 77, 78, 79, 80, 81, 82, 83, 84, 85, 86, 87, 88, 89, 61, 62, 63, 64, 65, 66, 67, 68, 69, 70, 71, 72, 73, 74, 75, 76] (by decide +kernel) (by decide +kernel)
set_option maxRecDepth 20000 in
theorem gX10_ofSlab_X10_measure : GoodIn wsX10_ofSlab (wsV RX10 49 RX10 yX10_measure wsX10_measure) := goodIn_app (goodIn_of _ (by decide +kernel)) ggX10_ofSlab_X10_measure
set_option maxRecDepth 20000 in
theorem ggX10_ofSlab_X7_isGuest : GoodIn wsX10_ofSlab wsX7_isGuest := goodIn_r _ [38, 39, 61, 62, 63, 64, 65, 66, 67, 68, 69, 70, 71, 72, 73, 74, 75, 76] (by decide +kernel) (by decide +kernel)
set_option maxRecDepth 20000 in
theorem gX10_ofSlab_X7_isGuest : GoodIn wsX10_ofSlab (wsV RX10 53 RX7 yX7_isGuest wsX7_isGuest) := goodIn_app (goodIn_of _ (by decide +kernel)) ggX10_ofSlab_X7_isGuest
set_option maxRecDepth 20000 in
theorem ggX10_ofSlab_X2_outcome : GoodIn wsX10_ofSlab wsX2_outcome := goodIn_r _ [44, 45, 46, 47, 48, 49, 43, 50, 51, 52, 53, 90, 91, 92, 93, 94] (by decide +kernel) (by decide +kernel)
set_option maxRecDepth 20000 in
theorem gX10_ofSlab_X2_outcome : GoodIn wsX10_ofSlab (wsV RX10 64 RX2 yX2_outcome wsX2_outcome) := goodIn_app (goodIn_of _ (by decide +kernel)) ggX10_ofSlab_X2_outcome
theorem dX10_ofSlab_0 : decode cX10_ofSlab 0 = .ok (.aload_n 0, 1) := by decide +kernel
theorem dX10_ofSlab_1 : decode cX10_ofSlab 1 = .ok (.aload_n 2, 1) := by decide +kernel
theorem dX10_ofSlab_2 : decode cX10_ofSlab 2 = .ok (.invokevirtual 49, 3) := by decide +kernel
theorem dX10_ofSlab_5 : decode cX10_ofSlab 5 = .ok (.aload_n 0, 1) := by decide +kernel
theorem dX10_ofSlab_6 : decode cX10_ofSlab 6 = .ok (.getfield 21, 3) := by decide +kernel
theorem dX10_ofSlab_9 : decode cX10_ofSlab 9 = .ok (.iconst 3, 1) := by decide +kernel
theorem dX10_ofSlab_10 : decode cX10_ofSlab 10 = .ok (.aload_n 0, 1) := by decide +kernel
theorem dX10_ofSlab_11 : decode cX10_ofSlab 11 = .ok (.getfield 9, 3) := by decide +kernel
theorem dX10_ofSlab_14 : decode cX10_ofSlab 14 = .ok (.iload_n 1, 1) := by decide +kernel
theorem dX10_ofSlab_15 : decode cX10_ofSlab 15 = .ok (.invokevirtual 53, 3) := by decide +kernel
theorem dX10_ofSlab_18 : decode cX10_ofSlab 18 = .ok (.ifCond .eq 15, 3) := by decide +kernel
theorem dX10_ofSlab_21 : decode cX10_ofSlab 21 = .ok (.aload_n 0, 1) := by decide +kernel
theorem dX10_ofSlab_22 : decode cX10_ofSlab 22 = .ok (.getfield 9, 3) := by decide +kernel
theorem dX10_ofSlab_25 : decode cX10_ofSlab 25 = .ok (.getfield 57, 3) := by decide +kernel
theorem dX10_ofSlab_28 : decode cX10_ofSlab 28 = .ok (.iload_n 1, 1) := by decide +kernel
theorem dX10_ofSlab_29 : decode cX10_ofSlab 29 = .ok (.iaload, 1) := by decide +kernel
theorem dX10_ofSlab_30 : decode cX10_ofSlab 30 = .ok (.goto 4, 3) := by decide +kernel
theorem dX10_ofSlab_33 : decode cX10_ofSlab 33 = .ok (.iconst 0, 1) := by decide +kernel
theorem dX10_ofSlab_34 : decode cX10_ofSlab 34 = .ok (.iastore, 1) := by decide +kernel
theorem dX10_ofSlab_35 : decode cX10_ofSlab 35 = .ok (.aload_n 0, 1) := by decide +kernel
theorem dX10_ofSlab_36 : decode cX10_ofSlab 36 = .ok (.getfield 9, 3) := by decide +kernel
theorem dX10_ofSlab_39 : decode cX10_ofSlab 39 = .ok (.getfield 60, 3) := by decide +kernel
theorem dX10_ofSlab_42 : decode cX10_ofSlab 42 = .ok (.aload_n 0, 1) := by decide +kernel
theorem dX10_ofSlab_43 : decode cX10_ofSlab 43 = .ok (.getfield 21, 3) := by decide +kernel
theorem dX10_ofSlab_46 : decode cX10_ofSlab 46 = .ok (.invokevirtual 64, 3) := by decide +kernel
theorem dX10_ofSlab_49 : decode cX10_ofSlab 49 = .ok (.ireturn, 1) := by decide +kernel
set_option maxRecDepth 20000 in
theorem ggX10_ofPiece_X1_isPiece : GoodIn wsX10_ofPiece wsX1_isPiece := goodIn_r _ [7, 8, 72, 73, 74, 75, 76, 77] (by decide +kernel) (by decide +kernel)
set_option maxRecDepth 20000 in
theorem gX10_ofPiece_X1_isPiece : GoodIn wsX10_ofPiece (wsV RX10 68 RX1 yX1_isPiece wsX1_isPiece) := goodIn_app (goodIn_of _ (by decide +kernel)) ggX10_ofPiece_X1_isPiece
set_option maxRecDepth 20000 in
theorem ggX10_ofPiece_X10_ofSlab : GoodIn wsX10_ofPiece wsX10_ofSlab := goodIn_r _ [13, 14, 15, 16, 17, 18, 19, 20, 12, 21, 22, 1, 23, 24, 25, 26, 27, 28, 29, 30, 31, 32, 33, 34, 35, 36, 37, 38, 39, 40, 41, 42, 43, 44, 45, 46, 47, 48, 49, 50, 51, 52, 53, 54, 55, 56, 57, 58, 59, 60, 61, 62, 63, 64, 65, 66, 67, 68, 69, 70, 71, 78, 79, 80, 81, 82, 83, 84, 85, 86, 87, 88, 89, 90, 91, 92, 93, 94, 95, 96, 97, 98, 99, 100, 72, 73, 74, 75, 76, 77, 101, 102, 103, 104, 105] (by decide +kernel) (by decide +kernel)
set_option maxRecDepth 20000 in
theorem gX10_ofPiece_X10_ofSlab : GoodIn wsX10_ofPiece (wsV RX10 75 RX10 yX10_ofSlab wsX10_ofSlab) := goodIn_app (goodIn_of _ (by decide +kernel)) ggX10_ofPiece_X10_ofSlab
theorem dX10_ofPiece_0 : decode cX10_ofPiece 0 = .ok (.aload_n 0, 1) := by decide +kernel
theorem dX10_ofPiece_1 : decode cX10_ofPiece 1 = .ok (.getfield 15, 3) := by decide +kernel
theorem dX10_ofPiece_4 : decode cX10_ofPiece 4 = .ok (.iload_n 2, 1) := by decide +kernel
theorem dX10_ofPiece_5 : decode cX10_ofPiece 5 = .ok (.invokevirtual 68, 3) := by decide +kernel
theorem dX10_ofPiece_8 : decode cX10_ofPiece 8 = .ok (.ifCond .eq 20, 3) := by decide +kernel
theorem dX10_ofPiece_11 : decode cX10_ofPiece 11 = .ok (.aload_n 0, 1) := by decide +kernel
theorem dX10_ofPiece_12 : decode cX10_ofPiece 12 = .ok (.iload_n 1, 1) := by decide +kernel
theorem dX10_ofPiece_13 : decode cX10_ofPiece 13 = .ok (.aload_n 0, 1) := by decide +kernel
theorem dX10_ofPiece_14 : decode cX10_ofPiece 14 = .ok (.getfield 15, 3) := by decide +kernel
theorem dX10_ofPiece_17 : decode cX10_ofPiece 17 = .ok (.getfield 71, 3) := by decide +kernel
theorem dX10_ofPiece_20 : decode cX10_ofPiece 20 = .ok (.iload_n 2, 1) := by decide +kernel
theorem dX10_ofPiece_21 : decode cX10_ofPiece 21 = .ok (.aaload, 1) := by decide +kernel
theorem dX10_ofPiece_22 : decode cX10_ofPiece 22 = .ok (.invokevirtual 75, 3) := by decide +kernel
theorem dX10_ofPiece_25 : decode cX10_ofPiece 25 = .ok (.goto 4, 3) := by decide +kernel
theorem dX10_ofPiece_28 : decode cX10_ofPiece 28 = .ok (.iload_n 3, 1) := by decide +kernel
theorem dX10_ofPiece_29 : decode cX10_ofPiece 29 = .ok (.ireturn, 1) := by decide +kernel
set_option maxRecDepth 20000 in
theorem ggX10_slipOf_X1_isPiece : GoodIn wsX10_slipOf wsX1_isPiece := goodIn_r _ [10, 11, 69, 70, 71, 72, 73, 74] (by decide +kernel) (by decide +kernel)
set_option maxRecDepth 20000 in
theorem gX10_slipOf_X1_isPiece : GoodIn wsX10_slipOf (wsV RX10 68 RX1 yX1_isPiece wsX1_isPiece) := goodIn_app (goodIn_of _ (by decide +kernel)) ggX10_slipOf_X1_isPiece
set_option maxRecDepth 20000 in
theorem ggX10_slipOf_X10_measure : GoodIn wsX10_slipOf wsX10_measure := goodIn_r _ [16, 3, 4, 17, 1, 18, 19, 20, 21, 22, 23, 24, 25, 26, 27, 28, 29, 30, 31, 32, 33, 34, 35, 36, 37, 38, 39, 40, 62, 63, 64, 65, 66, 67, 68, 91, 92, 93, 94, 95, 96, 97, 69, 70, 71, 72, 73, 74, 75, 76, 77, 78, 79, 80, 81, 82, 83, 84, 85, 86, 87, 88, 89, 90] (by decide +kernel) (by decide +kernel)
set_option maxRecDepth 20000 in
theorem gX10_slipOf_X10_measure : GoodIn wsX10_slipOf (wsV RX10 49 RX10 yX10_measure wsX10_measure) := goodIn_app (goodIn_of _ (by decide +kernel)) ggX10_slipOf_X10_measure
set_option maxRecDepth 20000 in
theorem ggX10_slipOf_X9_along : GoodIn wsX10_slipOf wsX9_along := goodIn_r _ [45, 46, 47, 91, 92, 93, 94, 95, 96, 97] (by decide +kernel) (by decide +kernel)
set_option maxRecDepth 20000 in
theorem gX10_slipOf_X9_along : GoodIn wsX10_slipOf (wsV RX10 79 RX9 yX9_along wsX9_along) := goodIn_app (goodIn_of _ (by decide +kernel)) ggX10_slipOf_X9_along
set_option maxRecDepth 20000 in
theorem ggX10_slipOf_X2_outcome : GoodIn wsX10_slipOf wsX2_outcome := goodIn_r _ [52, 53, 54, 55, 56, 57, 51, 58, 59, 60, 61, 98, 99, 100, 101, 102] (by decide +kernel) (by decide +kernel)
set_option maxRecDepth 20000 in
theorem gX10_slipOf_X2_outcome : GoodIn wsX10_slipOf (wsV RX10 64 RX2 yX2_outcome wsX2_outcome) := goodIn_app (goodIn_of _ (by decide +kernel)) ggX10_slipOf_X2_outcome
theorem dX10_slipOf_0 : decode cX10_slipOf 0 = .ok (.aload_n 0, 1) := by decide +kernel
theorem dX10_slipOf_1 : decode cX10_slipOf 1 = .ok (.getfield 15, 3) := by decide +kernel
theorem dX10_slipOf_4 : decode cX10_slipOf 4 = .ok (.iload_n 1, 1) := by decide +kernel
theorem dX10_slipOf_5 : decode cX10_slipOf 5 = .ok (.invokevirtual 68, 3) := by decide +kernel
theorem dX10_slipOf_8 : decode cX10_slipOf 8 = .ok (.ifCond .ne 5, 3) := by decide +kernel
theorem dX10_slipOf_11 : decode cX10_slipOf 11 = .ok (.iconst 0, 1) := by decide +kernel
theorem dX10_slipOf_12 : decode cX10_slipOf 12 = .ok (.ireturn, 1) := by decide +kernel
theorem dX10_slipOf_13 : decode cX10_slipOf 13 = .ok (.aload_n 0, 1) := by decide +kernel
theorem dX10_slipOf_14 : decode cX10_slipOf 14 = .ok (.aload_n 0, 1) := by decide +kernel
theorem dX10_slipOf_15 : decode cX10_slipOf 15 = .ok (.getfield 15, 3) := by decide +kernel
theorem dX10_slipOf_18 : decode cX10_slipOf 18 = .ok (.getfield 71, 3) := by decide +kernel
theorem dX10_slipOf_21 : decode cX10_slipOf 21 = .ok (.iload_n 1, 1) := by decide +kernel
theorem dX10_slipOf_22 : decode cX10_slipOf 22 = .ok (.aaload, 1) := by decide +kernel
theorem dX10_slipOf_23 : decode cX10_slipOf 23 = .ok (.invokevirtual 49, 3) := by decide +kernel
theorem dX10_slipOf_26 : decode cX10_slipOf 26 = .ok (.aload_n 0, 1) := by decide +kernel
theorem dX10_slipOf_27 : decode cX10_slipOf 27 = .ok (.getfield 21, 3) := by decide +kernel
theorem dX10_slipOf_30 : decode cX10_slipOf 30 = .ok (.iconst 5, 1) := by decide +kernel
theorem dX10_slipOf_31 : decode cX10_slipOf 31 = .ok (.aload_n 0, 1) := by decide +kernel
theorem dX10_slipOf_32 : decode cX10_slipOf 32 = .ok (.getfield 15, 3) := by decide +kernel
theorem dX10_slipOf_35 : decode cX10_slipOf 35 = .ok (.getfield 71, 3) := by decide +kernel
theorem dX10_slipOf_38 : decode cX10_slipOf 38 = .ok (.iload_n 1, 1) := by decide +kernel
theorem dX10_slipOf_39 : decode cX10_slipOf 39 = .ok (.aaload, 1) := by decide +kernel
theorem dX10_slipOf_40 : decode cX10_slipOf 40 = .ok (.iload_n 2, 1) := by decide +kernel
theorem dX10_slipOf_41 : decode cX10_slipOf 41 = .ok (.invokevirtual 79, 3) := by decide +kernel
theorem dX10_slipOf_44 : decode cX10_slipOf 44 = .ok (.iastore, 1) := by decide +kernel
theorem dX10_slipOf_45 : decode cX10_slipOf 45 = .ok (.aload_n 0, 1) := by decide +kernel
theorem dX10_slipOf_46 : decode cX10_slipOf 46 = .ok (.getfield 9, 3) := by decide +kernel
theorem dX10_slipOf_49 : decode cX10_slipOf 49 = .ok (.getfield 83, 3) := by decide +kernel
theorem dX10_slipOf_52 : decode cX10_slipOf 52 = .ok (.aload_n 0, 1) := by decide +kernel
theorem dX10_slipOf_53 : decode cX10_slipOf 53 = .ok (.getfield 21, 3) := by decide +kernel
theorem dX10_slipOf_56 : decode cX10_slipOf 56 = .ok (.invokevirtual 64, 3) := by decide +kernel
theorem dX10_slipOf_59 : decode cX10_slipOf 59 = .ok (.ireturn, 1) := by decide +kernel
set_option maxRecDepth 20000 in
theorem ggX10_enviedBy_X7_isGuest : GoodIn wsX10_enviedBy wsX7_isGuest := goodIn_r _ [9, 10, 84, 85, 86, 87, 88, 89, 90, 91, 92, 93, 94, 95, 96, 97, 98, 99] (by decide +kernel) (by decide +kernel)
set_option maxRecDepth 20000 in
theorem gX10_enviedBy_X7_isGuest : GoodIn wsX10_enviedBy (wsV RX10 53 RX7 yX7_isGuest wsX7_isGuest) := goodIn_app (goodIn_of _ (by decide +kernel)) ggX10_enviedBy_X7_isGuest
set_option maxRecDepth 20000 in
theorem ggX10_enviedBy_X10_ofPiece : GoodIn wsX10_enviedBy wsX10_ofPiece := goodIn_r _ [15, 2, 16, 17, 18, 19, 20, 21, 22, 23, 24, 25, 14, 26, 27, 1, 28, 29, 30, 31, 32, 33, 34, 35, 36, 37, 38, 8, 39, 40, 41, 42, 43, 44, 45, 46, 47, 48, 49, 50, 51, 52, 53, 54, 55, 56, 5, 6, 7, 9, 10, 57, 58, 59, 60, 61, 62, 63, 64, 65, 66, 67, 68, 69, 70, 71, 72, 73, 74, 75, 76, 77, 78, 79, 80, 81, 82, 83, 84, 85, 86, 87, 88, 89, 90, 91, 92, 93, 94, 95, 96, 97, 98, 99, 100, 101, 102, 103, 104, 105, 106, 107, 108, 109, 110, 111] (by decide +kernel) (by decide +kernel)
set_option maxRecDepth 20000 in
theorem gX10_enviedBy_X10_ofPiece : GoodIn wsX10_enviedBy (wsV RX10 89 RX10 yX10_ofPiece wsX10_ofPiece) := goodIn_app (goodIn_of _ (by decide +kernel)) ggX10_enviedBy_X10_ofPiece
theorem dX10_enviedBy_0 : decode cX10_enviedBy 0 = .ok (.aload_n 0, 1) := by decide +kernel
theorem dX10_enviedBy_1 : decode cX10_enviedBy 1 = .ok (.getfield 9, 3) := by decide +kernel
theorem dX10_enviedBy_4 : decode cX10_enviedBy 4 = .ok (.iload_n 1, 1) := by decide +kernel
theorem dX10_enviedBy_5 : decode cX10_enviedBy 5 = .ok (.invokevirtual 53, 3) := by decide +kernel
theorem dX10_enviedBy_8 : decode cX10_enviedBy 8 = .ok (.ifCond .ne 5, 3) := by decide +kernel
theorem dX10_enviedBy_11 : decode cX10_enviedBy 11 = .ok (.iconst 0, 1) := by decide +kernel
theorem dX10_enviedBy_12 : decode cX10_enviedBy 12 = .ok (.ireturn, 1) := by decide +kernel
theorem dX10_enviedBy_13 : decode cX10_enviedBy 13 = .ok (.aload_n 0, 1) := by decide +kernel
theorem dX10_enviedBy_14 : decode cX10_enviedBy 14 = .ok (.iload_n 1, 1) := by decide +kernel
theorem dX10_enviedBy_15 : decode cX10_enviedBy 15 = .ok (.aload_n 0, 1) := by decide +kernel
theorem dX10_enviedBy_16 : decode cX10_enviedBy 16 = .ok (.getfield 15, 3) := by decide +kernel
theorem dX10_enviedBy_19 : decode cX10_enviedBy 19 = .ok (.getfield 86, 3) := by decide +kernel
theorem dX10_enviedBy_22 : decode cX10_enviedBy 22 = .ok (.iload_n 1, 1) := by decide +kernel
theorem dX10_enviedBy_23 : decode cX10_enviedBy 23 = .ok (.iaload, 1) := by decide +kernel
theorem dX10_enviedBy_24 : decode cX10_enviedBy 24 = .ok (.iconst 0, 1) := by decide +kernel
theorem dX10_enviedBy_25 : decode cX10_enviedBy 25 = .ok (.invokevirtual 89, 3) := by decide +kernel
theorem dX10_enviedBy_28 : decode cX10_enviedBy 28 = .ok (.istore_n 2, 1) := by decide +kernel
theorem dX10_enviedBy_29 : decode cX10_enviedBy 29 = .ok (.iconst 0, 1) := by decide +kernel
theorem dX10_enviedBy_30 : decode cX10_enviedBy 30 = .ok (.istore_n 3, 1) := by decide +kernel
theorem dX10_enviedBy_31 : decode cX10_enviedBy 31 = .ok (.iconst 0, 1) := by decide +kernel
theorem dX10_enviedBy_32 : decode cX10_enviedBy 32 = .ok (.istore 4, 2) := by decide +kernel
theorem dX10_enviedBy_34 : decode cX10_enviedBy 34 = .ok (.iload 4, 2) := by decide +kernel
theorem dX10_enviedBy_36 : decode cX10_enviedBy 36 = .ok (.aload_n 0, 1) := by decide +kernel
theorem dX10_enviedBy_37 : decode cX10_enviedBy 37 = .ok (.getfield 9, 3) := by decide +kernel
theorem dX10_enviedBy_40 : decode cX10_enviedBy 40 = .ok (.getfield 93, 3) := by decide +kernel
theorem dX10_enviedBy_43 : decode cX10_enviedBy 43 = .ok (.if_icmp .ge 68, 3) := by decide +kernel
theorem dX10_enviedBy_46 : decode cX10_enviedBy 46 = .ok (.iload 4, 2) := by decide +kernel
theorem dX10_enviedBy_48 : decode cX10_enviedBy 48 = .ok (.iload_n 1, 1) := by decide +kernel
theorem dX10_enviedBy_49 : decode cX10_enviedBy 49 = .ok (.if_icmp .eq 21, 3) := by decide +kernel
theorem dX10_enviedBy_52 : decode cX10_enviedBy 52 = .ok (.aload_n 0, 1) := by decide +kernel
theorem dX10_enviedBy_53 : decode cX10_enviedBy 53 = .ok (.getfield 15, 3) := by decide +kernel
theorem dX10_enviedBy_56 : decode cX10_enviedBy 56 = .ok (.getfield 86, 3) := by decide +kernel
theorem dX10_enviedBy_59 : decode cX10_enviedBy 59 = .ok (.iload 4, 2) := by decide +kernel
theorem dX10_enviedBy_61 : decode cX10_enviedBy 61 = .ok (.iaload, 1) := by decide +kernel
theorem dX10_enviedBy_62 : decode cX10_enviedBy 62 = .ok (.iconst (-1), 1) := by decide +kernel
theorem dX10_enviedBy_63 : decode cX10_enviedBy 63 = .ok (.if_icmp .eq 7, 3) := by decide +kernel
theorem dX10_enviedBy_66 : decode cX10_enviedBy 66 = .ok (.iconst 1, 1) := by decide +kernel
theorem dX10_enviedBy_67 : decode cX10_enviedBy 67 = .ok (.goto 4, 3) := by decide +kernel
theorem dX10_enviedBy_70 : decode cX10_enviedBy 70 = .ok (.iconst 0, 1) := by decide +kernel
theorem dX10_enviedBy_71 : decode cX10_enviedBy 71 = .ok (.istore 5, 2) := by decide +kernel
theorem dX10_enviedBy_73 : decode cX10_enviedBy 73 = .ok (.iload 5, 2) := by decide +kernel
theorem dX10_enviedBy_75 : decode cX10_enviedBy 75 = .ok (.ifCond .eq 30, 3) := by decide +kernel
theorem dX10_enviedBy_78 : decode cX10_enviedBy 78 = .ok (.aload_n 0, 1) := by decide +kernel
theorem dX10_enviedBy_79 : decode cX10_enviedBy 79 = .ok (.iload_n 1, 1) := by decide +kernel
theorem dX10_enviedBy_80 : decode cX10_enviedBy 80 = .ok (.aload_n 0, 1) := by decide +kernel
theorem dX10_enviedBy_81 : decode cX10_enviedBy 81 = .ok (.getfield 15, 3) := by decide +kernel
theorem dX10_enviedBy_84 : decode cX10_enviedBy 84 = .ok (.getfield 86, 3) := by decide +kernel
theorem dX10_enviedBy_87 : decode cX10_enviedBy 87 = .ok (.iload 4, 2) := by decide +kernel
theorem dX10_enviedBy_89 : decode cX10_enviedBy 89 = .ok (.iaload, 1) := by decide +kernel
theorem dX10_enviedBy_90 : decode cX10_enviedBy 90 = .ok (.iconst 0, 1) := by decide +kernel
theorem dX10_enviedBy_91 : decode cX10_enviedBy 91 = .ok (.invokevirtual 89, 3) := by decide +kernel
theorem dX10_enviedBy_94 : decode cX10_enviedBy 94 = .ok (.iload_n 2, 1) := by decide +kernel
theorem dX10_enviedBy_95 : decode cX10_enviedBy 95 = .ok (.if_icmp .le 10, 3) := by decide +kernel
theorem dX10_enviedBy_98 : decode cX10_enviedBy 98 = .ok (.iload_n 3, 1) := by decide +kernel
theorem dX10_enviedBy_99 : decode cX10_enviedBy 99 = .ok (.iconst 1, 1) := by decide +kernel
theorem dX10_enviedBy_100 : decode cX10_enviedBy 100 = .ok (.iload 4, 2) := by decide +kernel
theorem dX10_enviedBy_102 : decode cX10_enviedBy 102 = .ok (.ishl, 1) := by decide +kernel
theorem dX10_enviedBy_103 : decode cX10_enviedBy 103 = .ok (.ior, 1) := by decide +kernel
theorem dX10_enviedBy_104 : decode cX10_enviedBy 104 = .ok (.istore_n 3, 1) := by decide +kernel
theorem dX10_enviedBy_105 : decode cX10_enviedBy 105 = .ok (.iinc 4 1, 3) := by decide +kernel
theorem dX10_enviedBy_108 : decode cX10_enviedBy 108 = .ok (.goto (-74), 3) := by decide +kernel
theorem dX10_enviedBy_111 : decode cX10_enviedBy 111 = .ok (.iload_n 3, 1) := by decide +kernel
theorem dX10_enviedBy_112 : decode cX10_enviedBy 112 = .ok (.ireturn, 1) := by decide +kernel
set_option maxRecDepth 20000 in
theorem ggX10_findCalm_X10_ofPiece : GoodIn wsX10_findCalm wsX10_ofPiece := goodIn_r _ [13, 4, 14, 15, 16, 17, 18, 19, 20, 21, 22, 23, 12, 24, 25, 1, 26, 27, 28, 29, 30, 31, 32, 33, 34, 35, 36, 37, 38, 39, 40, 41, 42, 43, 44, 45, 46, 47, 48, 49, 50, 51, 52, 53, 54, 55, 56, 57, 58, 59, 60, 61, 62, 63, 64, 65, 66, 67, 68, 69, 70, 71, 72, 73, 74, 82, 83, 84, 85, 86, 87, 88, 105, 106, 107, 108, 109, 110, 89, 90, 91, 92, 93, 94, 95, 96, 97, 98, 99, 100, 101, 102, 103, 104, 111, 112, 113, 114, 115, 116, 117, 118, 119, 120, 121, 122] (by decide +kernel) (by decide +kernel)
set_option maxRecDepth 20000 in
theorem gX10_findCalm_X10_ofPiece : GoodIn wsX10_findCalm (wsV RX10 89 RX10 yX10_ofPiece wsX10_ofPiece) := goodIn_app (goodIn_of _ (by decide +kernel)) ggX10_findCalm_X10_ofPiece
set_option maxRecDepth 20000 in
theorem ggX10_findCalm_X10_enviesAfter : GoodIn wsX10_findCalm wsX10_enviesAfter := goodIn_r _ [78, 1, 2, 3, 4, 5, 79, 80, 12, 81, 82, 83, 84, 85, 86, 87, 88, 89, 90, 91, 92, 93, 94, 95, 96, 97, 98, 99, 100, 101, 102, 103, 104, 105, 106, 107, 108, 109, 110] (by decide +kernel) (by decide +kernel)
set_option maxRecDepth 20000 in
theorem gX10_findCalm_X10_enviesAfter : GoodIn wsX10_findCalm (wsV RX10 96 RX10 yX10_enviesAfter wsX10_enviesAfter) := goodIn_app (goodIn_of _ (by decide +kernel)) ggX10_findCalm_X10_enviesAfter
theorem dX10_findCalm_0 : decode cX10_findCalm 0 = .ok (.iconst 0, 1) := by decide +kernel
theorem dX10_findCalm_1 : decode cX10_findCalm 1 = .ok (.istore_n 1, 1) := by decide +kernel
theorem dX10_findCalm_2 : decode cX10_findCalm 2 = .ok (.iload_n 1, 1) := by decide +kernel
theorem dX10_findCalm_3 : decode cX10_findCalm 3 = .ok (.aload_n 0, 1) := by decide +kernel
theorem dX10_findCalm_4 : decode cX10_findCalm 4 = .ok (.getfield 9, 3) := by decide +kernel
theorem dX10_findCalm_7 : decode cX10_findCalm 7 = .ok (.getfield 93, 3) := by decide +kernel
theorem dX10_findCalm_10 : decode cX10_findCalm 10 = .ok (.if_icmp .ge 54, 3) := by decide +kernel
theorem dX10_findCalm_13 : decode cX10_findCalm 13 = .ok (.iconst 0, 1) := by decide +kernel
theorem dX10_findCalm_14 : decode cX10_findCalm 14 = .ok (.istore_n 2, 1) := by decide +kernel
theorem dX10_findCalm_15 : decode cX10_findCalm 15 = .ok (.iload_n 2, 1) := by decide +kernel
theorem dX10_findCalm_16 : decode cX10_findCalm 16 = .ok (.aload_n 0, 1) := by decide +kernel
theorem dX10_findCalm_17 : decode cX10_findCalm 17 = .ok (.getfield 9, 3) := by decide +kernel
theorem dX10_findCalm_20 : decode cX10_findCalm 20 = .ok (.getfield 93, 3) := by decide +kernel
theorem dX10_findCalm_23 : decode cX10_findCalm 23 = .ok (.if_icmp .ge 35, 3) := by decide +kernel
theorem dX10_findCalm_26 : decode cX10_findCalm 26 = .ok (.aload_n 0, 1) := by decide +kernel
theorem dX10_findCalm_27 : decode cX10_findCalm 27 = .ok (.getfield 25, 3) := by decide +kernel
theorem dX10_findCalm_30 : decode cX10_findCalm 30 = .ok (.iload_n 1, 1) := by decide +kernel
theorem dX10_findCalm_31 : decode cX10_findCalm 31 = .ok (.bipush 6, 2) := by decide +kernel
theorem dX10_findCalm_33 : decode cX10_findCalm 33 = .ok (.imul, 1) := by decide +kernel
theorem dX10_findCalm_34 : decode cX10_findCalm 34 = .ok (.iload_n 2, 1) := by decide +kernel
theorem dX10_findCalm_35 : decode cX10_findCalm 35 = .ok (.iadd, 1) := by decide +kernel
theorem dX10_findCalm_36 : decode cX10_findCalm 36 = .ok (.aload_n 0, 1) := by decide +kernel
theorem dX10_findCalm_37 : decode cX10_findCalm 37 = .ok (.iload_n 1, 1) := by decide +kernel
theorem dX10_findCalm_38 : decode cX10_findCalm 38 = .ok (.aload_n 0, 1) := by decide +kernel
theorem dX10_findCalm_39 : decode cX10_findCalm 39 = .ok (.getfield 15, 3) := by decide +kernel
theorem dX10_findCalm_42 : decode cX10_findCalm 42 = .ok (.getfield 86, 3) := by decide +kernel
theorem dX10_findCalm_45 : decode cX10_findCalm 45 = .ok (.iload_n 2, 1) := by decide +kernel
theorem dX10_findCalm_46 : decode cX10_findCalm 46 = .ok (.iaload, 1) := by decide +kernel
theorem dX10_findCalm_47 : decode cX10_findCalm 47 = .ok (.iconst 0, 1) := by decide +kernel
theorem dX10_findCalm_48 : decode cX10_findCalm 48 = .ok (.invokevirtual 89, 3) := by decide +kernel
theorem dX10_findCalm_51 : decode cX10_findCalm 51 = .ok (.iastore, 1) := by decide +kernel
theorem dX10_findCalm_52 : decode cX10_findCalm 52 = .ok (.iinc 2 1, 3) := by decide +kernel
theorem dX10_findCalm_55 : decode cX10_findCalm 55 = .ok (.goto (-40), 3) := by decide +kernel
theorem dX10_findCalm_58 : decode cX10_findCalm 58 = .ok (.iinc 1 1, 3) := by decide +kernel
theorem dX10_findCalm_61 : decode cX10_findCalm 61 = .ok (.goto (-59), 3) := by decide +kernel
theorem dX10_findCalm_64 : decode cX10_findCalm 64 = .ok (.aload_n 0, 1) := by decide +kernel
theorem dX10_findCalm_65 : decode cX10_findCalm 65 = .ok (.aload_n 0, 1) := by decide +kernel
theorem dX10_findCalm_66 : decode cX10_findCalm 66 = .ok (.iconst 0, 1) := by decide +kernel
theorem dX10_findCalm_67 : decode cX10_findCalm 67 = .ok (.iconst 0, 1) := by decide +kernel
theorem dX10_findCalm_68 : decode cX10_findCalm 68 = .ok (.invokevirtual 96, 3) := by decide +kernel
theorem dX10_findCalm_71 : decode cX10_findCalm 71 = .ok (.putfield 100, 3) := by decide +kernel
theorem dX10_findCalm_74 : decode cX10_findCalm 74 = .ok (.iconst 0, 1) := by decide +kernel
theorem dX10_findCalm_75 : decode cX10_findCalm 75 = .ok (.istore_n 1, 1) := by decide +kernel
theorem dX10_findCalm_76 : decode cX10_findCalm 76 = .ok (.iconst 0, 1) := by decide +kernel
theorem dX10_findCalm_77 : decode cX10_findCalm 77 = .ok (.istore_n 2, 1) := by decide +kernel
theorem dX10_findCalm_78 : decode cX10_findCalm 78 = .ok (.iload_n 2, 1) := by decide +kernel
theorem dX10_findCalm_79 : decode cX10_findCalm 79 = .ok (.aload_n 0, 1) := by decide +kernel
theorem dX10_findCalm_80 : decode cX10_findCalm 80 = .ok (.getfield 9, 3) := by decide +kernel
theorem dX10_findCalm_83 : decode cX10_findCalm 83 = .ok (.getfield 93, 3) := by decide +kernel
theorem dX10_findCalm_86 : decode cX10_findCalm 86 = .ok (.if_icmp .ge 91, 3) := by decide +kernel
theorem dX10_findCalm_89 : decode cX10_findCalm 89 = .ok (.iload_n 2, 1) := by decide +kernel
theorem dX10_findCalm_90 : decode cX10_findCalm 90 = .ok (.iconst 1, 1) := by decide +kernel
theorem dX10_findCalm_91 : decode cX10_findCalm 91 = .ok (.iadd, 1) := by decide +kernel
theorem dX10_findCalm_92 : decode cX10_findCalm 92 = .ok (.istore_n 3, 1) := by decide +kernel
theorem dX10_findCalm_93 : decode cX10_findCalm 93 = .ok (.iload_n 3, 1) := by decide +kernel
theorem dX10_findCalm_94 : decode cX10_findCalm 94 = .ok (.aload_n 0, 1) := by decide +kernel
theorem dX10_findCalm_95 : decode cX10_findCalm 95 = .ok (.getfield 9, 3) := by decide +kernel
theorem dX10_findCalm_98 : decode cX10_findCalm 98 = .ok (.getfield 93, 3) := by decide +kernel
theorem dX10_findCalm_101 : decode cX10_findCalm 101 = .ok (.if_icmp .ge 70, 3) := by decide +kernel
theorem dX10_findCalm_104 : decode cX10_findCalm 104 = .ok (.aload_n 0, 1) := by decide +kernel
theorem dX10_findCalm_105 : decode cX10_findCalm 105 = .ok (.getfield 15, 3) := by decide +kernel
theorem dX10_findCalm_108 : decode cX10_findCalm 108 = .ok (.getfield 86, 3) := by decide +kernel
theorem dX10_findCalm_111 : decode cX10_findCalm 111 = .ok (.iload_n 2, 1) := by decide +kernel
theorem dX10_findCalm_112 : decode cX10_findCalm 112 = .ok (.iaload, 1) := by decide +kernel
theorem dX10_findCalm_113 : decode cX10_findCalm 113 = .ok (.iconst (-1), 1) := by decide +kernel
theorem dX10_findCalm_114 : decode cX10_findCalm 114 = .ok (.if_icmp .eq 51, 3) := by decide +kernel
theorem dX10_findCalm_117 : decode cX10_findCalm 117 = .ok (.aload_n 0, 1) := by decide +kernel
theorem dX10_findCalm_118 : decode cX10_findCalm 118 = .ok (.getfield 15, 3) := by decide +kernel
theorem dX10_findCalm_121 : decode cX10_findCalm 121 = .ok (.getfield 86, 3) := by decide +kernel
theorem dX10_findCalm_124 : decode cX10_findCalm 124 = .ok (.iload_n 3, 1) := by decide +kernel
theorem dX10_findCalm_125 : decode cX10_findCalm 125 = .ok (.iaload, 1) := by decide +kernel
theorem dX10_findCalm_126 : decode cX10_findCalm 126 = .ok (.iconst (-1), 1) := by decide +kernel
theorem dX10_findCalm_127 : decode cX10_findCalm 127 = .ok (.if_icmp .eq 38, 3) := by decide +kernel
theorem dX10_findCalm_130 : decode cX10_findCalm 130 = .ok (.aload_n 0, 1) := by decide +kernel
theorem dX10_findCalm_131 : decode cX10_findCalm 131 = .ok (.iload_n 2, 1) := by decide +kernel
theorem dX10_findCalm_132 : decode cX10_findCalm 132 = .ok (.iload_n 3, 1) := by decide +kernel
theorem dX10_findCalm_133 : decode cX10_findCalm 133 = .ok (.invokevirtual 96, 3) := by decide +kernel
theorem dX10_findCalm_136 : decode cX10_findCalm 136 = .ok (.istore 4, 2) := by decide +kernel
theorem dX10_findCalm_138 : decode cX10_findCalm 138 = .ok (.iload 4, 2) := by decide +kernel
theorem dX10_findCalm_140 : decode cX10_findCalm 140 = .ok (.aload_n 0, 1) := by decide +kernel
theorem dX10_findCalm_141 : decode cX10_findCalm 141 = .ok (.getfield 100, 3) := by decide +kernel
theorem dX10_findCalm_144 : decode cX10_findCalm 144 = .ok (.if_icmp .ge 21, 3) := by decide +kernel
theorem dX10_findCalm_147 : decode cX10_findCalm 147 = .ok (.iconst 1, 1) := by decide +kernel
theorem dX10_findCalm_148 : decode cX10_findCalm 148 = .ok (.istore_n 1, 1) := by decide +kernel
theorem dX10_findCalm_149 : decode cX10_findCalm 149 = .ok (.aload_n 0, 1) := by decide +kernel
theorem dX10_findCalm_150 : decode cX10_findCalm 150 = .ok (.iload_n 2, 1) := by decide +kernel
theorem dX10_findCalm_151 : decode cX10_findCalm 151 = .ok (.putfield 103, 3) := by decide +kernel
theorem dX10_findCalm_154 : decode cX10_findCalm 154 = .ok (.aload_n 0, 1) := by decide +kernel
theorem dX10_findCalm_155 : decode cX10_findCalm 155 = .ok (.iload_n 3, 1) := by decide +kernel
theorem dX10_findCalm_156 : decode cX10_findCalm 156 = .ok (.putfield 106, 3) := by decide +kernel
theorem dX10_findCalm_159 : decode cX10_findCalm 159 = .ok (.aload_n 0, 1) := by decide +kernel
theorem dX10_findCalm_160 : decode cX10_findCalm 160 = .ok (.iload 4, 2) := by decide +kernel
theorem dX10_findCalm_162 : decode cX10_findCalm 162 = .ok (.putfield 100, 3) := by decide +kernel
theorem dX10_findCalm_165 : decode cX10_findCalm 165 = .ok (.iinc 3 1, 3) := by decide +kernel
theorem dX10_findCalm_168 : decode cX10_findCalm 168 = .ok (.goto (-75), 3) := by decide +kernel
theorem dX10_findCalm_171 : decode cX10_findCalm 171 = .ok (.iinc 2 1, 3) := by decide +kernel
theorem dX10_findCalm_174 : decode cX10_findCalm 174 = .ok (.goto (-96), 3) := by decide +kernel
theorem dX10_findCalm_177 : decode cX10_findCalm 177 = .ok (.iload_n 1, 1) := by decide +kernel
theorem dX10_findCalm_178 : decode cX10_findCalm 178 = .ok (.ireturn, 1) := by decide +kernel
set_option maxRecDepth 20000 in
theorem ggX10_enviesAfter_X10_exchanged : GoodIn wsX10_enviesAfter wsX10_exchanged := goodIn_r _ [9] (by decide +kernel) (by decide +kernel)
set_option maxRecDepth 20000 in
theorem gX10_enviesAfter_X10_exchanged : GoodIn wsX10_enviesAfter (va_wsS RX10 109 yX10_exchanged wsX10_exchanged) := goodIn_app (goodIn_of _ (by decide +kernel)) ggX10_enviesAfter_X10_exchanged
theorem dX10_enviesAfter_0 : decode cX10_enviesAfter 0 = .ok (.iconst 0, 1) := by decide +kernel
theorem dX10_enviesAfter_1 : decode cX10_enviesAfter 1 = .ok (.istore_n 3, 1) := by decide +kernel
theorem dX10_enviesAfter_2 : decode cX10_enviesAfter 2 = .ok (.iconst 0, 1) := by decide +kernel
theorem dX10_enviesAfter_3 : decode cX10_enviesAfter 3 = .ok (.istore 4, 2) := by decide +kernel
theorem dX10_enviesAfter_5 : decode cX10_enviesAfter 5 = .ok (.iload 4, 2) := by decide +kernel
theorem dX10_enviesAfter_7 : decode cX10_enviesAfter 7 = .ok (.aload_n 0, 1) := by decide +kernel
theorem dX10_enviesAfter_8 : decode cX10_enviesAfter 8 = .ok (.getfield 9, 3) := by decide +kernel
theorem dX10_enviesAfter_11 : decode cX10_enviesAfter 11 = .ok (.getfield 93, 3) := by decide +kernel
theorem dX10_enviesAfter_14 : decode cX10_enviesAfter 14 = .ok (.if_icmp .ge 110, 3) := by decide +kernel
theorem dX10_enviesAfter_17 : decode cX10_enviesAfter 17 = .ok (.iload 4, 2) := by decide +kernel
theorem dX10_enviesAfter_19 : decode cX10_enviesAfter 19 = .ok (.bipush 6, 2) := by decide +kernel
theorem dX10_enviesAfter_21 : decode cX10_enviesAfter 21 = .ok (.imul, 1) := by decide +kernel
theorem dX10_enviesAfter_22 : decode cX10_enviesAfter 22 = .ok (.istore 5, 2) := by decide +kernel
theorem dX10_enviesAfter_24 : decode cX10_enviesAfter 24 = .ok (.aload_n 0, 1) := by decide +kernel
theorem dX10_enviesAfter_25 : decode cX10_enviesAfter 25 = .ok (.getfield 25, 3) := by decide +kernel
theorem dX10_enviesAfter_28 : decode cX10_enviesAfter 28 = .ok (.iload 5, 2) := by decide +kernel
theorem dX10_enviesAfter_30 : decode cX10_enviesAfter 30 = .ok (.iload 4, 2) := by decide +kernel
theorem dX10_enviesAfter_32 : decode cX10_enviesAfter 32 = .ok (.iload_n 1, 1) := by decide +kernel
theorem dX10_enviesAfter_33 : decode cX10_enviesAfter 33 = .ok (.iload_n 2, 1) := by decide +kernel
theorem dX10_enviesAfter_34 : decode cX10_enviesAfter 34 = .ok (.invokestatic 109, 3) := by decide +kernel
theorem dX10_enviesAfter_37 : decode cX10_enviesAfter 37 = .ok (.iadd, 1) := by decide +kernel
theorem dX10_enviesAfter_38 : decode cX10_enviesAfter 38 = .ok (.iaload, 1) := by decide +kernel
theorem dX10_enviesAfter_39 : decode cX10_enviesAfter 39 = .ok (.istore 6, 2) := by decide +kernel
theorem dX10_enviesAfter_41 : decode cX10_enviesAfter 41 = .ok (.iconst 0, 1) := by decide +kernel
theorem dX10_enviesAfter_42 : decode cX10_enviesAfter 42 = .ok (.istore 7, 2) := by decide +kernel
theorem dX10_enviesAfter_44 : decode cX10_enviesAfter 44 = .ok (.iload 7, 2) := by decide +kernel
theorem dX10_enviesAfter_46 : decode cX10_enviesAfter 46 = .ok (.aload_n 0, 1) := by decide +kernel
theorem dX10_enviesAfter_47 : decode cX10_enviesAfter 47 = .ok (.getfield 9, 3) := by decide +kernel
theorem dX10_enviesAfter_50 : decode cX10_enviesAfter 50 = .ok (.getfield 93, 3) := by decide +kernel
theorem dX10_enviesAfter_53 : decode cX10_enviesAfter 53 = .ok (.if_icmp .ge 65, 3) := by decide +kernel
theorem dX10_enviesAfter_56 : decode cX10_enviesAfter 56 = .ok (.iload 7, 2) := by decide +kernel
theorem dX10_enviesAfter_58 : decode cX10_enviesAfter 58 = .ok (.iload 4, 2) := by decide +kernel
theorem dX10_enviesAfter_60 : decode cX10_enviesAfter 60 = .ok (.if_icmp .eq 21, 3) := by decide +kernel
theorem dX10_enviesAfter_63 : decode cX10_enviesAfter 63 = .ok (.aload_n 0, 1) := by decide +kernel
theorem dX10_enviesAfter_64 : decode cX10_enviesAfter 64 = .ok (.getfield 15, 3) := by decide +kernel
theorem dX10_enviesAfter_67 : decode cX10_enviesAfter 67 = .ok (.getfield 86, 3) := by decide +kernel
theorem dX10_enviesAfter_70 : decode cX10_enviesAfter 70 = .ok (.iload 7, 2) := by decide +kernel
theorem dX10_enviesAfter_72 : decode cX10_enviesAfter 72 = .ok (.iaload, 1) := by decide +kernel
theorem dX10_enviesAfter_73 : decode cX10_enviesAfter 73 = .ok (.iconst (-1), 1) := by decide +kernel
theorem dX10_enviesAfter_74 : decode cX10_enviesAfter 74 = .ok (.if_icmp .eq 7, 3) := by decide +kernel
theorem dX10_enviesAfter_77 : decode cX10_enviesAfter 77 = .ok (.iconst 1, 1) := by decide +kernel
theorem dX10_enviesAfter_78 : decode cX10_enviesAfter 78 = .ok (.goto 4, 3) := by decide +kernel
theorem dX10_enviesAfter_81 : decode cX10_enviesAfter 81 = .ok (.iconst 0, 1) := by decide +kernel
theorem dX10_enviesAfter_82 : decode cX10_enviesAfter 82 = .ok (.istore 8, 2) := by decide +kernel
theorem dX10_enviesAfter_84 : decode cX10_enviesAfter 84 = .ok (.iload 8, 2) := by decide +kernel
theorem dX10_enviesAfter_86 : decode cX10_enviesAfter 86 = .ok (.ifCond .eq 26, 3) := by decide +kernel
theorem dX10_enviesAfter_89 : decode cX10_enviesAfter 89 = .ok (.aload_n 0, 1) := by decide +kernel
theorem dX10_enviesAfter_90 : decode cX10_enviesAfter 90 = .ok (.getfield 25, 3) := by decide +kernel
theorem dX10_enviesAfter_93 : decode cX10_enviesAfter 93 = .ok (.iload 5, 2) := by decide +kernel
theorem dX10_enviesAfter_95 : decode cX10_enviesAfter 95 = .ok (.iload 7, 2) := by decide +kernel
theorem dX10_enviesAfter_97 : decode cX10_enviesAfter 97 = .ok (.iload_n 1, 1) := by decide +kernel
theorem dX10_enviesAfter_98 : decode cX10_enviesAfter 98 = .ok (.iload_n 2, 1) := by decide +kernel
theorem dX10_enviesAfter_99 : decode cX10_enviesAfter 99 = .ok (.invokestatic 109, 3) := by decide +kernel
theorem dX10_enviesAfter_102 : decode cX10_enviesAfter 102 = .ok (.iadd, 1) := by decide +kernel
theorem dX10_enviesAfter_103 : decode cX10_enviesAfter 103 = .ok (.iaload, 1) := by decide +kernel
theorem dX10_enviesAfter_104 : decode cX10_enviesAfter 104 = .ok (.iload 6, 2) := by decide +kernel
theorem dX10_enviesAfter_106 : decode cX10_enviesAfter 106 = .ok (.if_icmp .le 6, 3) := by decide +kernel
theorem dX10_enviesAfter_109 : decode cX10_enviesAfter 109 = .ok (.iinc 3 1, 3) := by decide +kernel
theorem dX10_enviesAfter_112 : decode cX10_enviesAfter 112 = .ok (.iinc 7 1, 3) := by decide +kernel
theorem dX10_enviesAfter_115 : decode cX10_enviesAfter 115 = .ok (.goto (-71), 3) := by decide +kernel
theorem dX10_enviesAfter_118 : decode cX10_enviesAfter 118 = .ok (.iinc 4 1, 3) := by decide +kernel
theorem dX10_enviesAfter_121 : decode cX10_enviesAfter 121 = .ok (.goto (-116), 3) := by decide +kernel
theorem dX10_enviesAfter_124 : decode cX10_enviesAfter 124 = .ok (.iload_n 3, 1) := by decide +kernel
theorem dX10_enviesAfter_125 : decode cX10_enviesAfter 125 = .ok (.ireturn, 1) := by decide +kernel
theorem dX10_exchanged_0 : decode cX10_exchanged 0 = .ok (.iload_n 0, 1) := by decide +kernel
theorem dX10_exchanged_1 : decode cX10_exchanged 1 = .ok (.iload_n 1, 1) := by decide +kernel
theorem dX10_exchanged_2 : decode cX10_exchanged 2 = .ok (.if_icmp .ne 7, 3) := by decide +kernel
theorem dX10_exchanged_5 : decode cX10_exchanged 5 = .ok (.iload_n 2, 1) := by decide +kernel
theorem dX10_exchanged_6 : decode cX10_exchanged 6 = .ok (.goto 13, 3) := by decide +kernel
theorem dX10_exchanged_9 : decode cX10_exchanged 9 = .ok (.iload_n 0, 1) := by decide +kernel
theorem dX10_exchanged_10 : decode cX10_exchanged 10 = .ok (.iload_n 2, 1) := by decide +kernel
theorem dX10_exchanged_11 : decode cX10_exchanged 11 = .ok (.if_icmp .ne 7, 3) := by decide +kernel
theorem dX10_exchanged_14 : decode cX10_exchanged 14 = .ok (.iload_n 1, 1) := by decide +kernel
theorem dX10_exchanged_15 : decode cX10_exchanged 15 = .ok (.goto 4, 3) := by decide +kernel
theorem dX10_exchanged_18 : decode cX10_exchanged 18 = .ok (.iload_n 0, 1) := by decide +kernel
theorem dX10_exchanged_19 : decode cX10_exchanged 19 = .ok (.ireturn, 1) := by decide +kernel
theorem dJ6_bitCount_0f7a4_0 : decode cJ6_bitCount_0f7a4 0 = .ok (.iload_n 0, 1) := by decide +kernel
theorem dJ6_bitCount_0f7a4_1 : decode cJ6_bitCount_0f7a4 1 = .ok (.iload_n 0, 1) := by decide +kernel
theorem dJ6_bitCount_0f7a4_2 : decode cJ6_bitCount_0f7a4 2 = .ok (.iconst 1, 1) := by decide +kernel
theorem dJ6_bitCount_0f7a4_3 : decode cJ6_bitCount_0f7a4 3 = .ok (.iushr, 1) := by decide +kernel
theorem dJ6_bitCount_0f7a4_4 : decode cJ6_bitCount_0f7a4 4 = .ok (.ldc_w 265, 3) := by decide +kernel
theorem dJ6_bitCount_0f7a4_7 : decode cJ6_bitCount_0f7a4 7 = .ok (.iand, 1) := by decide +kernel
theorem dJ6_bitCount_0f7a4_8 : decode cJ6_bitCount_0f7a4 8 = .ok (.isub, 1) := by decide +kernel
theorem dJ6_bitCount_0f7a4_9 : decode cJ6_bitCount_0f7a4 9 = .ok (.istore_n 0, 1) := by decide +kernel
theorem dJ6_bitCount_0f7a4_10 : decode cJ6_bitCount_0f7a4 10 = .ok (.iload_n 0, 1) := by decide +kernel
theorem dJ6_bitCount_0f7a4_11 : decode cJ6_bitCount_0f7a4 11 = .ok (.ldc_w 266, 3) := by decide +kernel
theorem dJ6_bitCount_0f7a4_14 : decode cJ6_bitCount_0f7a4 14 = .ok (.iand, 1) := by decide +kernel
theorem dJ6_bitCount_0f7a4_15 : decode cJ6_bitCount_0f7a4 15 = .ok (.iload_n 0, 1) := by decide +kernel
theorem dJ6_bitCount_0f7a4_16 : decode cJ6_bitCount_0f7a4 16 = .ok (.iconst 2, 1) := by decide +kernel
theorem dJ6_bitCount_0f7a4_17 : decode cJ6_bitCount_0f7a4 17 = .ok (.iushr, 1) := by decide +kernel
theorem dJ6_bitCount_0f7a4_18 : decode cJ6_bitCount_0f7a4 18 = .ok (.ldc_w 266, 3) := by decide +kernel
theorem dJ6_bitCount_0f7a4_21 : decode cJ6_bitCount_0f7a4 21 = .ok (.iand, 1) := by decide +kernel
theorem dJ6_bitCount_0f7a4_22 : decode cJ6_bitCount_0f7a4 22 = .ok (.iadd, 1) := by decide +kernel
theorem dJ6_bitCount_0f7a4_23 : decode cJ6_bitCount_0f7a4 23 = .ok (.istore_n 0, 1) := by decide +kernel
theorem dJ6_bitCount_0f7a4_24 : decode cJ6_bitCount_0f7a4 24 = .ok (.iload_n 0, 1) := by decide +kernel
theorem dJ6_bitCount_0f7a4_25 : decode cJ6_bitCount_0f7a4 25 = .ok (.iload_n 0, 1) := by decide +kernel
theorem dJ6_bitCount_0f7a4_26 : decode cJ6_bitCount_0f7a4 26 = .ok (.iconst 4, 1) := by decide +kernel
theorem dJ6_bitCount_0f7a4_27 : decode cJ6_bitCount_0f7a4 27 = .ok (.iushr, 1) := by decide +kernel
theorem dJ6_bitCount_0f7a4_28 : decode cJ6_bitCount_0f7a4 28 = .ok (.iadd, 1) := by decide +kernel
theorem dJ6_bitCount_0f7a4_29 : decode cJ6_bitCount_0f7a4 29 = .ok (.ldc_w 267, 3) := by decide +kernel
theorem dJ6_bitCount_0f7a4_32 : decode cJ6_bitCount_0f7a4 32 = .ok (.iand, 1) := by decide +kernel
theorem dJ6_bitCount_0f7a4_33 : decode cJ6_bitCount_0f7a4 33 = .ok (.istore_n 0, 1) := by decide +kernel
theorem dJ6_bitCount_0f7a4_34 : decode cJ6_bitCount_0f7a4 34 = .ok (.iload_n 0, 1) := by decide +kernel
theorem dJ6_bitCount_0f7a4_35 : decode cJ6_bitCount_0f7a4 35 = .ok (.iload_n 0, 1) := by decide +kernel
theorem dJ6_bitCount_0f7a4_36 : decode cJ6_bitCount_0f7a4 36 = .ok (.bipush 8, 2) := by decide +kernel
theorem dJ6_bitCount_0f7a4_38 : decode cJ6_bitCount_0f7a4 38 = .ok (.iushr, 1) := by decide +kernel
theorem dJ6_bitCount_0f7a4_39 : decode cJ6_bitCount_0f7a4 39 = .ok (.iadd, 1) := by decide +kernel
theorem dJ6_bitCount_0f7a4_40 : decode cJ6_bitCount_0f7a4 40 = .ok (.istore_n 0, 1) := by decide +kernel
theorem dJ6_bitCount_0f7a4_41 : decode cJ6_bitCount_0f7a4 41 = .ok (.iload_n 0, 1) := by decide +kernel
theorem dJ6_bitCount_0f7a4_42 : decode cJ6_bitCount_0f7a4 42 = .ok (.iload_n 0, 1) := by decide +kernel
theorem dJ6_bitCount_0f7a4_43 : decode cJ6_bitCount_0f7a4 43 = .ok (.bipush 16, 2) := by decide +kernel
theorem dJ6_bitCount_0f7a4_45 : decode cJ6_bitCount_0f7a4 45 = .ok (.iushr, 1) := by decide +kernel
theorem dJ6_bitCount_0f7a4_46 : decode cJ6_bitCount_0f7a4 46 = .ok (.iadd, 1) := by decide +kernel
theorem dJ6_bitCount_0f7a4_47 : decode cJ6_bitCount_0f7a4 47 = .ok (.istore_n 0, 1) := by decide +kernel
theorem dJ6_bitCount_0f7a4_48 : decode cJ6_bitCount_0f7a4 48 = .ok (.iload_n 0, 1) := by decide +kernel
theorem dJ6_bitCount_0f7a4_49 : decode cJ6_bitCount_0f7a4 49 = .ok (.bipush 63, 2) := by decide +kernel
theorem dJ6_bitCount_0f7a4_51 : decode cJ6_bitCount_0f7a4 51 = .ok (.iand, 1) := by decide +kernel
theorem dJ6_bitCount_0f7a4_52 : decode cJ6_bitCount_0f7a4 52 = .ok (.ireturn, 1) := by decide +kernel
