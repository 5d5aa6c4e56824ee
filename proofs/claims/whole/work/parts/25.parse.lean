set_option maxRecDepth 20000 in
theorem ggX6_unit_X6_isSign : GoodIn wsX6_unit wsX6_isSign := goodIn_r _ [7, 1, 8, 9, 109, 110, 111, 112, 113, 114, 115, 116, 117, 118, 119, 120, 121] (by decide +kernel) (by decide +kernel)
set_option maxRecDepth 20000 in
theorem gX6_unit_X6_isSign : GoodIn wsX6_unit (wsV RX6 180 RX6 yX6_isSign wsX6_isSign) := goodIn_app (goodIn_of _ (by decide +kernel)) ggX6_unit_X6_isSign
set_option maxRecDepth 20000 in
theorem ggX6_unit_X6_plainUnit : GoodIn wsX6_unit wsX6_plainUnit := goodIn_r _ [13, 8, 14, 109, 110, 111, 112, 113, 114, 115, 116, 117, 118, 119, 120, 121] (by decide +kernel) (by decide +kernel)
set_option maxRecDepth 20000 in
theorem gX6_unit_X6_plainUnit : GoodIn wsX6_unit (wsV RX6 189 RX6 yX6_plainUnit wsX6_plainUnit) := goodIn_app (goodIn_of _ (by decide +kernel)) ggX6_unit_X6_plainUnit
set_option maxRecDepth 20000 in
theorem ggX6_unit_X2_countUnit : GoodIn wsX6_unit wsX2_countUnit := goodIn_r _ [19, 20, 122, 123, 124, 125, 126] (by decide +kernel) (by decide +kernel)
set_option maxRecDepth 20000 in
theorem gX6_unit_X2_countUnit : GoodIn wsX6_unit (wsV RX6 192 RX2 yX2_countUnit wsX2_countUnit) := goodIn_app (goodIn_of _ (by decide +kernel)) ggX6_unit_X2_countUnit
set_option maxRecDepth 20000 in
theorem ggX6_unit_X6_refuse : GoodIn wsX6_unit wsX6_refuse := goodIn_r _ [24, 8, 25, 26, 27, 6, 28, 1, 29, 30, 109, 110, 111, 112, 113, 114, 115, 116, 117, 118, 119, 120, 121] (by decide +kernel) (by decide +kernel)
set_option maxRecDepth 20000 in
theorem gX6_unit_X6_refuse : GoodIn wsX6_unit (wsV RX6 99 RX6 yX6_refuse wsX6_refuse) := goodIn_app (goodIn_of _ (by decide +kernel)) ggX6_unit_X6_refuse
set_option maxRecDepth 20000 in
theorem ggX6_unit_X2_add : GoodIn wsX6_unit wsX2_add := goodIn_r _ [34, 35, 36, 122, 123, 124, 125, 126] (by decide +kernel) (by decide +kernel)
set_option maxRecDepth 20000 in
theorem gX6_unit_X2_add : GoodIn wsX6_unit (wsV RX6 167 RX2 yX2_add wsX2_add) := goodIn_app (goodIn_of _ (by decide +kernel)) ggX6_unit_X2_add
set_option maxRecDepth 20000 in
theorem ggX6_unit_X6_advance : GoodIn wsX6_unit wsX6_advance := goodIn_r _ [40, 41, 42, 29, 8, 9, 43, 44, 45, 6, 46, 47, 48, 49, 50, 51, 52, 53, 54, 55, 56, 57, 58, 14, 59, 60, 61, 62, 63, 64, 65, 66, 67, 68, 69, 70, 2, 71, 72, 73, 109, 110, 111, 112, 113, 114, 115, 116, 117, 118, 119, 120, 121] (by decide +kernel) (by decide +kernel)
set_option maxRecDepth 20000 in
theorem gX6_unit_X6_advance : GoodIn wsX6_unit (wsV RX6 64 RX6 yX6_advance wsX6_advance) := goodIn_app (goodIn_of _ (by decide +kernel)) ggX6_unit_X6_advance
set_option maxRecDepth 20000 in
theorem ggX6_unit_X6_either : GoodIn wsX6_unit wsX6_either := goodIn_r _ [89, 90, 91, 92, 6, 85, 86, 87, 88, 1, 8, 14, 37, 38, 39, 40, 41, 42, 29, 9, 43, 44, 45, 46, 47, 48, 49, 50, 51, 52, 53, 54, 55, 56, 57, 58, 59, 60, 61, 62, 63, 64, 65, 66, 67, 68, 69, 70, 2, 71, 72, 73, 31, 32, 33, 18, 34, 35, 36, 81, 82, 83, 84, 93, 94, 95, 96, 21, 22, 23, 24, 25, 26, 27, 28, 30, 97, 98, 99, 100, 3, 4, 5, 7, 101, 102, 103, 104, 105, 106, 107, 108, 0, 10, 11, 12, 13, 15, 16, 17, 19, 20, 74, 75, 76, 77, 78, 79, 80, 109, 110, 111, 112, 113, 114, 115, 116, 117, 118, 119, 120, 121, 122, 123, 124, 125, 126] (by decide +kernel) (by decide +kernel)
set_option maxRecDepth 20000 in
theorem gX6_unit_X6_either : GoodIn wsX6_unit (wsV RX6 148 RX6 yX6_either wsX6_either) := goodIn_app (goodIn_of _ (by decide +kernel)) ggX6_unit_X6_either
set_option maxRecDepth 20000 in
theorem ggX6_unit_X6_expectSign : GoodIn wsX6_unit wsX6_expectSign := goodIn_r _ [80, 3, 4, 5, 6, 7, 1, 8, 9, 37, 38, 39, 40, 41, 42, 29, 43, 44, 45, 46, 47, 48, 49, 50, 51, 52, 53, 54, 55, 56, 57, 58, 14, 59, 60, 61, 62, 63, 64, 65, 66, 67, 68, 69, 70, 2, 71, 72, 73, 21, 22, 23, 24, 25, 26, 27, 28, 30, 109, 110, 111, 112, 113, 114, 115, 116, 117, 118, 119, 120, 121] (by decide +kernel) (by decide +kernel)
set_option maxRecDepth 20000 in
theorem gX6_unit_X6_expectSign : GoodIn wsX6_unit (wsV RX6 119 RX6 yX6_expectSign wsX6_expectSign) := goodIn_app (goodIn_of _ (by decide +kernel)) ggX6_unit_X6_expectSign
theorem dX6_unit_0 : decode cX6_unit 0 = .ok (.aload_n 0, 1) := by decide +kernel
theorem dX6_unit_1 : decode cX6_unit 1 = .ok (.bipush 40, 2) := by decide +kernel
theorem dX6_unit_3 : decode cX6_unit 3 = .ok (.invokevirtual 180, 3) := by decide +kernel
theorem dX6_unit_6 : decode cX6_unit 6 = .ok (.istore_n 3, 1) := by decide +kernel
theorem dX6_unit_7 : decode cX6_unit 7 = .ok (.aload_n 0, 1) := by decide +kernel
theorem dX6_unit_8 : decode cX6_unit 8 = .ok (.invokevirtual 189, 3) := by decide +kernel
theorem dX6_unit_11 : decode cX6_unit 11 = .ok (.istore 4, 2) := by decide +kernel
theorem dX6_unit_13 : decode cX6_unit 13 = .ok (.iload_n 3, 1) := by decide +kernel
theorem dX6_unit_14 : decode cX6_unit 14 = .ok (.ifCond .eq 17, 3) := by decide +kernel
theorem dX6_unit_17 : decode cX6_unit 17 = .ok (.iload_n 2, 1) := by decide +kernel
theorem dX6_unit_18 : decode cX6_unit 18 = .ok (.bipush 6, 2) := by decide +kernel
theorem dX6_unit_20 : decode cX6_unit 20 = .ok (.if_icmp .gt 7, 3) := by decide +kernel
theorem dX6_unit_23 : decode cX6_unit 23 = .ok (.iconst 1, 1) := by decide +kernel
theorem dX6_unit_24 : decode cX6_unit 24 = .ok (.goto 18, 3) := by decide +kernel
theorem dX6_unit_27 : decode cX6_unit 27 = .ok (.iconst 0, 1) := by decide +kernel
theorem dX6_unit_28 : decode cX6_unit 28 = .ok (.goto 14, 3) := by decide +kernel
theorem dX6_unit_31 : decode cX6_unit 31 = .ok (.iload 4, 2) := by decide +kernel
theorem dX6_unit_33 : decode cX6_unit 33 = .ok (.iconst (-1), 1) := by decide +kernel
theorem dX6_unit_34 : decode cX6_unit 34 = .ok (.if_icmp .eq 7, 3) := by decide +kernel
theorem dX6_unit_37 : decode cX6_unit 37 = .ok (.iconst 1, 1) := by decide +kernel
theorem dX6_unit_38 : decode cX6_unit 38 = .ok (.goto 4, 3) := by decide +kernel
theorem dX6_unit_41 : decode cX6_unit 41 = .ok (.iconst 0, 1) := by decide +kernel
theorem dX6_unit_42 : decode cX6_unit 42 = .ok (.istore 5, 2) := by decide +kernel
theorem dX6_unit_44 : decode cX6_unit 44 = .ok (.aload_n 0, 1) := by decide +kernel
theorem dX6_unit_45 : decode cX6_unit 45 = .ok (.getfield 56, 3) := by decide +kernel
theorem dX6_unit_48 : decode cX6_unit 48 = .ok (.ifCond .ne 15, 3) := by decide +kernel
theorem dX6_unit_51 : decode cX6_unit 51 = .ok (.iload 5, 2) := by decide +kernel
theorem dX6_unit_53 : decode cX6_unit 53 = .ok (.ifCond .eq 10, 3) := by decide +kernel
theorem dX6_unit_56 : decode cX6_unit 56 = .ok (.aload_n 1, 1) := by decide +kernel
theorem dX6_unit_57 : decode cX6_unit 57 = .ok (.invokevirtual 192, 3) := by decide +kernel
theorem dX6_unit_60 : decode cX6_unit 60 = .ok (.ifCond .ne 8, 3) := by decide +kernel
theorem dX6_unit_63 : decode cX6_unit 63 = .ok (.aload_n 0, 1) := by decide +kernel
theorem dX6_unit_64 : decode cX6_unit 64 = .ok (.invokevirtual 99, 3) := by decide +kernel
theorem dX6_unit_67 : decode cX6_unit 67 = .ok (.return_, 1) := by decide +kernel
theorem dX6_unit_68 : decode cX6_unit 68 = .ok (.iload_n 3, 1) := by decide +kernel
theorem dX6_unit_69 : decode cX6_unit 69 = .ok (.ifCond .ne 22, 3) := by decide +kernel
theorem dX6_unit_72 : decode cX6_unit 72 = .ok (.aload_n 1, 1) := by decide +kernel
theorem dX6_unit_73 : decode cX6_unit 73 = .ok (.iload 4, 2) := by decide +kernel
theorem dX6_unit_75 : decode cX6_unit 75 = .ok (.iload 4, 2) := by decide +kernel
theorem dX6_unit_77 : decode cX6_unit 77 = .ok (.ifCond .ne 10, 3) := by decide +kernel
theorem dX6_unit_80 : decode cX6_unit 80 = .ok (.aload_n 0, 1) := by decide +kernel
theorem dX6_unit_81 : decode cX6_unit 81 = .ok (.getfield 196, 3) := by decide +kernel
theorem dX6_unit_84 : decode cX6_unit 84 = .ok (.goto 4, 3) := by decide +kernel
theorem dX6_unit_87 : decode cX6_unit 87 = .ok (.iconst 0, 1) := by decide +kernel
theorem dX6_unit_88 : decode cX6_unit 88 = .ok (.invokevirtual 167, 3) := by decide +kernel
theorem dX6_unit_91 : decode cX6_unit 91 = .ok (.aload_n 0, 1) := by decide +kernel
theorem dX6_unit_92 : decode cX6_unit 92 = .ok (.invokevirtual 64, 3) := by decide +kernel
theorem dX6_unit_95 : decode cX6_unit 95 = .ok (.iload_n 3, 1) := by decide +kernel
theorem dX6_unit_96 : decode cX6_unit 96 = .ok (.ifCond .eq 17, 3) := by decide +kernel
theorem dX6_unit_99 : decode cX6_unit 99 = .ok (.aload_n 0, 1) := by decide +kernel
theorem dX6_unit_100 : decode cX6_unit 100 = .ok (.aload_n 1, 1) := by decide +kernel
theorem dX6_unit_101 : decode cX6_unit 101 = .ok (.iload_n 2, 1) := by decide +kernel
theorem dX6_unit_102 : decode cX6_unit 102 = .ok (.iconst 1, 1) := by decide +kernel
theorem dX6_unit_103 : decode cX6_unit 103 = .ok (.iadd, 1) := by decide +kernel
theorem dX6_unit_104 : decode cX6_unit 104 = .ok (.invokevirtual 148, 3) := by decide +kernel
theorem dX6_unit_107 : decode cX6_unit 107 = .ok (.aload_n 0, 1) := by decide +kernel
theorem dX6_unit_108 : decode cX6_unit 108 = .ok (.bipush 41, 2) := by decide +kernel
theorem dX6_unit_110 : decode cX6_unit 110 = .ok (.invokevirtual 119, 3) := by decide +kernel
theorem dX6_unit_113 : decode cX6_unit 113 = .ok (.return_, 1) := by decide +kernel
set_option maxRecDepth 20000 in
theorem ggX6_term_X6_unit : GoodIn wsX6_term wsX6_unit := goodIn_r _ [92, 9, 48, 5, 6, 7, 4, 8, 10, 11, 93, 94, 95, 96, 35, 97, 98, 99, 55, 100, 101, 75, 76, 77, 78, 79, 80, 81, 82, 18, 83, 52, 53, 54, 56, 57, 58, 12, 13, 14, 15, 16, 17, 19, 20, 21, 22, 23, 24, 25, 26, 27, 28, 29, 30, 31, 32, 33, 34, 36, 37, 38, 39, 40, 41, 42, 43, 44, 45, 46, 47, 49, 50, 51, 102, 103, 104, 105, 106, 107, 108, 59, 60, 61, 62, 63, 64, 65, 66, 67, 68, 69, 70, 71, 72, 73, 74, 84, 85, 86, 87, 88, 89, 90, 91, 0, 1, 2, 3, 109, 110, 111, 112, 113, 114, 115, 116, 117, 118, 119, 120, 121, 122, 123, 124, 125, 126] (by decide +kernel) (by decide +kernel)
set_option maxRecDepth 20000 in
theorem gX6_term_X6_unit : GoodIn wsX6_term (wsV RX6 186 RX6 yX6_unit wsX6_unit) := goodIn_app (goodIn_of _ (by decide +kernel)) ggX6_term_X6_unit
set_option maxRecDepth 20000 in
theorem ggX6_term_X6_isSign : GoodIn wsX6_term wsX6_isSign := goodIn_r _ [8, 9, 10, 11, 109, 110, 111, 112, 113, 114, 115, 116, 117, 118, 119, 120, 121] (by decide +kernel) (by decide +kernel)
set_option maxRecDepth 20000 in
theorem gX6_term_X6_isSign : GoodIn wsX6_term (wsV RX6 180 RX6 yX6_isSign wsX6_isSign) := goodIn_app (goodIn_of _ (by decide +kernel)) ggX6_term_X6_isSign
set_option maxRecDepth 20000 in
theorem ggX6_term_X6_advance : GoodIn wsX6_term wsX6_advance := goodIn_r _ [15, 16, 17, 18, 10, 11, 19, 20, 21, 4, 22, 23, 24, 25, 26, 27, 28, 29, 30, 31, 32, 33, 34, 35, 36, 37, 38, 39, 40, 41, 42, 43, 44, 45, 46, 47, 48, 49, 50, 51, 109, 110, 111, 112, 113, 114, 115, 116, 117, 118, 119, 120, 121] (by decide +kernel) (by decide +kernel)
set_option maxRecDepth 20000 in
theorem gX6_term_X6_advance : GoodIn wsX6_term (wsV RX6 64 RX6 yX6_advance wsX6_advance) := goodIn_app (goodIn_of _ (by decide +kernel)) ggX6_term_X6_advance
set_option maxRecDepth 20000 in
theorem ggX6_term_X2_add : GoodIn wsX6_term wsX2_add := goodIn_r _ [56, 57, 58, 122, 123, 124, 125, 126] (by decide +kernel) (by decide +kernel)
set_option maxRecDepth 20000 in
theorem gX6_term_X2_add : GoodIn wsX6_term (wsV RX6 167 RX2 yX2_add wsX2_add) := goodIn_app (goodIn_of _ (by decide +kernel)) ggX6_term_X2_add
theorem dX6_term_0 : decode cX6_term 0 = .ok (.aload_n 0, 1) := by decide +kernel
theorem dX6_term_1 : decode cX6_term 1 = .ok (.aload_n 1, 1) := by decide +kernel
theorem dX6_term_2 : decode cX6_term 2 = .ok (.iload_n 2, 1) := by decide +kernel
theorem dX6_term_3 : decode cX6_term 3 = .ok (.invokevirtual 186, 3) := by decide +kernel
theorem dX6_term_6 : decode cX6_term 6 = .ok (.iconst 0, 1) := by decide +kernel
theorem dX6_term_7 : decode cX6_term 7 = .ok (.istore_n 3, 1) := by decide +kernel
theorem dX6_term_8 : decode cX6_term 8 = .ok (.iload_n 3, 1) := by decide +kernel
theorem dX6_term_9 : decode cX6_term 9 = .ok (.sipush 1600, 3) := by decide +kernel
theorem dX6_term_12 : decode cX6_term 12 = .ok (.if_icmp .ge 85, 3) := by decide +kernel
theorem dX6_term_15 : decode cX6_term 15 = .ok (.aload_n 0, 1) := by decide +kernel
theorem dX6_term_16 : decode cX6_term 16 = .ok (.bipush 42, 2) := by decide +kernel
theorem dX6_term_18 : decode cX6_term 18 = .ok (.invokevirtual 180, 3) := by decide +kernel
theorem dX6_term_21 : decode cX6_term 21 = .ok (.ifCond .ne 21, 3) := by decide +kernel
theorem dX6_term_24 : decode cX6_term 24 = .ok (.aload_n 0, 1) := by decide +kernel
theorem dX6_term_25 : decode cX6_term 25 = .ok (.bipush 47, 2) := by decide +kernel
theorem dX6_term_27 : decode cX6_term 27 = .ok (.invokevirtual 180, 3) := by decide +kernel
theorem dX6_term_30 : decode cX6_term 30 = .ok (.ifCond .ne 12, 3) := by decide +kernel
theorem dX6_term_33 : decode cX6_term 33 = .ok (.aload_n 0, 1) := by decide +kernel
theorem dX6_term_34 : decode cX6_term 34 = .ok (.bipush 37, 2) := by decide +kernel
theorem dX6_term_36 : decode cX6_term 36 = .ok (.invokevirtual 180, 3) := by decide +kernel
theorem dX6_term_39 : decode cX6_term 39 = .ok (.ifCond .eq 58, 3) := by decide +kernel
theorem dX6_term_42 : decode cX6_term 42 = .ok (.aload_n 0, 1) := by decide +kernel
theorem dX6_term_43 : decode cX6_term 43 = .ok (.bipush 42, 2) := by decide +kernel
theorem dX6_term_45 : decode cX6_term 45 = .ok (.invokevirtual 180, 3) := by decide +kernel
theorem dX6_term_48 : decode cX6_term 48 = .ok (.ifCond .eq 8, 3) := by decide +kernel
theorem dX6_term_51 : decode cX6_term 51 = .ok (.bipush 15, 2) := by decide +kernel
theorem dX6_term_53 : decode cX6_term 53 = .ok (.goto 19, 3) := by decide +kernel
theorem dX6_term_56 : decode cX6_term 56 = .ok (.aload_n 0, 1) := by decide +kernel
theorem dX6_term_57 : decode cX6_term 57 = .ok (.bipush 47, 2) := by decide +kernel
theorem dX6_term_59 : decode cX6_term 59 = .ok (.invokevirtual 180, 3) := by decide +kernel
theorem dX6_term_62 : decode cX6_term 62 = .ok (.ifCond .eq 8, 3) := by decide +kernel
theorem dX6_term_65 : decode cX6_term 65 = .ok (.bipush 16, 2) := by decide +kernel
theorem dX6_term_67 : decode cX6_term 67 = .ok (.goto 5, 3) := by decide +kernel
theorem dX6_term_70 : decode cX6_term 70 = .ok (.bipush 17, 2) := by decide +kernel
theorem dX6_term_72 : decode cX6_term 72 = .ok (.istore 4, 2) := by decide +kernel
theorem dX6_term_74 : decode cX6_term 74 = .ok (.aload_n 0, 1) := by decide +kernel
theorem dX6_term_75 : decode cX6_term 75 = .ok (.invokevirtual 64, 3) := by decide +kernel
theorem dX6_term_78 : decode cX6_term 78 = .ok (.aload_n 0, 1) := by decide +kernel
theorem dX6_term_79 : decode cX6_term 79 = .ok (.aload_n 1, 1) := by decide +kernel
theorem dX6_term_80 : decode cX6_term 80 = .ok (.iload_n 2, 1) := by decide +kernel
theorem dX6_term_81 : decode cX6_term 81 = .ok (.invokevirtual 186, 3) := by decide +kernel
theorem dX6_term_84 : decode cX6_term 84 = .ok (.aload_n 1, 1) := by decide +kernel
theorem dX6_term_85 : decode cX6_term 85 = .ok (.iload 4, 2) := by decide +kernel
theorem dX6_term_87 : decode cX6_term 87 = .ok (.iconst 0, 1) := by decide +kernel
theorem dX6_term_88 : decode cX6_term 88 = .ok (.invokevirtual 167, 3) := by decide +kernel
theorem dX6_term_91 : decode cX6_term 91 = .ok (.iinc 3 1, 3) := by decide +kernel
theorem dX6_term_94 : decode cX6_term 94 = .ok (.goto (-86), 3) := by decide +kernel
theorem dX6_term_97 : decode cX6_term 97 = .ok (.return_, 1) := by decide +kernel
set_option maxRecDepth 20000 in
theorem ggX6_sum_X6_term : GoodIn wsX6_sum wsX6_term := goodIn_r _ [88, 89, 90, 91, 4, 5, 6, 7, 8, 9, 10, 11, 12, 13, 14, 15, 16, 17, 18, 19, 20, 21, 22, 23, 24, 25, 26, 27, 28, 29, 30, 31, 32, 33, 34, 35, 36, 37, 38, 39, 40, 41, 42, 43, 44, 45, 46, 47, 48, 49, 50, 51, 52, 53, 54, 55, 56, 57, 58, 59, 60, 61, 62, 63, 64, 65, 66, 67, 68, 69, 70, 71, 72, 73, 74, 75, 76, 77, 78, 79, 80, 81, 82, 83, 84, 85, 86, 87, 0, 1, 2, 3, 92, 93, 94, 95, 96, 97, 98, 99, 100, 101, 102, 103, 104, 105, 106, 107, 108, 109, 110, 111, 112, 113, 114, 115, 116, 117, 118, 119, 120, 121, 122, 123, 124, 125, 126] (by decide +kernel) (by decide +kernel)
set_option maxRecDepth 20000 in
theorem gX6_sum_X6_term : GoodIn wsX6_sum (wsV RX6 183 RX6 yX6_term wsX6_term) := goodIn_app (goodIn_of _ (by decide +kernel)) ggX6_sum_X6_term
set_option maxRecDepth 20000 in
theorem ggX6_sum_X6_isSign : GoodIn wsX6_sum wsX6_isSign := goodIn_r _ [8, 9, 10, 11, 109, 110, 111, 112, 113, 114, 115, 116, 117, 118, 119, 120, 121] (by decide +kernel) (by decide +kernel)
set_option maxRecDepth 20000 in
theorem gX6_sum_X6_isSign : GoodIn wsX6_sum (wsV RX6 180 RX6 yX6_isSign wsX6_isSign) := goodIn_app (goodIn_of _ (by decide +kernel)) ggX6_sum_X6_isSign
set_option maxRecDepth 20000 in
theorem ggX6_sum_X6_advance : GoodIn wsX6_sum wsX6_advance := goodIn_r _ [15, 16, 17, 18, 10, 11, 19, 20, 21, 4, 22, 23, 24, 25, 26, 27, 28, 29, 30, 31, 32, 33, 34, 35, 36, 37, 38, 39, 40, 41, 42, 43, 44, 45, 46, 47, 48, 49, 50, 51, 109, 110, 111, 112, 113, 114, 115, 116, 117, 118, 119, 120, 121] (by decide +kernel) (by decide +kernel)
set_option maxRecDepth 20000 in
theorem gX6_sum_X6_advance : GoodIn wsX6_sum (wsV RX6 64 RX6 yX6_advance wsX6_advance) := goodIn_app (goodIn_of _ (by decide +kernel)) ggX6_sum_X6_advance
set_option maxRecDepth 20000 in
theorem ggX6_sum_X2_add : GoodIn wsX6_sum wsX2_add := goodIn_r _ [56, 57, 58, 122, 123, 124, 125, 126] (by decide +kernel) (by decide +kernel)
set_option maxRecDepth 20000 in
theorem gX6_sum_X2_add : GoodIn wsX6_sum (wsV RX6 167 RX2 yX2_add wsX2_add) := goodIn_app (goodIn_of _ (by decide +kernel)) ggX6_sum_X2_add
theorem dX6_sum_0 : decode cX6_sum 0 = .ok (.aload_n 0, 1) := by decide +kernel
theorem dX6_sum_1 : decode cX6_sum 1 = .ok (.aload_n 1, 1) := by decide +kernel
theorem dX6_sum_2 : decode cX6_sum 2 = .ok (.iload_n 2, 1) := by decide +kernel
theorem dX6_sum_3 : decode cX6_sum 3 = .ok (.invokevirtual 183, 3) := by decide +kernel
theorem dX6_sum_6 : decode cX6_sum 6 = .ok (.iconst 0, 1) := by decide +kernel
theorem dX6_sum_7 : decode cX6_sum 7 = .ok (.istore_n 3, 1) := by decide +kernel
theorem dX6_sum_8 : decode cX6_sum 8 = .ok (.iload_n 3, 1) := by decide +kernel
theorem dX6_sum_9 : decode cX6_sum 9 = .ok (.sipush 1600, 3) := by decide +kernel
theorem dX6_sum_12 : decode cX6_sum 12 = .ok (.if_icmp .ge 62, 3) := by decide +kernel
theorem dX6_sum_15 : decode cX6_sum 15 = .ok (.aload_n 0, 1) := by decide +kernel
theorem dX6_sum_16 : decode cX6_sum 16 = .ok (.bipush 43, 2) := by decide +kernel
theorem dX6_sum_18 : decode cX6_sum 18 = .ok (.invokevirtual 180, 3) := by decide +kernel
theorem dX6_sum_21 : decode cX6_sum 21 = .ok (.ifCond .ne 12, 3) := by decide +kernel
theorem dX6_sum_24 : decode cX6_sum 24 = .ok (.aload_n 0, 1) := by decide +kernel
theorem dX6_sum_25 : decode cX6_sum 25 = .ok (.bipush 45, 2) := by decide +kernel
theorem dX6_sum_27 : decode cX6_sum 27 = .ok (.invokevirtual 180, 3) := by decide +kernel
theorem dX6_sum_30 : decode cX6_sum 30 = .ok (.ifCond .eq 44, 3) := by decide +kernel
theorem dX6_sum_33 : decode cX6_sum 33 = .ok (.aload_n 0, 1) := by decide +kernel
theorem dX6_sum_34 : decode cX6_sum 34 = .ok (.bipush 43, 2) := by decide +kernel
theorem dX6_sum_36 : decode cX6_sum 36 = .ok (.invokevirtual 180, 3) := by decide +kernel
theorem dX6_sum_39 : decode cX6_sum 39 = .ok (.ifCond .eq 8, 3) := by decide +kernel
theorem dX6_sum_42 : decode cX6_sum 42 = .ok (.bipush 13, 2) := by decide +kernel
theorem dX6_sum_44 : decode cX6_sum 44 = .ok (.goto 5, 3) := by decide +kernel
theorem dX6_sum_47 : decode cX6_sum 47 = .ok (.bipush 14, 2) := by decide +kernel
theorem dX6_sum_49 : decode cX6_sum 49 = .ok (.istore 4, 2) := by decide +kernel
theorem dX6_sum_51 : decode cX6_sum 51 = .ok (.aload_n 0, 1) := by decide +kernel
theorem dX6_sum_52 : decode cX6_sum 52 = .ok (.invokevirtual 64, 3) := by decide +kernel
theorem dX6_sum_55 : decode cX6_sum 55 = .ok (.aload_n 0, 1) := by decide +kernel
theorem dX6_sum_56 : decode cX6_sum 56 = .ok (.aload_n 1, 1) := by decide +kernel
theorem dX6_sum_57 : decode cX6_sum 57 = .ok (.iload_n 2, 1) := by decide +kernel
theorem dX6_sum_58 : decode cX6_sum 58 = .ok (.invokevirtual 183, 3) := by decide +kernel
theorem dX6_sum_61 : decode cX6_sum 61 = .ok (.aload_n 1, 1) := by decide +kernel
theorem dX6_sum_62 : decode cX6_sum 62 = .ok (.iload 4, 2) := by decide +kernel
theorem dX6_sum_64 : decode cX6_sum 64 = .ok (.iconst 0, 1) := by decide +kernel
theorem dX6_sum_65 : decode cX6_sum 65 = .ok (.invokevirtual 167, 3) := by decide +kernel
theorem dX6_sum_68 : decode cX6_sum 68 = .ok (.iinc 3 1, 3) := by decide +kernel
theorem dX6_sum_71 : decode cX6_sum 71 = .ok (.goto (-63), 3) := by decide +kernel
theorem dX6_sum_74 : decode cX6_sum 74 = .ok (.return_, 1) := by decide +kernel
set_option maxRecDepth 20000 in
theorem ggX6_relation_X6_sum : GoodIn wsX6_relation wsX6_sum := goodIn_r _ [84, 85, 86, 87, 4, 5, 6, 7, 8, 9, 10, 11, 12, 13, 14, 15, 16, 17, 18, 19, 20, 21, 22, 23, 24, 25, 26, 27, 28, 29, 30, 31, 32, 33, 34, 35, 36, 37, 38, 39, 40, 41, 42, 43, 44, 45, 46, 47, 48, 49, 50, 51, 52, 53, 54, 55, 56, 57, 58, 59, 60, 61, 62, 63, 64, 65, 66, 67, 68, 69, 70, 71, 72, 73, 74, 75, 76, 77, 78, 79, 80, 81, 82, 83, 0, 1, 2, 3, 88, 89, 90, 91, 92, 93, 94, 95, 96, 97, 98, 99, 100, 101, 102, 103, 104, 105, 106, 107, 108, 109, 110, 111, 112, 113, 114, 115, 116, 117, 118, 119, 120, 121, 122, 123, 124, 125, 126] (by decide +kernel) (by decide +kernel)
set_option maxRecDepth 20000 in
theorem gX6_relation_X6_sum : GoodIn wsX6_relation (wsV RX6 177 RX6 yX6_sum wsX6_sum) := goodIn_app (goodIn_of _ (by decide +kernel)) ggX6_relation_X6_sum
set_option maxRecDepth 20000 in
theorem ggX6_relation_X6_isSign : GoodIn wsX6_relation wsX6_isSign := goodIn_r _ [8, 9, 10, 11, 109, 110, 111, 112, 113, 114, 115, 116, 117, 118, 119, 120, 121] (by decide +kernel) (by decide +kernel)
set_option maxRecDepth 20000 in
theorem gX6_relation_X6_isSign : GoodIn wsX6_relation (wsV RX6 180 RX6 yX6_isSign wsX6_isSign) := goodIn_app (goodIn_of _ (by decide +kernel)) ggX6_relation_X6_isSign
set_option maxRecDepth 20000 in
theorem ggX6_relation_X6_advance : GoodIn wsX6_relation wsX6_advance := goodIn_r _ [15, 16, 17, 18, 10, 11, 19, 20, 21, 4, 22, 23, 24, 25, 26, 27, 28, 29, 30, 31, 32, 33, 34, 35, 36, 37, 38, 39, 40, 41, 42, 43, 44, 45, 46, 47, 48, 49, 50, 51, 109, 110, 111, 112, 113, 114, 115, 116, 117, 118, 119, 120, 121] (by decide +kernel) (by decide +kernel)
set_option maxRecDepth 20000 in
theorem gX6_relation_X6_advance : GoodIn wsX6_relation (wsV RX6 64 RX6 yX6_advance wsX6_advance) := goodIn_app (goodIn_of _ (by decide +kernel)) ggX6_relation_X6_advance
set_option maxRecDepth 20000 in
theorem ggX6_relation_X2_add : GoodIn wsX6_relation wsX2_add := goodIn_r _ [56, 57, 58, 122, 123, 124, 125, 126] (by decide +kernel) (by decide +kernel)
set_option maxRecDepth 20000 in
theorem gX6_relation_X2_add : GoodIn wsX6_relation (wsV RX6 167 RX2 yX2_add wsX2_add) := goodIn_app (goodIn_of _ (by decide +kernel)) ggX6_relation_X2_add
theorem dX6_relation_0 : decode cX6_relation 0 = .ok (.aload_n 0, 1) := by decide +kernel
theorem dX6_relation_1 : decode cX6_relation 1 = .ok (.aload_n 1, 1) := by decide +kernel
theorem dX6_relation_2 : decode cX6_relation 2 = .ok (.iload_n 2, 1) := by decide +kernel
theorem dX6_relation_3 : decode cX6_relation 3 = .ok (.invokevirtual 177, 3) := by decide +kernel
theorem dX6_relation_6 : decode cX6_relation 6 = .ok (.aload_n 0, 1) := by decide +kernel
theorem dX6_relation_7 : decode cX6_relation 7 = .ok (.bipush 60, 2) := by decide +kernel
theorem dX6_relation_9 : decode cX6_relation 9 = .ok (.invokevirtual 180, 3) := by decide +kernel
theorem dX6_relation_12 : decode cX6_relation 12 = .ok (.ifCond .eq 8, 3) := by decide +kernel
theorem dX6_relation_15 : decode cX6_relation 15 = .ok (.bipush 10, 2) := by decide +kernel
theorem dX6_relation_17 : decode cX6_relation 17 = .ok (.goto 32, 3) := by decide +kernel
theorem dX6_relation_20 : decode cX6_relation 20 = .ok (.aload_n 0, 1) := by decide +kernel
theorem dX6_relation_21 : decode cX6_relation 21 = .ok (.bipush 62, 2) := by decide +kernel
theorem dX6_relation_23 : decode cX6_relation 23 = .ok (.invokevirtual 180, 3) := by decide +kernel
theorem dX6_relation_26 : decode cX6_relation 26 = .ok (.ifCond .eq 8, 3) := by decide +kernel
theorem dX6_relation_29 : decode cX6_relation 29 = .ok (.bipush 11, 2) := by decide +kernel
theorem dX6_relation_31 : decode cX6_relation 31 = .ok (.goto 18, 3) := by decide +kernel
theorem dX6_relation_34 : decode cX6_relation 34 = .ok (.aload_n 0, 1) := by decide +kernel
theorem dX6_relation_35 : decode cX6_relation 35 = .ok (.bipush 61, 2) := by decide +kernel
theorem dX6_relation_37 : decode cX6_relation 37 = .ok (.invokevirtual 180, 3) := by decide +kernel
theorem dX6_relation_40 : decode cX6_relation 40 = .ok (.ifCond .eq 8, 3) := by decide +kernel
theorem dX6_relation_43 : decode cX6_relation 43 = .ok (.bipush 12, 2) := by decide +kernel
theorem dX6_relation_45 : decode cX6_relation 45 = .ok (.goto 4, 3) := by decide +kernel
theorem dX6_relation_48 : decode cX6_relation 48 = .ok (.iconst (-1), 1) := by decide +kernel
theorem dX6_relation_49 : decode cX6_relation 49 = .ok (.istore_n 3, 1) := by decide +kernel
theorem dX6_relation_50 : decode cX6_relation 50 = .ok (.iload_n 3, 1) := by decide +kernel
theorem dX6_relation_51 : decode cX6_relation 51 = .ok (.iconst (-1), 1) := by decide +kernel
theorem dX6_relation_52 : decode cX6_relation 52 = .ok (.if_icmp .eq 19, 3) := by decide +kernel
theorem dX6_relation_55 : decode cX6_relation 55 = .ok (.aload_n 0, 1) := by decide +kernel
theorem dX6_relation_56 : decode cX6_relation 56 = .ok (.invokevirtual 64, 3) := by decide +kernel
theorem dX6_relation_59 : decode cX6_relation 59 = .ok (.aload_n 0, 1) := by decide +kernel
theorem dX6_relation_60 : decode cX6_relation 60 = .ok (.aload_n 1, 1) := by decide +kernel
theorem dX6_relation_61 : decode cX6_relation 61 = .ok (.iload_n 2, 1) := by decide +kernel
theorem dX6_relation_62 : decode cX6_relation 62 = .ok (.invokevirtual 177, 3) := by decide +kernel
theorem dX6_relation_65 : decode cX6_relation 65 = .ok (.aload_n 1, 1) := by decide +kernel
theorem dX6_relation_66 : decode cX6_relation 66 = .ok (.iload_n 3, 1) := by decide +kernel
theorem dX6_relation_67 : decode cX6_relation 67 = .ok (.iconst 0, 1) := by decide +kernel
theorem dX6_relation_68 : decode cX6_relation 68 = .ok (.invokevirtual 167, 3) := by decide +kernel
theorem dX6_relation_71 : decode cX6_relation 71 = .ok (.return_, 1) := by decide +kernel
set_option maxRecDepth 20000 in
theorem ggX6_one_X6_isKeyword : GoodIn wsX6_one wsX6_isKeyword := goodIn_r _ [5, 6, 7, 8, 109, 110, 111, 112, 113, 114, 115, 116, 117, 118, 119, 120, 121] (by decide +kernel) (by decide +kernel)
set_option maxRecDepth 20000 in
theorem gX6_one_X6_isKeyword : GoodIn wsX6_one (wsV RX6 132 RX6 yX6_isKeyword wsX6_isKeyword) := goodIn_app (goodIn_of _ (by decide +kernel)) ggX6_one_X6_isKeyword
set_option maxRecDepth 20000 in
theorem ggX6_one_X6_relation : GoodIn wsX6_one wsX6_relation := goodIn_r _ [76, 77, 78, 79, 4, 80, 81, 82, 83, 6, 7, 28, 22, 23, 24, 25, 26, 27, 20, 29, 30, 31, 32, 33, 34, 35, 36, 37, 38, 39, 40, 41, 42, 43, 44, 8, 45, 46, 47, 48, 49, 50, 51, 52, 53, 54, 55, 56, 57, 58, 59, 60, 64, 65, 66, 67, 68, 69, 70, 71, 61, 62, 63, 1, 2, 3, 5, 72, 73, 74, 75, 0, 9, 10, 11, 12, 13, 14, 15, 16, 17, 18, 19, 21, 84, 85, 86, 87, 88, 89, 90, 91, 92, 93, 94, 95, 96, 97, 98, 99, 100, 101, 102, 103, 104, 105, 106, 107, 108, 109, 110, 111, 112, 113, 114, 115, 116, 117, 118, 119, 120, 121, 122, 123, 124, 125, 126] (by decide +kernel) (by decide +kernel)
set_option maxRecDepth 20000 in
theorem gX6_one_X6_relation : GoodIn wsX6_one (wsV RX6 174 RX6 yX6_relation wsX6_relation) := goodIn_app (goodIn_of _ (by decide +kernel)) ggX6_one_X6_relation
set_option maxRecDepth 20000 in
theorem ggX6_one_X6_refuse : GoodIn wsX6_one wsX6_refuse := goodIn_r _ [15, 7, 16, 17, 18, 4, 19, 6, 20, 21, 109, 110, 111, 112, 113, 114, 115, 116, 117, 118, 119, 120, 121] (by decide +kernel) (by decide +kernel)
set_option maxRecDepth 20000 in
theorem gX6_one_X6_refuse : GoodIn wsX6_one (wsV RX6 99 RX6 yX6_refuse wsX6_refuse) := goodIn_app (goodIn_of _ (by decide +kernel)) ggX6_one_X6_refuse
set_option maxRecDepth 20000 in
theorem ggX6_one_X6_advance : GoodIn wsX6_one wsX6_advance := goodIn_r _ [25, 26, 27, 20, 7, 28, 29, 30, 31, 4, 32, 33, 34, 35, 36, 37, 38, 39, 40, 41, 42, 43, 44, 8, 45, 46, 47, 48, 49, 50, 51, 52, 53, 54, 55, 56, 57, 58, 59, 60, 109, 110, 111, 112, 113, 114, 115, 116, 117, 118, 119, 120, 121] (by decide +kernel) (by decide +kernel)
set_option maxRecDepth 20000 in
theorem gX6_one_X6_advance : GoodIn wsX6_one (wsV RX6 64 RX6 yX6_advance wsX6_advance) := goodIn_app (goodIn_of _ (by decide +kernel)) ggX6_one_X6_advance
set_option maxRecDepth 20000 in
theorem ggX6_one_X6_one : GoodIn wsX6_one wsX6_one := goodIn_r _ [0, 1, 2, 3, 4, 5, 6, 7, 8, 9, 10, 11, 12, 13, 14, 15, 16, 17, 18, 19, 20, 21, 22, 23, 24, 25, 26, 27, 28, 29, 30, 31, 32, 33, 34, 35, 36, 37, 38, 39, 40, 41, 42, 43, 44, 45, 46, 47, 48, 49, 50, 51, 52, 53, 54, 55, 56, 57, 58, 59, 60, 61, 62, 63, 64, 65, 66, 67, 68, 69, 70, 71, 72, 73, 74, 75, 76, 77, 78, 79, 80, 81, 82, 83, 84, 85, 86, 87, 88, 89, 90, 91, 92, 93, 94, 95, 96, 97, 98, 99, 100, 101, 102, 103, 104, 105, 106, 107, 108, 109, 110, 111, 112, 113, 114, 115, 116, 117, 118, 119, 120, 121, 122, 123, 124, 125, 126] (by decide +kernel) (by decide +kernel)
set_option maxRecDepth 20000 in
theorem gX6_one_X6_one : GoodIn wsX6_one (wsV RX6 171 RX6 yX6_one wsX6_one) := goodIn_app (goodIn_of _ (by decide +kernel)) ggX6_one_X6_one
set_option maxRecDepth 20000 in
theorem ggX6_one_X2_add : GoodIn wsX6_one wsX2_add := goodIn_r _ [68, 69, 70, 122, 123, 124, 125, 126] (by decide +kernel) (by decide +kernel)
set_option maxRecDepth 20000 in
theorem gX6_one_X2_add : GoodIn wsX6_one (wsV RX6 167 RX2 yX2_add wsX2_add) := goodIn_app (goodIn_of _ (by decide +kernel)) ggX6_one_X2_add
theorem dX6_one_0 : decode cX6_one 0 = .ok (.aload_n 0, 1) := by decide +kernel
theorem dX6_one_1 : decode cX6_one 1 = .ok (.bipush 13, 2) := by decide +kernel
theorem dX6_one_3 : decode cX6_one 3 = .ok (.invokevirtual 132, 3) := by decide +kernel
theorem dX6_one_6 : decode cX6_one 6 = .ok (.ifCond .ne 10, 3) := by decide +kernel
theorem dX6_one_9 : decode cX6_one 9 = .ok (.aload_n 0, 1) := by decide +kernel
theorem dX6_one_10 : decode cX6_one 10 = .ok (.aload_n 1, 1) := by decide +kernel
theorem dX6_one_11 : decode cX6_one 11 = .ok (.iload_n 2, 1) := by decide +kernel
theorem dX6_one_12 : decode cX6_one 12 = .ok (.invokevirtual 174, 3) := by decide +kernel
theorem dX6_one_15 : decode cX6_one 15 = .ok (.return_, 1) := by decide +kernel
theorem dX6_one_16 : decode cX6_one 16 = .ok (.iload_n 2, 1) := by decide +kernel
theorem dX6_one_17 : decode cX6_one 17 = .ok (.bipush 6, 2) := by decide +kernel
theorem dX6_one_19 : decode cX6_one 19 = .ok (.if_icmp .le 8, 3) := by decide +kernel
theorem dX6_one_22 : decode cX6_one 22 = .ok (.aload_n 0, 1) := by decide +kernel
theorem dX6_one_23 : decode cX6_one 23 = .ok (.invokevirtual 99, 3) := by decide +kernel
theorem dX6_one_26 : decode cX6_one 26 = .ok (.return_, 1) := by decide +kernel
theorem dX6_one_27 : decode cX6_one 27 = .ok (.aload_n 0, 1) := by decide +kernel
theorem dX6_one_28 : decode cX6_one 28 = .ok (.invokevirtual 64, 3) := by decide +kernel
theorem dX6_one_31 : decode cX6_one 31 = .ok (.aload_n 0, 1) := by decide +kernel
theorem dX6_one_32 : decode cX6_one 32 = .ok (.aload_n 1, 1) := by decide +kernel
theorem dX6_one_33 : decode cX6_one 33 = .ok (.iload_n 2, 1) := by decide +kernel
theorem dX6_one_34 : decode cX6_one 34 = .ok (.iconst 1, 1) := by decide +kernel
theorem dX6_one_35 : decode cX6_one 35 = .ok (.iadd, 1) := by decide +kernel
theorem dX6_one_36 : decode cX6_one 36 = .ok (.invokevirtual 171, 3) := by decide +kernel
theorem dX6_one_39 : decode cX6_one 39 = .ok (.aload_n 1, 1) := by decide +kernel
theorem dX6_one_40 : decode cX6_one 40 = .ok (.bipush 7, 2) := by decide +kernel
theorem dX6_one_42 : decode cX6_one 42 = .ok (.iconst 0, 1) := by decide +kernel
theorem dX6_one_43 : decode cX6_one 43 = .ok (.invokevirtual 167, 3) := by decide +kernel
theorem dX6_one_46 : decode cX6_one 46 = .ok (.return_, 1) := by decide +kernel
set_option maxRecDepth 20000 in
theorem ggX6_both_X6_one : GoodIn wsX6_both wsX6_one := goodIn_r _ [63, 5, 6, 7, 4, 8, 9, 10, 11, 64, 65, 66, 67, 68, 69, 70, 71, 72, 73, 74, 18, 75, 12, 13, 14, 15, 16, 17, 19, 20, 21, 22, 23, 24, 25, 26, 27, 28, 29, 30, 31, 32, 33, 34, 35, 36, 37, 38, 39, 40, 41, 42, 43, 44, 45, 46, 47, 48, 49, 50, 51, 1, 2, 3, 52, 53, 54, 55, 56, 57, 58, 0, 59, 60, 61, 62, 76, 77, 78, 79, 80, 81, 82, 83, 84, 85, 86, 87, 88, 89, 90, 91, 92, 93, 94, 95, 96, 97, 98, 99, 100, 101, 102, 103, 104, 105, 106, 107, 108, 109, 110, 111, 112, 113, 114, 115, 116, 117, 118, 119, 120, 121, 122, 123, 124, 125, 126] (by decide +kernel) (by decide +kernel)
set_option maxRecDepth 20000 in
theorem gX6_both_X6_one : GoodIn wsX6_both (wsV RX6 171 RX6 yX6_one wsX6_one) := goodIn_app (goodIn_of _ (by decide +kernel)) ggX6_both_X6_one
set_option maxRecDepth 20000 in
theorem ggX6_both_X6_isKeyword : GoodIn wsX6_both wsX6_isKeyword := goodIn_r _ [8, 9, 10, 11, 109, 110, 111, 112, 113, 114, 115, 116, 117, 118, 119, 120, 121] (by decide +kernel) (by decide +kernel)
set_option maxRecDepth 20000 in
theorem gX6_both_X6_isKeyword : GoodIn wsX6_both (wsV RX6 132 RX6 yX6_isKeyword wsX6_isKeyword) := goodIn_app (goodIn_of _ (by decide +kernel)) ggX6_both_X6_isKeyword
set_option maxRecDepth 20000 in
theorem ggX6_both_X6_advance : GoodIn wsX6_both wsX6_advance := goodIn_r _ [15, 16, 17, 18, 10, 19, 20, 21, 22, 4, 23, 24, 25, 26, 27, 28, 29, 30, 31, 32, 33, 34, 35, 11, 36, 37, 38, 39, 40, 41, 42, 43, 44, 45, 46, 47, 48, 49, 50, 51, 109, 110, 111, 112, 113, 114, 115, 116, 117, 118, 119, 120, 121] (by decide +kernel) (by decide +kernel)
set_option maxRecDepth 20000 in
theorem gX6_both_X6_advance : GoodIn wsX6_both (wsV RX6 64 RX6 yX6_advance wsX6_advance) := goodIn_app (goodIn_of _ (by decide +kernel)) ggX6_both_X6_advance
set_option maxRecDepth 20000 in
theorem ggX6_both_X2_add : GoodIn wsX6_both wsX2_add := goodIn_r _ [56, 57, 58, 122, 123, 124, 125, 126] (by decide +kernel) (by decide +kernel)
set_option maxRecDepth 20000 in
theorem gX6_both_X2_add : GoodIn wsX6_both (wsV RX6 167 RX2 yX2_add wsX2_add) := goodIn_app (goodIn_of _ (by decide +kernel)) ggX6_both_X2_add
theorem dX6_both_0 : decode cX6_both 0 = .ok (.aload_n 0, 1) := by decide +kernel
theorem dX6_both_1 : decode cX6_both 1 = .ok (.aload_n 1, 1) := by decide +kernel
theorem dX6_both_2 : decode cX6_both 2 = .ok (.iload_n 2, 1) := by decide +kernel
theorem dX6_both_3 : decode cX6_both 3 = .ok (.invokevirtual 171, 3) := by decide +kernel
theorem dX6_both_6 : decode cX6_both 6 = .ok (.iconst 0, 1) := by decide +kernel
theorem dX6_both_7 : decode cX6_both 7 = .ok (.istore_n 3, 1) := by decide +kernel
theorem dX6_both_8 : decode cX6_both 8 = .ok (.iload_n 3, 1) := by decide +kernel
theorem dX6_both_9 : decode cX6_both 9 = .ok (.sipush 1600, 3) := by decide +kernel
theorem dX6_both_12 : decode cX6_both 12 = .ok (.if_icmp .ge 35, 3) := by decide +kernel
theorem dX6_both_15 : decode cX6_both 15 = .ok (.aload_n 0, 1) := by decide +kernel
theorem dX6_both_16 : decode cX6_both 16 = .ok (.bipush 12, 2) := by decide +kernel
theorem dX6_both_18 : decode cX6_both 18 = .ok (.invokevirtual 132, 3) := by decide +kernel
theorem dX6_both_21 : decode cX6_both 21 = .ok (.ifCond .eq 26, 3) := by decide +kernel
theorem dX6_both_24 : decode cX6_both 24 = .ok (.aload_n 0, 1) := by decide +kernel
theorem dX6_both_25 : decode cX6_both 25 = .ok (.invokevirtual 64, 3) := by decide +kernel
theorem dX6_both_28 : decode cX6_both 28 = .ok (.aload_n 0, 1) := by decide +kernel
theorem dX6_both_29 : decode cX6_both 29 = .ok (.aload_n 1, 1) := by decide +kernel
theorem dX6_both_30 : decode cX6_both 30 = .ok (.iload_n 2, 1) := by decide +kernel
theorem dX6_both_31 : decode cX6_both 31 = .ok (.invokevirtual 171, 3) := by decide +kernel
theorem dX6_both_34 : decode cX6_both 34 = .ok (.aload_n 1, 1) := by decide +kernel
theorem dX6_both_35 : decode cX6_both 35 = .ok (.bipush 9, 2) := by decide +kernel
theorem dX6_both_37 : decode cX6_both 37 = .ok (.iconst 0, 1) := by decide +kernel
theorem dX6_both_38 : decode cX6_both 38 = .ok (.invokevirtual 167, 3) := by decide +kernel
theorem dX6_both_41 : decode cX6_both 41 = .ok (.iinc 3 1, 3) := by decide +kernel
theorem dX6_both_44 : decode cX6_both 44 = .ok (.goto (-36), 3) := by decide +kernel
theorem dX6_both_47 : decode cX6_both 47 = .ok (.return_, 1) := by decide +kernel
set_option maxRecDepth 20000 in
theorem ggX6_either_X6_both : GoodIn wsX6_either wsX6_both := goodIn_r _ [59, 60, 61, 62, 4, 5, 6, 7, 8, 9, 10, 11, 12, 13, 14, 15, 16, 17, 18, 19, 20, 21, 22, 23, 24, 25, 26, 27, 28, 29, 30, 31, 32, 33, 34, 35, 36, 37, 38, 39, 40, 41, 42, 43, 44, 45, 46, 47, 48, 49, 50, 51, 52, 53, 54, 55, 56, 57, 58, 0, 1, 2, 3, 63, 64, 65, 66, 67, 68, 69, 70, 71, 72, 73, 74, 75, 76, 77, 78, 79, 80, 81, 82, 83, 84, 85, 86, 87, 88, 89, 90, 91, 92, 93, 94, 95, 96, 97, 98, 99, 100, 101, 102, 103, 104, 105, 106, 107, 108, 109, 110, 111, 112, 113, 114, 115, 116, 117, 118, 119, 120, 121, 122, 123, 124, 125, 126] (by decide +kernel) (by decide +kernel)
set_option maxRecDepth 20000 in
theorem gX6_either_X6_both : GoodIn wsX6_either (wsV RX6 164 RX6 yX6_both wsX6_both) := goodIn_app (goodIn_of _ (by decide +kernel)) ggX6_either_X6_both
set_option maxRecDepth 20000 in
theorem ggX6_either_X6_isKeyword : GoodIn wsX6_either wsX6_isKeyword := goodIn_r _ [8, 9, 10, 11, 109, 110, 111, 112, 113, 114, 115, 116, 117, 118, 119, 120, 121] (by decide +kernel) (by decide +kernel)
set_option maxRecDepth 20000 in
theorem gX6_either_X6_isKeyword : GoodIn wsX6_either (wsV RX6 132 RX6 yX6_isKeyword wsX6_isKeyword) := goodIn_app (goodIn_of _ (by decide +kernel)) ggX6_either_X6_isKeyword
set_option maxRecDepth 20000 in
theorem ggX6_either_X6_advance : GoodIn wsX6_either wsX6_advance := goodIn_r _ [15, 16, 17, 18, 10, 19, 20, 21, 22, 4, 23, 24, 25, 26, 27, 28, 29, 30, 31, 32, 33, 34, 35, 11, 36, 37, 38, 39, 40, 41, 42, 43, 44, 45, 46, 47, 48, 49, 50, 51, 109, 110, 111, 112, 113, 114, 115, 116, 117, 118, 119, 120, 121] (by decide +kernel) (by decide +kernel)
set_option maxRecDepth 20000 in
theorem gX6_either_X6_advance : GoodIn wsX6_either (wsV RX6 64 RX6 yX6_advance wsX6_advance) := goodIn_app (goodIn_of _ (by decide +kernel)) ggX6_either_X6_advance
set_option maxRecDepth 20000 in
theorem ggX6_either_X2_add : GoodIn wsX6_either wsX2_add := goodIn_r _ [56, 57, 58, 122, 123, 124, 125, 126] (by decide +kernel) (by decide +kernel)
set_option maxRecDepth 20000 in
theorem gX6_either_X2_add : GoodIn wsX6_either (wsV RX6 167 RX2 yX2_add wsX2_add) := goodIn_app (goodIn_of _ (by decide +kernel)) ggX6_either_X2_add
theorem dX6_either_0 : decode cX6_either 0 = .ok (.aload_n 0, 1) := by decide +kernel
theorem dX6_either_1 : decode cX6_either 1 = .ok (.aload_n 1, 1) := by decide +kernel
theorem dX6_either_2 : decode cX6_either 2 = .ok (.iload_n 2, 1) := by decide +kernel
theorem dX6_either_3 : decode cX6_either 3 = .ok (.invokevirtual 164, 3) := by decide +kernel
theorem dX6_either_6 : decode cX6_either 6 = .ok (.iconst 0, 1) := by decide +kernel
theorem dX6_either_7 : decode cX6_either 7 = .ok (.istore_n 3, 1) := by decide +kernel
theorem dX6_either_8 : decode cX6_either 8 = .ok (.iload_n 3, 1) := by decide +kernel
theorem dX6_either_9 : decode cX6_either 9 = .ok (.sipush 1600, 3) := by decide +kernel
theorem dX6_either_12 : decode cX6_either 12 = .ok (.if_icmp .ge 35, 3) := by decide +kernel
theorem dX6_either_15 : decode cX6_either 15 = .ok (.aload_n 0, 1) := by decide +kernel
theorem dX6_either_16 : decode cX6_either 16 = .ok (.bipush 11, 2) := by decide +kernel
theorem dX6_either_18 : decode cX6_either 18 = .ok (.invokevirtual 132, 3) := by decide +kernel
theorem dX6_either_21 : decode cX6_either 21 = .ok (.ifCond .eq 26, 3) := by decide +kernel
theorem dX6_either_24 : decode cX6_either 24 = .ok (.aload_n 0, 1) := by decide +kernel
theorem dX6_either_25 : decode cX6_either 25 = .ok (.invokevirtual 64, 3) := by decide +kernel
theorem dX6_either_28 : decode cX6_either 28 = .ok (.aload_n 0, 1) := by decide +kernel
theorem dX6_either_29 : decode cX6_either 29 = .ok (.aload_n 1, 1) := by decide +kernel
theorem dX6_either_30 : decode cX6_either 30 = .ok (.iload_n 2, 1) := by decide +kernel
theorem dX6_either_31 : decode cX6_either 31 = .ok (.invokevirtual 164, 3) := by decide +kernel
theorem dX6_either_34 : decode cX6_either 34 = .ok (.aload_n 1, 1) := by decide +kernel
theorem dX6_either_35 : decode cX6_either 35 = .ok (.bipush 8, 2) := by decide +kernel
theorem dX6_either_37 : decode cX6_either 37 = .ok (.iconst 0, 1) := by decide +kernel
theorem dX6_either_38 : decode cX6_either 38 = .ok (.invokevirtual 167, 3) := by decide +kernel
theorem dX6_either_41 : decode cX6_either 41 = .ok (.iinc 3 1, 3) := by decide +kernel
theorem dX6_either_44 : decode cX6_either 44 = .ok (.goto (-36), 3) := by decide +kernel
theorem dX6_either_47 : decode cX6_either 47 = .ok (.return_, 1) := by decide +kernel
theorem in_X6_unit_X6 : ∀ w ∈ wsX60, w ∈ wsX6_unit := fun _ h => (List.mem_cons_of_mem _ (List.mem_append_left _ (List.mem_append_right _ h)))
def fn_X6_unit_63 (kE : Nat → Int32 → St → Option St)  (z : St) : Option (St) := bv (fn_X6_refuse   z) (fun z2 => some z2)
set_option maxHeartbeats 4000000 in
set_option maxRecDepth 100000 in
theorem pf_X6_unit_63 {p : Program} {l : Launch} {e : Env} {s : State} {m : MethodId} {args : Array Value} {below : List Frame} {meth : Method} {c : Code} {G : wG} (C : CX p s m args meth c cX6_unit 6 wsX6_unit RX6 none G) {Rz : St} {kE : Nat → Int32 → St → Option St} {dd D : Nat} (hd0 : 10 ≤ dd) (hD : dd + 1 ≤ D) (hkE : ∀ {p1 : Nat} {v2 : Int32} {z : St} {Rz : St}, kd p1 = 2 → kE p1 v2 z = some Rz → Met l yX6_either wsX6_either (rmd dd) (va_Pc [.ref (G.2.2 32), .ref (G.2.2 p1), .int v2] (Pre G z)) (va_Qv (fun u => u = Rz) (Pre G) (AW G)) 0 0 (AW G))  (z : St)  {H : Heap} {locs : List Loc} {ls : Array Slot} (hP : WP G z H) (hS : va_S (AW G) s.heap H locs) (hl : lv_has ls 6 [(0, .ref (G.2.2 32))]) (h : fn_X6_unit_63 kE   z = some Rz) : W p l e (rmd D) s m args below meth c H locs 0 0 (QV below args s G Rz) (F0 m 63 ls []) := by
  obtain ⟨hx, hb, hml, hown, hts, hr, hlocks, hK, hG⟩ := id C
  unfold fn_X6_unit_63 at h
  refine lv_aload_n hx hb dX6_unit_63 rfl (lv_at hl 0 rfl) ?_
  obtain ⟨z2, h1, h⟩ := bv_s h
  refine x_Vv (Rz := z2) (As := []) (rest := []) ⟨hx, hb, hml, hown, hts⟩ hK hP hS (kd_lt k_32 (by decide)) (cell_6 k_32) rfl (m_X6_refuse hG   h1) (cwV 0 hts gX6_unit_X6_refuse rfl rfl rfl (by decide +kernel) (rmd_ok (by omega) (by decide))) rfl hl.1 rfl (Nat.le_of_ble_eq_true rfl) dX6_unit_64 ⟨Nat.le_refl _, Nat.le_refl _⟩ (fun H locs hP hS => ?_)
  exact x_vret hx hb hr hlocks hK hP hS h dX6_unit_67
def fn_X6_unit_91 (kE : Nat → Int32 → St → Option St) (p1 : Nat) (v2 : Int32) (v3 : Int32) (z : St) : Option (St) := bv (fn_X6_advance   z) (fun z2 => (if v3 = 0 then some z2 else bv (kE p1 (v2 + 1) z2) (fun z5 => bv (fn_X6_expectSign  41 z5) (fun z7 => some z7))))
set_option maxHeartbeats 4000000 in
set_option maxRecDepth 100000 in
theorem pf_X6_unit_91 {p : Program} {l : Launch} {e : Env} {s : State} {m : MethodId} {args : Array Value} {below : List Frame} {meth : Method} {c : Code} {G : wG} (C : CX p s m args meth c cX6_unit 6 wsX6_unit RX6 none G) {Rz : St} {kE : Nat → Int32 → St → Option St} {dd D : Nat} (hd0 : 10 ≤ dd) (hD : dd + 1 ≤ D) (hkE : ∀ {p1 : Nat} {v2 : Int32} {z : St} {Rz : St}, kd p1 = 2 → kE p1 v2 z = some Rz → Met l yX6_either wsX6_either (rmd dd) (va_Pc [.ref (G.2.2 32), .ref (G.2.2 p1), .int v2] (Pre G z)) (va_Qv (fun u => u = Rz) (Pre G) (AW G)) 0 0 (AW G)) (p1 : Nat) (v2 : Int32) (v3 : Int32) (z : St) (hk1 : kd p1 = 2) {H : Heap} {locs : List Loc} {ls : Array Slot} (hP : WP G z H) (hS : va_S (AW G) s.heap H locs) (hl : lv_has ls 6 [(0, .ref (G.2.2 32)), (1, .ref (G.2.2 p1)), (2, .int v2), (3, .int v3)]) (h : fn_X6_unit_91 kE  p1 v2 v3 z = some Rz) : W p l e (rmd D) s m args below meth c H locs 0 0 (QV below args s G Rz) (F0 m 91 ls []) := by
  obtain ⟨hx, hb, hml, hown, hts, hr, hlocks, hK, hG⟩ := id C
  unfold fn_X6_unit_91 at h
  refine lv_aload_n hx hb dX6_unit_91 rfl (lv_at hl 0 rfl) ?_
  obtain ⟨z2, h1, h⟩ := bv_s h
  refine x_Vv (Rz := z2) (As := []) (rest := []) ⟨hx, hb, hml, hown, hts⟩ hK hP hS (kd_lt k_32 (by decide)) (cell_6 k_32) rfl (m_X6_advance hG   h1) (cwV 0 hts gX6_unit_X6_advance rfl rfl rfl (by decide +kernel) (rmd_ok (by omega) (by decide))) rfl hl.1 rfl (Nat.le_of_ble_eq_true rfl) dX6_unit_92 ⟨Nat.le_refl _, Nat.le_refl _⟩ (fun H locs hP hS => ?_)
  refine lv_iload_n hx hb dX6_unit_95 rfl (lv_at hl 3 rfl) ?_
  refine lv_if_eq (tgt := 113) hx hb dX6_unit_96 (by decide) (fun c3 => ?_) (fun c3 => ?_)
  · rw [if_pos c3] at h
    exact x_vret hx hb hr hlocks hK hP hS h dX6_unit_113
  · rw [if_neg c3] at h
    refine lv_aload_n hx hb dX6_unit_99 rfl (lv_at hl 0 rfl) ?_
    refine lv_aload_n hx hb dX6_unit_100 rfl (lv_at hl 1 rfl) ?_
    refine lv_iload_n hx hb dX6_unit_101 rfl (lv_at hl 2 rfl) ?_
    refine lv_iconst (v := 1) hx hb dX6_unit_102 (by decide) ?_
    refine lv_iadd hx hb dX6_unit_103 ?_
    obtain ⟨z5, h4, h⟩ := bv_s h
    refine x_Vv (Rz := z5) (As := [.ref (G.2.2 p1), .int (v2 + 1)]) (rest := []) ⟨hx, hb, hml, hown, hts⟩ hK hP hS (kd_lt k_32 (by decide)) (cell_6 k_32) rfl (hkE hk1 h4) (cwV 2 hts gX6_unit_X6_either rfl rfl rfl (by decide +kernel) (rmd_ok (by omega) (by decide))) rfl hl.1 rfl (Nat.le_of_ble_eq_true rfl) dX6_unit_104 ⟨Nat.le_refl _, Nat.le_refl _⟩ (fun H locs hP hS => ?_)
    refine lv_aload_n hx hb dX6_unit_107 rfl (lv_at hl 0 rfl) ?_
    refine lv_bipush (v := 41) hx hb dX6_unit_108 (by decide) ?_
    obtain ⟨z7, h6, h⟩ := bv_s h
    refine x_Vv (Rz := z7) (As := [.int 41]) (rest := []) ⟨hx, hb, hml, hown, hts⟩ hK hP hS (kd_lt k_32 (by decide)) (cell_6 k_32) rfl (m_X6_expectSign hG   h6) (cwV 1 hts gX6_unit_X6_expectSign rfl rfl rfl (by decide +kernel) (rmd_ok (by omega) (by decide))) rfl hl.1 rfl (Nat.le_of_ble_eq_true rfl) dX6_unit_110 ⟨Nat.le_refl _, Nat.le_refl _⟩ (fun H locs hP hS => ?_)
    exact x_vret hx hb hr hlocks hK hP hS h dX6_unit_113
def fn_X6_unit_88 (kE : Nat → Int32 → St → Option St) (p1 : Nat) (v2 : Int32) (v3 : Int32) (tp0 : Nat) (tv1 : Int32) (tv2 : Int32) (z : St) : Option (St) := bv (fn_X2_add  tp0 tv1 tv2 z) (fun z2 => fn_X6_unit_91 kE  p1 v2 v3 z2)
set_option maxHeartbeats 4000000 in
set_option maxRecDepth 100000 in
theorem pf_X6_unit_88 {p : Program} {l : Launch} {e : Env} {s : State} {m : MethodId} {args : Array Value} {below : List Frame} {meth : Method} {c : Code} {G : wG} (C : CX p s m args meth c cX6_unit 6 wsX6_unit RX6 none G) {Rz : St} {kE : Nat → Int32 → St → Option St} {dd D : Nat} (hd0 : 10 ≤ dd) (hD : dd + 1 ≤ D) (hkE : ∀ {p1 : Nat} {v2 : Int32} {z : St} {Rz : St}, kd p1 = 2 → kE p1 v2 z = some Rz → Met l yX6_either wsX6_either (rmd dd) (va_Pc [.ref (G.2.2 32), .ref (G.2.2 p1), .int v2] (Pre G z)) (va_Qv (fun u => u = Rz) (Pre G) (AW G)) 0 0 (AW G)) (p1 : Nat) (v2 : Int32) (v3 : Int32) (tp0 : Nat) (tv1 : Int32) (tv2 : Int32) (z : St) (hk1 : kd p1 = 2) (hkt0 : kd tp0 = 2) {H : Heap} {locs : List Loc} {ls : Array Slot} (hP : WP G z H) (hS : va_S (AW G) s.heap H locs) (hl : lv_has ls 6 [(0, .ref (G.2.2 32)), (1, .ref (G.2.2 p1)), (2, .int v2), (3, .int v3)]) (h : fn_X6_unit_88 kE  p1 v2 v3 tp0 tv1 tv2 z = some Rz) : W p l e (rmd D) s m args below meth c H locs 0 0 (QV below args s G Rz) (F0 m 88 ls [.int tv2, .int tv1, .ref (G.2.2 tp0)]) := by
  obtain ⟨hx, hb, hml, hown, hts, hr, hlocks, hK, hG⟩ := id C
  unfold fn_X6_unit_88 at h
  obtain ⟨z2, h1, h⟩ := bv_s h
  refine x_Vv (Rz := z2) (As := [.int tv1, .int tv2]) (rest := []) ⟨hx, hb, hml, hown, hts⟩ hK hP hS (kd_lt hkt0 (by decide)) (cell_2 hkt0) rfl (m_X2_add hG  hkt0 h1) (cwV 2 hts gX6_unit_X2_add rfl rfl rfl (by decide +kernel) (rmd_ok (by omega) (by decide))) rfl hl.1 rfl (Nat.le_of_ble_eq_true rfl) dX6_unit_88 ⟨Nat.le_refl _, Nat.le_refl _⟩ (fun H locs hP hS => ?_)
  exact pf_X6_unit_91 C hd0 hD hkE  p1 v2 v3 z2 hk1 hP hS (lv_sub hl [0, 1, 2, 3] rfl) h
def fn_X6_unit_42 (kE : Nat → Int32 → St → Option St) (p1 : Nat) (v2 : Int32) (v3 : Int32) (v4 : Int32) (tv0 : Int32) (z : St) : Option (St) := (if (z.1 32 11) = 0 then (if tv0 = 0 then fn_X6_unit_63 kE   z else bd (fn_X2_countUnit  p1 z) (fun r4 z5 => (if r4 = 0 then fn_X6_unit_63 kE   z5 else (if v3 = 0 then (if v4 = 0 then fn_X6_unit_88 kE  p1 v2 v3 p1 v4 (z5.1 32 7) z5 else fn_X6_unit_88 kE  p1 v2 v3 p1 v4 0 z5) else fn_X6_unit_91 kE  p1 v2 v3 z5)))) else fn_X6_unit_63 kE   z)
set_option maxHeartbeats 4000000 in
set_option maxRecDepth 100000 in
theorem pf_X6_unit_42 {p : Program} {l : Launch} {e : Env} {s : State} {m : MethodId} {args : Array Value} {below : List Frame} {meth : Method} {c : Code} {G : wG} (C : CX p s m args meth c cX6_unit 6 wsX6_unit RX6 none G) {Rz : St} {kE : Nat → Int32 → St → Option St} {dd D : Nat} (hd0 : 10 ≤ dd) (hD : dd + 1 ≤ D) (hkE : ∀ {p1 : Nat} {v2 : Int32} {z : St} {Rz : St}, kd p1 = 2 → kE p1 v2 z = some Rz → Met l yX6_either wsX6_either (rmd dd) (va_Pc [.ref (G.2.2 32), .ref (G.2.2 p1), .int v2] (Pre G z)) (va_Qv (fun u => u = Rz) (Pre G) (AW G)) 0 0 (AW G)) (p1 : Nat) (v2 : Int32) (v3 : Int32) (v4 : Int32) (tv0 : Int32) (z : St) (hk1 : kd p1 = 2) {H : Heap} {locs : List Loc} {ls : Array Slot} (hP : WP G z H) (hS : va_S (AW G) s.heap H locs) (hl : lv_has ls 6 [(0, .ref (G.2.2 32)), (1, .ref (G.2.2 p1)), (2, .int v2), (3, .int v3), (4, .int v4)]) (h : fn_X6_unit_42 kE  p1 v2 v3 v4 tv0 z = some Rz) : W p l e (rmd D) s m args below meth c H locs 0 0 (QV below args s G Rz) (F0 m 42 ls [.int tv0]) := by
  obtain ⟨hx, hb, hml, hown, hts, hr, hlocks, hK, hG⟩ := id C
  unfold fn_X6_unit_42 at h
  refine lv_istore (lv' := [(5, .int tv0), (0, .ref (G.2.2 32)), (1, .ref (G.2.2 p1)), (2, .int v2), (3, .int v3), (4, .int v4)]) hx hb dX6_unit_42 hl (by decide) rfl (fun ls hl => ?_)
  refine lv_aload_n hx hb dX6_unit_44 rfl (lv_at hl 1 rfl) ?_
  refine ge_6_11 hx hb hts in_X6_unit_X6 hown hK hP k_32 (hts _ (List.mem_of_getElem? (i := 1) rfl)) dX6_unit_45 ?_
  refine lv_if_ne (tgt := 63) hx hb dX6_unit_48 (by decide) (fun c1 => ?_) (fun c1 => ?_)
  · rw [if_neg c1] at h
    exact pf_X6_unit_63 C hd0 hD hkE   z  hP hS (lv_sub hl [1] rfl) h
  · rw [if_pos c1] at h
    refine lv_iload hx hb dX6_unit_51 (lv_at hl 0 rfl) ?_
    refine lv_if_eq (tgt := 63) hx hb dX6_unit_53 (by decide) (fun c2 => ?_) (fun c2 => ?_)
    · rw [if_pos c2] at h
      exact pf_X6_unit_63 C hd0 hD hkE   z  hP hS (lv_sub hl [1] rfl) h
    · rw [if_neg c2] at h
      refine lv_aload_n hx hb dX6_unit_56 rfl (lv_at hl 2 rfl) ?_
      obtain ⟨r4, z5, h3, h⟩ := bd_s h
      refine x_Vi (Rz := (r4, z5)) (As := []) (rest := []) ⟨hx, hb, hml, hown, hts⟩ hK hP hS (kd_lt hk1 (by decide)) (cell_2 hk1) rfl (m_X2_countUnit hG  hk1 h3) (cwV 0 hts gX6_unit_X2_countUnit rfl rfl rfl (by decide +kernel) (rmd_ok (by omega) (by decide))) rfl hl.1 rfl (Nat.le_of_ble_eq_true rfl) dX6_unit_57 ⟨Nat.le_refl _, Nat.le_refl _⟩ (fun H locs hP hS => ?_)
      refine lv_if_ne (tgt := 68) hx hb dX6_unit_60 (by decide) (fun c6 => ?_) (fun c6 => ?_)
      · rw [if_neg c6] at h
        refine lv_iload_n hx hb dX6_unit_68 rfl (lv_at hl 4 rfl) ?_
        refine lv_if_ne (tgt := 91) hx hb dX6_unit_69 (by decide) (fun c7 => ?_) (fun c7 => ?_)
        · rw [if_neg c7] at h
          exact pf_X6_unit_91 C hd0 hD hkE  p1 v2 v3 z5 hk1 hP hS (lv_sub hl [1, 2, 3, 4] rfl) h
        · rw [if_pos c7] at h
          refine lv_aload_n hx hb dX6_unit_72 rfl (lv_at hl 2 rfl) ?_
          refine lv_iload hx hb dX6_unit_73 (lv_at hl 5 rfl) ?_
          refine lv_iload hx hb dX6_unit_75 (lv_at hl 5 rfl) ?_
          refine lv_if_ne (tgt := 87) hx hb dX6_unit_77 (by decide) (fun c8 => ?_) (fun c8 => ?_)
          · rw [if_neg c8] at h
            refine lv_iconst (v := 0) hx hb dX6_unit_87 (by decide) ?_
            exact pf_X6_unit_88 C hd0 hD hkE  p1 v2 v3 p1 v4 0 z5 hk1 hk1 hP hS (lv_sub hl [1, 2, 3, 4] rfl) h
          · rw [if_pos c8] at h
            refine lv_aload_n hx hb dX6_unit_80 rfl (lv_at hl 1 rfl) ?_
            refine ge_6_7 hx hb hts in_X6_unit_X6 hown hK hP k_32 (hts _ (List.mem_of_getElem? (i := 2) rfl)) dX6_unit_81 ?_
            refine lv_goto (tgt := 88) hx hb dX6_unit_84 (by decide) ?_
            exact pf_X6_unit_88 C hd0 hD hkE  p1 v2 v3 p1 v4 (z5.1 32 7) z5 hk1 hk1 hP hS (lv_sub hl [1, 2, 3, 4] rfl) h
      · rw [if_pos c6] at h
        exact pf_X6_unit_63 C hd0 hD hkE   z5  hP hS (lv_sub hl [1] rfl) h
def fn_X6_unit (kE : Nat → Int32 → St → Option St) (p1 : Nat) (v2 : Int32) (z : St) : Option (St) := bd (fn_X6_isSign  40 z) (fun r2 z3 => bd (fn_X6_plainUnit   z3) (fun r5 z6 => (if r2 = 0 then (if r5 = (-1) then fn_X6_unit_42 kE  p1 v2 r2 r5 0 z6 else fn_X6_unit_42 kE  p1 v2 r2 r5 1 z6) else (if 6 < v2 then fn_X6_unit_42 kE  p1 v2 r2 r5 0 z6 else fn_X6_unit_42 kE  p1 v2 r2 r5 1 z6))))
set_option maxHeartbeats 4000000 in
set_option maxRecDepth 100000 in
theorem m_X6_unit {l : Launch} {G : wG} (hG : Ok G) {kE : Nat → Int32 → St → Option St} {dd D : Nat} (hd0 : 10 ≤ dd) (hD : dd + 1 ≤ D) (hkE : ∀ {p1 : Nat} {v2 : Int32} {z : St} {Rz : St}, kd p1 = 2 → kE p1 v2 z = some Rz → Met l yX6_either wsX6_either (rmd dd) (va_Pc [.ref (G.2.2 32), .ref (G.2.2 p1), .int v2] (Pre G z)) (va_Qv (fun u => u = Rz) (Pre G) (AW G)) 0 0 (AW G)) {p1 : Nat} {v2 : Int32} {z : St} {Rz : St} (hk1 : kd p1 = 2) (h : fn_X6_unit kE p1 v2 z = some Rz) : Met l yX6_unit wsX6_unit (rmd D) (va_Pc [.ref (G.2.2 32), .ref (G.2.2 p1), .int v2] (Pre G z)) (va_Qv (fun u => u = Rz) (Pre G) (AW G)) 0 0 (AW G) := by
  refine Met.ofW (cc := cX6_unit) (maxL := 6) (ret := none) (by decide) rfl ?_
  intro p e s m args below meth c s₁ B hml hv
  obtain ⟨rfl, hP, hK⟩ := hv
  have C : CX p s m ([.ref (G.2.2 32), .ref (G.2.2 p1), .int v2] : List Value).toArray meth c cX6_unit 6 wsX6_unit RX6 none G := ⟨B.exec, B.bytes, hml, findClass_of_methodNamed B.named, atoms_spec (ws := wsX6_unit) B.pre, B.returns, B.notSynchronized, hK, hG⟩
  obtain ⟨hx, hb, -, hown, hts, hr, hlocks, -, -⟩ := id C
  have hS : va_S (AW G) s.heap s.heap [] := va_S.rf
  have hl := lv_entry [.ref (G.2.2 32), .ref (G.2.2 p1), .int v2] (n := 6) (Nat.le_of_ble_eq_true rfl)
  rw [lg_entry_eq]
  generalize (lg_sl [.ref (G.2.2 32), .ref (G.2.2 p1), .int v2] ++ List.replicate (6 - (lg_sl [.ref (G.2.2 32), .ref (G.2.2 p1), .int v2]).length) Slot.unset).toArray = ls at hl ⊢
  have hl : lv_has ls 6 [(0, .ref (G.2.2 32)), (1, .ref (G.2.2 p1)), (2, .int v2)] := hl
  unfold fn_X6_unit at h
  refine lv_aload_n hx hb dX6_unit_0 rfl (lv_at hl 0 rfl) ?_
  refine lv_bipush (v := 40) hx hb dX6_unit_1 (by decide) ?_
  obtain ⟨r2, z3, h1, h⟩ := bd_s h
  refine x_Vi (Rz := (r2, z3)) (As := [.int 40]) (rest := []) ⟨hx, hb, hml, hown, hts⟩ hK hP hS (kd_lt k_32 (by decide)) (cell_6 k_32) rfl (m_X6_isSign hG   h1) (cwV 1 hts gX6_unit_X6_isSign rfl rfl rfl (by decide +kernel) (rmd_ok (by omega) (by decide))) rfl hl.1 rfl (Nat.le_of_ble_eq_true rfl) dX6_unit_3 ⟨Nat.le_refl _, Nat.le_refl _⟩ (fun H locs hP hS => ?_)
  refine lv_istore_n (lv' := [(3, .int r2), (0, .ref (G.2.2 32)), (1, .ref (G.2.2 p1)), (2, .int v2)]) hx hb dX6_unit_6 rfl hl (by decide) rfl (fun ls hl => ?_)
  refine lv_aload_n hx hb dX6_unit_7 rfl (lv_at hl 1 rfl) ?_
  obtain ⟨r5, z6, h4, h⟩ := bd_s h
  refine x_Vi (Rz := (r5, z6)) (As := []) (rest := []) ⟨hx, hb, hml, hown, hts⟩ hK hP hS (kd_lt k_32 (by decide)) (cell_6 k_32) rfl (m_X6_plainUnit hG   h4) (cwV 0 hts gX6_unit_X6_plainUnit rfl rfl rfl (by decide +kernel) (rmd_ok (by omega) (by decide))) rfl hl.1 rfl (Nat.le_of_ble_eq_true rfl) dX6_unit_8 ⟨Nat.le_refl _, Nat.le_refl _⟩ (fun H locs hP hS => ?_)
  refine lv_istore (lv' := [(4, .int r5), (3, .int r2), (0, .ref (G.2.2 32)), (1, .ref (G.2.2 p1)), (2, .int v2)]) hx hb dX6_unit_11 hl (by decide) rfl (fun ls hl => ?_)
  refine lv_iload_n hx hb dX6_unit_13 rfl (lv_at hl 1 rfl) ?_
  refine lv_if_eq (tgt := 31) hx hb dX6_unit_14 (by decide) (fun c7 => ?_) (fun c7 => ?_)
  · rw [if_pos c7] at h
    refine lv_iload hx hb dX6_unit_31 (lv_at hl 0 rfl) ?_
    refine lv_iconst (v := (-1)) hx hb dX6_unit_33 (by decide) ?_
    refine lv_icmp_eq (tgt := 41) hx hb dX6_unit_34 (by decide) (fun c8 => ?_) (fun c8 => ?_)
    · rw [if_pos c8] at h
      refine lv_iconst (v := 0) hx hb dX6_unit_41 (by decide) ?_
      exact pf_X6_unit_42 C hd0 hD hkE  p1 v2 r2 r5 0 z6 hk1 hP hS (lv_sub hl [2, 3, 4, 1, 0] rfl) h
    · rw [if_neg c8] at h
      refine lv_iconst (v := 1) hx hb dX6_unit_37 (by decide) ?_
      refine lv_goto (tgt := 42) hx hb dX6_unit_38 (by decide) ?_
      exact pf_X6_unit_42 C hd0 hD hkE  p1 v2 r2 r5 1 z6 hk1 hP hS (lv_sub hl [2, 3, 4, 1, 0] rfl) h
  · rw [if_neg c7] at h
    refine lv_iload_n hx hb dX6_unit_17 rfl (lv_at hl 4 rfl) ?_
    refine lv_bipush (v := 6) hx hb dX6_unit_18 (by decide) ?_
    refine lv_icmp_gt (tgt := 27) hx hb dX6_unit_20 (by decide) (fun c9 => ?_) (fun c9 => ?_)
    · rw [if_pos c9] at h
      refine lv_iconst (v := 0) hx hb dX6_unit_27 (by decide) ?_
      refine lv_goto (tgt := 42) hx hb dX6_unit_28 (by decide) ?_
      exact pf_X6_unit_42 C hd0 hD hkE  p1 v2 r2 r5 0 z6 hk1 hP hS (lv_sub hl [2, 3, 4, 1, 0] rfl) h
    · rw [if_neg c9] at h
      refine lv_iconst (v := 1) hx hb dX6_unit_23 (by decide) ?_
      refine lv_goto (tgt := 42) hx hb dX6_unit_24 (by decide) ?_
      exact pf_X6_unit_42 C hd0 hD hkE  p1 v2 r2 r5 1 z6 hk1 hP hS (lv_sub hl [2, 3, 4, 1, 0] rfl) h
def fn_X6_term_72 (kE : Nat → Int32 → St → Option St) (k8 : Nat → Int32 → Int32 → St → Option (St)) (p1 : Nat) (v2 : Int32) (v3 : Int32) (tv0 : Int32) (z : St) : Option (St) := bv (fn_X6_advance   z) (fun z2 => bv (fn_X6_unit kE p1 v2 z2) (fun z4 => bv (fn_X2_add  p1 tv0 0 z4) (fun z6 => k8 p1 v2 (v3 + 1) z6)))
set_option maxHeartbeats 4000000 in
set_option maxRecDepth 100000 in
theorem pf_X6_term_72 {p : Program} {l : Launch} {e : Env} {s : State} {m : MethodId} {args : Array Value} {below : List Frame} {meth : Method} {c : Code} {G : wG} (C : CX p s m args meth c cX6_term 5 wsX6_term RX6 none G) {Rz : St} {kE : Nat → Int32 → St → Option St} {k8 : Nat → Int32 → Int32 → St → Option (St)} {dd D : Nat} (hd0 : 10 ≤ dd) (hD : dd + 2 ≤ D) (hkE : ∀ {p1 : Nat} {v2 : Int32} {z : St} {Rz : St}, kd p1 = 2 → kE p1 v2 z = some Rz → Met l yX6_either wsX6_either (rmd dd) (va_Pc [.ref (G.2.2 32), .ref (G.2.2 p1), .int v2] (Pre G z)) (va_Qv (fun u => u = Rz) (Pre G) (AW G)) 0 0 (AW G)) (hk_8 : ∀ (p1 : Nat) (v2 : Int32) (v3 : Int32) (z : St) (hk1 : kd p1 = 2) (H : Heap) (locs : List Loc) (ls : Array Slot), WP G z H → va_S (AW G) s.heap H locs → lv_has ls 5 [(0, .ref (G.2.2 32)), (1, .ref (G.2.2 p1)), (2, .int v2), (3, .int v3)] → k8 p1 v2 v3 z = some Rz → W p l e (rmd D) s m args below meth c H locs 0 0 (QV below args s G Rz) (F0 m 8 ls [])) (p1 : Nat) (v2 : Int32) (v3 : Int32) (tv0 : Int32) (z : St) (hk1 : kd p1 = 2) {H : Heap} {locs : List Loc} {ls : Array Slot} (hP : WP G z H) (hS : va_S (AW G) s.heap H locs) (hl : lv_has ls 5 [(0, .ref (G.2.2 32)), (1, .ref (G.2.2 p1)), (2, .int v2), (3, .int v3)]) (h : fn_X6_term_72 kE k8 p1 v2 v3 tv0 z = some Rz) : W p l e (rmd D) s m args below meth c H locs 0 0 (QV below args s G Rz) (F0 m 72 ls [.int tv0]) := by
  obtain ⟨hx, hb, hml, hown, hts, hr, hlocks, hK, hG⟩ := id C
  unfold fn_X6_term_72 at h
  refine lv_istore (lv' := [(4, .int tv0), (0, .ref (G.2.2 32)), (1, .ref (G.2.2 p1)), (2, .int v2), (3, .int v3)]) hx hb dX6_term_72 hl (by decide) rfl (fun ls hl => ?_)
  refine lv_aload_n hx hb dX6_term_74 rfl (lv_at hl 1 rfl) ?_
  obtain ⟨z2, h1, h⟩ := bv_s h
  refine x_Vv (Rz := z2) (As := []) (rest := []) ⟨hx, hb, hml, hown, hts⟩ hK hP hS (kd_lt k_32 (by decide)) (cell_6 k_32) rfl (m_X6_advance hG   h1) (cwV 0 hts gX6_term_X6_advance rfl rfl rfl (by decide +kernel) (rmd_ok (by omega) (by decide))) rfl hl.1 rfl (Nat.le_of_ble_eq_true rfl) dX6_term_75 ⟨Nat.le_refl _, Nat.le_refl _⟩ (fun H locs hP hS => ?_)
  refine lv_aload_n hx hb dX6_term_78 rfl (lv_at hl 1 rfl) ?_
  refine lv_aload_n hx hb dX6_term_79 rfl (lv_at hl 2 rfl) ?_
  refine lv_iload_n hx hb dX6_term_80 rfl (lv_at hl 3 rfl) ?_
  obtain ⟨z4, h3, h⟩ := bv_s h
  refine x_Vv (Rz := z4) (As := [.ref (G.2.2 p1), .int v2]) (rest := []) ⟨hx, hb, hml, hown, hts⟩ hK hP hS (kd_lt k_32 (by decide)) (cell_6 k_32) rfl (m_X6_unit hG (D := D - 1) hd0 (by omega) hkE hk1 h3) (cwV 2 hts gX6_term_X6_unit rfl rfl rfl (by decide +kernel) (rmd_ok (by omega) (by decide))) rfl hl.1 rfl (Nat.le_of_ble_eq_true rfl) dX6_term_81 ⟨Nat.le_refl _, Nat.le_refl _⟩ (fun H locs hP hS => ?_)
  refine lv_aload_n hx hb dX6_term_84 rfl (lv_at hl 2 rfl) ?_
  refine lv_iload hx hb dX6_term_85 (lv_at hl 0 rfl) ?_
  refine lv_iconst (v := 0) hx hb dX6_term_87 (by decide) ?_
  obtain ⟨z6, h5, h⟩ := bv_s h
  refine x_Vv (Rz := z6) (As := [.int tv0, .int 0]) (rest := []) ⟨hx, hb, hml, hown, hts⟩ hK hP hS (kd_lt hk1 (by decide)) (cell_2 hk1) rfl (m_X2_add hG  hk1 h5) (cwV 2 hts gX6_term_X2_add rfl rfl rfl (by decide +kernel) (rmd_ok (by omega) (by decide))) rfl hl.1 rfl (Nat.le_of_ble_eq_true rfl) dX6_term_88 ⟨Nat.le_refl _, Nat.le_refl _⟩ (fun H locs hP hS => ?_)
  refine lv_iinc (v := (v3 + 1)) (lv' := [(3, .int (v3 + 1)), (4, .int tv0), (0, .ref (G.2.2 32)), (1, .ref (G.2.2 p1)), (2, .int v2)]) hx hb dX6_term_91 hl (k := 4) rfl rfl (by decide) rfl (fun ls hl => ?_)
  refine lv_goto (tgt := 8) hx hb dX6_term_94 (by decide) ?_
  exact hk_8 p1 v2 (v3 + 1) z6 hk1 _ _ _ hP hS (lv_sub hl [2, 3, 4, 0] rfl) h
def fn_X6_term_42 (kE : Nat → Int32 → St → Option St) (k8 : Nat → Int32 → Int32 → St → Option (St)) (p1 : Nat) (v2 : Int32) (v3 : Int32) (z : St) : Option (St) := bd (fn_X6_isSign  42 z) (fun r2 z3 => (if r2 = 0 then bd (fn_X6_isSign  47 z3) (fun r6 z7 => (if r6 = 0 then fn_X6_term_72 kE k8 p1 v2 v3 17 z7 else fn_X6_term_72 kE k8 p1 v2 v3 16 z7)) else fn_X6_term_72 kE k8 p1 v2 v3 15 z3))
set_option maxHeartbeats 4000000 in
set_option maxRecDepth 100000 in
theorem pf_X6_term_42 {p : Program} {l : Launch} {e : Env} {s : State} {m : MethodId} {args : Array Value} {below : List Frame} {meth : Method} {c : Code} {G : wG} (C : CX p s m args meth c cX6_term 5 wsX6_term RX6 none G) {Rz : St} {kE : Nat → Int32 → St → Option St} {k8 : Nat → Int32 → Int32 → St → Option (St)} {dd D : Nat} (hd0 : 10 ≤ dd) (hD : dd + 2 ≤ D) (hkE : ∀ {p1 : Nat} {v2 : Int32} {z : St} {Rz : St}, kd p1 = 2 → kE p1 v2 z = some Rz → Met l yX6_either wsX6_either (rmd dd) (va_Pc [.ref (G.2.2 32), .ref (G.2.2 p1), .int v2] (Pre G z)) (va_Qv (fun u => u = Rz) (Pre G) (AW G)) 0 0 (AW G)) (hk_8 : ∀ (p1 : Nat) (v2 : Int32) (v3 : Int32) (z : St) (hk1 : kd p1 = 2) (H : Heap) (locs : List Loc) (ls : Array Slot), WP G z H → va_S (AW G) s.heap H locs → lv_has ls 5 [(0, .ref (G.2.2 32)), (1, .ref (G.2.2 p1)), (2, .int v2), (3, .int v3)] → k8 p1 v2 v3 z = some Rz → W p l e (rmd D) s m args below meth c H locs 0 0 (QV below args s G Rz) (F0 m 8 ls [])) (p1 : Nat) (v2 : Int32) (v3 : Int32) (z : St) (hk1 : kd p1 = 2) {H : Heap} {locs : List Loc} {ls : Array Slot} (hP : WP G z H) (hS : va_S (AW G) s.heap H locs) (hl : lv_has ls 5 [(0, .ref (G.2.2 32)), (1, .ref (G.2.2 p1)), (2, .int v2), (3, .int v3)]) (h : fn_X6_term_42 kE k8 p1 v2 v3 z = some Rz) : W p l e (rmd D) s m args below meth c H locs 0 0 (QV below args s G Rz) (F0 m 42 ls []) := by
  obtain ⟨hx, hb, hml, hown, hts, hr, hlocks, hK, hG⟩ := id C
  unfold fn_X6_term_42 at h
  refine lv_aload_n hx hb dX6_term_42 rfl (lv_at hl 0 rfl) ?_
  refine lv_bipush (v := 42) hx hb dX6_term_43 (by decide) ?_
  obtain ⟨r2, z3, h1, h⟩ := bd_s h
  refine x_Vi (Rz := (r2, z3)) (As := [.int 42]) (rest := []) ⟨hx, hb, hml, hown, hts⟩ hK hP hS (kd_lt k_32 (by decide)) (cell_6 k_32) rfl (m_X6_isSign hG   h1) (cwV 1 hts gX6_term_X6_isSign rfl rfl rfl (by decide +kernel) (rmd_ok (by omega) (by decide))) rfl hl.1 rfl (Nat.le_of_ble_eq_true rfl) dX6_term_45 ⟨Nat.le_refl _, Nat.le_refl _⟩ (fun H locs hP hS => ?_)
  refine lv_if_eq (tgt := 56) hx hb dX6_term_48 (by decide) (fun c4 => ?_) (fun c4 => ?_)
  · rw [if_pos c4] at h
    refine lv_aload_n hx hb dX6_term_56 rfl (lv_at hl 0 rfl) ?_
    refine lv_bipush (v := 47) hx hb dX6_term_57 (by decide) ?_
    obtain ⟨r6, z7, h5, h⟩ := bd_s h
    refine x_Vi (Rz := (r6, z7)) (As := [.int 47]) (rest := []) ⟨hx, hb, hml, hown, hts⟩ hK hP hS (kd_lt k_32 (by decide)) (cell_6 k_32) rfl (m_X6_isSign hG   h5) (cwV 1 hts gX6_term_X6_isSign rfl rfl rfl (by decide +kernel) (rmd_ok (by omega) (by decide))) rfl hl.1 rfl (Nat.le_of_ble_eq_true rfl) dX6_term_59 ⟨Nat.le_refl _, Nat.le_refl _⟩ (fun H locs hP hS => ?_)
    refine lv_if_eq (tgt := 70) hx hb dX6_term_62 (by decide) (fun c8 => ?_) (fun c8 => ?_)
    · rw [if_pos c8] at h
      refine lv_bipush (v := 17) hx hb dX6_term_70 (by decide) ?_
      exact pf_X6_term_72 C hd0 hD hkE hk_8 p1 v2 v3 17 z7 hk1 hP hS (lv_sub hl [0, 1, 2, 3] rfl) h
    · rw [if_neg c8] at h
      refine lv_bipush (v := 16) hx hb dX6_term_65 (by decide) ?_
      refine lv_goto (tgt := 72) hx hb dX6_term_67 (by decide) ?_
      exact pf_X6_term_72 C hd0 hD hkE hk_8 p1 v2 v3 16 z7 hk1 hP hS (lv_sub hl [0, 1, 2, 3] rfl) h
  · rw [if_neg c4] at h
    refine lv_bipush (v := 15) hx hb dX6_term_51 (by decide) ?_
    refine lv_goto (tgt := 72) hx hb dX6_term_53 (by decide) ?_
    exact pf_X6_term_72 C hd0 hD hkE hk_8 p1 v2 v3 15 z3 hk1 hP hS (lv_sub hl [0, 1, 2, 3] rfl) h
def fn_X6_term_8 (kE : Nat → Int32 → St → Option St) : Nat → Nat → Int32 → Int32 → St → Option (St)
  | 0, _, _, _, _ => none
  | n + 1, p1, v2, v3, z => (if 1600 ≤ v3 then some z else bd (fn_X6_isSign  42 z) (fun r3 z4 => (if r3 = 0 then bd (fn_X6_isSign  47 z4) (fun r7 z8 => (if r7 = 0 then bd (fn_X6_isSign  37 z8) (fun r11 z12 => (if r11 = 0 then some z12 else fn_X6_term_42 kE (fn_X6_term_8 kE  n) p1 v2 v3 z12)) else fn_X6_term_42 kE (fn_X6_term_8 kE  n) p1 v2 v3 z8)) else fn_X6_term_42 kE (fn_X6_term_8 kE  n) p1 v2 v3 z4)))
set_option maxHeartbeats 4000000 in
set_option maxRecDepth 100000 in
theorem pf_X6_term_8 {p : Program} {l : Launch} {e : Env} {s : State} {m : MethodId} {args : Array Value} {below : List Frame} {meth : Method} {c : Code} {G : wG} (C : CX p s m args meth c cX6_term 5 wsX6_term RX6 none G) {Rz : St} {kE : Nat → Int32 → St → Option St} {dd D : Nat} (hd0 : 10 ≤ dd) (hD : dd + 2 ≤ D) (hkE : ∀ {p1 : Nat} {v2 : Int32} {z : St} {Rz : St}, kd p1 = 2 → kE p1 v2 z = some Rz → Met l yX6_either wsX6_either (rmd dd) (va_Pc [.ref (G.2.2 32), .ref (G.2.2 p1), .int v2] (Pre G z)) (va_Qv (fun u => u = Rz) (Pre G) (AW G)) 0 0 (AW G)) : ∀ (n : Nat) (p1 : Nat) (v2 : Int32) (v3 : Int32) (z : St) (hk1 : kd p1 = 2) (H : Heap) (locs : List Loc) (ls : Array Slot), WP G z H → va_S (AW G) s.heap H locs → lv_has ls 5 [(0, .ref (G.2.2 32)), (1, .ref (G.2.2 p1)), (2, .int v2), (3, .int v3)] → fn_X6_term_8 kE  n p1 v2 v3 z = some Rz → W p l e (rmd D) s m args below meth c H locs 0 0 (QV below args s G Rz) (F0 m 8 ls []) := by
  obtain ⟨hx, hb, hml, hown, hts, hr, hlocks, hK, hG⟩ := id C
  intro n
  induction n with
  | zero => intro p1 v2 v3 z hk1 H locs ls hP hS hl h; cases h
  | succ n ih =>
    intro p1 v2 v3 z hk1 H locs ls hP hS hl h
    rw [fn_X6_term_8] at h
    refine lv_iload_n hx hb dX6_term_8 rfl (lv_at hl 3 rfl) ?_
    refine lv_sipush (v := 1600) hx hb dX6_term_9 (by decide) ?_
    refine lv_icmp_ge (tgt := 97) hx hb dX6_term_12 (by decide) (fun c1 => ?_) (fun c1 => ?_)
    · rw [if_pos c1] at h
      exact x_vret hx hb hr hlocks hK hP hS h dX6_term_97
    · rw [if_neg c1] at h
      refine lv_aload_n hx hb dX6_term_15 rfl (lv_at hl 0 rfl) ?_
      refine lv_bipush (v := 42) hx hb dX6_term_16 (by decide) ?_
      obtain ⟨r3, z4, h2, h⟩ := bd_s h
      refine x_Vi (Rz := (r3, z4)) (As := [.int 42]) (rest := []) ⟨hx, hb, hml, hown, hts⟩ hK hP hS (kd_lt k_32 (by decide)) (cell_6 k_32) rfl (m_X6_isSign hG   h2) (cwV 1 hts gX6_term_X6_isSign rfl rfl rfl (by decide +kernel) (rmd_ok (by omega) (by decide))) rfl hl.1 rfl (Nat.le_of_ble_eq_true rfl) dX6_term_18 ⟨Nat.le_refl _, Nat.le_refl _⟩ (fun H locs hP hS => ?_)
      refine lv_if_ne (tgt := 42) hx hb dX6_term_21 (by decide) (fun c5 => ?_) (fun c5 => ?_)
      · rw [if_neg c5] at h
        exact pf_X6_term_42 C hd0 hD hkE ih p1 v2 v3 z4 hk1 hP hS (lv_sub hl [0, 1, 2, 3] rfl) h
      · rw [if_pos c5] at h
        refine lv_aload_n hx hb dX6_term_24 rfl (lv_at hl 0 rfl) ?_
        refine lv_bipush (v := 47) hx hb dX6_term_25 (by decide) ?_
        obtain ⟨r7, z8, h6, h⟩ := bd_s h
        refine x_Vi (Rz := (r7, z8)) (As := [.int 47]) (rest := []) ⟨hx, hb, hml, hown, hts⟩ hK hP hS (kd_lt k_32 (by decide)) (cell_6 k_32) rfl (m_X6_isSign hG   h6) (cwV 1 hts gX6_term_X6_isSign rfl rfl rfl (by decide +kernel) (rmd_ok (by omega) (by decide))) rfl hl.1 rfl (Nat.le_of_ble_eq_true rfl) dX6_term_27 ⟨Nat.le_refl _, Nat.le_refl _⟩ (fun H locs hP hS => ?_)
        refine lv_if_ne (tgt := 42) hx hb dX6_term_30 (by decide) (fun c9 => ?_) (fun c9 => ?_)
        · rw [if_neg c9] at h
          exact pf_X6_term_42 C hd0 hD hkE ih p1 v2 v3 z8 hk1 hP hS (lv_sub hl [0, 1, 2, 3] rfl) h
        · rw [if_pos c9] at h
          refine lv_aload_n hx hb dX6_term_33 rfl (lv_at hl 0 rfl) ?_
          refine lv_bipush (v := 37) hx hb dX6_term_34 (by decide) ?_
          obtain ⟨r11, z12, h10, h⟩ := bd_s h
          refine x_Vi (Rz := (r11, z12)) (As := [.int 37]) (rest := []) ⟨hx, hb, hml, hown, hts⟩ hK hP hS (kd_lt k_32 (by decide)) (cell_6 k_32) rfl (m_X6_isSign hG   h10) (cwV 1 hts gX6_term_X6_isSign rfl rfl rfl (by decide +kernel) (rmd_ok (by omega) (by decide))) rfl hl.1 rfl (Nat.le_of_ble_eq_true rfl) dX6_term_36 ⟨Nat.le_refl _, Nat.le_refl _⟩ (fun H locs hP hS => ?_)
          refine lv_if_eq (tgt := 97) hx hb dX6_term_39 (by decide) (fun c13 => ?_) (fun c13 => ?_)
          · rw [if_pos c13] at h
            exact x_vret hx hb hr hlocks hK hP hS h dX6_term_97
          · rw [if_neg c13] at h
            exact pf_X6_term_42 C hd0 hD hkE ih p1 v2 v3 z12 hk1 hP hS (lv_sub hl [0, 1, 2, 3] rfl) h
def fn_X6_term (kE : Nat → Int32 → St → Option St) (p1 : Nat) (v2 : Int32) (z : St) : Option (St) := bv (fn_X6_unit kE p1 v2 z) (fun z2 => fn_X6_term_8 kE  fu p1 v2 0 z2)
set_option maxHeartbeats 4000000 in
set_option maxRecDepth 100000 in
theorem m_X6_term {l : Launch} {G : wG} (hG : Ok G) {kE : Nat → Int32 → St → Option St} {dd D : Nat} (hd0 : 10 ≤ dd) (hD : dd + 2 ≤ D) (hkE : ∀ {p1 : Nat} {v2 : Int32} {z : St} {Rz : St}, kd p1 = 2 → kE p1 v2 z = some Rz → Met l yX6_either wsX6_either (rmd dd) (va_Pc [.ref (G.2.2 32), .ref (G.2.2 p1), .int v2] (Pre G z)) (va_Qv (fun u => u = Rz) (Pre G) (AW G)) 0 0 (AW G)) {p1 : Nat} {v2 : Int32} {z : St} {Rz : St} (hk1 : kd p1 = 2) (h : fn_X6_term kE p1 v2 z = some Rz) : Met l yX6_term wsX6_term (rmd D) (va_Pc [.ref (G.2.2 32), .ref (G.2.2 p1), .int v2] (Pre G z)) (va_Qv (fun u => u = Rz) (Pre G) (AW G)) 0 0 (AW G) := by
  refine Met.ofW (cc := cX6_term) (maxL := 5) (ret := none) (by decide) rfl ?_
  intro p e s m args below meth c s₁ B hml hv
  obtain ⟨rfl, hP, hK⟩ := hv
  have C : CX p s m ([.ref (G.2.2 32), .ref (G.2.2 p1), .int v2] : List Value).toArray meth c cX6_term 5 wsX6_term RX6 none G := ⟨B.exec, B.bytes, hml, findClass_of_methodNamed B.named, atoms_spec (ws := wsX6_term) B.pre, B.returns, B.notSynchronized, hK, hG⟩
  obtain ⟨hx, hb, -, hown, hts, hr, hlocks, -, -⟩ := id C
  have hS : va_S (AW G) s.heap s.heap [] := va_S.rf
  have hl := lv_entry [.ref (G.2.2 32), .ref (G.2.2 p1), .int v2] (n := 5) (Nat.le_of_ble_eq_true rfl)
  rw [lg_entry_eq]
  generalize (lg_sl [.ref (G.2.2 32), .ref (G.2.2 p1), .int v2] ++ List.replicate (5 - (lg_sl [.ref (G.2.2 32), .ref (G.2.2 p1), .int v2]).length) Slot.unset).toArray = ls at hl ⊢
  have hl : lv_has ls 5 [(0, .ref (G.2.2 32)), (1, .ref (G.2.2 p1)), (2, .int v2)] := hl
  unfold fn_X6_term at h
  refine lv_aload_n hx hb dX6_term_0 rfl (lv_at hl 0 rfl) ?_
  refine lv_aload_n hx hb dX6_term_1 rfl (lv_at hl 1 rfl) ?_
  refine lv_iload_n hx hb dX6_term_2 rfl (lv_at hl 2 rfl) ?_
  obtain ⟨z2, h1, h⟩ := bv_s h
  refine x_Vv (Rz := z2) (As := [.ref (G.2.2 p1), .int v2]) (rest := []) ⟨hx, hb, hml, hown, hts⟩ hK hP hS (kd_lt k_32 (by decide)) (cell_6 k_32) rfl (m_X6_unit hG (D := D - 1) hd0 (by omega) hkE hk1 h1) (cwV 2 hts gX6_term_X6_unit rfl rfl rfl (by decide +kernel) (rmd_ok (by omega) (by decide))) rfl hl.1 rfl (Nat.le_of_ble_eq_true rfl) dX6_term_3 ⟨Nat.le_refl _, Nat.le_refl _⟩ (fun H locs hP hS => ?_)
  refine lv_iconst (v := 0) hx hb dX6_term_6 (by decide) ?_
  refine lv_istore_n (lv' := [(3, .int 0), (0, .ref (G.2.2 32)), (1, .ref (G.2.2 p1)), (2, .int v2)]) hx hb dX6_term_7 rfl hl (by decide) rfl (fun ls hl => ?_)
  exact pf_X6_term_8 C hd0 hD hkE  fu p1 v2 0 z2 hk1 _ _ _ hP hS (lv_sub hl [1, 2, 3, 0] rfl) h
def fn_X6_sum_49 (kE : Nat → Int32 → St → Option St) (k8 : Nat → Int32 → Int32 → St → Option (St)) (p1 : Nat) (v2 : Int32) (v3 : Int32) (tv0 : Int32) (z : St) : Option (St) := bv (fn_X6_advance   z) (fun z2 => bv (fn_X6_term kE p1 v2 z2) (fun z4 => bv (fn_X2_add  p1 tv0 0 z4) (fun z6 => k8 p1 v2 (v3 + 1) z6)))
set_option maxHeartbeats 4000000 in
set_option maxRecDepth 100000 in
theorem pf_X6_sum_49 {p : Program} {l : Launch} {e : Env} {s : State} {m : MethodId} {args : Array Value} {below : List Frame} {meth : Method} {c : Code} {G : wG} (C : CX p s m args meth c cX6_sum 5 wsX6_sum RX6 none G) {Rz : St} {kE : Nat → Int32 → St → Option St} {k8 : Nat → Int32 → Int32 → St → Option (St)} {dd D : Nat} (hd0 : 10 ≤ dd) (hD : dd + 3 ≤ D) (hkE : ∀ {p1 : Nat} {v2 : Int32} {z : St} {Rz : St}, kd p1 = 2 → kE p1 v2 z = some Rz → Met l yX6_either wsX6_either (rmd dd) (va_Pc [.ref (G.2.2 32), .ref (G.2.2 p1), .int v2] (Pre G z)) (va_Qv (fun u => u = Rz) (Pre G) (AW G)) 0 0 (AW G)) (hk_8 : ∀ (p1 : Nat) (v2 : Int32) (v3 : Int32) (z : St) (hk1 : kd p1 = 2) (H : Heap) (locs : List Loc) (ls : Array Slot), WP G z H → va_S (AW G) s.heap H locs → lv_has ls 5 [(0, .ref (G.2.2 32)), (1, .ref (G.2.2 p1)), (2, .int v2), (3, .int v3)] → k8 p1 v2 v3 z = some Rz → W p l e (rmd D) s m args below meth c H locs 0 0 (QV below args s G Rz) (F0 m 8 ls [])) (p1 : Nat) (v2 : Int32) (v3 : Int32) (tv0 : Int32) (z : St) (hk1 : kd p1 = 2) {H : Heap} {locs : List Loc} {ls : Array Slot} (hP : WP G z H) (hS : va_S (AW G) s.heap H locs) (hl : lv_has ls 5 [(0, .ref (G.2.2 32)), (1, .ref (G.2.2 p1)), (2, .int v2), (3, .int v3)]) (h : fn_X6_sum_49 kE k8 p1 v2 v3 tv0 z = some Rz) : W p l e (rmd D) s m args below meth c H locs 0 0 (QV below args s G Rz) (F0 m 49 ls [.int tv0]) := by
  obtain ⟨hx, hb, hml, hown, hts, hr, hlocks, hK, hG⟩ := id C
  unfold fn_X6_sum_49 at h
  refine lv_istore (lv' := [(4, .int tv0), (0, .ref (G.2.2 32)), (1, .ref (G.2.2 p1)), (2, .int v2), (3, .int v3)]) hx hb dX6_sum_49 hl (by decide) rfl (fun ls hl => ?_)
  refine lv_aload_n hx hb dX6_sum_51 rfl (lv_at hl 1 rfl) ?_
  obtain ⟨z2, h1, h⟩ := bv_s h
  refine x_Vv (Rz := z2) (As := []) (rest := []) ⟨hx, hb, hml, hown, hts⟩ hK hP hS (kd_lt k_32 (by decide)) (cell_6 k_32) rfl (m_X6_advance hG   h1) (cwV 0 hts gX6_sum_X6_advance rfl rfl rfl (by decide +kernel) (rmd_ok (by omega) (by decide))) rfl hl.1 rfl (Nat.le_of_ble_eq_true rfl) dX6_sum_52 ⟨Nat.le_refl _, Nat.le_refl _⟩ (fun H locs hP hS => ?_)
  refine lv_aload_n hx hb dX6_sum_55 rfl (lv_at hl 1 rfl) ?_
  refine lv_aload_n hx hb dX6_sum_56 rfl (lv_at hl 2 rfl) ?_
  refine lv_iload_n hx hb dX6_sum_57 rfl (lv_at hl 3 rfl) ?_
  obtain ⟨z4, h3, h⟩ := bv_s h
  refine x_Vv (Rz := z4) (As := [.ref (G.2.2 p1), .int v2]) (rest := []) ⟨hx, hb, hml, hown, hts⟩ hK hP hS (kd_lt k_32 (by decide)) (cell_6 k_32) rfl (m_X6_term hG (D := D - 1) hd0 (by omega) hkE hk1 h3) (cwV 2 hts gX6_sum_X6_term rfl rfl rfl (by decide +kernel) (rmd_ok (by omega) (by decide))) rfl hl.1 rfl (Nat.le_of_ble_eq_true rfl) dX6_sum_58 ⟨Nat.le_refl _, Nat.le_refl _⟩ (fun H locs hP hS => ?_)
  refine lv_aload_n hx hb dX6_sum_61 rfl (lv_at hl 2 rfl) ?_
  refine lv_iload hx hb dX6_sum_62 (lv_at hl 0 rfl) ?_
  refine lv_iconst (v := 0) hx hb dX6_sum_64 (by decide) ?_
  obtain ⟨z6, h5, h⟩ := bv_s h
  refine x_Vv (Rz := z6) (As := [.int tv0, .int 0]) (rest := []) ⟨hx, hb, hml, hown, hts⟩ hK hP hS (kd_lt hk1 (by decide)) (cell_2 hk1) rfl (m_X2_add hG  hk1 h5) (cwV 2 hts gX6_sum_X2_add rfl rfl rfl (by decide +kernel) (rmd_ok (by omega) (by decide))) rfl hl.1 rfl (Nat.le_of_ble_eq_true rfl) dX6_sum_65 ⟨Nat.le_refl _, Nat.le_refl _⟩ (fun H locs hP hS => ?_)
  refine lv_iinc (v := (v3 + 1)) (lv' := [(3, .int (v3 + 1)), (4, .int tv0), (0, .ref (G.2.2 32)), (1, .ref (G.2.2 p1)), (2, .int v2)]) hx hb dX6_sum_68 hl (k := 4) rfl rfl (by decide) rfl (fun ls hl => ?_)
  refine lv_goto (tgt := 8) hx hb dX6_sum_71 (by decide) ?_
  exact hk_8 p1 v2 (v3 + 1) z6 hk1 _ _ _ hP hS (lv_sub hl [2, 3, 4, 0] rfl) h
def fn_X6_sum_33 (kE : Nat → Int32 → St → Option St) (k8 : Nat → Int32 → Int32 → St → Option (St)) (p1 : Nat) (v2 : Int32) (v3 : Int32) (z : St) : Option (St) := bd (fn_X6_isSign  43 z) (fun r2 z3 => (if r2 = 0 then fn_X6_sum_49 kE k8 p1 v2 v3 14 z3 else fn_X6_sum_49 kE k8 p1 v2 v3 13 z3))
set_option maxHeartbeats 4000000 in
set_option maxRecDepth 100000 in
theorem pf_X6_sum_33 {p : Program} {l : Launch} {e : Env} {s : State} {m : MethodId} {args : Array Value} {below : List Frame} {meth : Method} {c : Code} {G : wG} (C : CX p s m args meth c cX6_sum 5 wsX6_sum RX6 none G) {Rz : St} {kE : Nat → Int32 → St → Option St} {k8 : Nat → Int32 → Int32 → St → Option (St)} {dd D : Nat} (hd0 : 10 ≤ dd) (hD : dd + 3 ≤ D) (hkE : ∀ {p1 : Nat} {v2 : Int32} {z : St} {Rz : St}, kd p1 = 2 → kE p1 v2 z = some Rz → Met l yX6_either wsX6_either (rmd dd) (va_Pc [.ref (G.2.2 32), .ref (G.2.2 p1), .int v2] (Pre G z)) (va_Qv (fun u => u = Rz) (Pre G) (AW G)) 0 0 (AW G)) (hk_8 : ∀ (p1 : Nat) (v2 : Int32) (v3 : Int32) (z : St) (hk1 : kd p1 = 2) (H : Heap) (locs : List Loc) (ls : Array Slot), WP G z H → va_S (AW G) s.heap H locs → lv_has ls 5 [(0, .ref (G.2.2 32)), (1, .ref (G.2.2 p1)), (2, .int v2), (3, .int v3)] → k8 p1 v2 v3 z = some Rz → W p l e (rmd D) s m args below meth c H locs 0 0 (QV below args s G Rz) (F0 m 8 ls [])) (p1 : Nat) (v2 : Int32) (v3 : Int32) (z : St) (hk1 : kd p1 = 2) {H : Heap} {locs : List Loc} {ls : Array Slot} (hP : WP G z H) (hS : va_S (AW G) s.heap H locs) (hl : lv_has ls 5 [(0, .ref (G.2.2 32)), (1, .ref (G.2.2 p1)), (2, .int v2), (3, .int v3)]) (h : fn_X6_sum_33 kE k8 p1 v2 v3 z = some Rz) : W p l e (rmd D) s m args below meth c H locs 0 0 (QV below args s G Rz) (F0 m 33 ls []) := by
  obtain ⟨hx, hb, hml, hown, hts, hr, hlocks, hK, hG⟩ := id C
  unfold fn_X6_sum_33 at h
  refine lv_aload_n hx hb dX6_sum_33 rfl (lv_at hl 0 rfl) ?_
  refine lv_bipush (v := 43) hx hb dX6_sum_34 (by decide) ?_
  obtain ⟨r2, z3, h1, h⟩ := bd_s h
  refine x_Vi (Rz := (r2, z3)) (As := [.int 43]) (rest := []) ⟨hx, hb, hml, hown, hts⟩ hK hP hS (kd_lt k_32 (by decide)) (cell_6 k_32) rfl (m_X6_isSign hG   h1) (cwV 1 hts gX6_sum_X6_isSign rfl rfl rfl (by decide +kernel) (rmd_ok (by omega) (by decide))) rfl hl.1 rfl (Nat.le_of_ble_eq_true rfl) dX6_sum_36 ⟨Nat.le_refl _, Nat.le_refl _⟩ (fun H locs hP hS => ?_)
  refine lv_if_eq (tgt := 47) hx hb dX6_sum_39 (by decide) (fun c4 => ?_) (fun c4 => ?_)
  · rw [if_pos c4] at h
    refine lv_bipush (v := 14) hx hb dX6_sum_47 (by decide) ?_
    exact pf_X6_sum_49 C hd0 hD hkE hk_8 p1 v2 v3 14 z3 hk1 hP hS (lv_sub hl [0, 1, 2, 3] rfl) h
  · rw [if_neg c4] at h
    refine lv_bipush (v := 13) hx hb dX6_sum_42 (by decide) ?_
    refine lv_goto (tgt := 49) hx hb dX6_sum_44 (by decide) ?_
    exact pf_X6_sum_49 C hd0 hD hkE hk_8 p1 v2 v3 13 z3 hk1 hP hS (lv_sub hl [0, 1, 2, 3] rfl) h
def fn_X6_sum_8 (kE : Nat → Int32 → St → Option St) : Nat → Nat → Int32 → Int32 → St → Option (St)
  | 0, _, _, _, _ => none
  | n + 1, p1, v2, v3, z => (if 1600 ≤ v3 then some z else bd (fn_X6_isSign  43 z) (fun r3 z4 => (if r3 = 0 then bd (fn_X6_isSign  45 z4) (fun r7 z8 => (if r7 = 0 then some z8 else fn_X6_sum_33 kE (fn_X6_sum_8 kE  n) p1 v2 v3 z8)) else fn_X6_sum_33 kE (fn_X6_sum_8 kE  n) p1 v2 v3 z4)))
set_option maxHeartbeats 4000000 in
set_option maxRecDepth 100000 in
theorem pf_X6_sum_8 {p : Program} {l : Launch} {e : Env} {s : State} {m : MethodId} {args : Array Value} {below : List Frame} {meth : Method} {c : Code} {G : wG} (C : CX p s m args meth c cX6_sum 5 wsX6_sum RX6 none G) {Rz : St} {kE : Nat → Int32 → St → Option St} {dd D : Nat} (hd0 : 10 ≤ dd) (hD : dd + 3 ≤ D) (hkE : ∀ {p1 : Nat} {v2 : Int32} {z : St} {Rz : St}, kd p1 = 2 → kE p1 v2 z = some Rz → Met l yX6_either wsX6_either (rmd dd) (va_Pc [.ref (G.2.2 32), .ref (G.2.2 p1), .int v2] (Pre G z)) (va_Qv (fun u => u = Rz) (Pre G) (AW G)) 0 0 (AW G)) : ∀ (n : Nat) (p1 : Nat) (v2 : Int32) (v3 : Int32) (z : St) (hk1 : kd p1 = 2) (H : Heap) (locs : List Loc) (ls : Array Slot), WP G z H → va_S (AW G) s.heap H locs → lv_has ls 5 [(0, .ref (G.2.2 32)), (1, .ref (G.2.2 p1)), (2, .int v2), (3, .int v3)] → fn_X6_sum_8 kE  n p1 v2 v3 z = some Rz → W p l e (rmd D) s m args below meth c H locs 0 0 (QV below args s G Rz) (F0 m 8 ls []) := by
  obtain ⟨hx, hb, hml, hown, hts, hr, hlocks, hK, hG⟩ := id C
  intro n
  induction n with
  | zero => intro p1 v2 v3 z hk1 H locs ls hP hS hl h; cases h
  | succ n ih =>
    intro p1 v2 v3 z hk1 H locs ls hP hS hl h
    rw [fn_X6_sum_8] at h
    refine lv_iload_n hx hb dX6_sum_8 rfl (lv_at hl 3 rfl) ?_
    refine lv_sipush (v := 1600) hx hb dX6_sum_9 (by decide) ?_
    refine lv_icmp_ge (tgt := 74) hx hb dX6_sum_12 (by decide) (fun c1 => ?_) (fun c1 => ?_)
    · rw [if_pos c1] at h
      exact x_vret hx hb hr hlocks hK hP hS h dX6_sum_74
    · rw [if_neg c1] at h
      refine lv_aload_n hx hb dX6_sum_15 rfl (lv_at hl 0 rfl) ?_
      refine lv_bipush (v := 43) hx hb dX6_sum_16 (by decide) ?_
      obtain ⟨r3, z4, h2, h⟩ := bd_s h
      refine x_Vi (Rz := (r3, z4)) (As := [.int 43]) (rest := []) ⟨hx, hb, hml, hown, hts⟩ hK hP hS (kd_lt k_32 (by decide)) (cell_6 k_32) rfl (m_X6_isSign hG   h2) (cwV 1 hts gX6_sum_X6_isSign rfl rfl rfl (by decide +kernel) (rmd_ok (by omega) (by decide))) rfl hl.1 rfl (Nat.le_of_ble_eq_true rfl) dX6_sum_18 ⟨Nat.le_refl _, Nat.le_refl _⟩ (fun H locs hP hS => ?_)
      refine lv_if_ne (tgt := 33) hx hb dX6_sum_21 (by decide) (fun c5 => ?_) (fun c5 => ?_)
      · rw [if_neg c5] at h
        exact pf_X6_sum_33 C hd0 hD hkE ih p1 v2 v3 z4 hk1 hP hS (lv_sub hl [0, 1, 2, 3] rfl) h
      · rw [if_pos c5] at h
        refine lv_aload_n hx hb dX6_sum_24 rfl (lv_at hl 0 rfl) ?_
        refine lv_bipush (v := 45) hx hb dX6_sum_25 (by decide) ?_
        obtain ⟨r7, z8, h6, h⟩ := bd_s h
        refine x_Vi (Rz := (r7, z8)) (As := [.int 45]) (rest := []) ⟨hx, hb, hml, hown, hts⟩ hK hP hS (kd_lt k_32 (by decide)) (cell_6 k_32) rfl (m_X6_isSign hG   h6) (cwV 1 hts gX6_sum_X6_isSign rfl rfl rfl (by decide +kernel) (rmd_ok (by omega) (by decide))) rfl hl.1 rfl (Nat.le_of_ble_eq_true rfl) dX6_sum_27 ⟨Nat.le_refl _, Nat.le_refl _⟩ (fun H locs hP hS => ?_)
        refine lv_if_eq (tgt := 74) hx hb dX6_sum_30 (by decide) (fun c9 => ?_) (fun c9 => ?_)
        · rw [if_pos c9] at h
          exact x_vret hx hb hr hlocks hK hP hS h dX6_sum_74
        · rw [if_neg c9] at h
          exact pf_X6_sum_33 C hd0 hD hkE ih p1 v2 v3 z8 hk1 hP hS (lv_sub hl [0, 1, 2, 3] rfl) h
def fn_X6_sum (kE : Nat → Int32 → St → Option St) (p1 : Nat) (v2 : Int32) (z : St) : Option (St) := bv (fn_X6_term kE p1 v2 z) (fun z2 => fn_X6_sum_8 kE  fu p1 v2 0 z2)
set_option maxHeartbeats 4000000 in
set_option maxRecDepth 100000 in
theorem m_X6_sum {l : Launch} {G : wG} (hG : Ok G) {kE : Nat → Int32 → St → Option St} {dd D : Nat} (hd0 : 10 ≤ dd) (hD : dd + 3 ≤ D) (hkE : ∀ {p1 : Nat} {v2 : Int32} {z : St} {Rz : St}, kd p1 = 2 → kE p1 v2 z = some Rz → Met l yX6_either wsX6_either (rmd dd) (va_Pc [.ref (G.2.2 32), .ref (G.2.2 p1), .int v2] (Pre G z)) (va_Qv (fun u => u = Rz) (Pre G) (AW G)) 0 0 (AW G)) {p1 : Nat} {v2 : Int32} {z : St} {Rz : St} (hk1 : kd p1 = 2) (h : fn_X6_sum kE p1 v2 z = some Rz) : Met l yX6_sum wsX6_sum (rmd D) (va_Pc [.ref (G.2.2 32), .ref (G.2.2 p1), .int v2] (Pre G z)) (va_Qv (fun u => u = Rz) (Pre G) (AW G)) 0 0 (AW G) := by
  refine Met.ofW (cc := cX6_sum) (maxL := 5) (ret := none) (by decide) rfl ?_
  intro p e s m args below meth c s₁ B hml hv
  obtain ⟨rfl, hP, hK⟩ := hv
  have C : CX p s m ([.ref (G.2.2 32), .ref (G.2.2 p1), .int v2] : List Value).toArray meth c cX6_sum 5 wsX6_sum RX6 none G := ⟨B.exec, B.bytes, hml, findClass_of_methodNamed B.named, atoms_spec (ws := wsX6_sum) B.pre, B.returns, B.notSynchronized, hK, hG⟩
  obtain ⟨hx, hb, -, hown, hts, hr, hlocks, -, -⟩ := id C
  have hS : va_S (AW G) s.heap s.heap [] := va_S.rf
  have hl := lv_entry [.ref (G.2.2 32), .ref (G.2.2 p1), .int v2] (n := 5) (Nat.le_of_ble_eq_true rfl)
  rw [lg_entry_eq]
  generalize (lg_sl [.ref (G.2.2 32), .ref (G.2.2 p1), .int v2] ++ List.replicate (5 - (lg_sl [.ref (G.2.2 32), .ref (G.2.2 p1), .int v2]).length) Slot.unset).toArray = ls at hl ⊢
  have hl : lv_has ls 5 [(0, .ref (G.2.2 32)), (1, .ref (G.2.2 p1)), (2, .int v2)] := hl
  unfold fn_X6_sum at h
  refine lv_aload_n hx hb dX6_sum_0 rfl (lv_at hl 0 rfl) ?_
  refine lv_aload_n hx hb dX6_sum_1 rfl (lv_at hl 1 rfl) ?_
  refine lv_iload_n hx hb dX6_sum_2 rfl (lv_at hl 2 rfl) ?_
  obtain ⟨z2, h1, h⟩ := bv_s h
  refine x_Vv (Rz := z2) (As := [.ref (G.2.2 p1), .int v2]) (rest := []) ⟨hx, hb, hml, hown, hts⟩ hK hP hS (kd_lt k_32 (by decide)) (cell_6 k_32) rfl (m_X6_term hG (D := D - 1) hd0 (by omega) hkE hk1 h1) (cwV 2 hts gX6_sum_X6_term rfl rfl rfl (by decide +kernel) (rmd_ok (by omega) (by decide))) rfl hl.1 rfl (Nat.le_of_ble_eq_true rfl) dX6_sum_3 ⟨Nat.le_refl _, Nat.le_refl _⟩ (fun H locs hP hS => ?_)
  refine lv_iconst (v := 0) hx hb dX6_sum_6 (by decide) ?_
  refine lv_istore_n (lv' := [(3, .int 0), (0, .ref (G.2.2 32)), (1, .ref (G.2.2 p1)), (2, .int v2)]) hx hb dX6_sum_7 rfl hl (by decide) rfl (fun ls hl => ?_)
  exact pf_X6_sum_8 C hd0 hD hkE  fu p1 v2 0 z2 hk1 _ _ _ hP hS (lv_sub hl [1, 2, 3, 0] rfl) h
def fn_X6_relation_49 (kE : Nat → Int32 → St → Option St) (p1 : Nat) (v2 : Int32) (tv0 : Int32) (z : St) : Option (St) := (if tv0 = (-1) then some z else bv (fn_X6_advance   z) (fun z3 => bv (fn_X6_sum kE p1 v2 z3) (fun z5 => bv (fn_X2_add  p1 tv0 0 z5) (fun z7 => some z7))))
set_option maxHeartbeats 4000000 in
set_option maxRecDepth 100000 in
theorem pf_X6_relation_49 {p : Program} {l : Launch} {e : Env} {s : State} {m : MethodId} {args : Array Value} {below : List Frame} {meth : Method} {c : Code} {G : wG} (C : CX p s m args meth c cX6_relation 4 wsX6_relation RX6 none G) {Rz : St} {kE : Nat → Int32 → St → Option St} {dd D : Nat} (hd0 : 10 ≤ dd) (hD : dd + 4 ≤ D) (hkE : ∀ {p1 : Nat} {v2 : Int32} {z : St} {Rz : St}, kd p1 = 2 → kE p1 v2 z = some Rz → Met l yX6_either wsX6_either (rmd dd) (va_Pc [.ref (G.2.2 32), .ref (G.2.2 p1), .int v2] (Pre G z)) (va_Qv (fun u => u = Rz) (Pre G) (AW G)) 0 0 (AW G)) (p1 : Nat) (v2 : Int32) (tv0 : Int32) (z : St) (hk1 : kd p1 = 2) {H : Heap} {locs : List Loc} {ls : Array Slot} (hP : WP G z H) (hS : va_S (AW G) s.heap H locs) (hl : lv_has ls 4 [(0, .ref (G.2.2 32)), (1, .ref (G.2.2 p1)), (2, .int v2)]) (h : fn_X6_relation_49 kE  p1 v2 tv0 z = some Rz) : W p l e (rmd D) s m args below meth c H locs 0 0 (QV below args s G Rz) (F0 m 49 ls [.int tv0]) := by
  obtain ⟨hx, hb, hml, hown, hts, hr, hlocks, hK, hG⟩ := id C
  unfold fn_X6_relation_49 at h
  refine lv_istore_n (lv' := [(3, .int tv0), (0, .ref (G.2.2 32)), (1, .ref (G.2.2 p1)), (2, .int v2)]) hx hb dX6_relation_49 rfl hl (by decide) rfl (fun ls hl => ?_)
  refine lv_iload_n hx hb dX6_relation_50 rfl (lv_at hl 0 rfl) ?_
  refine lv_iconst (v := (-1)) hx hb dX6_relation_51 (by decide) ?_
  refine lv_icmp_eq (tgt := 71) hx hb dX6_relation_52 (by decide) (fun c1 => ?_) (fun c1 => ?_)
  · rw [if_pos c1] at h
    exact x_vret hx hb hr hlocks hK hP hS h dX6_relation_71
  · rw [if_neg c1] at h
    refine lv_aload_n hx hb dX6_relation_55 rfl (lv_at hl 1 rfl) ?_
    obtain ⟨z3, h2, h⟩ := bv_s h
    refine x_Vv (Rz := z3) (As := []) (rest := []) ⟨hx, hb, hml, hown, hts⟩ hK hP hS (kd_lt k_32 (by decide)) (cell_6 k_32) rfl (m_X6_advance hG   h2) (cwV 0 hts gX6_relation_X6_advance rfl rfl rfl (by decide +kernel) (rmd_ok (by omega) (by decide))) rfl hl.1 rfl (Nat.le_of_ble_eq_true rfl) dX6_relation_56 ⟨Nat.le_refl _, Nat.le_refl _⟩ (fun H locs hP hS => ?_)
    refine lv_aload_n hx hb dX6_relation_59 rfl (lv_at hl 1 rfl) ?_
    refine lv_aload_n hx hb dX6_relation_60 rfl (lv_at hl 2 rfl) ?_
    refine lv_iload_n hx hb dX6_relation_61 rfl (lv_at hl 3 rfl) ?_
    obtain ⟨z5, h4, h⟩ := bv_s h
    refine x_Vv (Rz := z5) (As := [.ref (G.2.2 p1), .int v2]) (rest := []) ⟨hx, hb, hml, hown, hts⟩ hK hP hS (kd_lt k_32 (by decide)) (cell_6 k_32) rfl (m_X6_sum hG (D := D - 1) hd0 (by omega) hkE hk1 h4) (cwV 2 hts gX6_relation_X6_sum rfl rfl rfl (by decide +kernel) (rmd_ok (by omega) (by decide))) rfl hl.1 rfl (Nat.le_of_ble_eq_true rfl) dX6_relation_62 ⟨Nat.le_refl _, Nat.le_refl _⟩ (fun H locs hP hS => ?_)
    refine lv_aload_n hx hb dX6_relation_65 rfl (lv_at hl 2 rfl) ?_
    refine lv_iload_n hx hb dX6_relation_66 rfl (lv_at hl 0 rfl) ?_
    refine lv_iconst (v := 0) hx hb dX6_relation_67 (by decide) ?_
    obtain ⟨z7, h6, h⟩ := bv_s h
    refine x_Vv (Rz := z7) (As := [.int tv0, .int 0]) (rest := []) ⟨hx, hb, hml, hown, hts⟩ hK hP hS (kd_lt hk1 (by decide)) (cell_2 hk1) rfl (m_X2_add hG  hk1 h6) (cwV 2 hts gX6_relation_X2_add rfl rfl rfl (by decide +kernel) (rmd_ok (by omega) (by decide))) rfl hl.1 rfl (Nat.le_of_ble_eq_true rfl) dX6_relation_68 ⟨Nat.le_refl _, Nat.le_refl _⟩ (fun H locs hP hS => ?_)
    exact x_vret hx hb hr hlocks hK hP hS h dX6_relation_71
def fn_X6_relation (kE : Nat → Int32 → St → Option St) (p1 : Nat) (v2 : Int32) (z : St) : Option (St) := bv (fn_X6_sum kE p1 v2 z) (fun z2 => bd (fn_X6_isSign  60 z2) (fun r4 z5 => (if r4 = 0 then bd (fn_X6_isSign  62 z5) (fun r8 z9 => (if r8 = 0 then bd (fn_X6_isSign  61 z9) (fun r12 z13 => (if r12 = 0 then fn_X6_relation_49 kE  p1 v2 (-1) z13 else fn_X6_relation_49 kE  p1 v2 12 z13)) else fn_X6_relation_49 kE  p1 v2 11 z9)) else fn_X6_relation_49 kE  p1 v2 10 z5)))
set_option maxHeartbeats 4000000 in
set_option maxRecDepth 100000 in
theorem m_X6_relation {l : Launch} {G : wG} (hG : Ok G) {kE : Nat → Int32 → St → Option St} {dd D : Nat} (hd0 : 10 ≤ dd) (hD : dd + 4 ≤ D) (hkE : ∀ {p1 : Nat} {v2 : Int32} {z : St} {Rz : St}, kd p1 = 2 → kE p1 v2 z = some Rz → Met l yX6_either wsX6_either (rmd dd) (va_Pc [.ref (G.2.2 32), .ref (G.2.2 p1), .int v2] (Pre G z)) (va_Qv (fun u => u = Rz) (Pre G) (AW G)) 0 0 (AW G)) {p1 : Nat} {v2 : Int32} {z : St} {Rz : St} (hk1 : kd p1 = 2) (h : fn_X6_relation kE p1 v2 z = some Rz) : Met l yX6_relation wsX6_relation (rmd D) (va_Pc [.ref (G.2.2 32), .ref (G.2.2 p1), .int v2] (Pre G z)) (va_Qv (fun u => u = Rz) (Pre G) (AW G)) 0 0 (AW G) := by
  refine Met.ofW (cc := cX6_relation) (maxL := 4) (ret := none) (by decide) rfl ?_
  intro p e s m args below meth c s₁ B hml hv
  obtain ⟨rfl, hP, hK⟩ := hv
  have C : CX p s m ([.ref (G.2.2 32), .ref (G.2.2 p1), .int v2] : List Value).toArray meth c cX6_relation 4 wsX6_relation RX6 none G := ⟨B.exec, B.bytes, hml, findClass_of_methodNamed B.named, atoms_spec (ws := wsX6_relation) B.pre, B.returns, B.notSynchronized, hK, hG⟩
  obtain ⟨hx, hb, -, hown, hts, hr, hlocks, -, -⟩ := id C
  have hS : va_S (AW G) s.heap s.heap [] := va_S.rf
  have hl := lv_entry [.ref (G.2.2 32), .ref (G.2.2 p1), .int v2] (n := 4) (Nat.le_of_ble_eq_true rfl)
  rw [lg_entry_eq]
  generalize (lg_sl [.ref (G.2.2 32), .ref (G.2.2 p1), .int v2] ++ List.replicate (4 - (lg_sl [.ref (G.2.2 32), .ref (G.2.2 p1), .int v2]).length) Slot.unset).toArray = ls at hl ⊢
  have hl : lv_has ls 4 [(0, .ref (G.2.2 32)), (1, .ref (G.2.2 p1)), (2, .int v2)] := hl
  unfold fn_X6_relation at h
  refine lv_aload_n hx hb dX6_relation_0 rfl (lv_at hl 0 rfl) ?_
  refine lv_aload_n hx hb dX6_relation_1 rfl (lv_at hl 1 rfl) ?_
  refine lv_iload_n hx hb dX6_relation_2 rfl (lv_at hl 2 rfl) ?_
  obtain ⟨z2, h1, h⟩ := bv_s h
  refine x_Vv (Rz := z2) (As := [.ref (G.2.2 p1), .int v2]) (rest := []) ⟨hx, hb, hml, hown, hts⟩ hK hP hS (kd_lt k_32 (by decide)) (cell_6 k_32) rfl (m_X6_sum hG (D := D - 1) hd0 (by omega) hkE hk1 h1) (cwV 2 hts gX6_relation_X6_sum rfl rfl rfl (by decide +kernel) (rmd_ok (by omega) (by decide))) rfl hl.1 rfl (Nat.le_of_ble_eq_true rfl) dX6_relation_3 ⟨Nat.le_refl _, Nat.le_refl _⟩ (fun H locs hP hS => ?_)
  refine lv_aload_n hx hb dX6_relation_6 rfl (lv_at hl 0 rfl) ?_
  refine lv_bipush (v := 60) hx hb dX6_relation_7 (by decide) ?_
  obtain ⟨r4, z5, h3, h⟩ := bd_s h
  refine x_Vi (Rz := (r4, z5)) (As := [.int 60]) (rest := []) ⟨hx, hb, hml, hown, hts⟩ hK hP hS (kd_lt k_32 (by decide)) (cell_6 k_32) rfl (m_X6_isSign hG   h3) (cwV 1 hts gX6_relation_X6_isSign rfl rfl rfl (by decide +kernel) (rmd_ok (by omega) (by decide))) rfl hl.1 rfl (Nat.le_of_ble_eq_true rfl) dX6_relation_9 ⟨Nat.le_refl _, Nat.le_refl _⟩ (fun H locs hP hS => ?_)
  refine lv_if_eq (tgt := 20) hx hb dX6_relation_12 (by decide) (fun c6 => ?_) (fun c6 => ?_)
  · rw [if_pos c6] at h
    refine lv_aload_n hx hb dX6_relation_20 rfl (lv_at hl 0 rfl) ?_
    refine lv_bipush (v := 62) hx hb dX6_relation_21 (by decide) ?_
    obtain ⟨r8, z9, h7, h⟩ := bd_s h
    refine x_Vi (Rz := (r8, z9)) (As := [.int 62]) (rest := []) ⟨hx, hb, hml, hown, hts⟩ hK hP hS (kd_lt k_32 (by decide)) (cell_6 k_32) rfl (m_X6_isSign hG   h7) (cwV 1 hts gX6_relation_X6_isSign rfl rfl rfl (by decide +kernel) (rmd_ok (by omega) (by decide))) rfl hl.1 rfl (Nat.le_of_ble_eq_true rfl) dX6_relation_23 ⟨Nat.le_refl _, Nat.le_refl _⟩ (fun H locs hP hS => ?_)
    refine lv_if_eq (tgt := 34) hx hb dX6_relation_26 (by decide) (fun c10 => ?_) (fun c10 => ?_)
    · rw [if_pos c10] at h
      refine lv_aload_n hx hb dX6_relation_34 rfl (lv_at hl 0 rfl) ?_
      refine lv_bipush (v := 61) hx hb dX6_relation_35 (by decide) ?_
      obtain ⟨r12, z13, h11, h⟩ := bd_s h
      refine x_Vi (Rz := (r12, z13)) (As := [.int 61]) (rest := []) ⟨hx, hb, hml, hown, hts⟩ hK hP hS (kd_lt k_32 (by decide)) (cell_6 k_32) rfl (m_X6_isSign hG   h11) (cwV 1 hts gX6_relation_X6_isSign rfl rfl rfl (by decide +kernel) (rmd_ok (by omega) (by decide))) rfl hl.1 rfl (Nat.le_of_ble_eq_true rfl) dX6_relation_37 ⟨Nat.le_refl _, Nat.le_refl _⟩ (fun H locs hP hS => ?_)
      refine lv_if_eq (tgt := 48) hx hb dX6_relation_40 (by decide) (fun c14 => ?_) (fun c14 => ?_)
      · rw [if_pos c14] at h
        refine lv_iconst (v := (-1)) hx hb dX6_relation_48 (by decide) ?_
        exact pf_X6_relation_49 C hd0 hD hkE  p1 v2 (-1) z13 hk1 hP hS (lv_sub hl [0, 1, 2] rfl) h
      · rw [if_neg c14] at h
        refine lv_bipush (v := 12) hx hb dX6_relation_43 (by decide) ?_
        refine lv_goto (tgt := 49) hx hb dX6_relation_45 (by decide) ?_
        exact pf_X6_relation_49 C hd0 hD hkE  p1 v2 12 z13 hk1 hP hS (lv_sub hl [0, 1, 2] rfl) h
    · rw [if_neg c10] at h
      refine lv_bipush (v := 11) hx hb dX6_relation_29 (by decide) ?_
      refine lv_goto (tgt := 49) hx hb dX6_relation_31 (by decide) ?_
      exact pf_X6_relation_49 C hd0 hD hkE  p1 v2 11 z9 hk1 hP hS (lv_sub hl [0, 1, 2] rfl) h
  · rw [if_neg c6] at h
    refine lv_bipush (v := 10) hx hb dX6_relation_15 (by decide) ?_
    refine lv_goto (tgt := 49) hx hb dX6_relation_17 (by decide) ?_
    exact pf_X6_relation_49 C hd0 hD hkE  p1 v2 10 z5 hk1 hP hS (lv_sub hl [0, 1, 2] rfl) h
def fn_X6_one (kE : Nat → Int32 → St → Option St) (kO : Nat → Int32 → St → Option St) (p1 : Nat) (v2 : Int32) (z : St) : Option (St) := bd (fn_X6_isKeyword  13 z) (fun r2 z3 => (if r2 = 0 then bv (fn_X6_relation kE p1 v2 z3) (fun z15 => some z15) else (if v2 ≤ 6 then bv (fn_X6_advance   z3) (fun z7 => bv (kO p1 (v2 + 1) z7) (fun z9 => bv (fn_X2_add  p1 7 0 z9) (fun z11 => some z11))) else bv (fn_X6_refuse   z3) (fun z13 => some z13))))
set_option maxHeartbeats 4000000 in
set_option maxRecDepth 100000 in
theorem m_X6_one {l : Launch} {G : wG} (hG : Ok G) {kE : Nat → Int32 → St → Option St} {kO : Nat → Int32 → St → Option St} {dd D : Nat} (hd0 : 10 ≤ dd) (hD : dd + 5 ≤ D) (hkE : ∀ {p1 : Nat} {v2 : Int32} {z : St} {Rz : St}, kd p1 = 2 → kE p1 v2 z = some Rz → Met l yX6_either wsX6_either (rmd dd) (va_Pc [.ref (G.2.2 32), .ref (G.2.2 p1), .int v2] (Pre G z)) (va_Qv (fun u => u = Rz) (Pre G) (AW G)) 0 0 (AW G)) (hkO : ∀ {p1 : Nat} {v2 : Int32} {z : St} {Rz : St}, kd p1 = 2 → kO p1 v2 z = some Rz → Met l yX6_one wsX6_one (rmd dd) (va_Pc [.ref (G.2.2 32), .ref (G.2.2 p1), .int v2] (Pre G z)) (va_Qv (fun u => u = Rz) (Pre G) (AW G)) 0 0 (AW G)) {p1 : Nat} {v2 : Int32} {z : St} {Rz : St} (hk1 : kd p1 = 2) (h : fn_X6_one kE kO p1 v2 z = some Rz) : Met l yX6_one wsX6_one (rmd D) (va_Pc [.ref (G.2.2 32), .ref (G.2.2 p1), .int v2] (Pre G z)) (va_Qv (fun u => u = Rz) (Pre G) (AW G)) 0 0 (AW G) := by
  refine Met.ofW (cc := cX6_one) (maxL := 3) (ret := none) (by decide) rfl ?_
  intro p e s m args below meth c s₁ B hml hv
  obtain ⟨rfl, hP, hK⟩ := hv
  have C : CX p s m ([.ref (G.2.2 32), .ref (G.2.2 p1), .int v2] : List Value).toArray meth c cX6_one 3 wsX6_one RX6 none G := ⟨B.exec, B.bytes, hml, findClass_of_methodNamed B.named, atoms_spec (ws := wsX6_one) B.pre, B.returns, B.notSynchronized, hK, hG⟩
  obtain ⟨hx, hb, -, hown, hts, hr, hlocks, -, -⟩ := id C
  have hS : va_S (AW G) s.heap s.heap [] := va_S.rf
  have hl := lv_entry [.ref (G.2.2 32), .ref (G.2.2 p1), .int v2] (n := 3) (Nat.le_of_ble_eq_true rfl)
  rw [lg_entry_eq]
  generalize (lg_sl [.ref (G.2.2 32), .ref (G.2.2 p1), .int v2] ++ List.replicate (3 - (lg_sl [.ref (G.2.2 32), .ref (G.2.2 p1), .int v2]).length) Slot.unset).toArray = ls at hl ⊢
  have hl : lv_has ls 3 [(0, .ref (G.2.2 32)), (1, .ref (G.2.2 p1)), (2, .int v2)] := hl
  unfold fn_X6_one at h
  refine lv_aload_n hx hb dX6_one_0 rfl (lv_at hl 0 rfl) ?_
  refine lv_bipush (v := 13) hx hb dX6_one_1 (by decide) ?_
  obtain ⟨r2, z3, h1, h⟩ := bd_s h
  refine x_Vi (Rz := (r2, z3)) (As := [.int 13]) (rest := []) ⟨hx, hb, hml, hown, hts⟩ hK hP hS (kd_lt k_32 (by decide)) (cell_6 k_32) rfl (m_X6_isKeyword hG   h1) (cwV 1 hts gX6_one_X6_isKeyword rfl rfl rfl (by decide +kernel) (rmd_ok (by omega) (by decide))) rfl hl.1 rfl (Nat.le_of_ble_eq_true rfl) dX6_one_3 ⟨Nat.le_refl _, Nat.le_refl _⟩ (fun H locs hP hS => ?_)
  refine lv_if_ne (tgt := 16) hx hb dX6_one_6 (by decide) (fun c4 => ?_) (fun c4 => ?_)
  · rw [if_neg c4] at h
    refine lv_iload_n hx hb dX6_one_16 rfl (lv_at hl 2 rfl) ?_
    refine lv_bipush (v := 6) hx hb dX6_one_17 (by decide) ?_
    refine lv_icmp_le (tgt := 27) hx hb dX6_one_19 (by decide) (fun c5 => ?_) (fun c5 => ?_)
    · rw [if_pos c5] at h
      refine lv_aload_n hx hb dX6_one_27 rfl (lv_at hl 0 rfl) ?_
      obtain ⟨z7, h6, h⟩ := bv_s h
      refine x_Vv (Rz := z7) (As := []) (rest := []) ⟨hx, hb, hml, hown, hts⟩ hK hP hS (kd_lt k_32 (by decide)) (cell_6 k_32) rfl (m_X6_advance hG   h6) (cwV 0 hts gX6_one_X6_advance rfl rfl rfl (by decide +kernel) (rmd_ok (by omega) (by decide))) rfl hl.1 rfl (Nat.le_of_ble_eq_true rfl) dX6_one_28 ⟨Nat.le_refl _, Nat.le_refl _⟩ (fun H locs hP hS => ?_)
      refine lv_aload_n hx hb dX6_one_31 rfl (lv_at hl 0 rfl) ?_
      refine lv_aload_n hx hb dX6_one_32 rfl (lv_at hl 1 rfl) ?_
      refine lv_iload_n hx hb dX6_one_33 rfl (lv_at hl 2 rfl) ?_
      refine lv_iconst (v := 1) hx hb dX6_one_34 (by decide) ?_
      refine lv_iadd hx hb dX6_one_35 ?_
      obtain ⟨z9, h8, h⟩ := bv_s h
      refine x_Vv (Rz := z9) (As := [.ref (G.2.2 p1), .int (v2 + 1)]) (rest := []) ⟨hx, hb, hml, hown, hts⟩ hK hP hS (kd_lt k_32 (by decide)) (cell_6 k_32) rfl (hkO hk1 h8) (cwV 2 hts gX6_one_X6_one rfl rfl rfl (by decide +kernel) (rmd_ok (by omega) (by decide))) rfl hl.1 rfl (Nat.le_of_ble_eq_true rfl) dX6_one_36 ⟨Nat.le_refl _, Nat.le_refl _⟩ (fun H locs hP hS => ?_)
      refine lv_aload_n hx hb dX6_one_39 rfl (lv_at hl 1 rfl) ?_
      refine lv_bipush (v := 7) hx hb dX6_one_40 (by decide) ?_
      refine lv_iconst (v := 0) hx hb dX6_one_42 (by decide) ?_
      obtain ⟨z11, h10, h⟩ := bv_s h
      refine x_Vv (Rz := z11) (As := [.int 7, .int 0]) (rest := []) ⟨hx, hb, hml, hown, hts⟩ hK hP hS (kd_lt hk1 (by decide)) (cell_2 hk1) rfl (m_X2_add hG  hk1 h10) (cwV 2 hts gX6_one_X2_add rfl rfl rfl (by decide +kernel) (rmd_ok (by omega) (by decide))) rfl hl.1 rfl (Nat.le_of_ble_eq_true rfl) dX6_one_43 ⟨Nat.le_refl _, Nat.le_refl _⟩ (fun H locs hP hS => ?_)
      exact x_vret hx hb hr hlocks hK hP hS h dX6_one_46
    · rw [if_neg c5] at h
      refine lv_aload_n hx hb dX6_one_22 rfl (lv_at hl 0 rfl) ?_
      obtain ⟨z13, h12, h⟩ := bv_s h
      refine x_Vv (Rz := z13) (As := []) (rest := []) ⟨hx, hb, hml, hown, hts⟩ hK hP hS (kd_lt k_32 (by decide)) (cell_6 k_32) rfl (m_X6_refuse hG   h12) (cwV 0 hts gX6_one_X6_refuse rfl rfl rfl (by decide +kernel) (rmd_ok (by omega) (by decide))) rfl hl.1 rfl (Nat.le_of_ble_eq_true rfl) dX6_one_23 ⟨Nat.le_refl _, Nat.le_refl _⟩ (fun H locs hP hS => ?_)
      exact x_vret hx hb hr hlocks hK hP hS h dX6_one_26
  · rw [if_pos c4] at h
    refine lv_aload_n hx hb dX6_one_9 rfl (lv_at hl 0 rfl) ?_
    refine lv_aload_n hx hb dX6_one_10 rfl (lv_at hl 1 rfl) ?_
    refine lv_iload_n hx hb dX6_one_11 rfl (lv_at hl 2 rfl) ?_
    obtain ⟨z15, h14, h⟩ := bv_s h
    refine x_Vv (Rz := z15) (As := [.ref (G.2.2 p1), .int v2]) (rest := []) ⟨hx, hb, hml, hown, hts⟩ hK hP hS (kd_lt k_32 (by decide)) (cell_6 k_32) rfl (m_X6_relation hG (D := D - 1) hd0 (by omega) hkE hk1 h14) (cwV 2 hts gX6_one_X6_relation rfl rfl rfl (by decide +kernel) (rmd_ok (by omega) (by decide))) rfl hl.1 rfl (Nat.le_of_ble_eq_true rfl) dX6_one_12 ⟨Nat.le_refl _, Nat.le_refl _⟩ (fun H locs hP hS => ?_)
    exact x_vret hx hb hr hlocks hK hP hS h dX6_one_15
def fn_X6_both_8 (kE : Nat → Int32 → St → Option St) (kO : Nat → Int32 → St → Option St) : Nat → Nat → Int32 → Int32 → St → Option (St)
  | 0, _, _, _, _ => none
  | n + 1, p1, v2, v3, z => (if 1600 ≤ v3 then some z else bd (fn_X6_isKeyword  12 z) (fun r3 z4 => (if r3 = 0 then some z4 else bv (fn_X6_advance   z4) (fun z7 => bv (fn_X6_one kE kO p1 v2 z7) (fun z9 => bv (fn_X2_add  p1 9 0 z9) (fun z11 => fn_X6_both_8 kE kO  n p1 v2 (v3 + 1) z11))))))
set_option maxHeartbeats 4000000 in
set_option maxRecDepth 100000 in
theorem pf_X6_both_8 {p : Program} {l : Launch} {e : Env} {s : State} {m : MethodId} {args : Array Value} {below : List Frame} {meth : Method} {c : Code} {G : wG} (C : CX p s m args meth c cX6_both 4 wsX6_both RX6 none G) {Rz : St} {kE : Nat → Int32 → St → Option St} {kO : Nat → Int32 → St → Option St} {dd D : Nat} (hd0 : 10 ≤ dd) (hD : dd + 6 ≤ D) (hkE : ∀ {p1 : Nat} {v2 : Int32} {z : St} {Rz : St}, kd p1 = 2 → kE p1 v2 z = some Rz → Met l yX6_either wsX6_either (rmd dd) (va_Pc [.ref (G.2.2 32), .ref (G.2.2 p1), .int v2] (Pre G z)) (va_Qv (fun u => u = Rz) (Pre G) (AW G)) 0 0 (AW G)) (hkO : ∀ {p1 : Nat} {v2 : Int32} {z : St} {Rz : St}, kd p1 = 2 → kO p1 v2 z = some Rz → Met l yX6_one wsX6_one (rmd dd) (va_Pc [.ref (G.2.2 32), .ref (G.2.2 p1), .int v2] (Pre G z)) (va_Qv (fun u => u = Rz) (Pre G) (AW G)) 0 0 (AW G)) : ∀ (n : Nat) (p1 : Nat) (v2 : Int32) (v3 : Int32) (z : St) (hk1 : kd p1 = 2) (H : Heap) (locs : List Loc) (ls : Array Slot), WP G z H → va_S (AW G) s.heap H locs → lv_has ls 4 [(0, .ref (G.2.2 32)), (1, .ref (G.2.2 p1)), (2, .int v2), (3, .int v3)] → fn_X6_both_8 kE kO  n p1 v2 v3 z = some Rz → W p l e (rmd D) s m args below meth c H locs 0 0 (QV below args s G Rz) (F0 m 8 ls []) := by
  obtain ⟨hx, hb, hml, hown, hts, hr, hlocks, hK, hG⟩ := id C
  intro n
  induction n with
  | zero => intro p1 v2 v3 z hk1 H locs ls hP hS hl h; cases h
  | succ n ih =>
    intro p1 v2 v3 z hk1 H locs ls hP hS hl h
    rw [fn_X6_both_8] at h
    refine lv_iload_n hx hb dX6_both_8 rfl (lv_at hl 3 rfl) ?_
    refine lv_sipush (v := 1600) hx hb dX6_both_9 (by decide) ?_
    refine lv_icmp_ge (tgt := 47) hx hb dX6_both_12 (by decide) (fun c1 => ?_) (fun c1 => ?_)
    · rw [if_pos c1] at h
      exact x_vret hx hb hr hlocks hK hP hS h dX6_both_47
    · rw [if_neg c1] at h
      refine lv_aload_n hx hb dX6_both_15 rfl (lv_at hl 0 rfl) ?_
      refine lv_bipush (v := 12) hx hb dX6_both_16 (by decide) ?_
      obtain ⟨r3, z4, h2, h⟩ := bd_s h
      refine x_Vi (Rz := (r3, z4)) (As := [.int 12]) (rest := []) ⟨hx, hb, hml, hown, hts⟩ hK hP hS (kd_lt k_32 (by decide)) (cell_6 k_32) rfl (m_X6_isKeyword hG   h2) (cwV 1 hts gX6_both_X6_isKeyword rfl rfl rfl (by decide +kernel) (rmd_ok (by omega) (by decide))) rfl hl.1 rfl (Nat.le_of_ble_eq_true rfl) dX6_both_18 ⟨Nat.le_refl _, Nat.le_refl _⟩ (fun H locs hP hS => ?_)
      refine lv_if_eq (tgt := 47) hx hb dX6_both_21 (by decide) (fun c5 => ?_) (fun c5 => ?_)
      · rw [if_pos c5] at h
        exact x_vret hx hb hr hlocks hK hP hS h dX6_both_47
      · rw [if_neg c5] at h
        refine lv_aload_n hx hb dX6_both_24 rfl (lv_at hl 0 rfl) ?_
        obtain ⟨z7, h6, h⟩ := bv_s h
        refine x_Vv (Rz := z7) (As := []) (rest := []) ⟨hx, hb, hml, hown, hts⟩ hK hP hS (kd_lt k_32 (by decide)) (cell_6 k_32) rfl (m_X6_advance hG   h6) (cwV 0 hts gX6_both_X6_advance rfl rfl rfl (by decide +kernel) (rmd_ok (by omega) (by decide))) rfl hl.1 rfl (Nat.le_of_ble_eq_true rfl) dX6_both_25 ⟨Nat.le_refl _, Nat.le_refl _⟩ (fun H locs hP hS => ?_)
        refine lv_aload_n hx hb dX6_both_28 rfl (lv_at hl 0 rfl) ?_
        refine lv_aload_n hx hb dX6_both_29 rfl (lv_at hl 1 rfl) ?_
        refine lv_iload_n hx hb dX6_both_30 rfl (lv_at hl 2 rfl) ?_
        obtain ⟨z9, h8, h⟩ := bv_s h
        refine x_Vv (Rz := z9) (As := [.ref (G.2.2 p1), .int v2]) (rest := []) ⟨hx, hb, hml, hown, hts⟩ hK hP hS (kd_lt k_32 (by decide)) (cell_6 k_32) rfl (m_X6_one hG (D := D - 1) hd0 (by omega) hkE hkO hk1 h8) (cwV 2 hts gX6_both_X6_one rfl rfl rfl (by decide +kernel) (rmd_ok (by omega) (by decide))) rfl hl.1 rfl (Nat.le_of_ble_eq_true rfl) dX6_both_31 ⟨Nat.le_refl _, Nat.le_refl _⟩ (fun H locs hP hS => ?_)
        refine lv_aload_n hx hb dX6_both_34 rfl (lv_at hl 1 rfl) ?_
        refine lv_bipush (v := 9) hx hb dX6_both_35 (by decide) ?_
        refine lv_iconst (v := 0) hx hb dX6_both_37 (by decide) ?_
        obtain ⟨z11, h10, h⟩ := bv_s h
        refine x_Vv (Rz := z11) (As := [.int 9, .int 0]) (rest := []) ⟨hx, hb, hml, hown, hts⟩ hK hP hS (kd_lt hk1 (by decide)) (cell_2 hk1) rfl (m_X2_add hG  hk1 h10) (cwV 2 hts gX6_both_X2_add rfl rfl rfl (by decide +kernel) (rmd_ok (by omega) (by decide))) rfl hl.1 rfl (Nat.le_of_ble_eq_true rfl) dX6_both_38 ⟨Nat.le_refl _, Nat.le_refl _⟩ (fun H locs hP hS => ?_)
        refine lv_iinc (v := (v3 + 1)) (lv' := [(3, .int (v3 + 1)), (0, .ref (G.2.2 32)), (1, .ref (G.2.2 p1)), (2, .int v2)]) hx hb dX6_both_41 hl (k := 3) rfl rfl (by decide) rfl (fun ls hl => ?_)
        refine lv_goto (tgt := 8) hx hb dX6_both_44 (by decide) ?_
        exact ih p1 v2 (v3 + 1) z11 hk1 _ _ _ hP hS (lv_sub hl [1, 2, 3, 0] rfl) h
def fn_X6_both (kE : Nat → Int32 → St → Option St) (kO : Nat → Int32 → St → Option St) (p1 : Nat) (v2 : Int32) (z : St) : Option (St) := bv (fn_X6_one kE kO p1 v2 z) (fun z2 => fn_X6_both_8 kE kO  fu p1 v2 0 z2)
set_option maxHeartbeats 4000000 in
set_option maxRecDepth 100000 in
theorem m_X6_both {l : Launch} {G : wG} (hG : Ok G) {kE : Nat → Int32 → St → Option St} {kO : Nat → Int32 → St → Option St} {dd D : Nat} (hd0 : 10 ≤ dd) (hD : dd + 6 ≤ D) (hkE : ∀ {p1 : Nat} {v2 : Int32} {z : St} {Rz : St}, kd p1 = 2 → kE p1 v2 z = some Rz → Met l yX6_either wsX6_either (rmd dd) (va_Pc [.ref (G.2.2 32), .ref (G.2.2 p1), .int v2] (Pre G z)) (va_Qv (fun u => u = Rz) (Pre G) (AW G)) 0 0 (AW G)) (hkO : ∀ {p1 : Nat} {v2 : Int32} {z : St} {Rz : St}, kd p1 = 2 → kO p1 v2 z = some Rz → Met l yX6_one wsX6_one (rmd dd) (va_Pc [.ref (G.2.2 32), .ref (G.2.2 p1), .int v2] (Pre G z)) (va_Qv (fun u => u = Rz) (Pre G) (AW G)) 0 0 (AW G)) {p1 : Nat} {v2 : Int32} {z : St} {Rz : St} (hk1 : kd p1 = 2) (h : fn_X6_both kE kO p1 v2 z = some Rz) : Met l yX6_both wsX6_both (rmd D) (va_Pc [.ref (G.2.2 32), .ref (G.2.2 p1), .int v2] (Pre G z)) (va_Qv (fun u => u = Rz) (Pre G) (AW G)) 0 0 (AW G) := by
  refine Met.ofW (cc := cX6_both) (maxL := 4) (ret := none) (by decide) rfl ?_
  intro p e s m args below meth c s₁ B hml hv
  obtain ⟨rfl, hP, hK⟩ := hv
  have C : CX p s m ([.ref (G.2.2 32), .ref (G.2.2 p1), .int v2] : List Value).toArray meth c cX6_both 4 wsX6_both RX6 none G := ⟨B.exec, B.bytes, hml, findClass_of_methodNamed B.named, atoms_spec (ws := wsX6_both) B.pre, B.returns, B.notSynchronized, hK, hG⟩
  obtain ⟨hx, hb, -, hown, hts, hr, hlocks, -, -⟩ := id C
  have hS : va_S (AW G) s.heap s.heap [] := va_S.rf
  have hl := lv_entry [.ref (G.2.2 32), .ref (G.2.2 p1), .int v2] (n := 4) (Nat.le_of_ble_eq_true rfl)
  rw [lg_entry_eq]
  generalize (lg_sl [.ref (G.2.2 32), .ref (G.2.2 p1), .int v2] ++ List.replicate (4 - (lg_sl [.ref (G.2.2 32), .ref (G.2.2 p1), .int v2]).length) Slot.unset).toArray = ls at hl ⊢
  have hl : lv_has ls 4 [(0, .ref (G.2.2 32)), (1, .ref (G.2.2 p1)), (2, .int v2)] := hl
  unfold fn_X6_both at h
  refine lv_aload_n hx hb dX6_both_0 rfl (lv_at hl 0 rfl) ?_
  refine lv_aload_n hx hb dX6_both_1 rfl (lv_at hl 1 rfl) ?_
  refine lv_iload_n hx hb dX6_both_2 rfl (lv_at hl 2 rfl) ?_
  obtain ⟨z2, h1, h⟩ := bv_s h
  refine x_Vv (Rz := z2) (As := [.ref (G.2.2 p1), .int v2]) (rest := []) ⟨hx, hb, hml, hown, hts⟩ hK hP hS (kd_lt k_32 (by decide)) (cell_6 k_32) rfl (m_X6_one hG (D := D - 1) hd0 (by omega) hkE hkO hk1 h1) (cwV 2 hts gX6_both_X6_one rfl rfl rfl (by decide +kernel) (rmd_ok (by omega) (by decide))) rfl hl.1 rfl (Nat.le_of_ble_eq_true rfl) dX6_both_3 ⟨Nat.le_refl _, Nat.le_refl _⟩ (fun H locs hP hS => ?_)
  refine lv_iconst (v := 0) hx hb dX6_both_6 (by decide) ?_
  refine lv_istore_n (lv' := [(3, .int 0), (0, .ref (G.2.2 32)), (1, .ref (G.2.2 p1)), (2, .int v2)]) hx hb dX6_both_7 rfl hl (by decide) rfl (fun ls hl => ?_)
  exact pf_X6_both_8 C hd0 hD hkE hkO  fu p1 v2 0 z2 hk1 _ _ _ hP hS (lv_sub hl [1, 2, 3, 0] rfl) h
def fn_X6_either_8 (kE : Nat → Int32 → St → Option St) (kO : Nat → Int32 → St → Option St) : Nat → Nat → Int32 → Int32 → St → Option (St)
  | 0, _, _, _, _ => none
  | n + 1, p1, v2, v3, z => (if 1600 ≤ v3 then some z else bd (fn_X6_isKeyword  11 z) (fun r3 z4 => (if r3 = 0 then some z4 else bv (fn_X6_advance   z4) (fun z7 => bv (fn_X6_both kE kO p1 v2 z7) (fun z9 => bv (fn_X2_add  p1 8 0 z9) (fun z11 => fn_X6_either_8 kE kO  n p1 v2 (v3 + 1) z11))))))
set_option maxHeartbeats 4000000 in
set_option maxRecDepth 100000 in
theorem pf_X6_either_8 {p : Program} {l : Launch} {e : Env} {s : State} {m : MethodId} {args : Array Value} {below : List Frame} {meth : Method} {c : Code} {G : wG} (C : CX p s m args meth c cX6_either 4 wsX6_either RX6 none G) {Rz : St} {kE : Nat → Int32 → St → Option St} {kO : Nat → Int32 → St → Option St} {dd D : Nat} (hd0 : 10 ≤ dd) (hD : dd + 7 ≤ D) (hkE : ∀ {p1 : Nat} {v2 : Int32} {z : St} {Rz : St}, kd p1 = 2 → kE p1 v2 z = some Rz → Met l yX6_either wsX6_either (rmd dd) (va_Pc [.ref (G.2.2 32), .ref (G.2.2 p1), .int v2] (Pre G z)) (va_Qv (fun u => u = Rz) (Pre G) (AW G)) 0 0 (AW G)) (hkO : ∀ {p1 : Nat} {v2 : Int32} {z : St} {Rz : St}, kd p1 = 2 → kO p1 v2 z = some Rz → Met l yX6_one wsX6_one (rmd dd) (va_Pc [.ref (G.2.2 32), .ref (G.2.2 p1), .int v2] (Pre G z)) (va_Qv (fun u => u = Rz) (Pre G) (AW G)) 0 0 (AW G)) : ∀ (n : Nat) (p1 : Nat) (v2 : Int32) (v3 : Int32) (z : St) (hk1 : kd p1 = 2) (H : Heap) (locs : List Loc) (ls : Array Slot), WP G z H → va_S (AW G) s.heap H locs → lv_has ls 4 [(0, .ref (G.2.2 32)), (1, .ref (G.2.2 p1)), (2, .int v2), (3, .int v3)] → fn_X6_either_8 kE kO  n p1 v2 v3 z = some Rz → W p l e (rmd D) s m args below meth c H locs 0 0 (QV below args s G Rz) (F0 m 8 ls []) := by
  obtain ⟨hx, hb, hml, hown, hts, hr, hlocks, hK, hG⟩ := id C
  intro n
  induction n with
  | zero => intro p1 v2 v3 z hk1 H locs ls hP hS hl h; cases h
  | succ n ih =>
    intro p1 v2 v3 z hk1 H locs ls hP hS hl h
    rw [fn_X6_either_8] at h
    refine lv_iload_n hx hb dX6_either_8 rfl (lv_at hl 3 rfl) ?_
    refine lv_sipush (v := 1600) hx hb dX6_either_9 (by decide) ?_
    refine lv_icmp_ge (tgt := 47) hx hb dX6_either_12 (by decide) (fun c1 => ?_) (fun c1 => ?_)
    · rw [if_pos c1] at h
      exact x_vret hx hb hr hlocks hK hP hS h dX6_either_47
    · rw [if_neg c1] at h
      refine lv_aload_n hx hb dX6_either_15 rfl (lv_at hl 0 rfl) ?_
      refine lv_bipush (v := 11) hx hb dX6_either_16 (by decide) ?_
      obtain ⟨r3, z4, h2, h⟩ := bd_s h
      refine x_Vi (Rz := (r3, z4)) (As := [.int 11]) (rest := []) ⟨hx, hb, hml, hown, hts⟩ hK hP hS (kd_lt k_32 (by decide)) (cell_6 k_32) rfl (m_X6_isKeyword hG   h2) (cwV 1 hts gX6_either_X6_isKeyword rfl rfl rfl (by decide +kernel) (rmd_ok (by omega) (by decide))) rfl hl.1 rfl (Nat.le_of_ble_eq_true rfl) dX6_either_18 ⟨Nat.le_refl _, Nat.le_refl _⟩ (fun H locs hP hS => ?_)
      refine lv_if_eq (tgt := 47) hx hb dX6_either_21 (by decide) (fun c5 => ?_) (fun c5 => ?_)
      · rw [if_pos c5] at h
        exact x_vret hx hb hr hlocks hK hP hS h dX6_either_47
      · rw [if_neg c5] at h
        refine lv_aload_n hx hb dX6_either_24 rfl (lv_at hl 0 rfl) ?_
        obtain ⟨z7, h6, h⟩ := bv_s h
        refine x_Vv (Rz := z7) (As := []) (rest := []) ⟨hx, hb, hml, hown, hts⟩ hK hP hS (kd_lt k_32 (by decide)) (cell_6 k_32) rfl (m_X6_advance hG   h6) (cwV 0 hts gX6_either_X6_advance rfl rfl rfl (by decide +kernel) (rmd_ok (by omega) (by decide))) rfl hl.1 rfl (Nat.le_of_ble_eq_true rfl) dX6_either_25 ⟨Nat.le_refl _, Nat.le_refl _⟩ (fun H locs hP hS => ?_)
        refine lv_aload_n hx hb dX6_either_28 rfl (lv_at hl 0 rfl) ?_
        refine lv_aload_n hx hb dX6_either_29 rfl (lv_at hl 1 rfl) ?_
        refine lv_iload_n hx hb dX6_either_30 rfl (lv_at hl 2 rfl) ?_
        obtain ⟨z9, h8, h⟩ := bv_s h
        refine x_Vv (Rz := z9) (As := [.ref (G.2.2 p1), .int v2]) (rest := []) ⟨hx, hb, hml, hown, hts⟩ hK hP hS (kd_lt k_32 (by decide)) (cell_6 k_32) rfl (m_X6_both hG (D := D - 1) hd0 (by omega) hkE hkO hk1 h8) (cwV 2 hts gX6_either_X6_both rfl rfl rfl (by decide +kernel) (rmd_ok (by omega) (by decide))) rfl hl.1 rfl (Nat.le_of_ble_eq_true rfl) dX6_either_31 ⟨Nat.le_refl _, Nat.le_refl _⟩ (fun H locs hP hS => ?_)
        refine lv_aload_n hx hb dX6_either_34 rfl (lv_at hl 1 rfl) ?_
        refine lv_bipush (v := 8) hx hb dX6_either_35 (by decide) ?_
        refine lv_iconst (v := 0) hx hb dX6_either_37 (by decide) ?_
        obtain ⟨z11, h10, h⟩ := bv_s h
        refine x_Vv (Rz := z11) (As := [.int 8, .int 0]) (rest := []) ⟨hx, hb, hml, hown, hts⟩ hK hP hS (kd_lt hk1 (by decide)) (cell_2 hk1) rfl (m_X2_add hG  hk1 h10) (cwV 2 hts gX6_either_X2_add rfl rfl rfl (by decide +kernel) (rmd_ok (by omega) (by decide))) rfl hl.1 rfl (Nat.le_of_ble_eq_true rfl) dX6_either_38 ⟨Nat.le_refl _, Nat.le_refl _⟩ (fun H locs hP hS => ?_)
        refine lv_iinc (v := (v3 + 1)) (lv' := [(3, .int (v3 + 1)), (0, .ref (G.2.2 32)), (1, .ref (G.2.2 p1)), (2, .int v2)]) hx hb dX6_either_41 hl (k := 3) rfl rfl (by decide) rfl (fun ls hl => ?_)
        refine lv_goto (tgt := 8) hx hb dX6_either_44 (by decide) ?_
        exact ih p1 v2 (v3 + 1) z11 hk1 _ _ _ hP hS (lv_sub hl [1, 2, 3, 0] rfl) h
def fn_X6_either (kE : Nat → Int32 → St → Option St) (kO : Nat → Int32 → St → Option St) (p1 : Nat) (v2 : Int32) (z : St) : Option (St) := bv (fn_X6_both kE kO p1 v2 z) (fun z2 => fn_X6_either_8 kE kO  fu p1 v2 0 z2)
set_option maxHeartbeats 4000000 in
set_option maxRecDepth 100000 in
theorem m_X6_either {l : Launch} {G : wG} (hG : Ok G) {kE : Nat → Int32 → St → Option St} {kO : Nat → Int32 → St → Option St} {dd D : Nat} (hd0 : 10 ≤ dd) (hD : dd + 7 ≤ D) (hkE : ∀ {p1 : Nat} {v2 : Int32} {z : St} {Rz : St}, kd p1 = 2 → kE p1 v2 z = some Rz → Met l yX6_either wsX6_either (rmd dd) (va_Pc [.ref (G.2.2 32), .ref (G.2.2 p1), .int v2] (Pre G z)) (va_Qv (fun u => u = Rz) (Pre G) (AW G)) 0 0 (AW G)) (hkO : ∀ {p1 : Nat} {v2 : Int32} {z : St} {Rz : St}, kd p1 = 2 → kO p1 v2 z = some Rz → Met l yX6_one wsX6_one (rmd dd) (va_Pc [.ref (G.2.2 32), .ref (G.2.2 p1), .int v2] (Pre G z)) (va_Qv (fun u => u = Rz) (Pre G) (AW G)) 0 0 (AW G)) {p1 : Nat} {v2 : Int32} {z : St} {Rz : St} (hk1 : kd p1 = 2) (h : fn_X6_either kE kO p1 v2 z = some Rz) : Met l yX6_either wsX6_either (rmd D) (va_Pc [.ref (G.2.2 32), .ref (G.2.2 p1), .int v2] (Pre G z)) (va_Qv (fun u => u = Rz) (Pre G) (AW G)) 0 0 (AW G) := by
  refine Met.ofW (cc := cX6_either) (maxL := 4) (ret := none) (by decide) rfl ?_
  intro p e s m args below meth c s₁ B hml hv
  obtain ⟨rfl, hP, hK⟩ := hv
  have C : CX p s m ([.ref (G.2.2 32), .ref (G.2.2 p1), .int v2] : List Value).toArray meth c cX6_either 4 wsX6_either RX6 none G := ⟨B.exec, B.bytes, hml, findClass_of_methodNamed B.named, atoms_spec (ws := wsX6_either) B.pre, B.returns, B.notSynchronized, hK, hG⟩
  obtain ⟨hx, hb, -, hown, hts, hr, hlocks, -, -⟩ := id C
  have hS : va_S (AW G) s.heap s.heap [] := va_S.rf
  have hl := lv_entry [.ref (G.2.2 32), .ref (G.2.2 p1), .int v2] (n := 4) (Nat.le_of_ble_eq_true rfl)
  rw [lg_entry_eq]
  generalize (lg_sl [.ref (G.2.2 32), .ref (G.2.2 p1), .int v2] ++ List.replicate (4 - (lg_sl [.ref (G.2.2 32), .ref (G.2.2 p1), .int v2]).length) Slot.unset).toArray = ls at hl ⊢
  have hl : lv_has ls 4 [(0, .ref (G.2.2 32)), (1, .ref (G.2.2 p1)), (2, .int v2)] := hl
  unfold fn_X6_either at h
  refine lv_aload_n hx hb dX6_either_0 rfl (lv_at hl 0 rfl) ?_
  refine lv_aload_n hx hb dX6_either_1 rfl (lv_at hl 1 rfl) ?_
  refine lv_iload_n hx hb dX6_either_2 rfl (lv_at hl 2 rfl) ?_
  obtain ⟨z2, h1, h⟩ := bv_s h
  refine x_Vv (Rz := z2) (As := [.ref (G.2.2 p1), .int v2]) (rest := []) ⟨hx, hb, hml, hown, hts⟩ hK hP hS (kd_lt k_32 (by decide)) (cell_6 k_32) rfl (m_X6_both hG (D := D - 1) hd0 (by omega) hkE hkO hk1 h1) (cwV 2 hts gX6_either_X6_both rfl rfl rfl (by decide +kernel) (rmd_ok (by omega) (by decide))) rfl hl.1 rfl (Nat.le_of_ble_eq_true rfl) dX6_either_3 ⟨Nat.le_refl _, Nat.le_refl _⟩ (fun H locs hP hS => ?_)
  refine lv_iconst (v := 0) hx hb dX6_either_6 (by decide) ?_
  refine lv_istore_n (lv' := [(3, .int 0), (0, .ref (G.2.2 32)), (1, .ref (G.2.2 p1)), (2, .int v2)]) hx hb dX6_either_7 rfl hl (by decide) rfl (fun ls hl => ?_)
  exact pf_X6_either_8 C hd0 hD hkE hkO  fu p1 v2 0 z2 hk1 _ _ _ hP hS (lv_sub hl [1, 2, 3, 0] rfl) h
