theorem dX12_hasCell_79 : decode cX12_hasCell 79 = .ok (.imul, 1) := by decide +kernel
theorem dX12_hasCell_80 : decode cX12_hasCell 80 = .ok (.iconst 4, 1) := by decide +kernel
theorem dX12_hasCell_81 : decode cX12_hasCell 81 = .ok (.iadd, 1) := by decide +kernel
theorem dX12_hasCell_82 : decode cX12_hasCell 82 = .ok (.iaload, 1) := by decide +kernel
theorem dX12_hasCell_83 : decode cX12_hasCell 83 = .ok (.if_icmp .ge 7, 3) := by decide +kernel
theorem dX12_hasCell_86 : decode cX12_hasCell 86 = .ok (.iconst 1, 1) := by decide +kernel
theorem dX12_hasCell_87 : decode cX12_hasCell 87 = .ok (.goto 4, 3) := by decide +kernel
theorem dX12_hasCell_90 : decode cX12_hasCell 90 = .ok (.iconst 0, 1) := by decide +kernel
theorem dX12_hasCell_91 : decode cX12_hasCell 91 = .ok (.ireturn, 1) := by decide +kernel
set_option maxRecDepth 20000 in
theorem ggX12_where_X12_isTier : GoodIn wsX12_where wsX12_isTier := goodIn_r _ [8, 9, 10, 11, 7, 12, 22, 23, 24, 25, 26, 27, 28, 29, 30, 31, 32, 33, 34, 35, 36, 37, 38, 39, 40, 41, 42, 43, 44, 45, 46, 47, 48, 49, 50, 51, 52, 53, 54, 55, 56, 57, 58, 59, 60, 61, 62, 63, 64, 65, 66, 67, 68, 69, 70, 71, 72, 73, 74, 75, 76, 77, 78, 79, 80, 81, 82, 83, 84, 85, 86, 87, 88, 89, 90, 91, 92, 93, 94, 95, 96] (by decide +kernel) (by decide +kernel)
set_option maxRecDepth 20000 in
theorem gX12_where_X12_isTier : GoodIn wsX12_where (wsV RX12 479 RX12 yX12_isTier wsX12_isTier) := goodIn_app (goodIn_of _ (by decide +kernel)) ggX12_where_X12_isTier
set_option maxRecDepth 20000 in
theorem ggX12_where_X12_isIn : GoodIn wsX12_where wsX12_isIn := goodIn_r _ [12] (by decide +kernel) (by decide +kernel)
set_option maxRecDepth 20000 in
theorem gX12_where_X12_isIn : GoodIn wsX12_where (va_wsS RX12 371 yX12_isIn wsX12_isIn) := goodIn_app (goodIn_of _ (by decide +kernel)) ggX12_where_X12_isIn
set_option maxRecDepth 20000 in
theorem ggX12_where_X12_load : GoodIn wsX12_where wsX12_load := goodIn_r _ [16, 3, 17, 22, 23, 24, 25, 26, 27, 28, 29, 30, 31, 32, 33, 34, 35, 36, 37, 38, 39, 40, 41, 42, 43, 44, 45, 46, 47, 48, 49, 50, 51, 52, 53, 54, 55, 56, 57, 58, 59, 60, 61, 62, 63, 64, 65, 66, 67, 68, 69, 70, 71, 72, 73, 74, 75, 76, 77, 78, 79, 80, 81, 82, 83, 84, 85, 86, 87, 88, 89, 90, 91, 92, 93, 94, 95, 96] (by decide +kernel) (by decide +kernel)
set_option maxRecDepth 20000 in
theorem gX12_where_X12_load : GoodIn wsX12_where (wsV RX12 394 RX12 yX12_load wsX12_load) := goodIn_app (goodIn_of _ (by decide +kernel)) ggX12_where_X12_load
set_option maxRecDepth 20000 in
theorem ggX12_where_X12_hasCell : GoodIn wsX12_where wsX12_hasCell := goodIn_r _ [21, 3, 22, 23, 24, 25, 26, 27, 28, 29, 30, 31, 32, 33, 34, 35, 36, 37, 38, 39, 40, 41, 42, 43, 44, 45, 46, 47, 48, 49, 50, 51, 52, 53, 54, 55, 56, 57, 58, 59, 60, 61, 62, 63, 64, 65, 66, 67, 68, 69, 70, 71, 72, 73, 74, 75, 76, 77, 78, 79, 80, 81, 82, 83, 84, 85, 86, 87, 88, 89, 90, 91, 92, 93, 94, 95, 96] (by decide +kernel) (by decide +kernel)
set_option maxRecDepth 20000 in
theorem gX12_where_X12_hasCell : GoodIn wsX12_where (wsV RX12 488 RX12 yX12_hasCell wsX12_hasCell) := goodIn_app (goodIn_of _ (by decide +kernel)) ggX12_where_X12_hasCell
theorem dX12_where_0 : decode cX12_where 0 = .ok (.aload_n 0, 1) := by decide +kernel
theorem dX12_where_1 : decode cX12_where 1 = .ok (.iload_n 1, 1) := by decide +kernel
theorem dX12_where_2 : decode cX12_where 2 = .ok (.invokevirtual 479, 3) := by decide +kernel
theorem dX12_where_5 : decode cX12_where 5 = .ok (.ifCond .eq 35, 3) := by decide +kernel
theorem dX12_where_8 : decode cX12_where 8 = .ok (.iload_n 2, 1) := by decide +kernel
theorem dX12_where_9 : decode cX12_where 9 = .ok (.iconst 0, 1) := by decide +kernel
theorem dX12_where_10 : decode cX12_where 10 = .ok (.aload_n 0, 1) := by decide +kernel
theorem dX12_where_11 : decode cX12_where 11 = .ok (.getfield 61, 3) := by decide +kernel
theorem dX12_where_14 : decode cX12_where 14 = .ok (.iload_n 1, 1) := by decide +kernel
theorem dX12_where_15 : decode cX12_where 15 = .ok (.iaload, 1) := by decide +kernel
theorem dX12_where_16 : decode cX12_where 16 = .ok (.iconst 1, 1) := by decide +kernel
theorem dX12_where_17 : decode cX12_where 17 = .ok (.isub, 1) := by decide +kernel
theorem dX12_where_18 : decode cX12_where 18 = .ok (.invokestatic 371, 3) := by decide +kernel
theorem dX12_where_21 : decode cX12_where 21 = .ok (.ifCond .eq 19, 3) := by decide +kernel
theorem dX12_where_24 : decode cX12_where 24 = .ok (.iload_n 3, 1) := by decide +kernel
theorem dX12_where_25 : decode cX12_where 25 = .ok (.iconst 0, 1) := by decide +kernel
theorem dX12_where_26 : decode cX12_where 26 = .ok (.aload_n 0, 1) := by decide +kernel
theorem dX12_where_27 : decode cX12_where 27 = .ok (.getfield 64, 3) := by decide +kernel
theorem dX12_where_30 : decode cX12_where 30 = .ok (.iload_n 1, 1) := by decide +kernel
theorem dX12_where_31 : decode cX12_where 31 = .ok (.iaload, 1) := by decide +kernel
theorem dX12_where_32 : decode cX12_where 32 = .ok (.iconst 1, 1) := by decide +kernel
theorem dX12_where_33 : decode cX12_where 33 = .ok (.isub, 1) := by decide +kernel
theorem dX12_where_34 : decode cX12_where 34 = .ok (.invokestatic 371, 3) := by decide +kernel
theorem dX12_where_37 : decode cX12_where 37 = .ok (.ifCond .ne 5, 3) := by decide +kernel
theorem dX12_where_40 : decode cX12_where 40 = .ok (.iconst (-1), 1) := by decide +kernel
theorem dX12_where_41 : decode cX12_where 41 = .ok (.ireturn, 1) := by decide +kernel
theorem dX12_where_42 : decode cX12_where 42 = .ok (.aload_n 0, 1) := by decide +kernel
theorem dX12_where_43 : decode cX12_where 43 = .ok (.invokevirtual 394, 3) := by decide +kernel
theorem dX12_where_46 : decode cX12_where 46 = .ok (.iconst (-1), 1) := by decide +kernel
theorem dX12_where_47 : decode cX12_where 47 = .ok (.istore 4, 2) := by decide +kernel
theorem dX12_where_49 : decode cX12_where 49 = .ok (.iconst 0, 1) := by decide +kernel
theorem dX12_where_50 : decode cX12_where 50 = .ok (.istore 5, 2) := by decide +kernel
theorem dX12_where_52 : decode cX12_where 52 = .ok (.iload 5, 2) := by decide +kernel
theorem dX12_where_54 : decode cX12_where 54 = .ok (.aload_n 0, 1) := by decide +kernel
theorem dX12_where_55 : decode cX12_where 55 = .ok (.getfield 94, 3) := by decide +kernel
theorem dX12_where_58 : decode cX12_where 58 = .ok (.sipush 168, 3) := by decide +kernel
theorem dX12_where_61 : decode cX12_where 61 = .ok (.iaload, 1) := by decide +kernel
theorem dX12_where_62 : decode cX12_where 62 = .ok (.if_icmp .ge 25, 3) := by decide +kernel
theorem dX12_where_65 : decode cX12_where 65 = .ok (.aload_n 0, 1) := by decide +kernel
theorem dX12_where_66 : decode cX12_where 66 = .ok (.iload 5, 2) := by decide +kernel
theorem dX12_where_68 : decode cX12_where 68 = .ok (.iload_n 1, 1) := by decide +kernel
theorem dX12_where_69 : decode cX12_where 69 = .ok (.iload_n 2, 1) := by decide +kernel
theorem dX12_where_70 : decode cX12_where 70 = .ok (.iload_n 3, 1) := by decide +kernel
theorem dX12_where_71 : decode cX12_where 71 = .ok (.invokevirtual 488, 3) := by decide +kernel
theorem dX12_where_74 : decode cX12_where 74 = .ok (.ifCond .eq 7, 3) := by decide +kernel
theorem dX12_where_77 : decode cX12_where 77 = .ok (.iload 5, 2) := by decide +kernel
theorem dX12_where_79 : decode cX12_where 79 = .ok (.istore 4, 2) := by decide +kernel
theorem dX12_where_81 : decode cX12_where 81 = .ok (.iinc 5 1, 3) := by decide +kernel
theorem dX12_where_84 : decode cX12_where 84 = .ok (.goto (-32), 3) := by decide +kernel
theorem dX12_where_87 : decode cX12_where 87 = .ok (.iload 4, 2) := by decide +kernel
theorem dX12_where_89 : decode cX12_where 89 = .ok (.ireturn, 1) := by decide +kernel
set_option maxRecDepth 20000 in
theorem ggX12_hungry_X12_load : GoodIn wsX12_hungry wsX12_load := goodIn_r _ [6, 7, 8, 37, 38, 39, 40, 41, 42, 43, 44, 45, 46, 47, 48, 49, 50, 51, 52, 53, 54, 55, 56, 57, 58, 59, 60, 61, 62, 63, 64, 65, 66, 67, 68, 69, 70, 71, 72, 73, 74, 75, 76, 77, 78, 79, 80, 81, 82, 83, 84, 85, 86, 87, 88, 89, 90, 91, 92, 93, 94, 95, 96, 97, 98, 99, 100, 101, 102, 103, 104, 105, 106, 107, 108, 109, 110, 111] (by decide +kernel) (by decide +kernel)
set_option maxRecDepth 20000 in
theorem gX12_hungry_X12_load : GoodIn wsX12_hungry (wsV RX12 394 RX12 yX12_load wsX12_load) := goodIn_app (goodIn_of _ (by decide +kernel)) ggX12_hungry_X12_load
set_option maxRecDepth 20000 in
theorem ggX12_hungry_X12_pieceOf : GoodIn wsX12_hungry wsX12_pieceOf := goodIn_r _ [12, 7, 37, 38, 39, 40, 41, 42, 43, 44, 45, 46, 47, 48, 49, 50, 51, 52, 53, 54, 55, 56, 57, 58, 59, 60, 61, 62, 63, 64, 65, 66, 67, 68, 69, 70, 71, 72, 73, 74, 75, 76, 77, 78, 79, 80, 81, 82, 83, 84, 85, 86, 87, 88, 89, 90, 91, 92, 93, 94, 95, 96, 97, 98, 99, 100, 101, 102, 103, 104, 105, 106, 107, 108, 109, 110, 111] (by decide +kernel) (by decide +kernel)
set_option maxRecDepth 20000 in
theorem gX12_hungry_X12_pieceOf : GoodIn wsX12_hungry (wsV RX12 400 RX12 yX12_pieceOf wsX12_pieceOf) := goodIn_app (goodIn_of _ (by decide +kernel)) ggX12_hungry_X12_pieceOf
set_option maxRecDepth 20000 in
theorem ggX12_hungry_X12_feeds : GoodIn wsX12_hungry wsX12_feeds := goodIn_r _ [16, 7, 17, 18, 19, 20, 5, 21, 1, 22, 23, 24, 2, 3, 4, 6, 8, 25, 26, 27, 28, 29, 30, 31, 32, 33, 34, 35, 36, 37, 38, 39, 40, 41, 42, 43, 44, 45, 46, 47, 48, 49, 50, 51, 52, 53, 54, 55, 56, 57, 58, 59, 60, 61, 62, 63, 64, 65, 66, 67, 68, 69, 70, 71, 72, 73, 74, 75, 76, 77, 78, 79, 80, 81, 82, 83, 84, 85, 86, 87, 88, 89, 90, 91, 92, 93, 94, 95, 96, 97, 98, 99, 100, 101, 102, 103, 104, 105, 106, 107, 108, 109, 110, 111] (by decide +kernel) (by decide +kernel)
set_option maxRecDepth 20000 in
theorem gX12_hungry_X12_feeds : GoodIn wsX12_hungry (wsV RX12 492 RX12 yX12_feeds wsX12_feeds) := goodIn_app (goodIn_of _ (by decide +kernel)) ggX12_hungry_X12_feeds
set_option maxRecDepth 20000 in
theorem ggX12_hungry_X12_truth : GoodIn wsX12_hungry wsX12_truth := goodIn_r _ [36] (by decide +kernel) (by decide +kernel)
set_option maxRecDepth 20000 in
theorem gX12_hungry_X12_truth : GoodIn wsX12_hungry (va_wsS RX12 302 yX12_truth wsX12_truth) := goodIn_app (goodIn_of _ (by decide +kernel)) ggX12_hungry_X12_truth
theorem dX12_hungry_0 : decode cX12_hungry 0 = .ok (.aload_n 0, 1) := by decide +kernel
theorem dX12_hungry_1 : decode cX12_hungry 1 = .ok (.invokevirtual 394, 3) := by decide +kernel
theorem dX12_hungry_4 : decode cX12_hungry 4 = .ok (.iconst 0, 1) := by decide +kernel
theorem dX12_hungry_5 : decode cX12_hungry 5 = .ok (.istore_n 1, 1) := by decide +kernel
theorem dX12_hungry_6 : decode cX12_hungry 6 = .ok (.iconst 0, 1) := by decide +kernel
theorem dX12_hungry_7 : decode cX12_hungry 7 = .ok (.istore_n 2, 1) := by decide +kernel
theorem dX12_hungry_8 : decode cX12_hungry 8 = .ok (.iload_n 2, 1) := by decide +kernel
theorem dX12_hungry_9 : decode cX12_hungry 9 = .ok (.aload_n 0, 1) := by decide +kernel
theorem dX12_hungry_10 : decode cX12_hungry 10 = .ok (.getfield 353, 3) := by decide +kernel
theorem dX12_hungry_13 : decode cX12_hungry 13 = .ok (.if_icmp .ge 38, 3) := by decide +kernel
theorem dX12_hungry_16 : decode cX12_hungry 16 = .ok (.iload_n 1, 1) := by decide +kernel
theorem dX12_hungry_17 : decode cX12_hungry 17 = .ok (.aload_n 0, 1) := by decide +kernel
theorem dX12_hungry_18 : decode cX12_hungry 18 = .ok (.iload_n 2, 1) := by decide +kernel
theorem dX12_hungry_19 : decode cX12_hungry 19 = .ok (.invokevirtual 400, 3) := by decide +kernel
theorem dX12_hungry_22 : decode cX12_hungry 22 = .ok (.ifCond .ge 15, 3) := by decide +kernel
theorem dX12_hungry_25 : decode cX12_hungry 25 = .ok (.aload_n 0, 1) := by decide +kernel
theorem dX12_hungry_26 : decode cX12_hungry 26 = .ok (.iload_n 2, 1) := by decide +kernel
theorem dX12_hungry_27 : decode cX12_hungry 27 = .ok (.invokevirtual 492, 3) := by decide +kernel
theorem dX12_hungry_30 : decode cX12_hungry 30 = .ok (.ifCond .ne 7, 3) := by decide +kernel
theorem dX12_hungry_33 : decode cX12_hungry 33 = .ok (.iconst 1, 1) := by decide +kernel
theorem dX12_hungry_34 : decode cX12_hungry 34 = .ok (.goto 4, 3) := by decide +kernel
theorem dX12_hungry_37 : decode cX12_hungry 37 = .ok (.iconst 0, 1) := by decide +kernel
theorem dX12_hungry_38 : decode cX12_hungry 38 = .ok (.invokestatic 302, 3) := by decide +kernel
theorem dX12_hungry_41 : decode cX12_hungry 41 = .ok (.iload_n 2, 1) := by decide +kernel
theorem dX12_hungry_42 : decode cX12_hungry 42 = .ok (.ishl, 1) := by decide +kernel
theorem dX12_hungry_43 : decode cX12_hungry 43 = .ok (.ior, 1) := by decide +kernel
theorem dX12_hungry_44 : decode cX12_hungry 44 = .ok (.istore_n 1, 1) := by decide +kernel
theorem dX12_hungry_45 : decode cX12_hungry 45 = .ok (.iinc 2 1, 3) := by decide +kernel
theorem dX12_hungry_48 : decode cX12_hungry 48 = .ok (.goto (-40), 3) := by decide +kernel
theorem dX12_hungry_51 : decode cX12_hungry 51 = .ok (.iload_n 1, 1) := by decide +kernel
theorem dX12_hungry_52 : decode cX12_hungry 52 = .ok (.ireturn, 1) := by decide +kernel
set_option maxRecDepth 20000 in
theorem ggX12_law_X12_isIn : GoodIn wsX12_law wsX12_isIn := goodIn_r _ [5] (by decide +kernel) (by decide +kernel)
set_option maxRecDepth 20000 in
theorem gX12_law_X12_isIn : GoodIn wsX12_law (va_wsS RX12 371 yX12_isIn wsX12_isIn) := goodIn_app (goodIn_of _ (by decide +kernel)) ggX12_law_X12_isIn
set_option maxRecDepth 20000 in
theorem ggX12_law_X12_load : GoodIn wsX12_law wsX12_load := goodIn_r _ [9, 10, 11, 38, 39, 40, 41, 42, 43, 44, 45, 46, 47, 48, 49, 50, 51, 52, 53, 54, 55, 56, 57, 58, 59, 60, 61, 62, 63, 64, 65, 66, 67, 68, 69, 70, 71, 72, 73, 74, 75, 76, 77, 78, 79, 80, 81, 82, 83, 84, 85, 86, 87, 88, 89, 90, 91, 92, 93, 94, 95, 96, 97, 98, 99, 100, 101, 102, 103, 104, 105, 106, 107, 108, 109, 110, 111, 112] (by decide +kernel) (by decide +kernel)
set_option maxRecDepth 20000 in
theorem gX12_law_X12_load : GoodIn wsX12_law (wsV RX12 394 RX12 yX12_load wsX12_load) := goodIn_app (goodIn_of _ (by decide +kernel)) ggX12_law_X12_load
set_option maxRecDepth 20000 in
theorem ggX12_law_X12_servedBut : GoodIn wsX12_law wsX12_servedBut := goodIn_r _ [15, 16, 17, 18, 19, 20, 1, 10, 21, 22, 23, 24, 4, 25, 26, 27, 28, 29, 30, 31, 32, 33, 34, 35, 36, 37, 38, 39, 40, 41, 42, 43, 44, 45, 46, 47, 48, 49, 50, 51, 52, 53, 54, 55, 56, 57, 58, 59, 60, 61, 62, 63, 64, 65, 66, 67, 68, 69, 70, 71, 72, 73, 74, 75, 76, 77, 78, 79, 80, 81, 82, 83, 84, 85, 86, 87, 88, 89, 90, 91, 92, 93, 94, 95, 96, 97, 98, 99, 100, 101, 102, 103, 104, 105, 106, 107, 108, 109, 110, 111, 112] (by decide +kernel) (by decide +kernel)
set_option maxRecDepth 20000 in
theorem gX12_law_X12_servedBut : GoodIn wsX12_law (wsV RX12 435 RX12 yX12_servedBut wsX12_servedBut) := goodIn_app (goodIn_of _ (by decide +kernel)) ggX12_law_X12_servedBut
theorem dX12_law_0 : decode cX12_law 0 = .ok (.iload_n 1, 1) := by decide +kernel
theorem dX12_law_1 : decode cX12_law 1 = .ok (.bipush (-99), 2) := by decide +kernel
theorem dX12_law_3 : decode cX12_law 3 = .ok (.bipush 99, 2) := by decide +kernel
theorem dX12_law_5 : decode cX12_law 5 = .ok (.invokestatic 371, 3) := by decide +kernel
theorem dX12_law_8 : decode cX12_law 8 = .ok (.ifCond .ne 5, 3) := by decide +kernel
theorem dX12_law_11 : decode cX12_law 11 = .ok (.iconst (-1), 1) := by decide +kernel
theorem dX12_law_12 : decode cX12_law 12 = .ok (.ireturn, 1) := by decide +kernel
theorem dX12_law_13 : decode cX12_law 13 = .ok (.aload_n 0, 1) := by decide +kernel
theorem dX12_law_14 : decode cX12_law 14 = .ok (.invokevirtual 394, 3) := by decide +kernel
theorem dX12_law_17 : decode cX12_law 17 = .ok (.aload_n 0, 1) := by decide +kernel
theorem dX12_law_18 : decode cX12_law 18 = .ok (.iload_n 1, 1) := by decide +kernel
theorem dX12_law_19 : decode cX12_law 19 = .ok (.putfield 428, 3) := by decide +kernel
theorem dX12_law_22 : decode cX12_law 22 = .ok (.aload_n 0, 1) := by decide +kernel
theorem dX12_law_23 : decode cX12_law 23 = .ok (.iconst (-1), 1) := by decide +kernel
theorem dX12_law_24 : decode cX12_law 24 = .ok (.iconst (-1), 1) := by decide +kernel
theorem dX12_law_25 : decode cX12_law 25 = .ok (.invokevirtual 435, 3) := by decide +kernel
theorem dX12_law_28 : decode cX12_law 28 = .ok (.istore_n 2, 1) := by decide +kernel
theorem dX12_law_29 : decode cX12_law 29 = .ok (.aload_n 0, 1) := by decide +kernel
theorem dX12_law_30 : decode cX12_law 30 = .ok (.iconst 0, 1) := by decide +kernel
theorem dX12_law_31 : decode cX12_law 31 = .ok (.putfield 428, 3) := by decide +kernel
theorem dX12_law_34 : decode cX12_law 34 = .ok (.iload_n 2, 1) := by decide +kernel
theorem dX12_law_35 : decode cX12_law 35 = .ok (.ireturn, 1) := by decide +kernel
set_option maxRecDepth 20000 in
theorem ggX12_left_X12_load : GoodIn wsX12_left wsX12_load := goodIn_r _ [6, 1, 7, 17, 18, 19, 20, 21, 22, 23, 24, 25, 26, 27, 28, 29, 30, 31, 32, 33, 34, 35, 36, 37, 38, 39, 40, 41, 42, 43, 44, 45, 46, 47, 48, 49, 50, 51, 52, 53, 54, 55, 56, 57, 58, 59, 60, 61, 62, 63, 64, 65, 66, 67, 68, 69, 70, 71, 72, 73, 74, 75, 76, 77, 78, 79, 80, 81, 82, 83, 84, 85, 86, 87, 88, 89, 90, 91] (by decide +kernel) (by decide +kernel)
set_option maxRecDepth 20000 in
theorem gX12_left_X12_load : GoodIn wsX12_left (wsV RX12 394 RX12 yX12_load wsX12_load) := goodIn_app (goodIn_of _ (by decide +kernel)) ggX12_left_X12_load
set_option maxRecDepth 20000 in
theorem ggX12_left_X12_isFree : GoodIn wsX12_left wsX12_isFree := goodIn_r _ [11, 1, 17, 18, 19, 20, 21, 22, 23, 24, 25, 26, 27, 28, 29, 30, 31, 32, 33, 34, 35, 36, 37, 38, 39, 40, 41, 42, 43, 44, 45, 46, 47, 48, 49, 50, 51, 52, 53, 54, 55, 56, 57, 58, 59, 60, 61, 62, 63, 64, 65, 66, 67, 68, 69, 70, 71, 72, 73, 74, 75, 76, 77, 78, 79, 80, 81, 82, 83, 84, 85, 86, 87, 88, 89, 90, 91] (by decide +kernel) (by decide +kernel)
set_option maxRecDepth 20000 in
theorem gX12_left_X12_isFree : GoodIn wsX12_left (wsV RX12 388 RX12 yX12_isFree wsX12_isFree) := goodIn_app (goodIn_of _ (by decide +kernel)) ggX12_left_X12_isFree
set_option maxRecDepth 20000 in
theorem ggX12_left_X12_areaOf : GoodIn wsX12_left wsX12_areaOf := goodIn_r _ [15, 1, 16, 17, 18, 19, 20, 21, 22, 23, 24, 25, 26, 27, 28, 29, 30, 31, 32, 33, 34, 35, 36, 37, 38, 39, 40, 41, 42, 43, 44, 45, 46, 47, 48, 49, 50, 51, 52, 53, 54, 55, 56, 57, 58, 59, 60, 61, 62, 63, 64, 65, 66, 67, 68, 69, 70, 71, 72, 73, 74, 75, 76, 77, 78, 79, 80, 81, 82, 83, 84, 85, 86, 87, 88, 89, 90, 91] (by decide +kernel) (by decide +kernel)
set_option maxRecDepth 20000 in
theorem gX12_left_X12_areaOf : GoodIn wsX12_left (wsV RX12 375 RX12 yX12_areaOf wsX12_areaOf) := goodIn_app (goodIn_of _ (by decide +kernel)) ggX12_left_X12_areaOf
theorem dX12_left_0 : decode cX12_left 0 = .ok (.aload_n 0, 1) := by decide +kernel
theorem dX12_left_1 : decode cX12_left 1 = .ok (.invokevirtual 394, 3) := by decide +kernel
theorem dX12_left_4 : decode cX12_left 4 = .ok (.iconst 0, 1) := by decide +kernel
theorem dX12_left_5 : decode cX12_left 5 = .ok (.istore_n 1, 1) := by decide +kernel
theorem dX12_left_6 : decode cX12_left 6 = .ok (.iconst 0, 1) := by decide +kernel
theorem dX12_left_7 : decode cX12_left 7 = .ok (.istore_n 2, 1) := by decide +kernel
theorem dX12_left_8 : decode cX12_left 8 = .ok (.iload_n 2, 1) := by decide +kernel
theorem dX12_left_9 : decode cX12_left 9 = .ok (.aload_n 0, 1) := by decide +kernel
theorem dX12_left_10 : decode cX12_left 10 = .ok (.getfield 94, 3) := by decide +kernel
theorem dX12_left_13 : decode cX12_left 13 = .ok (.sipush 168, 3) := by decide +kernel
theorem dX12_left_16 : decode cX12_left 16 = .ok (.iaload, 1) := by decide +kernel
theorem dX12_left_17 : decode cX12_left 17 = .ok (.if_icmp .ge 29, 3) := by decide +kernel
theorem dX12_left_20 : decode cX12_left 20 = .ok (.iload_n 1, 1) := by decide +kernel
theorem dX12_left_21 : decode cX12_left 21 = .ok (.aload_n 0, 1) := by decide +kernel
theorem dX12_left_22 : decode cX12_left 22 = .ok (.iload_n 2, 1) := by decide +kernel
theorem dX12_left_23 : decode cX12_left 23 = .ok (.invokevirtual 388, 3) := by decide +kernel
theorem dX12_left_26 : decode cX12_left 26 = .ok (.ifCond .eq 11, 3) := by decide +kernel
theorem dX12_left_29 : decode cX12_left 29 = .ok (.aload_n 0, 1) := by decide +kernel
theorem dX12_left_30 : decode cX12_left 30 = .ok (.iload_n 2, 1) := by decide +kernel
theorem dX12_left_31 : decode cX12_left 31 = .ok (.invokevirtual 375, 3) := by decide +kernel
theorem dX12_left_34 : decode cX12_left 34 = .ok (.goto 4, 3) := by decide +kernel
theorem dX12_left_37 : decode cX12_left 37 = .ok (.iconst 0, 1) := by decide +kernel
theorem dX12_left_38 : decode cX12_left 38 = .ok (.iadd, 1) := by decide +kernel
theorem dX12_left_39 : decode cX12_left 39 = .ok (.istore_n 1, 1) := by decide +kernel
theorem dX12_left_40 : decode cX12_left 40 = .ok (.iinc 2 1, 3) := by decide +kernel
theorem dX12_left_43 : decode cX12_left 43 = .ok (.goto (-35), 3) := by decide +kernel
theorem dX12_left_46 : decode cX12_left 46 = .ok (.iload_n 1, 1) := by decide +kernel
theorem dX12_left_47 : decode cX12_left 47 = .ok (.ireturn, 1) := by decide +kernel
set_option maxRecDepth 20000 in
theorem ggX12_iced_X12_isIn : GoodIn wsX12_iced wsX12_isIn := goodIn_r _ [5] (by decide +kernel) (by decide +kernel)
set_option maxRecDepth 20000 in
theorem gX12_iced_X12_isIn : GoodIn wsX12_iced (va_wsS RX12 371 yX12_isIn wsX12_isIn) := goodIn_app (goodIn_of _ (by decide +kernel)) ggX12_iced_X12_isIn
set_option maxRecDepth 20000 in
theorem ggX12_iced_X12_load : GoodIn wsX12_iced wsX12_load := goodIn_r _ [9, 1, 10, 24, 25, 26, 27, 28, 29, 30, 31, 32, 33, 34, 35, 36, 37, 38, 39, 40, 41, 42, 43, 44, 45, 46, 47, 48, 49, 50, 51, 52, 53, 54, 55, 56, 57, 58, 59, 60, 61, 62, 63, 64, 65, 66, 67, 68, 69, 70, 71, 72, 73, 74, 75, 76, 77, 78, 79, 80, 81, 82, 83, 84, 85, 86, 87, 88, 89, 90, 91, 92, 93, 94, 95, 96, 97, 98] (by decide +kernel) (by decide +kernel)
set_option maxRecDepth 20000 in
theorem gX12_iced_X12_load : GoodIn wsX12_iced (wsV RX12 394 RX12 yX12_load wsX12_load) := goodIn_app (goodIn_of _ (by decide +kernel)) ggX12_iced_X12_load
set_option maxRecDepth 20000 in
theorem ggX12_iced_X12_isFree : GoodIn wsX12_iced wsX12_isFree := goodIn_r _ [14, 1, 24, 25, 26, 27, 28, 29, 30, 31, 32, 33, 34, 35, 36, 37, 38, 39, 40, 41, 42, 43, 44, 45, 46, 47, 48, 49, 50, 51, 52, 53, 54, 55, 56, 57, 58, 59, 60, 61, 62, 63, 64, 65, 66, 67, 68, 69, 70, 71, 72, 73, 74, 75, 76, 77, 78, 79, 80, 81, 82, 83, 84, 85, 86, 87, 88, 89, 90, 91, 92, 93, 94, 95, 96, 97, 98] (by decide +kernel) (by decide +kernel)
set_option maxRecDepth 20000 in
theorem gX12_iced_X12_isFree : GoodIn wsX12_iced (wsV RX12 388 RX12 yX12_isFree wsX12_isFree) := goodIn_app (goodIn_of _ (by decide +kernel)) ggX12_iced_X12_isFree
set_option maxRecDepth 20000 in
theorem ggX12_iced_X12_icingOf : GoodIn wsX12_iced wsX12_icingOf := goodIn_r _ [18, 1, 19, 20, 21, 22, 4, 23, 24, 25, 26, 27, 28, 29, 30, 31, 32, 33, 34, 35, 36, 37, 38, 39, 40, 41, 42, 43, 44, 45, 46, 47, 48, 49, 50, 51, 52, 53, 54, 55, 56, 57, 58, 59, 60, 61, 62, 63, 64, 65, 66, 67, 68, 69, 70, 71, 72, 73, 74, 75, 76, 77, 78, 79, 80, 81, 82, 83, 84, 85, 86, 87, 88, 89, 90, 91, 92, 93, 94, 95, 96, 97, 98] (by decide +kernel) (by decide +kernel)
set_option maxRecDepth 20000 in
theorem gX12_iced_X12_icingOf : GoodIn wsX12_iced (wsV RX12 378 RX12 yX12_icingOf wsX12_icingOf) := goodIn_app (goodIn_of _ (by decide +kernel)) ggX12_iced_X12_icingOf
set_option maxRecDepth 20000 in
theorem ggX12_iced_X12_truth : GoodIn wsX12_iced wsX12_truth := goodIn_r _ [23] (by decide +kernel) (by decide +kernel)
set_option maxRecDepth 20000 in
theorem gX12_iced_X12_truth : GoodIn wsX12_iced (va_wsS RX12 302 yX12_truth wsX12_truth) := goodIn_app (goodIn_of _ (by decide +kernel)) ggX12_iced_X12_truth
theorem dX12_iced_0 : decode cX12_iced 0 = .ok (.iload_n 1, 1) := by decide +kernel
theorem dX12_iced_1 : decode cX12_iced 1 = .ok (.iconst 0, 1) := by decide +kernel
theorem dX12_iced_2 : decode cX12_iced 2 = .ok (.bipush 32, 2) := by decide +kernel
theorem dX12_iced_4 : decode cX12_iced 4 = .ok (.invokestatic 371, 3) := by decide +kernel
theorem dX12_iced_7 : decode cX12_iced 7 = .ok (.ifCond .ne 5, 3) := by decide +kernel
theorem dX12_iced_10 : decode cX12_iced 10 = .ok (.iconst (-1), 1) := by decide +kernel
theorem dX12_iced_11 : decode cX12_iced 11 = .ok (.ireturn, 1) := by decide +kernel
theorem dX12_iced_12 : decode cX12_iced 12 = .ok (.aload_n 0, 1) := by decide +kernel
theorem dX12_iced_13 : decode cX12_iced 13 = .ok (.invokevirtual 394, 3) := by decide +kernel
theorem dX12_iced_16 : decode cX12_iced 16 = .ok (.iconst 0, 1) := by decide +kernel
theorem dX12_iced_17 : decode cX12_iced 17 = .ok (.istore_n 2, 1) := by decide +kernel
theorem dX12_iced_18 : decode cX12_iced 18 = .ok (.iconst 0, 1) := by decide +kernel
theorem dX12_iced_19 : decode cX12_iced 19 = .ok (.istore_n 3, 1) := by decide +kernel
theorem dX12_iced_20 : decode cX12_iced 20 = .ok (.iload_n 3, 1) := by decide +kernel
theorem dX12_iced_21 : decode cX12_iced 21 = .ok (.aload_n 0, 1) := by decide +kernel
theorem dX12_iced_22 : decode cX12_iced 22 = .ok (.getfield 94, 3) := by decide +kernel
theorem dX12_iced_25 : decode cX12_iced 25 = .ok (.sipush 168, 3) := by decide +kernel
theorem dX12_iced_28 : decode cX12_iced 28 = .ok (.iaload, 1) := by decide +kernel
theorem dX12_iced_29 : decode cX12_iced 29 = .ok (.if_icmp .ge 39, 3) := by decide +kernel
theorem dX12_iced_32 : decode cX12_iced 32 = .ok (.iload_n 2, 1) := by decide +kernel
theorem dX12_iced_33 : decode cX12_iced 33 = .ok (.aload_n 0, 1) := by decide +kernel
theorem dX12_iced_34 : decode cX12_iced 34 = .ok (.iload_n 3, 1) := by decide +kernel
theorem dX12_iced_35 : decode cX12_iced 35 = .ok (.invokevirtual 388, 3) := by decide +kernel
theorem dX12_iced_38 : decode cX12_iced 38 = .ok (.ifCond .eq 16, 3) := by decide +kernel
theorem dX12_iced_41 : decode cX12_iced 41 = .ok (.aload_n 0, 1) := by decide +kernel
theorem dX12_iced_42 : decode cX12_iced 42 = .ok (.iload_n 3, 1) := by decide +kernel
theorem dX12_iced_43 : decode cX12_iced 43 = .ok (.invokevirtual 378, 3) := by decide +kernel
theorem dX12_iced_46 : decode cX12_iced 46 = .ok (.iload_n 1, 1) := by decide +kernel
theorem dX12_iced_47 : decode cX12_iced 47 = .ok (.if_icmp .lt 7, 3) := by decide +kernel
theorem dX12_iced_50 : decode cX12_iced 50 = .ok (.iconst 1, 1) := by decide +kernel
theorem dX12_iced_51 : decode cX12_iced 51 = .ok (.goto 4, 3) := by decide +kernel
theorem dX12_iced_54 : decode cX12_iced 54 = .ok (.iconst 0, 1) := by decide +kernel
theorem dX12_iced_55 : decode cX12_iced 55 = .ok (.invokestatic 302, 3) := by decide +kernel
theorem dX12_iced_58 : decode cX12_iced 58 = .ok (.iload_n 3, 1) := by decide +kernel
theorem dX12_iced_59 : decode cX12_iced 59 = .ok (.ishl, 1) := by decide +kernel
theorem dX12_iced_60 : decode cX12_iced 60 = .ok (.ior, 1) := by decide +kernel
theorem dX12_iced_61 : decode cX12_iced 61 = .ok (.istore_n 2, 1) := by decide +kernel
theorem dX12_iced_62 : decode cX12_iced 62 = .ok (.iinc 3 1, 3) := by decide +kernel
theorem dX12_iced_65 : decode cX12_iced 65 = .ok (.goto (-45), 3) := by decide +kernel
theorem dX12_iced_68 : decode cX12_iced 68 = .ok (.iload_n 2, 1) := by decide +kernel
theorem dX12_iced_69 : decode cX12_iced 69 = .ok (.ireturn, 1) := by decide +kernel
theorem dX12_divisor_0 : decode cX12_divisor 0 = .ok (.iload_n 0, 1) := by decide +kernel
theorem dX12_divisor_1 : decode cX12_divisor 1 = .ok (.istore_n 2, 1) := by decide +kernel
theorem dX12_divisor_2 : decode cX12_divisor 2 = .ok (.iload_n 1, 1) := by decide +kernel
theorem dX12_divisor_3 : decode cX12_divisor 3 = .ok (.istore_n 3, 1) := by decide +kernel
theorem dX12_divisor_4 : decode cX12_divisor 4 = .ok (.iload_n 3, 1) := by decide +kernel
theorem dX12_divisor_5 : decode cX12_divisor 5 = .ok (.ifCond .le 16, 3) := by decide +kernel
theorem dX12_divisor_8 : decode cX12_divisor 8 = .ok (.iload_n 2, 1) := by decide +kernel
theorem dX12_divisor_9 : decode cX12_divisor 9 = .ok (.iload_n 3, 1) := by decide +kernel
theorem dX12_divisor_10 : decode cX12_divisor 10 = .ok (.irem, 1) := by decide +kernel
theorem dX12_divisor_11 : decode cX12_divisor 11 = .ok (.istore 4, 2) := by decide +kernel
theorem dX12_divisor_13 : decode cX12_divisor 13 = .ok (.iload_n 3, 1) := by decide +kernel
theorem dX12_divisor_14 : decode cX12_divisor 14 = .ok (.istore_n 2, 1) := by decide +kernel
theorem dX12_divisor_15 : decode cX12_divisor 15 = .ok (.iload 4, 2) := by decide +kernel
theorem dX12_divisor_17 : decode cX12_divisor 17 = .ok (.istore_n 3, 1) := by decide +kernel
theorem dX12_divisor_18 : decode cX12_divisor 18 = .ok (.goto (-14), 3) := by decide +kernel
theorem dX12_divisor_21 : decode cX12_divisor 21 = .ok (.iload_n 2, 1) := by decide +kernel
theorem dX12_divisor_22 : decode cX12_divisor 22 = .ok (.ireturn, 1) := by decide +kernel
set_option maxRecDepth 20000 in
theorem ggX12_come_X12_isIn : GoodIn wsX12_come wsX12_isIn := goodIn_r _ [6] (by decide +kernel) (by decide +kernel)
set_option maxRecDepth 20000 in
theorem gX12_come_X12_isIn : GoodIn wsX12_come (va_wsS RX12 371 yX12_isIn wsX12_isIn) := goodIn_app (goodIn_of _ (by decide +kernel)) ggX12_come_X12_isIn
set_option maxRecDepth 20000 in
theorem ggX12_come_X12_divisor : GoodIn wsX12_come wsX12_divisor := goodIn_r _ [9] (by decide +kernel) (by decide +kernel)
set_option maxRecDepth 20000 in
theorem gX12_come_X12_divisor : GoodIn wsX12_come (va_wsS RX12 495 yX12_divisor wsX12_divisor) := goodIn_app (goodIn_of _ (by decide +kernel)) ggX12_come_X12_divisor
theorem dX12_come_0 : decode cX12_come 0 = .ok (.iload_n 1, 1) := by decide +kernel
theorem dX12_come_1 : decode cX12_come 1 = .ok (.iconst 0, 1) := by decide +kernel
theorem dX12_come_2 : decode cX12_come 2 = .ok (.iconst 1, 1) := by decide +kernel
theorem dX12_come_3 : decode cX12_come 3 = .ok (.aload_n 0, 1) := by decide +kernel
theorem dX12_come_4 : decode cX12_come 4 = .ok (.getfield 353, 3) := by decide +kernel
theorem dX12_come_7 : decode cX12_come 7 = .ok (.ishl, 1) := by decide +kernel
theorem dX12_come_8 : decode cX12_come 8 = .ok (.iconst 1, 1) := by decide +kernel
theorem dX12_come_9 : decode cX12_come 9 = .ok (.isub, 1) := by decide +kernel
theorem dX12_come_10 : decode cX12_come 10 = .ok (.invokestatic 371, 3) := by decide +kernel
theorem dX12_come_13 : decode cX12_come 13 = .ok (.ifCond .eq 12, 3) := by decide +kernel
theorem dX12_come_16 : decode cX12_come 16 = .ok (.iload_n 2, 1) := by decide +kernel
theorem dX12_come_17 : decode cX12_come 17 = .ok (.iconst 0, 1) := by decide +kernel
theorem dX12_come_18 : decode cX12_come 18 = .ok (.iconst 1, 1) := by decide +kernel
theorem dX12_come_19 : decode cX12_come 19 = .ok (.invokestatic 371, 3) := by decide +kernel
theorem dX12_come_22 : decode cX12_come 22 = .ok (.ifCond .ne 5, 3) := by decide +kernel
theorem dX12_come_25 : decode cX12_come 25 = .ok (.iconst (-1), 1) := by decide +kernel
theorem dX12_come_26 : decode cX12_come 26 = .ok (.ireturn, 1) := by decide +kernel
theorem dX12_come_27 : decode cX12_come 27 = .ok (.iconst 0, 1) := by decide +kernel
theorem dX12_come_28 : decode cX12_come 28 = .ok (.istore_n 3, 1) := by decide +kernel
theorem dX12_come_29 : decode cX12_come 29 = .ok (.iconst 1, 1) := by decide +kernel
theorem dX12_come_30 : decode cX12_come 30 = .ok (.istore 4, 2) := by decide +kernel
theorem dX12_come_32 : decode cX12_come 32 = .ok (.iconst 1, 1) := by decide +kernel
theorem dX12_come_33 : decode cX12_come 33 = .ok (.istore 5, 2) := by decide +kernel
theorem dX12_come_35 : decode cX12_come 35 = .ok (.iconst 0, 1) := by decide +kernel
theorem dX12_come_36 : decode cX12_come 36 = .ok (.istore 6, 2) := by decide +kernel
theorem dX12_come_38 : decode cX12_come 38 = .ok (.iload 6, 2) := by decide +kernel
theorem dX12_come_40 : decode cX12_come 40 = .ok (.aload_n 0, 1) := by decide +kernel
theorem dX12_come_41 : decode cX12_come 41 = .ok (.getfield 353, 3) := by decide +kernel
theorem dX12_come_44 : decode cX12_come 44 = .ok (.if_icmp .ge 50, 3) := by decide +kernel
theorem dX12_come_47 : decode cX12_come 47 = .ok (.iload_n 1, 1) := by decide +kernel
theorem dX12_come_48 : decode cX12_come 48 = .ok (.iload 6, 2) := by decide +kernel
theorem dX12_come_50 : decode cX12_come 50 = .ok (.ishr, 1) := by decide +kernel
theorem dX12_come_51 : decode cX12_come 51 = .ok (.iconst 1, 1) := by decide +kernel
theorem dX12_come_52 : decode cX12_come 52 = .ok (.iand, 1) := by decide +kernel
theorem dX12_come_53 : decode cX12_come 53 = .ok (.ifCond .ne 6, 3) := by decide +kernel
theorem dX12_come_56 : decode cX12_come 56 = .ok (.goto 32, 3) := by decide +kernel
theorem dX12_come_59 : decode cX12_come 59 = .ok (.iinc 3 1, 3) := by decide +kernel
theorem dX12_come_62 : decode cX12_come 62 = .ok (.iload_n 3, 1) := by decide +kernel
theorem dX12_come_63 : decode cX12_come 63 = .ok (.iconst 4, 1) := by decide +kernel
theorem dX12_come_64 : decode cX12_come 64 = .ok (.if_icmp .le 5, 3) := by decide +kernel
theorem dX12_come_67 : decode cX12_come 67 = .ok (.iconst (-1), 1) := by decide +kernel
theorem dX12_come_68 : decode cX12_come 68 = .ok (.ireturn, 1) := by decide +kernel
theorem dX12_come_69 : decode cX12_come 69 = .ok (.iload 4, 2) := by decide +kernel
theorem dX12_come_71 : decode cX12_come 71 = .ok (.aload_n 0, 1) := by decide +kernel
theorem dX12_come_72 : decode cX12_come 72 = .ok (.getfield 85, 3) := by decide +kernel
theorem dX12_come_75 : decode cX12_come 75 = .ok (.iload 6, 2) := by decide +kernel
theorem dX12_come_77 : decode cX12_come 77 = .ok (.iaload, 1) := by decide +kernel
theorem dX12_come_78 : decode cX12_come 78 = .ok (.imul, 1) := by decide +kernel
theorem dX12_come_79 : decode cX12_come 79 = .ok (.istore 4, 2) := by decide +kernel
theorem dX12_come_81 : decode cX12_come 81 = .ok (.iload 5, 2) := by decide +kernel
theorem dX12_come_83 : decode cX12_come 83 = .ok (.bipush 100, 2) := by decide +kernel
theorem dX12_come_85 : decode cX12_come 85 = .ok (.imul, 1) := by decide +kernel
theorem dX12_come_86 : decode cX12_come 86 = .ok (.istore 5, 2) := by decide +kernel
theorem dX12_come_88 : decode cX12_come 88 = .ok (.iinc 6 1, 3) := by decide +kernel
theorem dX12_come_91 : decode cX12_come 91 = .ok (.goto (-53), 3) := by decide +kernel
theorem dX12_come_94 : decode cX12_come 94 = .ok (.iload 5, 2) := by decide +kernel
theorem dX12_come_96 : decode cX12_come 96 = .ok (.iload 4, 2) := by decide +kernel
theorem dX12_come_98 : decode cX12_come 98 = .ok (.invokestatic 495, 3) := by decide +kernel
theorem dX12_come_101 : decode cX12_come 101 = .ok (.istore 6, 2) := by decide +kernel
theorem dX12_come_103 : decode cX12_come 103 = .ok (.iload_n 2, 1) := by decide +kernel
theorem dX12_come_104 : decode cX12_come 104 = .ok (.ifCond .ne 11, 3) := by decide +kernel
theorem dX12_come_107 : decode cX12_come 107 = .ok (.iload 4, 2) := by decide +kernel
theorem dX12_come_109 : decode cX12_come 109 = .ok (.iload 6, 2) := by decide +kernel
theorem dX12_come_111 : decode cX12_come 111 = .ok (.idiv, 1) := by decide +kernel
theorem dX12_come_112 : decode cX12_come 112 = .ok (.goto 8, 3) := by decide +kernel
theorem dX12_come_115 : decode cX12_come 115 = .ok (.iload 5, 2) := by decide +kernel
theorem dX12_come_117 : decode cX12_come 117 = .ok (.iload 6, 2) := by decide +kernel
theorem dX12_come_119 : decode cX12_come 119 = .ok (.idiv, 1) := by decide +kernel
theorem dX12_come_120 : decode cX12_come 120 = .ok (.ireturn, 1) := by decide +kernel
set_option maxRecDepth 20000 in
theorem ggX12_lies_X12_isIn : GoodIn wsX12_lies wsX12_isIn := goodIn_r _ [6] (by decide +kernel) (by decide +kernel)
set_option maxRecDepth 20000 in
theorem gX12_lies_X12_isIn : GoodIn wsX12_lies (va_wsS RX12 371 yX12_isIn wsX12_isIn) := goodIn_app (goodIn_of _ (by decide +kernel)) ggX12_lies_X12_isIn
theorem dX12_lies_0 : decode cX12_lies 0 = .ok (.iload_n 1, 1) := by decide +kernel
theorem dX12_lies_1 : decode cX12_lies 1 = .ok (.iconst 0, 1) := by decide +kernel
theorem dX12_lies_2 : decode cX12_lies 2 = .ok (.aload_n 0, 1) := by decide +kernel
theorem dX12_lies_3 : decode cX12_lies 3 = .ok (.getfield 368, 3) := by decide +kernel
theorem dX12_lies_6 : decode cX12_lies 6 = .ok (.iconst 1, 1) := by decide +kernel
theorem dX12_lies_7 : decode cX12_lies 7 = .ok (.isub, 1) := by decide +kernel
theorem dX12_lies_8 : decode cX12_lies 8 = .ok (.invokestatic 371, 3) := by decide +kernel
theorem dX12_lies_11 : decode cX12_lies 11 = .ok (.ifCond .eq 12, 3) := by decide +kernel
theorem dX12_lies_14 : decode cX12_lies 14 = .ok (.aload_n 0, 1) := by decide +kernel
theorem dX12_lies_15 : decode cX12_lies 15 = .ok (.getfield 115, 3) := by decide +kernel
theorem dX12_lies_18 : decode cX12_lies 18 = .ok (.iload_n 1, 1) := by decide +kernel
theorem dX12_lies_19 : decode cX12_lies 19 = .ok (.iaload, 1) := by decide +kernel
theorem dX12_lies_20 : decode cX12_lies 20 = .ok (.goto 5, 3) := by decide +kernel
theorem dX12_lies_23 : decode cX12_lies 23 = .ok (.bipush (-2), 2) := by decide +kernel
theorem dX12_lies_25 : decode cX12_lies 25 = .ok (.ireturn, 1) := by decide +kernel
theorem dX12_tell_0 : decode cX12_tell 0 = .ok (.aload_n 0, 1) := by decide +kernel
theorem dX12_tell_1 : decode cX12_tell 1 = .ok (.getfield 365, 3) := by decide +kernel
theorem dX12_tell_4 : decode cX12_tell 4 = .ok (.bipush 30, 2) := by decide +kernel
theorem dX12_tell_6 : decode cX12_tell 6 = .ok (.if_icmp .eq 10, 3) := by decide +kernel
theorem dX12_tell_9 : decode cX12_tell 9 = .ok (.aload_n 0, 1) := by decide +kernel
theorem dX12_tell_10 : decode cX12_tell 10 = .ok (.getfield 350, 3) := by decide +kernel
theorem dX12_tell_13 : decode cX12_tell 13 = .ok (.ifCond .ne 5, 3) := by decide +kernel
theorem dX12_tell_16 : decode cX12_tell 16 = .ok (.iconst (-1), 1) := by decide +kernel
theorem dX12_tell_17 : decode cX12_tell 17 = .ok (.ireturn, 1) := by decide +kernel
theorem dX12_tell_18 : decode cX12_tell 18 = .ok (.aload_n 0, 1) := by decide +kernel
theorem dX12_tell_19 : decode cX12_tell 19 = .ok (.getfield 118, 3) := by decide +kernel
theorem dX12_tell_22 : decode cX12_tell 22 = .ok (.aload_n 0, 1) := by decide +kernel
theorem dX12_tell_23 : decode cX12_tell 23 = .ok (.getfield 365, 3) := by decide +kernel
theorem dX12_tell_26 : decode cX12_tell 26 = .ok (.iload_n 1, 1) := by decide +kernel
theorem dX12_tell_27 : decode cX12_tell 27 = .ok (.iastore, 1) := by decide +kernel
theorem dX12_tell_28 : decode cX12_tell 28 = .ok (.aload_n 0, 1) := by decide +kernel
theorem dX12_tell_29 : decode cX12_tell 29 = .ok (.getfield 121, 3) := by decide +kernel
theorem dX12_tell_32 : decode cX12_tell 32 = .ok (.aload_n 0, 1) := by decide +kernel
theorem dX12_tell_33 : decode cX12_tell 33 = .ok (.getfield 365, 3) := by decide +kernel
theorem dX12_tell_36 : decode cX12_tell 36 = .ok (.iload_n 2, 1) := by decide +kernel
theorem dX12_tell_37 : decode cX12_tell 37 = .ok (.iastore, 1) := by decide +kernel
theorem dX12_tell_38 : decode cX12_tell 38 = .ok (.aload_n 0, 1) := by decide +kernel
theorem dX12_tell_39 : decode cX12_tell 39 = .ok (.getfield 130, 3) := by decide +kernel
theorem dX12_tell_42 : decode cX12_tell 42 = .ok (.aload_n 0, 1) := by decide +kernel
theorem dX12_tell_43 : decode cX12_tell 43 = .ok (.getfield 365, 3) := by decide +kernel
theorem dX12_tell_46 : decode cX12_tell 46 = .ok (.iload_n 3, 1) := by decide +kernel
theorem dX12_tell_47 : decode cX12_tell 47 = .ok (.bastore, 1) := by decide +kernel
theorem dX12_tell_48 : decode cX12_tell 48 = .ok (.aload_n 0, 1) := by decide +kernel
theorem dX12_tell_49 : decode cX12_tell 49 = .ok (.getfield 124, 3) := by decide +kernel
theorem dX12_tell_52 : decode cX12_tell 52 = .ok (.aload_n 0, 1) := by decide +kernel
theorem dX12_tell_53 : decode cX12_tell 53 = .ok (.getfield 365, 3) := by decide +kernel
theorem dX12_tell_56 : decode cX12_tell 56 = .ok (.aload_n 0, 1) := by decide +kernel
theorem dX12_tell_57 : decode cX12_tell 57 = .ok (.getfield 498, 3) := by decide +kernel
theorem dX12_tell_60 : decode cX12_tell 60 = .ok (.iastore, 1) := by decide +kernel
theorem dX12_tell_61 : decode cX12_tell 61 = .ok (.aload_n 0, 1) := by decide +kernel
theorem dX12_tell_62 : decode cX12_tell 62 = .ok (.getfield 127, 3) := by decide +kernel
theorem dX12_tell_65 : decode cX12_tell 65 = .ok (.aload_n 0, 1) := by decide +kernel
theorem dX12_tell_66 : decode cX12_tell 66 = .ok (.getfield 365, 3) := by decide +kernel
theorem dX12_tell_69 : decode cX12_tell 69 = .ok (.iconst (-1), 1) := by decide +kernel
theorem dX12_tell_70 : decode cX12_tell 70 = .ok (.iastore, 1) := by decide +kernel
theorem dX12_tell_71 : decode cX12_tell 71 = .ok (.aload_n 0, 1) := by decide +kernel
theorem dX12_tell_72 : decode cX12_tell 72 = .ok (.dup, 1) := by decide +kernel
theorem dX12_tell_73 : decode cX12_tell 73 = .ok (.getfield 365, 3) := by decide +kernel
theorem dX12_tell_76 : decode cX12_tell 76 = .ok (.iconst 1, 1) := by decide +kernel
theorem dX12_tell_77 : decode cX12_tell 77 = .ok (.iadd, 1) := by decide +kernel
theorem dX12_tell_78 : decode cX12_tell 78 = .ok (.putfield 365, 3) := by decide +kernel
theorem dX12_tell_81 : decode cX12_tell 81 = .ok (.aload_n 0, 1) := by decide +kernel
theorem dX12_tell_82 : decode cX12_tell 82 = .ok (.getfield 365, 3) := by decide +kernel
theorem dX12_tell_85 : decode cX12_tell 85 = .ok (.iconst 1, 1) := by decide +kernel
theorem dX12_tell_86 : decode cX12_tell 86 = .ok (.isub, 1) := by decide +kernel
theorem dX12_tell_87 : decode cX12_tell 87 = .ok (.ireturn, 1) := by decide +kernel
set_option maxRecDepth 20000 in
theorem ggX12_sized_X12_isIn : GoodIn wsX12_sized wsX12_isIn := goodIn_r _ [4] (by decide +kernel) (by decide +kernel)
set_option maxRecDepth 20000 in
theorem gX12_sized_X12_isIn : GoodIn wsX12_sized (va_wsS RX12 371 yX12_isIn wsX12_isIn) := goodIn_app (goodIn_of _ (by decide +kernel)) ggX12_sized_X12_isIn
set_option maxRecDepth 20000 in
theorem ggX12_sized_X12_tell : GoodIn wsX12_sized wsX12_tell := goodIn_r _ [8, 9, 10, 11, 12, 13, 14, 15, 16, 17, 18, 19, 20, 21, 22, 23, 24, 25, 26, 27, 28, 29, 30, 31, 32, 33, 34, 35, 36, 37, 38, 39, 40, 41, 42, 43, 44, 45, 46, 47, 48, 49, 50, 51, 52, 53, 54, 55, 56, 57, 58, 59, 60, 61, 62, 63, 64, 65, 66, 67, 68, 69, 70, 71, 72, 73, 74, 75, 76, 77, 78, 79, 80, 81, 82, 83, 84, 85, 86, 87, 88, 89, 90, 91] (by decide +kernel) (by decide +kernel)
set_option maxRecDepth 20000 in
theorem gX12_sized_X12_tell : GoodIn wsX12_sized (wsV RX12 501 RX12 yX12_tell wsX12_tell) := goodIn_app (goodIn_of _ (by decide +kernel)) ggX12_sized_X12_tell
theorem dX12_sized_0 : decode cX12_sized 0 = .ok (.iload_n 1, 1) := by decide +kernel
theorem dX12_sized_1 : decode cX12_sized 1 = .ok (.iconst 1, 1) := by decide +kernel
theorem dX12_sized_2 : decode cX12_sized 2 = .ok (.bipush 64, 2) := by decide +kernel
theorem dX12_sized_4 : decode cX12_sized 4 = .ok (.invokestatic 371, 3) := by decide +kernel
theorem dX12_sized_7 : decode cX12_sized 7 = .ok (.ifCond .eq 13, 3) := by decide +kernel
theorem dX12_sized_10 : decode cX12_sized 10 = .ok (.aload_n 0, 1) := by decide +kernel
theorem dX12_sized_11 : decode cX12_sized 11 = .ok (.iconst 0, 1) := by decide +kernel
theorem dX12_sized_12 : decode cX12_sized 12 = .ok (.iload_n 1, 1) := by decide +kernel
theorem dX12_sized_13 : decode cX12_sized 13 = .ok (.iload_n 2, 1) := by decide +kernel
theorem dX12_sized_14 : decode cX12_sized 14 = .ok (.invokevirtual 501, 3) := by decide +kernel
theorem dX12_sized_17 : decode cX12_sized 17 = .ok (.goto 4, 3) := by decide +kernel
theorem dX12_sized_20 : decode cX12_sized 20 = .ok (.iconst (-1), 1) := by decide +kernel
theorem dX12_sized_21 : decode cX12_sized 21 = .ok (.ireturn, 1) := by decide +kernel
set_option maxRecDepth 20000 in
theorem ggX12_rimmed_X12_isIn : GoodIn wsX12_rimmed wsX12_isIn := goodIn_r _ [4] (by decide +kernel) (by decide +kernel)
set_option maxRecDepth 20000 in
theorem gX12_rimmed_X12_isIn : GoodIn wsX12_rimmed (va_wsS RX12 371 yX12_isIn wsX12_isIn) := goodIn_app (goodIn_of _ (by decide +kernel)) ggX12_rimmed_X12_isIn
set_option maxRecDepth 20000 in
theorem ggX12_rimmed_X12_tell : GoodIn wsX12_rimmed wsX12_tell := goodIn_r _ [8, 9, 10, 11, 12, 13, 14, 15, 16, 17, 18, 19, 20, 21, 22, 23, 24, 25, 26, 27, 28, 29, 30, 31, 32, 33, 34, 35, 36, 37, 38, 39, 40, 41, 42, 43, 44, 45, 46, 47, 48, 49, 50, 51, 52, 53, 54, 55, 56, 57, 58, 59, 60, 61, 62, 63, 64, 65, 66, 67, 68, 69, 70, 71, 72, 73, 74, 75, 76, 77, 78, 79, 80, 81, 82, 83, 84, 85, 86, 87, 88, 89, 90, 91] (by decide +kernel) (by decide +kernel)
set_option maxRecDepth 20000 in
theorem gX12_rimmed_X12_tell : GoodIn wsX12_rimmed (wsV RX12 501 RX12 yX12_tell wsX12_tell) := goodIn_app (goodIn_of _ (by decide +kernel)) ggX12_rimmed_X12_tell
theorem dX12_rimmed_0 : decode cX12_rimmed 0 = .ok (.iload_n 1, 1) := by decide +kernel
theorem dX12_rimmed_1 : decode cX12_rimmed 1 = .ok (.iconst 0, 1) := by decide +kernel
theorem dX12_rimmed_2 : decode cX12_rimmed 2 = .ok (.bipush 32, 2) := by decide +kernel
theorem dX12_rimmed_4 : decode cX12_rimmed 4 = .ok (.invokestatic 371, 3) := by decide +kernel
theorem dX12_rimmed_7 : decode cX12_rimmed 7 = .ok (.ifCond .eq 13, 3) := by decide +kernel
theorem dX12_rimmed_10 : decode cX12_rimmed 10 = .ok (.aload_n 0, 1) := by decide +kernel
theorem dX12_rimmed_11 : decode cX12_rimmed 11 = .ok (.iconst 1, 1) := by decide +kernel
theorem dX12_rimmed_12 : decode cX12_rimmed 12 = .ok (.iload_n 1, 1) := by decide +kernel
theorem dX12_rimmed_13 : decode cX12_rimmed 13 = .ok (.iload_n 2, 1) := by decide +kernel
theorem dX12_rimmed_14 : decode cX12_rimmed 14 = .ok (.invokevirtual 501, 3) := by decide +kernel
theorem dX12_rimmed_17 : decode cX12_rimmed 17 = .ok (.goto 4, 3) := by decide +kernel
theorem dX12_rimmed_20 : decode cX12_rimmed 20 = .ok (.iconst (-1), 1) := by decide +kernel
theorem dX12_rimmed_21 : decode cX12_rimmed 21 = .ok (.ireturn, 1) := by decide +kernel
set_option maxRecDepth 20000 in
theorem ggX12_untell_X12_isIn : GoodIn wsX12_untell wsX12_isIn := goodIn_r _ [7] (by decide +kernel) (by decide +kernel)
set_option maxRecDepth 20000 in
theorem gX12_untell_X12_isIn : GoodIn wsX12_untell (va_wsS RX12 371 yX12_isIn wsX12_isIn) := goodIn_app (goodIn_of _ (by decide +kernel)) ggX12_untell_X12_isIn
theorem dX12_untell_0 : decode cX12_untell 0 = .ok (.iload_n 1, 1) := by decide +kernel
theorem dX12_untell_1 : decode cX12_untell 1 = .ok (.iconst 0, 1) := by decide +kernel
theorem dX12_untell_2 : decode cX12_untell 2 = .ok (.aload_n 0, 1) := by decide +kernel
theorem dX12_untell_3 : decode cX12_untell 3 = .ok (.getfield 365, 3) := by decide +kernel
theorem dX12_untell_6 : decode cX12_untell 6 = .ok (.iconst 1, 1) := by decide +kernel
theorem dX12_untell_7 : decode cX12_untell 7 = .ok (.isub, 1) := by decide +kernel
theorem dX12_untell_8 : decode cX12_untell 8 = .ok (.invokestatic 371, 3) := by decide +kernel
theorem dX12_untell_11 : decode cX12_untell 11 = .ok (.ifCond .eq 12, 3) := by decide +kernel
theorem dX12_untell_14 : decode cX12_untell 14 = .ok (.aload_n 0, 1) := by decide +kernel
theorem dX12_untell_15 : decode cX12_untell 15 = .ok (.getfield 127, 3) := by decide +kernel
theorem dX12_untell_18 : decode cX12_untell 18 = .ok (.iload_n 1, 1) := by decide +kernel
theorem dX12_untell_19 : decode cX12_untell 19 = .ok (.iaload, 1) := by decide +kernel
theorem dX12_untell_20 : decode cX12_untell 20 = .ok (.ifCond .lt 5, 3) := by decide +kernel
theorem dX12_untell_23 : decode cX12_untell 23 = .ok (.iconst 0, 1) := by decide +kernel
theorem dX12_untell_24 : decode cX12_untell 24 = .ok (.ireturn, 1) := by decide +kernel
theorem dX12_untell_25 : decode cX12_untell 25 = .ok (.aload_n 0, 1) := by decide +kernel
theorem dX12_untell_26 : decode cX12_untell 26 = .ok (.getfield 127, 3) := by decide +kernel
theorem dX12_untell_29 : decode cX12_untell 29 = .ok (.iload_n 1, 1) := by decide +kernel
theorem dX12_untell_30 : decode cX12_untell 30 = .ok (.aload_n 0, 1) := by decide +kernel
theorem dX12_untell_31 : decode cX12_untell 31 = .ok (.getfield 498, 3) := by decide +kernel
theorem dX12_untell_34 : decode cX12_untell 34 = .ok (.iastore, 1) := by decide +kernel
theorem dX12_untell_35 : decode cX12_untell 35 = .ok (.iconst 1, 1) := by decide +kernel
theorem dX12_untell_36 : decode cX12_untell 36 = .ok (.ireturn, 1) := by decide +kernel
theorem dX12_later_0 : decode cX12_later 0 = .ok (.iload_n 1, 1) := by decide +kernel
theorem dX12_later_1 : decode cX12_later 1 = .ok (.ifCond .lt 22, 3) := by decide +kernel
theorem dX12_later_4 : decode cX12_later 4 = .ok (.iload_n 1, 1) := by decide +kernel
theorem dX12_later_5 : decode cX12_later 5 = .ok (.sipush 1000, 3) := by decide +kernel
theorem dX12_later_8 : decode cX12_later 8 = .ok (.if_icmp .gt 15, 3) := by decide +kernel
theorem dX12_later_11 : decode cX12_later 11 = .ok (.aload_n 0, 1) := by decide +kernel
theorem dX12_later_12 : decode cX12_later 12 = .ok (.getfield 498, 3) := by decide +kernel
theorem dX12_later_15 : decode cX12_later 15 = .ok (.iload_n 1, 1) := by decide +kernel
theorem dX12_later_16 : decode cX12_later 16 = .ok (.iadd, 1) := by decide +kernel
theorem dX12_later_17 : decode cX12_later 17 = .ok (.ldc_w 505, 3) := by decide +kernel
theorem dX12_later_20 : decode cX12_later 20 = .ok (.if_icmp .le 5, 3) := by decide +kernel
theorem dX12_later_23 : decode cX12_later 23 = .ok (.iconst (-1), 1) := by decide +kernel
theorem dX12_later_24 : decode cX12_later 24 = .ok (.ireturn, 1) := by decide +kernel
theorem dX12_later_25 : decode cX12_later 25 = .ok (.aload_n 0, 1) := by decide +kernel
theorem dX12_later_26 : decode cX12_later 26 = .ok (.dup, 1) := by decide +kernel
theorem dX12_later_27 : decode cX12_later 27 = .ok (.getfield 498, 3) := by decide +kernel
theorem dX12_later_30 : decode cX12_later 30 = .ok (.iload_n 1, 1) := by decide +kernel
theorem dX12_later_31 : decode cX12_later 31 = .ok (.iadd, 1) := by decide +kernel
theorem dX12_later_32 : decode cX12_later 32 = .ok (.putfield 498, 3) := by decide +kernel
theorem dX12_later_35 : decode cX12_later 35 = .ok (.aload_n 0, 1) := by decide +kernel
theorem dX12_later_36 : decode cX12_later 36 = .ok (.getfield 498, 3) := by decide +kernel
theorem dX12_later_39 : decode cX12_later 39 = .ok (.ireturn, 1) := by decide +kernel
set_option maxRecDepth 20000 in
theorem ggX12_hasIcing_X12_gridIcing : GoodIn wsX12_hasIcing wsX12_gridIcing := goodIn_r _ [5, 6, 7, 8, 9, 4, 10, 11, 12, 13, 14, 15, 16, 17, 18, 19, 20, 21, 22, 23, 24, 25, 26, 27, 28, 29, 30, 31, 32, 33, 34, 35, 36, 37, 38, 39, 40, 41, 42, 43, 44, 45, 46, 47, 48, 49, 50, 51, 52, 53, 54, 55, 56, 57, 58, 59, 60, 61, 62, 63, 64, 65, 66, 67, 68, 69, 70, 71, 72, 73, 74, 75, 76, 77, 78, 79, 80, 81, 82, 83, 84, 85] (by decide +kernel) (by decide +kernel)
set_option maxRecDepth 20000 in
theorem gX12_hasIcing_X12_gridIcing : GoodIn wsX12_hasIcing (wsV RX12 475 RX12 yX12_gridIcing wsX12_gridIcing) := goodIn_app (goodIn_of _ (by decide +kernel)) ggX12_hasIcing_X12_gridIcing
theorem dX12_hasIcing_0 : decode cX12_hasIcing 0 = .ok (.iconst 0, 1) := by decide +kernel
theorem dX12_hasIcing_1 : decode cX12_hasIcing 1 = .ok (.istore 4, 2) := by decide +kernel
theorem dX12_hasIcing_3 : decode cX12_hasIcing 3 = .ok (.iconst 0, 1) := by decide +kernel
theorem dX12_hasIcing_4 : decode cX12_hasIcing 4 = .ok (.istore 5, 2) := by decide +kernel
theorem dX12_hasIcing_6 : decode cX12_hasIcing 6 = .ok (.iload 5, 2) := by decide +kernel
theorem dX12_hasIcing_8 : decode cX12_hasIcing 8 = .ok (.iload_n 1, 1) := by decide +kernel
theorem dX12_hasIcing_9 : decode cX12_hasIcing 9 = .ok (.if_icmp .ge 51, 3) := by decide +kernel
theorem dX12_hasIcing_12 : decode cX12_hasIcing 12 = .ok (.iconst 0, 1) := by decide +kernel
theorem dX12_hasIcing_13 : decode cX12_hasIcing 13 = .ok (.istore 6, 2) := by decide +kernel
theorem dX12_hasIcing_15 : decode cX12_hasIcing 15 = .ok (.iload 6, 2) := by decide +kernel
theorem dX12_hasIcing_17 : decode cX12_hasIcing 17 = .ok (.iload_n 2, 1) := by decide +kernel
theorem dX12_hasIcing_18 : decode cX12_hasIcing 18 = .ok (.if_icmp .ge 36, 3) := by decide +kernel
theorem dX12_hasIcing_21 : decode cX12_hasIcing 21 = .ok (.iload 4, 2) := by decide +kernel
theorem dX12_hasIcing_23 : decode cX12_hasIcing 23 = .ok (.ifCond .ne 18, 3) := by decide +kernel
theorem dX12_hasIcing_26 : decode cX12_hasIcing 26 = .ok (.aload_n 0, 1) := by decide +kernel
theorem dX12_hasIcing_27 : decode cX12_hasIcing 27 = .ok (.iconst 0, 1) := by decide +kernel
theorem dX12_hasIcing_28 : decode cX12_hasIcing 28 = .ok (.iload_n 1, 1) := by decide +kernel
theorem dX12_hasIcing_29 : decode cX12_hasIcing 29 = .ok (.iload_n 2, 1) := by decide +kernel
theorem dX12_hasIcing_30 : decode cX12_hasIcing 30 = .ok (.iload 5, 2) := by decide +kernel
theorem dX12_hasIcing_32 : decode cX12_hasIcing 32 = .ok (.iload 6, 2) := by decide +kernel
theorem dX12_hasIcing_34 : decode cX12_hasIcing 34 = .ok (.invokevirtual 475, 3) := by decide +kernel
theorem dX12_hasIcing_37 : decode cX12_hasIcing 37 = .ok (.iload_n 3, 1) := by decide +kernel
theorem dX12_hasIcing_38 : decode cX12_hasIcing 38 = .ok (.if_icmp .ne 7, 3) := by decide +kernel
theorem dX12_hasIcing_41 : decode cX12_hasIcing 41 = .ok (.iconst 1, 1) := by decide +kernel
theorem dX12_hasIcing_42 : decode cX12_hasIcing 42 = .ok (.goto 4, 3) := by decide +kernel
theorem dX12_hasIcing_45 : decode cX12_hasIcing 45 = .ok (.iconst 0, 1) := by decide +kernel
theorem dX12_hasIcing_46 : decode cX12_hasIcing 46 = .ok (.istore 4, 2) := by decide +kernel
theorem dX12_hasIcing_48 : decode cX12_hasIcing 48 = .ok (.iinc 6 1, 3) := by decide +kernel
theorem dX12_hasIcing_51 : decode cX12_hasIcing 51 = .ok (.goto (-36), 3) := by decide +kernel
theorem dX12_hasIcing_54 : decode cX12_hasIcing 54 = .ok (.iinc 5 1, 3) := by decide +kernel
theorem dX12_hasIcing_57 : decode cX12_hasIcing 57 = .ok (.goto (-51), 3) := by decide +kernel
theorem dX12_hasIcing_60 : decode cX12_hasIcing 60 = .ok (.iload 4, 2) := by decide +kernel
theorem dX12_hasIcing_62 : decode cX12_hasIcing 62 = .ok (.ireturn, 1) := by decide +kernel
set_option maxRecDepth 20000 in
theorem ggX12_isSo_X12_hasIcing : GoodIn wsX12_isSo wsX12_hasIcing := goodIn_r _ [9, 10, 11, 12, 8, 13, 2, 3, 14, 15, 16, 17, 18, 19, 20, 21, 22, 23, 24, 25, 26, 27, 28, 29, 30, 31, 32, 33, 34, 35, 36, 37, 38, 39, 40, 41, 42, 43, 44, 45, 46, 47, 48, 49, 50, 51, 52, 53, 54, 55, 56, 57, 58, 59, 60, 61, 62, 63, 64, 65, 66, 67, 68, 69, 70, 71, 72, 73, 74, 75, 76, 77, 78, 79, 80, 81, 82, 83, 84, 85, 86, 87, 88, 89, 90, 91] (by decide +kernel) (by decide +kernel)
set_option maxRecDepth 20000 in
theorem gX12_isSo_X12_hasIcing : GoodIn wsX12_isSo (wsV RX12 506 RX12 yX12_hasIcing wsX12_hasIcing) := goodIn_app (goodIn_of _ (by decide +kernel)) ggX12_isSo_X12_hasIcing
theorem dX12_isSo_0 : decode cX12_isSo 0 = .ok (.aload_n 0, 1) := by decide +kernel
theorem dX12_isSo_1 : decode cX12_isSo 1 = .ok (.getfield 118, 3) := by decide +kernel
theorem dX12_isSo_4 : decode cX12_isSo 4 = .ok (.iload_n 1, 1) := by decide +kernel
theorem dX12_isSo_5 : decode cX12_isSo 5 = .ok (.iaload, 1) := by decide +kernel
theorem dX12_isSo_6 : decode cX12_isSo 6 = .ok (.ifCond .ne 37, 3) := by decide +kernel
theorem dX12_isSo_9 : decode cX12_isSo 9 = .ok (.aload_n 0, 1) := by decide +kernel
theorem dX12_isSo_10 : decode cX12_isSo 10 = .ok (.getfield 61, 3) := by decide +kernel
theorem dX12_isSo_13 : decode cX12_isSo 13 = .ok (.iconst 0, 1) := by decide +kernel
theorem dX12_isSo_14 : decode cX12_isSo 14 = .ok (.iaload, 1) := by decide +kernel
theorem dX12_isSo_15 : decode cX12_isSo 15 = .ok (.iload_n 2, 1) := by decide +kernel
theorem dX12_isSo_16 : decode cX12_isSo 16 = .ok (.idiv, 1) := by decide +kernel
theorem dX12_isSo_17 : decode cX12_isSo 17 = .ok (.aload_n 0, 1) := by decide +kernel
theorem dX12_isSo_18 : decode cX12_isSo 18 = .ok (.getfield 64, 3) := by decide +kernel
theorem dX12_isSo_21 : decode cX12_isSo 21 = .ok (.iconst 0, 1) := by decide +kernel
theorem dX12_isSo_22 : decode cX12_isSo 22 = .ok (.iaload, 1) := by decide +kernel
theorem dX12_isSo_23 : decode cX12_isSo 23 = .ok (.iload_n 3, 1) := by decide +kernel
theorem dX12_isSo_24 : decode cX12_isSo 24 = .ok (.idiv, 1) := by decide +kernel
theorem dX12_isSo_25 : decode cX12_isSo 25 = .ok (.imul, 1) := by decide +kernel
theorem dX12_isSo_26 : decode cX12_isSo 26 = .ok (.aload_n 0, 1) := by decide +kernel
theorem dX12_isSo_27 : decode cX12_isSo 27 = .ok (.getfield 121, 3) := by decide +kernel
theorem dX12_isSo_30 : decode cX12_isSo 30 = .ok (.iload_n 1, 1) := by decide +kernel
theorem dX12_isSo_31 : decode cX12_isSo 31 = .ok (.iaload, 1) := by decide +kernel
theorem dX12_isSo_32 : decode cX12_isSo 32 = .ok (.if_icmp .ne 7, 3) := by decide +kernel
theorem dX12_isSo_35 : decode cX12_isSo 35 = .ok (.iconst 1, 1) := by decide +kernel
theorem dX12_isSo_36 : decode cX12_isSo 36 = .ok (.goto 19, 3) := by decide +kernel
theorem dX12_isSo_39 : decode cX12_isSo 39 = .ok (.iconst 0, 1) := by decide +kernel
theorem dX12_isSo_40 : decode cX12_isSo 40 = .ok (.goto 15, 3) := by decide +kernel
theorem dX12_isSo_43 : decode cX12_isSo 43 = .ok (.aload_n 0, 1) := by decide +kernel
theorem dX12_isSo_44 : decode cX12_isSo 44 = .ok (.iload_n 2, 1) := by decide +kernel
theorem dX12_isSo_45 : decode cX12_isSo 45 = .ok (.iload_n 3, 1) := by decide +kernel
theorem dX12_isSo_46 : decode cX12_isSo 46 = .ok (.aload_n 0, 1) := by decide +kernel
theorem dX12_isSo_47 : decode cX12_isSo 47 = .ok (.getfield 121, 3) := by decide +kernel
theorem dX12_isSo_50 : decode cX12_isSo 50 = .ok (.iload_n 1, 1) := by decide +kernel
theorem dX12_isSo_51 : decode cX12_isSo 51 = .ok (.iaload, 1) := by decide +kernel
theorem dX12_isSo_52 : decode cX12_isSo 52 = .ok (.invokevirtual 506, 3) := by decide +kernel
theorem dX12_isSo_55 : decode cX12_isSo 55 = .ok (.ireturn, 1) := by decide +kernel
set_option maxRecDepth 20000 in
theorem ggX12_isFit_X12_isGrid : GoodIn wsX12_isFit wsX12_isGrid := goodIn_r _ [10, 11, 12, 30, 31, 32, 33, 34, 35, 36, 37, 38, 39, 40, 41, 42, 43, 44, 45, 46, 47, 48, 49, 50, 51, 52, 53, 54, 55, 56, 57, 58, 59, 60, 61, 62, 63, 64, 65, 66, 67, 68, 69, 70, 71, 72, 73, 74, 75, 76, 77, 78, 79, 80, 81, 82, 83, 84, 85, 86, 87, 88, 89, 90, 91, 92, 93, 94, 95, 96, 97, 98, 99, 100, 101, 102, 103, 104] (by decide +kernel) (by decide +kernel)
set_option maxRecDepth 20000 in
theorem gX12_isFit_X12_isGrid : GoodIn wsX12_isFit (wsV RX12 482 RX12 yX12_isGrid wsX12_isGrid) := goodIn_app (goodIn_of _ (by decide +kernel)) ggX12_isFit_X12_isGrid
set_option maxRecDepth 20000 in
theorem ggX12_isFit_X12_isSo : GoodIn wsX12_isFit wsX12_isSo := goodIn_r _ [16, 17, 11, 12, 18, 19, 20, 21, 9, 22, 23, 24, 25, 26, 27, 28, 29, 30, 31, 32, 33, 34, 35, 36, 37, 38, 39, 40, 41, 42, 43, 44, 45, 46, 47, 48, 49, 50, 51, 52, 53, 54, 55, 56, 57, 58, 59, 60, 61, 62, 63, 64, 65, 66, 67, 68, 69, 70, 71, 72, 73, 74, 75, 76, 77, 78, 79, 80, 81, 82, 83, 84, 85, 86, 87, 88, 89, 90, 91, 92, 93, 94, 95, 96, 97, 98, 99, 100, 101, 102, 103, 104] (by decide +kernel) (by decide +kernel)
set_option maxRecDepth 20000 in
theorem gX12_isFit_X12_isSo : GoodIn wsX12_isFit (wsV RX12 509 RX12 yX12_isSo wsX12_isSo) := goodIn_app (goodIn_of _ (by decide +kernel)) ggX12_isFit_X12_isSo
theorem dX12_isFit_0 : decode cX12_isFit 0 = .ok (.aload_n 0, 1) := by decide +kernel
theorem dX12_isFit_1 : decode cX12_isFit 1 = .ok (.getfield 350, 3) := by decide +kernel
theorem dX12_isFit_4 : decode cX12_isFit 4 = .ok (.ifCond .le 17, 3) := by decide +kernel
theorem dX12_isFit_7 : decode cX12_isFit 7 = .ok (.aload_n 0, 1) := by decide +kernel
theorem dX12_isFit_8 : decode cX12_isFit 8 = .ok (.iconst 0, 1) := by decide +kernel
theorem dX12_isFit_9 : decode cX12_isFit 9 = .ok (.iload_n 1, 1) := by decide +kernel
theorem dX12_isFit_10 : decode cX12_isFit 10 = .ok (.iload_n 2, 1) := by decide +kernel
theorem dX12_isFit_11 : decode cX12_isFit 11 = .ok (.invokevirtual 482, 3) := by decide +kernel
theorem dX12_isFit_14 : decode cX12_isFit 14 = .ok (.ifCond .eq 7, 3) := by decide +kernel
theorem dX12_isFit_17 : decode cX12_isFit 17 = .ok (.iconst 1, 1) := by decide +kernel
theorem dX12_isFit_18 : decode cX12_isFit 18 = .ok (.goto 4, 3) := by decide +kernel
theorem dX12_isFit_21 : decode cX12_isFit 21 = .ok (.iconst 0, 1) := by decide +kernel
theorem dX12_isFit_22 : decode cX12_isFit 22 = .ok (.istore 4, 2) := by decide +kernel
theorem dX12_isFit_24 : decode cX12_isFit 24 = .ok (.iconst 0, 1) := by decide +kernel
theorem dX12_isFit_25 : decode cX12_isFit 25 = .ok (.istore 5, 2) := by decide +kernel
theorem dX12_isFit_27 : decode cX12_isFit 27 = .ok (.iload 5, 2) := by decide +kernel
theorem dX12_isFit_29 : decode cX12_isFit 29 = .ok (.aload_n 0, 1) := by decide +kernel
theorem dX12_isFit_30 : decode cX12_isFit 30 = .ok (.getfield 365, 3) := by decide +kernel
theorem dX12_isFit_33 : decode cX12_isFit 33 = .ok (.if_icmp .ge 74, 3) := by decide +kernel
theorem dX12_isFit_36 : decode cX12_isFit 36 = .ok (.iload 4, 2) := by decide +kernel
theorem dX12_isFit_38 : decode cX12_isFit 38 = .ok (.ifCond .eq 69, 3) := by decide +kernel
theorem dX12_isFit_41 : decode cX12_isFit 41 = .ok (.aload_n 0, 1) := by decide +kernel
theorem dX12_isFit_42 : decode cX12_isFit 42 = .ok (.getfield 124, 3) := by decide +kernel
theorem dX12_isFit_45 : decode cX12_isFit 45 = .ok (.iload 5, 2) := by decide +kernel
theorem dX12_isFit_47 : decode cX12_isFit 47 = .ok (.iaload, 1) := by decide +kernel
theorem dX12_isFit_48 : decode cX12_isFit 48 = .ok (.iload_n 3, 1) := by decide +kernel
theorem dX12_isFit_49 : decode cX12_isFit 49 = .ok (.if_icmp .gt 52, 3) := by decide +kernel
theorem dX12_isFit_52 : decode cX12_isFit 52 = .ok (.aload_n 0, 1) := by decide +kernel
theorem dX12_isFit_53 : decode cX12_isFit 53 = .ok (.getfield 127, 3) := by decide +kernel
theorem dX12_isFit_56 : decode cX12_isFit 56 = .ok (.iload 5, 2) := by decide +kernel
theorem dX12_isFit_58 : decode cX12_isFit 58 = .ok (.iaload, 1) := by decide +kernel
theorem dX12_isFit_59 : decode cX12_isFit 59 = .ok (.ifCond .lt 17, 3) := by decide +kernel
theorem dX12_isFit_62 : decode cX12_isFit 62 = .ok (.aload_n 0, 1) := by decide +kernel
theorem dX12_isFit_63 : decode cX12_isFit 63 = .ok (.getfield 127, 3) := by decide +kernel
theorem dX12_isFit_66 : decode cX12_isFit 66 = .ok (.iload 5, 2) := by decide +kernel
theorem dX12_isFit_68 : decode cX12_isFit 68 = .ok (.iaload, 1) := by decide +kernel
theorem dX12_isFit_69 : decode cX12_isFit 69 = .ok (.iload_n 3, 1) := by decide +kernel
theorem dX12_isFit_70 : decode cX12_isFit 70 = .ok (.if_icmp .gt 6, 3) := by decide +kernel
theorem dX12_isFit_73 : decode cX12_isFit 73 = .ok (.goto 28, 3) := by decide +kernel
theorem dX12_isFit_76 : decode cX12_isFit 76 = .ok (.aload_n 0, 1) := by decide +kernel
theorem dX12_isFit_77 : decode cX12_isFit 77 = .ok (.iload 5, 2) := by decide +kernel
theorem dX12_isFit_79 : decode cX12_isFit 79 = .ok (.iload_n 1, 1) := by decide +kernel
theorem dX12_isFit_80 : decode cX12_isFit 80 = .ok (.iload_n 2, 1) := by decide +kernel
theorem dX12_isFit_81 : decode cX12_isFit 81 = .ok (.invokevirtual 509, 3) := by decide +kernel
theorem dX12_isFit_84 : decode cX12_isFit 84 = .ok (.aload_n 0, 1) := by decide +kernel
theorem dX12_isFit_85 : decode cX12_isFit 85 = .ok (.getfield 130, 3) := by decide +kernel
theorem dX12_isFit_88 : decode cX12_isFit 88 = .ok (.iload 5, 2) := by decide +kernel
theorem dX12_isFit_90 : decode cX12_isFit 90 = .ok (.baload, 1) := by decide +kernel
theorem dX12_isFit_91 : decode cX12_isFit 91 = .ok (.if_icmp .ne 7, 3) := by decide +kernel
theorem dX12_isFit_94 : decode cX12_isFit 94 = .ok (.iconst 1, 1) := by decide +kernel
theorem dX12_isFit_95 : decode cX12_isFit 95 = .ok (.goto 4, 3) := by decide +kernel
theorem dX12_isFit_98 : decode cX12_isFit 98 = .ok (.iconst 0, 1) := by decide +kernel
theorem dX12_isFit_99 : decode cX12_isFit 99 = .ok (.istore 4, 2) := by decide +kernel
theorem dX12_isFit_101 : decode cX12_isFit 101 = .ok (.iinc 5 1, 3) := by decide +kernel
theorem dX12_isFit_104 : decode cX12_isFit 104 = .ok (.goto (-77), 3) := by decide +kernel
theorem dX12_isFit_107 : decode cX12_isFit 107 = .ok (.iload 4, 2) := by decide +kernel
theorem dX12_isFit_109 : decode cX12_isFit 109 = .ok (.ireturn, 1) := by decide +kernel
set_option maxRecDepth 20000 in
theorem ggX12_fits_X12_isFit : GoodIn wsX12_fits wsX12_isFit := goodIn_r _ [5, 6, 7, 8, 9, 10, 11, 12, 13, 4, 14, 15, 16, 17, 18, 19, 20, 21, 22, 23, 24, 25, 26, 27, 28, 29, 30, 31, 32, 33, 34, 35, 36, 37, 38, 39, 40, 41, 42, 43, 44, 45, 46, 47, 48, 49, 50, 51, 52, 53, 54, 55, 56, 57, 58, 59, 60, 61, 62, 63, 64, 65, 66, 67, 68, 69, 70, 71, 72, 73, 74, 75, 76, 77, 78, 79, 80, 81, 82, 83, 84, 85, 86, 87, 88, 89, 90, 91, 92, 93, 94, 95, 96, 97, 98, 99, 100, 101, 102, 103, 104, 105, 106, 107, 108] (by decide +kernel) (by decide +kernel)
set_option maxRecDepth 20000 in
theorem gX12_fits_X12_isFit : GoodIn wsX12_fits (wsV RX12 512 RX12 yX12_isFit wsX12_isFit) := goodIn_app (goodIn_of _ (by decide +kernel)) ggX12_fits_X12_isFit
set_option maxRecDepth 20000 in
theorem ggX12_fits_X12_truth : GoodIn wsX12_fits wsX12_truth := goodIn_r _ [33] (by decide +kernel) (by decide +kernel)
set_option maxRecDepth 20000 in
theorem gX12_fits_X12_truth : GoodIn wsX12_fits (va_wsS RX12 302 yX12_truth wsX12_truth) := goodIn_app (goodIn_of _ (by decide +kernel)) ggX12_fits_X12_truth
theorem dX12_fits_0 : decode cX12_fits 0 = .ok (.iconst 0, 1) := by decide +kernel
theorem dX12_fits_1 : decode cX12_fits 1 = .ok (.istore_n 2, 1) := by decide +kernel
theorem dX12_fits_2 : decode cX12_fits 2 = .ok (.iconst 1, 1) := by decide +kernel
theorem dX12_fits_3 : decode cX12_fits 3 = .ok (.istore_n 3, 1) := by decide +kernel
theorem dX12_fits_4 : decode cX12_fits 4 = .ok (.iload_n 3, 1) := by decide +kernel
theorem dX12_fits_5 : decode cX12_fits 5 = .ok (.bipush 8, 2) := by decide +kernel
theorem dX12_fits_7 : decode cX12_fits 7 = .ok (.if_icmp .gt 39, 3) := by decide +kernel
theorem dX12_fits_10 : decode cX12_fits 10 = .ok (.iconst 1, 1) := by decide +kernel
theorem dX12_fits_11 : decode cX12_fits 11 = .ok (.istore 4, 2) := by decide +kernel
theorem dX12_fits_13 : decode cX12_fits 13 = .ok (.iload 4, 2) := by decide +kernel
theorem dX12_fits_15 : decode cX12_fits 15 = .ok (.bipush 8, 2) := by decide +kernel
theorem dX12_fits_17 : decode cX12_fits 17 = .ok (.if_icmp .gt 23, 3) := by decide +kernel
theorem dX12_fits_20 : decode cX12_fits 20 = .ok (.iload_n 2, 1) := by decide +kernel
theorem dX12_fits_21 : decode cX12_fits 21 = .ok (.aload_n 0, 1) := by decide +kernel
theorem dX12_fits_22 : decode cX12_fits 22 = .ok (.iload_n 3, 1) := by decide +kernel
theorem dX12_fits_23 : decode cX12_fits 23 = .ok (.iload 4, 2) := by decide +kernel
theorem dX12_fits_25 : decode cX12_fits 25 = .ok (.iload_n 1, 1) := by decide +kernel
theorem dX12_fits_26 : decode cX12_fits 26 = .ok (.invokevirtual 512, 3) := by decide +kernel
theorem dX12_fits_29 : decode cX12_fits 29 = .ok (.invokestatic 302, 3) := by decide +kernel
theorem dX12_fits_32 : decode cX12_fits 32 = .ok (.iadd, 1) := by decide +kernel
theorem dX12_fits_33 : decode cX12_fits 33 = .ok (.istore_n 2, 1) := by decide +kernel
theorem dX12_fits_34 : decode cX12_fits 34 = .ok (.iinc 4 1, 3) := by decide +kernel
theorem dX12_fits_37 : decode cX12_fits 37 = .ok (.goto (-24), 3) := by decide +kernel
theorem dX12_fits_40 : decode cX12_fits 40 = .ok (.iinc 3 1, 3) := by decide +kernel
theorem dX12_fits_43 : decode cX12_fits 43 = .ok (.goto (-39), 3) := by decide +kernel
theorem dX12_fits_46 : decode cX12_fits 46 = .ok (.iload_n 2, 1) := by decide +kernel
theorem dX12_fits_47 : decode cX12_fits 47 = .ok (.ireturn, 1) := by decide +kernel
set_option maxRecDepth 20000 in
theorem ggX12_sure_X12_isIn : GoodIn wsX12_sure wsX12_isIn := goodIn_r _ [4] (by decide +kernel) (by decide +kernel)
set_option maxRecDepth 20000 in
theorem gX12_sure_X12_isIn : GoodIn wsX12_sure (va_wsS RX12 371 yX12_isIn wsX12_isIn) := goodIn_app (goodIn_of _ (by decide +kernel)) ggX12_sure_X12_isIn
set_option maxRecDepth 20000 in
theorem ggX12_sure_X12_isFit : GoodIn wsX12_sure wsX12_isFit := goodIn_r _ [8, 9, 10, 11, 12, 13, 14, 15, 16, 3, 17, 18, 19, 20, 21, 22, 23, 24, 25, 26, 27, 28, 29, 30, 31, 32, 33, 34, 35, 36, 37, 38, 39, 40, 41, 42, 43, 44, 45, 46, 47, 48, 49, 50, 51, 52, 53, 54, 55, 56, 57, 58, 59, 60, 61, 62, 63, 64, 65, 66, 67, 68, 69, 70, 71, 72, 73, 74, 75, 76, 77, 78, 79, 80, 81, 82, 83, 84, 85, 86, 87, 88, 89, 90, 91, 92, 93, 94, 95, 96, 97, 98, 99, 100, 101, 102, 103, 104, 105, 106, 107, 108, 109, 110, 111] (by decide +kernel) (by decide +kernel)
set_option maxRecDepth 20000 in
theorem gX12_sure_X12_isFit : GoodIn wsX12_sure (wsV RX12 512 RX12 yX12_isFit wsX12_isFit) := goodIn_app (goodIn_of _ (by decide +kernel)) ggX12_sure_X12_isFit
theorem dX12_sure_0 : decode cX12_sure 0 = .ok (.iload_n 1, 1) := by decide +kernel
theorem dX12_sure_1 : decode cX12_sure 1 = .ok (.iconst 0, 1) := by decide +kernel
theorem dX12_sure_2 : decode cX12_sure 2 = .ok (.iconst 1, 1) := by decide +kernel
theorem dX12_sure_3 : decode cX12_sure 3 = .ok (.invokestatic 371, 3) := by decide +kernel
theorem dX12_sure_6 : decode cX12_sure 6 = .ok (.ifCond .ne 5, 3) := by decide +kernel
theorem dX12_sure_9 : decode cX12_sure 9 = .ok (.iconst (-1), 1) := by decide +kernel
theorem dX12_sure_10 : decode cX12_sure 10 = .ok (.ireturn, 1) := by decide +kernel
theorem dX12_sure_11 : decode cX12_sure 11 = .ok (.iconst (-1), 1) := by decide +kernel
theorem dX12_sure_12 : decode cX12_sure 12 = .ok (.istore_n 3, 1) := by decide +kernel
theorem dX12_sure_13 : decode cX12_sure 13 = .ok (.iconst 1, 1) := by decide +kernel
theorem dX12_sure_14 : decode cX12_sure 14 = .ok (.istore 4, 2) := by decide +kernel
theorem dX12_sure_16 : decode cX12_sure 16 = .ok (.iload 4, 2) := by decide +kernel
theorem dX12_sure_18 : decode cX12_sure 18 = .ok (.bipush 8, 2) := by decide +kernel
theorem dX12_sure_20 : decode cX12_sure 20 = .ok (.if_icmp .gt 72, 3) := by decide +kernel
theorem dX12_sure_23 : decode cX12_sure 23 = .ok (.iconst 1, 1) := by decide +kernel
theorem dX12_sure_24 : decode cX12_sure 24 = .ok (.istore 5, 2) := by decide +kernel
theorem dX12_sure_26 : decode cX12_sure 26 = .ok (.iload 5, 2) := by decide +kernel
theorem dX12_sure_28 : decode cX12_sure 28 = .ok (.bipush 8, 2) := by decide +kernel
theorem dX12_sure_30 : decode cX12_sure 30 = .ok (.if_icmp .gt 56, 3) := by decide +kernel
theorem dX12_sure_33 : decode cX12_sure 33 = .ok (.aload_n 0, 1) := by decide +kernel
theorem dX12_sure_34 : decode cX12_sure 34 = .ok (.iload 4, 2) := by decide +kernel
theorem dX12_sure_36 : decode cX12_sure 36 = .ok (.iload 5, 2) := by decide +kernel
theorem dX12_sure_38 : decode cX12_sure 38 = .ok (.iload_n 2, 1) := by decide +kernel
theorem dX12_sure_39 : decode cX12_sure 39 = .ok (.invokevirtual 512, 3) := by decide +kernel
theorem dX12_sure_42 : decode cX12_sure 42 = .ok (.ifCond .ne 6, 3) := by decide +kernel
theorem dX12_sure_45 : decode cX12_sure 45 = .ok (.goto 35, 3) := by decide +kernel
theorem dX12_sure_48 : decode cX12_sure 48 = .ok (.iload_n 1, 1) := by decide +kernel
theorem dX12_sure_49 : decode cX12_sure 49 = .ok (.ifCond .ne 8, 3) := by decide +kernel
theorem dX12_sure_52 : decode cX12_sure 52 = .ok (.iload 4, 2) := by decide +kernel
theorem dX12_sure_54 : decode cX12_sure 54 = .ok (.goto 5, 3) := by decide +kernel
theorem dX12_sure_57 : decode cX12_sure 57 = .ok (.iload 5, 2) := by decide +kernel
theorem dX12_sure_59 : decode cX12_sure 59 = .ok (.istore 6, 2) := by decide +kernel
theorem dX12_sure_61 : decode cX12_sure 61 = .ok (.iload_n 3, 1) := by decide +kernel
theorem dX12_sure_62 : decode cX12_sure 62 = .ok (.iconst (-1), 1) := by decide +kernel
theorem dX12_sure_63 : decode cX12_sure 63 = .ok (.if_icmp .eq 9, 3) := by decide +kernel
theorem dX12_sure_66 : decode cX12_sure 66 = .ok (.iload_n 3, 1) := by decide +kernel
theorem dX12_sure_67 : decode cX12_sure 67 = .ok (.iload 6, 2) := by decide +kernel
theorem dX12_sure_69 : decode cX12_sure 69 = .ok (.if_icmp .ne 8, 3) := by decide +kernel
theorem dX12_sure_72 : decode cX12_sure 72 = .ok (.iload 6, 2) := by decide +kernel
theorem dX12_sure_74 : decode cX12_sure 74 = .ok (.goto 5, 3) := by decide +kernel
theorem dX12_sure_77 : decode cX12_sure 77 = .ok (.bipush (-2), 2) := by decide +kernel
theorem dX12_sure_79 : decode cX12_sure 79 = .ok (.istore_n 3, 1) := by decide +kernel
theorem dX12_sure_80 : decode cX12_sure 80 = .ok (.iinc 5 1, 3) := by decide +kernel
theorem dX12_sure_83 : decode cX12_sure 83 = .ok (.goto (-57), 3) := by decide +kernel
theorem dX12_sure_86 : decode cX12_sure 86 = .ok (.iinc 4 1, 3) := by decide +kernel
theorem dX12_sure_89 : decode cX12_sure 89 = .ok (.goto (-73), 3) := by decide +kernel
theorem dX12_sure_92 : decode cX12_sure 92 = .ok (.iload_n 3, 1) := by decide +kernel
theorem dX12_sure_93 : decode cX12_sure 93 = .ok (.ireturn, 1) := by decide +kernel
set_option maxRecDepth 20000 in
theorem ggX12_leftBy_X12_isFit : GoodIn wsX12_leftBy wsX12_isFit := goodIn_r _ [5, 6, 7, 8, 9, 10, 11, 12, 13, 4, 14, 15, 16, 17, 18, 19, 20, 21, 22, 23, 24, 25, 26, 27, 28, 29, 30, 31, 32, 33, 34, 35, 36, 37, 38, 39, 40, 41, 42, 43, 44, 45, 46, 47, 48, 49, 50, 51, 52, 53, 54, 55, 56, 57, 58, 59, 60, 61, 62, 63, 64, 65, 66, 67, 68, 69, 70, 71, 72, 73, 74, 75, 76, 77, 78, 79, 80, 81, 82, 83, 84, 85, 86, 87, 88, 89, 90, 91, 92, 93, 94, 95, 96, 97, 98, 99, 100, 101, 102, 103, 104, 105, 106, 107, 108] (by decide +kernel) (by decide +kernel)
set_option maxRecDepth 20000 in
theorem gX12_leftBy_X12_isFit : GoodIn wsX12_leftBy (wsV RX12 512 RX12 yX12_isFit wsX12_isFit) := goodIn_app (goodIn_of _ (by decide +kernel)) ggX12_leftBy_X12_isFit
set_option maxRecDepth 20000 in
theorem ggX12_leftBy_X12_hasIcing : GoodIn wsX12_leftBy wsX12_hasIcing := goodIn_r _ [26, 27, 28, 29, 4, 30, 15, 16, 31, 32, 33, 34, 35, 36, 37, 38, 39, 40, 41, 42, 43, 44, 45, 46, 47, 48, 49, 50, 51, 52, 53, 54, 55, 56, 57, 58, 59, 60, 61, 62, 63, 64, 65, 66, 67, 68, 69, 70, 71, 72, 73, 74, 75, 76, 77, 78, 79, 80, 81, 82, 83, 84, 85, 86, 87, 88, 89, 90, 91, 92, 93, 94, 95, 96, 97, 98, 99, 100, 101, 102, 103, 104, 105, 106, 107, 108] (by decide +kernel) (by decide +kernel)
set_option maxRecDepth 20000 in
theorem gX12_leftBy_X12_hasIcing : GoodIn wsX12_leftBy (wsV RX12 506 RX12 yX12_hasIcing wsX12_hasIcing) := goodIn_app (goodIn_of _ (by decide +kernel)) ggX12_leftBy_X12_hasIcing
theorem dX12_leftBy_0 : decode cX12_leftBy 0 = .ok (.iconst 0, 1) := by decide +kernel
theorem dX12_leftBy_1 : decode cX12_leftBy 1 = .ok (.istore_n 3, 1) := by decide +kernel
theorem dX12_leftBy_2 : decode cX12_leftBy 2 = .ok (.iconst 0, 1) := by decide +kernel
theorem dX12_leftBy_3 : decode cX12_leftBy 3 = .ok (.istore 4, 2) := by decide +kernel
theorem dX12_leftBy_5 : decode cX12_leftBy 5 = .ok (.iconst 1, 1) := by decide +kernel
theorem dX12_leftBy_6 : decode cX12_leftBy 6 = .ok (.istore 5, 2) := by decide +kernel
theorem dX12_leftBy_8 : decode cX12_leftBy 8 = .ok (.iload 5, 2) := by decide +kernel
theorem dX12_leftBy_10 : decode cX12_leftBy 10 = .ok (.bipush 8, 2) := by decide +kernel
theorem dX12_leftBy_12 : decode cX12_leftBy 12 = .ok (.if_icmp .gt 61, 3) := by decide +kernel
theorem dX12_leftBy_15 : decode cX12_leftBy 15 = .ok (.iconst 1, 1) := by decide +kernel
theorem dX12_leftBy_16 : decode cX12_leftBy 16 = .ok (.istore 6, 2) := by decide +kernel
theorem dX12_leftBy_18 : decode cX12_leftBy 18 = .ok (.iload 6, 2) := by decide +kernel
theorem dX12_leftBy_20 : decode cX12_leftBy 20 = .ok (.bipush 8, 2) := by decide +kernel
theorem dX12_leftBy_22 : decode cX12_leftBy 22 = .ok (.if_icmp .gt 45, 3) := by decide +kernel
theorem dX12_leftBy_25 : decode cX12_leftBy 25 = .ok (.aload_n 0, 1) := by decide +kernel
theorem dX12_leftBy_26 : decode cX12_leftBy 26 = .ok (.iload 5, 2) := by decide +kernel
theorem dX12_leftBy_28 : decode cX12_leftBy 28 = .ok (.iload 6, 2) := by decide +kernel
theorem dX12_leftBy_30 : decode cX12_leftBy 30 = .ok (.iload_n 2, 1) := by decide +kernel
theorem dX12_leftBy_31 : decode cX12_leftBy 31 = .ok (.invokevirtual 512, 3) := by decide +kernel
theorem dX12_leftBy_34 : decode cX12_leftBy 34 = .ok (.ifCond .ne 6, 3) := by decide +kernel
theorem dX12_leftBy_37 : decode cX12_leftBy 37 = .ok (.goto 24, 3) := by decide +kernel
theorem dX12_leftBy_40 : decode cX12_leftBy 40 = .ok (.aload_n 0, 1) := by decide +kernel
theorem dX12_leftBy_41 : decode cX12_leftBy 41 = .ok (.iload 5, 2) := by decide +kernel
theorem dX12_leftBy_43 : decode cX12_leftBy 43 = .ok (.iload 6, 2) := by decide +kernel
theorem dX12_leftBy_45 : decode cX12_leftBy 45 = .ok (.iload_n 1, 1) := by decide +kernel
theorem dX12_leftBy_46 : decode cX12_leftBy 46 = .ok (.invokevirtual 506, 3) := by decide +kernel
theorem dX12_leftBy_49 : decode cX12_leftBy 49 = .ok (.ifCond .eq 9, 3) := by decide +kernel
theorem dX12_leftBy_52 : decode cX12_leftBy 52 = .ok (.iinc 3 1, 3) := by decide +kernel
theorem dX12_leftBy_55 : decode cX12_leftBy 55 = .ok (.goto 6, 3) := by decide +kernel
theorem dX12_leftBy_58 : decode cX12_leftBy 58 = .ok (.iinc 4 1, 3) := by decide +kernel
theorem dX12_leftBy_61 : decode cX12_leftBy 61 = .ok (.iinc 6 1, 3) := by decide +kernel
theorem dX12_leftBy_64 : decode cX12_leftBy 64 = .ok (.goto (-46), 3) := by decide +kernel
theorem dX12_leftBy_67 : decode cX12_leftBy 67 = .ok (.iinc 5 1, 3) := by decide +kernel
theorem dX12_leftBy_70 : decode cX12_leftBy 70 = .ok (.goto (-62), 3) := by decide +kernel
theorem dX12_leftBy_73 : decode cX12_leftBy 73 = .ok (.iload_n 3, 1) := by decide +kernel
theorem dX12_leftBy_74 : decode cX12_leftBy 74 = .ok (.iload 4, 2) := by decide +kernel
theorem dX12_leftBy_76 : decode cX12_leftBy 76 = .ok (.if_icmp .le 7, 3) := by decide +kernel
theorem dX12_leftBy_79 : decode cX12_leftBy 79 = .ok (.iload_n 3, 1) := by decide +kernel
theorem dX12_leftBy_80 : decode cX12_leftBy 80 = .ok (.goto 5, 3) := by decide +kernel
theorem dX12_leftBy_83 : decode cX12_leftBy 83 = .ok (.iload 4, 2) := by decide +kernel
theorem dX12_leftBy_85 : decode cX12_leftBy 85 = .ok (.ireturn, 1) := by decide +kernel
set_option maxRecDepth 20000 in
theorem ggX12_ask_X12_isIn : GoodIn wsX12_ask wsX12_isIn := goodIn_r _ [4] (by decide +kernel) (by decide +kernel)
set_option maxRecDepth 20000 in
theorem gX12_ask_X12_isIn : GoodIn wsX12_ask (va_wsS RX12 371 yX12_isIn wsX12_isIn) := goodIn_app (goodIn_of _ (by decide +kernel)) ggX12_ask_X12_isIn
set_option maxRecDepth 20000 in
theorem ggX12_ask_X12_fits : GoodIn wsX12_ask wsX12_fits := goodIn_r _ [8, 9, 10, 11, 3, 12, 13, 14, 15, 16, 17, 18, 19, 20, 21, 22, 23, 24, 25, 26, 27, 28, 29, 30, 31, 32, 33, 34, 35, 36, 37, 38, 39, 40, 45, 46, 47, 48, 49, 50, 51, 52, 53, 54, 55, 56, 57, 58, 59, 60, 61, 62, 63, 64, 65, 66, 67, 68, 69, 70, 71, 72, 73, 74, 75, 76, 77, 78, 79, 80, 81, 82, 83, 84, 85, 86, 87, 88, 89, 90, 91, 92, 93, 94, 95, 96, 97, 98, 99, 100, 101, 102, 103, 104, 105, 106, 107, 108, 109, 110, 111, 112, 113, 114, 115, 116, 117, 118, 119] (by decide +kernel) (by decide +kernel)
set_option maxRecDepth 20000 in
theorem gX12_ask_X12_fits : GoodIn wsX12_ask (wsV RX12 515 RX12 yX12_fits wsX12_fits) := goodIn_app (goodIn_of _ (by decide +kernel)) ggX12_ask_X12_fits
set_option maxRecDepth 20000 in
theorem ggX12_ask_X12_leftBy : GoodIn wsX12_ask wsX12_leftBy := goodIn_r _ [44, 9, 10, 11, 3, 12, 13, 14, 15, 16, 17, 18, 19, 20, 21, 22, 23, 24, 25, 26, 27, 28, 29, 30, 31, 32, 33, 34, 35, 36, 37, 38, 39, 40, 45, 46, 47, 48, 49, 50, 51, 52, 53, 54, 55, 56, 57, 58, 59, 60, 61, 62, 63, 64, 65, 66, 67, 68, 69, 70, 71, 72, 73, 74, 75, 76, 77, 78, 79, 80, 81, 82, 83, 84, 85, 86, 87, 88, 89, 90, 91, 92, 93, 94, 95, 96, 97, 98, 99, 100, 101, 102, 103, 104, 105, 106, 107, 108, 109, 110, 111, 112, 113, 114, 115, 116, 117, 118, 119] (by decide +kernel) (by decide +kernel)
set_option maxRecDepth 20000 in
theorem gX12_ask_X12_leftBy : GoodIn wsX12_ask (wsV RX12 518 RX12 yX12_leftBy wsX12_leftBy) := goodIn_app (goodIn_of _ (by decide +kernel)) ggX12_ask_X12_leftBy
theorem dX12_ask_0 : decode cX12_ask 0 = .ok (.iload_n 1, 1) := by decide +kernel
theorem dX12_ask_1 : decode cX12_ask 1 = .ok (.iconst 0, 1) := by decide +kernel
theorem dX12_ask_2 : decode cX12_ask 2 = .ok (.iconst 1, 1) := by decide +kernel
theorem dX12_ask_3 : decode cX12_ask 3 = .ok (.invokestatic 371, 3) := by decide +kernel
theorem dX12_ask_6 : decode cX12_ask 6 = .ok (.ifCond .eq 11, 3) := by decide +kernel
theorem dX12_ask_9 : decode cX12_ask 9 = .ok (.aload_n 0, 1) := by decide +kernel
theorem dX12_ask_10 : decode cX12_ask 10 = .ok (.iload_n 2, 1) := by decide +kernel
theorem dX12_ask_11 : decode cX12_ask 11 = .ok (.invokevirtual 515, 3) := by decide +kernel
theorem dX12_ask_14 : decode cX12_ask 14 = .ok (.ifCond .ne 5, 3) := by decide +kernel
theorem dX12_ask_17 : decode cX12_ask 17 = .ok (.iconst (-1), 1) := by decide +kernel
theorem dX12_ask_18 : decode cX12_ask 18 = .ok (.ireturn, 1) := by decide +kernel
theorem dX12_ask_19 : decode cX12_ask 19 = .ok (.iconst 0, 1) := by decide +kernel
theorem dX12_ask_20 : decode cX12_ask 20 = .ok (.istore_n 3, 1) := by decide +kernel
theorem dX12_ask_21 : decode cX12_ask 21 = .ok (.iconst 1, 1) := by decide +kernel
theorem dX12_ask_22 : decode cX12_ask 22 = .ok (.istore 4, 2) := by decide +kernel
theorem dX12_ask_24 : decode cX12_ask 24 = .ok (.iload 4, 2) := by decide +kernel
theorem dX12_ask_26 : decode cX12_ask 26 = .ok (.bipush 32, 2) := by decide +kernel
theorem dX12_ask_28 : decode cX12_ask 28 = .ok (.if_icmp .gt 32, 3) := by decide +kernel
theorem dX12_ask_31 : decode cX12_ask 31 = .ok (.aload_n 0, 1) := by decide +kernel
theorem dX12_ask_32 : decode cX12_ask 32 = .ok (.iload 4, 2) := by decide +kernel
theorem dX12_ask_34 : decode cX12_ask 34 = .ok (.iload_n 2, 1) := by decide +kernel
theorem dX12_ask_35 : decode cX12_ask 35 = .ok (.invokevirtual 518, 3) := by decide +kernel
theorem dX12_ask_38 : decode cX12_ask 38 = .ok (.aload_n 0, 1) := by decide +kernel
theorem dX12_ask_39 : decode cX12_ask 39 = .ok (.iload_n 3, 1) := by decide +kernel
theorem dX12_ask_40 : decode cX12_ask 40 = .ok (.iload_n 2, 1) := by decide +kernel
theorem dX12_ask_41 : decode cX12_ask 41 = .ok (.invokevirtual 518, 3) := by decide +kernel
theorem dX12_ask_44 : decode cX12_ask 44 = .ok (.if_icmp .ge 8, 3) := by decide +kernel
theorem dX12_ask_47 : decode cX12_ask 47 = .ok (.iload 4, 2) := by decide +kernel
theorem dX12_ask_49 : decode cX12_ask 49 = .ok (.goto 4, 3) := by decide +kernel
theorem dX12_ask_52 : decode cX12_ask 52 = .ok (.iload_n 3, 1) := by decide +kernel
theorem dX12_ask_53 : decode cX12_ask 53 = .ok (.istore_n 3, 1) := by decide +kernel
theorem dX12_ask_54 : decode cX12_ask 54 = .ok (.iinc 4 1, 3) := by decide +kernel
theorem dX12_ask_57 : decode cX12_ask 57 = .ok (.goto (-33), 3) := by decide +kernel
theorem dX12_ask_60 : decode cX12_ask 60 = .ok (.iload_n 1, 1) := by decide +kernel
theorem dX12_ask_61 : decode cX12_ask 61 = .ok (.ifCond .ne 7, 3) := by decide +kernel
theorem dX12_ask_64 : decode cX12_ask 64 = .ok (.iload_n 3, 1) := by decide +kernel
theorem dX12_ask_65 : decode cX12_ask 65 = .ok (.goto 9, 3) := by decide +kernel
theorem dX12_ask_68 : decode cX12_ask 68 = .ok (.aload_n 0, 1) := by decide +kernel
theorem dX12_ask_69 : decode cX12_ask 69 = .ok (.iload_n 3, 1) := by decide +kernel
theorem dX12_ask_70 : decode cX12_ask 70 = .ok (.iload_n 2, 1) := by decide +kernel
theorem dX12_ask_71 : decode cX12_ask 71 = .ok (.invokevirtual 518, 3) := by decide +kernel
theorem dX12_ask_74 : decode cX12_ask 74 = .ok (.ireturn, 1) := by decide +kernel
theorem dX12_isBox_0 : decode cX12_isBox 0 = .ok (.iload_n 0, 1) := by decide +kernel
theorem dX12_isBox_1 : decode cX12_isBox 1 = .ok (.ifCond .lt 12, 3) := by decide +kernel
theorem dX12_isBox_4 : decode cX12_isBox 4 = .ok (.iload_n 0, 1) := by decide +kernel
theorem dX12_isBox_5 : decode cX12_isBox 5 = .ok (.iconst 3, 1) := by decide +kernel
theorem dX12_isBox_6 : decode cX12_isBox 6 = .ok (.if_icmp .ge 7, 3) := by decide +kernel
theorem dX12_isBox_9 : decode cX12_isBox 9 = .ok (.iconst 1, 1) := by decide +kernel
theorem dX12_isBox_10 : decode cX12_isBox 10 = .ok (.goto 4, 3) := by decide +kernel
theorem dX12_isBox_13 : decode cX12_isBox 13 = .ok (.iconst 0, 1) := by decide +kernel
theorem dX12_isBox_14 : decode cX12_isBox 14 = .ok (.ireturn, 1) := by decide +kernel
set_option maxRecDepth 20000 in
theorem ggX12_image_X12_isBox : GoodIn wsX12_image wsX12_isBox := goodIn_r _ [7] (by decide +kernel) (by decide +kernel)
set_option maxRecDepth 20000 in
theorem gX12_image_X12_isBox : GoodIn wsX12_image (va_wsS RX12 521 yX12_isBox wsX12_isBox) := goodIn_app (goodIn_of _ (by decide +kernel)) ggX12_image_X12_isBox
theorem dX12_image_0 : decode cX12_image 0 = .ok (.iload_n 1, 1) := by decide +kernel
theorem dX12_image_1 : decode cX12_image 1 = .ok (.invokestatic 521, 3) := by decide +kernel
theorem dX12_image_4 : decode cX12_image 4 = .ok (.ifCond .ne 5, 3) := by decide +kernel
theorem dX12_image_7 : decode cX12_image 7 = .ok (.iconst (-1), 1) := by decide +kernel
theorem dX12_image_8 : decode cX12_image 8 = .ok (.ireturn, 1) := by decide +kernel
theorem dX12_image_9 : decode cX12_image 9 = .ok (.aload_n 0, 1) := by decide +kernel
theorem dX12_image_10 : decode cX12_image 10 = .ok (.getfield 133, 3) := by decide +kernel
theorem dX12_image_13 : decode cX12_image 13 = .ok (.iload_n 1, 1) := by decide +kernel
theorem dX12_image_14 : decode cX12_image 14 = .ok (.iconst 1, 1) := by decide +kernel
theorem dX12_image_15 : decode cX12_image 15 = .ok (.bastore, 1) := by decide +kernel
theorem dX12_image_16 : decode cX12_image 16 = .ok (.iconst 0, 1) := by decide +kernel
theorem dX12_image_17 : decode cX12_image 17 = .ok (.istore_n 2, 1) := by decide +kernel
theorem dX12_image_18 : decode cX12_image 18 = .ok (.iload_n 2, 1) := by decide +kernel
theorem dX12_image_19 : decode cX12_image 19 = .ok (.sipush 171, 3) := by decide +kernel
theorem dX12_image_22 : decode cX12_image 22 = .ok (.if_icmp .ge 27, 3) := by decide +kernel
theorem dX12_image_25 : decode cX12_image 25 = .ok (.aload_n 0, 1) := by decide +kernel
theorem dX12_image_26 : decode cX12_image 26 = .ok (.getfield 136, 3) := by decide +kernel
theorem dX12_image_29 : decode cX12_image 29 = .ok (.sipush 171, 3) := by decide +kernel
theorem dX12_image_32 : decode cX12_image 32 = .ok (.iload_n 1, 1) := by decide +kernel
theorem dX12_image_33 : decode cX12_image 33 = .ok (.imul, 1) := by decide +kernel
theorem dX12_image_34 : decode cX12_image 34 = .ok (.iload_n 2, 1) := by decide +kernel
theorem dX12_image_35 : decode cX12_image 35 = .ok (.iadd, 1) := by decide +kernel
theorem dX12_image_36 : decode cX12_image 36 = .ok (.aload_n 0, 1) := by decide +kernel
theorem dX12_image_37 : decode cX12_image 37 = .ok (.getfield 91, 3) := by decide +kernel
theorem dX12_image_40 : decode cX12_image 40 = .ok (.iload_n 2, 1) := by decide +kernel
theorem dX12_image_41 : decode cX12_image 41 = .ok (.iaload, 1) := by decide +kernel
theorem dX12_image_42 : decode cX12_image 42 = .ok (.iastore, 1) := by decide +kernel
theorem dX12_image_43 : decode cX12_image 43 = .ok (.iinc 2 1, 3) := by decide +kernel
theorem dX12_image_46 : decode cX12_image 46 = .ok (.goto (-28), 3) := by decide +kernel
theorem dX12_image_49 : decode cX12_image 49 = .ok (.aload_n 0, 1) := by decide +kernel
theorem dX12_image_50 : decode cX12_image 50 = .ok (.getfield 91, 3) := by decide +kernel
theorem dX12_image_53 : decode cX12_image 53 = .ok (.sipush 168, 3) := by decide +kernel
theorem dX12_image_56 : decode cX12_image 56 = .ok (.iaload, 1) := by decide +kernel
theorem dX12_image_57 : decode cX12_image 57 = .ok (.ireturn, 1) := by decide +kernel
set_option maxRecDepth 20000 in
theorem ggX12_restore_X12_isBox : GoodIn wsX12_restore wsX12_isBox := goodIn_r _ [9] (by decide +kernel) (by decide +kernel)
set_option maxRecDepth 20000 in
theorem gX12_restore_X12_isBox : GoodIn wsX12_restore (va_wsS RX12 521 yX12_isBox wsX12_isBox) := goodIn_app (goodIn_of _ (by decide +kernel)) ggX12_restore_X12_isBox
theorem dX12_restore_0 : decode cX12_restore 0 = .ok (.iload_n 1, 1) := by decide +kernel
theorem dX12_restore_1 : decode cX12_restore 1 = .ok (.invokestatic 521, 3) := by decide +kernel
theorem dX12_restore_4 : decode cX12_restore 4 = .ok (.ifCond .eq 12, 3) := by decide +kernel
theorem dX12_restore_7 : decode cX12_restore 7 = .ok (.aload_n 0, 1) := by decide +kernel
theorem dX12_restore_8 : decode cX12_restore 8 = .ok (.getfield 133, 3) := by decide +kernel
theorem dX12_restore_11 : decode cX12_restore 11 = .ok (.iload_n 1, 1) := by decide +kernel
theorem dX12_restore_12 : decode cX12_restore 12 = .ok (.baload, 1) := by decide +kernel
theorem dX12_restore_13 : decode cX12_restore 13 = .ok (.ifCond .ne 5, 3) := by decide +kernel
theorem dX12_restore_16 : decode cX12_restore 16 = .ok (.iconst (-1), 1) := by decide +kernel
theorem dX12_restore_17 : decode cX12_restore 17 = .ok (.ireturn, 1) := by decide +kernel
theorem dX12_restore_18 : decode cX12_restore 18 = .ok (.iconst 0, 1) := by decide +kernel
theorem dX12_restore_19 : decode cX12_restore 19 = .ok (.istore_n 2, 1) := by decide +kernel
theorem dX12_restore_20 : decode cX12_restore 20 = .ok (.iload_n 2, 1) := by decide +kernel
theorem dX12_restore_21 : decode cX12_restore 21 = .ok (.sipush 171, 3) := by decide +kernel
theorem dX12_restore_24 : decode cX12_restore 24 = .ok (.if_icmp .ge 27, 3) := by decide +kernel
theorem dX12_restore_27 : decode cX12_restore 27 = .ok (.aload_n 0, 1) := by decide +kernel
theorem dX12_restore_28 : decode cX12_restore 28 = .ok (.getfield 91, 3) := by decide +kernel
theorem dX12_restore_31 : decode cX12_restore 31 = .ok (.iload_n 2, 1) := by decide +kernel
theorem dX12_restore_32 : decode cX12_restore 32 = .ok (.aload_n 0, 1) := by decide +kernel
theorem dX12_restore_33 : decode cX12_restore 33 = .ok (.getfield 136, 3) := by decide +kernel
theorem dX12_restore_36 : decode cX12_restore 36 = .ok (.sipush 171, 3) := by decide +kernel
theorem dX12_restore_39 : decode cX12_restore 39 = .ok (.iload_n 1, 1) := by decide +kernel
theorem dX12_restore_40 : decode cX12_restore 40 = .ok (.imul, 1) := by decide +kernel
theorem dX12_restore_41 : decode cX12_restore 41 = .ok (.iload_n 2, 1) := by decide +kernel
theorem dX12_restore_42 : decode cX12_restore 42 = .ok (.iadd, 1) := by decide +kernel
theorem dX12_restore_43 : decode cX12_restore 43 = .ok (.iaload, 1) := by decide +kernel
theorem dX12_restore_44 : decode cX12_restore 44 = .ok (.iastore, 1) := by decide +kernel
theorem dX12_restore_45 : decode cX12_restore 45 = .ok (.iinc 2 1, 3) := by decide +kernel
theorem dX12_restore_48 : decode cX12_restore 48 = .ok (.goto (-28), 3) := by decide +kernel
theorem dX12_restore_51 : decode cX12_restore 51 = .ok (.aload_n 0, 1) := by decide +kernel
theorem dX12_restore_52 : decode cX12_restore 52 = .ok (.iconst 0, 1) := by decide +kernel
theorem dX12_restore_53 : decode cX12_restore 53 = .ok (.putfield 359, 3) := by decide +kernel
theorem dX12_restore_56 : decode cX12_restore 56 = .ok (.aload_n 0, 1) := by decide +kernel
theorem dX12_restore_57 : decode cX12_restore 57 = .ok (.iconst 0, 1) := by decide +kernel
theorem dX12_restore_58 : decode cX12_restore 58 = .ok (.putfield 362, 3) := by decide +kernel
theorem dX12_restore_61 : decode cX12_restore 61 = .ok (.aload_n 0, 1) := by decide +kernel
theorem dX12_restore_62 : decode cX12_restore 62 = .ok (.getfield 91, 3) := by decide +kernel
theorem dX12_restore_65 : decode cX12_restore 65 = .ok (.sipush 168, 3) := by decide +kernel
theorem dX12_restore_68 : decode cX12_restore 68 = .ok (.iaload, 1) := by decide +kernel
theorem dX12_restore_69 : decode cX12_restore 69 = .ok (.ireturn, 1) := by decide +kernel
theorem dX12_brokenOnes_0 : decode cX12_brokenOnes 0 = .ok (.iconst 0, 1) := by decide +kernel
theorem dX12_brokenOnes_1 : decode cX12_brokenOnes 1 = .ok (.istore_n 1, 1) := by decide +kernel
theorem dX12_brokenOnes_2 : decode cX12_brokenOnes 2 = .ok (.iconst 0, 1) := by decide +kernel
theorem dX12_brokenOnes_3 : decode cX12_brokenOnes 3 = .ok (.istore_n 2, 1) := by decide +kernel
theorem dX12_brokenOnes_4 : decode cX12_brokenOnes 4 = .ok (.iload_n 2, 1) := by decide +kernel
theorem dX12_brokenOnes_5 : decode cX12_brokenOnes 5 = .ok (.aload_n 0, 1) := by decide +kernel
theorem dX12_brokenOnes_6 : decode cX12_brokenOnes 6 = .ok (.getfield 91, 3) := by decide +kernel
theorem dX12_brokenOnes_9 : decode cX12_brokenOnes 9 = .ok (.sipush 168, 3) := by decide +kernel
theorem dX12_brokenOnes_12 : decode cX12_brokenOnes 12 = .ok (.iaload, 1) := by decide +kernel
theorem dX12_brokenOnes_13 : decode cX12_brokenOnes 13 = .ok (.if_icmp .ge 25, 3) := by decide +kernel
theorem dX12_brokenOnes_16 : decode cX12_brokenOnes 16 = .ok (.iload_n 1, 1) := by decide +kernel
theorem dX12_brokenOnes_17 : decode cX12_brokenOnes 17 = .ok (.aload_n 0, 1) := by decide +kernel
theorem dX12_brokenOnes_18 : decode cX12_brokenOnes 18 = .ok (.getfield 91, 3) := by decide +kernel
theorem dX12_brokenOnes_21 : decode cX12_brokenOnes 21 = .ok (.bipush 7, 2) := by decide +kernel
theorem dX12_brokenOnes_23 : decode cX12_brokenOnes 23 = .ok (.iload_n 2, 1) := by decide +kernel
theorem dX12_brokenOnes_24 : decode cX12_brokenOnes 24 = .ok (.imul, 1) := by decide +kernel
theorem dX12_brokenOnes_25 : decode cX12_brokenOnes 25 = .ok (.iconst 5, 1) := by decide +kernel
theorem dX12_brokenOnes_26 : decode cX12_brokenOnes 26 = .ok (.iadd, 1) := by decide +kernel
theorem dX12_brokenOnes_27 : decode cX12_brokenOnes 27 = .ok (.iaload, 1) := by decide +kernel
theorem dX12_brokenOnes_28 : decode cX12_brokenOnes 28 = .ok (.iload_n 2, 1) := by decide +kernel
theorem dX12_brokenOnes_29 : decode cX12_brokenOnes 29 = .ok (.ishl, 1) := by decide +kernel
theorem dX12_brokenOnes_30 : decode cX12_brokenOnes 30 = .ok (.ior, 1) := by decide +kernel
theorem dX12_brokenOnes_31 : decode cX12_brokenOnes 31 = .ok (.istore_n 1, 1) := by decide +kernel
theorem dX12_brokenOnes_32 : decode cX12_brokenOnes 32 = .ok (.iinc 2 1, 3) := by decide +kernel
theorem dX12_brokenOnes_35 : decode cX12_brokenOnes 35 = .ok (.goto (-31), 3) := by decide +kernel
theorem dX12_brokenOnes_38 : decode cX12_brokenOnes 38 = .ok (.iload_n 1, 1) := by decide +kernel
theorem dX12_brokenOnes_39 : decode cX12_brokenOnes 39 = .ok (.ireturn, 1) := by decide +kernel
set_option maxRecDepth 20000 in
theorem ggX12_about_X12_brokenOnes : GoodIn wsX12_about wsX12_brokenOnes := goodIn_r _ [15, 3, 16, 17, 18, 19, 20, 21, 22, 23, 24, 25, 26, 27, 28, 29, 30, 31, 32, 33, 34, 35, 36, 37, 38, 39, 40, 41, 42, 43, 44, 45, 46, 47, 48, 49, 50, 51, 52, 53, 54, 55, 56, 57, 58, 59, 60, 61, 62, 63, 64, 65, 66, 67, 68, 69, 70, 71, 72, 73, 74, 75, 76, 77, 78, 79, 80, 81, 82, 83, 84, 85, 86, 87, 88, 89, 90] (by decide +kernel) (by decide +kernel)
set_option maxRecDepth 20000 in
theorem gX12_about_X12_brokenOnes : GoodIn wsX12_about (wsV RX12 524 RX12 yX12_brokenOnes wsX12_brokenOnes) := goodIn_app (goodIn_of _ (by decide +kernel)) ggX12_about_X12_brokenOnes
theorem dX12_about_0 : decode cX12_about 0 = .ok (.iload_n 1, 1) := by decide +kernel
theorem dX12_about_1 : decode cX12_about 1 = .ok (.tableswitch 144 0 12 #[67, 72, 77, 86, 95, 104, 109, 114, 119, 124, 129, 134, 139], 67) := by decide +kernel
theorem dX12_about_68 : decode cX12_about 68 = .ok (.aload_n 0, 1) := by decide +kernel
theorem dX12_about_69 : decode cX12_about 69 = .ok (.getfield 350, 3) := by decide +kernel
theorem dX12_about_72 : decode cX12_about 72 = .ok (.ireturn, 1) := by decide +kernel
theorem dX12_about_73 : decode cX12_about 73 = .ok (.aload_n 0, 1) := by decide +kernel
theorem dX12_about_74 : decode cX12_about 74 = .ok (.getfield 353, 3) := by decide +kernel
theorem dX12_about_77 : decode cX12_about 77 = .ok (.ireturn, 1) := by decide +kernel
theorem dX12_about_78 : decode cX12_about 78 = .ok (.aload_n 0, 1) := by decide +kernel
theorem dX12_about_79 : decode cX12_about 79 = .ok (.getfield 91, 3) := by decide +kernel
theorem dX12_about_82 : decode cX12_about 82 = .ok (.sipush 168, 3) := by decide +kernel
theorem dX12_about_85 : decode cX12_about 85 = .ok (.iaload, 1) := by decide +kernel
theorem dX12_about_86 : decode cX12_about 86 = .ok (.ireturn, 1) := by decide +kernel
theorem dX12_about_87 : decode cX12_about 87 = .ok (.aload_n 0, 1) := by decide +kernel
theorem dX12_about_88 : decode cX12_about 88 = .ok (.getfield 91, 3) := by decide +kernel
theorem dX12_about_91 : decode cX12_about 91 = .ok (.sipush 169, 3) := by decide +kernel
theorem dX12_about_94 : decode cX12_about 94 = .ok (.iaload, 1) := by decide +kernel
theorem dX12_about_95 : decode cX12_about 95 = .ok (.ireturn, 1) := by decide +kernel
theorem dX12_about_96 : decode cX12_about 96 = .ok (.aload_n 0, 1) := by decide +kernel
theorem dX12_about_97 : decode cX12_about 97 = .ok (.getfield 91, 3) := by decide +kernel
theorem dX12_about_100 : decode cX12_about 100 = .ok (.sipush 170, 3) := by decide +kernel
theorem dX12_about_103 : decode cX12_about 103 = .ok (.iaload, 1) := by decide +kernel
theorem dX12_about_104 : decode cX12_about 104 = .ok (.ireturn, 1) := by decide +kernel
theorem dX12_about_105 : decode cX12_about 105 = .ok (.aload_n 0, 1) := by decide +kernel
theorem dX12_about_106 : decode cX12_about 106 = .ok (.invokevirtual 524, 3) := by decide +kernel
theorem dX12_about_109 : decode cX12_about 109 = .ok (.ireturn, 1) := by decide +kernel
theorem dX12_about_110 : decode cX12_about 110 = .ok (.aload_n 0, 1) := by decide +kernel
theorem dX12_about_111 : decode cX12_about 111 = .ok (.getfield 359, 3) := by decide +kernel
theorem dX12_about_114 : decode cX12_about 114 = .ok (.ireturn, 1) := by decide +kernel
theorem dX12_about_115 : decode cX12_about 115 = .ok (.aload_n 0, 1) := by decide +kernel
theorem dX12_about_116 : decode cX12_about 116 = .ok (.getfield 362, 3) := by decide +kernel
theorem dX12_about_119 : decode cX12_about 119 = .ok (.ireturn, 1) := by decide +kernel
theorem dX12_about_120 : decode cX12_about 120 = .ok (.aload_n 0, 1) := by decide +kernel
theorem dX12_about_121 : decode cX12_about 121 = .ok (.getfield 365, 3) := by decide +kernel
theorem dX12_about_124 : decode cX12_about 124 = .ok (.ireturn, 1) := by decide +kernel
theorem dX12_about_125 : decode cX12_about 125 = .ok (.aload_n 0, 1) := by decide +kernel
theorem dX12_about_126 : decode cX12_about 126 = .ok (.getfield 498, 3) := by decide +kernel
theorem dX12_about_129 : decode cX12_about 129 = .ok (.ireturn, 1) := by decide +kernel
theorem dX12_about_130 : decode cX12_about 130 = .ok (.aload_n 0, 1) := by decide +kernel
theorem dX12_about_131 : decode cX12_about 131 = .ok (.getfield 139, 3) := by decide +kernel
theorem dX12_about_134 : decode cX12_about 134 = .ok (.ireturn, 1) := by decide +kernel
theorem dX12_about_135 : decode cX12_about 135 = .ok (.aload_n 0, 1) := by decide +kernel
theorem dX12_about_136 : decode cX12_about 136 = .ok (.getfield 356, 3) := by decide +kernel
theorem dX12_about_139 : decode cX12_about 139 = .ok (.ireturn, 1) := by decide +kernel
theorem dX12_about_140 : decode cX12_about 140 = .ok (.aload_n 0, 1) := by decide +kernel
theorem dX12_about_141 : decode cX12_about 141 = .ok (.getfield 368, 3) := by decide +kernel
theorem dX12_about_144 : decode cX12_about 144 = .ok (.ireturn, 1) := by decide +kernel
theorem dX12_about_145 : decode cX12_about 145 = .ok (.iconst (-1), 1) := by decide +kernel
theorem dX12_about_146 : decode cX12_about 146 = .ok (.ireturn, 1) := by decide +kernel
