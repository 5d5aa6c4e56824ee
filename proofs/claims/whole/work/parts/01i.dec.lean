theorem dX12_cut_41 : decode cX12_cut 41 = .ok (.sipush 170, 3) := by decide +kernel
theorem dX12_cut_44 : decode cX12_cut 44 = .ok (.aload_n 0, 1) := by decide +kernel
theorem dX12_cut_45 : decode cX12_cut 45 = .ok (.getfield 94, 3) := by decide +kernel
theorem dX12_cut_48 : decode cX12_cut 48 = .ok (.sipush 170, 3) := by decide +kernel
theorem dX12_cut_51 : decode cX12_cut 51 = .ok (.iaload, 1) := by decide +kernel
theorem dX12_cut_52 : decode cX12_cut 52 = .ok (.sipush 137, 3) := by decide +kernel
theorem dX12_cut_55 : decode cX12_cut 55 = .ok (.imul, 1) := by decide +kernel
theorem dX12_cut_56 : decode cX12_cut 56 = .ok (.bipush 71, 2) := by decide +kernel
theorem dX12_cut_58 : decode cX12_cut 58 = .ok (.iadd, 1) := by decide +kernel
theorem dX12_cut_59 : decode cX12_cut 59 = .ok (.sipush 1000, 3) := by decide +kernel
theorem dX12_cut_62 : decode cX12_cut 62 = .ok (.irem, 1) := by decide +kernel
theorem dX12_cut_63 : decode cX12_cut 63 = .ok (.iastore, 1) := by decide +kernel
theorem dX12_cut_64 : decode cX12_cut 64 = .ok (.aload_n 0, 1) := by decide +kernel
theorem dX12_cut_65 : decode cX12_cut 65 = .ok (.getfield 94, 3) := by decide +kernel
theorem dX12_cut_68 : decode cX12_cut 68 = .ok (.sipush 170, 3) := by decide +kernel
theorem dX12_cut_71 : decode cX12_cut 71 = .ok (.iaload, 1) := by decide +kernel
theorem dX12_cut_72 : decode cX12_cut 72 = .ok (.bipush 100, 2) := by decide +kernel
theorem dX12_cut_74 : decode cX12_cut 74 = .ok (.irem, 1) := by decide +kernel
theorem dX12_cut_75 : decode cX12_cut 75 = .ok (.iload 4, 2) := by decide +kernel
theorem dX12_cut_77 : decode cX12_cut 77 = .ok (.if_icmp .ge 16, 3) := by decide +kernel
theorem dX12_cut_80 : decode cX12_cut 80 = .ok (.aload_n 0, 1) := by decide +kernel
theorem dX12_cut_81 : decode cX12_cut 81 = .ok (.getfield 94, 3) := by decide +kernel
theorem dX12_cut_84 : decode cX12_cut 84 = .ok (.bipush 7, 2) := by decide +kernel
theorem dX12_cut_86 : decode cX12_cut 86 = .ok (.iload 5, 2) := by decide +kernel
theorem dX12_cut_88 : decode cX12_cut 88 = .ok (.imul, 1) := by decide +kernel
theorem dX12_cut_89 : decode cX12_cut 89 = .ok (.iconst 5, 1) := by decide +kernel
theorem dX12_cut_90 : decode cX12_cut 90 = .ok (.iadd, 1) := by decide +kernel
theorem dX12_cut_91 : decode cX12_cut 91 = .ok (.iconst 1, 1) := by decide +kernel
theorem dX12_cut_92 : decode cX12_cut 92 = .ok (.iastore, 1) := by decide +kernel
theorem dX12_cut_93 : decode cX12_cut 93 = .ok (.aload_n 0, 1) := by decide +kernel
theorem dX12_cut_94 : decode cX12_cut 94 = .ok (.getfield 94, 3) := by decide +kernel
theorem dX12_cut_97 : decode cX12_cut 97 = .ok (.sipush 169, 3) := by decide +kernel
theorem dX12_cut_100 : decode cX12_cut 100 = .ok (.dup2, 1) := by decide +kernel
theorem dX12_cut_101 : decode cX12_cut 101 = .ok (.iaload, 1) := by decide +kernel
theorem dX12_cut_102 : decode cX12_cut 102 = .ok (.aload_n 0, 1) := by decide +kernel
theorem dX12_cut_103 : decode cX12_cut 103 = .ok (.getfield 88, 3) := by decide +kernel
theorem dX12_cut_106 : decode cX12_cut 106 = .ok (.iadd, 1) := by decide +kernel
theorem dX12_cut_107 : decode cX12_cut 107 = .ok (.iastore, 1) := by decide +kernel
theorem dX12_cut_108 : decode cX12_cut 108 = .ok (.iconst 0, 1) := by decide +kernel
theorem dX12_cut_109 : decode cX12_cut 109 = .ok (.istore 6, 2) := by decide +kernel
theorem dX12_cut_111 : decode cX12_cut 111 = .ok (.iload 6, 2) := by decide +kernel
theorem dX12_cut_113 : decode cX12_cut 113 = .ok (.sipush 171, 3) := by decide +kernel
theorem dX12_cut_116 : decode cX12_cut 116 = .ok (.if_icmp .ge 23, 3) := by decide +kernel
theorem dX12_cut_119 : decode cX12_cut 119 = .ok (.aload_n 0, 1) := by decide +kernel
theorem dX12_cut_120 : decode cX12_cut 120 = .ok (.getfield 91, 3) := by decide +kernel
theorem dX12_cut_123 : decode cX12_cut 123 = .ok (.iload 6, 2) := by decide +kernel
theorem dX12_cut_125 : decode cX12_cut 125 = .ok (.aload_n 0, 1) := by decide +kernel
theorem dX12_cut_126 : decode cX12_cut 126 = .ok (.getfield 94, 3) := by decide +kernel
theorem dX12_cut_129 : decode cX12_cut 129 = .ok (.iload 6, 2) := by decide +kernel
theorem dX12_cut_131 : decode cX12_cut 131 = .ok (.iaload, 1) := by decide +kernel
theorem dX12_cut_132 : decode cX12_cut 132 = .ok (.iastore, 1) := by decide +kernel
theorem dX12_cut_133 : decode cX12_cut 133 = .ok (.iinc 6 1, 3) := by decide +kernel
theorem dX12_cut_136 : decode cX12_cut 136 = .ok (.goto (-25), 3) := by decide +kernel
theorem dX12_cut_139 : decode cX12_cut 139 = .ok (.iload 5, 2) := by decide +kernel
theorem dX12_cut_141 : decode cX12_cut 141 = .ok (.ireturn, 1) := by decide +kernel
set_option maxRecDepth 20000 in
theorem ggX12_give_X12_load : GoodIn wsX12_give wsX12_load := goodIn_r _ [6, 7, 1, 38, 39, 40, 41, 42, 43, 44, 45, 46, 47, 48, 49, 50, 51, 52, 53, 54, 55, 56, 57, 58, 59, 60, 61, 62, 63, 64, 65, 66, 67, 68, 69, 70, 71, 72, 73, 74, 75, 76, 77, 78, 79, 80, 81, 82, 83, 84, 85, 86, 87, 88, 89, 90, 91, 92, 93, 94, 95, 96, 97, 98, 99, 100, 101, 102, 103, 104, 105, 106, 107, 108, 109, 110, 111, 112] (by decide +kernel) (by decide +kernel)
set_option maxRecDepth 20000 in
theorem gX12_give_X12_load : GoodIn wsX12_give (wsV RX12 394 RX12 yX12_load wsX12_load) := goodIn_app (goodIn_of _ (by decide +kernel)) ggX12_give_X12_load
set_option maxRecDepth 20000 in
theorem ggX12_give_X12_isPiece : GoodIn wsX12_give wsX12_isPiece := goodIn_r _ [11, 1, 12, 13, 5, 14, 38, 39, 40, 41, 42, 43, 44, 45, 46, 47, 48, 49, 50, 51, 52, 53, 54, 55, 56, 57, 58, 59, 60, 61, 62, 63, 64, 65, 66, 67, 68, 69, 70, 71, 72, 73, 74, 75, 76, 77, 78, 79, 80, 81, 82, 83, 84, 85, 86, 87, 88, 89, 90, 91, 92, 93, 94, 95, 96, 97, 98, 99, 100, 101, 102, 103, 104, 105, 106, 107, 108, 109, 110, 111, 112] (by decide +kernel) (by decide +kernel)
set_option maxRecDepth 20000 in
theorem gX12_give_X12_isPiece : GoodIn wsX12_give (wsV RX12 391 RX12 yX12_isPiece wsX12_isPiece) := goodIn_app (goodIn_of _ (by decide +kernel)) ggX12_give_X12_isPiece
set_option maxRecDepth 20000 in
theorem ggX12_give_X12_isGuest : GoodIn wsX12_give wsX12_isGuest := goodIn_r _ [18, 19, 12, 13, 5, 14, 38, 39, 40, 41, 42, 43, 44, 45, 46, 47, 48, 49, 50, 51, 52, 53, 54, 55, 56, 57, 58, 59, 60, 61, 62, 63, 64, 65, 66, 67, 68, 69, 70, 71, 72, 73, 74, 75, 76, 77, 78, 79, 80, 81, 82, 83, 84, 85, 86, 87, 88, 89, 90, 91, 92, 93, 94, 95, 96, 97, 98, 99, 100, 101, 102, 103, 104, 105, 106, 107, 108, 109, 110, 111, 112] (by decide +kernel) (by decide +kernel)
set_option maxRecDepth 20000 in
theorem gX12_give_X12_isGuest : GoodIn wsX12_give (wsV RX12 397 RX12 yX12_isGuest wsX12_isGuest) := goodIn_app (goodIn_of _ (by decide +kernel)) ggX12_give_X12_isGuest
set_option maxRecDepth 20000 in
theorem ggX12_give_X12_isFree : GoodIn wsX12_give wsX12_isFree := goodIn_r _ [23, 7, 38, 39, 40, 41, 42, 43, 44, 45, 46, 47, 48, 49, 50, 51, 52, 53, 54, 55, 56, 57, 58, 59, 60, 61, 62, 63, 64, 65, 66, 67, 68, 69, 70, 71, 72, 73, 74, 75, 76, 77, 78, 79, 80, 81, 82, 83, 84, 85, 86, 87, 88, 89, 90, 91, 92, 93, 94, 95, 96, 97, 98, 99, 100, 101, 102, 103, 104, 105, 106, 107, 108, 109, 110, 111, 112] (by decide +kernel) (by decide +kernel)
set_option maxRecDepth 20000 in
theorem gX12_give_X12_isFree : GoodIn wsX12_give (wsV RX12 388 RX12 yX12_isFree wsX12_isFree) := goodIn_app (goodIn_of _ (by decide +kernel)) ggX12_give_X12_isFree
set_option maxRecDepth 20000 in
theorem ggX12_give_X12_pieceOf : GoodIn wsX12_give wsX12_pieceOf := goodIn_r _ [27, 7, 38, 39, 40, 41, 42, 43, 44, 45, 46, 47, 48, 49, 50, 51, 52, 53, 54, 55, 56, 57, 58, 59, 60, 61, 62, 63, 64, 65, 66, 67, 68, 69, 70, 71, 72, 73, 74, 75, 76, 77, 78, 79, 80, 81, 82, 83, 84, 85, 86, 87, 88, 89, 90, 91, 92, 93, 94, 95, 96, 97, 98, 99, 100, 101, 102, 103, 104, 105, 106, 107, 108, 109, 110, 111, 112] (by decide +kernel) (by decide +kernel)
set_option maxRecDepth 20000 in
theorem gX12_give_X12_pieceOf : GoodIn wsX12_give (wsV RX12 400 RX12 yX12_pieceOf wsX12_pieceOf) := goodIn_app (goodIn_of _ (by decide +kernel)) ggX12_give_X12_pieceOf
set_option maxRecDepth 20000 in
theorem ggX12_give_X12_act : GoodIn wsX12_give wsX12_act := goodIn_r _ [31, 32, 33, 1, 34, 38, 39, 40, 41, 42, 43, 44, 45, 46, 47, 48, 49, 50, 51, 52, 53, 54, 55, 56, 57, 58, 59, 60, 61, 62, 63, 64, 65, 66, 67, 68, 69, 70, 71, 72, 73, 74, 75, 76, 77, 78, 79, 80, 81, 82, 83, 84, 85, 86, 87, 88, 89, 90, 91, 92, 93, 94, 95, 96, 97, 98, 99, 100, 101, 102, 103, 104, 105, 106, 107, 108, 109, 110, 111, 112] (by decide +kernel) (by decide +kernel)
set_option maxRecDepth 20000 in
theorem gX12_give_X12_act : GoodIn wsX12_give (wsV RX12 413 RX12 yX12_act wsX12_act) := goodIn_app (goodIn_of _ (by decide +kernel)) ggX12_give_X12_act
set_option maxRecDepth 20000 in
theorem ggX12_give_X12_truth : GoodIn wsX12_give wsX12_truth := goodIn_r _ [37] (by decide +kernel) (by decide +kernel)
set_option maxRecDepth 20000 in
theorem gX12_give_X12_truth : GoodIn wsX12_give (va_wsS RX12 302 yX12_truth wsX12_truth) := goodIn_app (goodIn_of _ (by decide +kernel)) ggX12_give_X12_truth
theorem dX12_give_0 : decode cX12_give 0 = .ok (.aload_n 0, 1) := by decide +kernel
theorem dX12_give_1 : decode cX12_give 1 = .ok (.invokevirtual 394, 3) := by decide +kernel
theorem dX12_give_4 : decode cX12_give 4 = .ok (.aload_n 0, 1) := by decide +kernel
theorem dX12_give_5 : decode cX12_give 5 = .ok (.iload_n 1, 1) := by decide +kernel
theorem dX12_give_6 : decode cX12_give 6 = .ok (.invokevirtual 391, 3) := by decide +kernel
theorem dX12_give_9 : decode cX12_give 9 = .ok (.ifCond .eq 27, 3) := by decide +kernel
theorem dX12_give_12 : decode cX12_give 12 = .ok (.aload_n 0, 1) := by decide +kernel
theorem dX12_give_13 : decode cX12_give 13 = .ok (.iload_n 2, 1) := by decide +kernel
theorem dX12_give_14 : decode cX12_give 14 = .ok (.invokevirtual 397, 3) := by decide +kernel
theorem dX12_give_17 : decode cX12_give 17 = .ok (.ifCond .eq 19, 3) := by decide +kernel
theorem dX12_give_20 : decode cX12_give 20 = .ok (.aload_n 0, 1) := by decide +kernel
theorem dX12_give_21 : decode cX12_give 21 = .ok (.iload_n 1, 1) := by decide +kernel
theorem dX12_give_22 : decode cX12_give 22 = .ok (.invokevirtual 388, 3) := by decide +kernel
theorem dX12_give_25 : decode cX12_give 25 = .ok (.ifCond .eq 11, 3) := by decide +kernel
theorem dX12_give_28 : decode cX12_give 28 = .ok (.aload_n 0, 1) := by decide +kernel
theorem dX12_give_29 : decode cX12_give 29 = .ok (.iload_n 2, 1) := by decide +kernel
theorem dX12_give_30 : decode cX12_give 30 = .ok (.invokevirtual 400, 3) := by decide +kernel
theorem dX12_give_33 : decode cX12_give 33 = .ok (.ifCond .lt 5, 3) := by decide +kernel
theorem dX12_give_36 : decode cX12_give 36 = .ok (.iconst (-1), 1) := by decide +kernel
theorem dX12_give_37 : decode cX12_give 37 = .ok (.ireturn, 1) := by decide +kernel
theorem dX12_give_38 : decode cX12_give 38 = .ok (.aload_n 0, 1) := by decide +kernel
theorem dX12_give_39 : decode cX12_give 39 = .ok (.invokevirtual 413, 3) := by decide +kernel
theorem dX12_give_42 : decode cX12_give 42 = .ok (.aload_n 0, 1) := by decide +kernel
theorem dX12_give_43 : decode cX12_give 43 = .ok (.getfield 91, 3) := by decide +kernel
theorem dX12_give_46 : decode cX12_give 46 = .ok (.bipush 7, 2) := by decide +kernel
theorem dX12_give_48 : decode cX12_give 48 = .ok (.iload_n 1, 1) := by decide +kernel
theorem dX12_give_49 : decode cX12_give 49 = .ok (.imul, 1) := by decide +kernel
theorem dX12_give_50 : decode cX12_give 50 = .ok (.bipush 6, 2) := by decide +kernel
theorem dX12_give_52 : decode cX12_give 52 = .ok (.iadd, 1) := by decide +kernel
theorem dX12_give_53 : decode cX12_give 53 = .ok (.iload_n 2, 1) := by decide +kernel
theorem dX12_give_54 : decode cX12_give 54 = .ok (.iastore, 1) := by decide +kernel
theorem dX12_give_55 : decode cX12_give 55 = .ok (.iconst 0, 1) := by decide +kernel
theorem dX12_give_56 : decode cX12_give 56 = .ok (.istore_n 3, 1) := by decide +kernel
theorem dX12_give_57 : decode cX12_give 57 = .ok (.iconst 0, 1) := by decide +kernel
theorem dX12_give_58 : decode cX12_give 58 = .ok (.istore 4, 2) := by decide +kernel
theorem dX12_give_60 : decode cX12_give 60 = .ok (.iload 4, 2) := by decide +kernel
theorem dX12_give_62 : decode cX12_give 62 = .ok (.aload_n 0, 1) := by decide +kernel
theorem dX12_give_63 : decode cX12_give 63 = .ok (.getfield 91, 3) := by decide +kernel
theorem dX12_give_66 : decode cX12_give 66 = .ok (.sipush 168, 3) := by decide +kernel
theorem dX12_give_69 : decode cX12_give 69 = .ok (.iaload, 1) := by decide +kernel
theorem dX12_give_70 : decode cX12_give 70 = .ok (.if_icmp .ge 37, 3) := by decide +kernel
theorem dX12_give_73 : decode cX12_give 73 = .ok (.iload_n 3, 1) := by decide +kernel
theorem dX12_give_74 : decode cX12_give 74 = .ok (.aload_n 0, 1) := by decide +kernel
theorem dX12_give_75 : decode cX12_give 75 = .ok (.getfield 91, 3) := by decide +kernel
theorem dX12_give_78 : decode cX12_give 78 = .ok (.bipush 7, 2) := by decide +kernel
theorem dX12_give_80 : decode cX12_give 80 = .ok (.iload 4, 2) := by decide +kernel
theorem dX12_give_82 : decode cX12_give 82 = .ok (.imul, 1) := by decide +kernel
theorem dX12_give_83 : decode cX12_give 83 = .ok (.bipush 6, 2) := by decide +kernel
theorem dX12_give_85 : decode cX12_give 85 = .ok (.iadd, 1) := by decide +kernel
theorem dX12_give_86 : decode cX12_give 86 = .ok (.iaload, 1) := by decide +kernel
theorem dX12_give_87 : decode cX12_give 87 = .ok (.iconst (-1), 1) := by decide +kernel
theorem dX12_give_88 : decode cX12_give 88 = .ok (.if_icmp .eq 7, 3) := by decide +kernel
theorem dX12_give_91 : decode cX12_give 91 = .ok (.iconst 1, 1) := by decide +kernel
theorem dX12_give_92 : decode cX12_give 92 = .ok (.goto 4, 3) := by decide +kernel
theorem dX12_give_95 : decode cX12_give 95 = .ok (.iconst 0, 1) := by decide +kernel
theorem dX12_give_96 : decode cX12_give 96 = .ok (.invokestatic 302, 3) := by decide +kernel
theorem dX12_give_99 : decode cX12_give 99 = .ok (.iadd, 1) := by decide +kernel
theorem dX12_give_100 : decode cX12_give 100 = .ok (.istore_n 3, 1) := by decide +kernel
theorem dX12_give_101 : decode cX12_give 101 = .ok (.iinc 4 1, 3) := by decide +kernel
theorem dX12_give_104 : decode cX12_give 104 = .ok (.goto (-44), 3) := by decide +kernel
theorem dX12_give_107 : decode cX12_give 107 = .ok (.iload_n 3, 1) := by decide +kernel
theorem dX12_give_108 : decode cX12_give 108 = .ok (.ireturn, 1) := by decide +kernel
set_option maxRecDepth 20000 in
theorem ggX12_back_X12_load : GoodIn wsX12_back wsX12_load := goodIn_r _ [6, 7, 1, 27, 28, 29, 30, 31, 32, 33, 34, 35, 36, 37, 38, 39, 40, 41, 42, 43, 44, 45, 46, 47, 48, 49, 50, 51, 52, 53, 54, 55, 56, 57, 58, 59, 60, 61, 62, 63, 64, 65, 66, 67, 68, 69, 70, 71, 72, 73, 74, 75, 76, 77, 78, 79, 80, 81, 82, 83, 84, 85, 86, 87, 88, 89, 90, 91, 92, 93, 94, 95, 96, 97, 98, 99, 100, 101] (by decide +kernel) (by decide +kernel)
set_option maxRecDepth 20000 in
theorem gX12_back_X12_load : GoodIn wsX12_back (wsV RX12 394 RX12 yX12_load wsX12_load) := goodIn_app (goodIn_of _ (by decide +kernel)) ggX12_back_X12_load
set_option maxRecDepth 20000 in
theorem ggX12_back_X12_isGuest : GoodIn wsX12_back wsX12_isGuest := goodIn_r _ [11, 12, 13, 14, 5, 15, 27, 28, 29, 30, 31, 32, 33, 34, 35, 36, 37, 38, 39, 40, 41, 42, 43, 44, 45, 46, 47, 48, 49, 50, 51, 52, 53, 54, 55, 56, 57, 58, 59, 60, 61, 62, 63, 64, 65, 66, 67, 68, 69, 70, 71, 72, 73, 74, 75, 76, 77, 78, 79, 80, 81, 82, 83, 84, 85, 86, 87, 88, 89, 90, 91, 92, 93, 94, 95, 96, 97, 98, 99, 100, 101] (by decide +kernel) (by decide +kernel)
set_option maxRecDepth 20000 in
theorem gX12_back_X12_isGuest : GoodIn wsX12_back (wsV RX12 397 RX12 yX12_isGuest wsX12_isGuest) := goodIn_app (goodIn_of _ (by decide +kernel)) ggX12_back_X12_isGuest
set_option maxRecDepth 20000 in
theorem ggX12_back_X12_pieceOf : GoodIn wsX12_back wsX12_pieceOf := goodIn_r _ [19, 7, 27, 28, 29, 30, 31, 32, 33, 34, 35, 36, 37, 38, 39, 40, 41, 42, 43, 44, 45, 46, 47, 48, 49, 50, 51, 52, 53, 54, 55, 56, 57, 58, 59, 60, 61, 62, 63, 64, 65, 66, 67, 68, 69, 70, 71, 72, 73, 74, 75, 76, 77, 78, 79, 80, 81, 82, 83, 84, 85, 86, 87, 88, 89, 90, 91, 92, 93, 94, 95, 96, 97, 98, 99, 100, 101] (by decide +kernel) (by decide +kernel)
set_option maxRecDepth 20000 in
theorem gX12_back_X12_pieceOf : GoodIn wsX12_back (wsV RX12 400 RX12 yX12_pieceOf wsX12_pieceOf) := goodIn_app (goodIn_of _ (by decide +kernel)) ggX12_back_X12_pieceOf
set_option maxRecDepth 20000 in
theorem ggX12_back_X12_act : GoodIn wsX12_back wsX12_act := goodIn_r _ [23, 24, 25, 1, 26, 27, 28, 29, 30, 31, 32, 33, 34, 35, 36, 37, 38, 39, 40, 41, 42, 43, 44, 45, 46, 47, 48, 49, 50, 51, 52, 53, 54, 55, 56, 57, 58, 59, 60, 61, 62, 63, 64, 65, 66, 67, 68, 69, 70, 71, 72, 73, 74, 75, 76, 77, 78, 79, 80, 81, 82, 83, 84, 85, 86, 87, 88, 89, 90, 91, 92, 93, 94, 95, 96, 97, 98, 99, 100, 101] (by decide +kernel) (by decide +kernel)
set_option maxRecDepth 20000 in
theorem gX12_back_X12_act : GoodIn wsX12_back (wsV RX12 413 RX12 yX12_act wsX12_act) := goodIn_app (goodIn_of _ (by decide +kernel)) ggX12_back_X12_act
theorem dX12_back_0 : decode cX12_back 0 = .ok (.aload_n 0, 1) := by decide +kernel
theorem dX12_back_1 : decode cX12_back 1 = .ok (.invokevirtual 394, 3) := by decide +kernel
theorem dX12_back_4 : decode cX12_back 4 = .ok (.aload_n 0, 1) := by decide +kernel
theorem dX12_back_5 : decode cX12_back 5 = .ok (.iload_n 1, 1) := by decide +kernel
theorem dX12_back_6 : decode cX12_back 6 = .ok (.invokevirtual 397, 3) := by decide +kernel
theorem dX12_back_9 : decode cX12_back 9 = .ok (.ifCond .eq 11, 3) := by decide +kernel
theorem dX12_back_12 : decode cX12_back 12 = .ok (.aload_n 0, 1) := by decide +kernel
theorem dX12_back_13 : decode cX12_back 13 = .ok (.iload_n 1, 1) := by decide +kernel
theorem dX12_back_14 : decode cX12_back 14 = .ok (.invokevirtual 400, 3) := by decide +kernel
theorem dX12_back_17 : decode cX12_back 17 = .ok (.goto 4, 3) := by decide +kernel
theorem dX12_back_20 : decode cX12_back 20 = .ok (.iconst (-1), 1) := by decide +kernel
theorem dX12_back_21 : decode cX12_back 21 = .ok (.istore_n 2, 1) := by decide +kernel
theorem dX12_back_22 : decode cX12_back 22 = .ok (.iload_n 2, 1) := by decide +kernel
theorem dX12_back_23 : decode cX12_back 23 = .ok (.ifCond .ge 5, 3) := by decide +kernel
theorem dX12_back_26 : decode cX12_back 26 = .ok (.iconst (-1), 1) := by decide +kernel
theorem dX12_back_27 : decode cX12_back 27 = .ok (.ireturn, 1) := by decide +kernel
theorem dX12_back_28 : decode cX12_back 28 = .ok (.aload_n 0, 1) := by decide +kernel
theorem dX12_back_29 : decode cX12_back 29 = .ok (.invokevirtual 413, 3) := by decide +kernel
theorem dX12_back_32 : decode cX12_back 32 = .ok (.aload_n 0, 1) := by decide +kernel
theorem dX12_back_33 : decode cX12_back 33 = .ok (.getfield 91, 3) := by decide +kernel
theorem dX12_back_36 : decode cX12_back 36 = .ok (.bipush 7, 2) := by decide +kernel
theorem dX12_back_38 : decode cX12_back 38 = .ok (.iload_n 2, 1) := by decide +kernel
theorem dX12_back_39 : decode cX12_back 39 = .ok (.imul, 1) := by decide +kernel
theorem dX12_back_40 : decode cX12_back 40 = .ok (.bipush 6, 2) := by decide +kernel
theorem dX12_back_42 : decode cX12_back 42 = .ok (.iadd, 1) := by decide +kernel
theorem dX12_back_43 : decode cX12_back 43 = .ok (.iconst (-1), 1) := by decide +kernel
theorem dX12_back_44 : decode cX12_back 44 = .ok (.iastore, 1) := by decide +kernel
theorem dX12_back_45 : decode cX12_back 45 = .ok (.iload_n 2, 1) := by decide +kernel
theorem dX12_back_46 : decode cX12_back 46 = .ok (.ireturn, 1) := by decide +kernel
set_option maxRecDepth 20000 in
theorem ggX12_exchange_X12_load : GoodIn wsX12_exchange wsX12_load := goodIn_r _ [6, 7, 1, 27, 28, 29, 30, 31, 32, 33, 34, 35, 36, 37, 38, 39, 40, 41, 42, 43, 44, 45, 46, 47, 48, 49, 50, 51, 52, 53, 54, 55, 56, 57, 58, 59, 60, 61, 62, 63, 64, 65, 66, 67, 68, 69, 70, 71, 72, 73, 74, 75, 76, 77, 78, 79, 80, 81, 82, 83, 84, 85, 86, 87, 88, 89, 90, 91, 92, 93, 94, 95, 96, 97, 98, 99, 100, 101] (by decide +kernel) (by decide +kernel)
set_option maxRecDepth 20000 in
theorem gX12_exchange_X12_load : GoodIn wsX12_exchange (wsV RX12 394 RX12 yX12_load wsX12_load) := goodIn_app (goodIn_of _ (by decide +kernel)) ggX12_exchange_X12_load
set_option maxRecDepth 20000 in
theorem ggX12_exchange_X12_isGuest : GoodIn wsX12_exchange wsX12_isGuest := goodIn_r _ [11, 12, 13, 14, 5, 15, 27, 28, 29, 30, 31, 32, 33, 34, 35, 36, 37, 38, 39, 40, 41, 42, 43, 44, 45, 46, 47, 48, 49, 50, 51, 52, 53, 54, 55, 56, 57, 58, 59, 60, 61, 62, 63, 64, 65, 66, 67, 68, 69, 70, 71, 72, 73, 74, 75, 76, 77, 78, 79, 80, 81, 82, 83, 84, 85, 86, 87, 88, 89, 90, 91, 92, 93, 94, 95, 96, 97, 98, 99, 100, 101] (by decide +kernel) (by decide +kernel)
set_option maxRecDepth 20000 in
theorem gX12_exchange_X12_isGuest : GoodIn wsX12_exchange (wsV RX12 397 RX12 yX12_isGuest wsX12_isGuest) := goodIn_app (goodIn_of _ (by decide +kernel)) ggX12_exchange_X12_isGuest
set_option maxRecDepth 20000 in
theorem ggX12_exchange_X12_pieceOf : GoodIn wsX12_exchange wsX12_pieceOf := goodIn_r _ [19, 7, 27, 28, 29, 30, 31, 32, 33, 34, 35, 36, 37, 38, 39, 40, 41, 42, 43, 44, 45, 46, 47, 48, 49, 50, 51, 52, 53, 54, 55, 56, 57, 58, 59, 60, 61, 62, 63, 64, 65, 66, 67, 68, 69, 70, 71, 72, 73, 74, 75, 76, 77, 78, 79, 80, 81, 82, 83, 84, 85, 86, 87, 88, 89, 90, 91, 92, 93, 94, 95, 96, 97, 98, 99, 100, 101] (by decide +kernel) (by decide +kernel)
set_option maxRecDepth 20000 in
theorem gX12_exchange_X12_pieceOf : GoodIn wsX12_exchange (wsV RX12 400 RX12 yX12_pieceOf wsX12_pieceOf) := goodIn_app (goodIn_of _ (by decide +kernel)) ggX12_exchange_X12_pieceOf
set_option maxRecDepth 20000 in
theorem ggX12_exchange_X12_act : GoodIn wsX12_exchange wsX12_act := goodIn_r _ [23, 24, 25, 1, 26, 27, 28, 29, 30, 31, 32, 33, 34, 35, 36, 37, 38, 39, 40, 41, 42, 43, 44, 45, 46, 47, 48, 49, 50, 51, 52, 53, 54, 55, 56, 57, 58, 59, 60, 61, 62, 63, 64, 65, 66, 67, 68, 69, 70, 71, 72, 73, 74, 75, 76, 77, 78, 79, 80, 81, 82, 83, 84, 85, 86, 87, 88, 89, 90, 91, 92, 93, 94, 95, 96, 97, 98, 99, 100, 101] (by decide +kernel) (by decide +kernel)
set_option maxRecDepth 20000 in
theorem gX12_exchange_X12_act : GoodIn wsX12_exchange (wsV RX12 413 RX12 yX12_act wsX12_act) := goodIn_app (goodIn_of _ (by decide +kernel)) ggX12_exchange_X12_act
theorem dX12_exchange_0 : decode cX12_exchange 0 = .ok (.aload_n 0, 1) := by decide +kernel
theorem dX12_exchange_1 : decode cX12_exchange 1 = .ok (.invokevirtual 394, 3) := by decide +kernel
theorem dX12_exchange_4 : decode cX12_exchange 4 = .ok (.aload_n 0, 1) := by decide +kernel
theorem dX12_exchange_5 : decode cX12_exchange 5 = .ok (.iload_n 1, 1) := by decide +kernel
theorem dX12_exchange_6 : decode cX12_exchange 6 = .ok (.invokevirtual 397, 3) := by decide +kernel
theorem dX12_exchange_9 : decode cX12_exchange 9 = .ok (.ifCond .eq 32, 3) := by decide +kernel
theorem dX12_exchange_12 : decode cX12_exchange 12 = .ok (.aload_n 0, 1) := by decide +kernel
theorem dX12_exchange_13 : decode cX12_exchange 13 = .ok (.iload_n 2, 1) := by decide +kernel
theorem dX12_exchange_14 : decode cX12_exchange 14 = .ok (.invokevirtual 397, 3) := by decide +kernel
theorem dX12_exchange_17 : decode cX12_exchange 17 = .ok (.ifCond .eq 24, 3) := by decide +kernel
theorem dX12_exchange_20 : decode cX12_exchange 20 = .ok (.iload_n 1, 1) := by decide +kernel
theorem dX12_exchange_21 : decode cX12_exchange 21 = .ok (.iload_n 2, 1) := by decide +kernel
theorem dX12_exchange_22 : decode cX12_exchange 22 = .ok (.if_icmp .eq 19, 3) := by decide +kernel
theorem dX12_exchange_25 : decode cX12_exchange 25 = .ok (.aload_n 0, 1) := by decide +kernel
theorem dX12_exchange_26 : decode cX12_exchange 26 = .ok (.iload_n 1, 1) := by decide +kernel
theorem dX12_exchange_27 : decode cX12_exchange 27 = .ok (.invokevirtual 400, 3) := by decide +kernel
theorem dX12_exchange_30 : decode cX12_exchange 30 = .ok (.ifCond .lt 11, 3) := by decide +kernel
theorem dX12_exchange_33 : decode cX12_exchange 33 = .ok (.aload_n 0, 1) := by decide +kernel
theorem dX12_exchange_34 : decode cX12_exchange 34 = .ok (.iload_n 2, 1) := by decide +kernel
theorem dX12_exchange_35 : decode cX12_exchange 35 = .ok (.invokevirtual 400, 3) := by decide +kernel
theorem dX12_exchange_38 : decode cX12_exchange 38 = .ok (.ifCond .ge 5, 3) := by decide +kernel
theorem dX12_exchange_41 : decode cX12_exchange 41 = .ok (.iconst (-1), 1) := by decide +kernel
theorem dX12_exchange_42 : decode cX12_exchange 42 = .ok (.ireturn, 1) := by decide +kernel
theorem dX12_exchange_43 : decode cX12_exchange 43 = .ok (.aload_n 0, 1) := by decide +kernel
theorem dX12_exchange_44 : decode cX12_exchange 44 = .ok (.invokevirtual 413, 3) := by decide +kernel
theorem dX12_exchange_47 : decode cX12_exchange 47 = .ok (.aload_n 0, 1) := by decide +kernel
theorem dX12_exchange_48 : decode cX12_exchange 48 = .ok (.getfield 91, 3) := by decide +kernel
theorem dX12_exchange_51 : decode cX12_exchange 51 = .ok (.bipush 7, 2) := by decide +kernel
theorem dX12_exchange_53 : decode cX12_exchange 53 = .ok (.aload_n 0, 1) := by decide +kernel
theorem dX12_exchange_54 : decode cX12_exchange 54 = .ok (.iload_n 1, 1) := by decide +kernel
theorem dX12_exchange_55 : decode cX12_exchange 55 = .ok (.invokevirtual 400, 3) := by decide +kernel
theorem dX12_exchange_58 : decode cX12_exchange 58 = .ok (.imul, 1) := by decide +kernel
theorem dX12_exchange_59 : decode cX12_exchange 59 = .ok (.bipush 6, 2) := by decide +kernel
theorem dX12_exchange_61 : decode cX12_exchange 61 = .ok (.iadd, 1) := by decide +kernel
theorem dX12_exchange_62 : decode cX12_exchange 62 = .ok (.iload_n 2, 1) := by decide +kernel
theorem dX12_exchange_63 : decode cX12_exchange 63 = .ok (.iastore, 1) := by decide +kernel
theorem dX12_exchange_64 : decode cX12_exchange 64 = .ok (.aload_n 0, 1) := by decide +kernel
theorem dX12_exchange_65 : decode cX12_exchange 65 = .ok (.getfield 91, 3) := by decide +kernel
theorem dX12_exchange_68 : decode cX12_exchange 68 = .ok (.bipush 7, 2) := by decide +kernel
theorem dX12_exchange_70 : decode cX12_exchange 70 = .ok (.aload_n 0, 1) := by decide +kernel
theorem dX12_exchange_71 : decode cX12_exchange 71 = .ok (.iload_n 2, 1) := by decide +kernel
theorem dX12_exchange_72 : decode cX12_exchange 72 = .ok (.invokevirtual 400, 3) := by decide +kernel
theorem dX12_exchange_75 : decode cX12_exchange 75 = .ok (.imul, 1) := by decide +kernel
theorem dX12_exchange_76 : decode cX12_exchange 76 = .ok (.bipush 6, 2) := by decide +kernel
theorem dX12_exchange_78 : decode cX12_exchange 78 = .ok (.iadd, 1) := by decide +kernel
theorem dX12_exchange_79 : decode cX12_exchange 79 = .ok (.iload_n 1, 1) := by decide +kernel
theorem dX12_exchange_80 : decode cX12_exchange 80 = .ok (.iastore, 1) := by decide +kernel
theorem dX12_exchange_81 : decode cX12_exchange 81 = .ok (.aload_n 0, 1) := by decide +kernel
theorem dX12_exchange_82 : decode cX12_exchange 82 = .ok (.iload_n 2, 1) := by decide +kernel
theorem dX12_exchange_83 : decode cX12_exchange 83 = .ok (.invokevirtual 400, 3) := by decide +kernel
theorem dX12_exchange_86 : decode cX12_exchange 86 = .ok (.ireturn, 1) := by decide +kernel
set_option maxRecDepth 20000 in
theorem ggX12_undo_X12_turnAbout : GoodIn wsX12_undo wsX12_turnAbout := goodIn_r _ [7, 8, 9, 10, 11, 12, 13, 14, 15, 16, 17, 18, 19, 20, 21, 22, 23, 24, 25, 26, 27, 28, 29, 30, 31, 32, 33, 34, 35, 36, 37, 38, 39, 40, 41, 42, 43, 44, 45, 46, 47, 48, 49, 50, 51, 52, 53, 54, 55, 56, 57, 58, 59, 60, 61, 62, 63, 64, 65, 66, 67, 68, 69, 70, 71, 72, 73, 74, 75, 76, 77, 78, 79, 80, 81, 82, 83, 84] (by decide +kernel) (by decide +kernel)
set_option maxRecDepth 20000 in
theorem gX12_undo_X12_turnAbout : GoodIn wsX12_undo (wsV RX12 419 RX12 yX12_turnAbout wsX12_turnAbout) := goodIn_app (goodIn_of _ (by decide +kernel)) ggX12_undo_X12_turnAbout
theorem dX12_undo_0 : decode cX12_undo 0 = .ok (.aload_n 0, 1) := by decide +kernel
theorem dX12_undo_1 : decode cX12_undo 1 = .ok (.getfield 359, 3) := by decide +kernel
theorem dX12_undo_4 : decode cX12_undo 4 = .ok (.ifCond .ne 5, 3) := by decide +kernel
theorem dX12_undo_7 : decode cX12_undo 7 = .ok (.iconst 0, 1) := by decide +kernel
theorem dX12_undo_8 : decode cX12_undo 8 = .ok (.ireturn, 1) := by decide +kernel
theorem dX12_undo_9 : decode cX12_undo 9 = .ok (.aload_n 0, 1) := by decide +kernel
theorem dX12_undo_10 : decode cX12_undo 10 = .ok (.dup, 1) := by decide +kernel
theorem dX12_undo_11 : decode cX12_undo 11 = .ok (.getfield 359, 3) := by decide +kernel
theorem dX12_undo_14 : decode cX12_undo 14 = .ok (.iconst 1, 1) := by decide +kernel
theorem dX12_undo_15 : decode cX12_undo 15 = .ok (.isub, 1) := by decide +kernel
theorem dX12_undo_16 : decode cX12_undo 16 = .ok (.putfield 359, 3) := by decide +kernel
theorem dX12_undo_19 : decode cX12_undo 19 = .ok (.aload_n 0, 1) := by decide +kernel
theorem dX12_undo_20 : decode cX12_undo 20 = .ok (.dup, 1) := by decide +kernel
theorem dX12_undo_21 : decode cX12_undo 21 = .ok (.getfield 362, 3) := by decide +kernel
theorem dX12_undo_24 : decode cX12_undo 24 = .ok (.iconst 1, 1) := by decide +kernel
theorem dX12_undo_25 : decode cX12_undo 25 = .ok (.iadd, 1) := by decide +kernel
theorem dX12_undo_26 : decode cX12_undo 26 = .ok (.putfield 362, 3) := by decide +kernel
theorem dX12_undo_29 : decode cX12_undo 29 = .ok (.aload_n 0, 1) := by decide +kernel
theorem dX12_undo_30 : decode cX12_undo 30 = .ok (.sipush 171, 3) := by decide +kernel
theorem dX12_undo_33 : decode cX12_undo 33 = .ok (.aload_n 0, 1) := by decide +kernel
theorem dX12_undo_34 : decode cX12_undo 34 = .ok (.getfield 359, 3) := by decide +kernel
theorem dX12_undo_37 : decode cX12_undo 37 = .ok (.imul, 1) := by decide +kernel
theorem dX12_undo_38 : decode cX12_undo 38 = .ok (.invokevirtual 419, 3) := by decide +kernel
theorem dX12_undo_41 : decode cX12_undo 41 = .ok (.iconst 1, 1) := by decide +kernel
theorem dX12_undo_42 : decode cX12_undo 42 = .ok (.ireturn, 1) := by decide +kernel
set_option maxRecDepth 20000 in
theorem ggX12_redo_X12_turnAbout : GoodIn wsX12_redo wsX12_turnAbout := goodIn_r _ [7, 8, 9, 10, 11, 12, 13, 14, 15, 16, 17, 18, 19, 20, 21, 22, 23, 24, 25, 26, 27, 28, 29, 30, 31, 32, 33, 34, 35, 36, 37, 38, 39, 40, 41, 42, 43, 44, 45, 46, 47, 48, 49, 50, 51, 52, 53, 54, 55, 56, 57, 58, 59, 60, 61, 62, 63, 64, 65, 66, 67, 68, 69, 70, 71, 72, 73, 74, 75, 76, 77, 78, 79, 80, 81, 82, 83, 84] (by decide +kernel) (by decide +kernel)
set_option maxRecDepth 20000 in
theorem gX12_redo_X12_turnAbout : GoodIn wsX12_redo (wsV RX12 419 RX12 yX12_turnAbout wsX12_turnAbout) := goodIn_app (goodIn_of _ (by decide +kernel)) ggX12_redo_X12_turnAbout
theorem dX12_redo_0 : decode cX12_redo 0 = .ok (.aload_n 0, 1) := by decide +kernel
theorem dX12_redo_1 : decode cX12_redo 1 = .ok (.getfield 362, 3) := by decide +kernel
theorem dX12_redo_4 : decode cX12_redo 4 = .ok (.ifCond .ne 5, 3) := by decide +kernel
theorem dX12_redo_7 : decode cX12_redo 7 = .ok (.iconst 0, 1) := by decide +kernel
theorem dX12_redo_8 : decode cX12_redo 8 = .ok (.ireturn, 1) := by decide +kernel
theorem dX12_redo_9 : decode cX12_redo 9 = .ok (.aload_n 0, 1) := by decide +kernel
theorem dX12_redo_10 : decode cX12_redo 10 = .ok (.sipush 171, 3) := by decide +kernel
theorem dX12_redo_13 : decode cX12_redo 13 = .ok (.aload_n 0, 1) := by decide +kernel
theorem dX12_redo_14 : decode cX12_redo 14 = .ok (.getfield 359, 3) := by decide +kernel
theorem dX12_redo_17 : decode cX12_redo 17 = .ok (.imul, 1) := by decide +kernel
theorem dX12_redo_18 : decode cX12_redo 18 = .ok (.invokevirtual 419, 3) := by decide +kernel
theorem dX12_redo_21 : decode cX12_redo 21 = .ok (.aload_n 0, 1) := by decide +kernel
theorem dX12_redo_22 : decode cX12_redo 22 = .ok (.dup, 1) := by decide +kernel
theorem dX12_redo_23 : decode cX12_redo 23 = .ok (.getfield 359, 3) := by decide +kernel
theorem dX12_redo_26 : decode cX12_redo 26 = .ok (.iconst 1, 1) := by decide +kernel
theorem dX12_redo_27 : decode cX12_redo 27 = .ok (.iadd, 1) := by decide +kernel
theorem dX12_redo_28 : decode cX12_redo 28 = .ok (.putfield 359, 3) := by decide +kernel
theorem dX12_redo_31 : decode cX12_redo 31 = .ok (.aload_n 0, 1) := by decide +kernel
theorem dX12_redo_32 : decode cX12_redo 32 = .ok (.dup, 1) := by decide +kernel
theorem dX12_redo_33 : decode cX12_redo 33 = .ok (.getfield 362, 3) := by decide +kernel
theorem dX12_redo_36 : decode cX12_redo 36 = .ok (.iconst 1, 1) := by decide +kernel
theorem dX12_redo_37 : decode cX12_redo 37 = .ok (.isub, 1) := by decide +kernel
theorem dX12_redo_38 : decode cX12_redo 38 = .ok (.putfield 362, 3) := by decide +kernel
theorem dX12_redo_41 : decode cX12_redo 41 = .ok (.iconst 1, 1) := by decide +kernel
theorem dX12_redo_42 : decode cX12_redo 42 = .ok (.ireturn, 1) := by decide +kernel
theorem dX12_put_0 : decode cX12_put 0 = .ok (.iload_n 1, 1) := by decide +kernel
theorem dX12_put_1 : decode cX12_put 1 = .ok (.istore_n 3, 1) := by decide +kernel
theorem dX12_put_2 : decode cX12_put 2 = .ok (.iload_n 3, 1) := by decide +kernel
theorem dX12_put_3 : decode cX12_put 3 = .ok (.ifCond .le 26, 3) := by decide +kernel
theorem dX12_put_6 : decode cX12_put 6 = .ok (.aload_n 0, 1) := by decide +kernel
theorem dX12_put_7 : decode cX12_put 7 = .ok (.iload_n 3, 1) := by decide +kernel
theorem dX12_put_8 : decode cX12_put 8 = .ok (.iconst 1, 1) := by decide +kernel
theorem dX12_put_9 : decode cX12_put 9 = .ok (.isub, 1) := by decide +kernel
theorem dX12_put_10 : decode cX12_put 10 = .ok (.iaload, 1) := by decide +kernel
theorem dX12_put_11 : decode cX12_put 11 = .ok (.iload_n 2, 1) := by decide +kernel
theorem dX12_put_12 : decode cX12_put 12 = .ok (.if_icmp .le 17, 3) := by decide +kernel
theorem dX12_put_15 : decode cX12_put 15 = .ok (.aload_n 0, 1) := by decide +kernel
theorem dX12_put_16 : decode cX12_put 16 = .ok (.iload_n 3, 1) := by decide +kernel
theorem dX12_put_17 : decode cX12_put 17 = .ok (.aload_n 0, 1) := by decide +kernel
theorem dX12_put_18 : decode cX12_put 18 = .ok (.iload_n 3, 1) := by decide +kernel
theorem dX12_put_19 : decode cX12_put 19 = .ok (.iconst 1, 1) := by decide +kernel
theorem dX12_put_20 : decode cX12_put 20 = .ok (.isub, 1) := by decide +kernel
theorem dX12_put_21 : decode cX12_put 21 = .ok (.iaload, 1) := by decide +kernel
theorem dX12_put_22 : decode cX12_put 22 = .ok (.iastore, 1) := by decide +kernel
theorem dX12_put_23 : decode cX12_put 23 = .ok (.iinc 3 (-1), 3) := by decide +kernel
theorem dX12_put_26 : decode cX12_put 26 = .ok (.goto (-24), 3) := by decide +kernel
theorem dX12_put_29 : decode cX12_put 29 = .ok (.aload_n 0, 1) := by decide +kernel
theorem dX12_put_30 : decode cX12_put 30 = .ok (.iload_n 3, 1) := by decide +kernel
theorem dX12_put_31 : decode cX12_put 31 = .ok (.iload_n 2, 1) := by decide +kernel
theorem dX12_put_32 : decode cX12_put 32 = .ok (.iastore, 1) := by decide +kernel
theorem dX12_put_33 : decode cX12_put 33 = .ok (.return_, 1) := by decide +kernel
set_option maxRecDepth 20000 in
theorem ggX12_servedBut_X12_pieceOf : GoodIn wsX12_servedBut wsX12_pieceOf := goodIn_r _ [13, 7, 26, 27, 28, 29, 30, 31, 32, 33, 34, 35, 36, 37, 38, 39, 40, 41, 42, 43, 44, 45, 46, 47, 48, 49, 50, 51, 52, 53, 54, 55, 56, 57, 58, 59, 60, 61, 62, 63, 64, 65, 66, 67, 68, 69, 70, 71, 72, 73, 74, 75, 76, 77, 78, 79, 80, 81, 82, 83, 84, 85, 86, 87, 88, 89, 90, 91, 92, 93, 94, 95, 96, 97, 98, 99, 100] (by decide +kernel) (by decide +kernel)
set_option maxRecDepth 20000 in
theorem gX12_servedBut_X12_pieceOf : GoodIn wsX12_servedBut (wsV RX12 400 RX12 yX12_pieceOf wsX12_pieceOf) := goodIn_app (goodIn_of _ (by decide +kernel)) ggX12_servedBut_X12_pieceOf
set_option maxRecDepth 20000 in
theorem ggX12_servedBut_X12_put : GoodIn wsX12_servedBut wsX12_put := goodIn_r _ [16] (by decide +kernel) (by decide +kernel)
set_option maxRecDepth 20000 in
theorem gX12_servedBut_X12_put : GoodIn wsX12_servedBut (va_wsS RX12 431 yX12_put wsX12_put) := goodIn_app (goodIn_of _ (by decide +kernel)) ggX12_servedBut_X12_put
set_option maxRecDepth 20000 in
theorem ggX12_servedBut_X12_isFree : GoodIn wsX12_servedBut wsX12_isFree := goodIn_r _ [20, 7, 26, 27, 28, 29, 30, 31, 32, 33, 34, 35, 36, 37, 38, 39, 40, 41, 42, 43, 44, 45, 46, 47, 48, 49, 50, 51, 52, 53, 54, 55, 56, 57, 58, 59, 60, 61, 62, 63, 64, 65, 66, 67, 68, 69, 70, 71, 72, 73, 74, 75, 76, 77, 78, 79, 80, 81, 82, 83, 84, 85, 86, 87, 88, 89, 90, 91, 92, 93, 94, 95, 96, 97, 98, 99, 100] (by decide +kernel) (by decide +kernel)
set_option maxRecDepth 20000 in
theorem gX12_servedBut_X12_isFree : GoodIn wsX12_servedBut (wsV RX12 388 RX12 yX12_isFree wsX12_isFree) := goodIn_app (goodIn_of _ (by decide +kernel)) ggX12_servedBut_X12_isFree
set_option maxRecDepth 20000 in
theorem ggX12_servedBut_X12_areaOf : GoodIn wsX12_servedBut wsX12_areaOf := goodIn_r _ [24, 7, 25, 26, 27, 28, 29, 30, 31, 32, 33, 34, 35, 36, 37, 38, 39, 40, 41, 42, 43, 44, 45, 46, 47, 48, 49, 50, 51, 52, 53, 54, 55, 56, 57, 58, 59, 60, 61, 62, 63, 64, 65, 66, 67, 68, 69, 70, 71, 72, 73, 74, 75, 76, 77, 78, 79, 80, 81, 82, 83, 84, 85, 86, 87, 88, 89, 90, 91, 92, 93, 94, 95, 96, 97, 98, 99, 100] (by decide +kernel) (by decide +kernel)
set_option maxRecDepth 20000 in
theorem gX12_servedBut_X12_areaOf : GoodIn wsX12_servedBut (wsV RX12 375 RX12 yX12_areaOf wsX12_areaOf) := goodIn_app (goodIn_of _ (by decide +kernel)) ggX12_servedBut_X12_areaOf
theorem dX12_servedBut_0 : decode cX12_servedBut 0 = .ok (.aload_n 0, 1) := by decide +kernel
theorem dX12_servedBut_1 : decode cX12_servedBut 1 = .ok (.iconst 0, 1) := by decide +kernel
theorem dX12_servedBut_2 : decode cX12_servedBut 2 = .ok (.putfield 422, 3) := by decide +kernel
theorem dX12_servedBut_5 : decode cX12_servedBut 5 = .ok (.aload_n 0, 1) := by decide +kernel
theorem dX12_servedBut_6 : decode cX12_servedBut 6 = .ok (.iconst 0, 1) := by decide +kernel
theorem dX12_servedBut_7 : decode cX12_servedBut 7 = .ok (.putfield 425, 3) := by decide +kernel
theorem dX12_servedBut_10 : decode cX12_servedBut 10 = .ok (.iconst 0, 1) := by decide +kernel
theorem dX12_servedBut_11 : decode cX12_servedBut 11 = .ok (.istore_n 3, 1) := by decide +kernel
theorem dX12_servedBut_12 : decode cX12_servedBut 12 = .ok (.iload_n 3, 1) := by decide +kernel
theorem dX12_servedBut_13 : decode cX12_servedBut 13 = .ok (.aload_n 0, 1) := by decide +kernel
theorem dX12_servedBut_14 : decode cX12_servedBut 14 = .ok (.getfield 353, 3) := by decide +kernel
theorem dX12_servedBut_17 : decode cX12_servedBut 17 = .ok (.if_icmp .ge 75, 3) := by decide +kernel
theorem dX12_servedBut_20 : decode cX12_servedBut 20 = .ok (.iload_n 3, 1) := by decide +kernel
theorem dX12_servedBut_21 : decode cX12_servedBut 21 = .ok (.iload_n 1, 1) := by decide +kernel
theorem dX12_servedBut_22 : decode cX12_servedBut 22 = .ok (.if_icmp .eq 64, 3) := by decide +kernel
theorem dX12_servedBut_25 : decode cX12_servedBut 25 = .ok (.aload_n 0, 1) := by decide +kernel
theorem dX12_servedBut_26 : decode cX12_servedBut 26 = .ok (.iload_n 3, 1) := by decide +kernel
theorem dX12_servedBut_27 : decode cX12_servedBut 27 = .ok (.invokevirtual 400, 3) := by decide +kernel
theorem dX12_servedBut_30 : decode cX12_servedBut 30 = .ok (.ifCond .lt 6, 3) := by decide +kernel
theorem dX12_servedBut_33 : decode cX12_servedBut 33 = .ok (.goto 53, 3) := by decide +kernel
theorem dX12_servedBut_36 : decode cX12_servedBut 36 = .ok (.aload_n 0, 1) := by decide +kernel
theorem dX12_servedBut_37 : decode cX12_servedBut 37 = .ok (.getfield 100, 3) := by decide +kernel
theorem dX12_servedBut_40 : decode cX12_servedBut 40 = .ok (.aload_n 0, 1) := by decide +kernel
theorem dX12_servedBut_41 : decode cX12_servedBut 41 = .ok (.getfield 422, 3) := by decide +kernel
theorem dX12_servedBut_44 : decode cX12_servedBut 44 = .ok (.aload_n 0, 1) := by decide +kernel
theorem dX12_servedBut_45 : decode cX12_servedBut 45 = .ok (.getfield 79, 3) := by decide +kernel
theorem dX12_servedBut_48 : decode cX12_servedBut 48 = .ok (.iload_n 3, 1) := by decide +kernel
theorem dX12_servedBut_49 : decode cX12_servedBut 49 = .ok (.iaload, 1) := by decide +kernel
theorem dX12_servedBut_50 : decode cX12_servedBut 50 = .ok (.aload_n 0, 1) := by decide +kernel
theorem dX12_servedBut_51 : decode cX12_servedBut 51 = .ok (.getfield 428, 3) := by decide +kernel
theorem dX12_servedBut_54 : decode cX12_servedBut 54 = .ok (.iadd, 1) := by decide +kernel
theorem dX12_servedBut_55 : decode cX12_servedBut 55 = .ok (.ifCond .ge 7, 3) := by decide +kernel
theorem dX12_servedBut_58 : decode cX12_servedBut 58 = .ok (.iconst 0, 1) := by decide +kernel
theorem dX12_servedBut_59 : decode cX12_servedBut 59 = .ok (.goto 14, 3) := by decide +kernel
theorem dX12_servedBut_62 : decode cX12_servedBut 62 = .ok (.aload_n 0, 1) := by decide +kernel
theorem dX12_servedBut_63 : decode cX12_servedBut 63 = .ok (.getfield 79, 3) := by decide +kernel
theorem dX12_servedBut_66 : decode cX12_servedBut 66 = .ok (.iload_n 3, 1) := by decide +kernel
theorem dX12_servedBut_67 : decode cX12_servedBut 67 = .ok (.iaload, 1) := by decide +kernel
theorem dX12_servedBut_68 : decode cX12_servedBut 68 = .ok (.aload_n 0, 1) := by decide +kernel
theorem dX12_servedBut_69 : decode cX12_servedBut 69 = .ok (.getfield 428, 3) := by decide +kernel
theorem dX12_servedBut_72 : decode cX12_servedBut 72 = .ok (.iadd, 1) := by decide +kernel
theorem dX12_servedBut_73 : decode cX12_servedBut 73 = .ok (.invokestatic 431, 3) := by decide +kernel
theorem dX12_servedBut_76 : decode cX12_servedBut 76 = .ok (.aload_n 0, 1) := by decide +kernel
theorem dX12_servedBut_77 : decode cX12_servedBut 77 = .ok (.dup, 1) := by decide +kernel
theorem dX12_servedBut_78 : decode cX12_servedBut 78 = .ok (.getfield 422, 3) := by decide +kernel
theorem dX12_servedBut_81 : decode cX12_servedBut 81 = .ok (.iconst 1, 1) := by decide +kernel
theorem dX12_servedBut_82 : decode cX12_servedBut 82 = .ok (.iadd, 1) := by decide +kernel
theorem dX12_servedBut_83 : decode cX12_servedBut 83 = .ok (.putfield 422, 3) := by decide +kernel
theorem dX12_servedBut_86 : decode cX12_servedBut 86 = .ok (.iinc 3 1, 3) := by decide +kernel
theorem dX12_servedBut_89 : decode cX12_servedBut 89 = .ok (.goto (-77), 3) := by decide +kernel
theorem dX12_servedBut_92 : decode cX12_servedBut 92 = .ok (.iconst 0, 1) := by decide +kernel
theorem dX12_servedBut_93 : decode cX12_servedBut 93 = .ok (.istore_n 3, 1) := by decide +kernel
theorem dX12_servedBut_94 : decode cX12_servedBut 94 = .ok (.iload_n 3, 1) := by decide +kernel
theorem dX12_servedBut_95 : decode cX12_servedBut 95 = .ok (.aload_n 0, 1) := by decide +kernel
theorem dX12_servedBut_96 : decode cX12_servedBut 96 = .ok (.getfield 94, 3) := by decide +kernel
theorem dX12_servedBut_99 : decode cX12_servedBut 99 = .ok (.sipush 168, 3) := by decide +kernel
theorem dX12_servedBut_102 : decode cX12_servedBut 102 = .ok (.iaload, 1) := by decide +kernel
theorem dX12_servedBut_103 : decode cX12_servedBut 103 = .ok (.if_icmp .ge 51, 3) := by decide +kernel
theorem dX12_servedBut_106 : decode cX12_servedBut 106 = .ok (.iload_n 3, 1) := by decide +kernel
theorem dX12_servedBut_107 : decode cX12_servedBut 107 = .ok (.iload_n 2, 1) := by decide +kernel
theorem dX12_servedBut_108 : decode cX12_servedBut 108 = .ok (.if_icmp .eq 40, 3) := by decide +kernel
theorem dX12_servedBut_111 : decode cX12_servedBut 111 = .ok (.aload_n 0, 1) := by decide +kernel
theorem dX12_servedBut_112 : decode cX12_servedBut 112 = .ok (.iload_n 3, 1) := by decide +kernel
theorem dX12_servedBut_113 : decode cX12_servedBut 113 = .ok (.invokevirtual 388, 3) := by decide +kernel
theorem dX12_servedBut_116 : decode cX12_servedBut 116 = .ok (.ifCond .ne 6, 3) := by decide +kernel
theorem dX12_servedBut_119 : decode cX12_servedBut 119 = .ok (.goto 29, 3) := by decide +kernel
theorem dX12_servedBut_122 : decode cX12_servedBut 122 = .ok (.aload_n 0, 1) := by decide +kernel
theorem dX12_servedBut_123 : decode cX12_servedBut 123 = .ok (.getfield 103, 3) := by decide +kernel
theorem dX12_servedBut_126 : decode cX12_servedBut 126 = .ok (.aload_n 0, 1) := by decide +kernel
theorem dX12_servedBut_127 : decode cX12_servedBut 127 = .ok (.getfield 425, 3) := by decide +kernel
theorem dX12_servedBut_130 : decode cX12_servedBut 130 = .ok (.aload_n 0, 1) := by decide +kernel
theorem dX12_servedBut_131 : decode cX12_servedBut 131 = .ok (.iload_n 3, 1) := by decide +kernel
theorem dX12_servedBut_132 : decode cX12_servedBut 132 = .ok (.invokevirtual 375, 3) := by decide +kernel
theorem dX12_servedBut_135 : decode cX12_servedBut 135 = .ok (.invokestatic 431, 3) := by decide +kernel
theorem dX12_servedBut_138 : decode cX12_servedBut 138 = .ok (.aload_n 0, 1) := by decide +kernel
theorem dX12_servedBut_139 : decode cX12_servedBut 139 = .ok (.dup, 1) := by decide +kernel
theorem dX12_servedBut_140 : decode cX12_servedBut 140 = .ok (.getfield 425, 3) := by decide +kernel
theorem dX12_servedBut_143 : decode cX12_servedBut 143 = .ok (.iconst 1, 1) := by decide +kernel
theorem dX12_servedBut_144 : decode cX12_servedBut 144 = .ok (.iadd, 1) := by decide +kernel
theorem dX12_servedBut_145 : decode cX12_servedBut 145 = .ok (.putfield 425, 3) := by decide +kernel
theorem dX12_servedBut_148 : decode cX12_servedBut 148 = .ok (.iinc 3 1, 3) := by decide +kernel
theorem dX12_servedBut_151 : decode cX12_servedBut 151 = .ok (.goto (-57), 3) := by decide +kernel
theorem dX12_servedBut_154 : decode cX12_servedBut 154 = .ok (.iconst 0, 1) := by decide +kernel
theorem dX12_servedBut_155 : decode cX12_servedBut 155 = .ok (.istore_n 3, 1) := by decide +kernel
theorem dX12_servedBut_156 : decode cX12_servedBut 156 = .ok (.iconst 0, 1) := by decide +kernel
theorem dX12_servedBut_157 : decode cX12_servedBut 157 = .ok (.istore 4, 2) := by decide +kernel
theorem dX12_servedBut_159 : decode cX12_servedBut 159 = .ok (.iload 4, 2) := by decide +kernel
theorem dX12_servedBut_161 : decode cX12_servedBut 161 = .ok (.aload_n 0, 1) := by decide +kernel
theorem dX12_servedBut_162 : decode cX12_servedBut 162 = .ok (.getfield 425, 3) := by decide +kernel
theorem dX12_servedBut_165 : decode cX12_servedBut 165 = .ok (.if_icmp .ge 36, 3) := by decide +kernel
theorem dX12_servedBut_168 : decode cX12_servedBut 168 = .ok (.iload_n 3, 1) := by decide +kernel
theorem dX12_servedBut_169 : decode cX12_servedBut 169 = .ok (.aload_n 0, 1) := by decide +kernel
theorem dX12_servedBut_170 : decode cX12_servedBut 170 = .ok (.getfield 422, 3) := by decide +kernel
theorem dX12_servedBut_173 : decode cX12_servedBut 173 = .ok (.if_icmp .ge 28, 3) := by decide +kernel
theorem dX12_servedBut_176 : decode cX12_servedBut 176 = .ok (.aload_n 0, 1) := by decide +kernel
theorem dX12_servedBut_177 : decode cX12_servedBut 177 = .ok (.getfield 103, 3) := by decide +kernel
theorem dX12_servedBut_180 : decode cX12_servedBut 180 = .ok (.iload 4, 2) := by decide +kernel
theorem dX12_servedBut_182 : decode cX12_servedBut 182 = .ok (.iaload, 1) := by decide +kernel
theorem dX12_servedBut_183 : decode cX12_servedBut 183 = .ok (.aload_n 0, 1) := by decide +kernel
theorem dX12_servedBut_184 : decode cX12_servedBut 184 = .ok (.getfield 100, 3) := by decide +kernel
theorem dX12_servedBut_187 : decode cX12_servedBut 187 = .ok (.iload_n 3, 1) := by decide +kernel
theorem dX12_servedBut_188 : decode cX12_servedBut 188 = .ok (.iaload, 1) := by decide +kernel
theorem dX12_servedBut_189 : decode cX12_servedBut 189 = .ok (.if_icmp .lt 6, 3) := by decide +kernel
theorem dX12_servedBut_192 : decode cX12_servedBut 192 = .ok (.iinc 3 1, 3) := by decide +kernel
theorem dX12_servedBut_195 : decode cX12_servedBut 195 = .ok (.iinc 4 1, 3) := by decide +kernel
theorem dX12_servedBut_198 : decode cX12_servedBut 198 = .ok (.goto (-39), 3) := by decide +kernel
theorem dX12_servedBut_201 : decode cX12_servedBut 201 = .ok (.iload_n 3, 1) := by decide +kernel
theorem dX12_servedBut_202 : decode cX12_servedBut 202 = .ok (.ireturn, 1) := by decide +kernel
set_option maxRecDepth 20000 in
theorem ggX12_feeds_X12_isGuest : GoodIn wsX12_feeds wsX12_isGuest := goodIn_r _ [7, 8, 9, 10, 6, 11, 29, 30, 31, 32, 33, 34, 35, 36, 37, 38, 39, 40, 41, 42, 43, 44, 45, 46, 47, 48, 49, 50, 51, 52, 53, 54, 55, 56, 57, 58, 59, 60, 61, 62, 63, 64, 65, 66, 67, 68, 69, 70, 71, 72, 73, 74, 75, 76, 77, 78, 79, 80, 81, 82, 83, 84, 85, 86, 87, 88, 89, 90, 91, 92, 93, 94, 95, 96, 97, 98, 99, 100, 101, 102, 103] (by decide +kernel) (by decide +kernel)
set_option maxRecDepth 20000 in
theorem gX12_feeds_X12_isGuest : GoodIn wsX12_feeds (wsV RX12 397 RX12 yX12_isGuest wsX12_isGuest) := goodIn_app (goodIn_of _ (by decide +kernel)) ggX12_feeds_X12_isGuest
set_option maxRecDepth 20000 in
theorem ggX12_feeds_X12_load : GoodIn wsX12_feeds wsX12_load := goodIn_r _ [15, 1, 16, 29, 30, 31, 32, 33, 34, 35, 36, 37, 38, 39, 40, 41, 42, 43, 44, 45, 46, 47, 48, 49, 50, 51, 52, 53, 54, 55, 56, 57, 58, 59, 60, 61, 62, 63, 64, 65, 66, 67, 68, 69, 70, 71, 72, 73, 74, 75, 76, 77, 78, 79, 80, 81, 82, 83, 84, 85, 86, 87, 88, 89, 90, 91, 92, 93, 94, 95, 96, 97, 98, 99, 100, 101, 102, 103] (by decide +kernel) (by decide +kernel)
set_option maxRecDepth 20000 in
theorem gX12_feeds_X12_load : GoodIn wsX12_feeds (wsV RX12 394 RX12 yX12_load wsX12_load) := goodIn_app (goodIn_of _ (by decide +kernel)) ggX12_feeds_X12_load
set_option maxRecDepth 20000 in
theorem ggX12_feeds_X12_isFree : GoodIn wsX12_feeds wsX12_isFree := goodIn_r _ [20, 1, 29, 30, 31, 32, 33, 34, 35, 36, 37, 38, 39, 40, 41, 42, 43, 44, 45, 46, 47, 48, 49, 50, 51, 52, 53, 54, 55, 56, 57, 58, 59, 60, 61, 62, 63, 64, 65, 66, 67, 68, 69, 70, 71, 72, 73, 74, 75, 76, 77, 78, 79, 80, 81, 82, 83, 84, 85, 86, 87, 88, 89, 90, 91, 92, 93, 94, 95, 96, 97, 98, 99, 100, 101, 102, 103] (by decide +kernel) (by decide +kernel)
set_option maxRecDepth 20000 in
theorem gX12_feeds_X12_isFree : GoodIn wsX12_feeds (wsV RX12 388 RX12 yX12_isFree wsX12_isFree) := goodIn_app (goodIn_of _ (by decide +kernel)) ggX12_feeds_X12_isFree
set_option maxRecDepth 20000 in
theorem ggX12_feeds_X12_areaOf : GoodIn wsX12_feeds wsX12_areaOf := goodIn_r _ [24, 1, 25, 29, 30, 31, 32, 33, 34, 35, 36, 37, 38, 39, 40, 41, 42, 43, 44, 45, 46, 47, 48, 49, 50, 51, 52, 53, 54, 55, 56, 57, 58, 59, 60, 61, 62, 63, 64, 65, 66, 67, 68, 69, 70, 71, 72, 73, 74, 75, 76, 77, 78, 79, 80, 81, 82, 83, 84, 85, 86, 87, 88, 89, 90, 91, 92, 93, 94, 95, 96, 97, 98, 99, 100, 101, 102, 103] (by decide +kernel) (by decide +kernel)
set_option maxRecDepth 20000 in
theorem gX12_feeds_X12_areaOf : GoodIn wsX12_feeds (wsV RX12 375 RX12 yX12_areaOf wsX12_areaOf) := goodIn_app (goodIn_of _ (by decide +kernel)) ggX12_feeds_X12_areaOf
set_option maxRecDepth 20000 in
theorem ggX12_feeds_X12_truth : GoodIn wsX12_feeds wsX12_truth := goodIn_r _ [28] (by decide +kernel) (by decide +kernel)
set_option maxRecDepth 20000 in
theorem gX12_feeds_X12_truth : GoodIn wsX12_feeds (va_wsS RX12 302 yX12_truth wsX12_truth) := goodIn_app (goodIn_of _ (by decide +kernel)) ggX12_feeds_X12_truth
theorem dX12_feeds_0 : decode cX12_feeds 0 = .ok (.aload_n 0, 1) := by decide +kernel
theorem dX12_feeds_1 : decode cX12_feeds 1 = .ok (.iload_n 1, 1) := by decide +kernel
theorem dX12_feeds_2 : decode cX12_feeds 2 = .ok (.invokevirtual 397, 3) := by decide +kernel
theorem dX12_feeds_5 : decode cX12_feeds 5 = .ok (.ifCond .ne 5, 3) := by decide +kernel
theorem dX12_feeds_8 : decode cX12_feeds 8 = .ok (.iconst (-1), 1) := by decide +kernel
theorem dX12_feeds_9 : decode cX12_feeds 9 = .ok (.ireturn, 1) := by decide +kernel
theorem dX12_feeds_10 : decode cX12_feeds 10 = .ok (.aload_n 0, 1) := by decide +kernel
theorem dX12_feeds_11 : decode cX12_feeds 11 = .ok (.invokevirtual 394, 3) := by decide +kernel
theorem dX12_feeds_14 : decode cX12_feeds 14 = .ok (.iconst 0, 1) := by decide +kernel
theorem dX12_feeds_15 : decode cX12_feeds 15 = .ok (.istore_n 2, 1) := by decide +kernel
theorem dX12_feeds_16 : decode cX12_feeds 16 = .ok (.iconst 0, 1) := by decide +kernel
theorem dX12_feeds_17 : decode cX12_feeds 17 = .ok (.istore_n 3, 1) := by decide +kernel
theorem dX12_feeds_18 : decode cX12_feeds 18 = .ok (.iload_n 3, 1) := by decide +kernel
theorem dX12_feeds_19 : decode cX12_feeds 19 = .ok (.aload_n 0, 1) := by decide +kernel
theorem dX12_feeds_20 : decode cX12_feeds 20 = .ok (.getfield 94, 3) := by decide +kernel
theorem dX12_feeds_23 : decode cX12_feeds 23 = .ok (.sipush 168, 3) := by decide +kernel
theorem dX12_feeds_26 : decode cX12_feeds 26 = .ok (.iaload, 1) := by decide +kernel
theorem dX12_feeds_27 : decode cX12_feeds 27 = .ok (.if_icmp .ge 44, 3) := by decide +kernel
theorem dX12_feeds_30 : decode cX12_feeds 30 = .ok (.iload_n 2, 1) := by decide +kernel
theorem dX12_feeds_31 : decode cX12_feeds 31 = .ok (.aload_n 0, 1) := by decide +kernel
theorem dX12_feeds_32 : decode cX12_feeds 32 = .ok (.iload_n 3, 1) := by decide +kernel
theorem dX12_feeds_33 : decode cX12_feeds 33 = .ok (.invokevirtual 388, 3) := by decide +kernel
theorem dX12_feeds_36 : decode cX12_feeds 36 = .ok (.ifCond .eq 21, 3) := by decide +kernel
theorem dX12_feeds_39 : decode cX12_feeds 39 = .ok (.aload_n 0, 1) := by decide +kernel
theorem dX12_feeds_40 : decode cX12_feeds 40 = .ok (.iload_n 3, 1) := by decide +kernel
theorem dX12_feeds_41 : decode cX12_feeds 41 = .ok (.invokevirtual 375, 3) := by decide +kernel
theorem dX12_feeds_44 : decode cX12_feeds 44 = .ok (.aload_n 0, 1) := by decide +kernel
theorem dX12_feeds_45 : decode cX12_feeds 45 = .ok (.getfield 79, 3) := by decide +kernel
theorem dX12_feeds_48 : decode cX12_feeds 48 = .ok (.iload_n 1, 1) := by decide +kernel
theorem dX12_feeds_49 : decode cX12_feeds 49 = .ok (.iaload, 1) := by decide +kernel
theorem dX12_feeds_50 : decode cX12_feeds 50 = .ok (.if_icmp .lt 7, 3) := by decide +kernel
theorem dX12_feeds_53 : decode cX12_feeds 53 = .ok (.iconst 1, 1) := by decide +kernel
theorem dX12_feeds_54 : decode cX12_feeds 54 = .ok (.goto 4, 3) := by decide +kernel
theorem dX12_feeds_57 : decode cX12_feeds 57 = .ok (.iconst 0, 1) := by decide +kernel
theorem dX12_feeds_58 : decode cX12_feeds 58 = .ok (.invokestatic 302, 3) := by decide +kernel
theorem dX12_feeds_61 : decode cX12_feeds 61 = .ok (.iload_n 3, 1) := by decide +kernel
theorem dX12_feeds_62 : decode cX12_feeds 62 = .ok (.ishl, 1) := by decide +kernel
theorem dX12_feeds_63 : decode cX12_feeds 63 = .ok (.ior, 1) := by decide +kernel
theorem dX12_feeds_64 : decode cX12_feeds 64 = .ok (.istore_n 2, 1) := by decide +kernel
theorem dX12_feeds_65 : decode cX12_feeds 65 = .ok (.iinc 3 1, 3) := by decide +kernel
theorem dX12_feeds_68 : decode cX12_feeds 68 = .ok (.goto (-50), 3) := by decide +kernel
theorem dX12_feeds_71 : decode cX12_feeds 71 = .ok (.iload_n 2, 1) := by decide +kernel
theorem dX12_feeds_72 : decode cX12_feeds 72 = .ok (.ireturn, 1) := by decide +kernel
set_option maxRecDepth 20000 in
theorem ggX12_served_X12_load : GoodIn wsX12_served wsX12_load := goodIn_r _ [5, 6, 7, 35, 36, 37, 38, 39, 40, 41, 42, 43, 44, 45, 46, 47, 48, 49, 50, 51, 52, 53, 54, 55, 56, 57, 58, 59, 60, 61, 62, 63, 64, 65, 66, 67, 68, 69, 70, 71, 72, 73, 74, 75, 76, 77, 78, 79, 80, 81, 82, 83, 84, 85, 86, 87, 88, 89, 90, 91, 92, 93, 94, 95, 96, 97, 98, 99, 100, 101, 102, 103, 104, 105, 106, 107, 108, 109] (by decide +kernel) (by decide +kernel)
set_option maxRecDepth 20000 in
theorem gX12_served_X12_load : GoodIn wsX12_served (wsV RX12 394 RX12 yX12_load wsX12_load) := goodIn_app (goodIn_of _ (by decide +kernel)) ggX12_served_X12_load
set_option maxRecDepth 20000 in
theorem ggX12_served_X12_servedBut : GoodIn wsX12_served wsX12_servedBut := goodIn_r _ [11, 12, 13, 14, 15, 16, 17, 6, 18, 19, 20, 21, 4, 22, 23, 24, 25, 26, 27, 28, 29, 30, 31, 32, 33, 34, 35, 36, 37, 38, 39, 40, 41, 42, 43, 44, 45, 46, 47, 48, 49, 50, 51, 52, 53, 54, 55, 56, 57, 58, 59, 60, 61, 62, 63, 64, 65, 66, 67, 68, 69, 70, 71, 72, 73, 74, 75, 76, 77, 78, 79, 80, 81, 82, 83, 84, 85, 86, 87, 88, 89, 90, 91, 92, 93, 94, 95, 96, 97, 98, 99, 100, 101, 102, 103, 104, 105, 106, 107, 108, 109] (by decide +kernel) (by decide +kernel)
set_option maxRecDepth 20000 in
theorem gX12_served_X12_servedBut : GoodIn wsX12_served (wsV RX12 435 RX12 yX12_servedBut wsX12_servedBut) := goodIn_app (goodIn_of _ (by decide +kernel)) ggX12_served_X12_servedBut
theorem dX12_served_0 : decode cX12_served 0 = .ok (.aload_n 0, 1) := by decide +kernel
theorem dX12_served_1 : decode cX12_served 1 = .ok (.invokevirtual 394, 3) := by decide +kernel
theorem dX12_served_4 : decode cX12_served 4 = .ok (.aload_n 0, 1) := by decide +kernel
theorem dX12_served_5 : decode cX12_served 5 = .ok (.iconst (-1), 1) := by decide +kernel
theorem dX12_served_6 : decode cX12_served 6 = .ok (.iconst (-1), 1) := by decide +kernel
theorem dX12_served_7 : decode cX12_served 7 = .ok (.invokevirtual 435, 3) := by decide +kernel
theorem dX12_served_10 : decode cX12_served 10 = .ok (.ireturn, 1) := by decide +kernel
set_option maxRecDepth 20000 in
theorem ggX12_next_X12_isIn : GoodIn wsX12_next wsX12_isIn := goodIn_r _ [5] (by decide +kernel) (by decide +kernel)
set_option maxRecDepth 20000 in
theorem gX12_next_X12_isIn : GoodIn wsX12_next (va_wsS RX12 371 yX12_isIn wsX12_isIn) := goodIn_app (goodIn_of _ (by decide +kernel)) ggX12_next_X12_isIn
set_option maxRecDepth 20000 in
theorem ggX12_next_X12_load : GoodIn wsX12_next wsX12_load := goodIn_r _ [9, 10, 1, 46, 47, 48, 49, 50, 51, 52, 53, 54, 55, 56, 57, 58, 59, 60, 61, 62, 63, 64, 65, 66, 67, 68, 69, 70, 71, 72, 73, 74, 75, 76, 77, 78, 79, 80, 81, 82, 83, 84, 85, 86, 87, 88, 89, 90, 91, 92, 93, 94, 95, 96, 97, 98, 99, 100, 101, 102, 103, 104, 105, 106, 107, 108, 109, 110, 111, 112, 113, 114, 115, 116, 117, 118, 119, 120] (by decide +kernel) (by decide +kernel)
set_option maxRecDepth 20000 in
theorem gX12_next_X12_load : GoodIn wsX12_next (wsV RX12 394 RX12 yX12_load wsX12_load) := goodIn_app (goodIn_of _ (by decide +kernel)) ggX12_next_X12_load
set_option maxRecDepth 20000 in
theorem ggX12_next_X12_canCut : GoodIn wsX12_next wsX12_canCut := goodIn_r _ [14, 10, 2, 3, 4, 5, 15, 16, 17, 18, 46, 47, 48, 49, 50, 51, 52, 53, 54, 55, 56, 57, 58, 59, 60, 61, 62, 63, 64, 65, 66, 67, 68, 69, 70, 71, 72, 73, 74, 75, 76, 77, 78, 79, 80, 81, 82, 83, 84, 85, 86, 87, 88, 89, 90, 91, 92, 93, 94, 95, 96, 97, 98, 99, 100, 101, 102, 103, 104, 105, 106, 107, 108, 109, 110, 111, 112, 113, 114, 115, 116, 117, 118, 119, 120] (by decide +kernel) (by decide +kernel)
set_option maxRecDepth 20000 in
theorem gX12_next_X12_canCut : GoodIn wsX12_next (wsV RX12 407 RX12 yX12_canCut wsX12_canCut) := goodIn_app (goodIn_of _ (by decide +kernel)) ggX12_next_X12_canCut
set_option maxRecDepth 20000 in
theorem ggX12_next_X12_goCut : GoodIn wsX12_next wsX12_goCut := goodIn_r _ [22, 10, 46, 47, 48, 49, 50, 51, 52, 53, 54, 55, 56, 57, 58, 59, 60, 61, 62, 63, 64, 65, 66, 67, 68, 69, 70, 71, 72, 73, 74, 75, 76, 77, 78, 79, 80, 81, 82, 83, 84, 85, 86, 87, 88, 89, 90, 91, 92, 93, 94, 95, 96, 97, 98, 99, 100, 101, 102, 103, 104, 105, 106, 107, 108, 109, 110, 111, 112, 113, 114, 115, 116, 117, 118, 119, 120] (by decide +kernel) (by decide +kernel)
set_option maxRecDepth 20000 in
theorem gX12_next_X12_goCut : GoodIn wsX12_next (wsV RX12 416 RX12 yX12_goCut wsX12_goCut) := goodIn_app (goodIn_of _ (by decide +kernel)) ggX12_next_X12_goCut
set_option maxRecDepth 20000 in
theorem ggX12_next_X12_servedBut : GoodIn wsX12_next wsX12_servedBut := goodIn_r _ [26, 27, 28, 29, 30, 31, 32, 10, 33, 34, 35, 36, 4, 37, 38, 39, 40, 15, 16, 17, 18, 41, 42, 43, 44, 45, 46, 47, 48, 49, 50, 51, 52, 53, 54, 55, 56, 57, 58, 59, 60, 61, 62, 63, 64, 65, 66, 67, 68, 69, 70, 71, 72, 73, 74, 75, 76, 77, 78, 79, 80, 81, 82, 83, 84, 85, 86, 87, 88, 89, 90, 91, 92, 93, 94, 95, 96, 97, 98, 99, 100, 101, 102, 103, 104, 105, 106, 107, 108, 109, 110, 111, 112, 113, 114, 115, 116, 117, 118, 119, 120] (by decide +kernel) (by decide +kernel)
set_option maxRecDepth 20000 in
theorem gX12_next_X12_servedBut : GoodIn wsX12_next (wsV RX12 435 RX12 yX12_servedBut wsX12_servedBut) := goodIn_app (goodIn_of _ (by decide +kernel)) ggX12_next_X12_servedBut
theorem dX12_next_0 : decode cX12_next 0 = .ok (.iload_n 1, 1) := by decide +kernel
theorem dX12_next_1 : decode cX12_next 1 = .ok (.iconst 0, 1) := by decide +kernel
theorem dX12_next_2 : decode cX12_next 2 = .ok (.iconst 3, 1) := by decide +kernel
theorem dX12_next_3 : decode cX12_next 3 = .ok (.invokestatic 371, 3) := by decide +kernel
theorem dX12_next_6 : decode cX12_next 6 = .ok (.ifCond .ne 5, 3) := by decide +kernel
theorem dX12_next_9 : decode cX12_next 9 = .ok (.iconst (-1), 1) := by decide +kernel
theorem dX12_next_10 : decode cX12_next 10 = .ok (.ireturn, 1) := by decide +kernel
theorem dX12_next_11 : decode cX12_next 11 = .ok (.iconst (-1), 1) := by decide +kernel
theorem dX12_next_12 : decode cX12_next 12 = .ok (.istore_n 2, 1) := by decide +kernel
theorem dX12_next_13 : decode cX12_next 13 = .ok (.iconst 0, 1) := by decide +kernel
theorem dX12_next_14 : decode cX12_next 14 = .ok (.istore_n 3, 1) := by decide +kernel
theorem dX12_next_15 : decode cX12_next 15 = .ok (.iconst 0, 1) := by decide +kernel
theorem dX12_next_16 : decode cX12_next 16 = .ok (.istore 4, 2) := by decide +kernel
theorem dX12_next_18 : decode cX12_next 18 = .ok (.iload 4, 2) := by decide +kernel
theorem dX12_next_20 : decode cX12_next 20 = .ok (.aload_n 0, 1) := by decide +kernel
theorem dX12_next_21 : decode cX12_next 21 = .ok (.getfield 91, 3) := by decide +kernel
theorem dX12_next_24 : decode cX12_next 24 = .ok (.sipush 168, 3) := by decide +kernel
theorem dX12_next_27 : decode cX12_next 27 = .ok (.iaload, 1) := by decide +kernel
theorem dX12_next_28 : decode cX12_next 28 = .ok (.if_icmp .ge 97, 3) := by decide +kernel
theorem dX12_next_31 : decode cX12_next 31 = .ok (.iconst 0, 1) := by decide +kernel
theorem dX12_next_32 : decode cX12_next 32 = .ok (.istore 5, 2) := by decide +kernel
theorem dX12_next_34 : decode cX12_next 34 = .ok (.iload 5, 2) := by decide +kernel
theorem dX12_next_36 : decode cX12_next 36 = .ok (.bipush 16, 2) := by decide +kernel
theorem dX12_next_38 : decode cX12_next 38 = .ok (.if_icmp .ge 81, 3) := by decide +kernel
theorem dX12_next_41 : decode cX12_next 41 = .ok (.aload_n 0, 1) := by decide +kernel
theorem dX12_next_42 : decode cX12_next 42 = .ok (.invokevirtual 394, 3) := by decide +kernel
theorem dX12_next_45 : decode cX12_next 45 = .ok (.aload_n 0, 1) := by decide +kernel
theorem dX12_next_46 : decode cX12_next 46 = .ok (.iload 4, 2) := by decide +kernel
theorem dX12_next_48 : decode cX12_next 48 = .ok (.iload 5, 2) := by decide +kernel
theorem dX12_next_50 : decode cX12_next 50 = .ok (.bipush 8, 2) := by decide +kernel
theorem dX12_next_52 : decode cX12_next 52 = .ok (.idiv, 1) := by decide +kernel
theorem dX12_next_53 : decode cX12_next 53 = .ok (.iload 5, 2) := by decide +kernel
theorem dX12_next_55 : decode cX12_next 55 = .ok (.bipush 8, 2) := by decide +kernel
theorem dX12_next_57 : decode cX12_next 57 = .ok (.irem, 1) := by decide +kernel
theorem dX12_next_58 : decode cX12_next 58 = .ok (.invokevirtual 407, 3) := by decide +kernel
theorem dX12_next_61 : decode cX12_next 61 = .ok (.ifCond .ne 6, 3) := by decide +kernel
theorem dX12_next_64 : decode cX12_next 64 = .ok (.goto 49, 3) := by decide +kernel
theorem dX12_next_67 : decode cX12_next 67 = .ok (.aload_n 0, 1) := by decide +kernel
theorem dX12_next_68 : decode cX12_next 68 = .ok (.iload 4, 2) := by decide +kernel
theorem dX12_next_70 : decode cX12_next 70 = .ok (.iload 5, 2) := by decide +kernel
theorem dX12_next_72 : decode cX12_next 72 = .ok (.bipush 8, 2) := by decide +kernel
theorem dX12_next_74 : decode cX12_next 74 = .ok (.idiv, 1) := by decide +kernel
theorem dX12_next_75 : decode cX12_next 75 = .ok (.iload 5, 2) := by decide +kernel
theorem dX12_next_77 : decode cX12_next 77 = .ok (.bipush 8, 2) := by decide +kernel
theorem dX12_next_79 : decode cX12_next 79 = .ok (.irem, 1) := by decide +kernel
theorem dX12_next_80 : decode cX12_next 80 = .ok (.invokevirtual 416, 3) := by decide +kernel
theorem dX12_next_83 : decode cX12_next 83 = .ok (.pop, 1) := by decide +kernel
theorem dX12_next_84 : decode cX12_next 84 = .ok (.aload_n 0, 1) := by decide +kernel
theorem dX12_next_85 : decode cX12_next 85 = .ok (.iconst (-1), 1) := by decide +kernel
theorem dX12_next_86 : decode cX12_next 86 = .ok (.iconst (-1), 1) := by decide +kernel
theorem dX12_next_87 : decode cX12_next 87 = .ok (.invokevirtual 435, 3) := by decide +kernel
theorem dX12_next_90 : decode cX12_next 90 = .ok (.istore 6, 2) := by decide +kernel
theorem dX12_next_92 : decode cX12_next 92 = .ok (.iload 6, 2) := by decide +kernel
theorem dX12_next_94 : decode cX12_next 94 = .ok (.iload_n 2, 1) := by decide +kernel
theorem dX12_next_95 : decode cX12_next 95 = .ok (.if_icmp .gt 6, 3) := by decide +kernel
theorem dX12_next_98 : decode cX12_next 98 = .ok (.goto 15, 3) := by decide +kernel
theorem dX12_next_101 : decode cX12_next 101 = .ok (.iload 6, 2) := by decide +kernel
theorem dX12_next_103 : decode cX12_next 103 = .ok (.istore_n 2, 1) := by decide +kernel
theorem dX12_next_104 : decode cX12_next 104 = .ok (.bipush 16, 2) := by decide +kernel
theorem dX12_next_106 : decode cX12_next 106 = .ok (.iload 4, 2) := by decide +kernel
theorem dX12_next_108 : decode cX12_next 108 = .ok (.imul, 1) := by decide +kernel
theorem dX12_next_109 : decode cX12_next 109 = .ok (.iload 5, 2) := by decide +kernel
theorem dX12_next_111 : decode cX12_next 111 = .ok (.iadd, 1) := by decide +kernel
theorem dX12_next_112 : decode cX12_next 112 = .ok (.istore_n 3, 1) := by decide +kernel
theorem dX12_next_113 : decode cX12_next 113 = .ok (.iinc 5 1, 3) := by decide +kernel
theorem dX12_next_116 : decode cX12_next 116 = .ok (.goto (-82), 3) := by decide +kernel
theorem dX12_next_119 : decode cX12_next 119 = .ok (.iinc 4 1, 3) := by decide +kernel
theorem dX12_next_122 : decode cX12_next 122 = .ok (.goto (-104), 3) := by decide +kernel
theorem dX12_next_125 : decode cX12_next 125 = .ok (.iload_n 2, 1) := by decide +kernel
theorem dX12_next_126 : decode cX12_next 126 = .ok (.ifCond .ge 5, 3) := by decide +kernel
theorem dX12_next_129 : decode cX12_next 129 = .ok (.iconst (-1), 1) := by decide +kernel
theorem dX12_next_130 : decode cX12_next 130 = .ok (.ireturn, 1) := by decide +kernel
theorem dX12_next_131 : decode cX12_next 131 = .ok (.iload_n 1, 1) := by decide +kernel
theorem dX12_next_132 : decode cX12_next 132 = .ok (.ifCond .ne 10, 3) := by decide +kernel
theorem dX12_next_135 : decode cX12_next 135 = .ok (.iload_n 3, 1) := by decide +kernel
theorem dX12_next_136 : decode cX12_next 136 = .ok (.bipush 16, 2) := by decide +kernel
theorem dX12_next_138 : decode cX12_next 138 = .ok (.idiv, 1) := by decide +kernel
theorem dX12_next_139 : decode cX12_next 139 = .ok (.goto 30, 3) := by decide +kernel
theorem dX12_next_142 : decode cX12_next 142 = .ok (.iload_n 1, 1) := by decide +kernel
theorem dX12_next_143 : decode cX12_next 143 = .ok (.iconst 1, 1) := by decide +kernel
theorem dX12_next_144 : decode cX12_next 144 = .ok (.if_icmp .ne 12, 3) := by decide +kernel
theorem dX12_next_147 : decode cX12_next 147 = .ok (.iload_n 3, 1) := by decide +kernel
theorem dX12_next_148 : decode cX12_next 148 = .ok (.bipush 8, 2) := by decide +kernel
theorem dX12_next_150 : decode cX12_next 150 = .ok (.idiv, 1) := by decide +kernel
theorem dX12_next_151 : decode cX12_next 151 = .ok (.iconst 2, 1) := by decide +kernel
theorem dX12_next_152 : decode cX12_next 152 = .ok (.irem, 1) := by decide +kernel
theorem dX12_next_153 : decode cX12_next 153 = .ok (.goto 16, 3) := by decide +kernel
theorem dX12_next_156 : decode cX12_next 156 = .ok (.iload_n 1, 1) := by decide +kernel
theorem dX12_next_157 : decode cX12_next 157 = .ok (.iconst 2, 1) := by decide +kernel
theorem dX12_next_158 : decode cX12_next 158 = .ok (.if_icmp .ne 10, 3) := by decide +kernel
theorem dX12_next_161 : decode cX12_next 161 = .ok (.iload_n 3, 1) := by decide +kernel
theorem dX12_next_162 : decode cX12_next 162 = .ok (.bipush 8, 2) := by decide +kernel
theorem dX12_next_164 : decode cX12_next 164 = .ok (.irem, 1) := by decide +kernel
theorem dX12_next_165 : decode cX12_next 165 = .ok (.goto 4, 3) := by decide +kernel
theorem dX12_next_168 : decode cX12_next 168 = .ok (.iload_n 2, 1) := by decide +kernel
theorem dX12_next_169 : decode cX12_next 169 = .ok (.ireturn, 1) := by decide +kernel
set_option maxRecDepth 20000 in
theorem ggX12_isEnvied_X12_pieceOf : GoodIn wsX12_isEnvied wsX12_pieceOf := goodIn_r _ [5, 6, 42, 43, 44, 45, 46, 47, 48, 49, 50, 51, 52, 53, 54, 55, 56, 57, 58, 59, 60, 61, 62, 63, 64, 65, 66, 67, 68, 69, 70, 71, 72, 73, 74, 75, 76, 77, 78, 79, 80, 81, 82, 83, 84, 85, 86, 87, 88, 89, 90, 91, 92, 93, 94, 95, 96, 97, 98, 99, 100, 101, 102, 103, 104, 105, 106, 107, 108, 109, 110, 111, 112, 113, 114, 115, 116] (by decide +kernel) (by decide +kernel)
set_option maxRecDepth 20000 in
theorem gX12_isEnvied_X12_pieceOf : GoodIn wsX12_isEnvied (wsV RX12 400 RX12 yX12_pieceOf wsX12_pieceOf) := goodIn_app (goodIn_of _ (by decide +kernel)) ggX12_isEnvied_X12_pieceOf
set_option maxRecDepth 20000 in
theorem ggX12_isEnvied_X12_worthOf : GoodIn wsX12_isEnvied wsX12_worthOf := goodIn_r _ [10, 11, 12, 13, 14, 15, 4, 16, 6, 17, 18, 19, 20, 21, 22, 23, 24, 25, 26, 27, 28, 29, 30, 31, 32, 33, 34, 35, 36, 37, 38, 39, 40, 41, 42, 43, 44, 45, 46, 47, 48, 49, 50, 51, 52, 53, 54, 55, 56, 57, 58, 59, 60, 61, 62, 63, 64, 65, 66, 67, 68, 69, 70, 71, 72, 73, 74, 75, 76, 77, 78, 79, 80, 81, 82, 83, 84, 85, 86, 87, 88, 89, 90, 91, 92, 93, 94, 95, 96, 97, 98, 99, 100, 101, 102, 103, 104, 105, 106, 107, 108, 109, 110, 111, 112, 113, 114, 115, 116] (by decide +kernel) (by decide +kernel)
set_option maxRecDepth 20000 in
theorem gX12_isEnvied_X12_worthOf : GoodIn wsX12_isEnvied (wsV RX12 403 RX12 yX12_worthOf wsX12_worthOf) := goodIn_app (goodIn_of _ (by decide +kernel)) ggX12_isEnvied_X12_worthOf
theorem dX12_isEnvied_0 : decode cX12_isEnvied 0 = .ok (.aload_n 0, 1) := by decide +kernel
theorem dX12_isEnvied_1 : decode cX12_isEnvied 1 = .ok (.iload_n 1, 1) := by decide +kernel
theorem dX12_isEnvied_2 : decode cX12_isEnvied 2 = .ok (.invokevirtual 400, 3) := by decide +kernel
theorem dX12_isEnvied_5 : decode cX12_isEnvied 5 = .ok (.istore_n 3, 1) := by decide +kernel
theorem dX12_isEnvied_6 : decode cX12_isEnvied 6 = .ok (.aload_n 0, 1) := by decide +kernel
theorem dX12_isEnvied_7 : decode cX12_isEnvied 7 = .ok (.iload_n 2, 1) := by decide +kernel
theorem dX12_isEnvied_8 : decode cX12_isEnvied 8 = .ok (.invokevirtual 400, 3) := by decide +kernel
theorem dX12_isEnvied_11 : decode cX12_isEnvied 11 = .ok (.istore 4, 2) := by decide +kernel
theorem dX12_isEnvied_13 : decode cX12_isEnvied 13 = .ok (.iload_n 1, 1) := by decide +kernel
theorem dX12_isEnvied_14 : decode cX12_isEnvied 14 = .ok (.iload_n 2, 1) := by decide +kernel
theorem dX12_isEnvied_15 : decode cX12_isEnvied 15 = .ok (.if_icmp .eq 8, 3) := by decide +kernel
theorem dX12_isEnvied_18 : decode cX12_isEnvied 18 = .ok (.iload 4, 2) := by decide +kernel
theorem dX12_isEnvied_20 : decode cX12_isEnvied 20 = .ok (.ifCond .ge 5, 3) := by decide +kernel
theorem dX12_isEnvied_23 : decode cX12_isEnvied 23 = .ok (.iconst 0, 1) := by decide +kernel
theorem dX12_isEnvied_24 : decode cX12_isEnvied 24 = .ok (.ireturn, 1) := by decide +kernel
theorem dX12_isEnvied_25 : decode cX12_isEnvied 25 = .ok (.iload_n 3, 1) := by decide +kernel
theorem dX12_isEnvied_26 : decode cX12_isEnvied 26 = .ok (.ifCond .ge 21, 3) := by decide +kernel
theorem dX12_isEnvied_29 : decode cX12_isEnvied 29 = .ok (.aload_n 0, 1) := by decide +kernel
theorem dX12_isEnvied_30 : decode cX12_isEnvied 30 = .ok (.iload_n 1, 1) := by decide +kernel
theorem dX12_isEnvied_31 : decode cX12_isEnvied 31 = .ok (.iload 4, 2) := by decide +kernel
theorem dX12_isEnvied_33 : decode cX12_isEnvied 33 = .ok (.invokevirtual 403, 3) := by decide +kernel
theorem dX12_isEnvied_36 : decode cX12_isEnvied 36 = .ok (.ifCond .le 7, 3) := by decide +kernel
theorem dX12_isEnvied_39 : decode cX12_isEnvied 39 = .ok (.iconst 1, 1) := by decide +kernel
theorem dX12_isEnvied_40 : decode cX12_isEnvied 40 = .ok (.goto 28, 3) := by decide +kernel
theorem dX12_isEnvied_43 : decode cX12_isEnvied 43 = .ok (.iconst 0, 1) := by decide +kernel
theorem dX12_isEnvied_44 : decode cX12_isEnvied 44 = .ok (.goto 24, 3) := by decide +kernel
theorem dX12_isEnvied_47 : decode cX12_isEnvied 47 = .ok (.aload_n 0, 1) := by decide +kernel
theorem dX12_isEnvied_48 : decode cX12_isEnvied 48 = .ok (.iload_n 1, 1) := by decide +kernel
theorem dX12_isEnvied_49 : decode cX12_isEnvied 49 = .ok (.iload 4, 2) := by decide +kernel
theorem dX12_isEnvied_51 : decode cX12_isEnvied 51 = .ok (.invokevirtual 403, 3) := by decide +kernel
theorem dX12_isEnvied_54 : decode cX12_isEnvied 54 = .ok (.aload_n 0, 1) := by decide +kernel
theorem dX12_isEnvied_55 : decode cX12_isEnvied 55 = .ok (.iload_n 1, 1) := by decide +kernel
theorem dX12_isEnvied_56 : decode cX12_isEnvied 56 = .ok (.iload_n 3, 1) := by decide +kernel
theorem dX12_isEnvied_57 : decode cX12_isEnvied 57 = .ok (.invokevirtual 403, 3) := by decide +kernel
theorem dX12_isEnvied_60 : decode cX12_isEnvied 60 = .ok (.if_icmp .le 7, 3) := by decide +kernel
theorem dX12_isEnvied_63 : decode cX12_isEnvied 63 = .ok (.iconst 1, 1) := by decide +kernel
theorem dX12_isEnvied_64 : decode cX12_isEnvied 64 = .ok (.goto 4, 3) := by decide +kernel
theorem dX12_isEnvied_67 : decode cX12_isEnvied 67 = .ok (.iconst 0, 1) := by decide +kernel
theorem dX12_isEnvied_68 : decode cX12_isEnvied 68 = .ok (.ireturn, 1) := by decide +kernel
set_option maxRecDepth 20000 in
theorem ggX12_enviedBy_X12_isEnvied : GoodIn wsX12_enviedBy wsX12_isEnvied := goodIn_r _ [6, 7, 8, 9, 5, 10, 11, 12, 13, 14, 15, 16, 17, 18, 19, 20, 21, 22, 23, 24, 25, 26, 27, 28, 29, 30, 31, 32, 33, 34, 35, 36, 37, 38, 39, 40, 41, 42, 43, 44, 45, 46, 47, 48, 49, 50, 51, 52, 53, 54, 55, 56, 57, 58, 59, 60, 61, 62, 63, 64, 65, 66, 67, 68, 69, 70, 71, 72, 73, 74, 75, 76, 77, 78, 79, 80, 81, 82, 83, 84, 85, 86, 87, 88, 89, 90, 91, 92, 93, 94, 95, 96, 97, 98, 99, 100, 101, 102, 103, 104, 105, 106, 107, 108, 109, 110, 111, 112, 113, 114, 115, 116, 117, 118, 119, 120, 121] (by decide +kernel) (by decide +kernel)
set_option maxRecDepth 20000 in
theorem gX12_enviedBy_X12_isEnvied : GoodIn wsX12_enviedBy (wsV RX12 438 RX12 yX12_isEnvied wsX12_isEnvied) := goodIn_app (goodIn_of _ (by decide +kernel)) ggX12_enviedBy_X12_isEnvied
set_option maxRecDepth 20000 in
theorem ggX12_enviedBy_X12_truth : GoodIn wsX12_enviedBy wsX12_truth := goodIn_r _ [35] (by decide +kernel) (by decide +kernel)
set_option maxRecDepth 20000 in
theorem gX12_enviedBy_X12_truth : GoodIn wsX12_enviedBy (va_wsS RX12 302 yX12_truth wsX12_truth) := goodIn_app (goodIn_of _ (by decide +kernel)) ggX12_enviedBy_X12_truth
theorem dX12_enviedBy_0 : decode cX12_enviedBy 0 = .ok (.iconst 0, 1) := by decide +kernel
theorem dX12_enviedBy_1 : decode cX12_enviedBy 1 = .ok (.istore_n 2, 1) := by decide +kernel
theorem dX12_enviedBy_2 : decode cX12_enviedBy 2 = .ok (.iconst 0, 1) := by decide +kernel
theorem dX12_enviedBy_3 : decode cX12_enviedBy 3 = .ok (.istore_n 3, 1) := by decide +kernel
theorem dX12_enviedBy_4 : decode cX12_enviedBy 4 = .ok (.iload_n 3, 1) := by decide +kernel
theorem dX12_enviedBy_5 : decode cX12_enviedBy 5 = .ok (.aload_n 0, 1) := by decide +kernel
theorem dX12_enviedBy_6 : decode cX12_enviedBy 6 = .ok (.getfield 353, 3) := by decide +kernel
theorem dX12_enviedBy_9 : decode cX12_enviedBy 9 = .ok (.if_icmp .ge 23, 3) := by decide +kernel
theorem dX12_enviedBy_12 : decode cX12_enviedBy 12 = .ok (.iload_n 2, 1) := by decide +kernel
theorem dX12_enviedBy_13 : decode cX12_enviedBy 13 = .ok (.aload_n 0, 1) := by decide +kernel
theorem dX12_enviedBy_14 : decode cX12_enviedBy 14 = .ok (.iload_n 1, 1) := by decide +kernel
theorem dX12_enviedBy_15 : decode cX12_enviedBy 15 = .ok (.iload_n 3, 1) := by decide +kernel
theorem dX12_enviedBy_16 : decode cX12_enviedBy 16 = .ok (.invokevirtual 438, 3) := by decide +kernel
theorem dX12_enviedBy_19 : decode cX12_enviedBy 19 = .ok (.invokestatic 302, 3) := by decide +kernel
theorem dX12_enviedBy_22 : decode cX12_enviedBy 22 = .ok (.iload_n 3, 1) := by decide +kernel
theorem dX12_enviedBy_23 : decode cX12_enviedBy 23 = .ok (.ishl, 1) := by decide +kernel
theorem dX12_enviedBy_24 : decode cX12_enviedBy 24 = .ok (.ior, 1) := by decide +kernel
theorem dX12_enviedBy_25 : decode cX12_enviedBy 25 = .ok (.istore_n 2, 1) := by decide +kernel
theorem dX12_enviedBy_26 : decode cX12_enviedBy 26 = .ok (.iinc 3 1, 3) := by decide +kernel
theorem dX12_enviedBy_29 : decode cX12_enviedBy 29 = .ok (.goto (-25), 3) := by decide +kernel
theorem dX12_enviedBy_32 : decode cX12_enviedBy 32 = .ok (.iload_n 2, 1) := by decide +kernel
theorem dX12_enviedBy_33 : decode cX12_enviedBy 33 = .ok (.ireturn, 1) := by decide +kernel
set_option maxRecDepth 20000 in
theorem ggX12_allEnvies_X12_isEnvied : GoodIn wsX12_allEnvies wsX12_isEnvied := goodIn_r _ [6, 7, 8, 9, 5, 10, 11, 12, 13, 14, 15, 16, 17, 18, 19, 20, 21, 22, 23, 24, 25, 26, 27, 28, 29, 30, 31, 32, 33, 34, 35, 36, 37, 38, 39, 40, 41, 42, 43, 44, 45, 46, 47, 48, 49, 50, 51, 52, 53, 54, 55, 56, 57, 58, 59, 60, 61, 62, 63, 64, 65, 66, 67, 68, 69, 70, 71, 72, 73, 74, 75, 76, 77, 78, 79, 80, 81, 82, 83, 84, 85, 86, 87, 88, 89, 90, 91, 92, 93, 94, 95, 96, 97, 98, 99, 100, 101, 102, 103, 104, 105, 106, 107, 108, 109, 110, 111, 112, 113, 114, 115, 116, 117, 118, 119, 120, 121] (by decide +kernel) (by decide +kernel)
set_option maxRecDepth 20000 in
theorem gX12_allEnvies_X12_isEnvied : GoodIn wsX12_allEnvies (wsV RX12 438 RX12 yX12_isEnvied wsX12_isEnvied) := goodIn_app (goodIn_of _ (by decide +kernel)) ggX12_allEnvies_X12_isEnvied
set_option maxRecDepth 20000 in
theorem ggX12_allEnvies_X12_truth : GoodIn wsX12_allEnvies wsX12_truth := goodIn_r _ [35] (by decide +kernel) (by decide +kernel)
set_option maxRecDepth 20000 in
theorem gX12_allEnvies_X12_truth : GoodIn wsX12_allEnvies (va_wsS RX12 302 yX12_truth wsX12_truth) := goodIn_app (goodIn_of _ (by decide +kernel)) ggX12_allEnvies_X12_truth
theorem dX12_allEnvies_0 : decode cX12_allEnvies 0 = .ok (.iconst 0, 1) := by decide +kernel
theorem dX12_allEnvies_1 : decode cX12_allEnvies 1 = .ok (.istore_n 1, 1) := by decide +kernel
theorem dX12_allEnvies_2 : decode cX12_allEnvies 2 = .ok (.iconst 0, 1) := by decide +kernel
theorem dX12_allEnvies_3 : decode cX12_allEnvies 3 = .ok (.istore_n 2, 1) := by decide +kernel
theorem dX12_allEnvies_4 : decode cX12_allEnvies 4 = .ok (.iload_n 2, 1) := by decide +kernel
theorem dX12_allEnvies_5 : decode cX12_allEnvies 5 = .ok (.aload_n 0, 1) := by decide +kernel
theorem dX12_allEnvies_6 : decode cX12_allEnvies 6 = .ok (.getfield 353, 3) := by decide +kernel
theorem dX12_allEnvies_9 : decode cX12_allEnvies 9 = .ok (.if_icmp .ge 37, 3) := by decide +kernel
theorem dX12_allEnvies_12 : decode cX12_allEnvies 12 = .ok (.iconst 0, 1) := by decide +kernel
theorem dX12_allEnvies_13 : decode cX12_allEnvies 13 = .ok (.istore_n 3, 1) := by decide +kernel
theorem dX12_allEnvies_14 : decode cX12_allEnvies 14 = .ok (.iload_n 3, 1) := by decide +kernel
theorem dX12_allEnvies_15 : decode cX12_allEnvies 15 = .ok (.aload_n 0, 1) := by decide +kernel
theorem dX12_allEnvies_16 : decode cX12_allEnvies 16 = .ok (.getfield 353, 3) := by decide +kernel
theorem dX12_allEnvies_19 : decode cX12_allEnvies 19 = .ok (.if_icmp .ge 21, 3) := by decide +kernel
theorem dX12_allEnvies_22 : decode cX12_allEnvies 22 = .ok (.iload_n 1, 1) := by decide +kernel
theorem dX12_allEnvies_23 : decode cX12_allEnvies 23 = .ok (.aload_n 0, 1) := by decide +kernel
theorem dX12_allEnvies_24 : decode cX12_allEnvies 24 = .ok (.iload_n 2, 1) := by decide +kernel
theorem dX12_allEnvies_25 : decode cX12_allEnvies 25 = .ok (.iload_n 3, 1) := by decide +kernel
theorem dX12_allEnvies_26 : decode cX12_allEnvies 26 = .ok (.invokevirtual 438, 3) := by decide +kernel
theorem dX12_allEnvies_29 : decode cX12_allEnvies 29 = .ok (.invokestatic 302, 3) := by decide +kernel
theorem dX12_allEnvies_32 : decode cX12_allEnvies 32 = .ok (.iadd, 1) := by decide +kernel
theorem dX12_allEnvies_33 : decode cX12_allEnvies 33 = .ok (.istore_n 1, 1) := by decide +kernel
theorem dX12_allEnvies_34 : decode cX12_allEnvies 34 = .ok (.iinc 3 1, 3) := by decide +kernel
theorem dX12_allEnvies_37 : decode cX12_allEnvies 37 = .ok (.goto (-23), 3) := by decide +kernel
theorem dX12_allEnvies_40 : decode cX12_allEnvies 40 = .ok (.iinc 2 1, 3) := by decide +kernel
theorem dX12_allEnvies_43 : decode cX12_allEnvies 43 = .ok (.goto (-39), 3) := by decide +kernel
theorem dX12_allEnvies_46 : decode cX12_allEnvies 46 = .ok (.iload_n 1, 1) := by decide +kernel
theorem dX12_allEnvies_47 : decode cX12_allEnvies 47 = .ok (.ireturn, 1) := by decide +kernel
set_option maxRecDepth 20000 in
theorem ggX12_envies_X12_isGuest : GoodIn wsX12_envies wsX12_isGuest := goodIn_r _ [5, 6, 7, 8, 4, 9, 63, 64, 65, 66, 67, 68, 69, 70, 71, 72, 73, 74, 75, 76, 77, 78, 79, 80, 81, 82, 83, 84, 85, 86, 87, 88, 89, 90, 91, 92, 93, 94, 95, 96, 97, 98, 99, 100, 101, 102, 103, 104, 105, 106, 107, 108, 109, 110, 111, 112, 113, 114, 115, 116, 117, 118, 119, 120, 121, 122, 123, 124, 125, 126, 127, 128, 129, 130, 131, 132, 133, 134, 135, 136, 137] (by decide +kernel) (by decide +kernel)
set_option maxRecDepth 20000 in
theorem gX12_envies_X12_isGuest : GoodIn wsX12_envies (wsV RX12 397 RX12 yX12_isGuest wsX12_isGuest) := goodIn_app (goodIn_of _ (by decide +kernel)) ggX12_envies_X12_isGuest
set_option maxRecDepth 20000 in
theorem ggX12_envies_X12_load : GoodIn wsX12_envies wsX12_load := goodIn_r _ [13, 14, 15, 63, 64, 65, 66, 67, 68, 69, 70, 71, 72, 73, 74, 75, 76, 77, 78, 79, 80, 81, 82, 83, 84, 85, 86, 87, 88, 89, 90, 91, 92, 93, 94, 95, 96, 97, 98, 99, 100, 101, 102, 103, 104, 105, 106, 107, 108, 109, 110, 111, 112, 113, 114, 115, 116, 117, 118, 119, 120, 121, 122, 123, 124, 125, 126, 127, 128, 129, 130, 131, 132, 133, 134, 135, 136, 137] (by decide +kernel) (by decide +kernel)
set_option maxRecDepth 20000 in
theorem gX12_envies_X12_load : GoodIn wsX12_envies (wsV RX12 394 RX12 yX12_load wsX12_load) := goodIn_app (goodIn_of _ (by decide +kernel)) ggX12_envies_X12_load
set_option maxRecDepth 20000 in
theorem ggX12_envies_X12_enviedBy : GoodIn wsX12_envies wsX12_enviedBy := goodIn_r _ [19, 6, 20, 21, 22, 4, 23, 24, 25, 26, 27, 14, 28, 29, 30, 31, 32, 33, 34, 35, 36, 37, 38, 39, 40, 41, 42, 43, 44, 45, 46, 47, 48, 49, 50, 51, 52, 53, 54, 55, 56, 57, 58, 59, 60, 61, 62, 63, 64, 65, 66, 67, 68, 69, 70, 71, 72, 73, 74, 75, 76, 77, 78, 79, 80, 81, 82, 83, 84, 85, 86, 87, 88, 89, 90, 91, 92, 93, 94, 95, 96, 97, 98, 99, 100, 101, 102, 103, 104, 105, 106, 107, 108, 109, 110, 111, 112, 113, 114, 115, 116, 117, 118, 119, 120, 121, 122, 123, 124, 125, 126, 127, 128, 129, 130, 131, 132, 133, 134, 135, 136, 137] (by decide +kernel) (by decide +kernel)
set_option maxRecDepth 20000 in
theorem gX12_envies_X12_enviedBy : GoodIn wsX12_envies (wsV RX12 442 RX12 yX12_enviedBy wsX12_enviedBy) := goodIn_app (goodIn_of _ (by decide +kernel)) ggX12_envies_X12_enviedBy
theorem dX12_envies_0 : decode cX12_envies 0 = .ok (.aload_n 0, 1) := by decide +kernel
theorem dX12_envies_1 : decode cX12_envies 1 = .ok (.iload_n 1, 1) := by decide +kernel
theorem dX12_envies_2 : decode cX12_envies 2 = .ok (.invokevirtual 397, 3) := by decide +kernel
theorem dX12_envies_5 : decode cX12_envies 5 = .ok (.ifCond .ne 5, 3) := by decide +kernel
theorem dX12_envies_8 : decode cX12_envies 8 = .ok (.iconst (-1), 1) := by decide +kernel
theorem dX12_envies_9 : decode cX12_envies 9 = .ok (.ireturn, 1) := by decide +kernel
theorem dX12_envies_10 : decode cX12_envies 10 = .ok (.aload_n 0, 1) := by decide +kernel
theorem dX12_envies_11 : decode cX12_envies 11 = .ok (.invokevirtual 394, 3) := by decide +kernel
theorem dX12_envies_14 : decode cX12_envies 14 = .ok (.aload_n 0, 1) := by decide +kernel
theorem dX12_envies_15 : decode cX12_envies 15 = .ok (.iload_n 1, 1) := by decide +kernel
theorem dX12_envies_16 : decode cX12_envies 16 = .ok (.invokevirtual 442, 3) := by decide +kernel
theorem dX12_envies_19 : decode cX12_envies 19 = .ok (.ireturn, 1) := by decide +kernel
set_option maxRecDepth 20000 in
theorem ggX12_quarrel_X12_load : GoodIn wsX12_quarrel wsX12_load := goodIn_r _ [5, 6, 7, 56, 57, 58, 59, 60, 61, 62, 63, 64, 65, 66, 67, 68, 69, 70, 71, 72, 73, 74, 75, 76, 77, 78, 79, 80, 81, 82, 83, 84, 85, 86, 87, 88, 89, 90, 91, 92, 93, 94, 95, 96, 97, 98, 99, 100, 101, 102, 103, 104, 105, 106, 107, 108, 109, 110, 111, 112, 113, 114, 115, 116, 117, 118, 119, 120, 121, 122, 123, 124, 125, 126, 127, 128, 129, 130] (by decide +kernel) (by decide +kernel)
set_option maxRecDepth 20000 in
theorem gX12_quarrel_X12_load : GoodIn wsX12_quarrel (wsV RX12 394 RX12 yX12_load wsX12_load) := goodIn_app (goodIn_of _ (by decide +kernel)) ggX12_quarrel_X12_load
set_option maxRecDepth 20000 in
theorem ggX12_quarrel_X12_allEnvies : GoodIn wsX12_quarrel wsX12_allEnvies := goodIn_r _ [11, 12, 13, 14, 15, 4, 16, 17, 18, 19, 20, 6, 21, 22, 23, 24, 25, 26, 27, 28, 29, 30, 31, 32, 33, 34, 35, 36, 37, 38, 39, 40, 41, 42, 43, 44, 45, 46, 47, 48, 49, 50, 51, 52, 53, 54, 55, 56, 57, 58, 59, 60, 61, 62, 63, 64, 65, 66, 67, 68, 69, 70, 71, 72, 73, 74, 75, 76, 77, 78, 79, 80, 81, 82, 83, 84, 85, 86, 87, 88, 89, 90, 91, 92, 93, 94, 95, 96, 97, 98, 99, 100, 101, 102, 103, 104, 105, 106, 107, 108, 109, 110, 111, 112, 113, 114, 115, 116, 117, 118, 119, 120, 121, 122, 123, 124, 125, 126, 127, 128, 129, 130] (by decide +kernel) (by decide +kernel)
set_option maxRecDepth 20000 in
theorem gX12_quarrel_X12_allEnvies : GoodIn wsX12_quarrel (wsV RX12 445 RX12 yX12_allEnvies wsX12_allEnvies) := goodIn_app (goodIn_of _ (by decide +kernel)) ggX12_quarrel_X12_allEnvies
theorem dX12_quarrel_0 : decode cX12_quarrel 0 = .ok (.aload_n 0, 1) := by decide +kernel
theorem dX12_quarrel_1 : decode cX12_quarrel 1 = .ok (.invokevirtual 394, 3) := by decide +kernel
theorem dX12_quarrel_4 : decode cX12_quarrel 4 = .ok (.aload_n 0, 1) := by decide +kernel
theorem dX12_quarrel_5 : decode cX12_quarrel 5 = .ok (.invokevirtual 445, 3) := by decide +kernel
theorem dX12_quarrel_8 : decode cX12_quarrel 8 = .ok (.ireturn, 1) := by decide +kernel
set_option maxRecDepth 20000 in
theorem ggX12_calm_X12_isIn : GoodIn wsX12_calm wsX12_isIn := goodIn_r _ [6] (by decide +kernel) (by decide +kernel)
set_option maxRecDepth 20000 in
theorem gX12_calm_X12_isIn : GoodIn wsX12_calm (va_wsS RX12 371 yX12_isIn wsX12_isIn) := goodIn_app (goodIn_of _ (by decide +kernel)) ggX12_calm_X12_isIn
set_option maxRecDepth 20000 in
theorem ggX12_calm_X12_load : GoodIn wsX12_calm wsX12_load := goodIn_r _ [10, 2, 11, 59, 60, 61, 62, 63, 64, 65, 66, 67, 68, 69, 70, 71, 72, 73, 74, 75, 76, 77, 78, 79, 80, 81, 82, 83, 84, 85, 86, 87, 88, 89, 90, 91, 92, 93, 94, 95, 96, 97, 98, 99, 100, 101, 102, 103, 104, 105, 106, 107, 108, 109, 110, 111, 112, 113, 114, 115, 116, 117, 118, 119, 120, 121, 122, 123, 124, 125, 126, 127, 128, 129, 130, 131, 132, 133] (by decide +kernel) (by decide +kernel)
set_option maxRecDepth 20000 in
theorem gX12_calm_X12_load : GoodIn wsX12_calm (wsV RX12 394 RX12 yX12_load wsX12_load) := goodIn_app (goodIn_of _ (by decide +kernel)) ggX12_calm_X12_load
set_option maxRecDepth 20000 in
theorem ggX12_calm_X12_allEnvies : GoodIn wsX12_calm wsX12_allEnvies := goodIn_r _ [15, 1, 16, 17, 18, 5, 19, 20, 21, 22, 23, 2, 24, 25, 26, 27, 28, 29, 30, 31, 32, 33, 34, 35, 36, 37, 38, 39, 40, 41, 42, 43, 44, 45, 46, 47, 48, 49, 50, 51, 52, 53, 54, 55, 56, 57, 58, 59, 60, 61, 62, 63, 64, 65, 66, 67, 68, 69, 70, 71, 72, 73, 74, 75, 76, 77, 78, 79, 80, 81, 82, 83, 84, 85, 86, 87, 88, 89, 90, 91, 92, 93, 94, 95, 96, 97, 98, 99, 100, 101, 102, 103, 104, 105, 106, 107, 108, 109, 110, 111, 112, 113, 114, 115, 116, 117, 118, 119, 120, 121, 122, 123, 124, 125, 126, 127, 128, 129, 130, 131, 132, 133] (by decide +kernel) (by decide +kernel)
set_option maxRecDepth 20000 in
theorem gX12_calm_X12_allEnvies : GoodIn wsX12_calm (wsV RX12 445 RX12 yX12_allEnvies wsX12_allEnvies) := goodIn_app (goodIn_of _ (by decide +kernel)) ggX12_calm_X12_allEnvies
set_option maxRecDepth 20000 in
theorem ggX12_calm_X12_pieceOf : GoodIn wsX12_calm wsX12_pieceOf := goodIn_r _ [23, 2, 59, 60, 61, 62, 63, 64, 65, 66, 67, 68, 69, 70, 71, 72, 73, 74, 75, 76, 77, 78, 79, 80, 81, 82, 83, 84, 85, 86, 87, 88, 89, 90, 91, 92, 93, 94, 95, 96, 97, 98, 99, 100, 101, 102, 103, 104, 105, 106, 107, 108, 109, 110, 111, 112, 113, 114, 115, 116, 117, 118, 119, 120, 121, 122, 123, 124, 125, 126, 127, 128, 129, 130, 131, 132, 133] (by decide +kernel) (by decide +kernel)
set_option maxRecDepth 20000 in
theorem gX12_calm_X12_pieceOf : GoodIn wsX12_calm (wsV RX12 400 RX12 yX12_pieceOf wsX12_pieceOf) := goodIn_app (goodIn_of _ (by decide +kernel)) ggX12_calm_X12_pieceOf
theorem dX12_calm_0 : decode cX12_calm 0 = .ok (.iload_n 1, 1) := by decide +kernel
theorem dX12_calm_1 : decode cX12_calm 1 = .ok (.iconst 0, 1) := by decide +kernel
theorem dX12_calm_2 : decode cX12_calm 2 = .ok (.iconst 2, 1) := by decide +kernel
theorem dX12_calm_3 : decode cX12_calm 3 = .ok (.invokestatic 371, 3) := by decide +kernel
theorem dX12_calm_6 : decode cX12_calm 6 = .ok (.ifCond .ne 5, 3) := by decide +kernel
theorem dX12_calm_9 : decode cX12_calm 9 = .ok (.iconst (-1), 1) := by decide +kernel
theorem dX12_calm_10 : decode cX12_calm 10 = .ok (.ireturn, 1) := by decide +kernel
theorem dX12_calm_11 : decode cX12_calm 11 = .ok (.aload_n 0, 1) := by decide +kernel
theorem dX12_calm_12 : decode cX12_calm 12 = .ok (.invokevirtual 394, 3) := by decide +kernel
theorem dX12_calm_15 : decode cX12_calm 15 = .ok (.aload_n 0, 1) := by decide +kernel
theorem dX12_calm_16 : decode cX12_calm 16 = .ok (.invokevirtual 445, 3) := by decide +kernel
theorem dX12_calm_19 : decode cX12_calm 19 = .ok (.istore_n 2, 1) := by decide +kernel
theorem dX12_calm_20 : decode cX12_calm 20 = .ok (.iconst (-1), 1) := by decide +kernel
theorem dX12_calm_21 : decode cX12_calm 21 = .ok (.istore_n 3, 1) := by decide +kernel
theorem dX12_calm_22 : decode cX12_calm 22 = .ok (.iconst 0, 1) := by decide +kernel
theorem dX12_calm_23 : decode cX12_calm 23 = .ok (.istore 4, 2) := by decide +kernel
theorem dX12_calm_25 : decode cX12_calm 25 = .ok (.iload 4, 2) := by decide +kernel
theorem dX12_calm_27 : decode cX12_calm 27 = .ok (.aload_n 0, 1) := by decide +kernel
theorem dX12_calm_28 : decode cX12_calm 28 = .ok (.getfield 353, 3) := by decide +kernel
theorem dX12_calm_31 : decode cX12_calm 31 = .ok (.if_icmp .ge 120, 3) := by decide +kernel
theorem dX12_calm_34 : decode cX12_calm 34 = .ok (.iload 4, 2) := by decide +kernel
theorem dX12_calm_36 : decode cX12_calm 36 = .ok (.iconst 1, 1) := by decide +kernel
theorem dX12_calm_37 : decode cX12_calm 37 = .ok (.iadd, 1) := by decide +kernel
theorem dX12_calm_38 : decode cX12_calm 38 = .ok (.istore 5, 2) := by decide +kernel
theorem dX12_calm_40 : decode cX12_calm 40 = .ok (.iload 5, 2) := by decide +kernel
theorem dX12_calm_42 : decode cX12_calm 42 = .ok (.aload_n 0, 1) := by decide +kernel
theorem dX12_calm_43 : decode cX12_calm 43 = .ok (.getfield 353, 3) := by decide +kernel
theorem dX12_calm_46 : decode cX12_calm 46 = .ok (.if_icmp .ge 99, 3) := by decide +kernel
theorem dX12_calm_49 : decode cX12_calm 49 = .ok (.aload_n 0, 1) := by decide +kernel
theorem dX12_calm_50 : decode cX12_calm 50 = .ok (.invokevirtual 394, 3) := by decide +kernel
theorem dX12_calm_53 : decode cX12_calm 53 = .ok (.aload_n 0, 1) := by decide +kernel
theorem dX12_calm_54 : decode cX12_calm 54 = .ok (.iload 4, 2) := by decide +kernel
theorem dX12_calm_56 : decode cX12_calm 56 = .ok (.invokevirtual 400, 3) := by decide +kernel
theorem dX12_calm_59 : decode cX12_calm 59 = .ok (.istore 6, 2) := by decide +kernel
theorem dX12_calm_61 : decode cX12_calm 61 = .ok (.aload_n 0, 1) := by decide +kernel
theorem dX12_calm_62 : decode cX12_calm 62 = .ok (.iload 5, 2) := by decide +kernel
theorem dX12_calm_64 : decode cX12_calm 64 = .ok (.invokevirtual 400, 3) := by decide +kernel
theorem dX12_calm_67 : decode cX12_calm 67 = .ok (.istore 7, 2) := by decide +kernel
theorem dX12_calm_69 : decode cX12_calm 69 = .ok (.iload 6, 2) := by decide +kernel
theorem dX12_calm_71 : decode cX12_calm 71 = .ok (.ifCond .lt 68, 3) := by decide +kernel
theorem dX12_calm_74 : decode cX12_calm 74 = .ok (.iload 7, 2) := by decide +kernel
theorem dX12_calm_76 : decode cX12_calm 76 = .ok (.ifCond .ge 6, 3) := by decide +kernel
theorem dX12_calm_79 : decode cX12_calm 79 = .ok (.goto 60, 3) := by decide +kernel
theorem dX12_calm_82 : decode cX12_calm 82 = .ok (.aload_n 0, 1) := by decide +kernel
theorem dX12_calm_83 : decode cX12_calm 83 = .ok (.getfield 94, 3) := by decide +kernel
theorem dX12_calm_86 : decode cX12_calm 86 = .ok (.bipush 7, 2) := by decide +kernel
theorem dX12_calm_88 : decode cX12_calm 88 = .ok (.iload 6, 2) := by decide +kernel
theorem dX12_calm_90 : decode cX12_calm 90 = .ok (.imul, 1) := by decide +kernel
theorem dX12_calm_91 : decode cX12_calm 91 = .ok (.bipush 6, 2) := by decide +kernel
theorem dX12_calm_93 : decode cX12_calm 93 = .ok (.iadd, 1) := by decide +kernel
theorem dX12_calm_94 : decode cX12_calm 94 = .ok (.iload 5, 2) := by decide +kernel
theorem dX12_calm_96 : decode cX12_calm 96 = .ok (.iastore, 1) := by decide +kernel
theorem dX12_calm_97 : decode cX12_calm 97 = .ok (.aload_n 0, 1) := by decide +kernel
theorem dX12_calm_98 : decode cX12_calm 98 = .ok (.getfield 94, 3) := by decide +kernel
theorem dX12_calm_101 : decode cX12_calm 101 = .ok (.bipush 7, 2) := by decide +kernel
theorem dX12_calm_103 : decode cX12_calm 103 = .ok (.iload 7, 2) := by decide +kernel
theorem dX12_calm_105 : decode cX12_calm 105 = .ok (.imul, 1) := by decide +kernel
theorem dX12_calm_106 : decode cX12_calm 106 = .ok (.bipush 6, 2) := by decide +kernel
theorem dX12_calm_108 : decode cX12_calm 108 = .ok (.iadd, 1) := by decide +kernel
theorem dX12_calm_109 : decode cX12_calm 109 = .ok (.iload 4, 2) := by decide +kernel
theorem dX12_calm_111 : decode cX12_calm 111 = .ok (.iastore, 1) := by decide +kernel
theorem dX12_calm_112 : decode cX12_calm 112 = .ok (.aload_n 0, 1) := by decide +kernel
theorem dX12_calm_113 : decode cX12_calm 113 = .ok (.invokevirtual 445, 3) := by decide +kernel
theorem dX12_calm_116 : decode cX12_calm 116 = .ok (.istore 8, 2) := by decide +kernel
theorem dX12_calm_118 : decode cX12_calm 118 = .ok (.iload 8, 2) := by decide +kernel
theorem dX12_calm_120 : decode cX12_calm 120 = .ok (.iload_n 2, 1) := by decide +kernel
theorem dX12_calm_121 : decode cX12_calm 121 = .ok (.if_icmp .lt 6, 3) := by decide +kernel
theorem dX12_calm_124 : decode cX12_calm 124 = .ok (.goto 15, 3) := by decide +kernel
theorem dX12_calm_127 : decode cX12_calm 127 = .ok (.iload 8, 2) := by decide +kernel
theorem dX12_calm_129 : decode cX12_calm 129 = .ok (.istore_n 2, 1) := by decide +kernel
theorem dX12_calm_130 : decode cX12_calm 130 = .ok (.bipush 6, 2) := by decide +kernel
theorem dX12_calm_132 : decode cX12_calm 132 = .ok (.iload 4, 2) := by decide +kernel
theorem dX12_calm_134 : decode cX12_calm 134 = .ok (.imul, 1) := by decide +kernel
theorem dX12_calm_135 : decode cX12_calm 135 = .ok (.iload 5, 2) := by decide +kernel
theorem dX12_calm_137 : decode cX12_calm 137 = .ok (.iadd, 1) := by decide +kernel
theorem dX12_calm_138 : decode cX12_calm 138 = .ok (.istore_n 3, 1) := by decide +kernel
theorem dX12_calm_139 : decode cX12_calm 139 = .ok (.iinc 5 1, 3) := by decide +kernel
theorem dX12_calm_142 : decode cX12_calm 142 = .ok (.goto (-102), 3) := by decide +kernel
theorem dX12_calm_145 : decode cX12_calm 145 = .ok (.iinc 4 1, 3) := by decide +kernel
theorem dX12_calm_148 : decode cX12_calm 148 = .ok (.goto (-123), 3) := by decide +kernel
theorem dX12_calm_151 : decode cX12_calm 151 = .ok (.iload_n 3, 1) := by decide +kernel
theorem dX12_calm_152 : decode cX12_calm 152 = .ok (.ifCond .ge 7, 3) := by decide +kernel
theorem dX12_calm_155 : decode cX12_calm 155 = .ok (.iconst (-1), 1) := by decide +kernel
theorem dX12_calm_156 : decode cX12_calm 156 = .ok (.goto 27, 3) := by decide +kernel
theorem dX12_calm_159 : decode cX12_calm 159 = .ok (.iload_n 1, 1) := by decide +kernel
theorem dX12_calm_160 : decode cX12_calm 160 = .ok (.ifCond .ne 10, 3) := by decide +kernel
theorem dX12_calm_163 : decode cX12_calm 163 = .ok (.iload_n 3, 1) := by decide +kernel
theorem dX12_calm_164 : decode cX12_calm 164 = .ok (.bipush 6, 2) := by decide +kernel
theorem dX12_calm_166 : decode cX12_calm 166 = .ok (.idiv, 1) := by decide +kernel
theorem dX12_calm_167 : decode cX12_calm 167 = .ok (.goto 16, 3) := by decide +kernel
theorem dX12_calm_170 : decode cX12_calm 170 = .ok (.iload_n 1, 1) := by decide +kernel
theorem dX12_calm_171 : decode cX12_calm 171 = .ok (.iconst 1, 1) := by decide +kernel
theorem dX12_calm_172 : decode cX12_calm 172 = .ok (.if_icmp .ne 10, 3) := by decide +kernel
theorem dX12_calm_175 : decode cX12_calm 175 = .ok (.iload_n 3, 1) := by decide +kernel
theorem dX12_calm_176 : decode cX12_calm 176 = .ok (.bipush 6, 2) := by decide +kernel
theorem dX12_calm_178 : decode cX12_calm 178 = .ok (.irem, 1) := by decide +kernel
theorem dX12_calm_179 : decode cX12_calm 179 = .ok (.goto 4, 3) := by decide +kernel
theorem dX12_calm_182 : decode cX12_calm 182 = .ok (.iload_n 2, 1) := by decide +kernel
theorem dX12_calm_183 : decode cX12_calm 183 = .ok (.ireturn, 1) := by decide +kernel
set_option maxRecDepth 20000 in
theorem ggX12_layHalve_X12_load : GoodIn wsX12_layHalve wsX12_load := goodIn_r _ [8, 9, 10, 61, 62, 63, 64, 65, 66, 67, 68, 69, 70, 71, 72, 73, 74, 75, 76, 77, 78, 79, 80, 81, 82, 83, 84, 85, 86, 87, 88, 89, 90, 91, 92, 93, 94, 95, 96, 97, 98, 99, 100, 101, 102, 103, 104, 105, 106, 107, 108, 109, 110, 111, 112, 113, 114, 115, 116, 117, 118, 119, 120, 121, 122, 123, 124, 125, 126, 127, 128, 129, 130, 131, 132, 133, 134, 135] (by decide +kernel) (by decide +kernel)
set_option maxRecDepth 20000 in
theorem gX12_layHalve_X12_load : GoodIn wsX12_layHalve (wsV RX12 394 RX12 yX12_load wsX12_load) := goodIn_app (goodIn_of _ (by decide +kernel)) ggX12_layHalve_X12_load
set_option maxRecDepth 20000 in
theorem ggX12_layHalve_X12_canCut : GoodIn wsX12_layHalve wsX12_canCut := goodIn_r _ [14, 9, 15, 16, 7, 17, 18, 19, 20, 21, 61, 62, 63, 64, 65, 66, 67, 68, 69, 70, 71, 72, 73, 74, 75, 76, 77, 78, 79, 80, 81, 82, 83, 84, 85, 86, 87, 88, 89, 90, 91, 92, 93, 94, 95, 96, 97, 98, 99, 100, 101, 102, 103, 104, 105, 106, 107, 108, 109, 110, 111, 112, 113, 114, 115, 116, 117, 118, 119, 120, 121, 122, 123, 124, 125, 126, 127, 128, 129, 130, 131, 132, 133, 134, 135] (by decide +kernel) (by decide +kernel)
set_option maxRecDepth 20000 in
theorem gX12_layHalve_X12_canCut : GoodIn wsX12_layHalve (wsV RX12 407 RX12 yX12_canCut wsX12_canCut) := goodIn_app (goodIn_of _ (by decide +kernel)) ggX12_layHalve_X12_canCut
set_option maxRecDepth 20000 in
theorem ggX12_layHalve_X12_goCut : GoodIn wsX12_layHalve wsX12_goCut := goodIn_r _ [25, 9, 61, 62, 63, 64, 65, 66, 67, 68, 69, 70, 71, 72, 73, 74, 75, 76, 77, 78, 79, 80, 81, 82, 83, 84, 85, 86, 87, 88, 89, 90, 91, 92, 93, 94, 95, 96, 97, 98, 99, 100, 101, 102, 103, 104, 105, 106, 107, 108, 109, 110, 111, 112, 113, 114, 115, 116, 117, 118, 119, 120, 121, 122, 123, 124, 125, 126, 127, 128, 129, 130, 131, 132, 133, 134, 135] (by decide +kernel) (by decide +kernel)
set_option maxRecDepth 20000 in
theorem gX12_layHalve_X12_goCut : GoodIn wsX12_layHalve (wsV RX12 416 RX12 yX12_goCut wsX12_goCut) := goodIn_app (goodIn_of _ (by decide +kernel)) ggX12_layHalve_X12_goCut
set_option maxRecDepth 20000 in
theorem ggX12_layHalve_X12_worthOf : GoodIn wsX12_layHalve wsX12_worthOf := goodIn_r _ [29, 30, 31, 32, 33, 34, 7, 35, 9, 36, 37, 38, 39, 40, 41, 42, 43, 44, 45, 46, 47, 48, 49, 50, 51, 52, 53, 54, 55, 56, 57, 58, 59, 60, 61, 62, 63, 64, 65, 66, 67, 68, 69, 70, 71, 72, 73, 74, 75, 76, 77, 78, 79, 80, 81, 82, 83, 84, 85, 86, 87, 88, 89, 90, 91, 92, 93, 94, 95, 96, 97, 98, 99, 100, 101, 102, 103, 104, 105, 106, 107, 108, 109, 110, 111, 112, 113, 114, 115, 116, 117, 118, 119, 120, 121, 122, 123, 124, 125, 126, 127, 128, 129, 130, 131, 132, 133, 134, 135] (by decide +kernel) (by decide +kernel)
set_option maxRecDepth 20000 in
theorem gX12_layHalve_X12_worthOf : GoodIn wsX12_layHalve (wsV RX12 403 RX12 yX12_worthOf wsX12_worthOf) := goodIn_app (goodIn_of _ (by decide +kernel)) ggX12_layHalve_X12_worthOf
set_option maxRecDepth 20000 in
theorem ggX12_layHalve_X12_truth : GoodIn wsX12_layHalve wsX12_truth := goodIn_r _ [49] (by decide +kernel) (by decide +kernel)
set_option maxRecDepth 20000 in
theorem gX12_layHalve_X12_truth : GoodIn wsX12_layHalve (va_wsS RX12 302 yX12_truth wsX12_truth) := goodIn_app (goodIn_of _ (by decide +kernel)) ggX12_layHalve_X12_truth
theorem dX12_layHalve_0 : decode cX12_layHalve 0 = .ok (.aload_n 0, 1) := by decide +kernel
theorem dX12_layHalve_1 : decode cX12_layHalve 1 = .ok (.iconst (-1), 1) := by decide +kernel
theorem dX12_layHalve_2 : decode cX12_layHalve 2 = .ok (.putfield 448, 3) := by decide +kernel
theorem dX12_layHalve_5 : decode cX12_layHalve 5 = .ok (.iconst 0, 1) := by decide +kernel
theorem dX12_layHalve_6 : decode cX12_layHalve 6 = .ok (.istore 4, 2) := by decide +kernel
theorem dX12_layHalve_8 : decode cX12_layHalve 8 = .ok (.iload 4, 2) := by decide +kernel
theorem dX12_layHalve_10 : decode cX12_layHalve 10 = .ok (.bipush 16, 2) := by decide +kernel
theorem dX12_layHalve_12 : decode cX12_layHalve 12 = .ok (.if_icmp .ge 133, 3) := by decide +kernel
theorem dX12_layHalve_15 : decode cX12_layHalve 15 = .ok (.aload_n 0, 1) := by decide +kernel
theorem dX12_layHalve_16 : decode cX12_layHalve 16 = .ok (.invokevirtual 394, 3) := by decide +kernel
theorem dX12_layHalve_19 : decode cX12_layHalve 19 = .ok (.aload_n 0, 1) := by decide +kernel
theorem dX12_layHalve_20 : decode cX12_layHalve 20 = .ok (.iload_n 1, 1) := by decide +kernel
theorem dX12_layHalve_21 : decode cX12_layHalve 21 = .ok (.iload 4, 2) := by decide +kernel
theorem dX12_layHalve_23 : decode cX12_layHalve 23 = .ok (.bipush 8, 2) := by decide +kernel
theorem dX12_layHalve_25 : decode cX12_layHalve 25 = .ok (.idiv, 1) := by decide +kernel
theorem dX12_layHalve_26 : decode cX12_layHalve 26 = .ok (.iload 4, 2) := by decide +kernel
theorem dX12_layHalve_28 : decode cX12_layHalve 28 = .ok (.bipush 8, 2) := by decide +kernel
theorem dX12_layHalve_30 : decode cX12_layHalve 30 = .ok (.irem, 1) := by decide +kernel
theorem dX12_layHalve_31 : decode cX12_layHalve 31 = .ok (.invokevirtual 407, 3) := by decide +kernel
theorem dX12_layHalve_34 : decode cX12_layHalve 34 = .ok (.ifCond .ne 6, 3) := by decide +kernel
theorem dX12_layHalve_37 : decode cX12_layHalve 37 = .ok (.goto 102, 3) := by decide +kernel
theorem dX12_layHalve_40 : decode cX12_layHalve 40 = .ok (.aload_n 0, 1) := by decide +kernel
theorem dX12_layHalve_41 : decode cX12_layHalve 41 = .ok (.iload_n 1, 1) := by decide +kernel
theorem dX12_layHalve_42 : decode cX12_layHalve 42 = .ok (.iload 4, 2) := by decide +kernel
theorem dX12_layHalve_44 : decode cX12_layHalve 44 = .ok (.bipush 8, 2) := by decide +kernel
theorem dX12_layHalve_46 : decode cX12_layHalve 46 = .ok (.idiv, 1) := by decide +kernel
theorem dX12_layHalve_47 : decode cX12_layHalve 47 = .ok (.iload 4, 2) := by decide +kernel
theorem dX12_layHalve_49 : decode cX12_layHalve 49 = .ok (.bipush 8, 2) := by decide +kernel
theorem dX12_layHalve_51 : decode cX12_layHalve 51 = .ok (.irem, 1) := by decide +kernel
theorem dX12_layHalve_52 : decode cX12_layHalve 52 = .ok (.invokevirtual 416, 3) := by decide +kernel
theorem dX12_layHalve_55 : decode cX12_layHalve 55 = .ok (.istore 5, 2) := by decide +kernel
theorem dX12_layHalve_57 : decode cX12_layHalve 57 = .ok (.aload_n 0, 1) := by decide +kernel
theorem dX12_layHalve_58 : decode cX12_layHalve 58 = .ok (.iload_n 3, 1) := by decide +kernel
theorem dX12_layHalve_59 : decode cX12_layHalve 59 = .ok (.iload 5, 2) := by decide +kernel
theorem dX12_layHalve_61 : decode cX12_layHalve 61 = .ok (.invokevirtual 403, 3) := by decide +kernel
theorem dX12_layHalve_64 : decode cX12_layHalve 64 = .ok (.aload_n 0, 1) := by decide +kernel
theorem dX12_layHalve_65 : decode cX12_layHalve 65 = .ok (.iload_n 3, 1) := by decide +kernel
theorem dX12_layHalve_66 : decode cX12_layHalve 66 = .ok (.iload_n 1, 1) := by decide +kernel
theorem dX12_layHalve_67 : decode cX12_layHalve 67 = .ok (.invokevirtual 403, 3) := by decide +kernel
theorem dX12_layHalve_70 : decode cX12_layHalve 70 = .ok (.if_icmp .le 7, 3) := by decide +kernel
theorem dX12_layHalve_73 : decode cX12_layHalve 73 = .ok (.iconst 1, 1) := by decide +kernel
theorem dX12_layHalve_74 : decode cX12_layHalve 74 = .ok (.goto 4, 3) := by decide +kernel
theorem dX12_layHalve_77 : decode cX12_layHalve 77 = .ok (.iconst 0, 1) := by decide +kernel
theorem dX12_layHalve_78 : decode cX12_layHalve 78 = .ok (.invokestatic 302, 3) := by decide +kernel
theorem dX12_layHalve_81 : decode cX12_layHalve 81 = .ok (.istore 6, 2) := by decide +kernel
theorem dX12_layHalve_83 : decode cX12_layHalve 83 = .ok (.aload_n 0, 1) := by decide +kernel
theorem dX12_layHalve_84 : decode cX12_layHalve 84 = .ok (.iload_n 2, 1) := by decide +kernel
theorem dX12_layHalve_85 : decode cX12_layHalve 85 = .ok (.iload 6, 2) := by decide +kernel
theorem dX12_layHalve_87 : decode cX12_layHalve 87 = .ok (.iconst 1, 1) := by decide +kernel
theorem dX12_layHalve_88 : decode cX12_layHalve 88 = .ok (.if_icmp .ne 7, 3) := by decide +kernel
theorem dX12_layHalve_91 : decode cX12_layHalve 91 = .ok (.iload_n 1, 1) := by decide +kernel
theorem dX12_layHalve_92 : decode cX12_layHalve 92 = .ok (.goto 5, 3) := by decide +kernel
theorem dX12_layHalve_95 : decode cX12_layHalve 95 = .ok (.iload 5, 2) := by decide +kernel
theorem dX12_layHalve_97 : decode cX12_layHalve 97 = .ok (.invokevirtual 403, 3) := by decide +kernel
theorem dX12_layHalve_100 : decode cX12_layHalve 100 = .ok (.istore 7, 2) := by decide +kernel
theorem dX12_layHalve_102 : decode cX12_layHalve 102 = .ok (.aload_n 0, 1) := by decide +kernel
theorem dX12_layHalve_103 : decode cX12_layHalve 103 = .ok (.getfield 448, 3) := by decide +kernel
theorem dX12_layHalve_106 : decode cX12_layHalve 106 = .ok (.ifCond .lt 15, 3) := by decide +kernel
theorem dX12_layHalve_109 : decode cX12_layHalve 109 = .ok (.iload 7, 2) := by decide +kernel
theorem dX12_layHalve_111 : decode cX12_layHalve 111 = .ok (.aload_n 0, 1) := by decide +kernel
theorem dX12_layHalve_112 : decode cX12_layHalve 112 = .ok (.getfield 451, 3) := by decide +kernel
theorem dX12_layHalve_115 : decode cX12_layHalve 115 = .ok (.if_icmp .gt 6, 3) := by decide +kernel
theorem dX12_layHalve_118 : decode cX12_layHalve 118 = .ok (.goto 21, 3) := by decide +kernel
theorem dX12_layHalve_121 : decode cX12_layHalve 121 = .ok (.aload_n 0, 1) := by decide +kernel
theorem dX12_layHalve_122 : decode cX12_layHalve 122 = .ok (.iload 4, 2) := by decide +kernel
theorem dX12_layHalve_124 : decode cX12_layHalve 124 = .ok (.putfield 448, 3) := by decide +kernel
theorem dX12_layHalve_127 : decode cX12_layHalve 127 = .ok (.aload_n 0, 1) := by decide +kernel
theorem dX12_layHalve_128 : decode cX12_layHalve 128 = .ok (.iload 6, 2) := by decide +kernel
theorem dX12_layHalve_130 : decode cX12_layHalve 130 = .ok (.putfield 454, 3) := by decide +kernel
theorem dX12_layHalve_133 : decode cX12_layHalve 133 = .ok (.aload_n 0, 1) := by decide +kernel
theorem dX12_layHalve_134 : decode cX12_layHalve 134 = .ok (.iload 7, 2) := by decide +kernel
theorem dX12_layHalve_136 : decode cX12_layHalve 136 = .ok (.putfield 451, 3) := by decide +kernel
theorem dX12_layHalve_139 : decode cX12_layHalve 139 = .ok (.iinc 4 1, 3) := by decide +kernel
theorem dX12_layHalve_142 : decode cX12_layHalve 142 = .ok (.goto (-134), 3) := by decide +kernel
theorem dX12_layHalve_145 : decode cX12_layHalve 145 = .ok (.return_, 1) := by decide +kernel
set_option maxRecDepth 20000 in
theorem ggX12_canHalve_X12_isPiece : GoodIn wsX12_canHalve wsX12_isPiece := goodIn_r _ [5, 6, 7, 8, 4, 9, 15, 16, 17, 18, 19, 20, 21, 22, 23, 24, 25, 26, 27, 28, 29, 30, 31, 32, 33, 34, 35, 36, 37, 38, 39, 40, 41, 42, 43, 44, 45, 46, 47, 48, 49, 50, 51, 52, 53, 54, 55, 56, 57, 58, 59, 60, 61, 62, 63, 64, 65, 66, 67, 68, 69, 70, 71, 72, 73, 74, 75, 76, 77, 78, 79, 80, 81, 82, 83, 84, 85, 86, 87, 88, 89] (by decide +kernel) (by decide +kernel)
set_option maxRecDepth 20000 in
theorem gX12_canHalve_X12_isPiece : GoodIn wsX12_canHalve (wsV RX12 391 RX12 yX12_isPiece wsX12_isPiece) := goodIn_app (goodIn_of _ (by decide +kernel)) ggX12_canHalve_X12_isPiece
set_option maxRecDepth 20000 in
theorem ggX12_canHalve_X12_isGuest : GoodIn wsX12_canHalve wsX12_isGuest := goodIn_r _ [13, 14, 7, 8, 4, 9, 15, 16, 17, 18, 19, 20, 21, 22, 23, 24, 25, 26, 27, 28, 29, 30, 31, 32, 33, 34, 35, 36, 37, 38, 39, 40, 41, 42, 43, 44, 45, 46, 47, 48, 49, 50, 51, 52, 53, 54, 55, 56, 57, 58, 59, 60, 61, 62, 63, 64, 65, 66, 67, 68, 69, 70, 71, 72, 73, 74, 75, 76, 77, 78, 79, 80, 81, 82, 83, 84, 85, 86, 87, 88, 89] (by decide +kernel) (by decide +kernel)
set_option maxRecDepth 20000 in
theorem gX12_canHalve_X12_isGuest : GoodIn wsX12_canHalve (wsV RX12 397 RX12 yX12_isGuest wsX12_isGuest) := goodIn_app (goodIn_of _ (by decide +kernel)) ggX12_canHalve_X12_isGuest
theorem dX12_canHalve_0 : decode cX12_canHalve 0 = .ok (.aload_n 0, 1) := by decide +kernel
theorem dX12_canHalve_1 : decode cX12_canHalve 1 = .ok (.iload_n 1, 1) := by decide +kernel
theorem dX12_canHalve_2 : decode cX12_canHalve 2 = .ok (.invokevirtual 391, 3) := by decide +kernel
theorem dX12_canHalve_5 : decode cX12_canHalve 5 = .ok (.ifCond .eq 28, 3) := by decide +kernel
theorem dX12_canHalve_8 : decode cX12_canHalve 8 = .ok (.aload_n 0, 1) := by decide +kernel
theorem dX12_canHalve_9 : decode cX12_canHalve 9 = .ok (.iload_n 2, 1) := by decide +kernel
theorem dX12_canHalve_10 : decode cX12_canHalve 10 = .ok (.invokevirtual 397, 3) := by decide +kernel
theorem dX12_canHalve_13 : decode cX12_canHalve 13 = .ok (.ifCond .eq 20, 3) := by decide +kernel
theorem dX12_canHalve_16 : decode cX12_canHalve 16 = .ok (.aload_n 0, 1) := by decide +kernel
theorem dX12_canHalve_17 : decode cX12_canHalve 17 = .ok (.iload_n 3, 1) := by decide +kernel
theorem dX12_canHalve_18 : decode cX12_canHalve 18 = .ok (.invokevirtual 397, 3) := by decide +kernel
theorem dX12_canHalve_21 : decode cX12_canHalve 21 = .ok (.ifCond .eq 12, 3) := by decide +kernel
theorem dX12_canHalve_24 : decode cX12_canHalve 24 = .ok (.iload_n 2, 1) := by decide +kernel
theorem dX12_canHalve_25 : decode cX12_canHalve 25 = .ok (.iload_n 3, 1) := by decide +kernel
theorem dX12_canHalve_26 : decode cX12_canHalve 26 = .ok (.if_icmp .eq 7, 3) := by decide +kernel
theorem dX12_canHalve_29 : decode cX12_canHalve 29 = .ok (.iconst 1, 1) := by decide +kernel
theorem dX12_canHalve_30 : decode cX12_canHalve 30 = .ok (.goto 4, 3) := by decide +kernel
theorem dX12_canHalve_33 : decode cX12_canHalve 33 = .ok (.iconst 0, 1) := by decide +kernel
