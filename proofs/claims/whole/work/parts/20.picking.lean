set_option maxRecDepth 20000 in
theorem ggX5_findHalves_X1_isFree : GoodIn wsX5_findHalves wsX1_isFree := goodIn_r _ [14, 15, 16, 17, 18, 19, 13, 20, 21, 119, 120, 121, 122, 123, 124, 125, 126, 127, 128, 129, 130, 131] (by decide +kernel) (by decide +kernel)
set_option maxRecDepth 20000 in
theorem gX5_findHalves_X1_isFree : GoodIn wsX5_findHalves (wsV RX5 40 RX1 yX1_isFree wsX1_isFree) := goodIn_app (goodIn_of _ (by decide +kernel)) ggX5_findHalves_X1_isFree
set_option maxRecDepth 20000 in
theorem ggX5_findHalves_X9_extent : GoodIn wsX5_findHalves wsX9_extent := goodIn_r _ [26, 27, 28, 125, 126, 127, 128, 129, 130, 131] (by decide +kernel) (by decide +kernel)
set_option maxRecDepth 20000 in
theorem gX5_findHalves_X9_extent : GoodIn wsX5_findHalves (wsV RX5 50 RX9 yX9_extent wsX9_extent) := goodIn_app (goodIn_of _ (by decide +kernel)) ggX5_findHalves_X9_extent
set_option maxRecDepth 20000 in
theorem ggX5_findHalves_X9_takeFrom : GoodIn wsX5_findHalves wsX9_takeFrom := goodIn_r _ [32, 33, 34, 35, 27, 28, 36, 37, 125, 126, 127, 128, 129, 130, 131] (by decide +kernel) (by decide +kernel)
set_option maxRecDepth 20000 in
theorem gX5_findHalves_X9_takeFrom : GoodIn wsX5_findHalves (wsV RX5 54 RX9 yX9_takeFrom wsX9_takeFrom) := goodIn_app (goodIn_of _ (by decide +kernel)) ggX5_findHalves_X9_takeFrom
set_option maxRecDepth 20000 in
theorem ggX5_findHalves_X9_keepAhead : GoodIn wsX5_findHalves wsX9_keepAhead := goodIn_r _ [41, 27, 28, 125, 126, 127, 128, 129, 130, 131] (by decide +kernel) (by decide +kernel)
set_option maxRecDepth 20000 in
theorem gX5_findHalves_X9_keepAhead : GoodIn wsX5_findHalves (wsV RX5 58 RX9 yX9_keepAhead wsX9_keepAhead) := goodIn_app (goodIn_of _ (by decide +kernel)) ggX5_findHalves_X9_keepAhead
set_option maxRecDepth 20000 in
theorem ggX5_findHalves_X9_keepBehind : GoodIn wsX5_findHalves wsX9_keepBehind := goodIn_r _ [45, 34, 27, 35, 28, 125, 126, 127, 128, 129, 130, 131] (by decide +kernel) (by decide +kernel)
set_option maxRecDepth 20000 in
theorem gX5_findHalves_X9_keepBehind : GoodIn wsX5_findHalves (wsV RX5 62 RX9 yX9_keepBehind wsX9_keepBehind) := goodIn_app (goodIn_of _ (by decide +kernel)) ggX5_findHalves_X9_keepBehind
set_option maxRecDepth 20000 in
theorem ggX5_findHalves_X10_ofSlab : GoodIn wsX5_findHalves wsX10_ofSlab := goodIn_r _ [50, 51, 52, 53, 54, 55, 56, 57, 49, 58, 59, 60, 61, 62, 63, 64, 65, 66, 67, 68, 69, 70, 71, 72, 73, 74, 75, 76, 77, 78, 79, 80, 81, 82, 83, 84, 85, 86, 87, 88, 89, 90, 91, 92, 93, 94, 95, 96, 97, 98, 99, 100, 101, 102, 132, 133, 134, 135, 136, 137, 138, 139, 140, 141, 142, 143, 144, 145, 146, 147, 148, 149, 150, 151, 152, 153, 154, 125, 126, 127, 128, 129, 130, 131, 119, 120, 121, 122, 123, 124, 155, 156, 157, 158, 159] (by decide +kernel) (by decide +kernel)
set_option maxRecDepth 20000 in
theorem gX5_findHalves_X10_ofSlab : GoodIn wsX5_findHalves (wsV RX5 65 RX10 yX10_ofSlab wsX10_ofSlab) := goodIn_app (goodIn_of _ (by decide +kernel)) ggX5_findHalves_X10_ofSlab
theorem dX5_findHalves_0 : decode cX5_findHalves 0 = .ok (.aload_n 0, 1) := by decide +kernel
theorem dX5_findHalves_1 : decode cX5_findHalves 1 = .ok (.getfield 15, 3) := by decide +kernel
theorem dX5_findHalves_4 : decode cX5_findHalves 4 = .ok (.iload_n 1, 1) := by decide +kernel
theorem dX5_findHalves_5 : decode cX5_findHalves 5 = .ok (.invokevirtual 40, 3) := by decide +kernel
theorem dX5_findHalves_8 : decode cX5_findHalves 8 = .ok (.ifCond .ne 5, 3) := by decide +kernel
theorem dX5_findHalves_11 : decode cX5_findHalves 11 = .ok (.iconst 0, 1) := by decide +kernel
theorem dX5_findHalves_12 : decode cX5_findHalves 12 = .ok (.ireturn, 1) := by decide +kernel
theorem dX5_findHalves_13 : decode cX5_findHalves 13 = .ok (.aload_n 0, 1) := by decide +kernel
theorem dX5_findHalves_14 : decode cX5_findHalves 14 = .ok (.getfield 15, 3) := by decide +kernel
theorem dX5_findHalves_17 : decode cX5_findHalves 17 = .ok (.getfield 46, 3) := by decide +kernel
theorem dX5_findHalves_20 : decode cX5_findHalves 20 = .ok (.iload_n 1, 1) := by decide +kernel
theorem dX5_findHalves_21 : decode cX5_findHalves 21 = .ok (.aaload, 1) := by decide +kernel
theorem dX5_findHalves_22 : decode cX5_findHalves 22 = .ok (.astore 4, 2) := by decide +kernel
theorem dX5_findHalves_24 : decode cX5_findHalves 24 = .ok (.iconst 0, 1) := by decide +kernel
theorem dX5_findHalves_25 : decode cX5_findHalves 25 = .ok (.istore 5, 2) := by decide +kernel
theorem dX5_findHalves_27 : decode cX5_findHalves 27 = .ok (.iconst 0, 1) := by decide +kernel
theorem dX5_findHalves_28 : decode cX5_findHalves 28 = .ok (.istore 6, 2) := by decide +kernel
theorem dX5_findHalves_30 : decode cX5_findHalves 30 = .ok (.iload 6, 2) := by decide +kernel
theorem dX5_findHalves_32 : decode cX5_findHalves 32 = .ok (.iconst 1, 1) := by decide +kernel
theorem dX5_findHalves_33 : decode cX5_findHalves 33 = .ok (.if_icmp .gt 179, 3) := by decide +kernel
theorem dX5_findHalves_36 : decode cX5_findHalves 36 = .ok (.iconst 1, 1) := by decide +kernel
theorem dX5_findHalves_37 : decode cX5_findHalves 37 = .ok (.istore 7, 2) := by decide +kernel
theorem dX5_findHalves_39 : decode cX5_findHalves 39 = .ok (.iload 7, 2) := by decide +kernel
theorem dX5_findHalves_41 : decode cX5_findHalves 41 = .ok (.aload 4, 2) := by decide +kernel
theorem dX5_findHalves_43 : decode cX5_findHalves 43 = .ok (.iload 6, 2) := by decide +kernel
theorem dX5_findHalves_45 : decode cX5_findHalves 45 = .ok (.invokevirtual 50, 3) := by decide +kernel
theorem dX5_findHalves_48 : decode cX5_findHalves 48 = .ok (.if_icmp .ge 158, 3) := by decide +kernel
theorem dX5_findHalves_51 : decode cX5_findHalves 51 = .ok (.aload_n 0, 1) := by decide +kernel
theorem dX5_findHalves_52 : decode cX5_findHalves 52 = .ok (.getfield 26, 3) := by decide +kernel
theorem dX5_findHalves_55 : decode cX5_findHalves 55 = .ok (.aload 4, 2) := by decide +kernel
theorem dX5_findHalves_57 : decode cX5_findHalves 57 = .ok (.invokevirtual 54, 3) := by decide +kernel
theorem dX5_findHalves_60 : decode cX5_findHalves 60 = .ok (.aload_n 0, 1) := by decide +kernel
theorem dX5_findHalves_61 : decode cX5_findHalves 61 = .ok (.getfield 26, 3) := by decide +kernel
theorem dX5_findHalves_64 : decode cX5_findHalves 64 = .ok (.iload 6, 2) := by decide +kernel
theorem dX5_findHalves_66 : decode cX5_findHalves 66 = .ok (.iload 7, 2) := by decide +kernel
theorem dX5_findHalves_68 : decode cX5_findHalves 68 = .ok (.invokevirtual 58, 3) := by decide +kernel
theorem dX5_findHalves_71 : decode cX5_findHalves 71 = .ok (.aload_n 0, 1) := by decide +kernel
theorem dX5_findHalves_72 : decode cX5_findHalves 72 = .ok (.getfield 30, 3) := by decide +kernel
theorem dX5_findHalves_75 : decode cX5_findHalves 75 = .ok (.aload 4, 2) := by decide +kernel
theorem dX5_findHalves_77 : decode cX5_findHalves 77 = .ok (.invokevirtual 54, 3) := by decide +kernel
theorem dX5_findHalves_80 : decode cX5_findHalves 80 = .ok (.aload_n 0, 1) := by decide +kernel
theorem dX5_findHalves_81 : decode cX5_findHalves 81 = .ok (.getfield 30, 3) := by decide +kernel
theorem dX5_findHalves_84 : decode cX5_findHalves 84 = .ok (.iload 6, 2) := by decide +kernel
theorem dX5_findHalves_86 : decode cX5_findHalves 86 = .ok (.iload 7, 2) := by decide +kernel
theorem dX5_findHalves_88 : decode cX5_findHalves 88 = .ok (.invokevirtual 62, 3) := by decide +kernel
theorem dX5_findHalves_91 : decode cX5_findHalves 91 = .ok (.aload_n 0, 1) := by decide +kernel
theorem dX5_findHalves_92 : decode cX5_findHalves 92 = .ok (.getfield 19, 3) := by decide +kernel
theorem dX5_findHalves_95 : decode cX5_findHalves 95 = .ok (.iload_n 3, 1) := by decide +kernel
theorem dX5_findHalves_96 : decode cX5_findHalves 96 = .ok (.aload_n 0, 1) := by decide +kernel
theorem dX5_findHalves_97 : decode cX5_findHalves 97 = .ok (.getfield 30, 3) := by decide +kernel
theorem dX5_findHalves_100 : decode cX5_findHalves 100 = .ok (.invokevirtual 65, 3) := by decide +kernel
theorem dX5_findHalves_103 : decode cX5_findHalves 103 = .ok (.aload_n 0, 1) := by decide +kernel
theorem dX5_findHalves_104 : decode cX5_findHalves 104 = .ok (.getfield 19, 3) := by decide +kernel
theorem dX5_findHalves_107 : decode cX5_findHalves 107 = .ok (.iload_n 3, 1) := by decide +kernel
theorem dX5_findHalves_108 : decode cX5_findHalves 108 = .ok (.aload_n 0, 1) := by decide +kernel
theorem dX5_findHalves_109 : decode cX5_findHalves 109 = .ok (.getfield 26, 3) := by decide +kernel
theorem dX5_findHalves_112 : decode cX5_findHalves 112 = .ok (.invokevirtual 65, 3) := by decide +kernel
theorem dX5_findHalves_115 : decode cX5_findHalves 115 = .ok (.if_icmp .le 7, 3) := by decide +kernel
theorem dX5_findHalves_118 : decode cX5_findHalves 118 = .ok (.iconst 1, 1) := by decide +kernel
theorem dX5_findHalves_119 : decode cX5_findHalves 119 = .ok (.goto 4, 3) := by decide +kernel
theorem dX5_findHalves_122 : decode cX5_findHalves 122 = .ok (.iconst 0, 1) := by decide +kernel
theorem dX5_findHalves_123 : decode cX5_findHalves 123 = .ok (.istore 8, 2) := by decide +kernel
theorem dX5_findHalves_125 : decode cX5_findHalves 125 = .ok (.aload_n 0, 1) := by decide +kernel
theorem dX5_findHalves_126 : decode cX5_findHalves 126 = .ok (.getfield 19, 3) := by decide +kernel
theorem dX5_findHalves_129 : decode cX5_findHalves 129 = .ok (.iload_n 2, 1) := by decide +kernel
theorem dX5_findHalves_130 : decode cX5_findHalves 130 = .ok (.iload 8, 2) := by decide +kernel
theorem dX5_findHalves_132 : decode cX5_findHalves 132 = .ok (.ifCond .eq 10, 3) := by decide +kernel
theorem dX5_findHalves_135 : decode cX5_findHalves 135 = .ok (.aload_n 0, 1) := by decide +kernel
theorem dX5_findHalves_136 : decode cX5_findHalves 136 = .ok (.getfield 26, 3) := by decide +kernel
theorem dX5_findHalves_139 : decode cX5_findHalves 139 = .ok (.goto 7, 3) := by decide +kernel
theorem dX5_findHalves_142 : decode cX5_findHalves 142 = .ok (.aload_n 0, 1) := by decide +kernel
theorem dX5_findHalves_143 : decode cX5_findHalves 143 = .ok (.getfield 30, 3) := by decide +kernel
theorem dX5_findHalves_146 : decode cX5_findHalves 146 = .ok (.invokevirtual 65, 3) := by decide +kernel
theorem dX5_findHalves_149 : decode cX5_findHalves 149 = .ok (.istore 9, 2) := by decide +kernel
theorem dX5_findHalves_151 : decode cX5_findHalves 151 = .ok (.iload 5, 2) := by decide +kernel
theorem dX5_findHalves_153 : decode cX5_findHalves 153 = .ok (.ifCond .eq 12, 3) := by decide +kernel
theorem dX5_findHalves_156 : decode cX5_findHalves 156 = .ok (.iload 9, 2) := by decide +kernel
theorem dX5_findHalves_158 : decode cX5_findHalves 158 = .ok (.aload_n 0, 1) := by decide +kernel
theorem dX5_findHalves_159 : decode cX5_findHalves 159 = .ok (.getfield 71, 3) := by decide +kernel
theorem dX5_findHalves_162 : decode cX5_findHalves 162 = .ok (.if_icmp .le 38, 3) := by decide +kernel
theorem dX5_findHalves_165 : decode cX5_findHalves 165 = .ok (.iconst 1, 1) := by decide +kernel
theorem dX5_findHalves_166 : decode cX5_findHalves 166 = .ok (.istore 5, 2) := by decide +kernel
theorem dX5_findHalves_168 : decode cX5_findHalves 168 = .ok (.aload_n 0, 1) := by decide +kernel
theorem dX5_findHalves_169 : decode cX5_findHalves 169 = .ok (.iload 6, 2) := by decide +kernel
theorem dX5_findHalves_171 : decode cX5_findHalves 171 = .ok (.putfield 75, 3) := by decide +kernel
theorem dX5_findHalves_174 : decode cX5_findHalves 174 = .ok (.aload_n 0, 1) := by decide +kernel
theorem dX5_findHalves_175 : decode cX5_findHalves 175 = .ok (.iload 7, 2) := by decide +kernel
theorem dX5_findHalves_177 : decode cX5_findHalves 177 = .ok (.putfield 78, 3) := by decide +kernel
theorem dX5_findHalves_180 : decode cX5_findHalves 180 = .ok (.aload_n 0, 1) := by decide +kernel
theorem dX5_findHalves_181 : decode cX5_findHalves 181 = .ok (.iload 8, 2) := by decide +kernel
theorem dX5_findHalves_183 : decode cX5_findHalves 183 = .ok (.ifCond .eq 7, 3) := by decide +kernel
theorem dX5_findHalves_186 : decode cX5_findHalves 186 = .ok (.iconst 1, 1) := by decide +kernel
theorem dX5_findHalves_187 : decode cX5_findHalves 187 = .ok (.goto 4, 3) := by decide +kernel
theorem dX5_findHalves_190 : decode cX5_findHalves 190 = .ok (.iconst 0, 1) := by decide +kernel
theorem dX5_findHalves_191 : decode cX5_findHalves 191 = .ok (.putfield 81, 3) := by decide +kernel
theorem dX5_findHalves_194 : decode cX5_findHalves 194 = .ok (.aload_n 0, 1) := by decide +kernel
theorem dX5_findHalves_195 : decode cX5_findHalves 195 = .ok (.iload 9, 2) := by decide +kernel
theorem dX5_findHalves_197 : decode cX5_findHalves 197 = .ok (.putfield 71, 3) := by decide +kernel
theorem dX5_findHalves_200 : decode cX5_findHalves 200 = .ok (.iinc 7 1, 3) := by decide +kernel
theorem dX5_findHalves_203 : decode cX5_findHalves 203 = .ok (.goto (-164), 3) := by decide +kernel
theorem dX5_findHalves_206 : decode cX5_findHalves 206 = .ok (.iinc 6 1, 3) := by decide +kernel
theorem dX5_findHalves_209 : decode cX5_findHalves 209 = .ok (.goto (-179), 3) := by decide +kernel
theorem dX5_findHalves_212 : decode cX5_findHalves 212 = .ok (.iload 5, 2) := by decide +kernel
theorem dX5_findHalves_214 : decode cX5_findHalves 214 = .ok (.ireturn, 1) := by decide +kernel
set_option maxRecDepth 20000 in
theorem ggX5_prepare_X10_ofPiece : GoodIn wsX5_prepare wsX10_ofPiece := goodIn_r _ [15, 16, 17, 18, 19, 20, 21, 22, 23, 24, 25, 26, 14, 27, 28, 29, 30, 31, 32, 33, 34, 35, 36, 37, 38, 39, 40, 41, 42, 43, 44, 45, 46, 47, 48, 49, 50, 51, 52, 53, 54, 55, 56, 57, 58, 59, 60, 61, 62, 63, 64, 65, 66, 67, 68, 69, 70, 71, 72, 73, 74, 75, 76, 77, 78, 124, 125, 126, 127, 128, 129, 130, 118, 119, 120, 121, 122, 123, 102, 103, 104, 105, 106, 107, 108, 109, 110, 111, 112, 113, 114, 115, 116, 117, 131, 132, 133, 134, 135, 136, 137, 138, 139, 140, 141, 142] (by decide +kernel) (by decide +kernel)
set_option maxRecDepth 20000 in
theorem gX5_prepare_X10_ofPiece : GoodIn wsX5_prepare (wsV RX5 101 RX10 yX10_ofPiece wsX10_ofPiece) := goodIn_app (goodIn_of _ (by decide +kernel)) ggX5_prepare_X10_ofPiece
set_option maxRecDepth 20000 in
theorem ggX5_prepare_X1_isFree : GoodIn wsX5_prepare wsX1_isFree := goodIn_r _ [82, 83, 84, 85, 19, 20, 21, 22, 23, 118, 119, 120, 121, 122, 123, 131, 132, 133, 134, 135, 136, 137] (by decide +kernel) (by decide +kernel)
set_option maxRecDepth 20000 in
theorem gX5_prepare_X1_isFree : GoodIn wsX5_prepare (wsV RX5 40 RX1 yX1_isFree wsX1_isFree) := goodIn_app (goodIn_of _ (by decide +kernel)) ggX5_prepare_X1_isFree
theorem dX5_prepare_0 : decode cX5_prepare 0 = .ok (.aload_n 0, 1) := by decide +kernel
theorem dX5_prepare_1 : decode cX5_prepare 1 = .ok (.iconst 0, 1) := by decide +kernel
theorem dX5_prepare_2 : decode cX5_prepare 2 = .ok (.putfield 84, 3) := by decide +kernel
theorem dX5_prepare_5 : decode cX5_prepare 5 = .ok (.aload_n 0, 1) := by decide +kernel
theorem dX5_prepare_6 : decode cX5_prepare 6 = .ok (.iconst 0, 1) := by decide +kernel
theorem dX5_prepare_7 : decode cX5_prepare 7 = .ok (.putfield 87, 3) := by decide +kernel
theorem dX5_prepare_10 : decode cX5_prepare 10 = .ok (.iconst 0, 1) := by decide +kernel
theorem dX5_prepare_11 : decode cX5_prepare 11 = .ok (.istore_n 1, 1) := by decide +kernel
theorem dX5_prepare_12 : decode cX5_prepare 12 = .ok (.iload_n 1, 1) := by decide +kernel
theorem dX5_prepare_13 : decode cX5_prepare 13 = .ok (.aload_n 0, 1) := by decide +kernel
theorem dX5_prepare_14 : decode cX5_prepare 14 = .ok (.getfield 9, 3) := by decide +kernel
theorem dX5_prepare_17 : decode cX5_prepare 17 = .ok (.getfield 90, 3) := by decide +kernel
theorem dX5_prepare_20 : decode cX5_prepare 20 = .ok (.if_icmp .ge 84, 3) := by decide +kernel
theorem dX5_prepare_23 : decode cX5_prepare 23 = .ok (.aload_n 0, 1) := by decide +kernel
theorem dX5_prepare_24 : decode cX5_prepare 24 = .ok (.getfield 15, 3) := by decide +kernel
theorem dX5_prepare_27 : decode cX5_prepare 27 = .ok (.getfield 95, 3) := by decide +kernel
theorem dX5_prepare_30 : decode cX5_prepare 30 = .ok (.iload_n 1, 1) := by decide +kernel
theorem dX5_prepare_31 : decode cX5_prepare 31 = .ok (.iaload, 1) := by decide +kernel
theorem dX5_prepare_32 : decode cX5_prepare 32 = .ok (.iconst (-1), 1) := by decide +kernel
theorem dX5_prepare_33 : decode cX5_prepare 33 = .ok (.if_icmp .ne 65, 3) := by decide +kernel
theorem dX5_prepare_36 : decode cX5_prepare 36 = .ok (.aload_n 0, 1) := by decide +kernel
theorem dX5_prepare_37 : decode cX5_prepare 37 = .ok (.dup, 1) := by decide +kernel
theorem dX5_prepare_38 : decode cX5_prepare 38 = .ok (.getfield 84, 3) := by decide +kernel
theorem dX5_prepare_41 : decode cX5_prepare 41 = .ok (.iconst 1, 1) := by decide +kernel
theorem dX5_prepare_42 : decode cX5_prepare 42 = .ok (.iload_n 1, 1) := by decide +kernel
theorem dX5_prepare_43 : decode cX5_prepare 43 = .ok (.ishl, 1) := by decide +kernel
theorem dX5_prepare_44 : decode cX5_prepare 44 = .ok (.ior, 1) := by decide +kernel
theorem dX5_prepare_45 : decode cX5_prepare 45 = .ok (.putfield 84, 3) := by decide +kernel
theorem dX5_prepare_48 : decode cX5_prepare 48 = .ok (.aload_n 0, 1) := by decide +kernel
theorem dX5_prepare_49 : decode cX5_prepare 49 = .ok (.dup, 1) := by decide +kernel
theorem dX5_prepare_50 : decode cX5_prepare 50 = .ok (.getfield 87, 3) := by decide +kernel
theorem dX5_prepare_53 : decode cX5_prepare 53 = .ok (.iconst 1, 1) := by decide +kernel
theorem dX5_prepare_54 : decode cX5_prepare 54 = .ok (.iadd, 1) := by decide +kernel
theorem dX5_prepare_55 : decode cX5_prepare 55 = .ok (.putfield 87, 3) := by decide +kernel
theorem dX5_prepare_58 : decode cX5_prepare 58 = .ok (.iconst 0, 1) := by decide +kernel
theorem dX5_prepare_59 : decode cX5_prepare 59 = .ok (.istore_n 2, 1) := by decide +kernel
theorem dX5_prepare_60 : decode cX5_prepare 60 = .ok (.iload_n 2, 1) := by decide +kernel
theorem dX5_prepare_61 : decode cX5_prepare 61 = .ok (.aload_n 0, 1) := by decide +kernel
theorem dX5_prepare_62 : decode cX5_prepare 62 = .ok (.getfield 15, 3) := by decide +kernel
theorem dX5_prepare_65 : decode cX5_prepare 65 = .ok (.getfield 98, 3) := by decide +kernel
theorem dX5_prepare_68 : decode cX5_prepare 68 = .ok (.if_icmp .ge 30, 3) := by decide +kernel
theorem dX5_prepare_71 : decode cX5_prepare 71 = .ok (.aload_n 0, 1) := by decide +kernel
theorem dX5_prepare_72 : decode cX5_prepare 72 = .ok (.getfield 33, 3) := by decide +kernel
theorem dX5_prepare_75 : decode cX5_prepare 75 = .ok (.iload_n 1, 1) := by decide +kernel
theorem dX5_prepare_76 : decode cX5_prepare 76 = .ok (.bipush 24, 2) := by decide +kernel
theorem dX5_prepare_78 : decode cX5_prepare 78 = .ok (.imul, 1) := by decide +kernel
theorem dX5_prepare_79 : decode cX5_prepare 79 = .ok (.iload_n 2, 1) := by decide +kernel
theorem dX5_prepare_80 : decode cX5_prepare 80 = .ok (.iadd, 1) := by decide +kernel
theorem dX5_prepare_81 : decode cX5_prepare 81 = .ok (.aload_n 0, 1) := by decide +kernel
theorem dX5_prepare_82 : decode cX5_prepare 82 = .ok (.getfield 19, 3) := by decide +kernel
theorem dX5_prepare_85 : decode cX5_prepare 85 = .ok (.iload_n 1, 1) := by decide +kernel
theorem dX5_prepare_86 : decode cX5_prepare 86 = .ok (.iload_n 2, 1) := by decide +kernel
theorem dX5_prepare_87 : decode cX5_prepare 87 = .ok (.iconst 0, 1) := by decide +kernel
theorem dX5_prepare_88 : decode cX5_prepare 88 = .ok (.invokevirtual 101, 3) := by decide +kernel
theorem dX5_prepare_91 : decode cX5_prepare 91 = .ok (.iastore, 1) := by decide +kernel
theorem dX5_prepare_92 : decode cX5_prepare 92 = .ok (.iinc 2 1, 3) := by decide +kernel
theorem dX5_prepare_95 : decode cX5_prepare 95 = .ok (.goto (-35), 3) := by decide +kernel
theorem dX5_prepare_98 : decode cX5_prepare 98 = .ok (.iinc 1 1, 3) := by decide +kernel
theorem dX5_prepare_101 : decode cX5_prepare 101 = .ok (.goto (-89), 3) := by decide +kernel
theorem dX5_prepare_104 : decode cX5_prepare 104 = .ok (.aload_n 0, 1) := by decide +kernel
theorem dX5_prepare_105 : decode cX5_prepare 105 = .ok (.iconst 0, 1) := by decide +kernel
theorem dX5_prepare_106 : decode cX5_prepare 106 = .ok (.putfield 105, 3) := by decide +kernel
theorem dX5_prepare_109 : decode cX5_prepare 109 = .ok (.iconst 0, 1) := by decide +kernel
theorem dX5_prepare_110 : decode cX5_prepare 110 = .ok (.istore_n 1, 1) := by decide +kernel
theorem dX5_prepare_111 : decode cX5_prepare 111 = .ok (.iload_n 1, 1) := by decide +kernel
theorem dX5_prepare_112 : decode cX5_prepare 112 = .ok (.aload_n 0, 1) := by decide +kernel
theorem dX5_prepare_113 : decode cX5_prepare 113 = .ok (.getfield 15, 3) := by decide +kernel
theorem dX5_prepare_116 : decode cX5_prepare 116 = .ok (.getfield 98, 3) := by decide +kernel
theorem dX5_prepare_119 : decode cX5_prepare 119 = .ok (.if_icmp .ge 32, 3) := by decide +kernel
theorem dX5_prepare_122 : decode cX5_prepare 122 = .ok (.aload_n 0, 1) := by decide +kernel
theorem dX5_prepare_123 : decode cX5_prepare 123 = .ok (.getfield 15, 3) := by decide +kernel
theorem dX5_prepare_126 : decode cX5_prepare 126 = .ok (.iload_n 1, 1) := by decide +kernel
theorem dX5_prepare_127 : decode cX5_prepare 127 = .ok (.invokevirtual 40, 3) := by decide +kernel
theorem dX5_prepare_130 : decode cX5_prepare 130 = .ok (.ifCond .eq 15, 3) := by decide +kernel
theorem dX5_prepare_133 : decode cX5_prepare 133 = .ok (.aload_n 0, 1) := by decide +kernel
theorem dX5_prepare_134 : decode cX5_prepare 134 = .ok (.dup, 1) := by decide +kernel
theorem dX5_prepare_135 : decode cX5_prepare 135 = .ok (.getfield 105, 3) := by decide +kernel
theorem dX5_prepare_138 : decode cX5_prepare 138 = .ok (.iconst 1, 1) := by decide +kernel
theorem dX5_prepare_139 : decode cX5_prepare 139 = .ok (.iload_n 1, 1) := by decide +kernel
theorem dX5_prepare_140 : decode cX5_prepare 140 = .ok (.ishl, 1) := by decide +kernel
theorem dX5_prepare_141 : decode cX5_prepare 141 = .ok (.ior, 1) := by decide +kernel
theorem dX5_prepare_142 : decode cX5_prepare 142 = .ok (.putfield 105, 3) := by decide +kernel
theorem dX5_prepare_145 : decode cX5_prepare 145 = .ok (.iinc 1 1, 3) := by decide +kernel
theorem dX5_prepare_148 : decode cX5_prepare 148 = .ok (.goto (-37), 3) := by decide +kernel
theorem dX5_prepare_151 : decode cX5_prepare 151 = .ok (.return_, 1) := by decide +kernel
theorem dX5_pickOf_0 : decode cX5_pickOf 0 = .ok (.iconst (-1), 1) := by decide +kernel
theorem dX5_pickOf_1 : decode cX5_pickOf 1 = .ok (.istore_n 3, 1) := by decide +kernel
theorem dX5_pickOf_2 : decode cX5_pickOf 2 = .ok (.iconst 0, 1) := by decide +kernel
theorem dX5_pickOf_3 : decode cX5_pickOf 3 = .ok (.istore 4, 2) := by decide +kernel
theorem dX5_pickOf_5 : decode cX5_pickOf 5 = .ok (.iconst 0, 1) := by decide +kernel
theorem dX5_pickOf_6 : decode cX5_pickOf 6 = .ok (.istore 5, 2) := by decide +kernel
theorem dX5_pickOf_8 : decode cX5_pickOf 8 = .ok (.iload 5, 2) := by decide +kernel
theorem dX5_pickOf_10 : decode cX5_pickOf 10 = .ok (.aload_n 0, 1) := by decide +kernel
theorem dX5_pickOf_11 : decode cX5_pickOf 11 = .ok (.getfield 15, 3) := by decide +kernel
theorem dX5_pickOf_14 : decode cX5_pickOf 14 = .ok (.getfield 98, 3) := by decide +kernel
theorem dX5_pickOf_17 : decode cX5_pickOf 17 = .ok (.if_icmp .ge 52, 3) := by decide +kernel
theorem dX5_pickOf_20 : decode cX5_pickOf 20 = .ok (.iload_n 2, 1) := by decide +kernel
theorem dX5_pickOf_21 : decode cX5_pickOf 21 = .ok (.iload 5, 2) := by decide +kernel
theorem dX5_pickOf_23 : decode cX5_pickOf 23 = .ok (.ishr, 1) := by decide +kernel
theorem dX5_pickOf_24 : decode cX5_pickOf 24 = .ok (.iconst 1, 1) := by decide +kernel
theorem dX5_pickOf_25 : decode cX5_pickOf 25 = .ok (.iand, 1) := by decide +kernel
theorem dX5_pickOf_26 : decode cX5_pickOf 26 = .ok (.iconst 1, 1) := by decide +kernel
theorem dX5_pickOf_27 : decode cX5_pickOf 27 = .ok (.if_icmp .ne 36, 3) := by decide +kernel
theorem dX5_pickOf_30 : decode cX5_pickOf 30 = .ok (.aload_n 0, 1) := by decide +kernel
theorem dX5_pickOf_31 : decode cX5_pickOf 31 = .ok (.getfield 33, 3) := by decide +kernel
theorem dX5_pickOf_34 : decode cX5_pickOf 34 = .ok (.iload_n 1, 1) := by decide +kernel
theorem dX5_pickOf_35 : decode cX5_pickOf 35 = .ok (.bipush 24, 2) := by decide +kernel
theorem dX5_pickOf_37 : decode cX5_pickOf 37 = .ok (.imul, 1) := by decide +kernel
theorem dX5_pickOf_38 : decode cX5_pickOf 38 = .ok (.iload 5, 2) := by decide +kernel
theorem dX5_pickOf_40 : decode cX5_pickOf 40 = .ok (.iadd, 1) := by decide +kernel
theorem dX5_pickOf_41 : decode cX5_pickOf 41 = .ok (.iaload, 1) := by decide +kernel
theorem dX5_pickOf_42 : decode cX5_pickOf 42 = .ok (.istore 6, 2) := by decide +kernel
theorem dX5_pickOf_44 : decode cX5_pickOf 44 = .ok (.iload_n 3, 1) := by decide +kernel
theorem dX5_pickOf_45 : decode cX5_pickOf 45 = .ok (.iconst (-1), 1) := by decide +kernel
theorem dX5_pickOf_46 : decode cX5_pickOf 46 = .ok (.if_icmp .eq 10, 3) := by decide +kernel
theorem dX5_pickOf_49 : decode cX5_pickOf 49 = .ok (.iload 6, 2) := by decide +kernel
theorem dX5_pickOf_51 : decode cX5_pickOf 51 = .ok (.iload 4, 2) := by decide +kernel
theorem dX5_pickOf_53 : decode cX5_pickOf 53 = .ok (.if_icmp .le 10, 3) := by decide +kernel
theorem dX5_pickOf_56 : decode cX5_pickOf 56 = .ok (.iload 5, 2) := by decide +kernel
theorem dX5_pickOf_58 : decode cX5_pickOf 58 = .ok (.istore_n 3, 1) := by decide +kernel
theorem dX5_pickOf_59 : decode cX5_pickOf 59 = .ok (.iload 6, 2) := by decide +kernel
theorem dX5_pickOf_61 : decode cX5_pickOf 61 = .ok (.istore 4, 2) := by decide +kernel
theorem dX5_pickOf_63 : decode cX5_pickOf 63 = .ok (.iinc 5 1, 3) := by decide +kernel
theorem dX5_pickOf_66 : decode cX5_pickOf 66 = .ok (.goto (-58), 3) := by decide +kernel
theorem dX5_pickOf_69 : decode cX5_pickOf 69 = .ok (.iload_n 3, 1) := by decide +kernel
theorem dX5_pickOf_70 : decode cX5_pickOf 70 = .ok (.ireturn, 1) := by decide +kernel
theorem dX5_without_0 : decode cX5_without 0 = .ok (.iload_n 1, 1) := by decide +kernel
theorem dX5_without_1 : decode cX5_without 1 = .ok (.iconst (-1), 1) := by decide +kernel
theorem dX5_without_2 : decode cX5_without 2 = .ok (.if_icmp .ne 7, 3) := by decide +kernel
theorem dX5_without_5 : decode cX5_without 5 = .ok (.iload_n 0, 1) := by decide +kernel
theorem dX5_without_6 : decode cX5_without 6 = .ok (.goto 10, 3) := by decide +kernel
theorem dX5_without_9 : decode cX5_without 9 = .ok (.iload_n 0, 1) := by decide +kernel
theorem dX5_without_10 : decode cX5_without 10 = .ok (.iconst 1, 1) := by decide +kernel
theorem dX5_without_11 : decode cX5_without 11 = .ok (.iload_n 1, 1) := by decide +kernel
theorem dX5_without_12 : decode cX5_without 12 = .ok (.ishl, 1) := by decide +kernel
theorem dX5_without_13 : decode cX5_without 13 = .ok (.iconst (-1), 1) := by decide +kernel
theorem dX5_without_14 : decode cX5_without 14 = .ok (.ixor, 1) := by decide +kernel
theorem dX5_without_15 : decode cX5_without 15 = .ok (.iand, 1) := by decide +kernel
theorem dX5_without_16 : decode cX5_without 16 = .ok (.ireturn, 1) := by decide +kernel
set_option maxRecDepth 20000 in
theorem ggX5_pickByNumber_X5_prepare : GoodIn wsX5_pickByNumber wsX5_prepare := goodIn_r _ [9, 4, 10, 2, 3, 11, 12, 13, 14, 15, 1, 16, 17, 18, 19, 20, 21, 22, 23, 24, 25, 26, 27, 28, 29, 30, 31, 32, 33, 34, 35, 36, 37, 38, 39, 40, 41, 42, 43, 44, 45, 46, 47, 48, 49, 50, 51, 52, 53, 54, 55, 56, 57, 58, 59, 60, 61, 62, 63, 64, 65, 66, 67, 68, 69, 70, 71, 72, 73, 74, 75, 76, 77, 78, 79, 80, 81, 82, 83, 84, 85, 86, 87, 88, 89, 90, 105, 106, 107, 108, 109, 110, 111, 112, 113, 114, 115, 116, 117, 118, 119, 120, 121, 122, 123, 124, 125, 126, 127, 128, 129, 130, 131, 132, 133, 134, 135, 136, 137, 138, 139, 140, 141, 142, 143, 144, 145, 146, 147, 148, 149, 150, 151, 152, 153, 154, 155, 156, 157, 158, 159, 160, 161] (by decide +kernel) (by decide +kernel)
set_option maxRecDepth 20000 in
theorem gX5_pickByNumber_X5_prepare : GoodIn wsX5_pickByNumber (wsV RX5 108 RX5 yX5_prepare wsX5_prepare) := goodIn_app (goodIn_of _ (by decide +kernel)) ggX5_pickByNumber_X5_prepare
set_option maxRecDepth 20000 in
theorem ggX5_pickByNumber_X5_pickOf : GoodIn wsX5_pickByNumber wsX5_pickOf := goodIn_r _ [94, 11, 13, 14, 105, 106, 107, 108, 109, 110, 111, 112, 113, 114, 115, 116, 117, 118, 119, 120, 137, 138, 139, 140, 141, 142] (by decide +kernel) (by decide +kernel)
set_option maxRecDepth 20000 in
theorem gX5_pickByNumber_X5_pickOf : GoodIn wsX5_pickByNumber (wsV RX5 111 RX5 yX5_pickOf wsX5_pickOf) := goodIn_app (goodIn_of _ (by decide +kernel)) ggX5_pickByNumber_X5_pickOf
set_option maxRecDepth 20000 in
theorem ggX5_pickByNumber_X5_without : GoodIn wsX5_pickByNumber wsX5_without := goodIn_r _ [97] (by decide +kernel) (by decide +kernel)
set_option maxRecDepth 20000 in
theorem gX5_pickByNumber_X5_without : GoodIn wsX5_pickByNumber (va_wsS RX5 115 yX5_without wsX5_without) := goodIn_app (goodIn_of _ (by decide +kernel)) ggX5_pickByNumber_X5_without
set_option maxRecDepth 20000 in
theorem ggX5_pickByNumber_J6_bitCount_0f7a4 : GoodIn wsX5_pickByNumber wsJ6_bitCount_0f7a4 := goodIn_r _ [101, 102, 103, 104] (by decide +kernel) (by decide +kernel)
set_option maxRecDepth 20000 in
theorem gX5_pickByNumber_J6_bitCount_0f7a4 : GoodIn wsX5_pickByNumber (va_wsS RX5 118 yJ6_bitCount_0f7a4 wsJ6_bitCount_0f7a4) := goodIn_app (goodIn_of _ (by decide +kernel)) ggX5_pickByNumber_J6_bitCount_0f7a4
theorem dX5_pickByNumber_0 : decode cX5_pickByNumber 0 = .ok (.aload_n 0, 1) := by decide +kernel
theorem dX5_pickByNumber_1 : decode cX5_pickByNumber 1 = .ok (.invokevirtual 108, 3) := by decide +kernel
theorem dX5_pickByNumber_4 : decode cX5_pickByNumber 4 = .ok (.aload_n 0, 1) := by decide +kernel
theorem dX5_pickByNumber_5 : decode cX5_pickByNumber 5 = .ok (.getfield 105, 3) := by decide +kernel
theorem dX5_pickByNumber_8 : decode cX5_pickByNumber 8 = .ok (.istore_n 2, 1) := by decide +kernel
theorem dX5_pickByNumber_9 : decode cX5_pickByNumber 9 = .ok (.iconst 0, 1) := by decide +kernel
theorem dX5_pickByNumber_10 : decode cX5_pickByNumber 10 = .ok (.istore_n 3, 1) := by decide +kernel
theorem dX5_pickByNumber_11 : decode cX5_pickByNumber 11 = .ok (.iload_n 3, 1) := by decide +kernel
theorem dX5_pickByNumber_12 : decode cX5_pickByNumber 12 = .ok (.aload_n 0, 1) := by decide +kernel
theorem dX5_pickByNumber_13 : decode cX5_pickByNumber 13 = .ok (.getfield 9, 3) := by decide +kernel
theorem dX5_pickByNumber_16 : decode cX5_pickByNumber 16 = .ok (.getfield 90, 3) := by decide +kernel
theorem dX5_pickByNumber_19 : decode cX5_pickByNumber 19 = .ok (.if_icmp .ge 60, 3) := by decide +kernel
theorem dX5_pickByNumber_22 : decode cX5_pickByNumber 22 = .ok (.iload_n 3, 1) := by decide +kernel
theorem dX5_pickByNumber_23 : decode cX5_pickByNumber 23 = .ok (.aload_n 1, 1) := by decide +kernel
theorem dX5_pickByNumber_24 : decode cX5_pickByNumber 24 = .ok (.arraylength, 1) := by decide +kernel
theorem dX5_pickByNumber_25 : decode cX5_pickByNumber 25 = .ok (.if_icmp .ge 54, 3) := by decide +kernel
theorem dX5_pickByNumber_28 : decode cX5_pickByNumber 28 = .ok (.aload_n 0, 1) := by decide +kernel
theorem dX5_pickByNumber_29 : decode cX5_pickByNumber 29 = .ok (.getfield 84, 3) := by decide +kernel
theorem dX5_pickByNumber_32 : decode cX5_pickByNumber 32 = .ok (.iload_n 3, 1) := by decide +kernel
theorem dX5_pickByNumber_33 : decode cX5_pickByNumber 33 = .ok (.ishr, 1) := by decide +kernel
theorem dX5_pickByNumber_34 : decode cX5_pickByNumber 34 = .ok (.iconst 1, 1) := by decide +kernel
theorem dX5_pickByNumber_35 : decode cX5_pickByNumber 35 = .ok (.iand, 1) := by decide +kernel
theorem dX5_pickByNumber_36 : decode cX5_pickByNumber 36 = .ok (.iconst 1, 1) := by decide +kernel
theorem dX5_pickByNumber_37 : decode cX5_pickByNumber 37 = .ok (.if_icmp .ne 7, 3) := by decide +kernel
theorem dX5_pickByNumber_40 : decode cX5_pickByNumber 40 = .ok (.iconst 1, 1) := by decide +kernel
theorem dX5_pickByNumber_41 : decode cX5_pickByNumber 41 = .ok (.goto 4, 3) := by decide +kernel
theorem dX5_pickByNumber_44 : decode cX5_pickByNumber 44 = .ok (.iconst 0, 1) := by decide +kernel
theorem dX5_pickByNumber_45 : decode cX5_pickByNumber 45 = .ok (.istore 4, 2) := by decide +kernel
theorem dX5_pickByNumber_47 : decode cX5_pickByNumber 47 = .ok (.aload_n 1, 1) := by decide +kernel
theorem dX5_pickByNumber_48 : decode cX5_pickByNumber 48 = .ok (.iload_n 3, 1) := by decide +kernel
theorem dX5_pickByNumber_49 : decode cX5_pickByNumber 49 = .ok (.iload 4, 2) := by decide +kernel
theorem dX5_pickByNumber_51 : decode cX5_pickByNumber 51 = .ok (.ifCond .eq 12, 3) := by decide +kernel
theorem dX5_pickByNumber_54 : decode cX5_pickByNumber 54 = .ok (.aload_n 0, 1) := by decide +kernel
theorem dX5_pickByNumber_55 : decode cX5_pickByNumber 55 = .ok (.iload_n 3, 1) := by decide +kernel
theorem dX5_pickByNumber_56 : decode cX5_pickByNumber 56 = .ok (.iload_n 2, 1) := by decide +kernel
theorem dX5_pickByNumber_57 : decode cX5_pickByNumber 57 = .ok (.invokevirtual 111, 3) := by decide +kernel
theorem dX5_pickByNumber_60 : decode cX5_pickByNumber 60 = .ok (.goto 4, 3) := by decide +kernel
theorem dX5_pickByNumber_63 : decode cX5_pickByNumber 63 = .ok (.iconst (-1), 1) := by decide +kernel
theorem dX5_pickByNumber_64 : decode cX5_pickByNumber 64 = .ok (.iastore, 1) := by decide +kernel
theorem dX5_pickByNumber_65 : decode cX5_pickByNumber 65 = .ok (.iload_n 2, 1) := by decide +kernel
theorem dX5_pickByNumber_66 : decode cX5_pickByNumber 66 = .ok (.aload_n 1, 1) := by decide +kernel
theorem dX5_pickByNumber_67 : decode cX5_pickByNumber 67 = .ok (.iload_n 3, 1) := by decide +kernel
theorem dX5_pickByNumber_68 : decode cX5_pickByNumber 68 = .ok (.iaload, 1) := by decide +kernel
theorem dX5_pickByNumber_69 : decode cX5_pickByNumber 69 = .ok (.invokestatic 115, 3) := by decide +kernel
theorem dX5_pickByNumber_72 : decode cX5_pickByNumber 72 = .ok (.istore_n 2, 1) := by decide +kernel
theorem dX5_pickByNumber_73 : decode cX5_pickByNumber 73 = .ok (.iinc 3 1, 3) := by decide +kernel
theorem dX5_pickByNumber_76 : decode cX5_pickByNumber 76 = .ok (.goto (-65), 3) := by decide +kernel
theorem dX5_pickByNumber_79 : decode cX5_pickByNumber 79 = .ok (.aload_n 0, 1) := by decide +kernel
theorem dX5_pickByNumber_80 : decode cX5_pickByNumber 80 = .ok (.getfield 105, 3) := by decide +kernel
theorem dX5_pickByNumber_83 : decode cX5_pickByNumber 83 = .ok (.iload_n 2, 1) := by decide +kernel
theorem dX5_pickByNumber_84 : decode cX5_pickByNumber 84 = .ok (.iconst (-1), 1) := by decide +kernel
theorem dX5_pickByNumber_85 : decode cX5_pickByNumber 85 = .ok (.ixor, 1) := by decide +kernel
theorem dX5_pickByNumber_86 : decode cX5_pickByNumber 86 = .ok (.iand, 1) := by decide +kernel
theorem dX5_pickByNumber_87 : decode cX5_pickByNumber 87 = .ok (.invokestatic 118, 3) := by decide +kernel
theorem dX5_pickByNumber_90 : decode cX5_pickByNumber 90 = .ok (.ireturn, 1) := by decide +kernel
theorem in_X5_findHalves_X5 : ∀ w ∈ wsX50, w ∈ wsX5_findHalves := fun _ h => (List.mem_cons_of_mem _ (List.mem_append_left _ (List.mem_append_left _ (List.mem_append_left _ (List.mem_append_left _ (List.mem_append_left _ (List.mem_append_right _ h)))))))
theorem in_X5_findHalves_X1 : ∀ w ∈ wsX10, w ∈ wsX5_findHalves := fun _ h => (List.mem_cons_of_mem _ (List.mem_append_left _ (List.mem_append_left _ (List.mem_append_left _ (List.mem_append_left _ (List.mem_append_right _ h))))))
def fn_X5_findHalves_200 (k30 : Int32 → Int32 → Nat → Int32 → Int32 → St → Option (Int32 × St)) (k39 : Int32 → Int32 → Nat → Int32 → Int32 → Int32 → St → Option (Int32 × St)) (v2 : Int32) (v3 : Int32) (p4 : Nat) (v5 : Int32) (v6 : Int32) (v7 : Int32) (z : St) : Option (Int32 × St) := k39 v2 v3 p4 v5 v6 (v7 + 1) z
set_option maxHeartbeats 4000000 in
set_option maxRecDepth 100000 in
theorem pf_X5_findHalves_200 {p : Program} {l : Launch} {e : Env} {s : State} {m : MethodId} {args : Array Value} {below : List Frame} {meth : Method} {c : Code} {G : wG} (C : CX p s m args meth c cX5_findHalves 10 wsX5_findHalves RX5 (some .boolean) G) {Rz : Int32 × St} {k30 : Int32 → Int32 → Nat → Int32 → Int32 → St → Option (Int32 × St)} {k39 : Int32 → Int32 → Nat → Int32 → Int32 → Int32 → St → Option (Int32 × St)} (hk_30 : ∀ (v2 : Int32) (v3 : Int32) (p4 : Nat) (v5 : Int32) (v6 : Int32) (z : St) (hk4 : kd p4 = 9) (H : Heap) (locs : List Loc) (ls : Array Slot), WP G z H → va_S (AW G) s.heap H locs → lv_has ls 10 [(0, .ref (G.2.2 156)), (2, .int v2), (3, .int v3), (4, .ref (G.2.2 p4)), (5, .int v5), (6, .int v6)] → k30 v2 v3 p4 v5 v6 z = some Rz → W p l e (rmd 5) s m args below meth c H locs 0 0 (QI below args s G Rz) (F0 m 30 ls [])) (hk_39 : ∀ (v2 : Int32) (v3 : Int32) (p4 : Nat) (v5 : Int32) (v6 : Int32) (v7 : Int32) (z : St) (hk4 : kd p4 = 9) (H : Heap) (locs : List Loc) (ls : Array Slot), WP G z H → va_S (AW G) s.heap H locs → lv_has ls 10 [(0, .ref (G.2.2 156)), (2, .int v2), (3, .int v3), (4, .ref (G.2.2 p4)), (5, .int v5), (6, .int v6), (7, .int v7)] → k39 v2 v3 p4 v5 v6 v7 z = some Rz → W p l e (rmd 5) s m args below meth c H locs 0 0 (QI below args s G Rz) (F0 m 39 ls [])) (v2 : Int32) (v3 : Int32) (p4 : Nat) (v5 : Int32) (v6 : Int32) (v7 : Int32) (z : St) (hk4 : kd p4 = 9) {H : Heap} {locs : List Loc} {ls : Array Slot} (hP : WP G z H) (hS : va_S (AW G) s.heap H locs) (hl : lv_has ls 10 [(0, .ref (G.2.2 156)), (2, .int v2), (3, .int v3), (4, .ref (G.2.2 p4)), (5, .int v5), (6, .int v6), (7, .int v7)]) (h : fn_X5_findHalves_200  k30 k39 v2 v3 p4 v5 v6 v7 z = some Rz) : W p l e (rmd 5) s m args below meth c H locs 0 0 (QI below args s G Rz) (F0 m 200 ls []) := by
  obtain ⟨hx, hb, hml, hown, hts, hr, hlocks, hK, hG⟩ := id C
  unfold fn_X5_findHalves_200 at h
  refine lv_iinc (v := (v7 + 1)) (lv' := [(7, .int (v7 + 1)), (0, .ref (G.2.2 156)), (2, .int v2), (3, .int v3), (4, .ref (G.2.2 p4)), (5, .int v5), (6, .int v6)]) hx hb dX5_findHalves_200 hl (k := 6) rfl rfl (by decide) rfl (fun ls hl => ?_)
  refine lv_goto (tgt := 39) hx hb dX5_findHalves_203 (by decide) ?_
  exact hk_39 v2 v3 p4 v5 v6 (v7 + 1) z hk4 _ _ _ hP hS (lv_sub hl [1, 2, 3, 4, 5, 6, 0] rfl) h
def fn_X5_findHalves_191 (k30 : Int32 → Int32 → Nat → Int32 → Int32 → St → Option (Int32 × St)) (k39 : Int32 → Int32 → Nat → Int32 → Int32 → Int32 → St → Option (Int32 × St)) (v2 : Int32) (v3 : Int32) (p4 : Nat) (v5 : Int32) (v6 : Int32) (v7 : Int32) (v9 : Int32) (tv1 : Int32) (z : St) : Option (Int32 × St) := nm (sI z 156 14 tv1) (fun z1 => nm (sI z1 156 15 v9) (fun z2 => fn_X5_findHalves_200  k30 k39 v2 v3 p4 v5 v6 v7 z2))
set_option maxHeartbeats 4000000 in
set_option maxRecDepth 100000 in
theorem pf_X5_findHalves_191 {p : Program} {l : Launch} {e : Env} {s : State} {m : MethodId} {args : Array Value} {below : List Frame} {meth : Method} {c : Code} {G : wG} (C : CX p s m args meth c cX5_findHalves 10 wsX5_findHalves RX5 (some .boolean) G) {Rz : Int32 × St} {k30 : Int32 → Int32 → Nat → Int32 → Int32 → St → Option (Int32 × St)} {k39 : Int32 → Int32 → Nat → Int32 → Int32 → Int32 → St → Option (Int32 × St)} (hk_30 : ∀ (v2 : Int32) (v3 : Int32) (p4 : Nat) (v5 : Int32) (v6 : Int32) (z : St) (hk4 : kd p4 = 9) (H : Heap) (locs : List Loc) (ls : Array Slot), WP G z H → va_S (AW G) s.heap H locs → lv_has ls 10 [(0, .ref (G.2.2 156)), (2, .int v2), (3, .int v3), (4, .ref (G.2.2 p4)), (5, .int v5), (6, .int v6)] → k30 v2 v3 p4 v5 v6 z = some Rz → W p l e (rmd 5) s m args below meth c H locs 0 0 (QI below args s G Rz) (F0 m 30 ls [])) (hk_39 : ∀ (v2 : Int32) (v3 : Int32) (p4 : Nat) (v5 : Int32) (v6 : Int32) (v7 : Int32) (z : St) (hk4 : kd p4 = 9) (H : Heap) (locs : List Loc) (ls : Array Slot), WP G z H → va_S (AW G) s.heap H locs → lv_has ls 10 [(0, .ref (G.2.2 156)), (2, .int v2), (3, .int v3), (4, .ref (G.2.2 p4)), (5, .int v5), (6, .int v6), (7, .int v7)] → k39 v2 v3 p4 v5 v6 v7 z = some Rz → W p l e (rmd 5) s m args below meth c H locs 0 0 (QI below args s G Rz) (F0 m 39 ls [])) (v2 : Int32) (v3 : Int32) (p4 : Nat) (v5 : Int32) (v6 : Int32) (v7 : Int32) (v9 : Int32) (tv1 : Int32) (z : St) (hk4 : kd p4 = 9) {H : Heap} {locs : List Loc} {ls : Array Slot} (hP : WP G z H) (hS : va_S (AW G) s.heap H locs) (hl : lv_has ls 10 [(0, .ref (G.2.2 156)), (2, .int v2), (3, .int v3), (4, .ref (G.2.2 p4)), (5, .int v5), (6, .int v6), (7, .int v7), (9, .int v9)]) (h : fn_X5_findHalves_191  k30 k39 v2 v3 p4 v5 v6 v7 v9 tv1 z = some Rz) : W p l e (rmd 5) s m args below meth c H locs 0 0 (QI below args s G Rz) (F0 m 191 ls [.int tv1, .ref (G.2.2 156)]) := by
  obtain ⟨hx, hb, hml, hown, hts, hr, hlocks, hK, hG⟩ := id C
  unfold fn_X5_findHalves_191 at h
  obtain ⟨z1, e_z1, h⟩ := nm_s h
  refine pu_5_14 hx hb hts in_X5_findHalves_X5 hown hK hG hP hS k_156 (hts _ (List.mem_of_getElem? (i := 9) rfl)) dX5_findHalves_191 (fun H locs hP hS => ?_)
  rw [← e_z1] at hP
  refine lv_aload_n hx hb dX5_findHalves_194 rfl (lv_at hl 0 rfl) ?_
  refine lv_iload hx hb dX5_findHalves_195 (lv_at hl 7 rfl) ?_
  obtain ⟨z2, e_z2, h⟩ := nm_s h
  refine pu_5_15 hx hb hts in_X5_findHalves_X5 hown hK hG hP hS k_156 (hts _ (List.mem_of_getElem? (i := 6) rfl)) dX5_findHalves_197 (fun H locs hP hS => ?_)
  rw [← e_z2] at hP
  exact pf_X5_findHalves_200 C  hk_30 hk_39 v2 v3 p4 v5 v6 v7 z2 hk4 hP hS (lv_sub hl [0, 1, 2, 3, 4, 5, 6] rfl) h
def fn_X5_findHalves_165 (k30 : Int32 → Int32 → Nat → Int32 → Int32 → St → Option (Int32 × St)) (k39 : Int32 → Int32 → Nat → Int32 → Int32 → Int32 → St → Option (Int32 × St)) (v2 : Int32) (v3 : Int32) (p4 : Nat) (v6 : Int32) (v7 : Int32) (v8 : Int32) (v9 : Int32) (z : St) : Option (Int32 × St) := nm (sI z 156 12 v6) (fun z1 => nm (sI z1 156 13 v7) (fun z2 => (if v8 = 0 then fn_X5_findHalves_191  k30 k39 v2 v3 p4 1 v6 v7 v9 0 z2 else fn_X5_findHalves_191  k30 k39 v2 v3 p4 1 v6 v7 v9 1 z2)))
set_option maxHeartbeats 4000000 in
set_option maxRecDepth 100000 in
theorem pf_X5_findHalves_165 {p : Program} {l : Launch} {e : Env} {s : State} {m : MethodId} {args : Array Value} {below : List Frame} {meth : Method} {c : Code} {G : wG} (C : CX p s m args meth c cX5_findHalves 10 wsX5_findHalves RX5 (some .boolean) G) {Rz : Int32 × St} {k30 : Int32 → Int32 → Nat → Int32 → Int32 → St → Option (Int32 × St)} {k39 : Int32 → Int32 → Nat → Int32 → Int32 → Int32 → St → Option (Int32 × St)} (hk_30 : ∀ (v2 : Int32) (v3 : Int32) (p4 : Nat) (v5 : Int32) (v6 : Int32) (z : St) (hk4 : kd p4 = 9) (H : Heap) (locs : List Loc) (ls : Array Slot), WP G z H → va_S (AW G) s.heap H locs → lv_has ls 10 [(0, .ref (G.2.2 156)), (2, .int v2), (3, .int v3), (4, .ref (G.2.2 p4)), (5, .int v5), (6, .int v6)] → k30 v2 v3 p4 v5 v6 z = some Rz → W p l e (rmd 5) s m args below meth c H locs 0 0 (QI below args s G Rz) (F0 m 30 ls [])) (hk_39 : ∀ (v2 : Int32) (v3 : Int32) (p4 : Nat) (v5 : Int32) (v6 : Int32) (v7 : Int32) (z : St) (hk4 : kd p4 = 9) (H : Heap) (locs : List Loc) (ls : Array Slot), WP G z H → va_S (AW G) s.heap H locs → lv_has ls 10 [(0, .ref (G.2.2 156)), (2, .int v2), (3, .int v3), (4, .ref (G.2.2 p4)), (5, .int v5), (6, .int v6), (7, .int v7)] → k39 v2 v3 p4 v5 v6 v7 z = some Rz → W p l e (rmd 5) s m args below meth c H locs 0 0 (QI below args s G Rz) (F0 m 39 ls [])) (v2 : Int32) (v3 : Int32) (p4 : Nat) (v6 : Int32) (v7 : Int32) (v8 : Int32) (v9 : Int32) (z : St) (hk4 : kd p4 = 9) {H : Heap} {locs : List Loc} {ls : Array Slot} (hP : WP G z H) (hS : va_S (AW G) s.heap H locs) (hl : lv_has ls 10 [(0, .ref (G.2.2 156)), (2, .int v2), (3, .int v3), (4, .ref (G.2.2 p4)), (6, .int v6), (7, .int v7), (8, .int v8), (9, .int v9)]) (h : fn_X5_findHalves_165  k30 k39 v2 v3 p4 v6 v7 v8 v9 z = some Rz) : W p l e (rmd 5) s m args below meth c H locs 0 0 (QI below args s G Rz) (F0 m 165 ls []) := by
  obtain ⟨hx, hb, hml, hown, hts, hr, hlocks, hK, hG⟩ := id C
  unfold fn_X5_findHalves_165 at h
  refine lv_iconst (v := 1) hx hb dX5_findHalves_165 (by decide) ?_
  refine lv_istore (lv' := [(5, .int 1), (0, .ref (G.2.2 156)), (2, .int v2), (3, .int v3), (4, .ref (G.2.2 p4)), (6, .int v6), (7, .int v7), (8, .int v8), (9, .int v9)]) hx hb dX5_findHalves_166 hl (by decide) rfl (fun ls hl => ?_)
  refine lv_aload_n hx hb dX5_findHalves_168 rfl (lv_at hl 1 rfl) ?_
  refine lv_iload hx hb dX5_findHalves_169 (lv_at hl 5 rfl) ?_
  obtain ⟨z1, e_z1, h⟩ := nm_s h
  refine pu_5_12 hx hb hts in_X5_findHalves_X5 hown hK hG hP hS k_156 (hts _ (List.mem_of_getElem? (i := 7) rfl)) dX5_findHalves_171 (fun H locs hP hS => ?_)
  rw [← e_z1] at hP
  refine lv_aload_n hx hb dX5_findHalves_174 rfl (lv_at hl 1 rfl) ?_
  refine lv_iload hx hb dX5_findHalves_175 (lv_at hl 6 rfl) ?_
  obtain ⟨z2, e_z2, h⟩ := nm_s h
  refine pu_5_13 hx hb hts in_X5_findHalves_X5 hown hK hG hP hS k_156 (hts _ (List.mem_of_getElem? (i := 8) rfl)) dX5_findHalves_177 (fun H locs hP hS => ?_)
  rw [← e_z2] at hP
  refine lv_aload_n hx hb dX5_findHalves_180 rfl (lv_at hl 1 rfl) ?_
  refine lv_iload hx hb dX5_findHalves_181 (lv_at hl 7 rfl) ?_
  refine lv_if_eq (tgt := 190) hx hb dX5_findHalves_183 (by decide) (fun c3 => ?_) (fun c3 => ?_)
  · rw [if_pos c3] at h
    refine lv_iconst (v := 0) hx hb dX5_findHalves_190 (by decide) ?_
    exact pf_X5_findHalves_191 C  hk_30 hk_39 v2 v3 p4 1 v6 v7 v9 0 z2 hk4 hP hS (lv_sub hl [1, 2, 3, 4, 0, 5, 6, 8] rfl) h
  · rw [if_neg c3] at h
    refine lv_iconst (v := 1) hx hb dX5_findHalves_186 (by decide) ?_
    refine lv_goto (tgt := 191) hx hb dX5_findHalves_187 (by decide) ?_
    exact pf_X5_findHalves_191 C  hk_30 hk_39 v2 v3 p4 1 v6 v7 v9 1 z2 hk4 hP hS (lv_sub hl [1, 2, 3, 4, 0, 5, 6, 8] rfl) h
def fn_X5_findHalves_146 (k30 : Int32 → Int32 → Nat → Int32 → Int32 → St → Option (Int32 × St)) (k39 : Int32 → Int32 → Nat → Int32 → Int32 → Int32 → St → Option (Int32 × St)) (v2 : Int32) (v3 : Int32) (p4 : Nat) (v5 : Int32) (v6 : Int32) (v7 : Int32) (v8 : Int32) (tv1 : Int32) (tp2 : Nat) (z : St) : Option (Int32 × St) := bd (fn_X10_ofSlab  tv1 tp2 z) (fun r2 z3 => (if v5 = 0 then fn_X5_findHalves_165  k30 k39 v2 v3 p4 v6 v7 v8 r2 z3 else (if r2 ≤ (z3.1 156 15) then fn_X5_findHalves_200  k30 k39 v2 v3 p4 v5 v6 v7 z3 else fn_X5_findHalves_165  k30 k39 v2 v3 p4 v6 v7 v8 r2 z3)))
set_option maxHeartbeats 4000000 in
set_option maxRecDepth 100000 in
theorem pf_X5_findHalves_146 {p : Program} {l : Launch} {e : Env} {s : State} {m : MethodId} {args : Array Value} {below : List Frame} {meth : Method} {c : Code} {G : wG} (C : CX p s m args meth c cX5_findHalves 10 wsX5_findHalves RX5 (some .boolean) G) {Rz : Int32 × St} {k30 : Int32 → Int32 → Nat → Int32 → Int32 → St → Option (Int32 × St)} {k39 : Int32 → Int32 → Nat → Int32 → Int32 → Int32 → St → Option (Int32 × St)} (hk_30 : ∀ (v2 : Int32) (v3 : Int32) (p4 : Nat) (v5 : Int32) (v6 : Int32) (z : St) (hk4 : kd p4 = 9) (H : Heap) (locs : List Loc) (ls : Array Slot), WP G z H → va_S (AW G) s.heap H locs → lv_has ls 10 [(0, .ref (G.2.2 156)), (2, .int v2), (3, .int v3), (4, .ref (G.2.2 p4)), (5, .int v5), (6, .int v6)] → k30 v2 v3 p4 v5 v6 z = some Rz → W p l e (rmd 5) s m args below meth c H locs 0 0 (QI below args s G Rz) (F0 m 30 ls [])) (hk_39 : ∀ (v2 : Int32) (v3 : Int32) (p4 : Nat) (v5 : Int32) (v6 : Int32) (v7 : Int32) (z : St) (hk4 : kd p4 = 9) (H : Heap) (locs : List Loc) (ls : Array Slot), WP G z H → va_S (AW G) s.heap H locs → lv_has ls 10 [(0, .ref (G.2.2 156)), (2, .int v2), (3, .int v3), (4, .ref (G.2.2 p4)), (5, .int v5), (6, .int v6), (7, .int v7)] → k39 v2 v3 p4 v5 v6 v7 z = some Rz → W p l e (rmd 5) s m args below meth c H locs 0 0 (QI below args s G Rz) (F0 m 39 ls [])) (v2 : Int32) (v3 : Int32) (p4 : Nat) (v5 : Int32) (v6 : Int32) (v7 : Int32) (v8 : Int32) (tv1 : Int32) (tp2 : Nat) (z : St) (hk4 : kd p4 = 9) (hkt2 : kd tp2 = 9) {H : Heap} {locs : List Loc} {ls : Array Slot} (hP : WP G z H) (hS : va_S (AW G) s.heap H locs) (hl : lv_has ls 10 [(0, .ref (G.2.2 156)), (2, .int v2), (3, .int v3), (4, .ref (G.2.2 p4)), (5, .int v5), (6, .int v6), (7, .int v7), (8, .int v8)]) (h : fn_X5_findHalves_146  k30 k39 v2 v3 p4 v5 v6 v7 v8 tv1 tp2 z = some Rz) : W p l e (rmd 5) s m args below meth c H locs 0 0 (QI below args s G Rz) (F0 m 146 ls [.ref (G.2.2 tp2), .int tv1, .ref (G.2.2 143)]) := by
  obtain ⟨hx, hb, hml, hown, hts, hr, hlocks, hK, hG⟩ := id C
  unfold fn_X5_findHalves_146 at h
  obtain ⟨r2, z3, h1, h⟩ := bd_s h
  refine x_Vi (Rz := (r2, z3)) (As := [.int tv1, .ref (G.2.2 tp2)]) (rest := []) ⟨hx, hb, hml, hown, hts⟩ hK hP hS (kd_lt k_143 (by decide)) (cell_10 k_143) rfl (m_X10_ofSlab hG  hkt2 h1) (cwV 2 hts gX5_findHalves_X10_ofSlab rfl rfl rfl (by decide +kernel) (rmd_ok (by decide) (by decide))) rfl hl.1 rfl (Nat.le_of_ble_eq_true rfl) dX5_findHalves_146 ⟨Nat.le_refl _, Nat.le_refl _⟩ (fun H locs hP hS => ?_)
  refine lv_istore (lv' := [(9, .int r2), (0, .ref (G.2.2 156)), (2, .int v2), (3, .int v3), (4, .ref (G.2.2 p4)), (5, .int v5), (6, .int v6), (7, .int v7), (8, .int v8)]) hx hb dX5_findHalves_149 hl (by decide) rfl (fun ls hl => ?_)
  refine lv_iload hx hb dX5_findHalves_151 (lv_at hl 5 rfl) ?_
  refine lv_if_eq (tgt := 165) hx hb dX5_findHalves_153 (by decide) (fun c4 => ?_) (fun c4 => ?_)
  · rw [if_pos c4] at h
    exact pf_X5_findHalves_165 C  hk_30 hk_39 v2 v3 p4 v6 v7 v8 r2 z3 hk4 hP hS (lv_sub hl [1, 2, 3, 4, 6, 7, 8, 0] rfl) h
  · rw [if_neg c4] at h
    refine lv_iload hx hb dX5_findHalves_156 (lv_at hl 0 rfl) ?_
    refine lv_aload_n hx hb dX5_findHalves_158 rfl (lv_at hl 1 rfl) ?_
    refine ge_5_15 hx hb hts in_X5_findHalves_X5 hown hK hP k_156 (hts _ (List.mem_of_getElem? (i := 6) rfl)) dX5_findHalves_159 ?_
    refine lv_icmp_le (tgt := 200) hx hb dX5_findHalves_162 (by decide) (fun c5 => ?_) (fun c5 => ?_)
    · rw [if_pos c5] at h
      exact pf_X5_findHalves_200 C  hk_30 hk_39 v2 v3 p4 v5 v6 v7 z3 hk4 hP hS (lv_sub hl [1, 2, 3, 4, 5, 6, 7] rfl) h
    · rw [if_neg c5] at h
      exact pf_X5_findHalves_165 C  hk_30 hk_39 v2 v3 p4 v6 v7 v8 r2 z3 hk4 hP hS (lv_sub hl [1, 2, 3, 4, 6, 7, 8, 0] rfl) h
def fn_X5_findHalves_123 (k30 : Int32 → Int32 → Nat → Int32 → Int32 → St → Option (Int32 × St)) (k39 : Int32 → Int32 → Nat → Int32 → Int32 → Int32 → St → Option (Int32 × St)) (v2 : Int32) (v3 : Int32) (p4 : Nat) (v5 : Int32) (v6 : Int32) (v7 : Int32) (tv0 : Int32) (z : St) : Option (Int32 × St) := (if tv0 = 0 then fn_X5_findHalves_146  k30 k39 v2 v3 p4 v5 v6 v7 tv0 v2 158 z else fn_X5_findHalves_146  k30 k39 v2 v3 p4 v5 v6 v7 tv0 v2 157 z)
set_option maxHeartbeats 4000000 in
set_option maxRecDepth 100000 in
theorem pf_X5_findHalves_123 {p : Program} {l : Launch} {e : Env} {s : State} {m : MethodId} {args : Array Value} {below : List Frame} {meth : Method} {c : Code} {G : wG} (C : CX p s m args meth c cX5_findHalves 10 wsX5_findHalves RX5 (some .boolean) G) {Rz : Int32 × St} {k30 : Int32 → Int32 → Nat → Int32 → Int32 → St → Option (Int32 × St)} {k39 : Int32 → Int32 → Nat → Int32 → Int32 → Int32 → St → Option (Int32 × St)} (hk_30 : ∀ (v2 : Int32) (v3 : Int32) (p4 : Nat) (v5 : Int32) (v6 : Int32) (z : St) (hk4 : kd p4 = 9) (H : Heap) (locs : List Loc) (ls : Array Slot), WP G z H → va_S (AW G) s.heap H locs → lv_has ls 10 [(0, .ref (G.2.2 156)), (2, .int v2), (3, .int v3), (4, .ref (G.2.2 p4)), (5, .int v5), (6, .int v6)] → k30 v2 v3 p4 v5 v6 z = some Rz → W p l e (rmd 5) s m args below meth c H locs 0 0 (QI below args s G Rz) (F0 m 30 ls [])) (hk_39 : ∀ (v2 : Int32) (v3 : Int32) (p4 : Nat) (v5 : Int32) (v6 : Int32) (v7 : Int32) (z : St) (hk4 : kd p4 = 9) (H : Heap) (locs : List Loc) (ls : Array Slot), WP G z H → va_S (AW G) s.heap H locs → lv_has ls 10 [(0, .ref (G.2.2 156)), (2, .int v2), (3, .int v3), (4, .ref (G.2.2 p4)), (5, .int v5), (6, .int v6), (7, .int v7)] → k39 v2 v3 p4 v5 v6 v7 z = some Rz → W p l e (rmd 5) s m args below meth c H locs 0 0 (QI below args s G Rz) (F0 m 39 ls [])) (v2 : Int32) (v3 : Int32) (p4 : Nat) (v5 : Int32) (v6 : Int32) (v7 : Int32) (tv0 : Int32) (z : St) (hk4 : kd p4 = 9) {H : Heap} {locs : List Loc} {ls : Array Slot} (hP : WP G z H) (hS : va_S (AW G) s.heap H locs) (hl : lv_has ls 10 [(0, .ref (G.2.2 156)), (2, .int v2), (3, .int v3), (4, .ref (G.2.2 p4)), (5, .int v5), (6, .int v6), (7, .int v7)]) (h : fn_X5_findHalves_123  k30 k39 v2 v3 p4 v5 v6 v7 tv0 z = some Rz) : W p l e (rmd 5) s m args below meth c H locs 0 0 (QI below args s G Rz) (F0 m 123 ls [.int tv0]) := by
  obtain ⟨hx, hb, hml, hown, hts, hr, hlocks, hK, hG⟩ := id C
  unfold fn_X5_findHalves_123 at h
  refine lv_istore (lv' := [(8, .int tv0), (0, .ref (G.2.2 156)), (2, .int v2), (3, .int v3), (4, .ref (G.2.2 p4)), (5, .int v5), (6, .int v6), (7, .int v7)]) hx hb dX5_findHalves_123 hl (by decide) rfl (fun ls hl => ?_)
  refine lv_aload_n hx hb dX5_findHalves_125 rfl (lv_at hl 1 rfl) ?_
  refine ge_5_2 hx hb hts in_X5_findHalves_X5 hown hK hP k_156 (hts _ (List.mem_of_getElem? (i := 5) rfl)) dX5_findHalves_126 ?_
  refine lv_iload_n hx hb dX5_findHalves_129 rfl (lv_at hl 2 rfl) ?_
  refine lv_iload hx hb dX5_findHalves_130 (lv_at hl 0 rfl) ?_
  refine lv_if_eq (tgt := 142) hx hb dX5_findHalves_132 (by decide) (fun c1 => ?_) (fun c1 => ?_)
  · rw [if_pos c1] at h
    refine lv_aload_n hx hb dX5_findHalves_142 rfl (lv_at hl 1 rfl) ?_
    refine ge_5_4 hx hb hts in_X5_findHalves_X5 hown hK hP k_156 (hts _ (List.mem_of_getElem? (i := 4) rfl)) dX5_findHalves_143 ?_
    exact pf_X5_findHalves_146 C  hk_30 hk_39 v2 v3 p4 v5 v6 v7 tv0 v2 158 z hk4 k_158 hP hS (lv_sub hl [1, 2, 3, 4, 5, 6, 7, 0] rfl) h
  · rw [if_neg c1] at h
    refine lv_aload_n hx hb dX5_findHalves_135 rfl (lv_at hl 1 rfl) ?_
    refine ge_5_3 hx hb hts in_X5_findHalves_X5 hown hK hP k_156 (hts _ (List.mem_of_getElem? (i := 3) rfl)) dX5_findHalves_136 ?_
    refine lv_goto (tgt := 146) hx hb dX5_findHalves_139 (by decide) ?_
    exact pf_X5_findHalves_146 C  hk_30 hk_39 v2 v3 p4 v5 v6 v7 tv0 v2 157 z hk4 k_157 hP hS (lv_sub hl [1, 2, 3, 4, 5, 6, 7, 0] rfl) h
def fn_X5_findHalves_39 (k30 : Int32 → Int32 → Nat → Int32 → Int32 → St → Option (Int32 × St)) : Nat → Int32 → Int32 → Nat → Int32 → Int32 → Int32 → St → Option (Int32 × St)
  | 0, _, _, _, _, _, _, _ => none
  | n + 1, v2, v3, p4, v5, v6, v7, z => bd (fn_X9_extent  p4 v6 z) (fun r2 z3 => (if r2 ≤ v7 then k30 v2 v3 p4 v5 (v6 + 1) z3 else bv (fn_X9_takeFrom  157 p4 z3) (fun z6 => bv (fn_X9_keepAhead  157 v6 v7 z6) (fun z8 => bv (fn_X9_takeFrom  158 p4 z8) (fun z10 => bv (fn_X9_keepBehind  158 v6 v7 z10) (fun z12 => bd (fn_X10_ofSlab  v3 158 z12) (fun r14 z15 => bd (fn_X10_ofSlab  v3 157 z15) (fun r17 z18 => (if r14 ≤ r17 then fn_X5_findHalves_123  k30 (fn_X5_findHalves_39  k30 n) v2 v3 p4 v5 v6 v7 0 z18 else fn_X5_findHalves_123  k30 (fn_X5_findHalves_39  k30 n) v2 v3 p4 v5 v6 v7 1 z18)))))))))
set_option maxHeartbeats 4000000 in
set_option maxRecDepth 100000 in
theorem pf_X5_findHalves_39 {p : Program} {l : Launch} {e : Env} {s : State} {m : MethodId} {args : Array Value} {below : List Frame} {meth : Method} {c : Code} {G : wG} (C : CX p s m args meth c cX5_findHalves 10 wsX5_findHalves RX5 (some .boolean) G) {Rz : Int32 × St} {k30 : Int32 → Int32 → Nat → Int32 → Int32 → St → Option (Int32 × St)} (hk_30 : ∀ (v2 : Int32) (v3 : Int32) (p4 : Nat) (v5 : Int32) (v6 : Int32) (z : St) (hk4 : kd p4 = 9) (H : Heap) (locs : List Loc) (ls : Array Slot), WP G z H → va_S (AW G) s.heap H locs → lv_has ls 10 [(0, .ref (G.2.2 156)), (2, .int v2), (3, .int v3), (4, .ref (G.2.2 p4)), (5, .int v5), (6, .int v6)] → k30 v2 v3 p4 v5 v6 z = some Rz → W p l e (rmd 5) s m args below meth c H locs 0 0 (QI below args s G Rz) (F0 m 30 ls [])) : ∀ (n : Nat) (v2 : Int32) (v3 : Int32) (p4 : Nat) (v5 : Int32) (v6 : Int32) (v7 : Int32) (z : St) (hk4 : kd p4 = 9) (H : Heap) (locs : List Loc) (ls : Array Slot), WP G z H → va_S (AW G) s.heap H locs → lv_has ls 10 [(0, .ref (G.2.2 156)), (2, .int v2), (3, .int v3), (4, .ref (G.2.2 p4)), (5, .int v5), (6, .int v6), (7, .int v7)] → fn_X5_findHalves_39  k30 n v2 v3 p4 v5 v6 v7 z = some Rz → W p l e (rmd 5) s m args below meth c H locs 0 0 (QI below args s G Rz) (F0 m 39 ls []) := by
  obtain ⟨hx, hb, hml, hown, hts, hr, hlocks, hK, hG⟩ := id C
  intro n
  induction n with
  | zero => intro v2 v3 p4 v5 v6 v7 z hk4 H locs ls hP hS hl h; cases h
  | succ n ih =>
    intro v2 v3 p4 v5 v6 v7 z hk4 H locs ls hP hS hl h
    rw [fn_X5_findHalves_39] at h
    refine lv_iload hx hb dX5_findHalves_39 (lv_at hl 6 rfl) ?_
    refine lv_aload hx hb dX5_findHalves_41 (lv_at hl 3 rfl) ?_
    refine lv_iload hx hb dX5_findHalves_43 (lv_at hl 5 rfl) ?_
    obtain ⟨r2, z3, h1, h⟩ := bd_s h
    refine x_Vi (Rz := (r2, z3)) (As := [.int v6]) (rest := [.int v7]) ⟨hx, hb, hml, hown, hts⟩ hK hP hS (kd_lt hk4 (by decide)) (cell_9 hk4) rfl (m_X9_extent hG  hk4 h1) (cwV 1 hts gX5_findHalves_X9_extent rfl rfl rfl (by decide +kernel) (rmd_ok (by decide) (by decide))) rfl hl.1 rfl (Nat.le_of_ble_eq_true rfl) dX5_findHalves_45 ⟨Nat.le_refl _, Nat.le_refl _⟩ (fun H locs hP hS => ?_)
    refine lv_icmp_ge (tgt := 206) hx hb dX5_findHalves_48 (by decide) (fun c4 => ?_) (fun c4 => ?_)
    · rw [if_pos c4] at h
      refine lv_iinc (v := (v6 + 1)) (lv' := [(6, .int (v6 + 1)), (0, .ref (G.2.2 156)), (2, .int v2), (3, .int v3), (4, .ref (G.2.2 p4)), (5, .int v5), (7, .int v7)]) hx hb dX5_findHalves_206 hl (k := 5) rfl rfl (by decide) rfl (fun ls hl => ?_)
      refine lv_goto (tgt := 30) hx hb dX5_findHalves_209 (by decide) ?_
      exact hk_30 v2 v3 p4 v5 (v6 + 1) z3 hk4 _ _ _ hP hS (lv_sub hl [1, 2, 3, 4, 5, 0] rfl) h
    · rw [if_neg c4] at h
      refine lv_aload_n hx hb dX5_findHalves_51 rfl (lv_at hl 0 rfl) ?_
      refine ge_5_3 hx hb hts in_X5_findHalves_X5 hown hK hP k_156 (hts _ (List.mem_of_getElem? (i := 3) rfl)) dX5_findHalves_52 ?_
      refine lv_aload hx hb dX5_findHalves_55 (lv_at hl 3 rfl) ?_
      obtain ⟨z6, h5, h⟩ := bv_s h
      refine x_Vv (Rz := z6) (As := [.ref (G.2.2 p4)]) (rest := []) ⟨hx, hb, hml, hown, hts⟩ hK hP hS (kd_lt k_157 (by decide)) (cell_9 k_157) rfl (m_X9_takeFrom hG  k_157 hk4 h5) (cwV 1 hts gX5_findHalves_X9_takeFrom rfl rfl rfl (by decide +kernel) (rmd_ok (by decide) (by decide))) rfl hl.1 rfl (Nat.le_of_ble_eq_true rfl) dX5_findHalves_57 ⟨Nat.le_refl _, Nat.le_refl _⟩ (fun H locs hP hS => ?_)
      refine lv_aload_n hx hb dX5_findHalves_60 rfl (lv_at hl 0 rfl) ?_
      refine ge_5_3 hx hb hts in_X5_findHalves_X5 hown hK hP k_156 (hts _ (List.mem_of_getElem? (i := 3) rfl)) dX5_findHalves_61 ?_
      refine lv_iload hx hb dX5_findHalves_64 (lv_at hl 5 rfl) ?_
      refine lv_iload hx hb dX5_findHalves_66 (lv_at hl 6 rfl) ?_
      obtain ⟨z8, h7, h⟩ := bv_s h
      refine x_Vv (Rz := z8) (As := [.int v6, .int v7]) (rest := []) ⟨hx, hb, hml, hown, hts⟩ hK hP hS (kd_lt k_157 (by decide)) (cell_9 k_157) rfl (m_X9_keepAhead hG  k_157 h7) (cwV 2 hts gX5_findHalves_X9_keepAhead rfl rfl rfl (by decide +kernel) (rmd_ok (by decide) (by decide))) rfl hl.1 rfl (Nat.le_of_ble_eq_true rfl) dX5_findHalves_68 ⟨Nat.le_refl _, Nat.le_refl _⟩ (fun H locs hP hS => ?_)
      refine lv_aload_n hx hb dX5_findHalves_71 rfl (lv_at hl 0 rfl) ?_
      refine ge_5_4 hx hb hts in_X5_findHalves_X5 hown hK hP k_156 (hts _ (List.mem_of_getElem? (i := 4) rfl)) dX5_findHalves_72 ?_
      refine lv_aload hx hb dX5_findHalves_75 (lv_at hl 3 rfl) ?_
      obtain ⟨z10, h9, h⟩ := bv_s h
      refine x_Vv (Rz := z10) (As := [.ref (G.2.2 p4)]) (rest := []) ⟨hx, hb, hml, hown, hts⟩ hK hP hS (kd_lt k_158 (by decide)) (cell_9 k_158) rfl (m_X9_takeFrom hG  k_158 hk4 h9) (cwV 1 hts gX5_findHalves_X9_takeFrom rfl rfl rfl (by decide +kernel) (rmd_ok (by decide) (by decide))) rfl hl.1 rfl (Nat.le_of_ble_eq_true rfl) dX5_findHalves_77 ⟨Nat.le_refl _, Nat.le_refl _⟩ (fun H locs hP hS => ?_)
      refine lv_aload_n hx hb dX5_findHalves_80 rfl (lv_at hl 0 rfl) ?_
      refine ge_5_4 hx hb hts in_X5_findHalves_X5 hown hK hP k_156 (hts _ (List.mem_of_getElem? (i := 4) rfl)) dX5_findHalves_81 ?_
      refine lv_iload hx hb dX5_findHalves_84 (lv_at hl 5 rfl) ?_
      refine lv_iload hx hb dX5_findHalves_86 (lv_at hl 6 rfl) ?_
      obtain ⟨z12, h11, h⟩ := bv_s h
      refine x_Vv (Rz := z12) (As := [.int v6, .int v7]) (rest := []) ⟨hx, hb, hml, hown, hts⟩ hK hP hS (kd_lt k_158 (by decide)) (cell_9 k_158) rfl (m_X9_keepBehind hG  k_158 h11) (cwV 2 hts gX5_findHalves_X9_keepBehind rfl rfl rfl (by decide +kernel) (rmd_ok (by decide) (by decide))) rfl hl.1 rfl (Nat.le_of_ble_eq_true rfl) dX5_findHalves_88 ⟨Nat.le_refl _, Nat.le_refl _⟩ (fun H locs hP hS => ?_)
      refine lv_aload_n hx hb dX5_findHalves_91 rfl (lv_at hl 0 rfl) ?_
      refine ge_5_2 hx hb hts in_X5_findHalves_X5 hown hK hP k_156 (hts _ (List.mem_of_getElem? (i := 5) rfl)) dX5_findHalves_92 ?_
      refine lv_iload_n hx hb dX5_findHalves_95 rfl (lv_at hl 2 rfl) ?_
      refine lv_aload_n hx hb dX5_findHalves_96 rfl (lv_at hl 0 rfl) ?_
      refine ge_5_4 hx hb hts in_X5_findHalves_X5 hown hK hP k_156 (hts _ (List.mem_of_getElem? (i := 4) rfl)) dX5_findHalves_97 ?_
      obtain ⟨r14, z15, h13, h⟩ := bd_s h
      refine x_Vi (Rz := (r14, z15)) (As := [.int v3, .ref (G.2.2 158)]) (rest := []) ⟨hx, hb, hml, hown, hts⟩ hK hP hS (kd_lt k_143 (by decide)) (cell_10 k_143) rfl (m_X10_ofSlab hG  k_158 h13) (cwV 2 hts gX5_findHalves_X10_ofSlab rfl rfl rfl (by decide +kernel) (rmd_ok (by decide) (by decide))) rfl hl.1 rfl (Nat.le_of_ble_eq_true rfl) dX5_findHalves_100 ⟨Nat.le_refl _, Nat.le_refl _⟩ (fun H locs hP hS => ?_)
      refine lv_aload_n hx hb dX5_findHalves_103 rfl (lv_at hl 0 rfl) ?_
      refine ge_5_2 hx hb hts in_X5_findHalves_X5 hown hK hP k_156 (hts _ (List.mem_of_getElem? (i := 5) rfl)) dX5_findHalves_104 ?_
      refine lv_iload_n hx hb dX5_findHalves_107 rfl (lv_at hl 2 rfl) ?_
      refine lv_aload_n hx hb dX5_findHalves_108 rfl (lv_at hl 0 rfl) ?_
      refine ge_5_3 hx hb hts in_X5_findHalves_X5 hown hK hP k_156 (hts _ (List.mem_of_getElem? (i := 3) rfl)) dX5_findHalves_109 ?_
      obtain ⟨r17, z18, h16, h⟩ := bd_s h
      refine x_Vi (Rz := (r17, z18)) (As := [.int v3, .ref (G.2.2 157)]) (rest := [.int r14]) ⟨hx, hb, hml, hown, hts⟩ hK hP hS (kd_lt k_143 (by decide)) (cell_10 k_143) rfl (m_X10_ofSlab hG  k_157 h16) (cwV 2 hts gX5_findHalves_X10_ofSlab rfl rfl rfl (by decide +kernel) (rmd_ok (by decide) (by decide))) rfl hl.1 rfl (Nat.le_of_ble_eq_true rfl) dX5_findHalves_112 ⟨Nat.le_refl _, Nat.le_refl _⟩ (fun H locs hP hS => ?_)
      refine lv_icmp_le (tgt := 122) hx hb dX5_findHalves_115 (by decide) (fun c19 => ?_) (fun c19 => ?_)
      · rw [if_pos c19] at h
        refine lv_iconst (v := 0) hx hb dX5_findHalves_122 (by decide) ?_
        exact pf_X5_findHalves_123 C  hk_30 ih v2 v3 p4 v5 v6 v7 0 z18 hk4 hP hS (lv_sub hl [0, 1, 2, 3, 4, 5, 6] rfl) h
      · rw [if_neg c19] at h
        refine lv_iconst (v := 1) hx hb dX5_findHalves_118 (by decide) ?_
        refine lv_goto (tgt := 123) hx hb dX5_findHalves_119 (by decide) ?_
        exact pf_X5_findHalves_123 C  hk_30 ih v2 v3 p4 v5 v6 v7 1 z18 hk4 hP hS (lv_sub hl [0, 1, 2, 3, 4, 5, 6] rfl) h
def fn_X5_findHalves_30 : Nat → Int32 → Int32 → Nat → Int32 → Int32 → St → Option (Int32 × St)
  | 0, _, _, _, _, _, _ => none
  | n + 1, v2, v3, p4, v5, v6, z => (if 1 < v6 then gd (zok v5) (some (v5, z)) else fn_X5_findHalves_39  (fn_X5_findHalves_30   n) fu v2 v3 p4 v5 v6 1 z)
set_option maxHeartbeats 4000000 in
set_option maxRecDepth 100000 in
theorem pf_X5_findHalves_30 {p : Program} {l : Launch} {e : Env} {s : State} {m : MethodId} {args : Array Value} {below : List Frame} {meth : Method} {c : Code} {G : wG} (C : CX p s m args meth c cX5_findHalves 10 wsX5_findHalves RX5 (some .boolean) G) {Rz : Int32 × St} : ∀ (n : Nat) (v2 : Int32) (v3 : Int32) (p4 : Nat) (v5 : Int32) (v6 : Int32) (z : St) (hk4 : kd p4 = 9) (H : Heap) (locs : List Loc) (ls : Array Slot), WP G z H → va_S (AW G) s.heap H locs → lv_has ls 10 [(0, .ref (G.2.2 156)), (2, .int v2), (3, .int v3), (4, .ref (G.2.2 p4)), (5, .int v5), (6, .int v6)] → fn_X5_findHalves_30   n v2 v3 p4 v5 v6 z = some Rz → W p l e (rmd 5) s m args below meth c H locs 0 0 (QI below args s G Rz) (F0 m 30 ls []) := by
  obtain ⟨hx, hb, hml, hown, hts, hr, hlocks, hK, hG⟩ := id C
  intro n
  induction n with
  | zero => intro v2 v3 p4 v5 v6 z hk4 H locs ls hP hS hl h; cases h
  | succ n ih =>
    intro v2 v3 p4 v5 v6 z hk4 H locs ls hP hS hl h
    rw [fn_X5_findHalves_30] at h
    refine lv_iload hx hb dX5_findHalves_30 (lv_at hl 5 rfl) ?_
    refine lv_iconst (v := 1) hx hb dX5_findHalves_32 (by decide) ?_
    refine lv_icmp_gt (tgt := 212) hx hb dX5_findHalves_33 (by decide) (fun c1 => ?_) (fun c1 => ?_)
    · rw [if_pos c1] at h
      refine lv_iload hx hb dX5_findHalves_212 (lv_at hl 4 rfl) ?_
      obtain ⟨g2, h⟩ := gd_s h
      exact x_zret hx hb hr hlocks hK hP hS g2 h dX5_findHalves_214
    · rw [if_neg c1] at h
      refine lv_iconst (v := 1) hx hb dX5_findHalves_36 (by decide) ?_
      refine lv_istore (lv' := [(7, .int 1), (0, .ref (G.2.2 156)), (2, .int v2), (3, .int v3), (4, .ref (G.2.2 p4)), (5, .int v5), (6, .int v6)]) hx hb dX5_findHalves_37 hl (by decide) rfl (fun ls hl => ?_)
      exact pf_X5_findHalves_39 C  ih fu v2 v3 p4 v5 v6 1 z hk4 _ _ _ hP hS (lv_sub hl [1, 2, 3, 4, 5, 6, 0] rfl) h
def fn_X5_findHalves (v1 : Int32) (v2 : Int32) (v3 : Int32) (z : St) : Option (Int32 × St) := bd (fn_X1_isFree  34 v1 z) (fun r2 z3 => (if r2 = 0 then some (0, z3) else gd (ix v1 24) (fn_X5_findHalves_30   fu v2 v3 (35 + 1 + (Int32.toNatClampNeg v1)) 0 0 z3)))
set_option maxHeartbeats 4000000 in
set_option maxRecDepth 100000 in
theorem m_X5_findHalves {l : Launch} {G : wG} (hG : Ok G) {v1 : Int32} {v2 : Int32} {v3 : Int32} {z : St} {Rz : Int32 × St}  (h : fn_X5_findHalves  v1 v2 v3 z = some Rz) : Met l yX5_findHalves wsX5_findHalves (rmd 5) (va_Pc [.ref (G.2.2 156), .int v1, .int v2, .int v3] (Pre G z)) (va_Qi (fun r u => (r, u) = Rz) (Pre G) (AW G)) 0 0 (AW G) := by
  refine Met.ofW (cc := cX5_findHalves) (maxL := 10) (ret := (some .boolean)) (by decide) rfl ?_
  intro p e s m args below meth c s₁ B hml hv
  obtain ⟨rfl, hP, hK⟩ := hv
  have C : CX p s m ([.ref (G.2.2 156), .int v1, .int v2, .int v3] : List Value).toArray meth c cX5_findHalves 10 wsX5_findHalves RX5 (some .boolean) G := ⟨B.exec, B.bytes, hml, findClass_of_methodNamed B.named, atoms_spec (ws := wsX5_findHalves) B.pre, B.returns, B.notSynchronized, hK, hG⟩
  obtain ⟨hx, hb, -, hown, hts, hr, hlocks, -, -⟩ := id C
  have hS : va_S (AW G) s.heap s.heap [] := va_S.rf
  have hl := lv_entry [.ref (G.2.2 156), .int v1, .int v2, .int v3] (n := 10) (Nat.le_of_ble_eq_true rfl)
  rw [lg_entry_eq]
  generalize (lg_sl [.ref (G.2.2 156), .int v1, .int v2, .int v3] ++ List.replicate (10 - (lg_sl [.ref (G.2.2 156), .int v1, .int v2, .int v3]).length) Slot.unset).toArray = ls at hl ⊢
  have hl : lv_has ls 10 [(0, .ref (G.2.2 156)), (1, .int v1), (2, .int v2), (3, .int v3)] := hl
  unfold fn_X5_findHalves at h
  refine lv_aload_n hx hb dX5_findHalves_0 rfl (lv_at hl 0 rfl) ?_
  refine ge_5_1 hx hb hts in_X5_findHalves_X5 hown hK hP k_156 (hts _ (List.mem_of_getElem? (i := 1) rfl)) dX5_findHalves_1 ?_
  refine lv_iload_n hx hb dX5_findHalves_4 rfl (lv_at hl 1 rfl) ?_
  obtain ⟨r2, z3, h1, h⟩ := bd_s h
  refine x_Vi (Rz := (r2, z3)) (As := [.int v1]) (rest := []) ⟨hx, hb, hml, hown, hts⟩ hK hP hS (kd_lt k_34 (by decide)) (cell_1 k_34) rfl (m_X1_isFree hG  k_34 h1) (cwV 1 hts gX5_findHalves_X1_isFree rfl rfl rfl (by decide +kernel) (rmd_ok (by decide) (by decide))) rfl hl.1 rfl (Nat.le_of_ble_eq_true rfl) dX5_findHalves_5 ⟨Nat.le_refl _, Nat.le_refl _⟩ (fun H locs hP hS => ?_)
  refine lv_if_ne (tgt := 13) hx hb dX5_findHalves_8 (by decide) (fun c4 => ?_) (fun c4 => ?_)
  · rw [if_neg c4] at h
    refine lv_aload_n hx hb dX5_findHalves_13 rfl (lv_at hl 0 rfl) ?_
    refine ge_5_1 hx hb hts in_X5_findHalves_X5 hown hK hP k_156 (hts _ (List.mem_of_getElem? (i := 1) rfl)) dX5_findHalves_14 ?_
    refine ge_1_0 hx hb hts in_X5_findHalves_X1 hown hK hP k_34 (hts _ (List.mem_of_getElem? (i := 2) rfl)) dX5_findHalves_17 ?_
    refine lv_iload_n hx hb dX5_findHalves_20 rfl (lv_at hl 1 rfl) ?_
    obtain ⟨g5, h⟩ := gd_s h
    refine xl_18 hx hb hK hP k_35 l_35 (ix_in g5) dX5_findHalves_21 ?_
    refine lv_astore (lv' := [(4, .ref (G.2.2 (35 + 1 + (Int32.toNatClampNeg v1)))), (0, .ref (G.2.2 156)), (1, .int v1), (2, .int v2), (3, .int v3)]) hx hb dX5_findHalves_22 hl (by decide) rfl (fun ls hl => ?_)
    refine lv_iconst (v := 0) hx hb dX5_findHalves_24 (by decide) ?_
    refine lv_istore (lv' := [(5, .int 0), (4, .ref (G.2.2 (35 + 1 + (Int32.toNatClampNeg v1)))), (0, .ref (G.2.2 156)), (1, .int v1), (2, .int v2), (3, .int v3)]) hx hb dX5_findHalves_25 hl (by decide) rfl (fun ls hl => ?_)
    refine lv_iconst (v := 0) hx hb dX5_findHalves_27 (by decide) ?_
    refine lv_istore (lv' := [(6, .int 0), (5, .int 0), (4, .ref (G.2.2 (35 + 1 + (Int32.toNatClampNeg v1)))), (0, .ref (G.2.2 156)), (1, .int v1), (2, .int v2), (3, .int v3)]) hx hb dX5_findHalves_28 hl (by decide) rfl (fun ls hl => ?_)
    exact pf_X5_findHalves_30 C   fu v2 v3 (35 + 1 + (Int32.toNatClampNeg v1)) 0 0 z3 (ke_18 k_35 (ix_lt g5)) _ _ _ hP hS (lv_sub hl [3, 5, 6, 2, 1, 0] rfl) h
  · rw [if_pos c4] at h
    refine lv_iconst (v := 0) hx hb dX5_findHalves_11 (by decide) ?_
    exact x_zret hx hb hr hlocks hK hP hS rfl h dX5_findHalves_12
theorem in_X5_prepare_X7 : ∀ w ∈ wsX70, w ∈ wsX5_prepare := fun _ h => (List.mem_cons_of_mem _ (List.mem_append_left _ (List.mem_append_left _ (List.mem_append_left _ (List.mem_append_left _ (List.mem_append_right _ h))))))
theorem in_X5_prepare_X5 : ∀ w ∈ wsX50, w ∈ wsX5_prepare := fun _ h => (List.mem_cons_of_mem _ (List.mem_append_left _ (List.mem_append_left _ (List.mem_append_left _ (List.mem_append_left _ (List.mem_append_left _ (List.mem_append_right _ h)))))))
theorem in_X5_prepare_X1 : ∀ w ∈ wsX10, w ∈ wsX5_prepare := fun _ h => (List.mem_cons_of_mem _ (List.mem_append_left _ (List.mem_append_left _ (List.mem_append_left _ (List.mem_append_right _ h)))))
def fn_X5_prepare_98 (k12 : Int32 → St → Option (St)) (v1 : Int32) (z : St) : Option (St) := k12 (v1 + 1) z
set_option maxHeartbeats 4000000 in
set_option maxRecDepth 100000 in
theorem pf_X5_prepare_98 {p : Program} {l : Launch} {e : Env} {s : State} {m : MethodId} {args : Array Value} {below : List Frame} {meth : Method} {c : Code} {G : wG} (C : CX p s m args meth c cX5_prepare 3 wsX5_prepare RX5 none G) {Rz : St} {k12 : Int32 → St → Option (St)} (hk_12 : ∀ (v1 : Int32) (z : St)  (H : Heap) (locs : List Loc) (ls : Array Slot), WP G z H → va_S (AW G) s.heap H locs → lv_has ls 3 [(0, .ref (G.2.2 156)), (1, .int v1)] → k12 v1 z = some Rz → W p l e (rmd 6) s m args below meth c H locs 0 0 (QV below args s G Rz) (F0 m 12 ls [])) (v1 : Int32) (z : St)  {H : Heap} {locs : List Loc} {ls : Array Slot} (hP : WP G z H) (hS : va_S (AW G) s.heap H locs) (hl : lv_has ls 3 [(0, .ref (G.2.2 156)), (1, .int v1)]) (h : fn_X5_prepare_98  k12 v1 z = some Rz) : W p l e (rmd 6) s m args below meth c H locs 0 0 (QV below args s G Rz) (F0 m 98 ls []) := by
  obtain ⟨hx, hb, hml, hown, hts, hr, hlocks, hK, hG⟩ := id C
  unfold fn_X5_prepare_98 at h
  refine lv_iinc (v := (v1 + 1)) (lv' := [(1, .int (v1 + 1)), (0, .ref (G.2.2 156))]) hx hb dX5_prepare_98 hl (k := 1) rfl rfl (by decide) rfl (fun ls hl => ?_)
  refine lv_goto (tgt := 12) hx hb dX5_prepare_101 (by decide) ?_
  exact hk_12 (v1 + 1) z  _ _ _ hP hS (lv_sub hl [1, 0] rfl) h
def fn_X5_prepare_60 (k12 : Int32 → St → Option (St)) : Nat → Int32 → Int32 → St → Option (St)
  | 0, _, _, _ => none
  | n + 1, v1, v2, z => (if (z.1 34 2) ≤ v2 then fn_X5_prepare_98  k12 v1 z else bd (fn_X10_ofPiece  v1 v2 0 z) (fun r3 z4 => gd (ix ((v1 * 24) + v2) 144) (nm (sI z4 159 (Int32.toNatClampNeg ((v1 * 24) + v2)) r3) (fun z6 => fn_X5_prepare_60  k12 n v1 (v2 + 1) z6))))
set_option maxHeartbeats 4000000 in
set_option maxRecDepth 100000 in
theorem pf_X5_prepare_60 {p : Program} {l : Launch} {e : Env} {s : State} {m : MethodId} {args : Array Value} {below : List Frame} {meth : Method} {c : Code} {G : wG} (C : CX p s m args meth c cX5_prepare 3 wsX5_prepare RX5 none G) {Rz : St} {k12 : Int32 → St → Option (St)} (hk_12 : ∀ (v1 : Int32) (z : St)  (H : Heap) (locs : List Loc) (ls : Array Slot), WP G z H → va_S (AW G) s.heap H locs → lv_has ls 3 [(0, .ref (G.2.2 156)), (1, .int v1)] → k12 v1 z = some Rz → W p l e (rmd 6) s m args below meth c H locs 0 0 (QV below args s G Rz) (F0 m 12 ls [])) : ∀ (n : Nat) (v1 : Int32) (v2 : Int32) (z : St)  (H : Heap) (locs : List Loc) (ls : Array Slot), WP G z H → va_S (AW G) s.heap H locs → lv_has ls 3 [(0, .ref (G.2.2 156)), (1, .int v1), (2, .int v2)] → fn_X5_prepare_60  k12 n v1 v2 z = some Rz → W p l e (rmd 6) s m args below meth c H locs 0 0 (QV below args s G Rz) (F0 m 60 ls []) := by
  obtain ⟨hx, hb, hml, hown, hts, hr, hlocks, hK, hG⟩ := id C
  intro n
  induction n with
  | zero => intro v1 v2 z  H locs ls hP hS hl h; cases h
  | succ n ih =>
    intro v1 v2 z  H locs ls hP hS hl h
    rw [fn_X5_prepare_60] at h
    refine lv_iload_n hx hb dX5_prepare_60 rfl (lv_at hl 2 rfl) ?_
    refine lv_aload_n hx hb dX5_prepare_61 rfl (lv_at hl 0 rfl) ?_
    refine ge_5_1 hx hb hts in_X5_prepare_X5 hown hK hP k_156 (hts _ (List.mem_of_getElem? (i := 5) rfl)) dX5_prepare_62 ?_
    refine ge_1_2 hx hb hts in_X5_prepare_X1 hown hK hP k_34 (hts _ (List.mem_of_getElem? (i := 7) rfl)) dX5_prepare_65 ?_
    refine lv_icmp_ge (tgt := 98) hx hb dX5_prepare_68 (by decide) (fun c1 => ?_) (fun c1 => ?_)
    · rw [if_pos c1] at h
      exact pf_X5_prepare_98 C  hk_12 v1 z  hP hS (lv_sub hl [0, 1] rfl) h
    · rw [if_neg c1] at h
      refine lv_aload_n hx hb dX5_prepare_71 rfl (lv_at hl 0 rfl) ?_
      refine ge_5_5 hx hb hts in_X5_prepare_X5 hown hK hP k_156 (hts _ (List.mem_of_getElem? (i := 8) rfl)) dX5_prepare_72 ?_
      refine lv_iload_n hx hb dX5_prepare_75 rfl (lv_at hl 1 rfl) ?_
      refine lv_bipush (v := 24) hx hb dX5_prepare_76 (by decide) ?_
      refine lv_imul hx hb dX5_prepare_78 ?_
      refine lv_iload_n hx hb dX5_prepare_79 rfl (lv_at hl 2 rfl) ?_
      refine lv_iadd hx hb dX5_prepare_80 ?_
      refine lv_aload_n hx hb dX5_prepare_81 rfl (lv_at hl 0 rfl) ?_
      refine ge_5_2 hx hb hts in_X5_prepare_X5 hown hK hP k_156 (hts _ (List.mem_of_getElem? (i := 9) rfl)) dX5_prepare_82 ?_
      refine lv_iload_n hx hb dX5_prepare_85 rfl (lv_at hl 1 rfl) ?_
      refine lv_iload_n hx hb dX5_prepare_86 rfl (lv_at hl 2 rfl) ?_
      refine lv_iconst (v := 0) hx hb dX5_prepare_87 (by decide) ?_
      obtain ⟨r3, z4, h2, h⟩ := bd_s h
      refine x_Vi (Rz := (r3, z4)) (As := [.int v1, .int v2, .int 0]) (rest := [.int ((v1 * 24) + v2), .ref (G.2.2 159)]) ⟨hx, hb, hml, hown, hts⟩ hK hP hS (kd_lt k_143 (by decide)) (cell_10 k_143) rfl (m_X10_ofPiece hG   h2) (cwV 3 hts gX5_prepare_X10_ofPiece rfl rfl rfl (by decide +kernel) (rmd_ok (by decide) (by decide))) rfl hl.1 rfl (Nat.le_of_ble_eq_true rfl) dX5_prepare_88 ⟨Nat.le_refl _, Nat.le_refl _⟩ (fun H locs hP hS => ?_)
      obtain ⟨g5, h⟩ := gd_s h
      obtain ⟨z6, e_z6, h⟩ := nm_s h
      refine xs_14 hx hb hK hG hP hS k_159 l_159 (ix_in g5) dX5_prepare_91 (fun H locs hP hS => ?_)
      rw [← e_z6] at hP
      refine lv_iinc (v := (v2 + 1)) (lv' := [(2, .int (v2 + 1)), (0, .ref (G.2.2 156)), (1, .int v1)]) hx hb dX5_prepare_92 hl (k := 2) rfl rfl (by decide) rfl (fun ls hl => ?_)
      refine lv_goto (tgt := 60) hx hb dX5_prepare_95 (by decide) ?_
      exact ih v1 (v2 + 1) z6 _ _ _ hP hS (lv_sub hl [1, 2, 0] rfl) h
def fn_X5_prepare_145 (k111 : Int32 → St → Option (St)) (v1 : Int32) (z : St) : Option (St) := k111 (v1 + 1) z
set_option maxHeartbeats 4000000 in
set_option maxRecDepth 100000 in
theorem pf_X5_prepare_145 {p : Program} {l : Launch} {e : Env} {s : State} {m : MethodId} {args : Array Value} {below : List Frame} {meth : Method} {c : Code} {G : wG} (C : CX p s m args meth c cX5_prepare 3 wsX5_prepare RX5 none G) {Rz : St} {k111 : Int32 → St → Option (St)} (hk_111 : ∀ (v1 : Int32) (z : St)  (H : Heap) (locs : List Loc) (ls : Array Slot), WP G z H → va_S (AW G) s.heap H locs → lv_has ls 3 [(0, .ref (G.2.2 156)), (1, .int v1)] → k111 v1 z = some Rz → W p l e (rmd 6) s m args below meth c H locs 0 0 (QV below args s G Rz) (F0 m 111 ls [])) (v1 : Int32) (z : St)  {H : Heap} {locs : List Loc} {ls : Array Slot} (hP : WP G z H) (hS : va_S (AW G) s.heap H locs) (hl : lv_has ls 3 [(0, .ref (G.2.2 156)), (1, .int v1)]) (h : fn_X5_prepare_145  k111 v1 z = some Rz) : W p l e (rmd 6) s m args below meth c H locs 0 0 (QV below args s G Rz) (F0 m 145 ls []) := by
  obtain ⟨hx, hb, hml, hown, hts, hr, hlocks, hK, hG⟩ := id C
  unfold fn_X5_prepare_145 at h
  refine lv_iinc (v := (v1 + 1)) (lv' := [(1, .int (v1 + 1)), (0, .ref (G.2.2 156))]) hx hb dX5_prepare_145 hl (k := 1) rfl rfl (by decide) rfl (fun ls hl => ?_)
  refine lv_goto (tgt := 111) hx hb dX5_prepare_148 (by decide) ?_
  exact hk_111 (v1 + 1) z  _ _ _ hP hS (lv_sub hl [1, 0] rfl) h
def fn_X5_prepare_111 : Nat → Int32 → St → Option (St)
  | 0, _, _ => none
  | n + 1, v1, z => (if (z.1 34 2) ≤ v1 then some z else bd (fn_X1_isFree  34 v1 z) (fun r3 z4 => (if r3 = 0 then fn_X5_prepare_145  (fn_X5_prepare_111   n) v1 z4 else nm (sI z4 156 9 ((z4.1 156 9) ||| (1 <<< (v1 &&& 31)))) (fun z6 => fn_X5_prepare_145  (fn_X5_prepare_111   n) v1 z6))))
set_option maxHeartbeats 4000000 in
set_option maxRecDepth 100000 in
theorem pf_X5_prepare_111 {p : Program} {l : Launch} {e : Env} {s : State} {m : MethodId} {args : Array Value} {below : List Frame} {meth : Method} {c : Code} {G : wG} (C : CX p s m args meth c cX5_prepare 3 wsX5_prepare RX5 none G) {Rz : St} : ∀ (n : Nat) (v1 : Int32) (z : St)  (H : Heap) (locs : List Loc) (ls : Array Slot), WP G z H → va_S (AW G) s.heap H locs → lv_has ls 3 [(0, .ref (G.2.2 156)), (1, .int v1)] → fn_X5_prepare_111   n v1 z = some Rz → W p l e (rmd 6) s m args below meth c H locs 0 0 (QV below args s G Rz) (F0 m 111 ls []) := by
  obtain ⟨hx, hb, hml, hown, hts, hr, hlocks, hK, hG⟩ := id C
  intro n
  induction n with
  | zero => intro v1 z  H locs ls hP hS hl h; cases h
  | succ n ih =>
    intro v1 z  H locs ls hP hS hl h
    rw [fn_X5_prepare_111] at h
    refine lv_iload_n hx hb dX5_prepare_111 rfl (lv_at hl 1 rfl) ?_
    refine lv_aload_n hx hb dX5_prepare_112 rfl (lv_at hl 0 rfl) ?_
    refine ge_5_1 hx hb hts in_X5_prepare_X5 hown hK hP k_156 (hts _ (List.mem_of_getElem? (i := 5) rfl)) dX5_prepare_113 ?_
    refine ge_1_2 hx hb hts in_X5_prepare_X1 hown hK hP k_34 (hts _ (List.mem_of_getElem? (i := 7) rfl)) dX5_prepare_116 ?_
    refine lv_icmp_ge (tgt := 151) hx hb dX5_prepare_119 (by decide) (fun c1 => ?_) (fun c1 => ?_)
    · rw [if_pos c1] at h
      exact x_vret hx hb hr hlocks hK hP hS h dX5_prepare_151
    · rw [if_neg c1] at h
      refine lv_aload_n hx hb dX5_prepare_122 rfl (lv_at hl 0 rfl) ?_
      refine ge_5_1 hx hb hts in_X5_prepare_X5 hown hK hP k_156 (hts _ (List.mem_of_getElem? (i := 5) rfl)) dX5_prepare_123 ?_
      refine lv_iload_n hx hb dX5_prepare_126 rfl (lv_at hl 1 rfl) ?_
      obtain ⟨r3, z4, h2, h⟩ := bd_s h
      refine x_Vi (Rz := (r3, z4)) (As := [.int v1]) (rest := []) ⟨hx, hb, hml, hown, hts⟩ hK hP hS (kd_lt k_34 (by decide)) (cell_1 k_34) rfl (m_X1_isFree hG  k_34 h2) (cwV 1 hts gX5_prepare_X1_isFree rfl rfl rfl (by decide +kernel) (rmd_ok (by decide) (by decide))) rfl hl.1 rfl (Nat.le_of_ble_eq_true rfl) dX5_prepare_127 ⟨Nat.le_refl _, Nat.le_refl _⟩ (fun H locs hP hS => ?_)
      refine lv_if_eq (tgt := 145) hx hb dX5_prepare_130 (by decide) (fun c5 => ?_) (fun c5 => ?_)
      · rw [if_pos c5] at h
        exact pf_X5_prepare_145 C  ih v1 z4  hP hS (lv_sub hl [0, 1] rfl) h
      · rw [if_neg c5] at h
        refine lv_aload_n hx hb dX5_prepare_133 rfl (lv_at hl 0 rfl) ?_
        refine lv_dup hx hb dX5_prepare_134 rfl ?_
        refine ge_5_9 hx hb hts in_X5_prepare_X5 hown hK hP k_156 (hts _ (List.mem_of_getElem? (i := 10) rfl)) dX5_prepare_135 ?_
        refine lv_iconst (v := 1) hx hb dX5_prepare_138 (by decide) ?_
        refine lv_iload_n hx hb dX5_prepare_139 rfl (lv_at hl 1 rfl) ?_
        refine lv_ishl hx hb dX5_prepare_140 ?_
        refine lv_ior hx hb dX5_prepare_141 ?_
        obtain ⟨z6, e_z6, h⟩ := nm_s h
        refine pu_5_9 hx hb hts in_X5_prepare_X5 hown hK hG hP hS k_156 (hts _ (List.mem_of_getElem? (i := 10) rfl)) dX5_prepare_142 (fun H locs hP hS => ?_)
        rw [← e_z6] at hP
        exact pf_X5_prepare_145 C  ih v1 z6  hP hS (lv_sub hl [0, 1] rfl) h
def fn_X5_prepare_12 : Nat → Int32 → St → Option (St)
  | 0, _, _ => none
  | n + 1, v1, z => (if (z.1 2 5) ≤ v1 then nm (sI z 156 9 0) (fun z2 => fn_X5_prepare_111   fu 0 z2) else gd (ix v1 6) ((if (z.1 60 (Int32.toNatClampNeg v1)) = (-1) then nm (sI z 156 7 ((z.1 156 7) ||| (1 <<< (v1 &&& 31)))) (fun z5 => nm (sI z5 156 8 ((z5.1 156 8) + 1)) (fun z6 => fn_X5_prepare_60  (fn_X5_prepare_12   n) fu v1 0 z6)) else fn_X5_prepare_98  (fn_X5_prepare_12   n) v1 z)))
set_option maxHeartbeats 4000000 in
set_option maxRecDepth 100000 in
theorem pf_X5_prepare_12 {p : Program} {l : Launch} {e : Env} {s : State} {m : MethodId} {args : Array Value} {below : List Frame} {meth : Method} {c : Code} {G : wG} (C : CX p s m args meth c cX5_prepare 3 wsX5_prepare RX5 none G) {Rz : St} : ∀ (n : Nat) (v1 : Int32) (z : St)  (H : Heap) (locs : List Loc) (ls : Array Slot), WP G z H → va_S (AW G) s.heap H locs → lv_has ls 3 [(0, .ref (G.2.2 156)), (1, .int v1)] → fn_X5_prepare_12   n v1 z = some Rz → W p l e (rmd 6) s m args below meth c H locs 0 0 (QV below args s G Rz) (F0 m 12 ls []) := by
  obtain ⟨hx, hb, hml, hown, hts, hr, hlocks, hK, hG⟩ := id C
  intro n
  induction n with
  | zero => intro v1 z  H locs ls hP hS hl h; cases h
  | succ n ih =>
    intro v1 z  H locs ls hP hS hl h
    rw [fn_X5_prepare_12] at h
    refine lv_iload_n hx hb dX5_prepare_12 rfl (lv_at hl 1 rfl) ?_
    refine lv_aload_n hx hb dX5_prepare_13 rfl (lv_at hl 0 rfl) ?_
    refine ge_5_0 hx hb hts in_X5_prepare_X5 hown hK hP k_156 (hts _ (List.mem_of_getElem? (i := 3) rfl)) dX5_prepare_14 ?_
    refine ge_7_5 hx hb hts in_X5_prepare_X7 hown hK hP k_2 (hts _ (List.mem_of_getElem? (i := 4) rfl)) dX5_prepare_17 ?_
    refine lv_icmp_ge (tgt := 104) hx hb dX5_prepare_20 (by decide) (fun c1 => ?_) (fun c1 => ?_)
    · rw [if_pos c1] at h
      refine lv_aload_n hx hb dX5_prepare_104 rfl (lv_at hl 0 rfl) ?_
      refine lv_iconst (v := 0) hx hb dX5_prepare_105 (by decide) ?_
      obtain ⟨z2, e_z2, h⟩ := nm_s h
      refine pu_5_9 hx hb hts in_X5_prepare_X5 hown hK hG hP hS k_156 (hts _ (List.mem_of_getElem? (i := 10) rfl)) dX5_prepare_106 (fun H locs hP hS => ?_)
      rw [← e_z2] at hP
      refine lv_iconst (v := 0) hx hb dX5_prepare_109 (by decide) ?_
      refine lv_istore_n (lv' := [(1, .int 0), (0, .ref (G.2.2 156))]) hx hb dX5_prepare_110 rfl hl (by decide) rfl (fun ls hl => ?_)
      exact pf_X5_prepare_111 C   fu 0 z2  _ _ _ hP hS (lv_sub hl [1, 0] rfl) h
    · rw [if_neg c1] at h
      refine lv_aload_n hx hb dX5_prepare_23 rfl (lv_at hl 0 rfl) ?_
      refine ge_5_1 hx hb hts in_X5_prepare_X5 hown hK hP k_156 (hts _ (List.mem_of_getElem? (i := 5) rfl)) dX5_prepare_24 ?_
      refine ge_1_1 hx hb hts in_X5_prepare_X1 hown hK hP k_34 (hts _ (List.mem_of_getElem? (i := 6) rfl)) dX5_prepare_27 ?_
      refine lv_iload_n hx hb dX5_prepare_30 rfl (lv_at hl 1 rfl) ?_
      obtain ⟨g3, h⟩ := gd_s h
      refine xl_14 hx hb hK hP k_60 l_60 (ix_in g3) dX5_prepare_31 ?_
      refine lv_iconst (v := (-1)) hx hb dX5_prepare_32 (by decide) ?_
      refine lv_icmp_ne (tgt := 98) hx hb dX5_prepare_33 (by decide) (fun c4 => ?_) (fun c4 => ?_)
      · rw [if_neg c4] at h
        exact pf_X5_prepare_98 C  ih v1 z  hP hS (lv_sub hl [0, 1] rfl) h
      · rw [if_pos c4] at h
        refine lv_aload_n hx hb dX5_prepare_36 rfl (lv_at hl 0 rfl) ?_
        refine lv_dup hx hb dX5_prepare_37 rfl ?_
        refine ge_5_7 hx hb hts in_X5_prepare_X5 hown hK hP k_156 (hts _ (List.mem_of_getElem? (i := 1) rfl)) dX5_prepare_38 ?_
        refine lv_iconst (v := 1) hx hb dX5_prepare_41 (by decide) ?_
        refine lv_iload_n hx hb dX5_prepare_42 rfl (lv_at hl 1 rfl) ?_
        refine lv_ishl hx hb dX5_prepare_43 ?_
        refine lv_ior hx hb dX5_prepare_44 ?_
        obtain ⟨z5, e_z5, h⟩ := nm_s h
        refine pu_5_7 hx hb hts in_X5_prepare_X5 hown hK hG hP hS k_156 (hts _ (List.mem_of_getElem? (i := 1) rfl)) dX5_prepare_45 (fun H locs hP hS => ?_)
        rw [← e_z5] at hP
        refine lv_aload_n hx hb dX5_prepare_48 rfl (lv_at hl 0 rfl) ?_
        refine lv_dup hx hb dX5_prepare_49 rfl ?_
        refine ge_5_8 hx hb hts in_X5_prepare_X5 hown hK hP k_156 (hts _ (List.mem_of_getElem? (i := 2) rfl)) dX5_prepare_50 ?_
        refine lv_iconst (v := 1) hx hb dX5_prepare_53 (by decide) ?_
        refine lv_iadd hx hb dX5_prepare_54 ?_
        obtain ⟨z6, e_z6, h⟩ := nm_s h
        refine pu_5_8 hx hb hts in_X5_prepare_X5 hown hK hG hP hS k_156 (hts _ (List.mem_of_getElem? (i := 2) rfl)) dX5_prepare_55 (fun H locs hP hS => ?_)
        rw [← e_z6] at hP
        refine lv_iconst (v := 0) hx hb dX5_prepare_58 (by decide) ?_
        refine lv_istore_n (lv' := [(2, .int 0), (0, .ref (G.2.2 156)), (1, .int v1)]) hx hb dX5_prepare_59 rfl hl (by decide) rfl (fun ls hl => ?_)
        exact pf_X5_prepare_60 C  ih fu v1 0 z6  _ _ _ hP hS (lv_sub hl [1, 2, 0] rfl) h
def fn_X5_prepare  (z : St) : Option (St) := nm (sI z 156 7 0) (fun z1 => nm (sI z1 156 8 0) (fun z2 => fn_X5_prepare_12   fu 0 z2))
set_option maxHeartbeats 4000000 in
set_option maxRecDepth 100000 in
theorem m_X5_prepare {l : Launch} {G : wG} (hG : Ok G)  {z : St} {Rz : St}  (h : fn_X5_prepare   z = some Rz) : Met l yX5_prepare wsX5_prepare (rmd 6) (va_Pc [.ref (G.2.2 156)] (Pre G z)) (va_Qv (fun u => u = Rz) (Pre G) (AW G)) 0 0 (AW G) := by
  refine Met.ofW (cc := cX5_prepare) (maxL := 3) (ret := none) (by decide) rfl ?_
  intro p e s m args below meth c s₁ B hml hv
  obtain ⟨rfl, hP, hK⟩ := hv
  have C : CX p s m ([.ref (G.2.2 156)] : List Value).toArray meth c cX5_prepare 3 wsX5_prepare RX5 none G := ⟨B.exec, B.bytes, hml, findClass_of_methodNamed B.named, atoms_spec (ws := wsX5_prepare) B.pre, B.returns, B.notSynchronized, hK, hG⟩
  obtain ⟨hx, hb, -, hown, hts, hr, hlocks, -, -⟩ := id C
  have hS : va_S (AW G) s.heap s.heap [] := va_S.rf
  have hl := lv_entry [.ref (G.2.2 156)] (n := 3) (Nat.le_of_ble_eq_true rfl)
  rw [lg_entry_eq]
  generalize (lg_sl [.ref (G.2.2 156)] ++ List.replicate (3 - (lg_sl [.ref (G.2.2 156)]).length) Slot.unset).toArray = ls at hl ⊢
  have hl : lv_has ls 3 [(0, .ref (G.2.2 156))] := hl
  unfold fn_X5_prepare at h
  refine lv_aload_n hx hb dX5_prepare_0 rfl (lv_at hl 0 rfl) ?_
  refine lv_iconst (v := 0) hx hb dX5_prepare_1 (by decide) ?_
  obtain ⟨z1, e_z1, h⟩ := nm_s h
  refine pu_5_7 hx hb hts in_X5_prepare_X5 hown hK hG hP hS k_156 (hts _ (List.mem_of_getElem? (i := 1) rfl)) dX5_prepare_2 (fun H locs hP hS => ?_)
  rw [← e_z1] at hP
  refine lv_aload_n hx hb dX5_prepare_5 rfl (lv_at hl 0 rfl) ?_
  refine lv_iconst (v := 0) hx hb dX5_prepare_6 (by decide) ?_
  obtain ⟨z2, e_z2, h⟩ := nm_s h
  refine pu_5_8 hx hb hts in_X5_prepare_X5 hown hK hG hP hS k_156 (hts _ (List.mem_of_getElem? (i := 2) rfl)) dX5_prepare_7 (fun H locs hP hS => ?_)
  rw [← e_z2] at hP
  refine lv_iconst (v := 0) hx hb dX5_prepare_10 (by decide) ?_
  refine lv_istore_n (lv' := [(1, .int 0), (0, .ref (G.2.2 156))]) hx hb dX5_prepare_11 rfl hl (by decide) rfl (fun ls hl => ?_)
  exact pf_X5_prepare_12 C   fu 0 z2  _ _ _ hP hS (lv_sub hl [1, 0] rfl) h
theorem in_X5_pickOf_X5 : ∀ w ∈ wsX50, w ∈ wsX5_pickOf := fun _ h => (List.mem_cons_of_mem _ (List.mem_append_left _ (List.mem_append_right _ h)))
theorem in_X5_pickOf_X1 : ∀ w ∈ wsX10, w ∈ wsX5_pickOf := fun _ h => (List.mem_cons_of_mem _ (List.mem_append_right _ h))
def fn_X5_pickOf_63 (k8 : Int32 → Int32 → Int32 → Int32 → Int32 → St → Option (Int32 × St)) (v1 : Int32) (v2 : Int32) (v3 : Int32) (v4 : Int32) (v5 : Int32) (z : St) : Option (Int32 × St) := k8 v1 v2 v3 v4 (v5 + 1) z
set_option maxHeartbeats 4000000 in
set_option maxRecDepth 100000 in
theorem pf_X5_pickOf_63 {p : Program} {l : Launch} {e : Env} {s : State} {m : MethodId} {args : Array Value} {below : List Frame} {meth : Method} {c : Code} {G : wG} (C : CX p s m args meth c cX5_pickOf 7 wsX5_pickOf RX5 (some .int) G) {Rz : Int32 × St} {k8 : Int32 → Int32 → Int32 → Int32 → Int32 → St → Option (Int32 × St)} (hk_8 : ∀ (v1 : Int32) (v2 : Int32) (v3 : Int32) (v4 : Int32) (v5 : Int32) (z : St)  (H : Heap) (locs : List Loc) (ls : Array Slot), WP G z H → va_S (AW G) s.heap H locs → lv_has ls 7 [(0, .ref (G.2.2 156)), (1, .int v1), (2, .int v2), (3, .int v3), (4, .int v4), (5, .int v5)] → k8 v1 v2 v3 v4 v5 z = some Rz → W p l e (rmd 1) s m args below meth c H locs 0 0 (QI below args s G Rz) (F0 m 8 ls [])) (v1 : Int32) (v2 : Int32) (v3 : Int32) (v4 : Int32) (v5 : Int32) (z : St)  {H : Heap} {locs : List Loc} {ls : Array Slot} (hP : WP G z H) (hS : va_S (AW G) s.heap H locs) (hl : lv_has ls 7 [(0, .ref (G.2.2 156)), (1, .int v1), (2, .int v2), (3, .int v3), (4, .int v4), (5, .int v5)]) (h : fn_X5_pickOf_63  k8 v1 v2 v3 v4 v5 z = some Rz) : W p l e (rmd 1) s m args below meth c H locs 0 0 (QI below args s G Rz) (F0 m 63 ls []) := by
  obtain ⟨hx, hb, hml, hown, hts, hr, hlocks, hK, hG⟩ := id C
  unfold fn_X5_pickOf_63 at h
  refine lv_iinc (v := (v5 + 1)) (lv' := [(5, .int (v5 + 1)), (0, .ref (G.2.2 156)), (1, .int v1), (2, .int v2), (3, .int v3), (4, .int v4)]) hx hb dX5_pickOf_63 hl (k := 5) rfl rfl (by decide) rfl (fun ls hl => ?_)
  refine lv_goto (tgt := 8) hx hb dX5_pickOf_66 (by decide) ?_
  exact hk_8 v1 v2 v3 v4 (v5 + 1) z  _ _ _ hP hS (lv_sub hl [1, 2, 3, 4, 5, 0] rfl) h
def fn_X5_pickOf_56 (k8 : Int32 → Int32 → Int32 → Int32 → Int32 → St → Option (Int32 × St)) (v1 : Int32) (v2 : Int32) (v5 : Int32) (v6 : Int32) (z : St) : Option (Int32 × St) := fn_X5_pickOf_63  k8 v1 v2 v5 v6 v5 z
set_option maxHeartbeats 4000000 in
set_option maxRecDepth 100000 in
theorem pf_X5_pickOf_56 {p : Program} {l : Launch} {e : Env} {s : State} {m : MethodId} {args : Array Value} {below : List Frame} {meth : Method} {c : Code} {G : wG} (C : CX p s m args meth c cX5_pickOf 7 wsX5_pickOf RX5 (some .int) G) {Rz : Int32 × St} {k8 : Int32 → Int32 → Int32 → Int32 → Int32 → St → Option (Int32 × St)} (hk_8 : ∀ (v1 : Int32) (v2 : Int32) (v3 : Int32) (v4 : Int32) (v5 : Int32) (z : St)  (H : Heap) (locs : List Loc) (ls : Array Slot), WP G z H → va_S (AW G) s.heap H locs → lv_has ls 7 [(0, .ref (G.2.2 156)), (1, .int v1), (2, .int v2), (3, .int v3), (4, .int v4), (5, .int v5)] → k8 v1 v2 v3 v4 v5 z = some Rz → W p l e (rmd 1) s m args below meth c H locs 0 0 (QI below args s G Rz) (F0 m 8 ls [])) (v1 : Int32) (v2 : Int32) (v5 : Int32) (v6 : Int32) (z : St)  {H : Heap} {locs : List Loc} {ls : Array Slot} (hP : WP G z H) (hS : va_S (AW G) s.heap H locs) (hl : lv_has ls 7 [(0, .ref (G.2.2 156)), (1, .int v1), (2, .int v2), (5, .int v5), (6, .int v6)]) (h : fn_X5_pickOf_56  k8 v1 v2 v5 v6 z = some Rz) : W p l e (rmd 1) s m args below meth c H locs 0 0 (QI below args s G Rz) (F0 m 56 ls []) := by
  obtain ⟨hx, hb, hml, hown, hts, hr, hlocks, hK, hG⟩ := id C
  unfold fn_X5_pickOf_56 at h
  refine lv_iload hx hb dX5_pickOf_56 (lv_at hl 3 rfl) ?_
  refine lv_istore_n (lv' := [(3, .int v5), (0, .ref (G.2.2 156)), (1, .int v1), (2, .int v2), (5, .int v5), (6, .int v6)]) hx hb dX5_pickOf_58 rfl hl (by decide) rfl (fun ls hl => ?_)
  refine lv_iload hx hb dX5_pickOf_59 (lv_at hl 5 rfl) ?_
  refine lv_istore (lv' := [(4, .int v6), (3, .int v5), (0, .ref (G.2.2 156)), (1, .int v1), (2, .int v2), (5, .int v5), (6, .int v6)]) hx hb dX5_pickOf_61 hl (by decide) rfl (fun ls hl => ?_)
  exact pf_X5_pickOf_63 C  hk_8 v1 v2 v5 v6 v5 z  hP hS (lv_sub hl [2, 3, 4, 1, 0, 5] rfl) h
def fn_X5_pickOf_8 : Nat → Int32 → Int32 → Int32 → Int32 → Int32 → St → Option (Int32 × St)
  | 0, _, _, _, _, _, _ => none
  | n + 1, v1, v2, v3, v4, v5, z => (if (z.1 34 2) ≤ v5 then some (v3, z) else (if ((v2 >>> (v5 &&& 31)) &&& 1) = 1 then gd (ix ((v1 * 24) + v5) 144) (nm (z.1 159 (Int32.toNatClampNeg ((v1 * 24) + v5))) (fun v6_4 => (if v3 = (-1) then fn_X5_pickOf_56  (fn_X5_pickOf_8   n) v1 v2 v5 v6_4 z else (if v6_4 ≤ v4 then fn_X5_pickOf_63  (fn_X5_pickOf_8   n) v1 v2 v3 v4 v5 z else fn_X5_pickOf_56  (fn_X5_pickOf_8   n) v1 v2 v5 v6_4 z)))) else fn_X5_pickOf_63  (fn_X5_pickOf_8   n) v1 v2 v3 v4 v5 z))
set_option maxHeartbeats 4000000 in
set_option maxRecDepth 100000 in
theorem pf_X5_pickOf_8 {p : Program} {l : Launch} {e : Env} {s : State} {m : MethodId} {args : Array Value} {below : List Frame} {meth : Method} {c : Code} {G : wG} (C : CX p s m args meth c cX5_pickOf 7 wsX5_pickOf RX5 (some .int) G) {Rz : Int32 × St} : ∀ (n : Nat) (v1 : Int32) (v2 : Int32) (v3 : Int32) (v4 : Int32) (v5 : Int32) (z : St)  (H : Heap) (locs : List Loc) (ls : Array Slot), WP G z H → va_S (AW G) s.heap H locs → lv_has ls 7 [(0, .ref (G.2.2 156)), (1, .int v1), (2, .int v2), (3, .int v3), (4, .int v4), (5, .int v5)] → fn_X5_pickOf_8   n v1 v2 v3 v4 v5 z = some Rz → W p l e (rmd 1) s m args below meth c H locs 0 0 (QI below args s G Rz) (F0 m 8 ls []) := by
  obtain ⟨hx, hb, hml, hown, hts, hr, hlocks, hK, hG⟩ := id C
  intro n
  induction n with
  | zero => intro v1 v2 v3 v4 v5 z  H locs ls hP hS hl h; cases h
  | succ n ih =>
    intro v1 v2 v3 v4 v5 z  H locs ls hP hS hl h
    rw [fn_X5_pickOf_8] at h
    refine lv_iload hx hb dX5_pickOf_8 (lv_at hl 5 rfl) ?_
    refine lv_aload_n hx hb dX5_pickOf_10 rfl (lv_at hl 0 rfl) ?_
    refine ge_5_1 hx hb hts in_X5_pickOf_X5 hown hK hP k_156 (hts _ (List.mem_of_getElem? (i := 1) rfl)) dX5_pickOf_11 ?_
    refine ge_1_2 hx hb hts in_X5_pickOf_X1 hown hK hP k_34 (hts _ (List.mem_of_getElem? (i := 2) rfl)) dX5_pickOf_14 ?_
    refine lv_icmp_ge (tgt := 69) hx hb dX5_pickOf_17 (by decide) (fun c1 => ?_) (fun c1 => ?_)
    · rw [if_pos c1] at h
      refine lv_iload_n hx hb dX5_pickOf_69 rfl (lv_at hl 3 rfl) ?_
      exact x_iret hx hb hr hlocks hK hP hS h dX5_pickOf_70
    · rw [if_neg c1] at h
      refine lv_iload_n hx hb dX5_pickOf_20 rfl (lv_at hl 2 rfl) ?_
      refine lv_iload hx hb dX5_pickOf_21 (lv_at hl 5 rfl) ?_
      refine lv_ishr hx hb dX5_pickOf_23 ?_
      refine lv_iconst (v := 1) hx hb dX5_pickOf_24 (by decide) ?_
      refine lv_iand hx hb dX5_pickOf_25 ?_
      refine lv_iconst (v := 1) hx hb dX5_pickOf_26 (by decide) ?_
      refine lv_icmp_ne (tgt := 63) hx hb dX5_pickOf_27 (by decide) (fun c2 => ?_) (fun c2 => ?_)
      · rw [if_neg c2] at h
        exact pf_X5_pickOf_63 C  ih v1 v2 v3 v4 v5 z  hP hS (lv_sub hl [0, 1, 2, 3, 4, 5] rfl) h
      · rw [if_pos c2] at h
        refine lv_aload_n hx hb dX5_pickOf_30 rfl (lv_at hl 0 rfl) ?_
        refine ge_5_5 hx hb hts in_X5_pickOf_X5 hown hK hP k_156 (hts _ (List.mem_of_getElem? (i := 3) rfl)) dX5_pickOf_31 ?_
        refine lv_iload_n hx hb dX5_pickOf_34 rfl (lv_at hl 1 rfl) ?_
        refine lv_bipush (v := 24) hx hb dX5_pickOf_35 (by decide) ?_
        refine lv_imul hx hb dX5_pickOf_37 ?_
        refine lv_iload hx hb dX5_pickOf_38 (lv_at hl 5 rfl) ?_
        refine lv_iadd hx hb dX5_pickOf_40 ?_
        obtain ⟨g3, h⟩ := gd_s h
        refine xl_14 hx hb hK hP k_159 l_159 (ix_in g3) dX5_pickOf_41 ?_
        obtain ⟨v6_4, e_v6_4, h⟩ := nm_s h
        refine x_top e_v6_4 ?_
        refine lv_istore (lv' := [(6, .int v6_4), (0, .ref (G.2.2 156)), (1, .int v1), (2, .int v2), (3, .int v3), (4, .int v4), (5, .int v5)]) hx hb dX5_pickOf_42 hl (by decide) rfl (fun ls hl => ?_)
        refine lv_iload_n hx hb dX5_pickOf_44 rfl (lv_at hl 4 rfl) ?_
        refine lv_iconst (v := (-1)) hx hb dX5_pickOf_45 (by decide) ?_
        refine lv_icmp_eq (tgt := 56) hx hb dX5_pickOf_46 (by decide) (fun c5 => ?_) (fun c5 => ?_)
        · rw [if_pos c5] at h
          exact pf_X5_pickOf_56 C  ih v1 v2 v5 v6_4 z  hP hS (lv_sub hl [1, 2, 3, 6, 0] rfl) h
        · rw [if_neg c5] at h
          refine lv_iload hx hb dX5_pickOf_49 (lv_at hl 0 rfl) ?_
          refine lv_iload hx hb dX5_pickOf_51 (lv_at hl 5 rfl) ?_
          refine lv_icmp_le (tgt := 63) hx hb dX5_pickOf_53 (by decide) (fun c6 => ?_) (fun c6 => ?_)
          · rw [if_pos c6] at h
            exact pf_X5_pickOf_63 C  ih v1 v2 v3 v4 v5 z  hP hS (lv_sub hl [1, 2, 3, 4, 5, 6] rfl) h
          · rw [if_neg c6] at h
            exact pf_X5_pickOf_56 C  ih v1 v2 v5 v6_4 z  hP hS (lv_sub hl [1, 2, 3, 6, 0] rfl) h
def fn_X5_pickOf (v1 : Int32) (v2 : Int32) (z : St) : Option (Int32 × St) := fn_X5_pickOf_8   fu v1 v2 (-1) 0 0 z
set_option maxHeartbeats 4000000 in
set_option maxRecDepth 100000 in
theorem m_X5_pickOf {l : Launch} {G : wG} (hG : Ok G) {v1 : Int32} {v2 : Int32} {z : St} {Rz : Int32 × St}  (h : fn_X5_pickOf  v1 v2 z = some Rz) : Met l yX5_pickOf wsX5_pickOf (rmd 1) (va_Pc [.ref (G.2.2 156), .int v1, .int v2] (Pre G z)) (va_Qi (fun r u => (r, u) = Rz) (Pre G) (AW G)) 0 0 (AW G) := by
  refine Met.ofW (cc := cX5_pickOf) (maxL := 7) (ret := (some .int)) (by decide) rfl ?_
  intro p e s m args below meth c s₁ B hml hv
  obtain ⟨rfl, hP, hK⟩ := hv
  have C : CX p s m ([.ref (G.2.2 156), .int v1, .int v2] : List Value).toArray meth c cX5_pickOf 7 wsX5_pickOf RX5 (some .int) G := ⟨B.exec, B.bytes, hml, findClass_of_methodNamed B.named, atoms_spec (ws := wsX5_pickOf) B.pre, B.returns, B.notSynchronized, hK, hG⟩
  obtain ⟨hx, hb, -, hown, hts, hr, hlocks, -, -⟩ := id C
  have hS : va_S (AW G) s.heap s.heap [] := va_S.rf
  have hl := lv_entry [.ref (G.2.2 156), .int v1, .int v2] (n := 7) (Nat.le_of_ble_eq_true rfl)
  rw [lg_entry_eq]
  generalize (lg_sl [.ref (G.2.2 156), .int v1, .int v2] ++ List.replicate (7 - (lg_sl [.ref (G.2.2 156), .int v1, .int v2]).length) Slot.unset).toArray = ls at hl ⊢
  have hl : lv_has ls 7 [(0, .ref (G.2.2 156)), (1, .int v1), (2, .int v2)] := hl
  unfold fn_X5_pickOf at h
  refine lv_iconst (v := (-1)) hx hb dX5_pickOf_0 (by decide) ?_
  refine lv_istore_n (lv' := [(3, .int (-1)), (0, .ref (G.2.2 156)), (1, .int v1), (2, .int v2)]) hx hb dX5_pickOf_1 rfl hl (by decide) rfl (fun ls hl => ?_)
  refine lv_iconst (v := 0) hx hb dX5_pickOf_2 (by decide) ?_
  refine lv_istore (lv' := [(4, .int 0), (3, .int (-1)), (0, .ref (G.2.2 156)), (1, .int v1), (2, .int v2)]) hx hb dX5_pickOf_3 hl (by decide) rfl (fun ls hl => ?_)
  refine lv_iconst (v := 0) hx hb dX5_pickOf_5 (by decide) ?_
  refine lv_istore (lv' := [(5, .int 0), (4, .int 0), (3, .int (-1)), (0, .ref (G.2.2 156)), (1, .int v1), (2, .int v2)]) hx hb dX5_pickOf_6 hl (by decide) rfl (fun ls hl => ?_)
  exact pf_X5_pickOf_8 C   fu v1 v2 (-1) 0 0 z  _ _ _ hP hS (lv_sub hl [3, 4, 5, 2, 1, 0] rfl) h
def fn_X5_without (v0 : Int32) (v1 : Int32) (z : St) : Option (Int32 × St) := (if v1 = (-1) then some (v0, z) else some ((v0 &&& ((1 <<< (v1 &&& 31)) ^^^ (-1))), z))
set_option maxHeartbeats 4000000 in
set_option maxRecDepth 100000 in
theorem m_X5_without {l : Launch} {G : wG} (hG : Ok G) {v0 : Int32} {v1 : Int32} {z : St} {Rz : Int32 × St}  (h : fn_X5_without  v0 v1 z = some Rz) : Met l yX5_without wsX5_without (rmd 1) (va_Pc [.int v0, .int v1] (Pre G z)) (va_Qi (fun r u => (r, u) = Rz) (Pre G) (AW G)) 0 0 (AW G) := by
  refine Met.ofW (cc := cX5_without) (maxL := 2) (ret := (some .int)) (by decide) rfl ?_
  intro p e s m args below meth c s₁ B hml hv
  obtain ⟨rfl, hP, hK⟩ := hv
  have C : CX p s m ([.int v0, .int v1] : List Value).toArray meth c cX5_without 2 wsX5_without RX5 (some .int) G := ⟨B.exec, B.bytes, hml, findClass_of_methodNamed B.named, atoms_spec (ws := wsX5_without) B.pre, B.returns, B.notSynchronized, hK, hG⟩
  obtain ⟨hx, hb, -, hown, hts, hr, hlocks, -, -⟩ := id C
  have hS : va_S (AW G) s.heap s.heap [] := va_S.rf
  have hl := lv_entry [.int v0, .int v1] (n := 2) (Nat.le_of_ble_eq_true rfl)
  rw [lg_entry_eq]
  generalize (lg_sl [.int v0, .int v1] ++ List.replicate (2 - (lg_sl [.int v0, .int v1]).length) Slot.unset).toArray = ls at hl ⊢
  have hl : lv_has ls 2 [(0, .int v0), (1, .int v1)] := hl
  unfold fn_X5_without at h
  refine lv_iload_n hx hb dX5_without_0 rfl (lv_at hl 1 rfl) ?_
  refine lv_iconst (v := (-1)) hx hb dX5_without_1 (by decide) ?_
  refine lv_icmp_ne (tgt := 9) hx hb dX5_without_2 (by decide) (fun c1 => ?_) (fun c1 => ?_)
  · rw [if_neg c1] at h
    refine lv_iload_n hx hb dX5_without_9 rfl (lv_at hl 0 rfl) ?_
    refine lv_iconst (v := 1) hx hb dX5_without_10 (by decide) ?_
    refine lv_iload_n hx hb dX5_without_11 rfl (lv_at hl 1 rfl) ?_
    refine lv_ishl hx hb dX5_without_12 ?_
    refine lv_iconst (v := (-1)) hx hb dX5_without_13 (by decide) ?_
    refine lv_ixor hx hb dX5_without_14 ?_
    refine lv_iand hx hb dX5_without_15 ?_
    exact x_iret hx hb hr hlocks hK hP hS h dX5_without_16
  · rw [if_pos c1] at h
    refine lv_iload_n hx hb dX5_without_5 rfl (lv_at hl 0 rfl) ?_
    refine lv_goto (tgt := 16) hx hb dX5_without_6 (by decide) ?_
    exact x_iret hx hb hr hlocks hK hP hS h dX5_without_16
theorem in_X5_pickByNumber_X7 : ∀ w ∈ wsX70, w ∈ wsX5_pickByNumber := fun _ h => (List.mem_cons_of_mem _ (List.mem_append_left _ (List.mem_append_left _ (List.mem_append_left _ (List.mem_append_left _ (List.mem_append_right _ h))))))
theorem in_X5_pickByNumber_X5 : ∀ w ∈ wsX50, w ∈ wsX5_pickByNumber := fun _ h => (List.mem_cons_of_mem _ (List.mem_append_left _ (List.mem_append_left _ (List.mem_append_left _ (List.mem_append_left _ (List.mem_append_left _ (List.mem_append_right _ h)))))))
def fn_X5_pickByNumber_64 (k11 : Nat → Int32 → Int32 → St → Option (Int32 × St)) (p1 : Nat) (v2 : Int32) (v3 : Int32) (tp0 : Nat) (tv1 : Int32) (tv2 : Int32) (z : St) : Option (Int32 × St) := gd (ix tv1 (ln tp0)) (nm (sI z tp0 (Int32.toNatClampNeg tv1) tv2) (fun z2 => gd (ix v3 (ln p1)) (bd (fn_X5_without  v2 (z2.1 p1 (Int32.toNatClampNeg v3)) z2) (fun r5 z6 => k11 p1 r5 (v3 + 1) z6))))
set_option maxHeartbeats 4000000 in
set_option maxRecDepth 100000 in
theorem pf_X5_pickByNumber_64 {p : Program} {l : Launch} {e : Env} {s : State} {m : MethodId} {args : Array Value} {below : List Frame} {meth : Method} {c : Code} {G : wG} (C : CX p s m args meth c cX5_pickByNumber 5 wsX5_pickByNumber RX5 (some .int) G) {Rz : Int32 × St} {k11 : Nat → Int32 → Int32 → St → Option (Int32 × St)} (hk_11 : ∀ (p1 : Nat) (v2 : Int32) (v3 : Int32) (z : St) (hk1 : kd p1 = 14) (H : Heap) (locs : List Loc) (ls : Array Slot), WP G z H → va_S (AW G) s.heap H locs → lv_has ls 5 [(0, .ref (G.2.2 156)), (1, .ref (G.2.2 p1)), (2, .int v2), (3, .int v3)] → k11 p1 v2 v3 z = some Rz → W p l e (rmd 7) s m args below meth c H locs 0 0 (QI below args s G Rz) (F0 m 11 ls [])) (p1 : Nat) (v2 : Int32) (v3 : Int32) (tp0 : Nat) (tv1 : Int32) (tv2 : Int32) (z : St) (hk1 : kd p1 = 14) (hkt0 : kd tp0 = 14) {H : Heap} {locs : List Loc} {ls : Array Slot} (hP : WP G z H) (hS : va_S (AW G) s.heap H locs) (hl : lv_has ls 5 [(0, .ref (G.2.2 156)), (1, .ref (G.2.2 p1)), (2, .int v2), (3, .int v3)]) (h : fn_X5_pickByNumber_64  k11 p1 v2 v3 tp0 tv1 tv2 z = some Rz) : W p l e (rmd 7) s m args below meth c H locs 0 0 (QI below args s G Rz) (F0 m 64 ls [.int tv2, .int tv1, .ref (G.2.2 tp0)]) := by
  obtain ⟨hx, hb, hml, hown, hts, hr, hlocks, hK, hG⟩ := id C
  unfold fn_X5_pickByNumber_64 at h
  obtain ⟨g1, h⟩ := gd_s h
  obtain ⟨z2, e_z2, h⟩ := nm_s h
  refine xs_14 hx hb hK hG hP hS hkt0 rfl (ix_in g1) dX5_pickByNumber_64 (fun H locs hP hS => ?_)
  rw [← e_z2] at hP
  refine lv_iload_n hx hb dX5_pickByNumber_65 rfl (lv_at hl 2 rfl) ?_
  refine lv_aload_n hx hb dX5_pickByNumber_66 rfl (lv_at hl 1 rfl) ?_
  refine lv_iload_n hx hb dX5_pickByNumber_67 rfl (lv_at hl 3 rfl) ?_
  obtain ⟨g3, h⟩ := gd_s h
  refine xl_14 hx hb hK hP hk1 rfl (ix_in g3) dX5_pickByNumber_68 ?_
  obtain ⟨r5, z6, h4, h⟩ := bd_s h
  refine x_Si (Rz := (r5, z6)) (As := [.int v2, .int (z2.1 p1 (Int32.toNatClampNeg v3))]) (rest := []) ⟨hx, hb, hml, hown, hts⟩ hK hP hS (m_X5_without hG   h4) (va_cwS 2 hts gX5_pickByNumber_X5_without rfl rfl rfl (by decide +kernel) (rmd_ok (by decide) (by decide))) rfl hl.1 rfl (Nat.le_of_ble_eq_true rfl) dX5_pickByNumber_69 ⟨Nat.le_refl _, Nat.le_refl _⟩ (fun H locs hP hS => ?_)
  refine lv_istore_n (lv' := [(2, .int r5), (0, .ref (G.2.2 156)), (1, .ref (G.2.2 p1)), (3, .int v3)]) hx hb dX5_pickByNumber_72 rfl hl (by decide) rfl (fun ls hl => ?_)
  refine lv_iinc (v := (v3 + 1)) (lv' := [(3, .int (v3 + 1)), (2, .int r5), (0, .ref (G.2.2 156)), (1, .ref (G.2.2 p1))]) hx hb dX5_pickByNumber_73 hl (k := 3) rfl rfl (by decide) rfl (fun ls hl => ?_)
  refine lv_goto (tgt := 11) hx hb dX5_pickByNumber_76 (by decide) ?_
  exact hk_11 p1 r5 (v3 + 1) z6 hk1 _ _ _ hP hS (lv_sub hl [2, 3, 1, 0] rfl) h
def fn_X5_pickByNumber_45 (k11 : Nat → Int32 → Int32 → St → Option (Int32 × St)) (p1 : Nat) (v2 : Int32) (v3 : Int32) (tv0 : Int32) (z : St) : Option (Int32 × St) := (if tv0 = 0 then fn_X5_pickByNumber_64  k11 p1 v2 v3 p1 v3 (-1) z else bd (fn_X5_pickOf  v3 v2 z) (fun r3 z4 => fn_X5_pickByNumber_64  k11 p1 v2 v3 p1 v3 r3 z4))
set_option maxHeartbeats 4000000 in
set_option maxRecDepth 100000 in
theorem pf_X5_pickByNumber_45 {p : Program} {l : Launch} {e : Env} {s : State} {m : MethodId} {args : Array Value} {below : List Frame} {meth : Method} {c : Code} {G : wG} (C : CX p s m args meth c cX5_pickByNumber 5 wsX5_pickByNumber RX5 (some .int) G) {Rz : Int32 × St} {k11 : Nat → Int32 → Int32 → St → Option (Int32 × St)} (hk_11 : ∀ (p1 : Nat) (v2 : Int32) (v3 : Int32) (z : St) (hk1 : kd p1 = 14) (H : Heap) (locs : List Loc) (ls : Array Slot), WP G z H → va_S (AW G) s.heap H locs → lv_has ls 5 [(0, .ref (G.2.2 156)), (1, .ref (G.2.2 p1)), (2, .int v2), (3, .int v3)] → k11 p1 v2 v3 z = some Rz → W p l e (rmd 7) s m args below meth c H locs 0 0 (QI below args s G Rz) (F0 m 11 ls [])) (p1 : Nat) (v2 : Int32) (v3 : Int32) (tv0 : Int32) (z : St) (hk1 : kd p1 = 14) {H : Heap} {locs : List Loc} {ls : Array Slot} (hP : WP G z H) (hS : va_S (AW G) s.heap H locs) (hl : lv_has ls 5 [(0, .ref (G.2.2 156)), (1, .ref (G.2.2 p1)), (2, .int v2), (3, .int v3)]) (h : fn_X5_pickByNumber_45  k11 p1 v2 v3 tv0 z = some Rz) : W p l e (rmd 7) s m args below meth c H locs 0 0 (QI below args s G Rz) (F0 m 45 ls [.int tv0]) := by
  obtain ⟨hx, hb, hml, hown, hts, hr, hlocks, hK, hG⟩ := id C
  unfold fn_X5_pickByNumber_45 at h
  refine lv_istore (lv' := [(4, .int tv0), (0, .ref (G.2.2 156)), (1, .ref (G.2.2 p1)), (2, .int v2), (3, .int v3)]) hx hb dX5_pickByNumber_45 hl (by decide) rfl (fun ls hl => ?_)
  refine lv_aload_n hx hb dX5_pickByNumber_47 rfl (lv_at hl 2 rfl) ?_
  refine lv_iload_n hx hb dX5_pickByNumber_48 rfl (lv_at hl 4 rfl) ?_
  refine lv_iload hx hb dX5_pickByNumber_49 (lv_at hl 0 rfl) ?_
  refine lv_if_eq (tgt := 63) hx hb dX5_pickByNumber_51 (by decide) (fun c1 => ?_) (fun c1 => ?_)
  · rw [if_pos c1] at h
    refine lv_iconst (v := (-1)) hx hb dX5_pickByNumber_63 (by decide) ?_
    exact pf_X5_pickByNumber_64 C  hk_11 p1 v2 v3 p1 v3 (-1) z hk1 hk1 hP hS (lv_sub hl [1, 2, 3, 4] rfl) h
  · rw [if_neg c1] at h
    refine lv_aload_n hx hb dX5_pickByNumber_54 rfl (lv_at hl 1 rfl) ?_
    refine lv_iload_n hx hb dX5_pickByNumber_55 rfl (lv_at hl 4 rfl) ?_
    refine lv_iload_n hx hb dX5_pickByNumber_56 rfl (lv_at hl 3 rfl) ?_
    obtain ⟨r3, z4, h2, h⟩ := bd_s h
    refine x_Vi (Rz := (r3, z4)) (As := [.int v3, .int v2]) (rest := [.int v3, .ref (G.2.2 p1)]) ⟨hx, hb, hml, hown, hts⟩ hK hP hS (kd_lt k_156 (by decide)) (cell_5 k_156) rfl (m_X5_pickOf hG   h2) (cwV 2 hts gX5_pickByNumber_X5_pickOf rfl rfl rfl (by decide +kernel) (rmd_ok (by decide) (by decide))) rfl hl.1 rfl (Nat.le_of_ble_eq_true rfl) dX5_pickByNumber_57 ⟨Nat.le_refl _, Nat.le_refl _⟩ (fun H locs hP hS => ?_)
    refine lv_goto (tgt := 64) hx hb dX5_pickByNumber_60 (by decide) ?_
    exact pf_X5_pickByNumber_64 C  hk_11 p1 v2 v3 p1 v3 r3 z4 hk1 hk1 hP hS (lv_sub hl [1, 2, 3, 4] rfl) h
def fn_X5_pickByNumber_79 (v2 : Int32) (z : St) : Option (Int32 × St) := bd (fn_J6_bitCount_0f7a4  ((z.1 156 9) &&& (v2 ^^^ (-1))) z) (fun r2 z3 => some (r2, z3))
set_option maxHeartbeats 4000000 in
set_option maxRecDepth 100000 in
theorem pf_X5_pickByNumber_79 {p : Program} {l : Launch} {e : Env} {s : State} {m : MethodId} {args : Array Value} {below : List Frame} {meth : Method} {c : Code} {G : wG} (C : CX p s m args meth c cX5_pickByNumber 5 wsX5_pickByNumber RX5 (some .int) G) {Rz : Int32 × St} (v2 : Int32) (z : St)  {H : Heap} {locs : List Loc} {ls : Array Slot} (hP : WP G z H) (hS : va_S (AW G) s.heap H locs) (hl : lv_has ls 5 [(0, .ref (G.2.2 156)), (2, .int v2)]) (h : fn_X5_pickByNumber_79   v2 z = some Rz) : W p l e (rmd 7) s m args below meth c H locs 0 0 (QI below args s G Rz) (F0 m 79 ls []) := by
  obtain ⟨hx, hb, hml, hown, hts, hr, hlocks, hK, hG⟩ := id C
  unfold fn_X5_pickByNumber_79 at h
  refine lv_aload_n hx hb dX5_pickByNumber_79 rfl (lv_at hl 0 rfl) ?_
  refine ge_5_9 hx hb hts in_X5_pickByNumber_X5 hown hK hP k_156 (hts _ (List.mem_of_getElem? (i := 1) rfl)) dX5_pickByNumber_80 ?_
  refine lv_iload_n hx hb dX5_pickByNumber_83 rfl (lv_at hl 1 rfl) ?_
  refine lv_iconst (v := (-1)) hx hb dX5_pickByNumber_84 (by decide) ?_
  refine lv_ixor hx hb dX5_pickByNumber_85 ?_
  refine lv_iand hx hb dX5_pickByNumber_86 ?_
  obtain ⟨r2, z3, h1, h⟩ := bd_s h
  refine x_Si (Rz := (r2, z3)) (As := [.int ((z.1 156 9) &&& (v2 ^^^ (-1)))]) (rest := []) ⟨hx, hb, hml, hown, hts⟩ hK hP hS (m_J6_bitCount_0f7a4 hG   h1) (va_cwS 1 hts gX5_pickByNumber_J6_bitCount_0f7a4 rfl rfl rfl (by decide +kernel) (rmd_ok (by decide) (by decide))) rfl hl.1 rfl (Nat.le_of_ble_eq_true rfl) dX5_pickByNumber_87 ⟨Nat.le_refl _, Nat.le_refl _⟩ (fun H locs hP hS => ?_)
  exact x_iret hx hb hr hlocks hK hP hS h dX5_pickByNumber_90
def fn_X5_pickByNumber_11 : Nat → Nat → Int32 → Int32 → St → Option (Int32 × St)
  | 0, _, _, _, _ => none
  | n + 1, p1, v2, v3, z => (if (z.1 2 5) ≤ v3 then fn_X5_pickByNumber_79   v2 z else (if (Int32.ofNat (ln p1)) ≤ v3 then fn_X5_pickByNumber_79   v2 z else (if (((z.1 156 7) >>> (v3 &&& 31)) &&& 1) = 1 then fn_X5_pickByNumber_45  (fn_X5_pickByNumber_11   n) p1 v2 v3 1 z else fn_X5_pickByNumber_45  (fn_X5_pickByNumber_11   n) p1 v2 v3 0 z)))
set_option maxHeartbeats 4000000 in
set_option maxRecDepth 100000 in
theorem pf_X5_pickByNumber_11 {p : Program} {l : Launch} {e : Env} {s : State} {m : MethodId} {args : Array Value} {below : List Frame} {meth : Method} {c : Code} {G : wG} (C : CX p s m args meth c cX5_pickByNumber 5 wsX5_pickByNumber RX5 (some .int) G) {Rz : Int32 × St} : ∀ (n : Nat) (p1 : Nat) (v2 : Int32) (v3 : Int32) (z : St) (hk1 : kd p1 = 14) (H : Heap) (locs : List Loc) (ls : Array Slot), WP G z H → va_S (AW G) s.heap H locs → lv_has ls 5 [(0, .ref (G.2.2 156)), (1, .ref (G.2.2 p1)), (2, .int v2), (3, .int v3)] → fn_X5_pickByNumber_11   n p1 v2 v3 z = some Rz → W p l e (rmd 7) s m args below meth c H locs 0 0 (QI below args s G Rz) (F0 m 11 ls []) := by
  obtain ⟨hx, hb, hml, hown, hts, hr, hlocks, hK, hG⟩ := id C
  intro n
  induction n with
  | zero => intro p1 v2 v3 z hk1 H locs ls hP hS hl h; cases h
  | succ n ih =>
    intro p1 v2 v3 z hk1 H locs ls hP hS hl h
    rw [fn_X5_pickByNumber_11] at h
    refine lv_iload_n hx hb dX5_pickByNumber_11 rfl (lv_at hl 3 rfl) ?_
    refine lv_aload_n hx hb dX5_pickByNumber_12 rfl (lv_at hl 0 rfl) ?_
    refine ge_5_0 hx hb hts in_X5_pickByNumber_X5 hown hK hP k_156 (hts _ (List.mem_of_getElem? (i := 2) rfl)) dX5_pickByNumber_13 ?_
    refine ge_7_5 hx hb hts in_X5_pickByNumber_X7 hown hK hP k_2 (hts _ (List.mem_of_getElem? (i := 3) rfl)) dX5_pickByNumber_16 ?_
    refine lv_icmp_ge (tgt := 79) hx hb dX5_pickByNumber_19 (by decide) (fun c1 => ?_) (fun c1 => ?_)
    · rw [if_pos c1] at h
      exact pf_X5_pickByNumber_79 C   v2 z  hP hS (lv_sub hl [0, 2] rfl) h
    · rw [if_neg c1] at h
      refine lv_iload_n hx hb dX5_pickByNumber_22 rfl (lv_at hl 3 rfl) ?_
      refine lv_aload_n hx hb dX5_pickByNumber_23 rfl (lv_at hl 1 rfl) ?_
      refine xn_14 hx hb hK hP hk1 rfl rfl dX5_pickByNumber_24 ?_
      refine lv_icmp_ge (tgt := 79) hx hb dX5_pickByNumber_25 (by decide) (fun c2 => ?_) (fun c2 => ?_)
      · rw [if_pos c2] at h
        exact pf_X5_pickByNumber_79 C   v2 z  hP hS (lv_sub hl [0, 2] rfl) h
      · rw [if_neg c2] at h
        refine lv_aload_n hx hb dX5_pickByNumber_28 rfl (lv_at hl 0 rfl) ?_
        refine ge_5_7 hx hb hts in_X5_pickByNumber_X5 hown hK hP k_156 (hts _ (List.mem_of_getElem? (i := 4) rfl)) dX5_pickByNumber_29 ?_
        refine lv_iload_n hx hb dX5_pickByNumber_32 rfl (lv_at hl 3 rfl) ?_
        refine lv_ishr hx hb dX5_pickByNumber_33 ?_
        refine lv_iconst (v := 1) hx hb dX5_pickByNumber_34 (by decide) ?_
        refine lv_iand hx hb dX5_pickByNumber_35 ?_
        refine lv_iconst (v := 1) hx hb dX5_pickByNumber_36 (by decide) ?_
        refine lv_icmp_ne (tgt := 44) hx hb dX5_pickByNumber_37 (by decide) (fun c3 => ?_) (fun c3 => ?_)
        · rw [if_neg c3] at h
          refine lv_iconst (v := 0) hx hb dX5_pickByNumber_44 (by decide) ?_
          exact pf_X5_pickByNumber_45 C  ih p1 v2 v3 0 z hk1 hP hS (lv_sub hl [0, 1, 2, 3] rfl) h
        · rw [if_pos c3] at h
          refine lv_iconst (v := 1) hx hb dX5_pickByNumber_40 (by decide) ?_
          refine lv_goto (tgt := 45) hx hb dX5_pickByNumber_41 (by decide) ?_
          exact pf_X5_pickByNumber_45 C  ih p1 v2 v3 1 z hk1 hP hS (lv_sub hl [0, 1, 2, 3] rfl) h
def fn_X5_pickByNumber (p1 : Nat) (z : St) : Option (Int32 × St) := bv (fn_X5_prepare   z) (fun z2 => nm (z2.1 156 9) (fun v2_3 => fn_X5_pickByNumber_11   fu p1 v2_3 0 z2))
set_option maxHeartbeats 4000000 in
set_option maxRecDepth 100000 in
theorem m_X5_pickByNumber {l : Launch} {G : wG} (hG : Ok G) {p1 : Nat} {z : St} {Rz : Int32 × St} (hk1 : kd p1 = 14) (h : fn_X5_pickByNumber  p1 z = some Rz) : Met l yX5_pickByNumber wsX5_pickByNumber (rmd 7) (va_Pc [.ref (G.2.2 156), .ref (G.2.2 p1)] (Pre G z)) (va_Qi (fun r u => (r, u) = Rz) (Pre G) (AW G)) 0 0 (AW G) := by
  refine Met.ofW (cc := cX5_pickByNumber) (maxL := 5) (ret := (some .int)) (by decide) rfl ?_
  intro p e s m args below meth c s₁ B hml hv
  obtain ⟨rfl, hP, hK⟩ := hv
  have C : CX p s m ([.ref (G.2.2 156), .ref (G.2.2 p1)] : List Value).toArray meth c cX5_pickByNumber 5 wsX5_pickByNumber RX5 (some .int) G := ⟨B.exec, B.bytes, hml, findClass_of_methodNamed B.named, atoms_spec (ws := wsX5_pickByNumber) B.pre, B.returns, B.notSynchronized, hK, hG⟩
  obtain ⟨hx, hb, -, hown, hts, hr, hlocks, -, -⟩ := id C
  have hS : va_S (AW G) s.heap s.heap [] := va_S.rf
  have hl := lv_entry [.ref (G.2.2 156), .ref (G.2.2 p1)] (n := 5) (Nat.le_of_ble_eq_true rfl)
  rw [lg_entry_eq]
  generalize (lg_sl [.ref (G.2.2 156), .ref (G.2.2 p1)] ++ List.replicate (5 - (lg_sl [.ref (G.2.2 156), .ref (G.2.2 p1)]).length) Slot.unset).toArray = ls at hl ⊢
  have hl : lv_has ls 5 [(0, .ref (G.2.2 156)), (1, .ref (G.2.2 p1))] := hl
  unfold fn_X5_pickByNumber at h
  refine lv_aload_n hx hb dX5_pickByNumber_0 rfl (lv_at hl 0 rfl) ?_
  obtain ⟨z2, h1, h⟩ := bv_s h
  refine x_Vv (Rz := z2) (As := []) (rest := []) ⟨hx, hb, hml, hown, hts⟩ hK hP hS (kd_lt k_156 (by decide)) (cell_5 k_156) rfl (m_X5_prepare hG   h1) (cwV 0 hts gX5_pickByNumber_X5_prepare rfl rfl rfl (by decide +kernel) (rmd_ok (by decide) (by decide))) rfl hl.1 rfl (Nat.le_of_ble_eq_true rfl) dX5_pickByNumber_1 ⟨Nat.le_refl _, Nat.le_refl _⟩ (fun H locs hP hS => ?_)
  refine lv_aload_n hx hb dX5_pickByNumber_4 rfl (lv_at hl 0 rfl) ?_
  refine ge_5_9 hx hb hts in_X5_pickByNumber_X5 hown hK hP k_156 (hts _ (List.mem_of_getElem? (i := 1) rfl)) dX5_pickByNumber_5 ?_
  obtain ⟨v2_3, e_v2_3, h⟩ := nm_s h
  refine x_top e_v2_3 ?_
  refine lv_istore_n (lv' := [(2, .int v2_3), (0, .ref (G.2.2 156)), (1, .ref (G.2.2 p1))]) hx hb dX5_pickByNumber_8 rfl hl (by decide) rfl (fun ls hl => ?_)
  refine lv_iconst (v := 0) hx hb dX5_pickByNumber_9 (by decide) ?_
  refine lv_istore_n (lv' := [(3, .int 0), (2, .int v2_3), (0, .ref (G.2.2 156)), (1, .ref (G.2.2 p1))]) hx hb dX5_pickByNumber_10 rfl hl (by decide) rfl (fun ls hl => ?_)
  exact pf_X5_pickByNumber_11 C   fu p1 v2_3 0 z2 hk1 _ _ _ hP hS (lv_sub hl [2, 3, 1, 0] rfl) h
