set_option maxRecDepth 20000 in
theorem ggX6_init_J0_length_8abf5 : GoodIn wsX6_init wsJ0_length_8abf5 := goodIn_r _ [13, 14, 15, 16, 17, 12, 18, 19, 20] (by decide +kernel) (by decide +kernel)
set_option maxRecDepth 20000 in
theorem gX6_init_J0_length_8abf5 : GoodIn wsX6_init (wsV RX6 25 RJ0 yJ0_length_8abf5 wsJ0_length_8abf5) := goodIn_app (goodIn_of _ (by decide +kernel)) ggX6_init_J0_length_8abf5
set_option maxRecDepth 20000 in
theorem ggX6_init_J0_charAt_5068e : GoodIn wsX6_init wsJ0_charAt_5068e := goodIn_r _ [24, 14, 25, 26, 27, 12, 28, 19, 20, 29, 30, 31, 32, 33, 34, 35, 36, 37, 38, 39, 40, 41, 42, 43, 44, 45, 46, 47, 48, 49, 50, 51, 52, 53, 54, 55, 56, 57] (by decide +kernel) (by decide +kernel)
set_option maxRecDepth 20000 in
theorem gX6_init_J0_charAt_5068e : GoodIn wsX6_init (wsV RX6 31 RJ0 yJ0_charAt_5068e wsJ0_charAt_5068e) := goodIn_app (goodIn_of _ (by decide +kernel)) ggX6_init_J0_charAt_5068e
set_option maxRecDepth 20000 in
theorem ggX6_init_X6_withLetter : GoodIn wsX6_init wsX6_withLetter := goodIn_r _ [61, 62] (by decide +kernel) (by decide +kernel)
set_option maxRecDepth 20000 in
theorem gX6_init_X6_withLetter : GoodIn wsX6_init (va_wsS RX6 35 yX6_withLetter wsX6_withLetter) := goodIn_app (goodIn_of _ (by decide +kernel)) ggX6_init_X6_withLetter
theorem dX6_init_0 : decode cX6_init 0 = .ok (.aload_n 0, 1) := by decide +kernel
theorem dX6_init_1 : decode cX6_init 1 = .ok (.invokespecial 3, 3) := by decide +kernel
theorem dX6_init_4 : decode cX6_init 4 = .ok (.aload_n 0, 1) := by decide +kernel
theorem dX6_init_5 : decode cX6_init 5 = .ok (.aload_n 1, 1) := by decide +kernel
theorem dX6_init_6 : decode cX6_init 6 = .ok (.putfield 9, 3) := by decide +kernel
theorem dX6_init_9 : decode cX6_init 9 = .ok (.aload_n 0, 1) := by decide +kernel
theorem dX6_init_10 : decode cX6_init 10 = .ok (.aload_n 2, 1) := by decide +kernel
theorem dX6_init_11 : decode cX6_init 11 = .ok (.putfield 15, 3) := by decide +kernel
theorem dX6_init_14 : decode cX6_init 14 = .ok (.aload_n 0, 1) := by decide +kernel
theorem dX6_init_15 : decode cX6_init 15 = .ok (.bipush 19, 2) := by decide +kernel
theorem dX6_init_17 : decode cX6_init 17 = .ok (.newarray .long, 2) := by decide +kernel
theorem dX6_init_19 : decode cX6_init 19 = .ok (.putfield 19, 3) := by decide +kernel
theorem dX6_init_22 : decode cX6_init 22 = .ok (.iconst 0, 1) := by decide +kernel
theorem dX6_init_23 : decode cX6_init 23 = .ok (.istore_n 3, 1) := by decide +kernel
theorem dX6_init_24 : decode cX6_init 24 = .ok (.iconst 0, 1) := by decide +kernel
theorem dX6_init_25 : decode cX6_init 25 = .ok (.istore 4, 2) := by decide +kernel
theorem dX6_init_27 : decode cX6_init 27 = .ok (.iload 4, 2) := by decide +kernel
theorem dX6_init_29 : decode cX6_init 29 = .ok (.ldc 23, 2) := by decide +kernel
theorem dX6_init_31 : decode cX6_init 31 = .ok (.invokevirtual 25, 3) := by decide +kernel
theorem dX6_init_34 : decode cX6_init 34 = .ok (.if_icmp .ge 54, 3) := by decide +kernel
theorem dX6_init_37 : decode cX6_init 37 = .ok (.iload_n 3, 1) := by decide +kernel
theorem dX6_init_38 : decode cX6_init 38 = .ok (.bipush 19, 2) := by decide +kernel
theorem dX6_init_40 : decode cX6_init 40 = .ok (.if_icmp .ge 48, 3) := by decide +kernel
theorem dX6_init_43 : decode cX6_init 43 = .ok (.ldc 23, 2) := by decide +kernel
theorem dX6_init_45 : decode cX6_init 45 = .ok (.iload 4, 2) := by decide +kernel
theorem dX6_init_47 : decode cX6_init 47 = .ok (.invokevirtual 31, 3) := by decide +kernel
theorem dX6_init_50 : decode cX6_init 50 = .ok (.istore 5, 2) := by decide +kernel
theorem dX6_init_52 : decode cX6_init 52 = .ok (.iload 5, 2) := by decide +kernel
theorem dX6_init_54 : decode cX6_init 54 = .ok (.bipush 32, 2) := by decide +kernel
theorem dX6_init_56 : decode cX6_init 56 = .ok (.if_icmp .ne 9, 3) := by decide +kernel
theorem dX6_init_59 : decode cX6_init 59 = .ok (.iinc 3 1, 3) := by decide +kernel
theorem dX6_init_62 : decode cX6_init 62 = .ok (.goto 20, 3) := by decide +kernel
theorem dX6_init_65 : decode cX6_init 65 = .ok (.aload_n 0, 1) := by decide +kernel
theorem dX6_init_66 : decode cX6_init 66 = .ok (.getfield 19, 3) := by decide +kernel
theorem dX6_init_69 : decode cX6_init 69 = .ok (.iload_n 3, 1) := by decide +kernel
theorem dX6_init_70 : decode cX6_init 70 = .ok (.aload_n 0, 1) := by decide +kernel
theorem dX6_init_71 : decode cX6_init 71 = .ok (.getfield 19, 3) := by decide +kernel
theorem dX6_init_74 : decode cX6_init 74 = .ok (.iload_n 3, 1) := by decide +kernel
theorem dX6_init_75 : decode cX6_init 75 = .ok (.laload, 1) := by decide +kernel
theorem dX6_init_76 : decode cX6_init 76 = .ok (.iload 5, 2) := by decide +kernel
theorem dX6_init_78 : decode cX6_init 78 = .ok (.invokestatic 35, 3) := by decide +kernel
theorem dX6_init_81 : decode cX6_init 81 = .ok (.lastore, 1) := by decide +kernel
theorem dX6_init_82 : decode cX6_init 82 = .ok (.iinc 4 1, 3) := by decide +kernel
theorem dX6_init_85 : decode cX6_init 85 = .ok (.goto (-58), 3) := by decide +kernel
theorem dX6_init_88 : decode cX6_init 88 = .ok (.aload_n 0, 1) := by decide +kernel
theorem dX6_init_89 : decode cX6_init 89 = .ok (.iconst (-1), 1) := by decide +kernel
theorem dX6_init_90 : decode cX6_init 90 = .ok (.putfield 39, 3) := by decide +kernel
theorem dX6_init_93 : decode cX6_init 93 = .ok (.return_, 1) := by decide +kernel
theorem dX6_withLetter_0 : decode cX6_withLetter 0 = .ok (.lload_n 0, 1) := by decide +kernel
theorem dX6_withLetter_1 : decode cX6_withLetter 1 = .ok (.ldc2_w 43, 3) := by decide +kernel
theorem dX6_withLetter_4 : decode cX6_withLetter 4 = .ok (.lmul, 1) := by decide +kernel
theorem dX6_withLetter_5 : decode cX6_withLetter 5 = .ok (.iload_n 2, 1) := by decide +kernel
theorem dX6_withLetter_6 : decode cX6_withLetter 6 = .ok (.bipush 97, 2) := by decide +kernel
theorem dX6_withLetter_8 : decode cX6_withLetter 8 = .ok (.isub, 1) := by decide +kernel
theorem dX6_withLetter_9 : decode cX6_withLetter 9 = .ok (.iconst 1, 1) := by decide +kernel
theorem dX6_withLetter_10 : decode cX6_withLetter 10 = .ok (.iadd, 1) := by decide +kernel
theorem dX6_withLetter_11 : decode cX6_withLetter 11 = .ok (.i2l, 1) := by decide +kernel
theorem dX6_withLetter_12 : decode cX6_withLetter 12 = .ok (.ladd, 1) := by decide +kernel
theorem dX6_withLetter_13 : decode cX6_withLetter 13 = .ok (.lreturn, 1) := by decide +kernel
set_option maxRecDepth 20000 in
theorem ggX6_readAll_X7_clear : GoodIn wsX6_readAll wsX7_clear := goodIn_r _ [16, 17, 18, 19, 20, 21, 22, 23, 24, 25, 26, 27, 28, 29, 30, 31, 32, 33, 34, 35, 36, 37, 212, 213, 214, 215, 216, 217, 218, 219, 220, 221, 222, 223, 224, 225, 226, 227, 228, 229, 230, 231, 232] (by decide +kernel) (by decide +kernel)
set_option maxRecDepth 20000 in
theorem gX6_readAll_X7_clear : GoodIn wsX6_readAll (wsV RX6 59 RX7 yX7_clear wsX7_clear) := goodIn_app (goodIn_of _ (by decide +kernel)) ggX6_readAll_X7_clear
set_option maxRecDepth 20000 in
theorem ggX6_readAll_X6_advance : GoodIn wsX6_readAll wsX6_advance := goodIn_r _ [42, 7, 6, 43, 11, 44, 45, 46, 47, 41, 48, 1, 49, 50, 51, 52, 53, 54, 55, 56, 57, 58, 59, 60, 61, 62, 63, 64, 65, 66, 67, 68, 69, 70, 71, 72, 73, 74, 75, 76, 199, 200, 201, 202, 203, 204, 205, 206, 207, 208, 209, 210, 211] (by decide +kernel) (by decide +kernel)
set_option maxRecDepth 20000 in
theorem gX6_readAll_X6_advance : GoodIn wsX6_readAll (wsV RX6 64 RX6 yX6_advance wsX6_advance) := goodIn_app (goodIn_of _ (by decide +kernel)) ggX6_readAll_X6_advance
set_option maxRecDepth 20000 in
theorem ggX6_readAll_X6_line : GoodIn wsX6_readAll wsX6_line := goodIn_r _ [80, 11, 60, 10, 81, 82, 83, 84, 85, 41, 86, 87, 88, 89, 90, 91, 92, 93, 94, 95, 96, 8, 43, 9, 38, 39, 40, 42, 7, 6, 44, 45, 46, 47, 48, 1, 49, 50, 51, 52, 53, 54, 55, 56, 57, 58, 59, 61, 62, 63, 64, 65, 66, 67, 68, 69, 70, 71, 72, 73, 74, 75, 76, 97, 98, 99, 100, 101, 102, 103, 104, 105, 106, 107, 108, 109, 110, 111, 112, 113, 114, 115, 116, 117, 118, 119, 120, 121, 122, 123, 15, 124, 17, 125, 126, 127, 128, 129, 130, 131, 132, 133, 134, 135, 136, 137, 18, 138, 139, 140, 141, 142, 143, 144, 145, 146, 147, 148, 28, 149, 30, 32, 150, 151, 152, 153, 154, 155, 156, 157, 34, 35, 36, 37, 158, 159, 160, 161, 162, 163, 164, 165, 166, 167, 168, 169, 170, 171, 172, 173, 174, 175, 176, 177, 178, 179, 180, 181, 182, 183, 184, 185, 186, 31, 187, 188, 189, 190, 191, 192, 193, 194, 195, 196, 197, 198, 199, 200, 201, 202, 203, 204, 205, 206, 207, 208, 209, 210, 211, 212, 213, 214, 215, 216, 217, 218, 219, 220, 221, 222, 223, 224, 225, 226, 227, 228, 229, 230, 231, 232] (by decide +kernel) (by decide +kernel)
set_option maxRecDepth 20000 in
theorem gX6_readAll_X6_line : GoodIn wsX6_readAll (wsV RX6 70 RX6 yX6_line wsX6_line) := goodIn_app (goodIn_of _ (by decide +kernel)) ggX6_readAll_X6_line
theorem dX6_readAll_0 : decode cX6_readAll 0 = .ok (.aload_n 0, 1) := by decide +kernel
theorem dX6_readAll_1 : decode cX6_readAll 1 = .ok (.iload_n 1, 1) := by decide +kernel
theorem dX6_readAll_2 : decode cX6_readAll 2 = .ok (.aload_n 0, 1) := by decide +kernel
theorem dX6_readAll_3 : decode cX6_readAll 3 = .ok (.getfield 9, 3) := by decide +kernel
theorem dX6_readAll_6 : decode cX6_readAll 6 = .ok (.arraylength, 1) := by decide +kernel
theorem dX6_readAll_7 : decode cX6_readAll 7 = .ok (.invokestatic 45, 3) := by decide +kernel
theorem dX6_readAll_10 : decode cX6_readAll 10 = .ok (.putfield 51, 3) := by decide +kernel
theorem dX6_readAll_13 : decode cX6_readAll 13 = .ok (.aload_n 0, 1) := by decide +kernel
theorem dX6_readAll_14 : decode cX6_readAll 14 = .ok (.iconst 0, 1) := by decide +kernel
theorem dX6_readAll_15 : decode cX6_readAll 15 = .ok (.putfield 53, 3) := by decide +kernel
theorem dX6_readAll_18 : decode cX6_readAll 18 = .ok (.aload_n 0, 1) := by decide +kernel
theorem dX6_readAll_19 : decode cX6_readAll 19 = .ok (.iconst 0, 1) := by decide +kernel
theorem dX6_readAll_20 : decode cX6_readAll 20 = .ok (.putfield 56, 3) := by decide +kernel
theorem dX6_readAll_23 : decode cX6_readAll 23 = .ok (.aload_n 0, 1) := by decide +kernel
theorem dX6_readAll_24 : decode cX6_readAll 24 = .ok (.iconst (-1), 1) := by decide +kernel
theorem dX6_readAll_25 : decode cX6_readAll 25 = .ok (.putfield 39, 3) := by decide +kernel
theorem dX6_readAll_28 : decode cX6_readAll 28 = .ok (.aload_n 0, 1) := by decide +kernel
theorem dX6_readAll_29 : decode cX6_readAll 29 = .ok (.getfield 15, 3) := by decide +kernel
theorem dX6_readAll_32 : decode cX6_readAll 32 = .ok (.invokevirtual 59, 3) := by decide +kernel
theorem dX6_readAll_35 : decode cX6_readAll 35 = .ok (.aload_n 0, 1) := by decide +kernel
theorem dX6_readAll_36 : decode cX6_readAll 36 = .ok (.invokevirtual 64, 3) := by decide +kernel
theorem dX6_readAll_39 : decode cX6_readAll 39 = .ok (.iconst 0, 1) := by decide +kernel
theorem dX6_readAll_40 : decode cX6_readAll 40 = .ok (.istore_n 2, 1) := by decide +kernel
theorem dX6_readAll_41 : decode cX6_readAll 41 = .ok (.iload_n 2, 1) := by decide +kernel
theorem dX6_readAll_42 : decode cX6_readAll 42 = .ok (.sipush 1600, 3) := by decide +kernel
theorem dX6_readAll_45 : decode cX6_readAll 45 = .ok (.if_icmp .ge 27, 3) := by decide +kernel
theorem dX6_readAll_48 : decode cX6_readAll 48 = .ok (.aload_n 0, 1) := by decide +kernel
theorem dX6_readAll_49 : decode cX6_readAll 49 = .ok (.getfield 56, 3) := by decide +kernel
theorem dX6_readAll_52 : decode cX6_readAll 52 = .ok (.ifCond .ne 20, 3) := by decide +kernel
theorem dX6_readAll_55 : decode cX6_readAll 55 = .ok (.aload_n 0, 1) := by decide +kernel
theorem dX6_readAll_56 : decode cX6_readAll 56 = .ok (.getfield 67, 3) := by decide +kernel
theorem dX6_readAll_59 : decode cX6_readAll 59 = .ok (.ifCond .eq 13, 3) := by decide +kernel
theorem dX6_readAll_62 : decode cX6_readAll 62 = .ok (.aload_n 0, 1) := by decide +kernel
theorem dX6_readAll_63 : decode cX6_readAll 63 = .ok (.invokevirtual 70, 3) := by decide +kernel
theorem dX6_readAll_66 : decode cX6_readAll 66 = .ok (.iinc 2 1, 3) := by decide +kernel
theorem dX6_readAll_69 : decode cX6_readAll 69 = .ok (.goto (-28), 3) := by decide +kernel
theorem dX6_readAll_72 : decode cX6_readAll 72 = .ok (.aload_n 0, 1) := by decide +kernel
theorem dX6_readAll_73 : decode cX6_readAll 73 = .ok (.getfield 56, 3) := by decide +kernel
theorem dX6_readAll_76 : decode cX6_readAll 76 = .ok (.ifCond .ne 7, 3) := by decide +kernel
theorem dX6_readAll_79 : decode cX6_readAll 79 = .ok (.iconst 1, 1) := by decide +kernel
theorem dX6_readAll_80 : decode cX6_readAll 80 = .ok (.goto 4, 3) := by decide +kernel
theorem dX6_readAll_83 : decode cX6_readAll 83 = .ok (.iconst 0, 1) := by decide +kernel
theorem dX6_readAll_84 : decode cX6_readAll 84 = .ok (.ireturn, 1) := by decide +kernel
set_option maxRecDepth 20000 in
theorem ggX6_line_X6_tierLine : GoodIn wsX6_line wsX6_tierLine := goodIn_r _ [10, 3, 11, 12, 13, 14, 15, 9, 16, 1, 17, 18, 19, 20, 21, 22, 23, 24, 25, 26, 27, 28, 29, 30, 31, 32, 33, 34, 35, 36, 37, 38, 39, 40, 41, 42, 43, 44, 45, 46, 2, 47, 48, 49, 50, 51, 52, 53, 54, 55, 56, 57, 58, 59, 60, 61, 62, 63, 64, 65, 66, 67, 68, 69, 70, 71, 72, 73, 74, 75, 76, 77, 78, 79, 80, 81, 82, 83, 84, 85, 86, 87, 88, 89, 90, 91, 92, 93, 94, 95, 176, 177, 178, 179, 180, 181, 182, 183, 184, 185, 186, 187, 188, 189, 190, 191, 192, 193, 194, 195, 196, 197, 198, 199, 200, 201, 202, 203, 204] (by decide +kernel) (by decide +kernel)
set_option maxRecDepth 20000 in
theorem gX6_line_X6_tierLine : GoodIn wsX6_line (wsV RX6 76 RX6 yX6_tierLine wsX6_tierLine) := goodIn_app (goodIn_of _ (by decide +kernel)) ggX6_line_X6_tierLine
set_option maxRecDepth 20000 in
theorem ggX6_line_X6_guestLine : GoodIn wsX6_line wsX6_guestLine := goodIn_r _ [99, 3, 100, 101, 13, 14, 15, 9, 16, 1, 17, 18, 19, 20, 21, 22, 23, 24, 25, 26, 27, 28, 29, 30, 31, 32, 33, 34, 35, 36, 37, 38, 39, 40, 41, 42, 43, 44, 45, 46, 2, 47, 48, 49, 50, 51, 52, 53, 54, 55, 56, 57, 58, 59, 60, 61, 62, 63, 64, 65, 66, 71, 72, 73, 74, 75, 76, 77, 78, 67, 68, 69, 70, 79, 80, 81, 82, 83, 84, 85, 86, 102, 103, 104, 90, 105, 106, 107, 108, 109, 176, 177, 178, 179, 180, 181, 182, 183, 184, 185, 186, 187, 188, 189, 190, 191, 192, 193, 194, 195, 196, 197, 198, 199, 200, 201, 202, 203, 204] (by decide +kernel) (by decide +kernel)
set_option maxRecDepth 20000 in
theorem gX6_line_X6_guestLine : GoodIn wsX6_line (wsV RX6 79 RX6 yX6_guestLine wsX6_guestLine) := goodIn_app (goodIn_of _ (by decide +kernel)) ggX6_line_X6_guestLine
set_option maxRecDepth 20000 in
theorem ggX6_line_X6_formulaLine : GoodIn wsX6_line wsX6_formulaLine := goodIn_r _ [113, 114, 13, 14, 15, 9, 16, 1, 17, 18, 19, 20, 21, 22, 23, 24, 25, 26, 27, 28, 29, 30, 31, 32, 33, 34, 35, 36, 37, 38, 39, 40, 41, 42, 43, 44, 45, 46, 2, 47, 48, 49, 50, 51, 52, 53, 54, 55, 56, 57, 58, 59, 60, 61, 62, 115, 116, 117, 118, 119, 120, 121, 122, 123, 124, 125, 126, 127, 128, 75, 76, 77, 78, 129, 130, 131, 132, 133, 134, 135, 136, 137, 138, 139, 140, 141, 142, 143, 144, 145, 83, 84, 85, 86, 146, 147, 148, 149, 150, 151, 152, 153, 154, 155, 156, 157, 158, 159, 160, 161, 162, 163, 79, 80, 81, 82, 205, 206, 207, 208, 209, 176, 177, 178, 179, 180, 181, 182, 183, 184, 185, 186, 187, 188] (by decide +kernel) (by decide +kernel)
set_option maxRecDepth 20000 in
theorem gX6_line_X6_formulaLine : GoodIn wsX6_line (wsV RX6 86 RX6 yX6_formulaLine wsX6_formulaLine) := goodIn_app (goodIn_of _ (by decide +kernel)) ggX6_line_X6_formulaLine
set_option maxRecDepth 20000 in
theorem ggX6_line_X6_paceLine : GoodIn wsX6_line wsX6_paceLine := goodIn_r _ [167, 3, 168, 169, 13, 14, 15, 9, 16, 1, 17, 18, 19, 20, 21, 22, 23, 24, 25, 26, 27, 28, 29, 30, 31, 32, 33, 34, 35, 36, 37, 38, 39, 40, 41, 42, 43, 44, 45, 46, 2, 47, 48, 49, 50, 51, 52, 53, 54, 55, 56, 57, 58, 59, 60, 61, 62, 67, 68, 69, 70, 79, 80, 81, 82, 83, 84, 85, 86, 176, 177, 178, 179, 180, 181, 182, 183, 184, 185, 186, 187, 188, 189, 190, 191, 192, 193, 194, 195, 196, 197, 198, 199, 200, 201, 202, 203, 204] (by decide +kernel) (by decide +kernel)
set_option maxRecDepth 20000 in
theorem gX6_line_X6_paceLine : GoodIn wsX6_line (wsV RX6 93 RX6 yX6_paceLine wsX6_paceLine) := goodIn_app (goodIn_of _ (by decide +kernel)) ggX6_line_X6_paceLine
set_option maxRecDepth 20000 in
theorem ggX6_line_X6_drawLine : GoodIn wsX6_line wsX6_drawLine := goodIn_r _ [173, 3, 174, 175, 13, 14, 15, 9, 16, 1, 17, 18, 19, 20, 21, 22, 23, 24, 25, 26, 27, 28, 29, 30, 31, 32, 33, 34, 35, 36, 37, 38, 39, 40, 41, 42, 43, 44, 45, 46, 2, 47, 48, 49, 50, 51, 52, 53, 54, 55, 56, 57, 58, 59, 60, 61, 62, 67, 68, 69, 70, 79, 80, 81, 82, 83, 84, 85, 86, 176, 177, 178, 179, 180, 181, 182, 183, 184, 185, 186, 187, 188, 189, 190, 191, 192, 193, 194, 195, 196, 197, 198, 199, 200, 201, 202, 203, 204] (by decide +kernel) (by decide +kernel)
set_option maxRecDepth 20000 in
theorem gX6_line_X6_drawLine : GoodIn wsX6_line (wsV RX6 96 RX6 yX6_drawLine wsX6_drawLine) := goodIn_app (goodIn_of _ (by decide +kernel)) ggX6_line_X6_drawLine
set_option maxRecDepth 20000 in
theorem ggX6_line_X6_refuse : GoodIn wsX6_line wsX6_refuse := goodIn_r _ [16, 1, 17, 18, 19, 9, 20, 21, 22, 23, 176, 177, 178, 179, 180, 181, 182, 183, 184, 185, 186, 187, 188] (by decide +kernel) (by decide +kernel)
set_option maxRecDepth 20000 in
theorem gX6_line_X6_refuse : GoodIn wsX6_line (wsV RX6 99 RX6 yX6_refuse wsX6_refuse) := goodIn_app (goodIn_of _ (by decide +kernel)) ggX6_line_X6_refuse
theorem dX6_line_0 : decode cX6_line 0 = .ok (.aload_n 0, 1) := by decide +kernel
theorem dX6_line_1 : decode cX6_line 1 = .ok (.getfield 67, 3) := by decide +kernel
theorem dX6_line_4 : decode cX6_line 4 = .ok (.iconst 1, 1) := by decide +kernel
theorem dX6_line_5 : decode cX6_line 5 = .ok (.if_icmp .ne 10, 3) := by decide +kernel
theorem dX6_line_8 : decode cX6_line 8 = .ok (.aload_n 0, 1) := by decide +kernel
theorem dX6_line_9 : decode cX6_line 9 = .ok (.getfield 73, 3) := by decide +kernel
theorem dX6_line_12 : decode cX6_line 12 = .ok (.goto 4, 3) := by decide +kernel
theorem dX6_line_15 : decode cX6_line 15 = .ok (.iconst (-1), 1) := by decide +kernel
theorem dX6_line_16 : decode cX6_line 16 = .ok (.tableswitch 116 0 10 #[60, 116, 116, 67, 116, 116, 116, 74, 88, 102, 109], 60) := by decide +kernel
theorem dX6_line_76 : decode cX6_line 76 = .ok (.aload_n 0, 1) := by decide +kernel
theorem dX6_line_77 : decode cX6_line 77 = .ok (.invokevirtual 76, 3) := by decide +kernel
theorem dX6_line_80 : decode cX6_line 80 = .ok (.goto 56, 3) := by decide +kernel
theorem dX6_line_83 : decode cX6_line 83 = .ok (.aload_n 0, 1) := by decide +kernel
theorem dX6_line_84 : decode cX6_line 84 = .ok (.invokevirtual 79, 3) := by decide +kernel
theorem dX6_line_87 : decode cX6_line 87 = .ok (.goto 49, 3) := by decide +kernel
theorem dX6_line_90 : decode cX6_line 90 = .ok (.aload_n 0, 1) := by decide +kernel
theorem dX6_line_91 : decode cX6_line 91 = .ok (.aload_n 0, 1) := by decide +kernel
theorem dX6_line_92 : decode cX6_line 92 = .ok (.getfield 15, 3) := by decide +kernel
theorem dX6_line_95 : decode cX6_line 95 = .ok (.getfield 82, 3) := by decide +kernel
theorem dX6_line_98 : decode cX6_line 98 = .ok (.invokevirtual 86, 3) := by decide +kernel
theorem dX6_line_101 : decode cX6_line 101 = .ok (.goto 35, 3) := by decide +kernel
theorem dX6_line_104 : decode cX6_line 104 = .ok (.aload_n 0, 1) := by decide +kernel
theorem dX6_line_105 : decode cX6_line 105 = .ok (.aload_n 0, 1) := by decide +kernel
theorem dX6_line_106 : decode cX6_line 106 = .ok (.getfield 15, 3) := by decide +kernel
theorem dX6_line_109 : decode cX6_line 109 = .ok (.getfield 90, 3) := by decide +kernel
theorem dX6_line_112 : decode cX6_line 112 = .ok (.invokevirtual 86, 3) := by decide +kernel
theorem dX6_line_115 : decode cX6_line 115 = .ok (.goto 21, 3) := by decide +kernel
theorem dX6_line_118 : decode cX6_line 118 = .ok (.aload_n 0, 1) := by decide +kernel
theorem dX6_line_119 : decode cX6_line 119 = .ok (.invokevirtual 93, 3) := by decide +kernel
theorem dX6_line_122 : decode cX6_line 122 = .ok (.goto 14, 3) := by decide +kernel
theorem dX6_line_125 : decode cX6_line 125 = .ok (.aload_n 0, 1) := by decide +kernel
theorem dX6_line_126 : decode cX6_line 126 = .ok (.invokevirtual 96, 3) := by decide +kernel
theorem dX6_line_129 : decode cX6_line 129 = .ok (.goto 7, 3) := by decide +kernel
theorem dX6_line_132 : decode cX6_line 132 = .ok (.aload_n 0, 1) := by decide +kernel
theorem dX6_line_133 : decode cX6_line 133 = .ok (.invokevirtual 99, 3) := by decide +kernel
theorem dX6_line_136 : decode cX6_line 136 = .ok (.return_, 1) := by decide +kernel
set_option maxRecDepth 20000 in
theorem ggX6_tierLine_X6_refuse : GoodIn wsX6_tierLine wsX6_refuse := goodIn_r _ [8, 9, 10, 11, 12, 7, 13, 14, 15, 16, 90, 91, 92, 93, 94, 95, 96, 97, 98, 99, 100, 101, 102] (by decide +kernel) (by decide +kernel)
set_option maxRecDepth 20000 in
theorem gX6_tierLine_X6_refuse : GoodIn wsX6_tierLine (wsV RX6 99 RX6 yX6_refuse wsX6_refuse) := goodIn_app (goodIn_of _ (by decide +kernel)) ggX6_tierLine_X6_refuse
set_option maxRecDepth 20000 in
theorem ggX6_tierLine_X6_advance : GoodIn wsX6_tierLine wsX6_advance := goodIn_r _ [20, 21, 22, 15, 9, 23, 24, 25, 26, 7, 27, 28, 29, 30, 31, 32, 33, 34, 35, 36, 37, 38, 39, 40, 41, 42, 43, 44, 45, 46, 47, 48, 49, 50, 51, 52, 53, 54, 55, 56, 90, 91, 92, 93, 94, 95, 96, 97, 98, 99, 100, 101, 102] (by decide +kernel) (by decide +kernel)
set_option maxRecDepth 20000 in
theorem gX6_tierLine_X6_advance : GoodIn wsX6_tierLine (wsV RX6 64 RX6 yX6_advance wsX6_advance) := goodIn_app (goodIn_of _ (by decide +kernel)) ggX6_tierLine_X6_advance
set_option maxRecDepth 20000 in
theorem ggX6_tierLine_X6_newName : GoodIn wsX6_tierLine wsX6_newName := goodIn_r _ [60, 14, 9, 40, 39, 4, 5, 6, 7, 8, 10, 11, 12, 13, 15, 16, 17, 18, 19, 20, 21, 22, 23, 24, 25, 26, 27, 28, 29, 30, 31, 32, 33, 34, 35, 36, 37, 38, 41, 42, 43, 44, 45, 46, 47, 48, 49, 50, 51, 52, 53, 54, 55, 56, 90, 91, 92, 93, 94, 95, 96, 97, 98, 99, 100, 101, 102] (by decide +kernel) (by decide +kernel)
set_option maxRecDepth 20000 in
theorem gX6_tierLine_X6_newName : GoodIn wsX6_tierLine (wsV RX6 108 RX6 yX6_newName wsX6_newName) := goodIn_app (goodIn_of _ (by decide +kernel)) ggX6_tierLine_X6_newName
set_option maxRecDepth 20000 in
theorem ggX6_tierLine_X6_numberWithin : GoodIn wsX6_tierLine wsX6_numberWithin := goodIn_r _ [64, 14, 9, 53, 4, 5, 6, 7, 8, 10, 11, 12, 13, 15, 16, 17, 18, 19, 20, 21, 22, 23, 24, 25, 26, 27, 28, 29, 30, 31, 32, 33, 34, 35, 36, 37, 38, 39, 40, 41, 42, 43, 44, 45, 46, 47, 48, 49, 50, 51, 52, 54, 55, 56, 90, 91, 92, 93, 94, 95, 96, 97, 98, 99, 100, 101, 102] (by decide +kernel) (by decide +kernel)
set_option maxRecDepth 20000 in
theorem gX6_tierLine_X6_numberWithin : GoodIn wsX6_tierLine (wsV RX6 112 RX6 yX6_numberWithin wsX6_numberWithin) := goodIn_app (goodIn_of _ (by decide +kernel)) ggX6_tierLine_X6_numberWithin
set_option maxRecDepth 20000 in
theorem ggX6_tierLine_X6_expectKeyword : GoodIn wsX6_tierLine wsX6_expectKeyword := goodIn_r _ [68, 69, 70, 71, 7, 72, 14, 9, 40, 17, 18, 19, 20, 21, 22, 15, 23, 24, 25, 26, 27, 28, 29, 30, 31, 32, 33, 34, 35, 36, 37, 38, 39, 41, 42, 43, 44, 45, 46, 47, 48, 49, 50, 51, 52, 53, 54, 55, 56, 4, 5, 6, 8, 10, 11, 12, 13, 16, 90, 91, 92, 93, 94, 95, 96, 97, 98, 99, 100, 101, 102] (by decide +kernel) (by decide +kernel)
set_option maxRecDepth 20000 in
theorem gX6_tierLine_X6_expectKeyword : GoodIn wsX6_tierLine (wsV RX6 115 RX6 yX6_expectKeyword wsX6_expectKeyword) := goodIn_app (goodIn_of _ (by decide +kernel)) ggX6_tierLine_X6_expectKeyword
set_option maxRecDepth 20000 in
theorem ggX6_tierLine_X6_expectSign : GoodIn wsX6_tierLine wsX6_expectSign := goodIn_r _ [76, 77, 78, 79, 7, 80, 14, 9, 23, 17, 18, 19, 20, 21, 22, 15, 24, 25, 26, 27, 28, 29, 30, 31, 32, 33, 34, 35, 36, 37, 38, 39, 40, 41, 42, 43, 44, 45, 46, 47, 48, 49, 50, 51, 52, 53, 54, 55, 56, 4, 5, 6, 8, 10, 11, 12, 13, 16, 90, 91, 92, 93, 94, 95, 96, 97, 98, 99, 100, 101, 102] (by decide +kernel) (by decide +kernel)
set_option maxRecDepth 20000 in
theorem gX6_tierLine_X6_expectSign : GoodIn wsX6_tierLine (wsV RX6 119 RX6 yX6_expectSign wsX6_expectSign) := goodIn_app (goodIn_of _ (by decide +kernel)) ggX6_tierLine_X6_expectSign
set_option maxRecDepth 20000 in
theorem ggX6_tierLine_X7_addTier : GoodIn wsX6_tierLine wsX7_addTier := goodIn_r _ [85, 86, 87, 88, 89, 103, 104, 105, 106, 107, 108, 109, 110, 111, 112, 113, 114, 115, 116, 117, 118] (by decide +kernel) (by decide +kernel)
set_option maxRecDepth 20000 in
theorem gX6_tierLine_X7_addTier : GoodIn wsX6_tierLine (wsV RX6 122 RX7 yX7_addTier wsX7_addTier) := goodIn_app (goodIn_of _ (by decide +kernel)) ggX6_tierLine_X7_addTier
theorem dX6_tierLine_0 : decode cX6_tierLine 0 = .ok (.aload_n 0, 1) := by decide +kernel
theorem dX6_tierLine_1 : decode cX6_tierLine 1 = .ok (.getfield 15, 3) := by decide +kernel
theorem dX6_tierLine_4 : decode cX6_tierLine 4 = .ok (.getfield 102, 3) := by decide +kernel
theorem dX6_tierLine_7 : decode cX6_tierLine 7 = .ok (.iconst 3, 1) := by decide +kernel
theorem dX6_tierLine_8 : decode cX6_tierLine 8 = .ok (.if_icmp .lt 8, 3) := by decide +kernel
theorem dX6_tierLine_11 : decode cX6_tierLine 11 = .ok (.aload_n 0, 1) := by decide +kernel
theorem dX6_tierLine_12 : decode cX6_tierLine 12 = .ok (.invokevirtual 99, 3) := by decide +kernel
theorem dX6_tierLine_15 : decode cX6_tierLine 15 = .ok (.return_, 1) := by decide +kernel
theorem dX6_tierLine_16 : decode cX6_tierLine 16 = .ok (.aload_n 0, 1) := by decide +kernel
theorem dX6_tierLine_17 : decode cX6_tierLine 17 = .ok (.invokevirtual 64, 3) := by decide +kernel
theorem dX6_tierLine_20 : decode cX6_tierLine 20 = .ok (.aload_n 0, 1) := by decide +kernel
theorem dX6_tierLine_21 : decode cX6_tierLine 21 = .ok (.aload_n 0, 1) := by decide +kernel
theorem dX6_tierLine_22 : decode cX6_tierLine 22 = .ok (.getfield 15, 3) := by decide +kernel
theorem dX6_tierLine_25 : decode cX6_tierLine 25 = .ok (.getfield 105, 3) := by decide +kernel
theorem dX6_tierLine_28 : decode cX6_tierLine 28 = .ok (.aload_n 0, 1) := by decide +kernel
theorem dX6_tierLine_29 : decode cX6_tierLine 29 = .ok (.getfield 15, 3) := by decide +kernel
theorem dX6_tierLine_32 : decode cX6_tierLine 32 = .ok (.getfield 102, 3) := by decide +kernel
theorem dX6_tierLine_35 : decode cX6_tierLine 35 = .ok (.invokevirtual 108, 3) := by decide +kernel
theorem dX6_tierLine_38 : decode cX6_tierLine 38 = .ok (.aload_n 0, 1) := by decide +kernel
theorem dX6_tierLine_39 : decode cX6_tierLine 39 = .ok (.iconst 1, 1) := by decide +kernel
theorem dX6_tierLine_40 : decode cX6_tierLine 40 = .ok (.bipush 8, 2) := by decide +kernel
theorem dX6_tierLine_42 : decode cX6_tierLine 42 = .ok (.invokevirtual 112, 3) := by decide +kernel
theorem dX6_tierLine_45 : decode cX6_tierLine 45 = .ok (.istore_n 1, 1) := by decide +kernel
theorem dX6_tierLine_46 : decode cX6_tierLine 46 = .ok (.aload_n 0, 1) := by decide +kernel
theorem dX6_tierLine_47 : decode cX6_tierLine 47 = .ok (.iconst 1, 1) := by decide +kernel
theorem dX6_tierLine_48 : decode cX6_tierLine 48 = .ok (.invokevirtual 115, 3) := by decide +kernel
theorem dX6_tierLine_51 : decode cX6_tierLine 51 = .ok (.aload_n 0, 1) := by decide +kernel
theorem dX6_tierLine_52 : decode cX6_tierLine 52 = .ok (.iconst 1, 1) := by decide +kernel
theorem dX6_tierLine_53 : decode cX6_tierLine 53 = .ok (.bipush 8, 2) := by decide +kernel
theorem dX6_tierLine_55 : decode cX6_tierLine 55 = .ok (.invokevirtual 112, 3) := by decide +kernel
theorem dX6_tierLine_58 : decode cX6_tierLine 58 = .ok (.istore_n 2, 1) := by decide +kernel
theorem dX6_tierLine_59 : decode cX6_tierLine 59 = .ok (.aload_n 0, 1) := by decide +kernel
theorem dX6_tierLine_60 : decode cX6_tierLine 60 = .ok (.iconst 2, 1) := by decide +kernel
theorem dX6_tierLine_61 : decode cX6_tierLine 61 = .ok (.invokevirtual 115, 3) := by decide +kernel
theorem dX6_tierLine_64 : decode cX6_tierLine 64 = .ok (.aload_n 0, 1) := by decide +kernel
theorem dX6_tierLine_65 : decode cX6_tierLine 65 = .ok (.iconst 1, 1) := by decide +kernel
theorem dX6_tierLine_66 : decode cX6_tierLine 66 = .ok (.bipush 9, 2) := by decide +kernel
theorem dX6_tierLine_68 : decode cX6_tierLine 68 = .ok (.invokevirtual 112, 3) := by decide +kernel
theorem dX6_tierLine_71 : decode cX6_tierLine 71 = .ok (.istore_n 3, 1) := by decide +kernel
theorem dX6_tierLine_72 : decode cX6_tierLine 72 = .ok (.aload_n 0, 1) := by decide +kernel
theorem dX6_tierLine_73 : decode cX6_tierLine 73 = .ok (.bipush 59, 2) := by decide +kernel
theorem dX6_tierLine_75 : decode cX6_tierLine 75 = .ok (.invokevirtual 119, 3) := by decide +kernel
theorem dX6_tierLine_78 : decode cX6_tierLine 78 = .ok (.aload_n 0, 1) := by decide +kernel
theorem dX6_tierLine_79 : decode cX6_tierLine 79 = .ok (.getfield 15, 3) := by decide +kernel
theorem dX6_tierLine_82 : decode cX6_tierLine 82 = .ok (.iload_n 1, 1) := by decide +kernel
theorem dX6_tierLine_83 : decode cX6_tierLine 83 = .ok (.iload_n 2, 1) := by decide +kernel
theorem dX6_tierLine_84 : decode cX6_tierLine 84 = .ok (.iload_n 3, 1) := by decide +kernel
theorem dX6_tierLine_85 : decode cX6_tierLine 85 = .ok (.invokevirtual 122, 3) := by decide +kernel
theorem dX6_tierLine_88 : decode cX6_tierLine 88 = .ok (.return_, 1) := by decide +kernel
set_option maxRecDepth 20000 in
theorem ggX6_guestLine_X6_refuse : GoodIn wsX6_guestLine wsX6_refuse := goodIn_r _ [8, 9, 10, 11, 12, 7, 13, 14, 15, 16, 90, 91, 92, 93, 94, 95, 96, 97, 98, 99, 100, 101, 102] (by decide +kernel) (by decide +kernel)
set_option maxRecDepth 20000 in
theorem gX6_guestLine_X6_refuse : GoodIn wsX6_guestLine (wsV RX6 99 RX6 yX6_refuse wsX6_refuse) := goodIn_app (goodIn_of _ (by decide +kernel)) ggX6_guestLine_X6_refuse
set_option maxRecDepth 20000 in
theorem ggX6_guestLine_X6_advance : GoodIn wsX6_guestLine wsX6_advance := goodIn_r _ [20, 21, 22, 15, 9, 23, 24, 25, 26, 7, 27, 28, 29, 30, 31, 32, 33, 34, 35, 36, 37, 38, 39, 40, 41, 42, 43, 44, 45, 46, 47, 48, 49, 50, 51, 52, 53, 54, 55, 56, 90, 91, 92, 93, 94, 95, 96, 97, 98, 99, 100, 101, 102] (by decide +kernel) (by decide +kernel)
set_option maxRecDepth 20000 in
theorem gX6_guestLine_X6_advance : GoodIn wsX6_guestLine (wsV RX6 64 RX6 yX6_advance wsX6_advance) := goodIn_app (goodIn_of _ (by decide +kernel)) ggX6_guestLine_X6_advance
set_option maxRecDepth 20000 in
theorem ggX6_guestLine_X6_newName : GoodIn wsX6_guestLine wsX6_newName := goodIn_r _ [60, 14, 9, 40, 39, 4, 5, 6, 7, 8, 10, 11, 12, 13, 15, 16, 17, 18, 19, 20, 21, 22, 23, 24, 25, 26, 27, 28, 29, 30, 31, 32, 33, 34, 35, 36, 37, 38, 41, 42, 43, 44, 45, 46, 47, 48, 49, 50, 51, 52, 53, 54, 55, 56, 90, 91, 92, 93, 94, 95, 96, 97, 98, 99, 100, 101, 102] (by decide +kernel) (by decide +kernel)
set_option maxRecDepth 20000 in
theorem gX6_guestLine_X6_newName : GoodIn wsX6_guestLine (wsV RX6 108 RX6 yX6_newName wsX6_newName) := goodIn_app (goodIn_of _ (by decide +kernel)) ggX6_guestLine_X6_newName
set_option maxRecDepth 20000 in
theorem ggX6_guestLine_X6_expectKeyword : GoodIn wsX6_guestLine wsX6_expectKeyword := goodIn_r _ [64, 65, 66, 67, 7, 68, 14, 9, 40, 17, 18, 19, 20, 21, 22, 15, 23, 24, 25, 26, 27, 28, 29, 30, 31, 32, 33, 34, 35, 36, 37, 38, 39, 41, 42, 43, 44, 45, 46, 47, 48, 49, 50, 51, 52, 53, 54, 55, 56, 4, 5, 6, 8, 10, 11, 12, 13, 16, 90, 91, 92, 93, 94, 95, 96, 97, 98, 99, 100, 101, 102] (by decide +kernel) (by decide +kernel)
set_option maxRecDepth 20000 in
theorem gX6_guestLine_X6_expectKeyword : GoodIn wsX6_guestLine (wsV RX6 115 RX6 yX6_expectKeyword wsX6_expectKeyword) := goodIn_app (goodIn_of _ (by decide +kernel)) ggX6_guestLine_X6_expectKeyword
set_option maxRecDepth 20000 in
theorem ggX6_guestLine_X6_numberWithin : GoodIn wsX6_guestLine wsX6_numberWithin := goodIn_r _ [72, 14, 9, 53, 4, 5, 6, 7, 8, 10, 11, 12, 13, 15, 16, 17, 18, 19, 20, 21, 22, 23, 24, 25, 26, 27, 28, 29, 30, 31, 32, 33, 34, 35, 36, 37, 38, 39, 40, 41, 42, 43, 44, 45, 46, 47, 48, 49, 50, 51, 52, 54, 55, 56, 90, 91, 92, 93, 94, 95, 96, 97, 98, 99, 100, 101, 102] (by decide +kernel) (by decide +kernel)
set_option maxRecDepth 20000 in
theorem gX6_guestLine_X6_numberWithin : GoodIn wsX6_guestLine (wsV RX6 112 RX6 yX6_numberWithin wsX6_numberWithin) := goodIn_app (goodIn_of _ (by decide +kernel)) ggX6_guestLine_X6_numberWithin
set_option maxRecDepth 20000 in
theorem ggX6_guestLine_X6_isKeyword : GoodIn wsX6_guestLine wsX6_isKeyword := goodIn_r _ [68, 14, 9, 40, 90, 91, 92, 93, 94, 95, 96, 97, 98, 99, 100, 101, 102] (by decide +kernel) (by decide +kernel)
set_option maxRecDepth 20000 in
theorem gX6_guestLine_X6_isKeyword : GoodIn wsX6_guestLine (wsV RX6 132 RX6 yX6_isKeyword wsX6_isKeyword) := goodIn_app (goodIn_of _ (by decide +kernel)) ggX6_guestLine_X6_isKeyword
set_option maxRecDepth 20000 in
theorem ggX6_guestLine_X6_expectSign : GoodIn wsX6_guestLine wsX6_expectSign := goodIn_r _ [76, 77, 78, 79, 7, 80, 14, 9, 23, 17, 18, 19, 20, 21, 22, 15, 24, 25, 26, 27, 28, 29, 30, 31, 32, 33, 34, 35, 36, 37, 38, 39, 40, 41, 42, 43, 44, 45, 46, 47, 48, 49, 50, 51, 52, 53, 54, 55, 56, 4, 5, 6, 8, 10, 11, 12, 13, 16, 90, 91, 92, 93, 94, 95, 96, 97, 98, 99, 100, 101, 102] (by decide +kernel) (by decide +kernel)
set_option maxRecDepth 20000 in
theorem gX6_guestLine_X6_expectSign : GoodIn wsX6_guestLine (wsV RX6 119 RX6 yX6_expectSign wsX6_expectSign) := goodIn_app (goodIn_of _ (by decide +kernel)) ggX6_guestLine_X6_expectSign
set_option maxRecDepth 20000 in
theorem ggX6_guestLine_X7_addGuest : GoodIn wsX6_guestLine wsX7_addGuest := goodIn_r _ [85, 86, 87, 88, 89, 103, 104, 105, 106, 107, 108, 109, 110, 111, 112, 113, 114, 115, 116, 117, 118] (by decide +kernel) (by decide +kernel)
set_option maxRecDepth 20000 in
theorem gX6_guestLine_X7_addGuest : GoodIn wsX6_guestLine (wsV RX6 136 RX7 yX7_addGuest wsX7_addGuest) := goodIn_app (goodIn_of _ (by decide +kernel)) ggX6_guestLine_X7_addGuest
theorem dX6_guestLine_0 : decode cX6_guestLine 0 = .ok (.aload_n 0, 1) := by decide +kernel
theorem dX6_guestLine_1 : decode cX6_guestLine 1 = .ok (.getfield 15, 3) := by decide +kernel
theorem dX6_guestLine_4 : decode cX6_guestLine 4 = .ok (.getfield 126, 3) := by decide +kernel
theorem dX6_guestLine_7 : decode cX6_guestLine 7 = .ok (.bipush 6, 2) := by decide +kernel
theorem dX6_guestLine_9 : decode cX6_guestLine 9 = .ok (.if_icmp .lt 8, 3) := by decide +kernel
theorem dX6_guestLine_12 : decode cX6_guestLine 12 = .ok (.aload_n 0, 1) := by decide +kernel
theorem dX6_guestLine_13 : decode cX6_guestLine 13 = .ok (.invokevirtual 99, 3) := by decide +kernel
theorem dX6_guestLine_16 : decode cX6_guestLine 16 = .ok (.return_, 1) := by decide +kernel
theorem dX6_guestLine_17 : decode cX6_guestLine 17 = .ok (.aload_n 0, 1) := by decide +kernel
theorem dX6_guestLine_18 : decode cX6_guestLine 18 = .ok (.invokevirtual 64, 3) := by decide +kernel
theorem dX6_guestLine_21 : decode cX6_guestLine 21 = .ok (.aload_n 0, 1) := by decide +kernel
theorem dX6_guestLine_22 : decode cX6_guestLine 22 = .ok (.aload_n 0, 1) := by decide +kernel
theorem dX6_guestLine_23 : decode cX6_guestLine 23 = .ok (.getfield 15, 3) := by decide +kernel
theorem dX6_guestLine_26 : decode cX6_guestLine 26 = .ok (.getfield 129, 3) := by decide +kernel
theorem dX6_guestLine_29 : decode cX6_guestLine 29 = .ok (.aload_n 0, 1) := by decide +kernel
theorem dX6_guestLine_30 : decode cX6_guestLine 30 = .ok (.getfield 15, 3) := by decide +kernel
theorem dX6_guestLine_33 : decode cX6_guestLine 33 = .ok (.getfield 126, 3) := by decide +kernel
theorem dX6_guestLine_36 : decode cX6_guestLine 36 = .ok (.invokevirtual 108, 3) := by decide +kernel
theorem dX6_guestLine_39 : decode cX6_guestLine 39 = .ok (.aload_n 0, 1) := by decide +kernel
theorem dX6_guestLine_40 : decode cX6_guestLine 40 = .ok (.iconst 4, 1) := by decide +kernel
theorem dX6_guestLine_41 : decode cX6_guestLine 41 = .ok (.invokevirtual 115, 3) := by decide +kernel
theorem dX6_guestLine_44 : decode cX6_guestLine 44 = .ok (.aload_n 0, 1) := by decide +kernel
theorem dX6_guestLine_45 : decode cX6_guestLine 45 = .ok (.iconst 0, 1) := by decide +kernel
theorem dX6_guestLine_46 : decode cX6_guestLine 46 = .ok (.sipush 999, 3) := by decide +kernel
theorem dX6_guestLine_49 : decode cX6_guestLine 49 = .ok (.invokevirtual 112, 3) := by decide +kernel
theorem dX6_guestLine_52 : decode cX6_guestLine 52 = .ok (.istore_n 1, 1) := by decide +kernel
theorem dX6_guestLine_53 : decode cX6_guestLine 53 = .ok (.iconst 0, 1) := by decide +kernel
theorem dX6_guestLine_54 : decode cX6_guestLine 54 = .ok (.istore_n 2, 1) := by decide +kernel
theorem dX6_guestLine_55 : decode cX6_guestLine 55 = .ok (.aload_n 0, 1) := by decide +kernel
theorem dX6_guestLine_56 : decode cX6_guestLine 56 = .ok (.iconst 5, 1) := by decide +kernel
theorem dX6_guestLine_57 : decode cX6_guestLine 57 = .ok (.invokevirtual 132, 3) := by decide +kernel
theorem dX6_guestLine_60 : decode cX6_guestLine 60 = .ok (.ifCond .eq 15, 3) := by decide +kernel
theorem dX6_guestLine_63 : decode cX6_guestLine 63 = .ok (.aload_n 0, 1) := by decide +kernel
theorem dX6_guestLine_64 : decode cX6_guestLine 64 = .ok (.invokevirtual 64, 3) := by decide +kernel
theorem dX6_guestLine_67 : decode cX6_guestLine 67 = .ok (.aload_n 0, 1) := by decide +kernel
theorem dX6_guestLine_68 : decode cX6_guestLine 68 = .ok (.iconst 0, 1) := by decide +kernel
theorem dX6_guestLine_69 : decode cX6_guestLine 69 = .ok (.bipush 9, 2) := by decide +kernel
theorem dX6_guestLine_71 : decode cX6_guestLine 71 = .ok (.invokevirtual 112, 3) := by decide +kernel
theorem dX6_guestLine_74 : decode cX6_guestLine 74 = .ok (.istore_n 2, 1) := by decide +kernel
theorem dX6_guestLine_75 : decode cX6_guestLine 75 = .ok (.bipush 100, 2) := by decide +kernel
theorem dX6_guestLine_77 : decode cX6_guestLine 77 = .ok (.istore_n 3, 1) := by decide +kernel
theorem dX6_guestLine_78 : decode cX6_guestLine 78 = .ok (.aload_n 0, 1) := by decide +kernel
theorem dX6_guestLine_79 : decode cX6_guestLine 79 = .ok (.bipush 6, 2) := by decide +kernel
theorem dX6_guestLine_81 : decode cX6_guestLine 81 = .ok (.invokevirtual 132, 3) := by decide +kernel
theorem dX6_guestLine_84 : decode cX6_guestLine 84 = .ok (.ifCond .eq 15, 3) := by decide +kernel
theorem dX6_guestLine_87 : decode cX6_guestLine 87 = .ok (.aload_n 0, 1) := by decide +kernel
theorem dX6_guestLine_88 : decode cX6_guestLine 88 = .ok (.invokevirtual 64, 3) := by decide +kernel
theorem dX6_guestLine_91 : decode cX6_guestLine 91 = .ok (.aload_n 0, 1) := by decide +kernel
theorem dX6_guestLine_92 : decode cX6_guestLine 92 = .ok (.iconst 0, 1) := by decide +kernel
theorem dX6_guestLine_93 : decode cX6_guestLine 93 = .ok (.bipush 100, 2) := by decide +kernel
theorem dX6_guestLine_95 : decode cX6_guestLine 95 = .ok (.invokevirtual 112, 3) := by decide +kernel
theorem dX6_guestLine_98 : decode cX6_guestLine 98 = .ok (.istore_n 3, 1) := by decide +kernel
theorem dX6_guestLine_99 : decode cX6_guestLine 99 = .ok (.aload_n 0, 1) := by decide +kernel
theorem dX6_guestLine_100 : decode cX6_guestLine 100 = .ok (.bipush 59, 2) := by decide +kernel
theorem dX6_guestLine_102 : decode cX6_guestLine 102 = .ok (.invokevirtual 119, 3) := by decide +kernel
theorem dX6_guestLine_105 : decode cX6_guestLine 105 = .ok (.aload_n 0, 1) := by decide +kernel
theorem dX6_guestLine_106 : decode cX6_guestLine 106 = .ok (.getfield 15, 3) := by decide +kernel
theorem dX6_guestLine_109 : decode cX6_guestLine 109 = .ok (.iload_n 1, 1) := by decide +kernel
theorem dX6_guestLine_110 : decode cX6_guestLine 110 = .ok (.iload_n 2, 1) := by decide +kernel
theorem dX6_guestLine_111 : decode cX6_guestLine 111 = .ok (.iload_n 3, 1) := by decide +kernel
theorem dX6_guestLine_112 : decode cX6_guestLine 112 = .ok (.invokevirtual 136, 3) := by decide +kernel
theorem dX6_guestLine_115 : decode cX6_guestLine 115 = .ok (.return_, 1) := by decide +kernel
set_option maxRecDepth 20000 in
theorem ggX6_formulaLine_X6_refuse : GoodIn wsX6_formulaLine wsX6_refuse := goodIn_r _ [6, 7, 8, 9, 10, 5, 11, 12, 13, 14, 121, 122, 123, 124, 125, 126, 127, 128, 129, 130, 131, 132, 133] (by decide +kernel) (by decide +kernel)
set_option maxRecDepth 20000 in
theorem gX6_formulaLine_X6_refuse : GoodIn wsX6_formulaLine (wsV RX6 99 RX6 yX6_refuse wsX6_refuse) := goodIn_app (goodIn_of _ (by decide +kernel)) ggX6_formulaLine_X6_refuse
set_option maxRecDepth 20000 in
theorem ggX6_formulaLine_X6_advance : GoodIn wsX6_formulaLine wsX6_advance := goodIn_r _ [18, 19, 20, 13, 7, 21, 22, 23, 24, 5, 25, 26, 27, 28, 29, 30, 31, 32, 33, 34, 35, 36, 37, 38, 39, 40, 41, 42, 43, 44, 45, 46, 47, 48, 49, 50, 51, 52, 53, 54, 121, 122, 123, 124, 125, 126, 127, 128, 129, 130, 131, 132, 133] (by decide +kernel) (by decide +kernel)
set_option maxRecDepth 20000 in
theorem gX6_formulaLine_X6_advance : GoodIn wsX6_formulaLine (wsV RX6 64 RX6 yX6_advance wsX6_advance) := goodIn_app (goodIn_of _ (by decide +kernel)) ggX6_formulaLine_X6_advance
set_option maxRecDepth 20000 in
theorem ggX6_formulaLine_X2_begin : GoodIn wsX6_formulaLine wsX2_begin := goodIn_r _ [59, 60, 61, 116, 117, 118, 119, 120] (by decide +kernel) (by decide +kernel)
set_option maxRecDepth 20000 in
theorem gX6_formulaLine_X2_begin : GoodIn wsX6_formulaLine (wsV RX6 145 RX2 yX2_begin wsX2_begin) := goodIn_app (goodIn_of _ (by decide +kernel)) ggX6_formulaLine_X2_begin
set_option maxRecDepth 20000 in
theorem ggX6_formulaLine_X6_either : GoodIn wsX6_formulaLine wsX6_either := goodIn_r _ [65, 66, 67, 68, 5, 69, 70, 71, 72, 12, 7, 38, 15, 16, 17, 18, 19, 20, 13, 21, 22, 23, 24, 25, 26, 27, 28, 29, 30, 31, 32, 33, 34, 35, 36, 37, 39, 40, 41, 42, 43, 44, 45, 46, 47, 48, 49, 50, 51, 52, 53, 54, 73, 74, 75, 58, 76, 60, 77, 78, 79, 80, 81, 82, 83, 84, 85, 2, 3, 4, 6, 8, 9, 10, 11, 14, 86, 87, 88, 89, 90, 91, 92, 93, 94, 95, 96, 97, 98, 99, 100, 101, 102, 103, 104, 105, 106, 107, 108, 109, 110, 111, 62, 63, 64, 112, 113, 114, 115, 121, 122, 123, 124, 125, 126, 127, 128, 129, 130, 131, 132, 133, 116, 117, 118, 119, 120] (by decide +kernel) (by decide +kernel)
set_option maxRecDepth 20000 in
theorem gX6_formulaLine_X6_either : GoodIn wsX6_formulaLine (wsV RX6 148 RX6 yX6_either wsX6_either) := goodIn_app (goodIn_of _ (by decide +kernel)) ggX6_formulaLine_X6_either
set_option maxRecDepth 20000 in
theorem ggX6_formulaLine_X6_expectSign : GoodIn wsX6_formulaLine wsX6_expectSign := goodIn_r _ [115, 90, 91, 92, 5, 93, 12, 7, 21, 15, 16, 17, 18, 19, 20, 13, 22, 23, 24, 25, 26, 27, 28, 29, 30, 31, 32, 33, 34, 35, 36, 37, 38, 39, 40, 41, 42, 43, 44, 45, 46, 47, 48, 49, 50, 51, 52, 53, 54, 2, 3, 4, 6, 8, 9, 10, 11, 14, 121, 122, 123, 124, 125, 126, 127, 128, 129, 130, 131, 132, 133] (by decide +kernel) (by decide +kernel)
set_option maxRecDepth 20000 in
theorem gX6_formulaLine_X6_expectSign : GoodIn wsX6_formulaLine (wsV RX6 119 RX6 yX6_expectSign wsX6_expectSign) := goodIn_app (goodIn_of _ (by decide +kernel)) ggX6_formulaLine_X6_expectSign
theorem dX6_formulaLine_0 : decode cX6_formulaLine 0 = .ok (.aload_n 1, 1) := by decide +kernel
theorem dX6_formulaLine_1 : decode cX6_formulaLine 1 = .ok (.getfield 139, 3) := by decide +kernel
theorem dX6_formulaLine_4 : decode cX6_formulaLine 4 = .ok (.ifCond .eq 8, 3) := by decide +kernel
theorem dX6_formulaLine_7 : decode cX6_formulaLine 7 = .ok (.aload_n 0, 1) := by decide +kernel
theorem dX6_formulaLine_8 : decode cX6_formulaLine 8 = .ok (.invokevirtual 99, 3) := by decide +kernel
theorem dX6_formulaLine_11 : decode cX6_formulaLine 11 = .ok (.return_, 1) := by decide +kernel
theorem dX6_formulaLine_12 : decode cX6_formulaLine 12 = .ok (.aload_n 0, 1) := by decide +kernel
theorem dX6_formulaLine_13 : decode cX6_formulaLine 13 = .ok (.invokevirtual 64, 3) := by decide +kernel
theorem dX6_formulaLine_16 : decode cX6_formulaLine 16 = .ok (.aload_n 1, 1) := by decide +kernel
theorem dX6_formulaLine_17 : decode cX6_formulaLine 17 = .ok (.invokevirtual 145, 3) := by decide +kernel
theorem dX6_formulaLine_20 : decode cX6_formulaLine 20 = .ok (.aload_n 0, 1) := by decide +kernel
theorem dX6_formulaLine_21 : decode cX6_formulaLine 21 = .ok (.aload_n 1, 1) := by decide +kernel
theorem dX6_formulaLine_22 : decode cX6_formulaLine 22 = .ok (.iconst 0, 1) := by decide +kernel
theorem dX6_formulaLine_23 : decode cX6_formulaLine 23 = .ok (.invokevirtual 148, 3) := by decide +kernel
theorem dX6_formulaLine_26 : decode cX6_formulaLine 26 = .ok (.aload_n 0, 1) := by decide +kernel
theorem dX6_formulaLine_27 : decode cX6_formulaLine 27 = .ok (.bipush 59, 2) := by decide +kernel
theorem dX6_formulaLine_29 : decode cX6_formulaLine 29 = .ok (.invokevirtual 119, 3) := by decide +kernel
theorem dX6_formulaLine_32 : decode cX6_formulaLine 32 = .ok (.return_, 1) := by decide +kernel
set_option maxRecDepth 20000 in
theorem ggX6_paceLine_X6_refuse : GoodIn wsX6_paceLine wsX6_refuse := goodIn_r _ [8, 9, 10, 11, 12, 7, 13, 14, 15, 16, 69, 70, 71, 72, 73, 74, 75, 76, 77, 78, 79, 80, 81] (by decide +kernel) (by decide +kernel)
set_option maxRecDepth 20000 in
theorem gX6_paceLine_X6_refuse : GoodIn wsX6_paceLine (wsV RX6 99 RX6 yX6_refuse wsX6_refuse) := goodIn_app (goodIn_of _ (by decide +kernel)) ggX6_paceLine_X6_refuse
set_option maxRecDepth 20000 in
theorem ggX6_paceLine_X6_advance : GoodIn wsX6_paceLine wsX6_advance := goodIn_r _ [20, 21, 22, 15, 9, 23, 24, 25, 26, 7, 27, 28, 29, 30, 31, 32, 33, 34, 35, 36, 37, 38, 39, 40, 41, 42, 43, 44, 45, 46, 47, 48, 49, 50, 51, 52, 53, 54, 55, 56, 69, 70, 71, 72, 73, 74, 75, 76, 77, 78, 79, 80, 81] (by decide +kernel) (by decide +kernel)
set_option maxRecDepth 20000 in
theorem gX6_paceLine_X6_advance : GoodIn wsX6_paceLine (wsV RX6 64 RX6 yX6_advance wsX6_advance) := goodIn_app (goodIn_of _ (by decide +kernel)) ggX6_paceLine_X6_advance
set_option maxRecDepth 20000 in
theorem ggX6_paceLine_X6_numberWithin : GoodIn wsX6_paceLine wsX6_numberWithin := goodIn_r _ [60, 14, 9, 53, 4, 5, 6, 7, 8, 10, 11, 12, 13, 15, 16, 17, 18, 19, 20, 21, 22, 23, 24, 25, 26, 27, 28, 29, 30, 31, 32, 33, 34, 35, 36, 37, 38, 39, 40, 41, 42, 43, 44, 45, 46, 47, 48, 49, 50, 51, 52, 54, 55, 56, 69, 70, 71, 72, 73, 74, 75, 76, 77, 78, 79, 80, 81] (by decide +kernel) (by decide +kernel)
set_option maxRecDepth 20000 in
theorem gX6_paceLine_X6_numberWithin : GoodIn wsX6_paceLine (wsV RX6 112 RX6 yX6_numberWithin wsX6_numberWithin) := goodIn_app (goodIn_of _ (by decide +kernel)) ggX6_paceLine_X6_numberWithin
set_option maxRecDepth 20000 in
theorem ggX6_paceLine_X6_expectSign : GoodIn wsX6_paceLine wsX6_expectSign := goodIn_r _ [64, 65, 66, 67, 7, 68, 14, 9, 23, 17, 18, 19, 20, 21, 22, 15, 24, 25, 26, 27, 28, 29, 30, 31, 32, 33, 34, 35, 36, 37, 38, 39, 40, 41, 42, 43, 44, 45, 46, 47, 48, 49, 50, 51, 52, 53, 54, 55, 56, 4, 5, 6, 8, 10, 11, 12, 13, 16, 69, 70, 71, 72, 73, 74, 75, 76, 77, 78, 79, 80, 81] (by decide +kernel) (by decide +kernel)
set_option maxRecDepth 20000 in
theorem gX6_paceLine_X6_expectSign : GoodIn wsX6_paceLine (wsV RX6 119 RX6 yX6_expectSign wsX6_expectSign) := goodIn_app (goodIn_of _ (by decide +kernel)) ggX6_paceLine_X6_expectSign
theorem dX6_paceLine_0 : decode cX6_paceLine 0 = .ok (.aload_n 0, 1) := by decide +kernel
theorem dX6_paceLine_1 : decode cX6_paceLine 1 = .ok (.getfield 15, 3) := by decide +kernel
theorem dX6_paceLine_4 : decode cX6_paceLine 4 = .ok (.getfield 152, 3) := by decide +kernel
theorem dX6_paceLine_7 : decode cX6_paceLine 7 = .ok (.ifCond .eq 8, 3) := by decide +kernel
theorem dX6_paceLine_10 : decode cX6_paceLine 10 = .ok (.aload_n 0, 1) := by decide +kernel
theorem dX6_paceLine_11 : decode cX6_paceLine 11 = .ok (.invokevirtual 99, 3) := by decide +kernel
theorem dX6_paceLine_14 : decode cX6_paceLine 14 = .ok (.return_, 1) := by decide +kernel
theorem dX6_paceLine_15 : decode cX6_paceLine 15 = .ok (.aload_n 0, 1) := by decide +kernel
theorem dX6_paceLine_16 : decode cX6_paceLine 16 = .ok (.invokevirtual 64, 3) := by decide +kernel
theorem dX6_paceLine_19 : decode cX6_paceLine 19 = .ok (.aload_n 0, 1) := by decide +kernel
theorem dX6_paceLine_20 : decode cX6_paceLine 20 = .ok (.getfield 15, 3) := by decide +kernel
theorem dX6_paceLine_23 : decode cX6_paceLine 23 = .ok (.iconst 1, 1) := by decide +kernel
theorem dX6_paceLine_24 : decode cX6_paceLine 24 = .ok (.putfield 152, 3) := by decide +kernel
theorem dX6_paceLine_27 : decode cX6_paceLine 27 = .ok (.aload_n 0, 1) := by decide +kernel
theorem dX6_paceLine_28 : decode cX6_paceLine 28 = .ok (.getfield 15, 3) := by decide +kernel
theorem dX6_paceLine_31 : decode cX6_paceLine 31 = .ok (.aload_n 0, 1) := by decide +kernel
theorem dX6_paceLine_32 : decode cX6_paceLine 32 = .ok (.iconst 0, 1) := by decide +kernel
theorem dX6_paceLine_33 : decode cX6_paceLine 33 = .ok (.bipush 60, 2) := by decide +kernel
theorem dX6_paceLine_35 : decode cX6_paceLine 35 = .ok (.invokevirtual 112, 3) := by decide +kernel
theorem dX6_paceLine_38 : decode cX6_paceLine 38 = .ok (.putfield 155, 3) := by decide +kernel
theorem dX6_paceLine_41 : decode cX6_paceLine 41 = .ok (.aload_n 0, 1) := by decide +kernel
theorem dX6_paceLine_42 : decode cX6_paceLine 42 = .ok (.bipush 59, 2) := by decide +kernel
theorem dX6_paceLine_44 : decode cX6_paceLine 44 = .ok (.invokevirtual 119, 3) := by decide +kernel
theorem dX6_paceLine_47 : decode cX6_paceLine 47 = .ok (.return_, 1) := by decide +kernel
set_option maxRecDepth 20000 in
theorem ggX6_drawLine_X6_refuse : GoodIn wsX6_drawLine wsX6_refuse := goodIn_r _ [8, 9, 10, 11, 12, 7, 13, 14, 15, 16, 69, 70, 71, 72, 73, 74, 75, 76, 77, 78, 79, 80, 81] (by decide +kernel) (by decide +kernel)
set_option maxRecDepth 20000 in
theorem gX6_drawLine_X6_refuse : GoodIn wsX6_drawLine (wsV RX6 99 RX6 yX6_refuse wsX6_refuse) := goodIn_app (goodIn_of _ (by decide +kernel)) ggX6_drawLine_X6_refuse
set_option maxRecDepth 20000 in
theorem ggX6_drawLine_X6_advance : GoodIn wsX6_drawLine wsX6_advance := goodIn_r _ [20, 21, 22, 15, 9, 23, 24, 25, 26, 7, 27, 28, 29, 30, 31, 32, 33, 34, 35, 36, 37, 38, 39, 40, 41, 42, 43, 44, 45, 46, 47, 48, 49, 50, 51, 52, 53, 54, 55, 56, 69, 70, 71, 72, 73, 74, 75, 76, 77, 78, 79, 80, 81] (by decide +kernel) (by decide +kernel)
set_option maxRecDepth 20000 in
theorem gX6_drawLine_X6_advance : GoodIn wsX6_drawLine (wsV RX6 64 RX6 yX6_advance wsX6_advance) := goodIn_app (goodIn_of _ (by decide +kernel)) ggX6_drawLine_X6_advance
set_option maxRecDepth 20000 in
theorem ggX6_drawLine_X6_numberWithin : GoodIn wsX6_drawLine wsX6_numberWithin := goodIn_r _ [60, 14, 9, 53, 4, 5, 6, 7, 8, 10, 11, 12, 13, 15, 16, 17, 18, 19, 20, 21, 22, 23, 24, 25, 26, 27, 28, 29, 30, 31, 32, 33, 34, 35, 36, 37, 38, 39, 40, 41, 42, 43, 44, 45, 46, 47, 48, 49, 50, 51, 52, 54, 55, 56, 69, 70, 71, 72, 73, 74, 75, 76, 77, 78, 79, 80, 81] (by decide +kernel) (by decide +kernel)
set_option maxRecDepth 20000 in
theorem gX6_drawLine_X6_numberWithin : GoodIn wsX6_drawLine (wsV RX6 112 RX6 yX6_numberWithin wsX6_numberWithin) := goodIn_app (goodIn_of _ (by decide +kernel)) ggX6_drawLine_X6_numberWithin
set_option maxRecDepth 20000 in
theorem ggX6_drawLine_X6_expectSign : GoodIn wsX6_drawLine wsX6_expectSign := goodIn_r _ [64, 65, 66, 67, 7, 68, 14, 9, 23, 17, 18, 19, 20, 21, 22, 15, 24, 25, 26, 27, 28, 29, 30, 31, 32, 33, 34, 35, 36, 37, 38, 39, 40, 41, 42, 43, 44, 45, 46, 47, 48, 49, 50, 51, 52, 53, 54, 55, 56, 4, 5, 6, 8, 10, 11, 12, 13, 16, 69, 70, 71, 72, 73, 74, 75, 76, 77, 78, 79, 80, 81] (by decide +kernel) (by decide +kernel)
set_option maxRecDepth 20000 in
theorem gX6_drawLine_X6_expectSign : GoodIn wsX6_drawLine (wsV RX6 119 RX6 yX6_expectSign wsX6_expectSign) := goodIn_app (goodIn_of _ (by decide +kernel)) ggX6_drawLine_X6_expectSign
theorem dX6_drawLine_0 : decode cX6_drawLine 0 = .ok (.aload_n 0, 1) := by decide +kernel
theorem dX6_drawLine_1 : decode cX6_drawLine 1 = .ok (.getfield 15, 3) := by decide +kernel
theorem dX6_drawLine_4 : decode cX6_drawLine 4 = .ok (.getfield 158, 3) := by decide +kernel
theorem dX6_drawLine_7 : decode cX6_drawLine 7 = .ok (.ifCond .eq 8, 3) := by decide +kernel
theorem dX6_drawLine_10 : decode cX6_drawLine 10 = .ok (.aload_n 0, 1) := by decide +kernel
theorem dX6_drawLine_11 : decode cX6_drawLine 11 = .ok (.invokevirtual 99, 3) := by decide +kernel
theorem dX6_drawLine_14 : decode cX6_drawLine 14 = .ok (.return_, 1) := by decide +kernel
theorem dX6_drawLine_15 : decode cX6_drawLine 15 = .ok (.aload_n 0, 1) := by decide +kernel
theorem dX6_drawLine_16 : decode cX6_drawLine 16 = .ok (.invokevirtual 64, 3) := by decide +kernel
theorem dX6_drawLine_19 : decode cX6_drawLine 19 = .ok (.aload_n 0, 1) := by decide +kernel
theorem dX6_drawLine_20 : decode cX6_drawLine 20 = .ok (.getfield 15, 3) := by decide +kernel
theorem dX6_drawLine_23 : decode cX6_drawLine 23 = .ok (.iconst 1, 1) := by decide +kernel
theorem dX6_drawLine_24 : decode cX6_drawLine 24 = .ok (.putfield 158, 3) := by decide +kernel
theorem dX6_drawLine_27 : decode cX6_drawLine 27 = .ok (.aload_n 0, 1) := by decide +kernel
theorem dX6_drawLine_28 : decode cX6_drawLine 28 = .ok (.getfield 15, 3) := by decide +kernel
theorem dX6_drawLine_31 : decode cX6_drawLine 31 = .ok (.aload_n 0, 1) := by decide +kernel
theorem dX6_drawLine_32 : decode cX6_drawLine 32 = .ok (.iconst 0, 1) := by decide +kernel
theorem dX6_drawLine_33 : decode cX6_drawLine 33 = .ok (.sipush 999, 3) := by decide +kernel
theorem dX6_drawLine_36 : decode cX6_drawLine 36 = .ok (.invokevirtual 112, 3) := by decide +kernel
theorem dX6_drawLine_39 : decode cX6_drawLine 39 = .ok (.putfield 161, 3) := by decide +kernel
theorem dX6_drawLine_42 : decode cX6_drawLine 42 = .ok (.aload_n 0, 1) := by decide +kernel
theorem dX6_drawLine_43 : decode cX6_drawLine 43 = .ok (.bipush 59, 2) := by decide +kernel
theorem dX6_drawLine_45 : decode cX6_drawLine 45 = .ok (.invokevirtual 119, 3) := by decide +kernel
theorem dX6_drawLine_48 : decode cX6_drawLine 48 = .ok (.return_, 1) := by decide +kernel
set_option maxRecDepth 20000 in
theorem ggX6_either_X6_both : GoodIn wsX6_either wsX6_both := goodIn_r _ [59, 60, 61, 62, 4, 5, 6, 7, 8, 9, 10, 11, 12, 13, 14, 15, 16, 17, 18, 19, 20, 21, 22, 23, 24, 25, 26, 27, 28, 29, 30, 31, 32, 33, 34, 35, 36, 37, 38, 39, 40, 41, 42, 43, 44, 45, 46, 47, 48, 49, 50, 51, 52, 53, 54, 55, 56, 57, 58, 0, 1, 2, 3, 63, 64, 65, 66, 67, 68, 69, 70, 71, 72, 73, 74, 75, 76, 77, 78, 79, 80, 81, 82, 83, 84, 85, 86, 87, 88, 89, 90, 91, 92, 93, 94, 95, 96, 97, 98, 99, 100, 101, 102, 103, 104, 105, 106, 107, 108, 109, 110, 111, 112, 113, 114, 115, 116, 117, 118, 119, 120, 121, 122, 123, 124, 125, 126] (by decide +kernel) (by decide +kernel)
set_option maxRecDepth 20000 in
theorem gX6_either_X6_both : GoodIn wsX6_either (wsV RX6 164 RX6 yX6_both wsX6_both) := goodIn_app (goodIn_of _ (by decide +kernel)) ggX6_either_X6_both
set_option maxRecDepth 20000 in
theorem ggX6_either_X6_isKeyword : GoodIn wsX6_either wsX6_isKeyword := goodIn_r _ [8, 9, 10, 11, 109, 110, 111, 112, 113, 114, 115, 116, 117, 118, 119, 120, 121] (by decide +kernel) (by decide +kernel)
set_option maxRecDepth 20000 in
theorem gX6_either_X6_isKeyword : GoodIn wsX6_either (wsV RX6 132 RX6 yX6_isKeyword wsX6_isKeyword) := goodIn_app (goodIn_of _ (by decide +kernel)) ggX6_either_X6_isKeyword
set_option maxRecDepth 20000 in
theorem ggX6_either_X6_advance : GoodIn wsX6_either wsX6_advance := goodIn_r _ [15, 16, 17, 18, 10, 19, 20, 21, 22, 4, 23, 24, 25, 26, 27, 28, 29, 30, 31, 32, 33, 34, 35, 11, 36, 37, 38, 39, 40, 41, 42, 43, 44, 45, 46, 47, 48, 49, 50, 51, 109, 110, 111, 112, 113, 114, 115, 116, 117, 118, 119, 120, 121] (by decide +kernel) (by decide +kernel)
set_option maxRecDepth 20000 in
theorem gX6_either_X6_advance : GoodIn wsX6_either (wsV RX6 64 RX6 yX6_advance wsX6_advance) := goodIn_app (goodIn_of _ (by decide +kernel)) ggX6_either_X6_advance
set_option maxRecDepth 20000 in
theorem ggX6_either_X2_add : GoodIn wsX6_either wsX2_add := goodIn_r _ [56, 57, 58, 122, 123, 124, 125, 126] (by decide +kernel) (by decide +kernel)
set_option maxRecDepth 20000 in
theorem gX6_either_X2_add : GoodIn wsX6_either (wsV RX6 167 RX2 yX2_add wsX2_add) := goodIn_app (goodIn_of _ (by decide +kernel)) ggX6_either_X2_add
theorem dX6_either_0 : decode cX6_either 0 = .ok (.aload_n 0, 1) := by decide +kernel
theorem dX6_either_1 : decode cX6_either 1 = .ok (.aload_n 1, 1) := by decide +kernel
theorem dX6_either_2 : decode cX6_either 2 = .ok (.iload_n 2, 1) := by decide +kernel
theorem dX6_either_3 : decode cX6_either 3 = .ok (.invokevirtual 164, 3) := by decide +kernel
theorem dX6_either_6 : decode cX6_either 6 = .ok (.iconst 0, 1) := by decide +kernel
theorem dX6_either_7 : decode cX6_either 7 = .ok (.istore_n 3, 1) := by decide +kernel
theorem dX6_either_8 : decode cX6_either 8 = .ok (.iload_n 3, 1) := by decide +kernel
theorem dX6_either_9 : decode cX6_either 9 = .ok (.sipush 1600, 3) := by decide +kernel
theorem dX6_either_12 : decode cX6_either 12 = .ok (.if_icmp .ge 35, 3) := by decide +kernel
theorem dX6_either_15 : decode cX6_either 15 = .ok (.aload_n 0, 1) := by decide +kernel
theorem dX6_either_16 : decode cX6_either 16 = .ok (.bipush 11, 2) := by decide +kernel
theorem dX6_either_18 : decode cX6_either 18 = .ok (.invokevirtual 132, 3) := by decide +kernel
theorem dX6_either_21 : decode cX6_either 21 = .ok (.ifCond .eq 26, 3) := by decide +kernel
theorem dX6_either_24 : decode cX6_either 24 = .ok (.aload_n 0, 1) := by decide +kernel
theorem dX6_either_25 : decode cX6_either 25 = .ok (.invokevirtual 64, 3) := by decide +kernel
theorem dX6_either_28 : decode cX6_either 28 = .ok (.aload_n 0, 1) := by decide +kernel
theorem dX6_either_29 : decode cX6_either 29 = .ok (.aload_n 1, 1) := by decide +kernel
theorem dX6_either_30 : decode cX6_either 30 = .ok (.iload_n 2, 1) := by decide +kernel
theorem dX6_either_31 : decode cX6_either 31 = .ok (.invokevirtual 164, 3) := by decide +kernel
theorem dX6_either_34 : decode cX6_either 34 = .ok (.aload_n 1, 1) := by decide +kernel
theorem dX6_either_35 : decode cX6_either 35 = .ok (.bipush 8, 2) := by decide +kernel
theorem dX6_either_37 : decode cX6_either 37 = .ok (.iconst 0, 1) := by decide +kernel
theorem dX6_either_38 : decode cX6_either 38 = .ok (.invokevirtual 167, 3) := by decide +kernel
theorem dX6_either_41 : decode cX6_either 41 = .ok (.iinc 3 1, 3) := by decide +kernel
theorem dX6_either_44 : decode cX6_either 44 = .ok (.goto (-36), 3) := by decide +kernel
theorem dX6_either_47 : decode cX6_either 47 = .ok (.return_, 1) := by decide +kernel
set_option maxRecDepth 20000 in
theorem ggX6_both_X6_one : GoodIn wsX6_both wsX6_one := goodIn_r _ [63, 5, 6, 7, 4, 8, 9, 10, 11, 64, 65, 66, 67, 68, 69, 70, 71, 72, 73, 74, 18, 75, 12, 13, 14, 15, 16, 17, 19, 20, 21, 22, 23, 24, 25, 26, 27, 28, 29, 30, 31, 32, 33, 34, 35, 36, 37, 38, 39, 40, 41, 42, 43, 44, 45, 46, 47, 48, 49, 50, 51, 1, 2, 3, 52, 53, 54, 55, 56, 57, 58, 0, 59, 60, 61, 62, 76, 77, 78, 79, 80, 81, 82, 83, 84, 85, 86, 87, 88, 89, 90, 91, 92, 93, 94, 95, 96, 97, 98, 99, 100, 101, 102, 103, 104, 105, 106, 107, 108, 109, 110, 111, 112, 113, 114, 115, 116, 117, 118, 119, 120, 121, 122, 123, 124, 125, 126] (by decide +kernel) (by decide +kernel)
set_option maxRecDepth 20000 in
theorem gX6_both_X6_one : GoodIn wsX6_both (wsV RX6 171 RX6 yX6_one wsX6_one) := goodIn_app (goodIn_of _ (by decide +kernel)) ggX6_both_X6_one
set_option maxRecDepth 20000 in
theorem ggX6_both_X6_isKeyword : GoodIn wsX6_both wsX6_isKeyword := goodIn_r _ [8, 9, 10, 11, 109, 110, 111, 112, 113, 114, 115, 116, 117, 118, 119, 120, 121] (by decide +kernel) (by decide +kernel)
set_option maxRecDepth 20000 in
theorem gX6_both_X6_isKeyword : GoodIn wsX6_both (wsV RX6 132 RX6 yX6_isKeyword wsX6_isKeyword) := goodIn_app (goodIn_of _ (by decide +kernel)) ggX6_both_X6_isKeyword
set_option maxRecDepth 20000 in
theorem ggX6_both_X6_advance : GoodIn wsX6_both wsX6_advance := goodIn_r _ [15, 16, 17, 18, 10, 19, 20, 21, 22, 4, 23, 24, 25, 26, 27, 28, 29, 30, 31, 32, 33, 34, 35, 11, 36, 37, 38, 39, 40, 41, 42, 43, 44, 45, 46, 47, 48, 49, 50, 51, 109, 110, 111, 112, 113, 114, 115, 116, 117, 118, 119, 120, 121] (by decide +kernel) (by decide +kernel)
set_option maxRecDepth 20000 in
theorem gX6_both_X6_advance : GoodIn wsX6_both (wsV RX6 64 RX6 yX6_advance wsX6_advance) := goodIn_app (goodIn_of _ (by decide +kernel)) ggX6_both_X6_advance
set_option maxRecDepth 20000 in
theorem ggX6_both_X2_add : GoodIn wsX6_both wsX2_add := goodIn_r _ [56, 57, 58, 122, 123, 124, 125, 126] (by decide +kernel) (by decide +kernel)
set_option maxRecDepth 20000 in
theorem gX6_both_X2_add : GoodIn wsX6_both (wsV RX6 167 RX2 yX2_add wsX2_add) := goodIn_app (goodIn_of _ (by decide +kernel)) ggX6_both_X2_add
theorem dX6_both_0 : decode cX6_both 0 = .ok (.aload_n 0, 1) := by decide +kernel
theorem dX6_both_1 : decode cX6_both 1 = .ok (.aload_n 1, 1) := by decide +kernel
theorem dX6_both_2 : decode cX6_both 2 = .ok (.iload_n 2, 1) := by decide +kernel
theorem dX6_both_3 : decode cX6_both 3 = .ok (.invokevirtual 171, 3) := by decide +kernel
theorem dX6_both_6 : decode cX6_both 6 = .ok (.iconst 0, 1) := by decide +kernel
theorem dX6_both_7 : decode cX6_both 7 = .ok (.istore_n 3, 1) := by decide +kernel
theorem dX6_both_8 : decode cX6_both 8 = .ok (.iload_n 3, 1) := by decide +kernel
theorem dX6_both_9 : decode cX6_both 9 = .ok (.sipush 1600, 3) := by decide +kernel
theorem dX6_both_12 : decode cX6_both 12 = .ok (.if_icmp .ge 35, 3) := by decide +kernel
theorem dX6_both_15 : decode cX6_both 15 = .ok (.aload_n 0, 1) := by decide +kernel
theorem dX6_both_16 : decode cX6_both 16 = .ok (.bipush 12, 2) := by decide +kernel
theorem dX6_both_18 : decode cX6_both 18 = .ok (.invokevirtual 132, 3) := by decide +kernel
theorem dX6_both_21 : decode cX6_both 21 = .ok (.ifCond .eq 26, 3) := by decide +kernel
theorem dX6_both_24 : decode cX6_both 24 = .ok (.aload_n 0, 1) := by decide +kernel
theorem dX6_both_25 : decode cX6_both 25 = .ok (.invokevirtual 64, 3) := by decide +kernel
theorem dX6_both_28 : decode cX6_both 28 = .ok (.aload_n 0, 1) := by decide +kernel
theorem dX6_both_29 : decode cX6_both 29 = .ok (.aload_n 1, 1) := by decide +kernel
theorem dX6_both_30 : decode cX6_both 30 = .ok (.iload_n 2, 1) := by decide +kernel
theorem dX6_both_31 : decode cX6_both 31 = .ok (.invokevirtual 171, 3) := by decide +kernel
theorem dX6_both_34 : decode cX6_both 34 = .ok (.aload_n 1, 1) := by decide +kernel
theorem dX6_both_35 : decode cX6_both 35 = .ok (.bipush 9, 2) := by decide +kernel
theorem dX6_both_37 : decode cX6_both 37 = .ok (.iconst 0, 1) := by decide +kernel
theorem dX6_both_38 : decode cX6_both 38 = .ok (.invokevirtual 167, 3) := by decide +kernel
theorem dX6_both_41 : decode cX6_both 41 = .ok (.iinc 3 1, 3) := by decide +kernel
theorem dX6_both_44 : decode cX6_both 44 = .ok (.goto (-36), 3) := by decide +kernel
theorem dX6_both_47 : decode cX6_both 47 = .ok (.return_, 1) := by decide +kernel
set_option maxRecDepth 20000 in
theorem ggX6_one_X6_isKeyword : GoodIn wsX6_one wsX6_isKeyword := goodIn_r _ [5, 6, 7, 8, 109, 110, 111, 112, 113, 114, 115, 116, 117, 118, 119, 120, 121] (by decide +kernel) (by decide +kernel)
set_option maxRecDepth 20000 in
theorem gX6_one_X6_isKeyword : GoodIn wsX6_one (wsV RX6 132 RX6 yX6_isKeyword wsX6_isKeyword) := goodIn_app (goodIn_of _ (by decide +kernel)) ggX6_one_X6_isKeyword
set_option maxRecDepth 20000 in
theorem ggX6_one_X6_relation : GoodIn wsX6_one wsX6_relation := goodIn_r _ [76, 77, 78, 79, 4, 80, 81, 82, 83, 6, 7, 28, 22, 23, 24, 25, 26, 27, 20, 29, 30, 31, 32, 33, 34, 35, 36, 37, 38, 39, 40, 41, 42, 43, 44, 8, 45, 46, 47, 48, 49, 50, 51, 52, 53, 54, 55, 56, 57, 58, 59, 60, 64, 65, 66, 67, 68, 69, 70, 71, 61, 62, 63, 1, 2, 3, 5, 72, 73, 74, 75, 0, 9, 10, 11, 12, 13, 14, 15, 16, 17, 18, 19, 21, 84, 85, 86, 87, 88, 89, 90, 91, 92, 93, 94, 95, 96, 97, 98, 99, 100, 101, 102, 103, 104, 105, 106, 107, 108, 109, 110, 111, 112, 113, 114, 115, 116, 117, 118, 119, 120, 121, 122, 123, 124, 125, 126] (by decide +kernel) (by decide +kernel)
set_option maxRecDepth 20000 in
theorem gX6_one_X6_relation : GoodIn wsX6_one (wsV RX6 174 RX6 yX6_relation wsX6_relation) := goodIn_app (goodIn_of _ (by decide +kernel)) ggX6_one_X6_relation
set_option maxRecDepth 20000 in
theorem ggX6_one_X6_refuse : GoodIn wsX6_one wsX6_refuse := goodIn_r _ [15, 7, 16, 17, 18, 4, 19, 6, 20, 21, 109, 110, 111, 112, 113, 114, 115, 116, 117, 118, 119, 120, 121] (by decide +kernel) (by decide +kernel)
set_option maxRecDepth 20000 in
theorem gX6_one_X6_refuse : GoodIn wsX6_one (wsV RX6 99 RX6 yX6_refuse wsX6_refuse) := goodIn_app (goodIn_of _ (by decide +kernel)) ggX6_one_X6_refuse
set_option maxRecDepth 20000 in
theorem ggX6_one_X6_advance : GoodIn wsX6_one wsX6_advance := goodIn_r _ [25, 26, 27, 20, 7, 28, 29, 30, 31, 4, 32, 33, 34, 35, 36, 37, 38, 39, 40, 41, 42, 43, 44, 8, 45, 46, 47, 48, 49, 50, 51, 52, 53, 54, 55, 56, 57, 58, 59, 60, 109, 110, 111, 112, 113, 114, 115, 116, 117, 118, 119, 120, 121] (by decide +kernel) (by decide +kernel)
set_option maxRecDepth 20000 in
theorem gX6_one_X6_advance : GoodIn wsX6_one (wsV RX6 64 RX6 yX6_advance wsX6_advance) := goodIn_app (goodIn_of _ (by decide +kernel)) ggX6_one_X6_advance
set_option maxRecDepth 20000 in
theorem ggX6_one_X6_one : GoodIn wsX6_one wsX6_one := goodIn_r _ [0, 1, 2, 3, 4, 5, 6, 7, 8, 9, 10, 11, 12, 13, 14, 15, 16, 17, 18, 19, 20, 21, 22, 23, 24, 25, 26, 27, 28, 29, 30, 31, 32, 33, 34, 35, 36, 37, 38, 39, 40, 41, 42, 43, 44, 45, 46, 47, 48, 49, 50, 51, 52, 53, 54, 55, 56, 57, 58, 59, 60, 61, 62, 63, 64, 65, 66, 67, 68, 69, 70, 71, 72, 73, 74, 75, 76, 77, 78, 79, 80, 81, 82, 83, 84, 85, 86, 87, 88, 89, 90, 91, 92, 93, 94, 95, 96, 97, 98, 99, 100, 101, 102, 103, 104, 105, 106, 107, 108, 109, 110, 111, 112, 113, 114, 115, 116, 117, 118, 119, 120, 121, 122, 123, 124, 125, 126] (by decide +kernel) (by decide +kernel)
set_option maxRecDepth 20000 in
theorem gX6_one_X6_one : GoodIn wsX6_one (wsV RX6 171 RX6 yX6_one wsX6_one) := goodIn_app (goodIn_of _ (by decide +kernel)) ggX6_one_X6_one
set_option maxRecDepth 20000 in
theorem ggX6_one_X2_add : GoodIn wsX6_one wsX2_add := goodIn_r _ [68, 69, 70, 122, 123, 124, 125, 126] (by decide +kernel) (by decide +kernel)
set_option maxRecDepth 20000 in
theorem gX6_one_X2_add : GoodIn wsX6_one (wsV RX6 167 RX2 yX2_add wsX2_add) := goodIn_app (goodIn_of _ (by decide +kernel)) ggX6_one_X2_add
theorem dX6_one_0 : decode cX6_one 0 = .ok (.aload_n 0, 1) := by decide +kernel
theorem dX6_one_1 : decode cX6_one 1 = .ok (.bipush 13, 2) := by decide +kernel
theorem dX6_one_3 : decode cX6_one 3 = .ok (.invokevirtual 132, 3) := by decide +kernel
theorem dX6_one_6 : decode cX6_one 6 = .ok (.ifCond .ne 10, 3) := by decide +kernel
theorem dX6_one_9 : decode cX6_one 9 = .ok (.aload_n 0, 1) := by decide +kernel
theorem dX6_one_10 : decode cX6_one 10 = .ok (.aload_n 1, 1) := by decide +kernel
theorem dX6_one_11 : decode cX6_one 11 = .ok (.iload_n 2, 1) := by decide +kernel
theorem dX6_one_12 : decode cX6_one 12 = .ok (.invokevirtual 174, 3) := by decide +kernel
theorem dX6_one_15 : decode cX6_one 15 = .ok (.return_, 1) := by decide +kernel
theorem dX6_one_16 : decode cX6_one 16 = .ok (.iload_n 2, 1) := by decide +kernel
theorem dX6_one_17 : decode cX6_one 17 = .ok (.bipush 6, 2) := by decide +kernel
theorem dX6_one_19 : decode cX6_one 19 = .ok (.if_icmp .le 8, 3) := by decide +kernel
theorem dX6_one_22 : decode cX6_one 22 = .ok (.aload_n 0, 1) := by decide +kernel
theorem dX6_one_23 : decode cX6_one 23 = .ok (.invokevirtual 99, 3) := by decide +kernel
theorem dX6_one_26 : decode cX6_one 26 = .ok (.return_, 1) := by decide +kernel
theorem dX6_one_27 : decode cX6_one 27 = .ok (.aload_n 0, 1) := by decide +kernel
theorem dX6_one_28 : decode cX6_one 28 = .ok (.invokevirtual 64, 3) := by decide +kernel
theorem dX6_one_31 : decode cX6_one 31 = .ok (.aload_n 0, 1) := by decide +kernel
theorem dX6_one_32 : decode cX6_one 32 = .ok (.aload_n 1, 1) := by decide +kernel
theorem dX6_one_33 : decode cX6_one 33 = .ok (.iload_n 2, 1) := by decide +kernel
theorem dX6_one_34 : decode cX6_one 34 = .ok (.iconst 1, 1) := by decide +kernel
theorem dX6_one_35 : decode cX6_one 35 = .ok (.iadd, 1) := by decide +kernel
theorem dX6_one_36 : decode cX6_one 36 = .ok (.invokevirtual 171, 3) := by decide +kernel
theorem dX6_one_39 : decode cX6_one 39 = .ok (.aload_n 1, 1) := by decide +kernel
theorem dX6_one_40 : decode cX6_one 40 = .ok (.bipush 7, 2) := by decide +kernel
theorem dX6_one_42 : decode cX6_one 42 = .ok (.iconst 0, 1) := by decide +kernel
theorem dX6_one_43 : decode cX6_one 43 = .ok (.invokevirtual 167, 3) := by decide +kernel
theorem dX6_one_46 : decode cX6_one 46 = .ok (.return_, 1) := by decide +kernel
set_option maxRecDepth 20000 in
theorem ggX6_relation_X6_sum : GoodIn wsX6_relation wsX6_sum := goodIn_r _ [84, 85, 86, 87, 4, 5, 6, 7, 8, 9, 10, 11, 12, 13, 14, 15, 16, 17, 18, 19, 20, 21, 22, 23, 24, 25, 26, 27, 28, 29, 30, 31, 32, 33, 34, 35, 36, 37, 38, 39, 40, 41, 42, 43, 44, 45, 46, 47, 48, 49, 50, 51, 52, 53, 54, 55, 56, 57, 58, 59, 60, 61, 62, 63, 64, 65, 66, 67, 68, 69, 70, 71, 72, 73, 74, 75, 76, 77, 78, 79, 80, 81, 82, 83, 0, 1, 2, 3, 88, 89, 90, 91, 92, 93, 94, 95, 96, 97, 98, 99, 100, 101, 102, 103, 104, 105, 106, 107, 108, 109, 110, 111, 112, 113, 114, 115, 116, 117, 118, 119, 120, 121, 122, 123, 124, 125, 126] (by decide +kernel) (by decide +kernel)
set_option maxRecDepth 20000 in
theorem gX6_relation_X6_sum : GoodIn wsX6_relation (wsV RX6 177 RX6 yX6_sum wsX6_sum) := goodIn_app (goodIn_of _ (by decide +kernel)) ggX6_relation_X6_sum
set_option maxRecDepth 20000 in
theorem ggX6_relation_X6_isSign : GoodIn wsX6_relation wsX6_isSign := goodIn_r _ [8, 9, 10, 11, 109, 110, 111, 112, 113, 114, 115, 116, 117, 118, 119, 120, 121] (by decide +kernel) (by decide +kernel)
set_option maxRecDepth 20000 in
theorem gX6_relation_X6_isSign : GoodIn wsX6_relation (wsV RX6 180 RX6 yX6_isSign wsX6_isSign) := goodIn_app (goodIn_of _ (by decide +kernel)) ggX6_relation_X6_isSign
set_option maxRecDepth 20000 in
theorem ggX6_relation_X6_advance : GoodIn wsX6_relation wsX6_advance := goodIn_r _ [15, 16, 17, 18, 10, 11, 19, 20, 21, 4, 22, 23, 24, 25, 26, 27, 28, 29, 30, 31, 32, 33, 34, 35, 36, 37, 38, 39, 40, 41, 42, 43, 44, 45, 46, 47, 48, 49, 50, 51, 109, 110, 111, 112, 113, 114, 115, 116, 117, 118, 119, 120, 121] (by decide +kernel) (by decide +kernel)
set_option maxRecDepth 20000 in
theorem gX6_relation_X6_advance : GoodIn wsX6_relation (wsV RX6 64 RX6 yX6_advance wsX6_advance) := goodIn_app (goodIn_of _ (by decide +kernel)) ggX6_relation_X6_advance
set_option maxRecDepth 20000 in
theorem ggX6_relation_X2_add : GoodIn wsX6_relation wsX2_add := goodIn_r _ [56, 57, 58, 122, 123, 124, 125, 126] (by decide +kernel) (by decide +kernel)
set_option maxRecDepth 20000 in
theorem gX6_relation_X2_add : GoodIn wsX6_relation (wsV RX6 167 RX2 yX2_add wsX2_add) := goodIn_app (goodIn_of _ (by decide +kernel)) ggX6_relation_X2_add
theorem dX6_relation_0 : decode cX6_relation 0 = .ok (.aload_n 0, 1) := by decide +kernel
theorem dX6_relation_1 : decode cX6_relation 1 = .ok (.aload_n 1, 1) := by decide +kernel
theorem dX6_relation_2 : decode cX6_relation 2 = .ok (.iload_n 2, 1) := by decide +kernel
theorem dX6_relation_3 : decode cX6_relation 3 = .ok (.invokevirtual 177, 3) := by decide +kernel
theorem dX6_relation_6 : decode cX6_relation 6 = .ok (.aload_n 0, 1) := by decide +kernel
theorem dX6_relation_7 : decode cX6_relation 7 = .ok (.bipush 60, 2) := by decide +kernel
theorem dX6_relation_9 : decode cX6_relation 9 = .ok (.invokevirtual 180, 3) := by decide +kernel
theorem dX6_relation_12 : decode cX6_relation 12 = .ok (.ifCond .eq 8, 3) := by decide +kernel
theorem dX6_relation_15 : decode cX6_relation 15 = .ok (.bipush 10, 2) := by decide +kernel
theorem dX6_relation_17 : decode cX6_relation 17 = .ok (.goto 32, 3) := by decide +kernel
theorem dX6_relation_20 : decode cX6_relation 20 = .ok (.aload_n 0, 1) := by decide +kernel
theorem dX6_relation_21 : decode cX6_relation 21 = .ok (.bipush 62, 2) := by decide +kernel
theorem dX6_relation_23 : decode cX6_relation 23 = .ok (.invokevirtual 180, 3) := by decide +kernel
theorem dX6_relation_26 : decode cX6_relation 26 = .ok (.ifCond .eq 8, 3) := by decide +kernel
theorem dX6_relation_29 : decode cX6_relation 29 = .ok (.bipush 11, 2) := by decide +kernel
theorem dX6_relation_31 : decode cX6_relation 31 = .ok (.goto 18, 3) := by decide +kernel
theorem dX6_relation_34 : decode cX6_relation 34 = .ok (.aload_n 0, 1) := by decide +kernel
theorem dX6_relation_35 : decode cX6_relation 35 = .ok (.bipush 61, 2) := by decide +kernel
theorem dX6_relation_37 : decode cX6_relation 37 = .ok (.invokevirtual 180, 3) := by decide +kernel
theorem dX6_relation_40 : decode cX6_relation 40 = .ok (.ifCond .eq 8, 3) := by decide +kernel
theorem dX6_relation_43 : decode cX6_relation 43 = .ok (.bipush 12, 2) := by decide +kernel
theorem dX6_relation_45 : decode cX6_relation 45 = .ok (.goto 4, 3) := by decide +kernel
theorem dX6_relation_48 : decode cX6_relation 48 = .ok (.iconst (-1), 1) := by decide +kernel
theorem dX6_relation_49 : decode cX6_relation 49 = .ok (.istore_n 3, 1) := by decide +kernel
theorem dX6_relation_50 : decode cX6_relation 50 = .ok (.iload_n 3, 1) := by decide +kernel
theorem dX6_relation_51 : decode cX6_relation 51 = .ok (.iconst (-1), 1) := by decide +kernel
theorem dX6_relation_52 : decode cX6_relation 52 = .ok (.if_icmp .eq 19, 3) := by decide +kernel
theorem dX6_relation_55 : decode cX6_relation 55 = .ok (.aload_n 0, 1) := by decide +kernel
theorem dX6_relation_56 : decode cX6_relation 56 = .ok (.invokevirtual 64, 3) := by decide +kernel
theorem dX6_relation_59 : decode cX6_relation 59 = .ok (.aload_n 0, 1) := by decide +kernel
theorem dX6_relation_60 : decode cX6_relation 60 = .ok (.aload_n 1, 1) := by decide +kernel
theorem dX6_relation_61 : decode cX6_relation 61 = .ok (.iload_n 2, 1) := by decide +kernel
theorem dX6_relation_62 : decode cX6_relation 62 = .ok (.invokevirtual 177, 3) := by decide +kernel
theorem dX6_relation_65 : decode cX6_relation 65 = .ok (.aload_n 1, 1) := by decide +kernel
theorem dX6_relation_66 : decode cX6_relation 66 = .ok (.iload_n 3, 1) := by decide +kernel
theorem dX6_relation_67 : decode cX6_relation 67 = .ok (.iconst 0, 1) := by decide +kernel
theorem dX6_relation_68 : decode cX6_relation 68 = .ok (.invokevirtual 167, 3) := by decide +kernel
theorem dX6_relation_71 : decode cX6_relation 71 = .ok (.return_, 1) := by decide +kernel
set_option maxRecDepth 20000 in
theorem ggX6_sum_X6_term : GoodIn wsX6_sum wsX6_term := goodIn_r _ [88, 89, 90, 91, 4, 5, 6, 7, 8, 9, 10, 11, 12, 13, 14, 15, 16, 17, 18, 19, 20, 21, 22, 23, 24, 25, 26, 27, 28, 29, 30, 31, 32, 33, 34, 35, 36, 37, 38, 39, 40, 41, 42, 43, 44, 45, 46, 47, 48, 49, 50, 51, 52, 53, 54, 55, 56, 57, 58, 59, 60, 61, 62, 63, 64, 65, 66, 67, 68, 69, 70, 71, 72, 73, 74, 75, 76, 77, 78, 79, 80, 81, 82, 83, 84, 85, 86, 87, 0, 1, 2, 3, 92, 93, 94, 95, 96, 97, 98, 99, 100, 101, 102, 103, 104, 105, 106, 107, 108, 109, 110, 111, 112, 113, 114, 115, 116, 117, 118, 119, 120, 121, 122, 123, 124, 125, 126] (by decide +kernel) (by decide +kernel)
set_option maxRecDepth 20000 in
theorem gX6_sum_X6_term : GoodIn wsX6_sum (wsV RX6 183 RX6 yX6_term wsX6_term) := goodIn_app (goodIn_of _ (by decide +kernel)) ggX6_sum_X6_term
set_option maxRecDepth 20000 in
theorem ggX6_sum_X6_isSign : GoodIn wsX6_sum wsX6_isSign := goodIn_r _ [8, 9, 10, 11, 109, 110, 111, 112, 113, 114, 115, 116, 117, 118, 119, 120, 121] (by decide +kernel) (by decide +kernel)
set_option maxRecDepth 20000 in
theorem gX6_sum_X6_isSign : GoodIn wsX6_sum (wsV RX6 180 RX6 yX6_isSign wsX6_isSign) := goodIn_app (goodIn_of _ (by decide +kernel)) ggX6_sum_X6_isSign
set_option maxRecDepth 20000 in
theorem ggX6_sum_X6_advance : GoodIn wsX6_sum wsX6_advance := goodIn_r _ [15, 16, 17, 18, 10, 11, 19, 20, 21, 4, 22, 23, 24, 25, 26, 27, 28, 29, 30, 31, 32, 33, 34, 35, 36, 37, 38, 39, 40, 41, 42, 43, 44, 45, 46, 47, 48, 49, 50, 51, 109, 110, 111, 112, 113, 114, 115, 116, 117, 118, 119, 120, 121] (by decide +kernel) (by decide +kernel)
set_option maxRecDepth 20000 in
theorem gX6_sum_X6_advance : GoodIn wsX6_sum (wsV RX6 64 RX6 yX6_advance wsX6_advance) := goodIn_app (goodIn_of _ (by decide +kernel)) ggX6_sum_X6_advance
set_option maxRecDepth 20000 in
theorem ggX6_sum_X2_add : GoodIn wsX6_sum wsX2_add := goodIn_r _ [56, 57, 58, 122, 123, 124, 125, 126] (by decide +kernel) (by decide +kernel)
set_option maxRecDepth 20000 in
theorem gX6_sum_X2_add : GoodIn wsX6_sum (wsV RX6 167 RX2 yX2_add wsX2_add) := goodIn_app (goodIn_of _ (by decide +kernel)) ggX6_sum_X2_add
theorem dX6_sum_0 : decode cX6_sum 0 = .ok (.aload_n 0, 1) := by decide +kernel
theorem dX6_sum_1 : decode cX6_sum 1 = .ok (.aload_n 1, 1) := by decide +kernel
theorem dX6_sum_2 : decode cX6_sum 2 = .ok (.iload_n 2, 1) := by decide +kernel
theorem dX6_sum_3 : decode cX6_sum 3 = .ok (.invokevirtual 183, 3) := by decide +kernel
theorem dX6_sum_6 : decode cX6_sum 6 = .ok (.iconst 0, 1) := by decide +kernel
theorem dX6_sum_7 : decode cX6_sum 7 = .ok (.istore_n 3, 1) := by decide +kernel
theorem dX6_sum_8 : decode cX6_sum 8 = .ok (.iload_n 3, 1) := by decide +kernel
theorem dX6_sum_9 : decode cX6_sum 9 = .ok (.sipush 1600, 3) := by decide +kernel
theorem dX6_sum_12 : decode cX6_sum 12 = .ok (.if_icmp .ge 62, 3) := by decide +kernel
theorem dX6_sum_15 : decode cX6_sum 15 = .ok (.aload_n 0, 1) := by decide +kernel
theorem dX6_sum_16 : decode cX6_sum 16 = .ok (.bipush 43, 2) := by decide +kernel
theorem dX6_sum_18 : decode cX6_sum 18 = .ok (.invokevirtual 180, 3) := by decide +kernel
theorem dX6_sum_21 : decode cX6_sum 21 = .ok (.ifCond .ne 12, 3) := by decide +kernel
theorem dX6_sum_24 : decode cX6_sum 24 = .ok (.aload_n 0, 1) := by decide +kernel
theorem dX6_sum_25 : decode cX6_sum 25 = .ok (.bipush 45, 2) := by decide +kernel
theorem dX6_sum_27 : decode cX6_sum 27 = .ok (.invokevirtual 180, 3) := by decide +kernel
theorem dX6_sum_30 : decode cX6_sum 30 = .ok (.ifCond .eq 44, 3) := by decide +kernel
theorem dX6_sum_33 : decode cX6_sum 33 = .ok (.aload_n 0, 1) := by decide +kernel
theorem dX6_sum_34 : decode cX6_sum 34 = .ok (.bipush 43, 2) := by decide +kernel
theorem dX6_sum_36 : decode cX6_sum 36 = .ok (.invokevirtual 180, 3) := by decide +kernel
theorem dX6_sum_39 : decode cX6_sum 39 = .ok (.ifCond .eq 8, 3) := by decide +kernel
theorem dX6_sum_42 : decode cX6_sum 42 = .ok (.bipush 13, 2) := by decide +kernel
theorem dX6_sum_44 : decode cX6_sum 44 = .ok (.goto 5, 3) := by decide +kernel
theorem dX6_sum_47 : decode cX6_sum 47 = .ok (.bipush 14, 2) := by decide +kernel
theorem dX6_sum_49 : decode cX6_sum 49 = .ok (.istore 4, 2) := by decide +kernel
theorem dX6_sum_51 : decode cX6_sum 51 = .ok (.aload_n 0, 1) := by decide +kernel
theorem dX6_sum_52 : decode cX6_sum 52 = .ok (.invokevirtual 64, 3) := by decide +kernel
theorem dX6_sum_55 : decode cX6_sum 55 = .ok (.aload_n 0, 1) := by decide +kernel
theorem dX6_sum_56 : decode cX6_sum 56 = .ok (.aload_n 1, 1) := by decide +kernel
theorem dX6_sum_57 : decode cX6_sum 57 = .ok (.iload_n 2, 1) := by decide +kernel
theorem dX6_sum_58 : decode cX6_sum 58 = .ok (.invokevirtual 183, 3) := by decide +kernel
theorem dX6_sum_61 : decode cX6_sum 61 = .ok (.aload_n 1, 1) := by decide +kernel
theorem dX6_sum_62 : decode cX6_sum 62 = .ok (.iload 4, 2) := by decide +kernel
theorem dX6_sum_64 : decode cX6_sum 64 = .ok (.iconst 0, 1) := by decide +kernel
theorem dX6_sum_65 : decode cX6_sum 65 = .ok (.invokevirtual 167, 3) := by decide +kernel
theorem dX6_sum_68 : decode cX6_sum 68 = .ok (.iinc 3 1, 3) := by decide +kernel
theorem dX6_sum_71 : decode cX6_sum 71 = .ok (.goto (-63), 3) := by decide +kernel
theorem dX6_sum_74 : decode cX6_sum 74 = .ok (.return_, 1) := by decide +kernel
set_option maxRecDepth 20000 in
theorem ggX6_term_X6_unit : GoodIn wsX6_term wsX6_unit := goodIn_r _ [92, 9, 48, 5, 6, 7, 4, 8, 10, 11, 93, 94, 95, 96, 35, 97, 98, 99, 55, 100, 101, 75, 76, 77, 78, 79, 80, 81, 82, 18, 83, 52, 53, 54, 56, 57, 58, 12, 13, 14, 15, 16, 17, 19, 20, 21, 22, 23, 24, 25, 26, 27, 28, 29, 30, 31, 32, 33, 34, 36, 37, 38, 39, 40, 41, 42, 43, 44, 45, 46, 47, 49, 50, 51, 102, 103, 104, 105, 106, 107, 108, 59, 60, 61, 62, 63, 64, 65, 66, 67, 68, 69, 70, 71, 72, 73, 74, 84, 85, 86, 87, 88, 89, 90, 91, 0, 1, 2, 3, 109, 110, 111, 112, 113, 114, 115, 116, 117, 118, 119, 120, 121, 122, 123, 124, 125, 126] (by decide +kernel) (by decide +kernel)
set_option maxRecDepth 20000 in
theorem gX6_term_X6_unit : GoodIn wsX6_term (wsV RX6 186 RX6 yX6_unit wsX6_unit) := goodIn_app (goodIn_of _ (by decide +kernel)) ggX6_term_X6_unit
set_option maxRecDepth 20000 in
theorem ggX6_term_X6_isSign : GoodIn wsX6_term wsX6_isSign := goodIn_r _ [8, 9, 10, 11, 109, 110, 111, 112, 113, 114, 115, 116, 117, 118, 119, 120, 121] (by decide +kernel) (by decide +kernel)
set_option maxRecDepth 20000 in
theorem gX6_term_X6_isSign : GoodIn wsX6_term (wsV RX6 180 RX6 yX6_isSign wsX6_isSign) := goodIn_app (goodIn_of _ (by decide +kernel)) ggX6_term_X6_isSign
set_option maxRecDepth 20000 in
theorem ggX6_term_X6_advance : GoodIn wsX6_term wsX6_advance := goodIn_r _ [15, 16, 17, 18, 10, 11, 19, 20, 21, 4, 22, 23, 24, 25, 26, 27, 28, 29, 30, 31, 32, 33, 34, 35, 36, 37, 38, 39, 40, 41, 42, 43, 44, 45, 46, 47, 48, 49, 50, 51, 109, 110, 111, 112, 113, 114, 115, 116, 117, 118, 119, 120, 121] (by decide +kernel) (by decide +kernel)
set_option maxRecDepth 20000 in
theorem gX6_term_X6_advance : GoodIn wsX6_term (wsV RX6 64 RX6 yX6_advance wsX6_advance) := goodIn_app (goodIn_of _ (by decide +kernel)) ggX6_term_X6_advance
set_option maxRecDepth 20000 in
theorem ggX6_term_X2_add : GoodIn wsX6_term wsX2_add := goodIn_r _ [56, 57, 58, 122, 123, 124, 125, 126] (by decide +kernel) (by decide +kernel)
set_option maxRecDepth 20000 in
theorem gX6_term_X2_add : GoodIn wsX6_term (wsV RX6 167 RX2 yX2_add wsX2_add) := goodIn_app (goodIn_of _ (by decide +kernel)) ggX6_term_X2_add
theorem dX6_term_0 : decode cX6_term 0 = .ok (.aload_n 0, 1) := by decide +kernel
theorem dX6_term_1 : decode cX6_term 1 = .ok (.aload_n 1, 1) := by decide +kernel
theorem dX6_term_2 : decode cX6_term 2 = .ok (.iload_n 2, 1) := by decide +kernel
theorem dX6_term_3 : decode cX6_term 3 = .ok (.invokevirtual 186, 3) := by decide +kernel
theorem dX6_term_6 : decode cX6_term 6 = .ok (.iconst 0, 1) := by decide +kernel
theorem dX6_term_7 : decode cX6_term 7 = .ok (.istore_n 3, 1) := by decide +kernel
theorem dX6_term_8 : decode cX6_term 8 = .ok (.iload_n 3, 1) := by decide +kernel
theorem dX6_term_9 : decode cX6_term 9 = .ok (.sipush 1600, 3) := by decide +kernel
theorem dX6_term_12 : decode cX6_term 12 = .ok (.if_icmp .ge 85, 3) := by decide +kernel
theorem dX6_term_15 : decode cX6_term 15 = .ok (.aload_n 0, 1) := by decide +kernel
theorem dX6_term_16 : decode cX6_term 16 = .ok (.bipush 42, 2) := by decide +kernel
theorem dX6_term_18 : decode cX6_term 18 = .ok (.invokevirtual 180, 3) := by decide +kernel
theorem dX6_term_21 : decode cX6_term 21 = .ok (.ifCond .ne 21, 3) := by decide +kernel
theorem dX6_term_24 : decode cX6_term 24 = .ok (.aload_n 0, 1) := by decide +kernel
theorem dX6_term_25 : decode cX6_term 25 = .ok (.bipush 47, 2) := by decide +kernel
theorem dX6_term_27 : decode cX6_term 27 = .ok (.invokevirtual 180, 3) := by decide +kernel
theorem dX6_term_30 : decode cX6_term 30 = .ok (.ifCond .ne 12, 3) := by decide +kernel
theorem dX6_term_33 : decode cX6_term 33 = .ok (.aload_n 0, 1) := by decide +kernel
theorem dX6_term_34 : decode cX6_term 34 = .ok (.bipush 37, 2) := by decide +kernel
theorem dX6_term_36 : decode cX6_term 36 = .ok (.invokevirtual 180, 3) := by decide +kernel
theorem dX6_term_39 : decode cX6_term 39 = .ok (.ifCond .eq 58, 3) := by decide +kernel
theorem dX6_term_42 : decode cX6_term 42 = .ok (.aload_n 0, 1) := by decide +kernel
theorem dX6_term_43 : decode cX6_term 43 = .ok (.bipush 42, 2) := by decide +kernel
theorem dX6_term_45 : decode cX6_term 45 = .ok (.invokevirtual 180, 3) := by decide +kernel
theorem dX6_term_48 : decode cX6_term 48 = .ok (.ifCond .eq 8, 3) := by decide +kernel
theorem dX6_term_51 : decode cX6_term 51 = .ok (.bipush 15, 2) := by decide +kernel
theorem dX6_term_53 : decode cX6_term 53 = .ok (.goto 19, 3) := by decide +kernel
theorem dX6_term_56 : decode cX6_term 56 = .ok (.aload_n 0, 1) := by decide +kernel
theorem dX6_term_57 : decode cX6_term 57 = .ok (.bipush 47, 2) := by decide +kernel
theorem dX6_term_59 : decode cX6_term 59 = .ok (.invokevirtual 180, 3) := by decide +kernel
theorem dX6_term_62 : decode cX6_term 62 = .ok (.ifCond .eq 8, 3) := by decide +kernel
theorem dX6_term_65 : decode cX6_term 65 = .ok (.bipush 16, 2) := by decide +kernel
theorem dX6_term_67 : decode cX6_term 67 = .ok (.goto 5, 3) := by decide +kernel
theorem dX6_term_70 : decode cX6_term 70 = .ok (.bipush 17, 2) := by decide +kernel
theorem dX6_term_72 : decode cX6_term 72 = .ok (.istore 4, 2) := by decide +kernel
theorem dX6_term_74 : decode cX6_term 74 = .ok (.aload_n 0, 1) := by decide +kernel
theorem dX6_term_75 : decode cX6_term 75 = .ok (.invokevirtual 64, 3) := by decide +kernel
theorem dX6_term_78 : decode cX6_term 78 = .ok (.aload_n 0, 1) := by decide +kernel
theorem dX6_term_79 : decode cX6_term 79 = .ok (.aload_n 1, 1) := by decide +kernel
theorem dX6_term_80 : decode cX6_term 80 = .ok (.iload_n 2, 1) := by decide +kernel
theorem dX6_term_81 : decode cX6_term 81 = .ok (.invokevirtual 186, 3) := by decide +kernel
theorem dX6_term_84 : decode cX6_term 84 = .ok (.aload_n 1, 1) := by decide +kernel
theorem dX6_term_85 : decode cX6_term 85 = .ok (.iload 4, 2) := by decide +kernel
theorem dX6_term_87 : decode cX6_term 87 = .ok (.iconst 0, 1) := by decide +kernel
theorem dX6_term_88 : decode cX6_term 88 = .ok (.invokevirtual 167, 3) := by decide +kernel
theorem dX6_term_91 : decode cX6_term 91 = .ok (.iinc 3 1, 3) := by decide +kernel
theorem dX6_term_94 : decode cX6_term 94 = .ok (.goto (-86), 3) := by decide +kernel
theorem dX6_term_97 : decode cX6_term 97 = .ok (.return_, 1) := by decide +kernel
set_option maxRecDepth 20000 in
theorem ggX6_unit_X6_isSign : GoodIn wsX6_unit wsX6_isSign := goodIn_r _ [7, 1, 8, 9, 109, 110, 111, 112, 113, 114, 115, 116, 117, 118, 119, 120, 121] (by decide +kernel) (by decide +kernel)
set_option maxRecDepth 20000 in
theorem gX6_unit_X6_isSign : GoodIn wsX6_unit (wsV RX6 180 RX6 yX6_isSign wsX6_isSign) := goodIn_app (goodIn_of _ (by decide +kernel)) ggX6_unit_X6_isSign
set_option maxRecDepth 20000 in
theorem ggX6_unit_X6_plainUnit : GoodIn wsX6_unit wsX6_plainUnit := goodIn_r _ [13, 8, 14, 109, 110, 111, 112, 113, 114, 115, 116, 117, 118, 119, 120, 121] (by decide +kernel) (by decide +kernel)
set_option maxRecDepth 20000 in
theorem gX6_unit_X6_plainUnit : GoodIn wsX6_unit (wsV RX6 189 RX6 yX6_plainUnit wsX6_plainUnit) := goodIn_app (goodIn_of _ (by decide +kernel)) ggX6_unit_X6_plainUnit
set_option maxRecDepth 20000 in
theorem ggX6_unit_X2_countUnit : GoodIn wsX6_unit wsX2_countUnit := goodIn_r _ [19, 20, 122, 123, 124, 125, 126] (by decide +kernel) (by decide +kernel)
set_option maxRecDepth 20000 in
theorem gX6_unit_X2_countUnit : GoodIn wsX6_unit (wsV RX6 192 RX2 yX2_countUnit wsX2_countUnit) := goodIn_app (goodIn_of _ (by decide +kernel)) ggX6_unit_X2_countUnit
set_option maxRecDepth 20000 in
theorem ggX6_unit_X6_refuse : GoodIn wsX6_unit wsX6_refuse := goodIn_r _ [24, 8, 25, 26, 27, 6, 28, 1, 29, 30, 109, 110, 111, 112, 113, 114, 115, 116, 117, 118, 119, 120, 121] (by decide +kernel) (by decide +kernel)
set_option maxRecDepth 20000 in
theorem gX6_unit_X6_refuse : GoodIn wsX6_unit (wsV RX6 99 RX6 yX6_refuse wsX6_refuse) := goodIn_app (goodIn_of _ (by decide +kernel)) ggX6_unit_X6_refuse
set_option maxRecDepth 20000 in
theorem ggX6_unit_X2_add : GoodIn wsX6_unit wsX2_add := goodIn_r _ [34, 35, 36, 122, 123, 124, 125, 126] (by decide +kernel) (by decide +kernel)
set_option maxRecDepth 20000 in
theorem gX6_unit_X2_add : GoodIn wsX6_unit (wsV RX6 167 RX2 yX2_add wsX2_add) := goodIn_app (goodIn_of _ (by decide +kernel)) ggX6_unit_X2_add
set_option maxRecDepth 20000 in
theorem ggX6_unit_X6_advance : GoodIn wsX6_unit wsX6_advance := goodIn_r _ [40, 41, 42, 29, 8, 9, 43, 44, 45, 6, 46, 47, 48, 49, 50, 51, 52, 53, 54, 55, 56, 57, 58, 14, 59, 60, 61, 62, 63, 64, 65, 66, 67, 68, 69, 70, 2, 71, 72, 73, 109, 110, 111, 112, 113, 114, 115, 116, 117, 118, 119, 120, 121] (by decide +kernel) (by decide +kernel)
set_option maxRecDepth 20000 in
theorem gX6_unit_X6_advance : GoodIn wsX6_unit (wsV RX6 64 RX6 yX6_advance wsX6_advance) := goodIn_app (goodIn_of _ (by decide +kernel)) ggX6_unit_X6_advance
set_option maxRecDepth 20000 in
theorem ggX6_unit_X6_either : GoodIn wsX6_unit wsX6_either := goodIn_r _ [89, 90, 91, 92, 6, 85, 86, 87, 88, 1, 8, 14, 37, 38, 39, 40, 41, 42, 29, 9, 43, 44, 45, 46, 47, 48, 49, 50, 51, 52, 53, 54, 55, 56, 57, 58, 59, 60, 61, 62, 63, 64, 65, 66, 67, 68, 69, 70, 2, 71, 72, 73, 31, 32, 33, 18, 34, 35, 36, 81, 82, 83, 84, 93, 94, 95, 96, 21, 22, 23, 24, 25, 26, 27, 28, 30, 97, 98, 99, 100, 3, 4, 5, 7, 101, 102, 103, 104, 105, 106, 107, 108, 0, 10, 11, 12, 13, 15, 16, 17, 19, 20, 74, 75, 76, 77, 78, 79, 80, 109, 110, 111, 112, 113, 114, 115, 116, 117, 118, 119, 120, 121, 122, 123, 124, 125, 126] (by decide +kernel) (by decide +kernel)
set_option maxRecDepth 20000 in
theorem gX6_unit_X6_either : GoodIn wsX6_unit (wsV RX6 148 RX6 yX6_either wsX6_either) := goodIn_app (goodIn_of _ (by decide +kernel)) ggX6_unit_X6_either
set_option maxRecDepth 20000 in
theorem ggX6_unit_X6_expectSign : GoodIn wsX6_unit wsX6_expectSign := goodIn_r _ [80, 3, 4, 5, 6, 7, 1, 8, 9, 37, 38, 39, 40, 41, 42, 29, 43, 44, 45, 46, 47, 48, 49, 50, 51, 52, 53, 54, 55, 56, 57, 58, 14, 59, 60, 61, 62, 63, 64, 65, 66, 67, 68, 69, 70, 2, 71, 72, 73, 21, 22, 23, 24, 25, 26, 27, 28, 30, 109, 110, 111, 112, 113, 114, 115, 116, 117, 118, 119, 120, 121] (by decide +kernel) (by decide +kernel)
set_option maxRecDepth 20000 in
theorem gX6_unit_X6_expectSign : GoodIn wsX6_unit (wsV RX6 119 RX6 yX6_expectSign wsX6_expectSign) := goodIn_app (goodIn_of _ (by decide +kernel)) ggX6_unit_X6_expectSign
theorem dX6_unit_0 : decode cX6_unit 0 = .ok (.aload_n 0, 1) := by decide +kernel
theorem dX6_unit_1 : decode cX6_unit 1 = .ok (.bipush 40, 2) := by decide +kernel
theorem dX6_unit_3 : decode cX6_unit 3 = .ok (.invokevirtual 180, 3) := by decide +kernel
theorem dX6_unit_6 : decode cX6_unit 6 = .ok (.istore_n 3, 1) := by decide +kernel
theorem dX6_unit_7 : decode cX6_unit 7 = .ok (.aload_n 0, 1) := by decide +kernel
theorem dX6_unit_8 : decode cX6_unit 8 = .ok (.invokevirtual 189, 3) := by decide +kernel
theorem dX6_unit_11 : decode cX6_unit 11 = .ok (.istore 4, 2) := by decide +kernel
theorem dX6_unit_13 : decode cX6_unit 13 = .ok (.iload_n 3, 1) := by decide +kernel
theorem dX6_unit_14 : decode cX6_unit 14 = .ok (.ifCond .eq 17, 3) := by decide +kernel
theorem dX6_unit_17 : decode cX6_unit 17 = .ok (.iload_n 2, 1) := by decide +kernel
theorem dX6_unit_18 : decode cX6_unit 18 = .ok (.bipush 6, 2) := by decide +kernel
theorem dX6_unit_20 : decode cX6_unit 20 = .ok (.if_icmp .gt 7, 3) := by decide +kernel
theorem dX6_unit_23 : decode cX6_unit 23 = .ok (.iconst 1, 1) := by decide +kernel
theorem dX6_unit_24 : decode cX6_unit 24 = .ok (.goto 18, 3) := by decide +kernel
theorem dX6_unit_27 : decode cX6_unit 27 = .ok (.iconst 0, 1) := by decide +kernel
theorem dX6_unit_28 : decode cX6_unit 28 = .ok (.goto 14, 3) := by decide +kernel
theorem dX6_unit_31 : decode cX6_unit 31 = .ok (.iload 4, 2) := by decide +kernel
theorem dX6_unit_33 : decode cX6_unit 33 = .ok (.iconst (-1), 1) := by decide +kernel
theorem dX6_unit_34 : decode cX6_unit 34 = .ok (.if_icmp .eq 7, 3) := by decide +kernel
theorem dX6_unit_37 : decode cX6_unit 37 = .ok (.iconst 1, 1) := by decide +kernel
theorem dX6_unit_38 : decode cX6_unit 38 = .ok (.goto 4, 3) := by decide +kernel
theorem dX6_unit_41 : decode cX6_unit 41 = .ok (.iconst 0, 1) := by decide +kernel
theorem dX6_unit_42 : decode cX6_unit 42 = .ok (.istore 5, 2) := by decide +kernel
theorem dX6_unit_44 : decode cX6_unit 44 = .ok (.aload_n 0, 1) := by decide +kernel
theorem dX6_unit_45 : decode cX6_unit 45 = .ok (.getfield 56, 3) := by decide +kernel
theorem dX6_unit_48 : decode cX6_unit 48 = .ok (.ifCond .ne 15, 3) := by decide +kernel
theorem dX6_unit_51 : decode cX6_unit 51 = .ok (.iload 5, 2) := by decide +kernel
theorem dX6_unit_53 : decode cX6_unit 53 = .ok (.ifCond .eq 10, 3) := by decide +kernel
theorem dX6_unit_56 : decode cX6_unit 56 = .ok (.aload_n 1, 1) := by decide +kernel
theorem dX6_unit_57 : decode cX6_unit 57 = .ok (.invokevirtual 192, 3) := by decide +kernel
theorem dX6_unit_60 : decode cX6_unit 60 = .ok (.ifCond .ne 8, 3) := by decide +kernel
theorem dX6_unit_63 : decode cX6_unit 63 = .ok (.aload_n 0, 1) := by decide +kernel
theorem dX6_unit_64 : decode cX6_unit 64 = .ok (.invokevirtual 99, 3) := by decide +kernel
theorem dX6_unit_67 : decode cX6_unit 67 = .ok (.return_, 1) := by decide +kernel
theorem dX6_unit_68 : decode cX6_unit 68 = .ok (.iload_n 3, 1) := by decide +kernel
theorem dX6_unit_69 : decode cX6_unit 69 = .ok (.ifCond .ne 22, 3) := by decide +kernel
theorem dX6_unit_72 : decode cX6_unit 72 = .ok (.aload_n 1, 1) := by decide +kernel
theorem dX6_unit_73 : decode cX6_unit 73 = .ok (.iload 4, 2) := by decide +kernel
theorem dX6_unit_75 : decode cX6_unit 75 = .ok (.iload 4, 2) := by decide +kernel
theorem dX6_unit_77 : decode cX6_unit 77 = .ok (.ifCond .ne 10, 3) := by decide +kernel
theorem dX6_unit_80 : decode cX6_unit 80 = .ok (.aload_n 0, 1) := by decide +kernel
theorem dX6_unit_81 : decode cX6_unit 81 = .ok (.getfield 196, 3) := by decide +kernel
theorem dX6_unit_84 : decode cX6_unit 84 = .ok (.goto 4, 3) := by decide +kernel
theorem dX6_unit_87 : decode cX6_unit 87 = .ok (.iconst 0, 1) := by decide +kernel
theorem dX6_unit_88 : decode cX6_unit 88 = .ok (.invokevirtual 167, 3) := by decide +kernel
theorem dX6_unit_91 : decode cX6_unit 91 = .ok (.aload_n 0, 1) := by decide +kernel
theorem dX6_unit_92 : decode cX6_unit 92 = .ok (.invokevirtual 64, 3) := by decide +kernel
theorem dX6_unit_95 : decode cX6_unit 95 = .ok (.iload_n 3, 1) := by decide +kernel
theorem dX6_unit_96 : decode cX6_unit 96 = .ok (.ifCond .eq 17, 3) := by decide +kernel
theorem dX6_unit_99 : decode cX6_unit 99 = .ok (.aload_n 0, 1) := by decide +kernel
theorem dX6_unit_100 : decode cX6_unit 100 = .ok (.aload_n 1, 1) := by decide +kernel
theorem dX6_unit_101 : decode cX6_unit 101 = .ok (.iload_n 2, 1) := by decide +kernel
theorem dX6_unit_102 : decode cX6_unit 102 = .ok (.iconst 1, 1) := by decide +kernel
theorem dX6_unit_103 : decode cX6_unit 103 = .ok (.iadd, 1) := by decide +kernel
theorem dX6_unit_104 : decode cX6_unit 104 = .ok (.invokevirtual 148, 3) := by decide +kernel
theorem dX6_unit_107 : decode cX6_unit 107 = .ok (.aload_n 0, 1) := by decide +kernel
theorem dX6_unit_108 : decode cX6_unit 108 = .ok (.bipush 41, 2) := by decide +kernel
theorem dX6_unit_110 : decode cX6_unit 110 = .ok (.invokevirtual 119, 3) := by decide +kernel
theorem dX6_unit_113 : decode cX6_unit 113 = .ok (.return_, 1) := by decide +kernel
theorem dX6_plainUnit_0 : decode cX6_plainUnit 0 = .ok (.aload_n 0, 1) := by decide +kernel
theorem dX6_plainUnit_1 : decode cX6_plainUnit 1 = .ok (.getfield 67, 3) := by decide +kernel
theorem dX6_plainUnit_4 : decode cX6_plainUnit 4 = .ok (.iconst 2, 1) := by decide +kernel
theorem dX6_plainUnit_5 : decode cX6_plainUnit 5 = .ok (.if_icmp .ne 5, 3) := by decide +kernel
theorem dX6_plainUnit_8 : decode cX6_plainUnit 8 = .ok (.iconst 0, 1) := by decide +kernel
theorem dX6_plainUnit_9 : decode cX6_plainUnit 9 = .ok (.ireturn, 1) := by decide +kernel
theorem dX6_plainUnit_10 : decode cX6_plainUnit 10 = .ok (.aload_n 0, 1) := by decide +kernel
theorem dX6_plainUnit_11 : decode cX6_plainUnit 11 = .ok (.getfield 67, 3) := by decide +kernel
theorem dX6_plainUnit_14 : decode cX6_plainUnit 14 = .ok (.iconst 1, 1) := by decide +kernel
theorem dX6_plainUnit_15 : decode cX6_plainUnit 15 = .ok (.if_icmp .ne 10, 3) := by decide +kernel
theorem dX6_plainUnit_18 : decode cX6_plainUnit 18 = .ok (.aload_n 0, 1) := by decide +kernel
theorem dX6_plainUnit_19 : decode cX6_plainUnit 19 = .ok (.getfield 73, 3) := by decide +kernel
theorem dX6_plainUnit_22 : decode cX6_plainUnit 22 = .ok (.goto 4, 3) := by decide +kernel
theorem dX6_plainUnit_25 : decode cX6_plainUnit 25 = .ok (.iconst (-1), 1) := by decide +kernel
theorem dX6_plainUnit_26 : decode cX6_plainUnit 26 = .ok (.tableswitch 83 5 18 #[74, 83, 83, 83, 83, 83, 83, 83, 83, 70, 72, 76, 78, 80], 70) := by decide +kernel
theorem dX6_plainUnit_96 : decode cX6_plainUnit 96 = .ok (.iconst 1, 1) := by decide +kernel
theorem dX6_plainUnit_97 : decode cX6_plainUnit 97 = .ok (.ireturn, 1) := by decide +kernel
theorem dX6_plainUnit_98 : decode cX6_plainUnit 98 = .ok (.iconst 2, 1) := by decide +kernel
theorem dX6_plainUnit_99 : decode cX6_plainUnit 99 = .ok (.ireturn, 1) := by decide +kernel
theorem dX6_plainUnit_100 : decode cX6_plainUnit 100 = .ok (.iconst 3, 1) := by decide +kernel
theorem dX6_plainUnit_101 : decode cX6_plainUnit 101 = .ok (.ireturn, 1) := by decide +kernel
theorem dX6_plainUnit_102 : decode cX6_plainUnit 102 = .ok (.iconst 4, 1) := by decide +kernel
theorem dX6_plainUnit_103 : decode cX6_plainUnit 103 = .ok (.ireturn, 1) := by decide +kernel
theorem dX6_plainUnit_104 : decode cX6_plainUnit 104 = .ok (.iconst 5, 1) := by decide +kernel
theorem dX6_plainUnit_105 : decode cX6_plainUnit 105 = .ok (.ireturn, 1) := by decide +kernel
theorem dX6_plainUnit_106 : decode cX6_plainUnit 106 = .ok (.bipush 6, 2) := by decide +kernel
theorem dX6_plainUnit_108 : decode cX6_plainUnit 108 = .ok (.ireturn, 1) := by decide +kernel
theorem dX6_plainUnit_109 : decode cX6_plainUnit 109 = .ok (.iconst (-1), 1) := by decide +kernel
theorem dX6_plainUnit_110 : decode cX6_plainUnit 110 = .ok (.ireturn, 1) := by decide +kernel
set_option maxRecDepth 20000 in
theorem ggX6_newName_X6_refuse : GoodIn wsX6_newName wsX6_refuse := goodIn_r _ [9, 2, 10, 11, 12, 8, 13, 1, 14, 15, 54, 55, 56, 57, 58, 59, 60, 61, 62, 63, 64, 65, 66] (by decide +kernel) (by decide +kernel)
set_option maxRecDepth 20000 in
theorem gX6_newName_X6_refuse : GoodIn wsX6_newName (wsV RX6 99 RX6 yX6_refuse wsX6_refuse) := goodIn_app (goodIn_of _ (by decide +kernel)) ggX6_newName_X6_refuse
set_option maxRecDepth 20000 in
theorem ggX6_newName_X6_keepFault : GoodIn wsX6_newName wsX6_keepFault := goodIn_r _ [13, 1, 14, 15, 54, 55, 56, 57, 58, 59, 60, 61, 62, 63, 64, 65, 66] (by decide +kernel) (by decide +kernel)
set_option maxRecDepth 20000 in
theorem gX6_newName_X6_keepFault : GoodIn wsX6_newName (wsV RX6 203 RX6 yX6_keepFault wsX6_keepFault) := goodIn_app (goodIn_of _ (by decide +kernel)) ggX6_newName_X6_keepFault
set_option maxRecDepth 20000 in
theorem ggX6_newName_X6_advance : GoodIn wsX6_newName wsX6_advance := goodIn_r _ [19, 20, 21, 14, 2, 22, 23, 24, 25, 8, 26, 27, 28, 29, 30, 31, 32, 33, 34, 35, 36, 37, 4, 3, 38, 39, 40, 41, 42, 43, 44, 45, 46, 47, 48, 49, 50, 51, 52, 53, 54, 55, 56, 57, 58, 59, 60, 61, 62, 63, 64, 65, 66] (by decide +kernel) (by decide +kernel)
set_option maxRecDepth 20000 in
theorem gX6_newName_X6_advance : GoodIn wsX6_newName (wsV RX6 64 RX6 yX6_advance wsX6_advance) := goodIn_app (goodIn_of _ (by decide +kernel)) ggX6_newName_X6_advance
theorem dX6_newName_0 : decode cX6_newName 0 = .ok (.aload_n 0, 1) := by decide +kernel
theorem dX6_newName_1 : decode cX6_newName 1 = .ok (.getfield 56, 3) := by decide +kernel
theorem dX6_newName_4 : decode cX6_newName 4 = .ok (.ifCond .ne 25, 3) := by decide +kernel
theorem dX6_newName_7 : decode cX6_newName 7 = .ok (.aload_n 0, 1) := by decide +kernel
theorem dX6_newName_8 : decode cX6_newName 8 = .ok (.getfield 67, 3) := by decide +kernel
theorem dX6_newName_11 : decode cX6_newName 11 = .ok (.iconst 1, 1) := by decide +kernel
theorem dX6_newName_12 : decode cX6_newName 12 = .ok (.if_icmp .ne 17, 3) := by decide +kernel
theorem dX6_newName_15 : decode cX6_newName 15 = .ok (.aload_n 0, 1) := by decide +kernel
theorem dX6_newName_16 : decode cX6_newName 16 = .ok (.getfield 73, 3) := by decide +kernel
theorem dX6_newName_19 : decode cX6_newName 19 = .ok (.iconst (-1), 1) := by decide +kernel
theorem dX6_newName_20 : decode cX6_newName 20 = .ok (.if_icmp .ne 9, 3) := by decide +kernel
theorem dX6_newName_23 : decode cX6_newName 23 = .ok (.iload_n 2, 1) := by decide +kernel
theorem dX6_newName_24 : decode cX6_newName 24 = .ok (.aload_n 1, 1) := by decide +kernel
theorem dX6_newName_25 : decode cX6_newName 25 = .ok (.arraylength, 1) := by decide +kernel
theorem dX6_newName_26 : decode cX6_newName 26 = .ok (.if_icmp .lt 8, 3) := by decide +kernel
theorem dX6_newName_29 : decode cX6_newName 29 = .ok (.aload_n 0, 1) := by decide +kernel
theorem dX6_newName_30 : decode cX6_newName 30 = .ok (.invokevirtual 99, 3) := by decide +kernel
theorem dX6_newName_33 : decode cX6_newName 33 = .ok (.return_, 1) := by decide +kernel
theorem dX6_newName_34 : decode cX6_newName 34 = .ok (.iconst 0, 1) := by decide +kernel
theorem dX6_newName_35 : decode cX6_newName 35 = .ok (.istore_n 3, 1) := by decide +kernel
theorem dX6_newName_36 : decode cX6_newName 36 = .ok (.iload_n 3, 1) := by decide +kernel
theorem dX6_newName_37 : decode cX6_newName 37 = .ok (.iload_n 2, 1) := by decide +kernel
theorem dX6_newName_38 : decode cX6_newName 38 = .ok (.if_icmp .ge 26, 3) := by decide +kernel
theorem dX6_newName_41 : decode cX6_newName 41 = .ok (.aload_n 1, 1) := by decide +kernel
theorem dX6_newName_42 : decode cX6_newName 42 = .ok (.iload_n 3, 1) := by decide +kernel
theorem dX6_newName_43 : decode cX6_newName 43 = .ok (.laload, 1) := by decide +kernel
theorem dX6_newName_44 : decode cX6_newName 44 = .ok (.aload_n 0, 1) := by decide +kernel
theorem dX6_newName_45 : decode cX6_newName 45 = .ok (.getfield 199, 3) := by decide +kernel
theorem dX6_newName_48 : decode cX6_newName 48 = .ok (.lcmp, 1) := by decide +kernel
theorem dX6_newName_49 : decode cX6_newName 49 = .ok (.ifCond .ne 9, 3) := by decide +kernel
theorem dX6_newName_52 : decode cX6_newName 52 = .ok (.aload_n 0, 1) := by decide +kernel
theorem dX6_newName_53 : decode cX6_newName 53 = .ok (.iconst 3, 1) := by decide +kernel
theorem dX6_newName_54 : decode cX6_newName 54 = .ok (.invokevirtual 203, 3) := by decide +kernel
theorem dX6_newName_57 : decode cX6_newName 57 = .ok (.return_, 1) := by decide +kernel
theorem dX6_newName_58 : decode cX6_newName 58 = .ok (.iinc 3 1, 3) := by decide +kernel
theorem dX6_newName_61 : decode cX6_newName 61 = .ok (.goto (-25), 3) := by decide +kernel
theorem dX6_newName_64 : decode cX6_newName 64 = .ok (.aload_n 1, 1) := by decide +kernel
theorem dX6_newName_65 : decode cX6_newName 65 = .ok (.iload_n 2, 1) := by decide +kernel
theorem dX6_newName_66 : decode cX6_newName 66 = .ok (.aload_n 0, 1) := by decide +kernel
theorem dX6_newName_67 : decode cX6_newName 67 = .ok (.getfield 199, 3) := by decide +kernel
theorem dX6_newName_70 : decode cX6_newName 70 = .ok (.lastore, 1) := by decide +kernel
theorem dX6_newName_71 : decode cX6_newName 71 = .ok (.aload_n 0, 1) := by decide +kernel
theorem dX6_newName_72 : decode cX6_newName 72 = .ok (.invokevirtual 64, 3) := by decide +kernel
theorem dX6_newName_75 : decode cX6_newName 75 = .ok (.return_, 1) := by decide +kernel
set_option maxRecDepth 20000 in
theorem ggX6_numberWithin_X6_refuse : GoodIn wsX6_numberWithin wsX6_refuse := goodIn_r _ [8, 2, 9, 10, 11, 7, 12, 1, 13, 14, 54, 55, 56, 57, 58, 59, 60, 61, 62, 63, 64, 65, 66] (by decide +kernel) (by decide +kernel)
set_option maxRecDepth 20000 in
theorem gX6_numberWithin_X6_refuse : GoodIn wsX6_numberWithin (wsV RX6 99 RX6 yX6_refuse wsX6_refuse) := goodIn_app (goodIn_of _ (by decide +kernel)) ggX6_numberWithin_X6_refuse
set_option maxRecDepth 20000 in
theorem ggX6_numberWithin_X6_keepFault : GoodIn wsX6_numberWithin wsX6_keepFault := goodIn_r _ [12, 1, 13, 14, 54, 55, 56, 57, 58, 59, 60, 61, 62, 63, 64, 65, 66] (by decide +kernel) (by decide +kernel)
set_option maxRecDepth 20000 in
theorem gX6_numberWithin_X6_keepFault : GoodIn wsX6_numberWithin (wsV RX6 203 RX6 yX6_keepFault wsX6_keepFault) := goodIn_app (goodIn_of _ (by decide +kernel)) ggX6_numberWithin_X6_keepFault
set_option maxRecDepth 20000 in
theorem ggX6_numberWithin_X6_advance : GoodIn wsX6_numberWithin wsX6_advance := goodIn_r _ [18, 19, 20, 13, 2, 21, 22, 23, 24, 7, 25, 26, 27, 28, 29, 30, 31, 32, 33, 34, 35, 36, 37, 38, 39, 40, 41, 42, 43, 44, 45, 46, 47, 48, 49, 50, 3, 51, 52, 53, 54, 55, 56, 57, 58, 59, 60, 61, 62, 63, 64, 65, 66] (by decide +kernel) (by decide +kernel)
set_option maxRecDepth 20000 in
theorem gX6_numberWithin_X6_advance : GoodIn wsX6_numberWithin (wsV RX6 64 RX6 yX6_advance wsX6_advance) := goodIn_app (goodIn_of _ (by decide +kernel)) ggX6_numberWithin_X6_advance
theorem dX6_numberWithin_0 : decode cX6_numberWithin 0 = .ok (.aload_n 0, 1) := by decide +kernel
theorem dX6_numberWithin_1 : decode cX6_numberWithin 1 = .ok (.getfield 56, 3) := by decide +kernel
theorem dX6_numberWithin_4 : decode cX6_numberWithin 4 = .ok (.ifCond .ne 11, 3) := by decide +kernel
theorem dX6_numberWithin_7 : decode cX6_numberWithin 7 = .ok (.aload_n 0, 1) := by decide +kernel
theorem dX6_numberWithin_8 : decode cX6_numberWithin 8 = .ok (.getfield 67, 3) := by decide +kernel
theorem dX6_numberWithin_11 : decode cX6_numberWithin 11 = .ok (.iconst 2, 1) := by decide +kernel
theorem dX6_numberWithin_12 : decode cX6_numberWithin 12 = .ok (.if_icmp .eq 9, 3) := by decide +kernel
theorem dX6_numberWithin_15 : decode cX6_numberWithin 15 = .ok (.aload_n 0, 1) := by decide +kernel
theorem dX6_numberWithin_16 : decode cX6_numberWithin 16 = .ok (.invokevirtual 99, 3) := by decide +kernel
theorem dX6_numberWithin_19 : decode cX6_numberWithin 19 = .ok (.iload_n 1, 1) := by decide +kernel
theorem dX6_numberWithin_20 : decode cX6_numberWithin 20 = .ok (.ireturn, 1) := by decide +kernel
theorem dX6_numberWithin_21 : decode cX6_numberWithin 21 = .ok (.aload_n 0, 1) := by decide +kernel
theorem dX6_numberWithin_22 : decode cX6_numberWithin 22 = .ok (.getfield 196, 3) := by decide +kernel
theorem dX6_numberWithin_25 : decode cX6_numberWithin 25 = .ok (.iload_n 1, 1) := by decide +kernel
theorem dX6_numberWithin_26 : decode cX6_numberWithin 26 = .ok (.if_icmp .lt 11, 3) := by decide +kernel
theorem dX6_numberWithin_29 : decode cX6_numberWithin 29 = .ok (.aload_n 0, 1) := by decide +kernel
theorem dX6_numberWithin_30 : decode cX6_numberWithin 30 = .ok (.getfield 196, 3) := by decide +kernel
theorem dX6_numberWithin_33 : decode cX6_numberWithin 33 = .ok (.iload_n 2, 1) := by decide +kernel
theorem dX6_numberWithin_34 : decode cX6_numberWithin 34 = .ok (.if_icmp .le 10, 3) := by decide +kernel
theorem dX6_numberWithin_37 : decode cX6_numberWithin 37 = .ok (.aload_n 0, 1) := by decide +kernel
theorem dX6_numberWithin_38 : decode cX6_numberWithin 38 = .ok (.iconst 4, 1) := by decide +kernel
theorem dX6_numberWithin_39 : decode cX6_numberWithin 39 = .ok (.invokevirtual 203, 3) := by decide +kernel
theorem dX6_numberWithin_42 : decode cX6_numberWithin 42 = .ok (.iload_n 1, 1) := by decide +kernel
theorem dX6_numberWithin_43 : decode cX6_numberWithin 43 = .ok (.ireturn, 1) := by decide +kernel
theorem dX6_numberWithin_44 : decode cX6_numberWithin 44 = .ok (.aload_n 0, 1) := by decide +kernel
theorem dX6_numberWithin_45 : decode cX6_numberWithin 45 = .ok (.getfield 196, 3) := by decide +kernel
theorem dX6_numberWithin_48 : decode cX6_numberWithin 48 = .ok (.istore_n 3, 1) := by decide +kernel
theorem dX6_numberWithin_49 : decode cX6_numberWithin 49 = .ok (.aload_n 0, 1) := by decide +kernel
theorem dX6_numberWithin_50 : decode cX6_numberWithin 50 = .ok (.invokevirtual 64, 3) := by decide +kernel
theorem dX6_numberWithin_53 : decode cX6_numberWithin 53 = .ok (.iload_n 3, 1) := by decide +kernel
theorem dX6_numberWithin_54 : decode cX6_numberWithin 54 = .ok (.ireturn, 1) := by decide +kernel
set_option maxRecDepth 20000 in
theorem ggX6_expectKeyword_X6_isKeyword : GoodIn wsX6_expectKeyword wsX6_isKeyword := goodIn_r _ [5, 6, 7, 8, 58, 59, 60, 61, 62, 63, 64, 65, 66, 67, 68, 69, 70] (by decide +kernel) (by decide +kernel)
set_option maxRecDepth 20000 in
theorem gX6_expectKeyword_X6_isKeyword : GoodIn wsX6_expectKeyword (wsV RX6 132 RX6 yX6_isKeyword wsX6_isKeyword) := goodIn_app (goodIn_of _ (by decide +kernel)) ggX6_expectKeyword_X6_isKeyword
set_option maxRecDepth 20000 in
theorem ggX6_expectKeyword_X6_advance : GoodIn wsX6_expectKeyword wsX6_advance := goodIn_r _ [12, 13, 14, 15, 7, 16, 17, 18, 19, 4, 20, 21, 22, 23, 24, 25, 26, 27, 28, 29, 30, 31, 32, 8, 33, 34, 35, 36, 37, 38, 39, 40, 41, 42, 43, 44, 45, 46, 47, 48, 58, 59, 60, 61, 62, 63, 64, 65, 66, 67, 68, 69, 70] (by decide +kernel) (by decide +kernel)
set_option maxRecDepth 20000 in
theorem gX6_expectKeyword_X6_advance : GoodIn wsX6_expectKeyword (wsV RX6 64 RX6 yX6_advance wsX6_advance) := goodIn_app (goodIn_of _ (by decide +kernel)) ggX6_expectKeyword_X6_advance
set_option maxRecDepth 20000 in
theorem ggX6_expectKeyword_X6_refuse : GoodIn wsX6_expectKeyword wsX6_refuse := goodIn_r _ [52, 7, 53, 54, 55, 4, 56, 6, 15, 57, 58, 59, 60, 61, 62, 63, 64, 65, 66, 67, 68, 69, 70] (by decide +kernel) (by decide +kernel)
set_option maxRecDepth 20000 in
theorem gX6_expectKeyword_X6_refuse : GoodIn wsX6_expectKeyword (wsV RX6 99 RX6 yX6_refuse wsX6_refuse) := goodIn_app (goodIn_of _ (by decide +kernel)) ggX6_expectKeyword_X6_refuse
theorem dX6_expectKeyword_0 : decode cX6_expectKeyword 0 = .ok (.aload_n 0, 1) := by decide +kernel
theorem dX6_expectKeyword_1 : decode cX6_expectKeyword 1 = .ok (.iload_n 1, 1) := by decide +kernel
theorem dX6_expectKeyword_2 : decode cX6_expectKeyword 2 = .ok (.invokevirtual 132, 3) := by decide +kernel
theorem dX6_expectKeyword_5 : decode cX6_expectKeyword 5 = .ok (.ifCond .eq 10, 3) := by decide +kernel
theorem dX6_expectKeyword_8 : decode cX6_expectKeyword 8 = .ok (.aload_n 0, 1) := by decide +kernel
theorem dX6_expectKeyword_9 : decode cX6_expectKeyword 9 = .ok (.invokevirtual 64, 3) := by decide +kernel
theorem dX6_expectKeyword_12 : decode cX6_expectKeyword 12 = .ok (.goto 7, 3) := by decide +kernel
theorem dX6_expectKeyword_15 : decode cX6_expectKeyword 15 = .ok (.aload_n 0, 1) := by decide +kernel
theorem dX6_expectKeyword_16 : decode cX6_expectKeyword 16 = .ok (.invokevirtual 99, 3) := by decide +kernel
theorem dX6_expectKeyword_19 : decode cX6_expectKeyword 19 = .ok (.return_, 1) := by decide +kernel
set_option maxRecDepth 20000 in
theorem ggX6_expectSign_X6_isSign : GoodIn wsX6_expectSign wsX6_isSign := goodIn_r _ [5, 6, 7, 8, 58, 59, 60, 61, 62, 63, 64, 65, 66, 67, 68, 69, 70] (by decide +kernel) (by decide +kernel)
set_option maxRecDepth 20000 in
theorem gX6_expectSign_X6_isSign : GoodIn wsX6_expectSign (wsV RX6 180 RX6 yX6_isSign wsX6_isSign) := goodIn_app (goodIn_of _ (by decide +kernel)) ggX6_expectSign_X6_isSign
set_option maxRecDepth 20000 in
theorem ggX6_expectSign_X6_advance : GoodIn wsX6_expectSign wsX6_advance := goodIn_r _ [12, 13, 14, 15, 7, 8, 16, 17, 18, 4, 19, 20, 21, 22, 23, 24, 25, 26, 27, 28, 29, 30, 31, 32, 33, 34, 35, 36, 37, 38, 39, 40, 41, 42, 43, 44, 45, 46, 47, 48, 58, 59, 60, 61, 62, 63, 64, 65, 66, 67, 68, 69, 70] (by decide +kernel) (by decide +kernel)
set_option maxRecDepth 20000 in
theorem gX6_expectSign_X6_advance : GoodIn wsX6_expectSign (wsV RX6 64 RX6 yX6_advance wsX6_advance) := goodIn_app (goodIn_of _ (by decide +kernel)) ggX6_expectSign_X6_advance
set_option maxRecDepth 20000 in
theorem ggX6_expectSign_X6_refuse : GoodIn wsX6_expectSign wsX6_refuse := goodIn_r _ [52, 7, 53, 54, 55, 4, 56, 6, 15, 57, 58, 59, 60, 61, 62, 63, 64, 65, 66, 67, 68, 69, 70] (by decide +kernel) (by decide +kernel)
set_option maxRecDepth 20000 in
theorem gX6_expectSign_X6_refuse : GoodIn wsX6_expectSign (wsV RX6 99 RX6 yX6_refuse wsX6_refuse) := goodIn_app (goodIn_of _ (by decide +kernel)) ggX6_expectSign_X6_refuse
theorem dX6_expectSign_0 : decode cX6_expectSign 0 = .ok (.aload_n 0, 1) := by decide +kernel
theorem dX6_expectSign_1 : decode cX6_expectSign 1 = .ok (.iload_n 1, 1) := by decide +kernel
theorem dX6_expectSign_2 : decode cX6_expectSign 2 = .ok (.invokevirtual 180, 3) := by decide +kernel
theorem dX6_expectSign_5 : decode cX6_expectSign 5 = .ok (.ifCond .eq 10, 3) := by decide +kernel
theorem dX6_expectSign_8 : decode cX6_expectSign 8 = .ok (.aload_n 0, 1) := by decide +kernel
theorem dX6_expectSign_9 : decode cX6_expectSign 9 = .ok (.invokevirtual 64, 3) := by decide +kernel
theorem dX6_expectSign_12 : decode cX6_expectSign 12 = .ok (.goto 7, 3) := by decide +kernel
theorem dX6_expectSign_15 : decode cX6_expectSign 15 = .ok (.aload_n 0, 1) := by decide +kernel
theorem dX6_expectSign_16 : decode cX6_expectSign 16 = .ok (.invokevirtual 99, 3) := by decide +kernel
theorem dX6_expectSign_19 : decode cX6_expectSign 19 = .ok (.return_, 1) := by decide +kernel
theorem dX6_isKeyword_0 : decode cX6_isKeyword 0 = .ok (.aload_n 0, 1) := by decide +kernel
theorem dX6_isKeyword_1 : decode cX6_isKeyword 1 = .ok (.getfield 56, 3) := by decide +kernel
theorem dX6_isKeyword_4 : decode cX6_isKeyword 4 = .ok (.ifCond .ne 23, 3) := by decide +kernel
theorem dX6_isKeyword_7 : decode cX6_isKeyword 7 = .ok (.aload_n 0, 1) := by decide +kernel
theorem dX6_isKeyword_8 : decode cX6_isKeyword 8 = .ok (.getfield 67, 3) := by decide +kernel
theorem dX6_isKeyword_11 : decode cX6_isKeyword 11 = .ok (.iconst 1, 1) := by decide +kernel
theorem dX6_isKeyword_12 : decode cX6_isKeyword 12 = .ok (.if_icmp .ne 15, 3) := by decide +kernel
theorem dX6_isKeyword_15 : decode cX6_isKeyword 15 = .ok (.aload_n 0, 1) := by decide +kernel
theorem dX6_isKeyword_16 : decode cX6_isKeyword 16 = .ok (.getfield 73, 3) := by decide +kernel
theorem dX6_isKeyword_19 : decode cX6_isKeyword 19 = .ok (.iload_n 1, 1) := by decide +kernel
theorem dX6_isKeyword_20 : decode cX6_isKeyword 20 = .ok (.if_icmp .ne 7, 3) := by decide +kernel
theorem dX6_isKeyword_23 : decode cX6_isKeyword 23 = .ok (.iconst 1, 1) := by decide +kernel
theorem dX6_isKeyword_24 : decode cX6_isKeyword 24 = .ok (.goto 4, 3) := by decide +kernel
theorem dX6_isKeyword_27 : decode cX6_isKeyword 27 = .ok (.iconst 0, 1) := by decide +kernel
theorem dX6_isKeyword_28 : decode cX6_isKeyword 28 = .ok (.ireturn, 1) := by decide +kernel
theorem dX6_isSign_0 : decode cX6_isSign 0 = .ok (.aload_n 0, 1) := by decide +kernel
theorem dX6_isSign_1 : decode cX6_isSign 1 = .ok (.getfield 56, 3) := by decide +kernel
theorem dX6_isSign_4 : decode cX6_isSign 4 = .ok (.ifCond .ne 23, 3) := by decide +kernel
theorem dX6_isSign_7 : decode cX6_isSign 7 = .ok (.aload_n 0, 1) := by decide +kernel
theorem dX6_isSign_8 : decode cX6_isSign 8 = .ok (.getfield 67, 3) := by decide +kernel
theorem dX6_isSign_11 : decode cX6_isSign 11 = .ok (.iconst 3, 1) := by decide +kernel
theorem dX6_isSign_12 : decode cX6_isSign 12 = .ok (.if_icmp .ne 15, 3) := by decide +kernel
theorem dX6_isSign_15 : decode cX6_isSign 15 = .ok (.aload_n 0, 1) := by decide +kernel
theorem dX6_isSign_16 : decode cX6_isSign 16 = .ok (.getfield 206, 3) := by decide +kernel
theorem dX6_isSign_19 : decode cX6_isSign 19 = .ok (.iload_n 1, 1) := by decide +kernel
theorem dX6_isSign_20 : decode cX6_isSign 20 = .ok (.if_icmp .ne 7, 3) := by decide +kernel
theorem dX6_isSign_23 : decode cX6_isSign 23 = .ok (.iconst 1, 1) := by decide +kernel
theorem dX6_isSign_24 : decode cX6_isSign 24 = .ok (.goto 4, 3) := by decide +kernel
theorem dX6_isSign_27 : decode cX6_isSign 27 = .ok (.iconst 0, 1) := by decide +kernel
theorem dX6_isSign_28 : decode cX6_isSign 28 = .ok (.ireturn, 1) := by decide +kernel
set_option maxRecDepth 20000 in
theorem ggX6_refuse_X6_keepFault : GoodIn wsX6_refuse wsX6_keepFault := goodIn_r _ [6, 7, 8, 9, 10, 11, 12, 13, 14, 15, 16, 17, 18, 19, 20, 21, 22] (by decide +kernel) (by decide +kernel)
set_option maxRecDepth 20000 in
theorem gX6_refuse_X6_keepFault : GoodIn wsX6_refuse (wsV RX6 203 RX6 yX6_keepFault wsX6_keepFault) := goodIn_app (goodIn_of _ (by decide +kernel)) ggX6_refuse_X6_keepFault
theorem dX6_refuse_0 : decode cX6_refuse 0 = .ok (.aload_n 0, 1) := by decide +kernel
theorem dX6_refuse_1 : decode cX6_refuse 1 = .ok (.aload_n 0, 1) := by decide +kernel
theorem dX6_refuse_2 : decode cX6_refuse 2 = .ok (.getfield 67, 3) := by decide +kernel
theorem dX6_refuse_5 : decode cX6_refuse 5 = .ok (.iconst 4, 1) := by decide +kernel
theorem dX6_refuse_6 : decode cX6_refuse 6 = .ok (.if_icmp .ne 7, 3) := by decide +kernel
theorem dX6_refuse_9 : decode cX6_refuse 9 = .ok (.iconst 1, 1) := by decide +kernel
theorem dX6_refuse_10 : decode cX6_refuse 10 = .ok (.goto 4, 3) := by decide +kernel
theorem dX6_refuse_13 : decode cX6_refuse 13 = .ok (.iconst 2, 1) := by decide +kernel
theorem dX6_refuse_14 : decode cX6_refuse 14 = .ok (.invokevirtual 203, 3) := by decide +kernel
theorem dX6_refuse_17 : decode cX6_refuse 17 = .ok (.return_, 1) := by decide +kernel
theorem dX6_keepFault_0 : decode cX6_keepFault 0 = .ok (.aload_n 0, 1) := by decide +kernel
theorem dX6_keepFault_1 : decode cX6_keepFault 1 = .ok (.getfield 56, 3) := by decide +kernel
theorem dX6_keepFault_4 : decode cX6_keepFault 4 = .ok (.ifCond .ne 16, 3) := by decide +kernel
theorem dX6_keepFault_7 : decode cX6_keepFault 7 = .ok (.aload_n 0, 1) := by decide +kernel
theorem dX6_keepFault_8 : decode cX6_keepFault 8 = .ok (.iload_n 1, 1) := by decide +kernel
theorem dX6_keepFault_9 : decode cX6_keepFault 9 = .ok (.putfield 56, 3) := by decide +kernel
theorem dX6_keepFault_12 : decode cX6_keepFault 12 = .ok (.aload_n 0, 1) := by decide +kernel
theorem dX6_keepFault_13 : decode cX6_keepFault 13 = .ok (.aload_n 0, 1) := by decide +kernel
theorem dX6_keepFault_14 : decode cX6_keepFault 14 = .ok (.getfield 209, 3) := by decide +kernel
theorem dX6_keepFault_17 : decode cX6_keepFault 17 = .ok (.putfield 39, 3) := by decide +kernel
theorem dX6_keepFault_20 : decode cX6_keepFault 20 = .ok (.return_, 1) := by decide +kernel
theorem dX6_signAt_0 : decode cX6_signAt 0 = .ok (.iload_n 1, 1) := by decide +kernel
theorem dX6_signAt_1 : decode cX6_signAt 1 = .ok (.ifCond .lt 33, 3) := by decide +kernel
theorem dX6_signAt_4 : decode cX6_signAt 4 = .ok (.iload_n 1, 1) := by decide +kernel
theorem dX6_signAt_5 : decode cX6_signAt 5 = .ok (.aload_n 0, 1) := by decide +kernel
theorem dX6_signAt_6 : decode cX6_signAt 6 = .ok (.getfield 51, 3) := by decide +kernel
theorem dX6_signAt_9 : decode cX6_signAt 9 = .ok (.if_icmp .ge 25, 3) := by decide +kernel
theorem dX6_signAt_12 : decode cX6_signAt 12 = .ok (.iload_n 1, 1) := by decide +kernel
theorem dX6_signAt_13 : decode cX6_signAt 13 = .ok (.aload_n 0, 1) := by decide +kernel
theorem dX6_signAt_14 : decode cX6_signAt 14 = .ok (.getfield 9, 3) := by decide +kernel
theorem dX6_signAt_17 : decode cX6_signAt 17 = .ok (.arraylength, 1) := by decide +kernel
theorem dX6_signAt_18 : decode cX6_signAt 18 = .ok (.if_icmp .ge 16, 3) := by decide +kernel
theorem dX6_signAt_21 : decode cX6_signAt 21 = .ok (.aload_n 0, 1) := by decide +kernel
theorem dX6_signAt_22 : decode cX6_signAt 22 = .ok (.getfield 9, 3) := by decide +kernel
theorem dX6_signAt_25 : decode cX6_signAt 25 = .ok (.iload_n 1, 1) := by decide +kernel
theorem dX6_signAt_26 : decode cX6_signAt 26 = .ok (.baload, 1) := by decide +kernel
theorem dX6_signAt_27 : decode cX6_signAt 27 = .ok (.sipush 255, 3) := by decide +kernel
theorem dX6_signAt_30 : decode cX6_signAt 30 = .ok (.iand, 1) := by decide +kernel
theorem dX6_signAt_31 : decode cX6_signAt 31 = .ok (.goto 4, 3) := by decide +kernel
theorem dX6_signAt_34 : decode cX6_signAt 34 = .ok (.iconst 0, 1) := by decide +kernel
theorem dX6_signAt_35 : decode cX6_signAt 35 = .ok (.ireturn, 1) := by decide +kernel
theorem dX6_isLetter_0 : decode cX6_isLetter 0 = .ok (.iload_n 0, 1) := by decide +kernel
theorem dX6_isLetter_1 : decode cX6_isLetter 1 = .ok (.bipush 97, 2) := by decide +kernel
theorem dX6_isLetter_3 : decode cX6_isLetter 3 = .ok (.if_icmp .lt 13, 3) := by decide +kernel
theorem dX6_isLetter_6 : decode cX6_isLetter 6 = .ok (.iload_n 0, 1) := by decide +kernel
theorem dX6_isLetter_7 : decode cX6_isLetter 7 = .ok (.bipush 122, 2) := by decide +kernel
theorem dX6_isLetter_9 : decode cX6_isLetter 9 = .ok (.if_icmp .gt 7, 3) := by decide +kernel
theorem dX6_isLetter_12 : decode cX6_isLetter 12 = .ok (.iconst 1, 1) := by decide +kernel
theorem dX6_isLetter_13 : decode cX6_isLetter 13 = .ok (.goto 4, 3) := by decide +kernel
theorem dX6_isLetter_16 : decode cX6_isLetter 16 = .ok (.iconst 0, 1) := by decide +kernel
theorem dX6_isLetter_17 : decode cX6_isLetter 17 = .ok (.ireturn, 1) := by decide +kernel
theorem dX6_isDigit_0 : decode cX6_isDigit 0 = .ok (.iload_n 0, 1) := by decide +kernel
theorem dX6_isDigit_1 : decode cX6_isDigit 1 = .ok (.bipush 48, 2) := by decide +kernel
theorem dX6_isDigit_3 : decode cX6_isDigit 3 = .ok (.if_icmp .lt 13, 3) := by decide +kernel
theorem dX6_isDigit_6 : decode cX6_isDigit 6 = .ok (.iload_n 0, 1) := by decide +kernel
theorem dX6_isDigit_7 : decode cX6_isDigit 7 = .ok (.bipush 57, 2) := by decide +kernel
theorem dX6_isDigit_9 : decode cX6_isDigit 9 = .ok (.if_icmp .gt 7, 3) := by decide +kernel
theorem dX6_isDigit_12 : decode cX6_isDigit 12 = .ok (.iconst 1, 1) := by decide +kernel
theorem dX6_isDigit_13 : decode cX6_isDigit 13 = .ok (.goto 4, 3) := by decide +kernel
theorem dX6_isDigit_16 : decode cX6_isDigit 16 = .ok (.iconst 0, 1) := by decide +kernel
theorem dX6_isDigit_17 : decode cX6_isDigit 17 = .ok (.ireturn, 1) := by decide +kernel
theorem dX6_isBlank_0 : decode cX6_isBlank 0 = .ok (.iload_n 0, 1) := by decide +kernel
theorem dX6_isBlank_1 : decode cX6_isBlank 1 = .ok (.bipush 32, 2) := by decide +kernel
theorem dX6_isBlank_3 : decode cX6_isBlank 3 = .ok (.if_icmp .eq 9, 3) := by decide +kernel
theorem dX6_isBlank_6 : decode cX6_isBlank 6 = .ok (.iload_n 0, 1) := by decide +kernel
theorem dX6_isBlank_7 : decode cX6_isBlank 7 = .ok (.bipush 10, 2) := by decide +kernel
theorem dX6_isBlank_9 : decode cX6_isBlank 9 = .ok (.if_icmp .ne 7, 3) := by decide +kernel
theorem dX6_isBlank_12 : decode cX6_isBlank 12 = .ok (.iconst 1, 1) := by decide +kernel
theorem dX6_isBlank_13 : decode cX6_isBlank 13 = .ok (.goto 4, 3) := by decide +kernel
theorem dX6_isBlank_16 : decode cX6_isBlank 16 = .ok (.iconst 0, 1) := by decide +kernel
theorem dX6_isBlank_17 : decode cX6_isBlank 17 = .ok (.ireturn, 1) := by decide +kernel
theorem dX6_isMark_0 : decode cX6_isMark 0 = .ok (.iload_n 0, 1) := by decide +kernel
theorem dX6_isMark_1 : decode cX6_isMark 1 = .ok (.bipush 59, 2) := by decide +kernel
theorem dX6_isMark_3 : decode cX6_isMark 3 = .ok (.if_icmp .eq 45, 3) := by decide +kernel
theorem dX6_isMark_6 : decode cX6_isMark 6 = .ok (.iload_n 0, 1) := by decide +kernel
theorem dX6_isMark_7 : decode cX6_isMark 7 = .ok (.bipush 40, 2) := by decide +kernel
theorem dX6_isMark_9 : decode cX6_isMark 9 = .ok (.if_icmp .lt 9, 3) := by decide +kernel
theorem dX6_isMark_12 : decode cX6_isMark 12 = .ok (.iload_n 0, 1) := by decide +kernel
theorem dX6_isMark_13 : decode cX6_isMark 13 = .ok (.bipush 43, 2) := by decide +kernel
theorem dX6_isMark_15 : decode cX6_isMark 15 = .ok (.if_icmp .le 33, 3) := by decide +kernel
theorem dX6_isMark_18 : decode cX6_isMark 18 = .ok (.iload_n 0, 1) := by decide +kernel
theorem dX6_isMark_19 : decode cX6_isMark 19 = .ok (.bipush 45, 2) := by decide +kernel
theorem dX6_isMark_21 : decode cX6_isMark 21 = .ok (.if_icmp .eq 27, 3) := by decide +kernel
theorem dX6_isMark_24 : decode cX6_isMark 24 = .ok (.iload_n 0, 1) := by decide +kernel
theorem dX6_isMark_25 : decode cX6_isMark 25 = .ok (.bipush 47, 2) := by decide +kernel
theorem dX6_isMark_27 : decode cX6_isMark 27 = .ok (.if_icmp .eq 21, 3) := by decide +kernel
theorem dX6_isMark_30 : decode cX6_isMark 30 = .ok (.iload_n 0, 1) := by decide +kernel
theorem dX6_isMark_31 : decode cX6_isMark 31 = .ok (.bipush 60, 2) := by decide +kernel
theorem dX6_isMark_33 : decode cX6_isMark 33 = .ok (.if_icmp .lt 9, 3) := by decide +kernel
theorem dX6_isMark_36 : decode cX6_isMark 36 = .ok (.iload_n 0, 1) := by decide +kernel
theorem dX6_isMark_37 : decode cX6_isMark 37 = .ok (.bipush 62, 2) := by decide +kernel
theorem dX6_isMark_39 : decode cX6_isMark 39 = .ok (.if_icmp .le 9, 3) := by decide +kernel
theorem dX6_isMark_42 : decode cX6_isMark 42 = .ok (.iload_n 0, 1) := by decide +kernel
theorem dX6_isMark_43 : decode cX6_isMark 43 = .ok (.bipush 37, 2) := by decide +kernel
theorem dX6_isMark_45 : decode cX6_isMark 45 = .ok (.if_icmp .ne 7, 3) := by decide +kernel
theorem dX6_isMark_48 : decode cX6_isMark 48 = .ok (.iconst 1, 1) := by decide +kernel
theorem dX6_isMark_49 : decode cX6_isMark 49 = .ok (.goto 4, 3) := by decide +kernel
theorem dX6_isMark_52 : decode cX6_isMark 52 = .ok (.iconst 0, 1) := by decide +kernel
theorem dX6_isMark_53 : decode cX6_isMark 53 = .ok (.ireturn, 1) := by decide +kernel
set_option maxRecDepth 20000 in
theorem ggX6_advance_X6_signAt : GoodIn wsX6_advance wsX6_signAt := goodIn_r _ [10, 2, 11, 40, 41, 42, 43, 44, 45, 46, 47, 48, 49, 50, 51, 52] (by decide +kernel) (by decide +kernel)
set_option maxRecDepth 20000 in
theorem gX6_advance_X6_signAt : GoodIn wsX6_advance (wsV RX6 212 RX6 yX6_signAt wsX6_signAt) := goodIn_app (goodIn_of _ (by decide +kernel)) ggX6_advance_X6_signAt
set_option maxRecDepth 20000 in
theorem ggX6_advance_X6_isBlank : GoodIn wsX6_advance wsX6_isBlank := goodIn_r _ [14] (by decide +kernel) (by decide +kernel)
set_option maxRecDepth 20000 in
theorem gX6_advance_X6_isBlank : GoodIn wsX6_advance (va_wsS RX6 216 yX6_isBlank wsX6_isBlank) := goodIn_app (goodIn_of _ (by decide +kernel)) ggX6_advance_X6_isBlank
set_option maxRecDepth 20000 in
theorem ggX6_advance_X6_isLetter : GoodIn wsX6_advance wsX6_isLetter := goodIn_r _ [17] (by decide +kernel) (by decide +kernel)
set_option maxRecDepth 20000 in
theorem gX6_advance_X6_isLetter : GoodIn wsX6_advance (va_wsS RX6 219 yX6_isLetter wsX6_isLetter) := goodIn_app (goodIn_of _ (by decide +kernel)) ggX6_advance_X6_isLetter
set_option maxRecDepth 20000 in
theorem ggX6_advance_X6_scanWord : GoodIn wsX6_advance wsX6_scanWord := goodIn_r _ [21, 22, 1, 3, 4, 23, 24, 6, 7, 8, 9, 10, 2, 11, 15, 16, 17, 25, 26, 27, 28, 40, 41, 42, 43, 44, 45, 46, 47, 48, 49, 50, 51, 52] (by decide +kernel) (by decide +kernel)
set_option maxRecDepth 20000 in
theorem gX6_advance_X6_scanWord : GoodIn wsX6_advance (wsV RX6 222 RX6 yX6_scanWord wsX6_scanWord) := goodIn_app (goodIn_of _ (by decide +kernel)) ggX6_advance_X6_scanWord
set_option maxRecDepth 20000 in
theorem ggX6_advance_X6_isDigit : GoodIn wsX6_advance wsX6_isDigit := goodIn_r _ [31] (by decide +kernel) (by decide +kernel)
set_option maxRecDepth 20000 in
theorem gX6_advance_X6_isDigit : GoodIn wsX6_advance (va_wsS RX6 225 yX6_isDigit wsX6_isDigit) := goodIn_app (goodIn_of _ (by decide +kernel)) ggX6_advance_X6_isDigit
set_option maxRecDepth 20000 in
theorem ggX6_advance_X6_scanNumber : GoodIn wsX6_advance wsX6_scanNumber := goodIn_r _ [35, 36, 1, 3, 4, 6, 7, 8, 9, 10, 2, 11, 29, 30, 31, 15, 16, 17, 40, 41, 42, 43, 44, 45, 46, 47, 48, 49, 50, 51, 52] (by decide +kernel) (by decide +kernel)
set_option maxRecDepth 20000 in
theorem gX6_advance_X6_scanNumber : GoodIn wsX6_advance (wsV RX6 228 RX6 yX6_scanNumber wsX6_scanNumber) := goodIn_app (goodIn_of _ (by decide +kernel)) ggX6_advance_X6_scanNumber
set_option maxRecDepth 20000 in
theorem ggX6_advance_X6_isMark : GoodIn wsX6_advance wsX6_isMark := goodIn_r _ [39] (by decide +kernel) (by decide +kernel)
set_option maxRecDepth 20000 in
theorem gX6_advance_X6_isMark : GoodIn wsX6_advance (va_wsS RX6 231 yX6_isMark wsX6_isMark) := goodIn_app (goodIn_of _ (by decide +kernel)) ggX6_advance_X6_isMark
theorem dX6_advance_0 : decode cX6_advance 0 = .ok (.iconst 0, 1) := by decide +kernel
theorem dX6_advance_1 : decode cX6_advance 1 = .ok (.istore_n 1, 1) := by decide +kernel
theorem dX6_advance_2 : decode cX6_advance 2 = .ok (.iload_n 1, 1) := by decide +kernel
theorem dX6_advance_3 : decode cX6_advance 3 = .ok (.sipush 1600, 3) := by decide +kernel
theorem dX6_advance_6 : decode cX6_advance 6 = .ok (.if_icmp .ge 44, 3) := by decide +kernel
theorem dX6_advance_9 : decode cX6_advance 9 = .ok (.aload_n 0, 1) := by decide +kernel
theorem dX6_advance_10 : decode cX6_advance 10 = .ok (.getfield 53, 3) := by decide +kernel
theorem dX6_advance_13 : decode cX6_advance 13 = .ok (.aload_n 0, 1) := by decide +kernel
theorem dX6_advance_14 : decode cX6_advance 14 = .ok (.getfield 51, 3) := by decide +kernel
theorem dX6_advance_17 : decode cX6_advance 17 = .ok (.if_icmp .ge 33, 3) := by decide +kernel
theorem dX6_advance_20 : decode cX6_advance 20 = .ok (.aload_n 0, 1) := by decide +kernel
theorem dX6_advance_21 : decode cX6_advance 21 = .ok (.aload_n 0, 1) := by decide +kernel
theorem dX6_advance_22 : decode cX6_advance 22 = .ok (.getfield 53, 3) := by decide +kernel
theorem dX6_advance_25 : decode cX6_advance 25 = .ok (.invokevirtual 212, 3) := by decide +kernel
theorem dX6_advance_28 : decode cX6_advance 28 = .ok (.invokestatic 216, 3) := by decide +kernel
theorem dX6_advance_31 : decode cX6_advance 31 = .ok (.ifCond .eq 19, 3) := by decide +kernel
theorem dX6_advance_34 : decode cX6_advance 34 = .ok (.aload_n 0, 1) := by decide +kernel
theorem dX6_advance_35 : decode cX6_advance 35 = .ok (.dup, 1) := by decide +kernel
theorem dX6_advance_36 : decode cX6_advance 36 = .ok (.getfield 53, 3) := by decide +kernel
theorem dX6_advance_39 : decode cX6_advance 39 = .ok (.iconst 1, 1) := by decide +kernel
theorem dX6_advance_40 : decode cX6_advance 40 = .ok (.iadd, 1) := by decide +kernel
theorem dX6_advance_41 : decode cX6_advance 41 = .ok (.putfield 53, 3) := by decide +kernel
theorem dX6_advance_44 : decode cX6_advance 44 = .ok (.iinc 1 1, 3) := by decide +kernel
theorem dX6_advance_47 : decode cX6_advance 47 = .ok (.goto (-45), 3) := by decide +kernel
theorem dX6_advance_50 : decode cX6_advance 50 = .ok (.aload_n 0, 1) := by decide +kernel
theorem dX6_advance_51 : decode cX6_advance 51 = .ok (.aload_n 0, 1) := by decide +kernel
theorem dX6_advance_52 : decode cX6_advance 52 = .ok (.getfield 53, 3) := by decide +kernel
theorem dX6_advance_55 : decode cX6_advance 55 = .ok (.putfield 209, 3) := by decide +kernel
theorem dX6_advance_58 : decode cX6_advance 58 = .ok (.aload_n 0, 1) := by decide +kernel
theorem dX6_advance_59 : decode cX6_advance 59 = .ok (.getfield 53, 3) := by decide +kernel
theorem dX6_advance_62 : decode cX6_advance 62 = .ok (.aload_n 0, 1) := by decide +kernel
theorem dX6_advance_63 : decode cX6_advance 63 = .ok (.getfield 51, 3) := by decide +kernel
theorem dX6_advance_66 : decode cX6_advance 66 = .ok (.if_icmp .lt 9, 3) := by decide +kernel
theorem dX6_advance_69 : decode cX6_advance 69 = .ok (.aload_n 0, 1) := by decide +kernel
theorem dX6_advance_70 : decode cX6_advance 70 = .ok (.iconst 0, 1) := by decide +kernel
theorem dX6_advance_71 : decode cX6_advance 71 = .ok (.putfield 67, 3) := by decide +kernel
theorem dX6_advance_74 : decode cX6_advance 74 = .ok (.return_, 1) := by decide +kernel
theorem dX6_advance_75 : decode cX6_advance 75 = .ok (.aload_n 0, 1) := by decide +kernel
theorem dX6_advance_76 : decode cX6_advance 76 = .ok (.aload_n 0, 1) := by decide +kernel
theorem dX6_advance_77 : decode cX6_advance 77 = .ok (.aload_n 0, 1) := by decide +kernel
theorem dX6_advance_78 : decode cX6_advance 78 = .ok (.getfield 53, 3) := by decide +kernel
theorem dX6_advance_81 : decode cX6_advance 81 = .ok (.invokevirtual 212, 3) := by decide +kernel
theorem dX6_advance_84 : decode cX6_advance 84 = .ok (.putfield 206, 3) := by decide +kernel
theorem dX6_advance_87 : decode cX6_advance 87 = .ok (.aload_n 0, 1) := by decide +kernel
theorem dX6_advance_88 : decode cX6_advance 88 = .ok (.getfield 206, 3) := by decide +kernel
theorem dX6_advance_91 : decode cX6_advance 91 = .ok (.invokestatic 219, 3) := by decide +kernel
theorem dX6_advance_94 : decode cX6_advance 94 = .ok (.ifCond .eq 10, 3) := by decide +kernel
theorem dX6_advance_97 : decode cX6_advance 97 = .ok (.aload_n 0, 1) := by decide +kernel
theorem dX6_advance_98 : decode cX6_advance 98 = .ok (.invokevirtual 222, 3) := by decide +kernel
theorem dX6_advance_101 : decode cX6_advance 101 = .ok (.goto 49, 3) := by decide +kernel
theorem dX6_advance_104 : decode cX6_advance 104 = .ok (.aload_n 0, 1) := by decide +kernel
theorem dX6_advance_105 : decode cX6_advance 105 = .ok (.getfield 206, 3) := by decide +kernel
theorem dX6_advance_108 : decode cX6_advance 108 = .ok (.invokestatic 225, 3) := by decide +kernel
theorem dX6_advance_111 : decode cX6_advance 111 = .ok (.ifCond .eq 10, 3) := by decide +kernel
theorem dX6_advance_114 : decode cX6_advance 114 = .ok (.aload_n 0, 1) := by decide +kernel
theorem dX6_advance_115 : decode cX6_advance 115 = .ok (.invokevirtual 228, 3) := by decide +kernel
theorem dX6_advance_118 : decode cX6_advance 118 = .ok (.goto 32, 3) := by decide +kernel
theorem dX6_advance_121 : decode cX6_advance 121 = .ok (.aload_n 0, 1) := by decide +kernel
theorem dX6_advance_122 : decode cX6_advance 122 = .ok (.aload_n 0, 1) := by decide +kernel
theorem dX6_advance_123 : decode cX6_advance 123 = .ok (.getfield 206, 3) := by decide +kernel
theorem dX6_advance_126 : decode cX6_advance 126 = .ok (.invokestatic 231, 3) := by decide +kernel
theorem dX6_advance_129 : decode cX6_advance 129 = .ok (.ifCond .eq 7, 3) := by decide +kernel
theorem dX6_advance_132 : decode cX6_advance 132 = .ok (.iconst 3, 1) := by decide +kernel
theorem dX6_advance_133 : decode cX6_advance 133 = .ok (.goto 4, 3) := by decide +kernel
theorem dX6_advance_136 : decode cX6_advance 136 = .ok (.iconst 4, 1) := by decide +kernel
theorem dX6_advance_137 : decode cX6_advance 137 = .ok (.putfield 67, 3) := by decide +kernel
theorem dX6_advance_140 : decode cX6_advance 140 = .ok (.aload_n 0, 1) := by decide +kernel
theorem dX6_advance_141 : decode cX6_advance 141 = .ok (.dup, 1) := by decide +kernel
theorem dX6_advance_142 : decode cX6_advance 142 = .ok (.getfield 53, 3) := by decide +kernel
theorem dX6_advance_145 : decode cX6_advance 145 = .ok (.iconst 1, 1) := by decide +kernel
theorem dX6_advance_146 : decode cX6_advance 146 = .ok (.iadd, 1) := by decide +kernel
theorem dX6_advance_147 : decode cX6_advance 147 = .ok (.putfield 53, 3) := by decide +kernel
theorem dX6_advance_150 : decode cX6_advance 150 = .ok (.return_, 1) := by decide +kernel
set_option maxRecDepth 20000 in
theorem ggX6_scanWord_X6_signAt : GoodIn wsX6_scanWord wsX6_signAt := goodIn_r _ [11, 12, 13, 21, 22, 23, 24, 25, 26, 27, 28, 29, 30, 31, 32, 33] (by decide +kernel) (by decide +kernel)
set_option maxRecDepth 20000 in
theorem gX6_scanWord_X6_signAt : GoodIn wsX6_scanWord (wsV RX6 212 RX6 yX6_signAt wsX6_signAt) := goodIn_app (goodIn_of _ (by decide +kernel)) ggX6_scanWord_X6_signAt
set_option maxRecDepth 20000 in
theorem ggX6_scanWord_X6_isLetter : GoodIn wsX6_scanWord wsX6_isLetter := goodIn_r _ [16] (by decide +kernel) (by decide +kernel)
set_option maxRecDepth 20000 in
theorem gX6_scanWord_X6_isLetter : GoodIn wsX6_scanWord (va_wsS RX6 219 yX6_isLetter wsX6_isLetter) := goodIn_app (goodIn_of _ (by decide +kernel)) ggX6_scanWord_X6_isLetter
set_option maxRecDepth 20000 in
theorem ggX6_scanWord_X6_withLetter : GoodIn wsX6_scanWord wsX6_withLetter := goodIn_r _ [19, 20] (by decide +kernel) (by decide +kernel)
set_option maxRecDepth 20000 in
theorem gX6_scanWord_X6_withLetter : GoodIn wsX6_scanWord (va_wsS RX6 35 yX6_withLetter wsX6_withLetter) := goodIn_app (goodIn_of _ (by decide +kernel)) ggX6_scanWord_X6_withLetter
theorem dX6_scanWord_0 : decode cX6_scanWord 0 = .ok (.aload_n 0, 1) := by decide +kernel
theorem dX6_scanWord_1 : decode cX6_scanWord 1 = .ok (.lconst 0, 1) := by decide +kernel
theorem dX6_scanWord_2 : decode cX6_scanWord 2 = .ok (.putfield 199, 3) := by decide +kernel
theorem dX6_scanWord_5 : decode cX6_scanWord 5 = .ok (.iconst 0, 1) := by decide +kernel
theorem dX6_scanWord_6 : decode cX6_scanWord 6 = .ok (.istore_n 1, 1) := by decide +kernel
theorem dX6_scanWord_7 : decode cX6_scanWord 7 = .ok (.iload_n 1, 1) := by decide +kernel
theorem dX6_scanWord_8 : decode cX6_scanWord 8 = .ok (.sipush 1600, 3) := by decide +kernel
theorem dX6_scanWord_11 : decode cX6_scanWord 11 = .ok (.if_icmp .ge 52, 3) := by decide +kernel
theorem dX6_scanWord_14 : decode cX6_scanWord 14 = .ok (.aload_n 0, 1) := by decide +kernel
theorem dX6_scanWord_15 : decode cX6_scanWord 15 = .ok (.aload_n 0, 1) := by decide +kernel
theorem dX6_scanWord_16 : decode cX6_scanWord 16 = .ok (.getfield 53, 3) := by decide +kernel
theorem dX6_scanWord_19 : decode cX6_scanWord 19 = .ok (.invokevirtual 212, 3) := by decide +kernel
theorem dX6_scanWord_22 : decode cX6_scanWord 22 = .ok (.invokestatic 219, 3) := by decide +kernel
theorem dX6_scanWord_25 : decode cX6_scanWord 25 = .ok (.ifCond .eq 38, 3) := by decide +kernel
theorem dX6_scanWord_28 : decode cX6_scanWord 28 = .ok (.aload_n 0, 1) := by decide +kernel
theorem dX6_scanWord_29 : decode cX6_scanWord 29 = .ok (.aload_n 0, 1) := by decide +kernel
theorem dX6_scanWord_30 : decode cX6_scanWord 30 = .ok (.getfield 199, 3) := by decide +kernel
theorem dX6_scanWord_33 : decode cX6_scanWord 33 = .ok (.aload_n 0, 1) := by decide +kernel
theorem dX6_scanWord_34 : decode cX6_scanWord 34 = .ok (.aload_n 0, 1) := by decide +kernel
theorem dX6_scanWord_35 : decode cX6_scanWord 35 = .ok (.getfield 53, 3) := by decide +kernel
theorem dX6_scanWord_38 : decode cX6_scanWord 38 = .ok (.invokevirtual 212, 3) := by decide +kernel
theorem dX6_scanWord_41 : decode cX6_scanWord 41 = .ok (.invokestatic 35, 3) := by decide +kernel
theorem dX6_scanWord_44 : decode cX6_scanWord 44 = .ok (.putfield 199, 3) := by decide +kernel
theorem dX6_scanWord_47 : decode cX6_scanWord 47 = .ok (.aload_n 0, 1) := by decide +kernel
theorem dX6_scanWord_48 : decode cX6_scanWord 48 = .ok (.dup, 1) := by decide +kernel
theorem dX6_scanWord_49 : decode cX6_scanWord 49 = .ok (.getfield 53, 3) := by decide +kernel
theorem dX6_scanWord_52 : decode cX6_scanWord 52 = .ok (.iconst 1, 1) := by decide +kernel
theorem dX6_scanWord_53 : decode cX6_scanWord 53 = .ok (.iadd, 1) := by decide +kernel
theorem dX6_scanWord_54 : decode cX6_scanWord 54 = .ok (.putfield 53, 3) := by decide +kernel
theorem dX6_scanWord_57 : decode cX6_scanWord 57 = .ok (.iinc 1 1, 3) := by decide +kernel
theorem dX6_scanWord_60 : decode cX6_scanWord 60 = .ok (.goto (-53), 3) := by decide +kernel
theorem dX6_scanWord_63 : decode cX6_scanWord 63 = .ok (.aload_n 0, 1) := by decide +kernel
theorem dX6_scanWord_64 : decode cX6_scanWord 64 = .ok (.aload_n 0, 1) := by decide +kernel
theorem dX6_scanWord_65 : decode cX6_scanWord 65 = .ok (.getfield 53, 3) := by decide +kernel
theorem dX6_scanWord_68 : decode cX6_scanWord 68 = .ok (.aload_n 0, 1) := by decide +kernel
theorem dX6_scanWord_69 : decode cX6_scanWord 69 = .ok (.getfield 209, 3) := by decide +kernel
theorem dX6_scanWord_72 : decode cX6_scanWord 72 = .ok (.isub, 1) := by decide +kernel
theorem dX6_scanWord_73 : decode cX6_scanWord 73 = .ok (.bipush 8, 2) := by decide +kernel
theorem dX6_scanWord_75 : decode cX6_scanWord 75 = .ok (.if_icmp .le 7, 3) := by decide +kernel
theorem dX6_scanWord_78 : decode cX6_scanWord 78 = .ok (.iconst 4, 1) := by decide +kernel
theorem dX6_scanWord_79 : decode cX6_scanWord 79 = .ok (.goto 4, 3) := by decide +kernel
theorem dX6_scanWord_82 : decode cX6_scanWord 82 = .ok (.iconst 1, 1) := by decide +kernel
theorem dX6_scanWord_83 : decode cX6_scanWord 83 = .ok (.putfield 67, 3) := by decide +kernel
theorem dX6_scanWord_86 : decode cX6_scanWord 86 = .ok (.aload_n 0, 1) := by decide +kernel
theorem dX6_scanWord_87 : decode cX6_scanWord 87 = .ok (.iconst (-1), 1) := by decide +kernel
theorem dX6_scanWord_88 : decode cX6_scanWord 88 = .ok (.putfield 73, 3) := by decide +kernel
theorem dX6_scanWord_91 : decode cX6_scanWord 91 = .ok (.iconst 0, 1) := by decide +kernel
theorem dX6_scanWord_92 : decode cX6_scanWord 92 = .ok (.istore_n 1, 1) := by decide +kernel
theorem dX6_scanWord_93 : decode cX6_scanWord 93 = .ok (.iload_n 1, 1) := by decide +kernel
theorem dX6_scanWord_94 : decode cX6_scanWord 94 = .ok (.bipush 19, 2) := by decide +kernel
theorem dX6_scanWord_96 : decode cX6_scanWord 96 = .ok (.if_icmp .ge 28, 3) := by decide +kernel
theorem dX6_scanWord_99 : decode cX6_scanWord 99 = .ok (.aload_n 0, 1) := by decide +kernel
theorem dX6_scanWord_100 : decode cX6_scanWord 100 = .ok (.getfield 19, 3) := by decide +kernel
theorem dX6_scanWord_103 : decode cX6_scanWord 103 = .ok (.iload_n 1, 1) := by decide +kernel
theorem dX6_scanWord_104 : decode cX6_scanWord 104 = .ok (.laload, 1) := by decide +kernel
theorem dX6_scanWord_105 : decode cX6_scanWord 105 = .ok (.aload_n 0, 1) := by decide +kernel
theorem dX6_scanWord_106 : decode cX6_scanWord 106 = .ok (.getfield 199, 3) := by decide +kernel
theorem dX6_scanWord_109 : decode cX6_scanWord 109 = .ok (.lcmp, 1) := by decide +kernel
theorem dX6_scanWord_110 : decode cX6_scanWord 110 = .ok (.ifCond .ne 8, 3) := by decide +kernel
theorem dX6_scanWord_113 : decode cX6_scanWord 113 = .ok (.aload_n 0, 1) := by decide +kernel
theorem dX6_scanWord_114 : decode cX6_scanWord 114 = .ok (.iload_n 1, 1) := by decide +kernel
theorem dX6_scanWord_115 : decode cX6_scanWord 115 = .ok (.putfield 73, 3) := by decide +kernel
theorem dX6_scanWord_118 : decode cX6_scanWord 118 = .ok (.iinc 1 1, 3) := by decide +kernel
theorem dX6_scanWord_121 : decode cX6_scanWord 121 = .ok (.goto (-28), 3) := by decide +kernel
theorem dX6_scanWord_124 : decode cX6_scanWord 124 = .ok (.return_, 1) := by decide +kernel
set_option maxRecDepth 20000 in
theorem ggX6_scanNumber_X6_signAt : GoodIn wsX6_scanNumber wsX6_signAt := goodIn_r _ [9, 10, 11, 18, 19, 20, 21, 22, 23, 24, 25, 26, 27, 28, 29, 30] (by decide +kernel) (by decide +kernel)
set_option maxRecDepth 20000 in
theorem gX6_scanNumber_X6_signAt : GoodIn wsX6_scanNumber (wsV RX6 212 RX6 yX6_signAt wsX6_signAt) := goodIn_app (goodIn_of _ (by decide +kernel)) ggX6_scanNumber_X6_signAt
set_option maxRecDepth 20000 in
theorem ggX6_scanNumber_X6_isDigit : GoodIn wsX6_scanNumber wsX6_isDigit := goodIn_r _ [14] (by decide +kernel) (by decide +kernel)
set_option maxRecDepth 20000 in
theorem gX6_scanNumber_X6_isDigit : GoodIn wsX6_scanNumber (va_wsS RX6 225 yX6_isDigit wsX6_isDigit) := goodIn_app (goodIn_of _ (by decide +kernel)) ggX6_scanNumber_X6_isDigit
set_option maxRecDepth 20000 in
theorem ggX6_scanNumber_X6_isLetter : GoodIn wsX6_scanNumber wsX6_isLetter := goodIn_r _ [17] (by decide +kernel) (by decide +kernel)
set_option maxRecDepth 20000 in
theorem gX6_scanNumber_X6_isLetter : GoodIn wsX6_scanNumber (va_wsS RX6 219 yX6_isLetter wsX6_isLetter) := goodIn_app (goodIn_of _ (by decide +kernel)) ggX6_scanNumber_X6_isLetter
theorem dX6_scanNumber_0 : decode cX6_scanNumber 0 = .ok (.aload_n 0, 1) := by decide +kernel
theorem dX6_scanNumber_1 : decode cX6_scanNumber 1 = .ok (.iconst 0, 1) := by decide +kernel
theorem dX6_scanNumber_2 : decode cX6_scanNumber 2 = .ok (.putfield 196, 3) := by decide +kernel
theorem dX6_scanNumber_5 : decode cX6_scanNumber 5 = .ok (.iconst 0, 1) := by decide +kernel
theorem dX6_scanNumber_6 : decode cX6_scanNumber 6 = .ok (.istore_n 1, 1) := by decide +kernel
theorem dX6_scanNumber_7 : decode cX6_scanNumber 7 = .ok (.iload_n 1, 1) := by decide +kernel
theorem dX6_scanNumber_8 : decode cX6_scanNumber 8 = .ok (.sipush 1600, 3) := by decide +kernel
theorem dX6_scanNumber_11 : decode cX6_scanNumber 11 = .ok (.if_icmp .ge 56, 3) := by decide +kernel
theorem dX6_scanNumber_14 : decode cX6_scanNumber 14 = .ok (.aload_n 0, 1) := by decide +kernel
theorem dX6_scanNumber_15 : decode cX6_scanNumber 15 = .ok (.aload_n 0, 1) := by decide +kernel
theorem dX6_scanNumber_16 : decode cX6_scanNumber 16 = .ok (.getfield 53, 3) := by decide +kernel
theorem dX6_scanNumber_19 : decode cX6_scanNumber 19 = .ok (.invokevirtual 212, 3) := by decide +kernel
theorem dX6_scanNumber_22 : decode cX6_scanNumber 22 = .ok (.invokestatic 225, 3) := by decide +kernel
theorem dX6_scanNumber_25 : decode cX6_scanNumber 25 = .ok (.ifCond .eq 42, 3) := by decide +kernel
theorem dX6_scanNumber_28 : decode cX6_scanNumber 28 = .ok (.aload_n 0, 1) := by decide +kernel
theorem dX6_scanNumber_29 : decode cX6_scanNumber 29 = .ok (.aload_n 0, 1) := by decide +kernel
theorem dX6_scanNumber_30 : decode cX6_scanNumber 30 = .ok (.getfield 196, 3) := by decide +kernel
theorem dX6_scanNumber_33 : decode cX6_scanNumber 33 = .ok (.bipush 10, 2) := by decide +kernel
theorem dX6_scanNumber_35 : decode cX6_scanNumber 35 = .ok (.imul, 1) := by decide +kernel
theorem dX6_scanNumber_36 : decode cX6_scanNumber 36 = .ok (.aload_n 0, 1) := by decide +kernel
theorem dX6_scanNumber_37 : decode cX6_scanNumber 37 = .ok (.aload_n 0, 1) := by decide +kernel
theorem dX6_scanNumber_38 : decode cX6_scanNumber 38 = .ok (.getfield 53, 3) := by decide +kernel
theorem dX6_scanNumber_41 : decode cX6_scanNumber 41 = .ok (.invokevirtual 212, 3) := by decide +kernel
theorem dX6_scanNumber_44 : decode cX6_scanNumber 44 = .ok (.bipush 48, 2) := by decide +kernel
theorem dX6_scanNumber_46 : decode cX6_scanNumber 46 = .ok (.isub, 1) := by decide +kernel
theorem dX6_scanNumber_47 : decode cX6_scanNumber 47 = .ok (.iadd, 1) := by decide +kernel
theorem dX6_scanNumber_48 : decode cX6_scanNumber 48 = .ok (.putfield 196, 3) := by decide +kernel
theorem dX6_scanNumber_51 : decode cX6_scanNumber 51 = .ok (.aload_n 0, 1) := by decide +kernel
theorem dX6_scanNumber_52 : decode cX6_scanNumber 52 = .ok (.dup, 1) := by decide +kernel
theorem dX6_scanNumber_53 : decode cX6_scanNumber 53 = .ok (.getfield 53, 3) := by decide +kernel
theorem dX6_scanNumber_56 : decode cX6_scanNumber 56 = .ok (.iconst 1, 1) := by decide +kernel
theorem dX6_scanNumber_57 : decode cX6_scanNumber 57 = .ok (.iadd, 1) := by decide +kernel
theorem dX6_scanNumber_58 : decode cX6_scanNumber 58 = .ok (.putfield 53, 3) := by decide +kernel
theorem dX6_scanNumber_61 : decode cX6_scanNumber 61 = .ok (.iinc 1 1, 3) := by decide +kernel
theorem dX6_scanNumber_64 : decode cX6_scanNumber 64 = .ok (.goto (-57), 3) := by decide +kernel
theorem dX6_scanNumber_67 : decode cX6_scanNumber 67 = .ok (.aload_n 0, 1) := by decide +kernel
theorem dX6_scanNumber_68 : decode cX6_scanNumber 68 = .ok (.aload_n 0, 1) := by decide +kernel
theorem dX6_scanNumber_69 : decode cX6_scanNumber 69 = .ok (.getfield 53, 3) := by decide +kernel
theorem dX6_scanNumber_72 : decode cX6_scanNumber 72 = .ok (.aload_n 0, 1) := by decide +kernel
theorem dX6_scanNumber_73 : decode cX6_scanNumber 73 = .ok (.getfield 209, 3) := by decide +kernel
theorem dX6_scanNumber_76 : decode cX6_scanNumber 76 = .ok (.isub, 1) := by decide +kernel
theorem dX6_scanNumber_77 : decode cX6_scanNumber 77 = .ok (.iconst 4, 1) := by decide +kernel
theorem dX6_scanNumber_78 : decode cX6_scanNumber 78 = .ok (.if_icmp .gt 17, 3) := by decide +kernel
theorem dX6_scanNumber_81 : decode cX6_scanNumber 81 = .ok (.aload_n 0, 1) := by decide +kernel
theorem dX6_scanNumber_82 : decode cX6_scanNumber 82 = .ok (.aload_n 0, 1) := by decide +kernel
theorem dX6_scanNumber_83 : decode cX6_scanNumber 83 = .ok (.getfield 53, 3) := by decide +kernel
theorem dX6_scanNumber_86 : decode cX6_scanNumber 86 = .ok (.invokevirtual 212, 3) := by decide +kernel
theorem dX6_scanNumber_89 : decode cX6_scanNumber 89 = .ok (.invokestatic 219, 3) := by decide +kernel
theorem dX6_scanNumber_92 : decode cX6_scanNumber 92 = .ok (.ifCond .eq 7, 3) := by decide +kernel
theorem dX6_scanNumber_95 : decode cX6_scanNumber 95 = .ok (.iconst 4, 1) := by decide +kernel
theorem dX6_scanNumber_96 : decode cX6_scanNumber 96 = .ok (.goto 4, 3) := by decide +kernel
theorem dX6_scanNumber_99 : decode cX6_scanNumber 99 = .ok (.iconst 2, 1) := by decide +kernel
theorem dX6_scanNumber_100 : decode cX6_scanNumber 100 = .ok (.putfield 67, 3) := by decide +kernel
theorem dX6_scanNumber_103 : decode cX6_scanNumber 103 = .ok (.return_, 1) := by decide +kernel
