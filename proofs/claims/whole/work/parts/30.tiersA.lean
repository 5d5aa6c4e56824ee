set_option maxRecDepth 20000 in
theorem ggX11_feed_X11_putOnTape : GoodIn wsX11_feed wsX11_putOnTape := goodIn_r _ [6, 1, 7, 8, 9, 10, 11, 12, 13, 14, 15, 16, 17, 18, 19, 20, 21, 22] (by decide +kernel) (by decide +kernel)
set_option maxRecDepth 20000 in
theorem gX11_feed_X11_putOnTape : GoodIn wsX11_feed (wsV RX11 99 RX11 yX11_putOnTape wsX11_putOnTape) := goodIn_app (goodIn_of _ (by decide +kernel)) ggX11_feed_X11_putOnTape
theorem dX11_feed_0 : decode cX11_feed 0 = .ok (.aload_n 0, 1) := by decide +kernel
theorem dX11_feed_1 : decode cX11_feed 1 = .ok (.getfield 95, 3) := by decide +kernel
theorem dX11_feed_4 : decode cX11_feed 4 = .ok (.sipush 1580, 3) := by decide +kernel
theorem dX11_feed_7 : decode cX11_feed 7 = .ok (.if_icmp .le 5, 3) := by decide +kernel
theorem dX11_feed_10 : decode cX11_feed 10 = .ok (.iconst (-1), 1) := by decide +kernel
theorem dX11_feed_11 : decode cX11_feed 11 = .ok (.ireturn, 1) := by decide +kernel
theorem dX11_feed_12 : decode cX11_feed 12 = .ok (.aload_n 0, 1) := by decide +kernel
theorem dX11_feed_13 : decode cX11_feed 13 = .ok (.iload_n 1, 1) := by decide +kernel
theorem dX11_feed_14 : decode cX11_feed 14 = .ok (.invokevirtual 99, 3) := by decide +kernel
theorem dX11_feed_17 : decode cX11_feed 17 = .ok (.aload_n 0, 1) := by decide +kernel
theorem dX11_feed_18 : decode cX11_feed 18 = .ok (.iload_n 2, 1) := by decide +kernel
theorem dX11_feed_19 : decode cX11_feed 19 = .ok (.invokevirtual 99, 3) := by decide +kernel
theorem dX11_feed_22 : decode cX11_feed 22 = .ok (.aload_n 0, 1) := by decide +kernel
theorem dX11_feed_23 : decode cX11_feed 23 = .ok (.iload_n 3, 1) := by decide +kernel
theorem dX11_feed_24 : decode cX11_feed 24 = .ok (.invokevirtual 99, 3) := by decide +kernel
theorem dX11_feed_27 : decode cX11_feed 27 = .ok (.aload_n 0, 1) := by decide +kernel
theorem dX11_feed_28 : decode cX11_feed 28 = .ok (.iload 4, 2) := by decide +kernel
theorem dX11_feed_30 : decode cX11_feed 30 = .ok (.invokevirtual 99, 3) := by decide +kernel
theorem dX11_feed_33 : decode cX11_feed 33 = .ok (.aload_n 0, 1) := by decide +kernel
theorem dX11_feed_34 : decode cX11_feed 34 = .ok (.iload 5, 2) := by decide +kernel
theorem dX11_feed_36 : decode cX11_feed 36 = .ok (.invokevirtual 99, 3) := by decide +kernel
theorem dX11_feed_39 : decode cX11_feed 39 = .ok (.aload_n 0, 1) := by decide +kernel
theorem dX11_feed_40 : decode cX11_feed 40 = .ok (.getfield 95, 3) := by decide +kernel
theorem dX11_feed_43 : decode cX11_feed 43 = .ok (.ireturn, 1) := by decide +kernel
theorem dX11_putOnTape_0 : decode cX11_putOnTape 0 = .ok (.bipush 24, 2) := by decide +kernel
theorem dX11_putOnTape_2 : decode cX11_putOnTape 2 = .ok (.istore_n 2, 1) := by decide +kernel
theorem dX11_putOnTape_3 : decode cX11_putOnTape 3 = .ok (.iload_n 2, 1) := by decide +kernel
theorem dX11_putOnTape_4 : decode cX11_putOnTape 4 = .ok (.ifCond .lt 44, 3) := by decide +kernel
theorem dX11_putOnTape_7 : decode cX11_putOnTape 7 = .ok (.aload_n 0, 1) := by decide +kernel
theorem dX11_putOnTape_8 : decode cX11_putOnTape 8 = .ok (.getfield 95, 3) := by decide +kernel
theorem dX11_putOnTape_11 : decode cX11_putOnTape 11 = .ok (.aload_n 0, 1) := by decide +kernel
theorem dX11_putOnTape_12 : decode cX11_putOnTape 12 = .ok (.getfield 9, 3) := by decide +kernel
theorem dX11_putOnTape_15 : decode cX11_putOnTape 15 = .ok (.arraylength, 1) := by decide +kernel
theorem dX11_putOnTape_16 : decode cX11_putOnTape 16 = .ok (.if_icmp .ge 26, 3) := by decide +kernel
theorem dX11_putOnTape_19 : decode cX11_putOnTape 19 = .ok (.aload_n 0, 1) := by decide +kernel
theorem dX11_putOnTape_20 : decode cX11_putOnTape 20 = .ok (.getfield 9, 3) := by decide +kernel
theorem dX11_putOnTape_23 : decode cX11_putOnTape 23 = .ok (.aload_n 0, 1) := by decide +kernel
theorem dX11_putOnTape_24 : decode cX11_putOnTape 24 = .ok (.getfield 95, 3) := by decide +kernel
theorem dX11_putOnTape_27 : decode cX11_putOnTape 27 = .ok (.iload_n 1, 1) := by decide +kernel
theorem dX11_putOnTape_28 : decode cX11_putOnTape 28 = .ok (.iload_n 2, 1) := by decide +kernel
theorem dX11_putOnTape_29 : decode cX11_putOnTape 29 = .ok (.ishr, 1) := by decide +kernel
theorem dX11_putOnTape_30 : decode cX11_putOnTape 30 = .ok (.i2b, 1) := by decide +kernel
theorem dX11_putOnTape_31 : decode cX11_putOnTape 31 = .ok (.bastore, 1) := by decide +kernel
theorem dX11_putOnTape_32 : decode cX11_putOnTape 32 = .ok (.aload_n 0, 1) := by decide +kernel
theorem dX11_putOnTape_33 : decode cX11_putOnTape 33 = .ok (.dup, 1) := by decide +kernel
theorem dX11_putOnTape_34 : decode cX11_putOnTape 34 = .ok (.getfield 95, 3) := by decide +kernel
theorem dX11_putOnTape_37 : decode cX11_putOnTape 37 = .ok (.iconst 1, 1) := by decide +kernel
theorem dX11_putOnTape_38 : decode cX11_putOnTape 38 = .ok (.iadd, 1) := by decide +kernel
theorem dX11_putOnTape_39 : decode cX11_putOnTape 39 = .ok (.putfield 95, 3) := by decide +kernel
theorem dX11_putOnTape_42 : decode cX11_putOnTape 42 = .ok (.iinc 2 (-8), 3) := by decide +kernel
theorem dX11_putOnTape_45 : decode cX11_putOnTape 45 = .ok (.goto (-42), 3) := by decide +kernel
theorem dX11_putOnTape_48 : decode cX11_putOnTape 48 = .ok (.return_, 1) := by decide +kernel
theorem dX11_end_0 : decode cX11_end 0 = .ok (.iload_n 1, 1) := by decide +kernel
theorem dX11_end_1 : decode cX11_end 1 = .ok (.ifCond .lt 11, 3) := by decide +kernel
theorem dX11_end_4 : decode cX11_end 4 = .ok (.iload_n 1, 1) := by decide +kernel
theorem dX11_end_5 : decode cX11_end 5 = .ok (.aload_n 0, 1) := by decide +kernel
theorem dX11_end_6 : decode cX11_end 6 = .ok (.getfield 95, 3) := by decide +kernel
theorem dX11_end_9 : decode cX11_end 9 = .ok (.if_icmp .le 5, 3) := by decide +kernel
theorem dX11_end_12 : decode cX11_end 12 = .ok (.iconst (-1), 1) := by decide +kernel
theorem dX11_end_13 : decode cX11_end 13 = .ok (.ireturn, 1) := by decide +kernel
theorem dX11_end_14 : decode cX11_end 14 = .ok (.aload_n 0, 1) := by decide +kernel
theorem dX11_end_15 : decode cX11_end 15 = .ok (.iload_n 1, 1) := by decide +kernel
theorem dX11_end_16 : decode cX11_end 16 = .ok (.putfield 95, 3) := by decide +kernel
theorem dX11_end_19 : decode cX11_end 19 = .ok (.iload_n 1, 1) := by decide +kernel
theorem dX11_end_20 : decode cX11_end 20 = .ok (.ireturn, 1) := by decide +kernel
set_option maxRecDepth 20000 in
theorem ggX11_cake_X6_readAll : GoodIn wsX11_cake wsX6_readAll := goodIn_r _ [16, 17, 18, 19, 20, 21, 22, 23, 24, 25, 26, 27, 28, 29, 30, 31, 32, 33, 34, 35, 36, 37, 38, 39, 40, 41, 42, 43, 44, 45, 46, 47, 48, 49, 50, 51, 52, 53, 54, 55, 56, 15, 57, 58, 59, 60, 61, 62, 63, 64, 65, 66, 67, 68, 69, 70, 71, 72, 73, 74, 75, 76, 77, 78, 79, 80, 81, 82, 83, 84, 85, 86, 87, 88, 89, 90, 91, 92, 93, 94, 95, 96, 97, 98, 99, 100, 101, 102, 103, 104, 105, 106, 107, 108, 109, 110, 111, 112, 113, 114, 115, 116, 117, 118, 119, 120, 121, 122, 123, 124, 125, 126, 127, 128, 129, 130, 131, 132, 133, 134, 135, 136, 137, 138, 139, 140, 141, 142, 143, 144, 145, 146, 147, 148, 149, 150, 151, 152, 153, 154, 155, 156, 157, 158, 159, 160, 161, 162, 163, 164, 165, 166, 167, 168, 169, 170, 171, 172, 173, 174, 175, 176, 177, 178, 179, 180, 181, 182, 183, 184, 185, 186, 187, 188, 189, 190, 191, 192, 193, 194, 195, 196, 197, 198, 199, 200, 201, 202, 203, 204, 205, 206, 207, 208, 209, 210, 211, 212, 213, 298, 299, 300, 301, 302, 303, 304, 305, 306, 307, 308, 309, 310, 282, 283, 284, 285, 286, 287, 288, 289, 290, 291, 292, 293, 294, 295, 296, 297, 311, 312, 313, 314, 315] (by decide +kernel) (by decide +kernel)
set_option maxRecDepth 20000 in
theorem gX11_cake_X6_readAll : GoodIn wsX11_cake (wsV RX11 103 RX6 yX6_readAll wsX6_readAll) := goodIn_app (goodIn_of _ (by decide +kernel)) ggX11_cake_X6_readAll
set_option maxRecDepth 20000 in
theorem ggX11_cake_X7_takeFrom : GoodIn wsX11_cake wsX7_takeFrom := goodIn_r _ [217, 33, 140, 141, 142, 34, 153, 154, 155, 35, 36, 37, 39, 218, 219, 220, 44, 221, 46, 53, 47, 48, 282, 283, 284, 285, 286, 287, 288, 289, 290, 291, 292, 293, 294, 295, 296, 297, 311, 312, 313, 314, 315] (by decide +kernel) (by decide +kernel)
set_option maxRecDepth 20000 in
theorem gX11_cake_X7_takeFrom : GoodIn wsX11_cake (wsV RX11 107 RX7 yX7_takeFrom wsX7_takeFrom) := goodIn_app (goodIn_of _ (by decide +kernel)) ggX11_cake_X7_takeFrom
set_option maxRecDepth 20000 in
theorem ggX11_cake_X1_lay : GoodIn wsX11_cake wsX1_lay := goodIn_r _ [226, 227, 228, 229, 230, 231, 232, 233, 234, 235, 236, 237, 238, 239, 240, 241, 242, 243, 244, 245, 246, 247, 282, 283, 284, 285, 286, 287, 288, 289, 290, 291, 292, 293, 294, 295, 296, 297, 276, 277, 278, 279, 280, 281, 316, 317, 318, 319, 320, 321, 322] (by decide +kernel) (by decide +kernel)
set_option maxRecDepth 20000 in
theorem gX11_cake_X1_lay : GoodIn wsX11_cake (wsV RX11 111 RX1 yX1_lay wsX1_lay) := goodIn_app (goodIn_of _ (by decide +kernel)) ggX11_cake_X1_lay
set_option maxRecDepth 20000 in
theorem ggX11_cake_X0_forget : GoodIn wsX11_cake wsX0_forget := goodIn_r _ [252, 253, 254, 323, 324, 325, 326, 327, 328, 329, 330, 331, 332, 333] (by decide +kernel) (by decide +kernel)
set_option maxRecDepth 20000 in
theorem gX11_cake_X0_forget : GoodIn wsX11_cake (wsV RX11 118 RX0 yX0_forget wsX0_forget) := goodIn_app (goodIn_of _ (by decide +kernel)) ggX11_cake_X0_forget
set_option maxRecDepth 20000 in
theorem ggX11_cake_X4_forget : GoodIn wsX11_cake wsX4_forget := goodIn_r _ [259, 260, 334, 335, 336, 337, 338, 339, 340, 341, 342, 343, 344, 345, 346, 347, 348] (by decide +kernel) (by decide +kernel)
set_option maxRecDepth 20000 in
theorem gX11_cake_X4_forget : GoodIn wsX11_cake (wsV RX11 121 RX4 yX4_forget wsX4_forget) := goodIn_app (goodIn_of _ (by decide +kernel)) ggX11_cake_X4_forget
theorem dX11_cake_0 : decode cX11_cake 0 = .ok (.aload_n 0, 1) := by decide +kernel
theorem dX11_cake_1 : decode cX11_cake 1 = .ok (.getfield 28, 3) := by decide +kernel
theorem dX11_cake_4 : decode cX11_cake 4 = .ok (.aload_n 0, 1) := by decide +kernel
theorem dX11_cake_5 : decode cX11_cake 5 = .ok (.getfield 95, 3) := by decide +kernel
theorem dX11_cake_8 : decode cX11_cake 8 = .ok (.invokevirtual 103, 3) := by decide +kernel
theorem dX11_cake_11 : decode cX11_cake 11 = .ok (.istore_n 1, 1) := by decide +kernel
theorem dX11_cake_12 : decode cX11_cake 12 = .ok (.aload_n 0, 1) := by decide +kernel
theorem dX11_cake_13 : decode cX11_cake 13 = .ok (.iconst 0, 1) := by decide +kernel
theorem dX11_cake_14 : decode cX11_cake 14 = .ok (.putfield 95, 3) := by decide +kernel
theorem dX11_cake_17 : decode cX11_cake 17 = .ok (.iload_n 1, 1) := by decide +kernel
theorem dX11_cake_18 : decode cX11_cake 18 = .ok (.ifCond .ne 5, 3) := by decide +kernel
theorem dX11_cake_21 : decode cX11_cake 21 = .ok (.iconst (-1), 1) := by decide +kernel
theorem dX11_cake_22 : decode cX11_cake 22 = .ok (.ireturn, 1) := by decide +kernel
theorem dX11_cake_23 : decode cX11_cake 23 = .ok (.aload_n 0, 1) := by decide +kernel
theorem dX11_cake_24 : decode cX11_cake 24 = .ok (.getfield 16, 3) := by decide +kernel
theorem dX11_cake_27 : decode cX11_cake 27 = .ok (.aload_n 0, 1) := by decide +kernel
theorem dX11_cake_28 : decode cX11_cake 28 = .ok (.getfield 20, 3) := by decide +kernel
theorem dX11_cake_31 : decode cX11_cake 31 = .ok (.invokevirtual 107, 3) := by decide +kernel
theorem dX11_cake_34 : decode cX11_cake 34 = .ok (.aload_n 0, 1) := by decide +kernel
theorem dX11_cake_35 : decode cX11_cake 35 = .ok (.getfield 35, 3) := by decide +kernel
theorem dX11_cake_38 : decode cX11_cake 38 = .ok (.aload_n 0, 1) := by decide +kernel
theorem dX11_cake_39 : decode cX11_cake 39 = .ok (.getfield 16, 3) := by decide +kernel
theorem dX11_cake_42 : decode cX11_cake 42 = .ok (.invokevirtual 111, 3) := by decide +kernel
theorem dX11_cake_45 : decode cX11_cake 45 = .ok (.iconst 0, 1) := by decide +kernel
theorem dX11_cake_46 : decode cX11_cake 46 = .ok (.istore_n 2, 1) := by decide +kernel
theorem dX11_cake_47 : decode cX11_cake 47 = .ok (.iload_n 2, 1) := by decide +kernel
theorem dX11_cake_48 : decode cX11_cake 48 = .ok (.aload_n 0, 1) := by decide +kernel
theorem dX11_cake_49 : decode cX11_cake 49 = .ok (.getfield 39, 3) := by decide +kernel
theorem dX11_cake_52 : decode cX11_cake 52 = .ok (.arraylength, 1) := by decide +kernel
theorem dX11_cake_53 : decode cX11_cake 53 = .ok (.if_icmp .ge 19, 3) := by decide +kernel
theorem dX11_cake_56 : decode cX11_cake 56 = .ok (.aload_n 0, 1) := by decide +kernel
theorem dX11_cake_57 : decode cX11_cake 57 = .ok (.getfield 39, 3) := by decide +kernel
theorem dX11_cake_60 : decode cX11_cake 60 = .ok (.iload_n 2, 1) := by decide +kernel
theorem dX11_cake_61 : decode cX11_cake 61 = .ok (.aaload, 1) := by decide +kernel
theorem dX11_cake_62 : decode cX11_cake 62 = .ok (.iconst 0, 1) := by decide +kernel
theorem dX11_cake_63 : decode cX11_cake 63 = .ok (.putfield 114, 3) := by decide +kernel
theorem dX11_cake_66 : decode cX11_cake 66 = .ok (.iinc 2 1, 3) := by decide +kernel
theorem dX11_cake_69 : decode cX11_cake 69 = .ok (.goto (-22), 3) := by decide +kernel
theorem dX11_cake_72 : decode cX11_cake 72 = .ok (.aload_n 0, 1) := by decide +kernel
theorem dX11_cake_73 : decode cX11_cake 73 = .ok (.getfield 57, 3) := by decide +kernel
theorem dX11_cake_76 : decode cX11_cake 76 = .ok (.invokevirtual 118, 3) := by decide +kernel
theorem dX11_cake_79 : decode cX11_cake 79 = .ok (.aload_n 0, 1) := by decide +kernel
theorem dX11_cake_80 : decode cX11_cake 80 = .ok (.getfield 87, 3) := by decide +kernel
theorem dX11_cake_83 : decode cX11_cake 83 = .ok (.invokevirtual 121, 3) := by decide +kernel
theorem dX11_cake_86 : decode cX11_cake 86 = .ok (.aload_n 0, 1) := by decide +kernel
theorem dX11_cake_87 : decode cX11_cake 87 = .ok (.iconst 0, 1) := by decide +kernel
theorem dX11_cake_88 : decode cX11_cake 88 = .ok (.putfield 122, 3) := by decide +kernel
theorem dX11_cake_91 : decode cX11_cake 91 = .ok (.aload_n 0, 1) := by decide +kernel
theorem dX11_cake_92 : decode cX11_cake 92 = .ok (.getfield 16, 3) := by decide +kernel
theorem dX11_cake_95 : decode cX11_cake 95 = .ok (.getfield 125, 3) := by decide +kernel
theorem dX11_cake_98 : decode cX11_cake 98 = .ok (.ireturn, 1) := by decide +kernel
theorem dX11_fault_0 : decode cX11_fault 0 = .ok (.iload_n 1, 1) := by decide +kernel
theorem dX11_fault_1 : decode cX11_fault 1 = .ok (.lookupswitch 43 #[(0, 27), (1, 35)], 27) := by decide +kernel
theorem dX11_fault_28 : decode cX11_fault 28 = .ok (.aload_n 0, 1) := by decide +kernel
theorem dX11_fault_29 : decode cX11_fault 29 = .ok (.getfield 28, 3) := by decide +kernel
theorem dX11_fault_32 : decode cX11_fault 32 = .ok (.getfield 128, 3) := by decide +kernel
theorem dX11_fault_35 : decode cX11_fault 35 = .ok (.ireturn, 1) := by decide +kernel
theorem dX11_fault_36 : decode cX11_fault 36 = .ok (.aload_n 0, 1) := by decide +kernel
theorem dX11_fault_37 : decode cX11_fault 37 = .ok (.getfield 28, 3) := by decide +kernel
theorem dX11_fault_40 : decode cX11_fault 40 = .ok (.getfield 131, 3) := by decide +kernel
theorem dX11_fault_43 : decode cX11_fault 43 = .ok (.ireturn, 1) := by decide +kernel
theorem dX11_fault_44 : decode cX11_fault 44 = .ok (.iconst (-1), 1) := by decide +kernel
theorem dX11_fault_45 : decode cX11_fault 45 = .ok (.ireturn, 1) := by decide +kernel
set_option maxRecDepth 20000 in
theorem ggX11_piece_X1_isPiece : GoodIn wsX11_piece wsX1_isPiece := goodIn_r _ [15, 16, 54, 55, 56, 57, 58, 59] (by decide +kernel) (by decide +kernel)
set_option maxRecDepth 20000 in
theorem gX11_piece_X1_isPiece : GoodIn wsX11_piece (wsV RX11 134 RX1 yX1_isPiece wsX1_isPiece) := goodIn_app (goodIn_of _ (by decide +kernel)) ggX11_piece_X1_isPiece
set_option maxRecDepth 20000 in
theorem ggX11_piece_X7_areaOf : GoodIn wsX11_piece wsX7_areaOf := goodIn_r _ [21, 22, 23, 24, 25, 26, 27, 28, 20, 29, 30, 60, 61, 62, 63, 64, 65, 66, 67, 68, 69, 70, 71, 72, 73, 74, 75, 76, 77, 78, 79, 80, 81, 82] (by decide +kernel) (by decide +kernel)
set_option maxRecDepth 20000 in
theorem gX11_piece_X7_areaOf : GoodIn wsX11_piece (wsV RX11 158 RX7 yX7_areaOf wsX7_areaOf) := goodIn_app (goodIn_of _ (by decide +kernel)) ggX11_piece_X7_areaOf
set_option maxRecDepth 20000 in
theorem ggX11_piece_X7_icingOf : GoodIn wsX11_piece wsX7_icingOf := goodIn_r _ [34, 22, 35, 24, 23, 36, 37, 38, 26, 27, 28, 20, 29, 30, 60, 61, 62, 63, 64, 65, 66, 67, 68, 69, 70, 71, 72, 73, 74, 75, 76, 77, 78, 79, 80, 81, 82] (by decide +kernel) (by decide +kernel)
set_option maxRecDepth 20000 in
theorem gX11_piece_X7_icingOf : GoodIn wsX11_piece (wsV RX11 162 RX7 yX7_icingOf wsX7_icingOf) := goodIn_app (goodIn_of _ (by decide +kernel)) ggX11_piece_X7_icingOf
theorem dX11_piece_0 : decode cX11_piece 0 = .ok (.aload_n 0, 1) := by decide +kernel
theorem dX11_piece_1 : decode cX11_piece 1 = .ok (.getfield 35, 3) := by decide +kernel
theorem dX11_piece_4 : decode cX11_piece 4 = .ok (.iload_n 1, 1) := by decide +kernel
theorem dX11_piece_5 : decode cX11_piece 5 = .ok (.invokevirtual 134, 3) := by decide +kernel
theorem dX11_piece_8 : decode cX11_piece 8 = .ok (.ifCond .ne 6, 3) := by decide +kernel
theorem dX11_piece_11 : decode cX11_piece 11 = .ok (.bipush (-2), 2) := by decide +kernel
theorem dX11_piece_13 : decode cX11_piece 13 = .ok (.ireturn, 1) := by decide +kernel
theorem dX11_piece_14 : decode cX11_piece 14 = .ok (.aload_n 0, 1) := by decide +kernel
theorem dX11_piece_15 : decode cX11_piece 15 = .ok (.getfield 35, 3) := by decide +kernel
theorem dX11_piece_18 : decode cX11_piece 18 = .ok (.getfield 137, 3) := by decide +kernel
theorem dX11_piece_21 : decode cX11_piece 21 = .ok (.iload_n 1, 1) := by decide +kernel
theorem dX11_piece_22 : decode cX11_piece 22 = .ok (.aaload, 1) := by decide +kernel
theorem dX11_piece_23 : decode cX11_piece 23 = .ok (.astore_n 3, 1) := by decide +kernel
theorem dX11_piece_24 : decode cX11_piece 24 = .ok (.iload_n 2, 1) := by decide +kernel
theorem dX11_piece_25 : decode cX11_piece 25 = .ok (.tableswitch 112 0 8 #[51, 56, 61, 66, 71, 76, 85, 94, 107], 51) := by decide +kernel
theorem dX11_piece_76 : decode cX11_piece 76 = .ok (.aload_n 3, 1) := by decide +kernel
theorem dX11_piece_77 : decode cX11_piece 77 = .ok (.getfield 141, 3) := by decide +kernel
theorem dX11_piece_80 : decode cX11_piece 80 = .ok (.ireturn, 1) := by decide +kernel
theorem dX11_piece_81 : decode cX11_piece 81 = .ok (.aload_n 3, 1) := by decide +kernel
theorem dX11_piece_82 : decode cX11_piece 82 = .ok (.getfield 146, 3) := by decide +kernel
theorem dX11_piece_85 : decode cX11_piece 85 = .ok (.ireturn, 1) := by decide +kernel
theorem dX11_piece_86 : decode cX11_piece 86 = .ok (.aload_n 3, 1) := by decide +kernel
theorem dX11_piece_87 : decode cX11_piece 87 = .ok (.getfield 149, 3) := by decide +kernel
theorem dX11_piece_90 : decode cX11_piece 90 = .ok (.ireturn, 1) := by decide +kernel
theorem dX11_piece_91 : decode cX11_piece 91 = .ok (.aload_n 3, 1) := by decide +kernel
theorem dX11_piece_92 : decode cX11_piece 92 = .ok (.getfield 152, 3) := by decide +kernel
theorem dX11_piece_95 : decode cX11_piece 95 = .ok (.ireturn, 1) := by decide +kernel
theorem dX11_piece_96 : decode cX11_piece 96 = .ok (.aload_n 3, 1) := by decide +kernel
theorem dX11_piece_97 : decode cX11_piece 97 = .ok (.getfield 155, 3) := by decide +kernel
theorem dX11_piece_100 : decode cX11_piece 100 = .ok (.ireturn, 1) := by decide +kernel
theorem dX11_piece_101 : decode cX11_piece 101 = .ok (.aload_n 0, 1) := by decide +kernel
theorem dX11_piece_102 : decode cX11_piece 102 = .ok (.getfield 16, 3) := by decide +kernel
theorem dX11_piece_105 : decode cX11_piece 105 = .ok (.aload_n 3, 1) := by decide +kernel
theorem dX11_piece_106 : decode cX11_piece 106 = .ok (.invokevirtual 158, 3) := by decide +kernel
theorem dX11_piece_109 : decode cX11_piece 109 = .ok (.ireturn, 1) := by decide +kernel
theorem dX11_piece_110 : decode cX11_piece 110 = .ok (.aload_n 0, 1) := by decide +kernel
theorem dX11_piece_111 : decode cX11_piece 111 = .ok (.getfield 16, 3) := by decide +kernel
theorem dX11_piece_114 : decode cX11_piece 114 = .ok (.aload_n 3, 1) := by decide +kernel
theorem dX11_piece_115 : decode cX11_piece 115 = .ok (.invokevirtual 162, 3) := by decide +kernel
theorem dX11_piece_118 : decode cX11_piece 118 = .ok (.ireturn, 1) := by decide +kernel
theorem dX11_piece_119 : decode cX11_piece 119 = .ok (.aload_n 3, 1) := by decide +kernel
theorem dX11_piece_120 : decode cX11_piece 120 = .ok (.getfield 165, 3) := by decide +kernel
theorem dX11_piece_123 : decode cX11_piece 123 = .ok (.ifCond .eq 7, 3) := by decide +kernel
theorem dX11_piece_126 : decode cX11_piece 126 = .ok (.iconst 1, 1) := by decide +kernel
theorem dX11_piece_127 : decode cX11_piece 127 = .ok (.goto 4, 3) := by decide +kernel
theorem dX11_piece_130 : decode cX11_piece 130 = .ok (.iconst 0, 1) := by decide +kernel
theorem dX11_piece_131 : decode cX11_piece 131 = .ok (.ireturn, 1) := by decide +kernel
theorem dX11_piece_132 : decode cX11_piece 132 = .ok (.aload_n 3, 1) := by decide +kernel
theorem dX11_piece_133 : decode cX11_piece 133 = .ok (.getfield 168, 3) := by decide +kernel
theorem dX11_piece_136 : decode cX11_piece 136 = .ok (.ireturn, 1) := by decide +kernel
theorem dX11_piece_137 : decode cX11_piece 137 = .ok (.bipush (-2), 2) := by decide +kernel
theorem dX11_piece_139 : decode cX11_piece 139 = .ok (.ireturn, 1) := by decide +kernel
set_option maxRecDepth 20000 in
theorem ggX11_guest_X7_isGuest : GoodIn wsX11_guest wsX7_isGuest := goodIn_r _ [12, 13, 92, 93, 94, 95, 96, 97, 98, 99, 100, 101, 102, 103, 104, 105, 106, 107] (by decide +kernel) (by decide +kernel)
set_option maxRecDepth 20000 in
theorem gX11_guest_X7_isGuest : GoodIn wsX11_guest (wsV RX11 171 RX7 yX7_isGuest wsX7_isGuest) := goodIn_app (goodIn_of _ (by decide +kernel)) ggX11_guest_X7_isGuest
set_option maxRecDepth 20000 in
theorem ggX11_guest_X10_ofPiece : GoodIn wsX11_guest wsX10_ofPiece := goodIn_r _ [18, 19, 20, 21, 22, 23, 24, 25, 26, 27, 28, 29, 17, 30, 31, 32, 33, 34, 35, 36, 37, 38, 39, 40, 41, 42, 43, 11, 44, 45, 46, 47, 48, 49, 50, 51, 52, 53, 54, 55, 56, 57, 58, 59, 60, 61, 62, 9, 10, 12, 13, 63, 64, 65, 66, 67, 68, 69, 70, 71, 72, 73, 74, 75, 76, 114, 115, 116, 117, 118, 119, 120, 108, 109, 110, 111, 112, 113, 92, 93, 94, 95, 96, 97, 98, 99, 100, 101, 102, 103, 104, 105, 106, 107, 121, 122, 123, 124, 125, 126, 127, 128, 129, 130, 131, 132] (by decide +kernel) (by decide +kernel)
set_option maxRecDepth 20000 in
theorem gX11_guest_X10_ofPiece : GoodIn wsX11_guest (wsV RX11 186 RX10 yX10_ofPiece wsX10_ofPiece) := goodIn_app (goodIn_of _ (by decide +kernel)) ggX11_guest_X10_ofPiece
theorem dX11_guest_0 : decode cX11_guest 0 = .ok (.aload_n 0, 1) := by decide +kernel
theorem dX11_guest_1 : decode cX11_guest 1 = .ok (.getfield 16, 3) := by decide +kernel
theorem dX11_guest_4 : decode cX11_guest 4 = .ok (.iload_n 1, 1) := by decide +kernel
theorem dX11_guest_5 : decode cX11_guest 5 = .ok (.invokevirtual 171, 3) := by decide +kernel
theorem dX11_guest_8 : decode cX11_guest 8 = .ok (.ifCond .ne 6, 3) := by decide +kernel
theorem dX11_guest_11 : decode cX11_guest 11 = .ok (.bipush (-2), 2) := by decide +kernel
theorem dX11_guest_13 : decode cX11_guest 13 = .ok (.ireturn, 1) := by decide +kernel
theorem dX11_guest_14 : decode cX11_guest 14 = .ok (.iload_n 2, 1) := by decide +kernel
theorem dX11_guest_15 : decode cX11_guest 15 = .ok (.tableswitch 92 0 4 #[33, 43, 53, 63, 73], 33) := by decide +kernel
theorem dX11_guest_48 : decode cX11_guest 48 = .ok (.aload_n 0, 1) := by decide +kernel
theorem dX11_guest_49 : decode cX11_guest 49 = .ok (.getfield 16, 3) := by decide +kernel
theorem dX11_guest_52 : decode cX11_guest 52 = .ok (.getfield 174, 3) := by decide +kernel
theorem dX11_guest_55 : decode cX11_guest 55 = .ok (.iload_n 1, 1) := by decide +kernel
theorem dX11_guest_56 : decode cX11_guest 56 = .ok (.iaload, 1) := by decide +kernel
theorem dX11_guest_57 : decode cX11_guest 57 = .ok (.ireturn, 1) := by decide +kernel
theorem dX11_guest_58 : decode cX11_guest 58 = .ok (.aload_n 0, 1) := by decide +kernel
theorem dX11_guest_59 : decode cX11_guest 59 = .ok (.getfield 16, 3) := by decide +kernel
theorem dX11_guest_62 : decode cX11_guest 62 = .ok (.getfield 177, 3) := by decide +kernel
theorem dX11_guest_65 : decode cX11_guest 65 = .ok (.iload_n 1, 1) := by decide +kernel
theorem dX11_guest_66 : decode cX11_guest 66 = .ok (.iaload, 1) := by decide +kernel
theorem dX11_guest_67 : decode cX11_guest 67 = .ok (.ireturn, 1) := by decide +kernel
theorem dX11_guest_68 : decode cX11_guest 68 = .ok (.aload_n 0, 1) := by decide +kernel
theorem dX11_guest_69 : decode cX11_guest 69 = .ok (.getfield 16, 3) := by decide +kernel
theorem dX11_guest_72 : decode cX11_guest 72 = .ok (.getfield 180, 3) := by decide +kernel
theorem dX11_guest_75 : decode cX11_guest 75 = .ok (.iload_n 1, 1) := by decide +kernel
theorem dX11_guest_76 : decode cX11_guest 76 = .ok (.iaload, 1) := by decide +kernel
theorem dX11_guest_77 : decode cX11_guest 77 = .ok (.ireturn, 1) := by decide +kernel
theorem dX11_guest_78 : decode cX11_guest 78 = .ok (.aload_n 0, 1) := by decide +kernel
theorem dX11_guest_79 : decode cX11_guest 79 = .ok (.getfield 35, 3) := by decide +kernel
theorem dX11_guest_82 : decode cX11_guest 82 = .ok (.getfield 183, 3) := by decide +kernel
theorem dX11_guest_85 : decode cX11_guest 85 = .ok (.iload_n 1, 1) := by decide +kernel
theorem dX11_guest_86 : decode cX11_guest 86 = .ok (.iaload, 1) := by decide +kernel
theorem dX11_guest_87 : decode cX11_guest 87 = .ok (.ireturn, 1) := by decide +kernel
theorem dX11_guest_88 : decode cX11_guest 88 = .ok (.aload_n 0, 1) := by decide +kernel
theorem dX11_guest_89 : decode cX11_guest 89 = .ok (.getfield 48, 3) := by decide +kernel
theorem dX11_guest_92 : decode cX11_guest 92 = .ok (.iload_n 1, 1) := by decide +kernel
theorem dX11_guest_93 : decode cX11_guest 93 = .ok (.aload_n 0, 1) := by decide +kernel
theorem dX11_guest_94 : decode cX11_guest 94 = .ok (.getfield 35, 3) := by decide +kernel
theorem dX11_guest_97 : decode cX11_guest 97 = .ok (.getfield 183, 3) := by decide +kernel
theorem dX11_guest_100 : decode cX11_guest 100 = .ok (.iload_n 1, 1) := by decide +kernel
theorem dX11_guest_101 : decode cX11_guest 101 = .ok (.iaload, 1) := by decide +kernel
theorem dX11_guest_102 : decode cX11_guest 102 = .ok (.iconst 0, 1) := by decide +kernel
theorem dX11_guest_103 : decode cX11_guest 103 = .ok (.invokevirtual 186, 3) := by decide +kernel
theorem dX11_guest_106 : decode cX11_guest 106 = .ok (.ireturn, 1) := by decide +kernel
theorem dX11_guest_107 : decode cX11_guest 107 = .ok (.bipush (-2), 2) := by decide +kernel
theorem dX11_guest_109 : decode cX11_guest 109 = .ok (.ireturn, 1) := by decide +kernel
set_option maxRecDepth 20000 in
theorem ggX11_worth_X7_isGuest : GoodIn wsX11_worth wsX7_isGuest := goodIn_r _ [8, 9, 88, 89, 90, 91, 92, 93, 94, 95, 96, 97, 98, 99, 100, 101, 102, 103] (by decide +kernel) (by decide +kernel)
set_option maxRecDepth 20000 in
theorem gX11_worth_X7_isGuest : GoodIn wsX11_worth (wsV RX11 171 RX7 yX7_isGuest wsX7_isGuest) := goodIn_app (goodIn_of _ (by decide +kernel)) ggX11_worth_X7_isGuest
set_option maxRecDepth 20000 in
theorem ggX11_worth_X10_ofPiece : GoodIn wsX11_worth wsX10_ofPiece := goodIn_r _ [14, 15, 16, 17, 18, 19, 20, 21, 22, 23, 24, 25, 13, 26, 27, 28, 29, 30, 31, 32, 33, 34, 35, 36, 37, 38, 39, 7, 40, 41, 42, 43, 44, 45, 46, 47, 48, 49, 50, 51, 52, 53, 54, 55, 56, 57, 58, 5, 6, 8, 9, 59, 60, 61, 62, 63, 64, 65, 66, 67, 68, 69, 70, 71, 72, 104, 105, 106, 107, 108, 109, 110, 111, 112, 113, 114, 115, 116, 88, 89, 90, 91, 92, 93, 94, 95, 96, 97, 98, 99, 100, 101, 102, 103, 117, 118, 119, 120, 121, 122, 123, 124, 125, 126, 127, 128] (by decide +kernel) (by decide +kernel)
set_option maxRecDepth 20000 in
theorem gX11_worth_X10_ofPiece : GoodIn wsX11_worth (wsV RX11 186 RX10 yX10_ofPiece wsX10_ofPiece) := goodIn_app (goodIn_of _ (by decide +kernel)) ggX11_worth_X10_ofPiece
theorem dX11_worth_0 : decode cX11_worth 0 = .ok (.aload_n 0, 1) := by decide +kernel
theorem dX11_worth_1 : decode cX11_worth 1 = .ok (.getfield 16, 3) := by decide +kernel
theorem dX11_worth_4 : decode cX11_worth 4 = .ok (.iload_n 1, 1) := by decide +kernel
theorem dX11_worth_5 : decode cX11_worth 5 = .ok (.invokevirtual 171, 3) := by decide +kernel
theorem dX11_worth_8 : decode cX11_worth 8 = .ok (.ifCond .ne 6, 3) := by decide +kernel
theorem dX11_worth_11 : decode cX11_worth 11 = .ok (.ldc 190, 2) := by decide +kernel
theorem dX11_worth_13 : decode cX11_worth 13 = .ok (.ireturn, 1) := by decide +kernel
theorem dX11_worth_14 : decode cX11_worth 14 = .ok (.aload_n 0, 1) := by decide +kernel
theorem dX11_worth_15 : decode cX11_worth 15 = .ok (.getfield 48, 3) := by decide +kernel
theorem dX11_worth_18 : decode cX11_worth 18 = .ok (.iload_n 1, 1) := by decide +kernel
theorem dX11_worth_19 : decode cX11_worth 19 = .ok (.iload_n 2, 1) := by decide +kernel
theorem dX11_worth_20 : decode cX11_worth 20 = .ok (.ldc 190, 2) := by decide +kernel
theorem dX11_worth_22 : decode cX11_worth 22 = .ok (.invokevirtual 186, 3) := by decide +kernel
theorem dX11_worth_25 : decode cX11_worth 25 = .ok (.ireturn, 1) := by decide +kernel
set_option maxRecDepth 20000 in
theorem ggX11_slip_X1_canSplit : GoodIn wsX11_slip wsX1_canSplit := goodIn_r _ [14, 15, 16, 17, 18, 13, 19, 20, 21, 22, 23, 24, 25, 26, 27, 28, 29, 30, 31, 32, 105, 106, 107, 108, 109, 110, 111, 112, 113, 114, 115, 116, 117] (by decide +kernel) (by decide +kernel)
set_option maxRecDepth 20000 in
theorem gX11_slip_X1_canSplit : GoodIn wsX11_slip (wsV RX11 191 RX1 yX1_canSplit wsX1_canSplit) := goodIn_app (goodIn_of _ (by decide +kernel)) ggX11_slip_X1_canSplit
set_option maxRecDepth 20000 in
theorem ggX11_slip_X10_slipOf : GoodIn wsX11_slip wsX10_slipOf := goodIn_r _ [37, 38, 39, 40, 41, 42, 43, 22, 23, 13, 24, 25, 44, 45, 46, 36, 47, 48, 49, 50, 51, 52, 53, 54, 55, 56, 57, 58, 59, 60, 61, 62, 63, 64, 65, 66, 67, 68, 69, 70, 71, 72, 73, 74, 29, 75, 32, 31, 76, 77, 78, 79, 80, 81, 82, 83, 84, 85, 86, 87, 88, 89, 118, 119, 120, 121, 122, 123, 124, 105, 106, 107, 108, 109, 110, 125, 126, 127, 128, 129, 130, 131, 132, 133, 134, 135, 136, 137, 138, 139, 140, 111, 112, 113, 114, 115, 116, 117, 141, 142, 143, 144, 145] (by decide +kernel) (by decide +kernel)
set_option maxRecDepth 20000 in
theorem gX11_slip_X10_slipOf : GoodIn wsX11_slip (wsV RX11 195 RX10 yX10_slipOf wsX10_slipOf) := goodIn_app (goodIn_of _ (by decide +kernel)) ggX11_slip_X10_slipOf
theorem dX11_slip_0 : decode cX11_slip 0 = .ok (.aload_n 0, 1) := by decide +kernel
theorem dX11_slip_1 : decode cX11_slip 1 = .ok (.getfield 35, 3) := by decide +kernel
theorem dX11_slip_4 : decode cX11_slip 4 = .ok (.iload_n 1, 1) := by decide +kernel
theorem dX11_slip_5 : decode cX11_slip 5 = .ok (.iload_n 2, 1) := by decide +kernel
theorem dX11_slip_6 : decode cX11_slip 6 = .ok (.iload_n 3, 1) := by decide +kernel
theorem dX11_slip_7 : decode cX11_slip 7 = .ok (.invokevirtual 191, 3) := by decide +kernel
theorem dX11_slip_10 : decode cX11_slip 10 = .ok (.ifCond .ne 5, 3) := by decide +kernel
theorem dX11_slip_13 : decode cX11_slip 13 = .ok (.iconst (-1), 1) := by decide +kernel
theorem dX11_slip_14 : decode cX11_slip 14 = .ok (.ireturn, 1) := by decide +kernel
theorem dX11_slip_15 : decode cX11_slip 15 = .ok (.iconst 0, 1) := by decide +kernel
theorem dX11_slip_16 : decode cX11_slip 16 = .ok (.bipush 100, 2) := by decide +kernel
theorem dX11_slip_18 : decode cX11_slip 18 = .ok (.aload_n 0, 1) := by decide +kernel
theorem dX11_slip_19 : decode cX11_slip 19 = .ok (.getfield 48, 3) := by decide +kernel
theorem dX11_slip_22 : decode cX11_slip 22 = .ok (.iload_n 1, 1) := by decide +kernel
theorem dX11_slip_23 : decode cX11_slip 23 = .ok (.iload_n 2, 1) := by decide +kernel
theorem dX11_slip_24 : decode cX11_slip 24 = .ok (.invokevirtual 195, 3) := by decide +kernel
theorem dX11_slip_27 : decode cX11_slip 27 = .ok (.invokestatic 199, 3) := by decide +kernel
theorem dX11_slip_30 : decode cX11_slip 30 = .ok (.invokestatic 204, 3) := by decide +kernel
theorem dX11_slip_33 : decode cX11_slip 33 = .ok (.ireturn, 1) := by decide +kernel
set_option maxRecDepth 20000 in
theorem ggX11_cut_X1_canSplit : GoodIn wsX11_cut wsX1_canSplit := goodIn_r _ [8, 9, 10, 11, 12, 7, 13, 14, 15, 16, 17, 18, 19, 20, 21, 22, 23, 24, 25, 26, 165, 166, 167, 168, 169, 170, 171, 172, 173, 174, 175, 176, 177] (by decide +kernel) (by decide +kernel)
set_option maxRecDepth 20000 in
theorem gX11_cut_X1_canSplit : GoodIn wsX11_cut (wsV RX11 191 RX1 yX1_canSplit wsX1_canSplit) := goodIn_app (goodIn_of _ (by decide +kernel)) ggX11_cut_X1_canSplit
set_option maxRecDepth 20000 in
theorem ggX11_cut_X0_perform : GoodIn wsX11_cut wsX0_perform := goodIn_r _ [31, 32, 33, 34, 35, 36, 37, 38, 39, 40, 41, 42, 43, 44, 45, 30, 46, 47, 48, 49, 50, 51, 52, 53, 54, 55, 56, 57, 58, 59, 60, 61, 62, 63, 64, 16, 17, 7, 18, 19, 65, 66, 67, 68, 69, 70, 71, 72, 73, 74, 75, 76, 77, 78, 79, 80, 81, 82, 83, 84, 85, 86, 87, 88, 89, 90, 91, 92, 93, 94, 95, 23, 96, 26, 25, 97, 98, 99, 100, 101, 102, 103, 104, 105, 106, 107, 108, 109, 110, 111, 112, 113, 114, 9, 115, 116, 117, 118, 5, 6, 8, 10, 11, 12, 13, 14, 15, 20, 21, 22, 24, 119, 120, 121, 122, 123, 124, 125, 126, 127, 128, 129, 130, 131, 132, 133, 134, 135, 136, 137, 138, 139, 140, 141, 142, 143, 144, 145, 146, 147, 148, 149, 178, 179, 180, 181, 182, 183, 184, 185, 186, 187, 188, 165, 166, 167, 168, 169, 170, 189, 190, 191, 192, 193, 194, 195, 196, 197, 198, 199, 200, 201, 202, 203, 204, 205, 206, 207, 208, 209, 210, 211, 171, 172, 173, 174, 175, 176, 177, 212, 213, 214, 215, 216] (by decide +kernel) (by decide +kernel)
set_option maxRecDepth 20000 in
theorem gX11_cut_X0_perform : GoodIn wsX11_cut (wsV RX11 210 RX0 yX0_perform wsX0_perform) := goodIn_app (goodIn_of _ (by decide +kernel)) ggX11_cut_X0_perform
theorem dX11_cut_0 : decode cX11_cut 0 = .ok (.aload_n 0, 1) := by decide +kernel
theorem dX11_cut_1 : decode cX11_cut 1 = .ok (.getfield 35, 3) := by decide +kernel
theorem dX11_cut_4 : decode cX11_cut 4 = .ok (.iload_n 1, 1) := by decide +kernel
theorem dX11_cut_5 : decode cX11_cut 5 = .ok (.iload_n 2, 1) := by decide +kernel
theorem dX11_cut_6 : decode cX11_cut 6 = .ok (.iload_n 3, 1) := by decide +kernel
theorem dX11_cut_7 : decode cX11_cut 7 = .ok (.invokevirtual 191, 3) := by decide +kernel
theorem dX11_cut_10 : decode cX11_cut 10 = .ok (.ifCond .eq 15, 3) := by decide +kernel
theorem dX11_cut_13 : decode cX11_cut 13 = .ok (.aload_n 0, 1) := by decide +kernel
theorem dX11_cut_14 : decode cX11_cut 14 = .ok (.getfield 35, 3) := by decide +kernel
theorem dX11_cut_17 : decode cX11_cut 17 = .ok (.getfield 207, 3) := by decide +kernel
theorem dX11_cut_20 : decode cX11_cut 20 = .ok (.bipush 24, 2) := by decide +kernel
theorem dX11_cut_22 : decode cX11_cut 22 = .ok (.if_icmp .lt 5, 3) := by decide +kernel
theorem dX11_cut_25 : decode cX11_cut 25 = .ok (.iconst (-1), 1) := by decide +kernel
theorem dX11_cut_26 : decode cX11_cut 26 = .ok (.ireturn, 1) := by decide +kernel
theorem dX11_cut_27 : decode cX11_cut 27 = .ok (.aload_n 0, 1) := by decide +kernel
theorem dX11_cut_28 : decode cX11_cut 28 = .ok (.getfield 57, 3) := by decide +kernel
theorem dX11_cut_31 : decode cX11_cut 31 = .ok (.iconst 0, 1) := by decide +kernel
theorem dX11_cut_32 : decode cX11_cut 32 = .ok (.iload_n 1, 1) := by decide +kernel
theorem dX11_cut_33 : decode cX11_cut 33 = .ok (.iload_n 2, 1) := by decide +kernel
theorem dX11_cut_34 : decode cX11_cut 34 = .ok (.iload_n 3, 1) := by decide +kernel
theorem dX11_cut_35 : decode cX11_cut 35 = .ok (.invokevirtual 210, 3) := by decide +kernel
theorem dX11_cut_38 : decode cX11_cut 38 = .ok (.aload_n 0, 1) := by decide +kernel
theorem dX11_cut_39 : decode cX11_cut 39 = .ok (.getfield 35, 3) := by decide +kernel
theorem dX11_cut_42 : decode cX11_cut 42 = .ok (.getfield 207, 3) := by decide +kernel
theorem dX11_cut_45 : decode cX11_cut 45 = .ok (.iconst 1, 1) := by decide +kernel
theorem dX11_cut_46 : decode cX11_cut 46 = .ok (.isub, 1) := by decide +kernel
theorem dX11_cut_47 : decode cX11_cut 47 = .ok (.ireturn, 1) := by decide +kernel
set_option maxRecDepth 20000 in
theorem ggX11_give_X7_isGuest : GoodIn wsX11_give wsX7_isGuest := goodIn_r _ [9, 10, 181, 182, 183, 184, 185, 186, 187, 188, 189, 190, 191, 192, 193, 194, 195, 196] (by decide +kernel) (by decide +kernel)
set_option maxRecDepth 20000 in
theorem gX11_give_X7_isGuest : GoodIn wsX11_give (wsV RX11 171 RX7 yX7_isGuest wsX7_isGuest) := goodIn_app (goodIn_of _ (by decide +kernel)) ggX11_give_X7_isGuest
set_option maxRecDepth 20000 in
theorem ggX11_give_X1_isFree : GoodIn wsX11_give wsX1_isFree := goodIn_r _ [15, 16, 17, 18, 19, 20, 14, 21, 22, 175, 176, 177, 178, 179, 180, 197, 198, 199, 200, 201, 202, 203] (by decide +kernel) (by decide +kernel)
set_option maxRecDepth 20000 in
theorem gX11_give_X1_isFree : GoodIn wsX11_give (wsV RX11 214 RX1 yX1_isFree wsX1_isFree) := goodIn_app (goodIn_of _ (by decide +kernel)) ggX11_give_X1_isFree
set_option maxRecDepth 20000 in
theorem ggX11_give_X0_perform : GoodIn wsX11_give wsX0_perform := goodIn_r _ [27, 28, 29, 30, 31, 32, 33, 34, 35, 36, 37, 38, 39, 40, 41, 26, 42, 43, 44, 45, 46, 47, 48, 49, 50, 51, 52, 53, 54, 55, 56, 57, 58, 59, 60, 19, 20, 14, 21, 22, 61, 62, 63, 64, 65, 66, 67, 68, 69, 8, 70, 71, 72, 73, 74, 75, 76, 77, 78, 79, 80, 81, 82, 83, 84, 85, 86, 87, 88, 89, 90, 91, 92, 93, 94, 95, 96, 97, 98, 99, 100, 101, 102, 103, 104, 105, 106, 107, 108, 109, 110, 111, 112, 16, 113, 114, 115, 116, 117, 118, 119, 120, 12, 13, 15, 17, 18, 121, 122, 123, 124, 125, 126, 127, 128, 129, 130, 131, 132, 133, 134, 135, 136, 137, 138, 139, 140, 141, 142, 143, 144, 145, 146, 147, 148, 149, 150, 151, 152, 153, 154, 155, 204, 205, 206, 207, 208, 209, 210, 211, 212, 213, 214, 175, 176, 177, 178, 179, 180, 181, 182, 183, 184, 185, 186, 187, 188, 189, 190, 191, 192, 193, 194, 195, 196, 215, 216, 217, 218, 219, 220, 221, 197, 198, 199, 200, 201, 202, 203, 222, 223, 224, 225, 226] (by decide +kernel) (by decide +kernel)
set_option maxRecDepth 20000 in
theorem gX11_give_X0_perform : GoodIn wsX11_give (wsV RX11 210 RX0 yX0_perform wsX0_perform) := goodIn_app (goodIn_of _ (by decide +kernel)) ggX11_give_X0_perform
set_option maxRecDepth 20000 in
theorem ggX11_give_X1_platesFilled : GoodIn wsX11_give wsX1_platesFilled := goodIn_r _ [159, 146, 175, 176, 177, 178, 179, 180] (by decide +kernel) (by decide +kernel)
set_option maxRecDepth 20000 in
theorem gX11_give_X1_platesFilled : GoodIn wsX11_give (wsV RX11 217 RX1 yX1_platesFilled wsX1_platesFilled) := goodIn_app (goodIn_of _ (by decide +kernel)) ggX11_give_X1_platesFilled
theorem dX11_give_0 : decode cX11_give 0 = .ok (.aload_n 0, 1) := by decide +kernel
theorem dX11_give_1 : decode cX11_give 1 = .ok (.getfield 16, 3) := by decide +kernel
theorem dX11_give_4 : decode cX11_give 4 = .ok (.iload_n 2, 1) := by decide +kernel
theorem dX11_give_5 : decode cX11_give 5 = .ok (.invokevirtual 171, 3) := by decide +kernel
theorem dX11_give_8 : decode cX11_give 8 = .ok (.ifCond .eq 27, 3) := by decide +kernel
theorem dX11_give_11 : decode cX11_give 11 = .ok (.aload_n 0, 1) := by decide +kernel
theorem dX11_give_12 : decode cX11_give 12 = .ok (.getfield 35, 3) := by decide +kernel
theorem dX11_give_15 : decode cX11_give 15 = .ok (.iload_n 1, 1) := by decide +kernel
theorem dX11_give_16 : decode cX11_give 16 = .ok (.invokevirtual 214, 3) := by decide +kernel
theorem dX11_give_19 : decode cX11_give 19 = .ok (.ifCond .eq 16, 3) := by decide +kernel
theorem dX11_give_22 : decode cX11_give 22 = .ok (.aload_n 0, 1) := by decide +kernel
theorem dX11_give_23 : decode cX11_give 23 = .ok (.getfield 35, 3) := by decide +kernel
theorem dX11_give_26 : decode cX11_give 26 = .ok (.getfield 183, 3) := by decide +kernel
theorem dX11_give_29 : decode cX11_give 29 = .ok (.iload_n 2, 1) := by decide +kernel
theorem dX11_give_30 : decode cX11_give 30 = .ok (.iaload, 1) := by decide +kernel
theorem dX11_give_31 : decode cX11_give 31 = .ok (.iconst (-1), 1) := by decide +kernel
theorem dX11_give_32 : decode cX11_give 32 = .ok (.if_icmp .eq 5, 3) := by decide +kernel
theorem dX11_give_35 : decode cX11_give 35 = .ok (.iconst (-1), 1) := by decide +kernel
theorem dX11_give_36 : decode cX11_give 36 = .ok (.ireturn, 1) := by decide +kernel
theorem dX11_give_37 : decode cX11_give 37 = .ok (.aload_n 0, 1) := by decide +kernel
theorem dX11_give_38 : decode cX11_give 38 = .ok (.getfield 57, 3) := by decide +kernel
theorem dX11_give_41 : decode cX11_give 41 = .ok (.iconst 1, 1) := by decide +kernel
theorem dX11_give_42 : decode cX11_give 42 = .ok (.iload_n 1, 1) := by decide +kernel
theorem dX11_give_43 : decode cX11_give 43 = .ok (.iload_n 2, 1) := by decide +kernel
theorem dX11_give_44 : decode cX11_give 44 = .ok (.iconst 0, 1) := by decide +kernel
theorem dX11_give_45 : decode cX11_give 45 = .ok (.invokevirtual 210, 3) := by decide +kernel
theorem dX11_give_48 : decode cX11_give 48 = .ok (.aload_n 0, 1) := by decide +kernel
theorem dX11_give_49 : decode cX11_give 49 = .ok (.getfield 35, 3) := by decide +kernel
theorem dX11_give_52 : decode cX11_give 52 = .ok (.invokevirtual 217, 3) := by decide +kernel
theorem dX11_give_55 : decode cX11_give 55 = .ok (.ireturn, 1) := by decide +kernel
set_option maxRecDepth 20000 in
theorem ggX11_back_X7_isGuest : GoodIn wsX11_back wsX7_isGuest := goodIn_r _ [9, 10, 176, 177, 178, 179, 180, 181, 182, 183, 184, 185, 186, 187, 188, 189, 190, 191] (by decide +kernel) (by decide +kernel)
set_option maxRecDepth 20000 in
theorem gX11_back_X7_isGuest : GoodIn wsX11_back (wsV RX11 171 RX7 yX7_isGuest wsX7_isGuest) := goodIn_app (goodIn_of _ (by decide +kernel)) ggX11_back_X7_isGuest
set_option maxRecDepth 20000 in
theorem ggX11_back_X0_perform : GoodIn wsX11_back wsX0_perform := goodIn_r _ [15, 16, 17, 18, 19, 20, 21, 22, 23, 24, 25, 26, 27, 28, 29, 14, 30, 31, 32, 33, 34, 35, 36, 37, 38, 39, 40, 41, 42, 43, 44, 45, 46, 47, 48, 49, 50, 51, 52, 53, 54, 55, 56, 57, 58, 59, 60, 61, 62, 8, 63, 64, 65, 66, 67, 68, 69, 70, 71, 72, 73, 74, 75, 76, 77, 78, 79, 80, 81, 82, 83, 84, 85, 86, 87, 88, 89, 90, 91, 92, 93, 94, 95, 96, 97, 98, 99, 100, 101, 102, 103, 104, 105, 106, 107, 108, 109, 110, 111, 112, 113, 114, 115, 116, 117, 118, 119, 120, 121, 122, 123, 124, 125, 126, 127, 128, 129, 130, 131, 132, 133, 134, 135, 136, 137, 138, 139, 140, 141, 142, 143, 144, 145, 146, 147, 148, 149, 150, 151, 152, 153, 154, 192, 193, 194, 195, 196, 197, 198, 199, 200, 201, 202, 170, 171, 172, 173, 174, 175, 176, 177, 178, 179, 180, 181, 182, 183, 184, 185, 186, 187, 188, 189, 190, 191, 203, 204, 205, 206, 207, 208, 209, 210, 211, 212, 213, 214, 215, 216, 217, 218, 219, 220, 221] (by decide +kernel) (by decide +kernel)
set_option maxRecDepth 20000 in
theorem gX11_back_X0_perform : GoodIn wsX11_back (wsV RX11 210 RX0 yX0_perform wsX0_perform) := goodIn_app (goodIn_of _ (by decide +kernel)) ggX11_back_X0_perform
theorem dX11_back_0 : decode cX11_back 0 = .ok (.aload_n 0, 1) := by decide +kernel
theorem dX11_back_1 : decode cX11_back 1 = .ok (.getfield 16, 3) := by decide +kernel
theorem dX11_back_4 : decode cX11_back 4 = .ok (.iload_n 1, 1) := by decide +kernel
theorem dX11_back_5 : decode cX11_back 5 = .ok (.invokevirtual 171, 3) := by decide +kernel
theorem dX11_back_8 : decode cX11_back 8 = .ok (.ifCond .eq 16, 3) := by decide +kernel
theorem dX11_back_11 : decode cX11_back 11 = .ok (.aload_n 0, 1) := by decide +kernel
theorem dX11_back_12 : decode cX11_back 12 = .ok (.getfield 35, 3) := by decide +kernel
theorem dX11_back_15 : decode cX11_back 15 = .ok (.getfield 183, 3) := by decide +kernel
theorem dX11_back_18 : decode cX11_back 18 = .ok (.iload_n 1, 1) := by decide +kernel
theorem dX11_back_19 : decode cX11_back 19 = .ok (.iaload, 1) := by decide +kernel
theorem dX11_back_20 : decode cX11_back 20 = .ok (.iconst (-1), 1) := by decide +kernel
theorem dX11_back_21 : decode cX11_back 21 = .ok (.if_icmp .ne 5, 3) := by decide +kernel
theorem dX11_back_24 : decode cX11_back 24 = .ok (.iconst (-1), 1) := by decide +kernel
theorem dX11_back_25 : decode cX11_back 25 = .ok (.ireturn, 1) := by decide +kernel
theorem dX11_back_26 : decode cX11_back 26 = .ok (.aload_n 0, 1) := by decide +kernel
theorem dX11_back_27 : decode cX11_back 27 = .ok (.getfield 35, 3) := by decide +kernel
theorem dX11_back_30 : decode cX11_back 30 = .ok (.getfield 183, 3) := by decide +kernel
theorem dX11_back_33 : decode cX11_back 33 = .ok (.iload_n 1, 1) := by decide +kernel
theorem dX11_back_34 : decode cX11_back 34 = .ok (.iaload, 1) := by decide +kernel
theorem dX11_back_35 : decode cX11_back 35 = .ok (.istore_n 2, 1) := by decide +kernel
theorem dX11_back_36 : decode cX11_back 36 = .ok (.aload_n 0, 1) := by decide +kernel
theorem dX11_back_37 : decode cX11_back 37 = .ok (.getfield 57, 3) := by decide +kernel
theorem dX11_back_40 : decode cX11_back 40 = .ok (.iconst 2, 1) := by decide +kernel
theorem dX11_back_41 : decode cX11_back 41 = .ok (.iload_n 2, 1) := by decide +kernel
theorem dX11_back_42 : decode cX11_back 42 = .ok (.iload_n 1, 1) := by decide +kernel
theorem dX11_back_43 : decode cX11_back 43 = .ok (.iconst 0, 1) := by decide +kernel
theorem dX11_back_44 : decode cX11_back 44 = .ok (.invokevirtual 210, 3) := by decide +kernel
theorem dX11_back_47 : decode cX11_back 47 = .ok (.iload_n 2, 1) := by decide +kernel
theorem dX11_back_48 : decode cX11_back 48 = .ok (.ireturn, 1) := by decide +kernel
set_option maxRecDepth 20000 in
theorem ggX11_exchange_X7_isGuest : GoodIn wsX11_exchange wsX7_isGuest := goodIn_r _ [9, 10, 176, 177, 178, 179, 180, 181, 182, 183, 184, 185, 186, 187, 188, 189, 190, 191] (by decide +kernel) (by decide +kernel)
set_option maxRecDepth 20000 in
theorem gX11_exchange_X7_isGuest : GoodIn wsX11_exchange (wsV RX11 171 RX7 yX7_isGuest wsX7_isGuest) := goodIn_app (goodIn_of _ (by decide +kernel)) ggX11_exchange_X7_isGuest
set_option maxRecDepth 20000 in
theorem ggX11_exchange_X0_perform : GoodIn wsX11_exchange wsX0_perform := goodIn_r _ [15, 16, 17, 18, 19, 20, 21, 22, 23, 24, 25, 26, 27, 28, 29, 14, 30, 31, 32, 33, 34, 35, 36, 37, 38, 39, 40, 41, 42, 43, 44, 45, 46, 47, 48, 49, 50, 51, 52, 53, 54, 55, 56, 57, 58, 59, 60, 61, 62, 8, 63, 64, 65, 66, 67, 68, 69, 70, 71, 72, 73, 74, 75, 76, 77, 78, 79, 80, 81, 82, 83, 84, 85, 86, 87, 88, 89, 90, 91, 92, 93, 94, 95, 96, 97, 98, 99, 100, 101, 102, 103, 104, 105, 106, 107, 108, 109, 110, 111, 112, 113, 114, 115, 116, 117, 118, 119, 120, 121, 122, 123, 124, 125, 126, 127, 128, 129, 130, 131, 132, 133, 134, 135, 136, 137, 138, 139, 140, 141, 142, 143, 144, 145, 146, 147, 148, 149, 150, 151, 152, 153, 154, 192, 193, 194, 195, 196, 197, 198, 199, 200, 201, 202, 170, 171, 172, 173, 174, 175, 176, 177, 178, 179, 180, 181, 182, 183, 184, 185, 186, 187, 188, 189, 190, 191, 203, 204, 205, 206, 207, 208, 209, 210, 211, 212, 213, 214, 215, 216, 217, 218, 219, 220, 221] (by decide +kernel) (by decide +kernel)
set_option maxRecDepth 20000 in
theorem gX11_exchange_X0_perform : GoodIn wsX11_exchange (wsV RX11 210 RX0 yX0_perform wsX0_perform) := goodIn_app (goodIn_of _ (by decide +kernel)) ggX11_exchange_X0_perform
theorem dX11_exchange_0 : decode cX11_exchange 0 = .ok (.aload_n 0, 1) := by decide +kernel
theorem dX11_exchange_1 : decode cX11_exchange 1 = .ok (.getfield 16, 3) := by decide +kernel
theorem dX11_exchange_4 : decode cX11_exchange 4 = .ok (.iload_n 1, 1) := by decide +kernel
theorem dX11_exchange_5 : decode cX11_exchange 5 = .ok (.invokevirtual 171, 3) := by decide +kernel
theorem dX11_exchange_8 : decode cX11_exchange 8 = .ok (.ifCond .eq 19, 3) := by decide +kernel
theorem dX11_exchange_11 : decode cX11_exchange 11 = .ok (.aload_n 0, 1) := by decide +kernel
theorem dX11_exchange_12 : decode cX11_exchange 12 = .ok (.getfield 16, 3) := by decide +kernel
theorem dX11_exchange_15 : decode cX11_exchange 15 = .ok (.iload_n 2, 1) := by decide +kernel
theorem dX11_exchange_16 : decode cX11_exchange 16 = .ok (.invokevirtual 171, 3) := by decide +kernel
theorem dX11_exchange_19 : decode cX11_exchange 19 = .ok (.ifCond .eq 8, 3) := by decide +kernel
theorem dX11_exchange_22 : decode cX11_exchange 22 = .ok (.iload_n 1, 1) := by decide +kernel
theorem dX11_exchange_23 : decode cX11_exchange 23 = .ok (.iload_n 2, 1) := by decide +kernel
theorem dX11_exchange_24 : decode cX11_exchange 24 = .ok (.if_icmp .ne 5, 3) := by decide +kernel
theorem dX11_exchange_27 : decode cX11_exchange 27 = .ok (.iconst (-1), 1) := by decide +kernel
theorem dX11_exchange_28 : decode cX11_exchange 28 = .ok (.ireturn, 1) := by decide +kernel
theorem dX11_exchange_29 : decode cX11_exchange 29 = .ok (.aload_n 0, 1) := by decide +kernel
theorem dX11_exchange_30 : decode cX11_exchange 30 = .ok (.getfield 35, 3) := by decide +kernel
theorem dX11_exchange_33 : decode cX11_exchange 33 = .ok (.getfield 183, 3) := by decide +kernel
theorem dX11_exchange_36 : decode cX11_exchange 36 = .ok (.iload_n 1, 1) := by decide +kernel
theorem dX11_exchange_37 : decode cX11_exchange 37 = .ok (.iaload, 1) := by decide +kernel
theorem dX11_exchange_38 : decode cX11_exchange 38 = .ok (.iconst (-1), 1) := by decide +kernel
theorem dX11_exchange_39 : decode cX11_exchange 39 = .ok (.if_icmp .eq 16, 3) := by decide +kernel
theorem dX11_exchange_42 : decode cX11_exchange 42 = .ok (.aload_n 0, 1) := by decide +kernel
theorem dX11_exchange_43 : decode cX11_exchange 43 = .ok (.getfield 35, 3) := by decide +kernel
theorem dX11_exchange_46 : decode cX11_exchange 46 = .ok (.getfield 183, 3) := by decide +kernel
theorem dX11_exchange_49 : decode cX11_exchange 49 = .ok (.iload_n 2, 1) := by decide +kernel
theorem dX11_exchange_50 : decode cX11_exchange 50 = .ok (.iaload, 1) := by decide +kernel
theorem dX11_exchange_51 : decode cX11_exchange 51 = .ok (.iconst (-1), 1) := by decide +kernel
theorem dX11_exchange_52 : decode cX11_exchange 52 = .ok (.if_icmp .ne 5, 3) := by decide +kernel
theorem dX11_exchange_55 : decode cX11_exchange 55 = .ok (.iconst (-1), 1) := by decide +kernel
theorem dX11_exchange_56 : decode cX11_exchange 56 = .ok (.ireturn, 1) := by decide +kernel
theorem dX11_exchange_57 : decode cX11_exchange 57 = .ok (.aload_n 0, 1) := by decide +kernel
theorem dX11_exchange_58 : decode cX11_exchange 58 = .ok (.getfield 57, 3) := by decide +kernel
theorem dX11_exchange_61 : decode cX11_exchange 61 = .ok (.iconst 3, 1) := by decide +kernel
theorem dX11_exchange_62 : decode cX11_exchange 62 = .ok (.iload_n 1, 1) := by decide +kernel
theorem dX11_exchange_63 : decode cX11_exchange 63 = .ok (.iload_n 2, 1) := by decide +kernel
theorem dX11_exchange_64 : decode cX11_exchange 64 = .ok (.iconst 0, 1) := by decide +kernel
theorem dX11_exchange_65 : decode cX11_exchange 65 = .ok (.invokevirtual 210, 3) := by decide +kernel
theorem dX11_exchange_68 : decode cX11_exchange 68 = .ok (.aload_n 0, 1) := by decide +kernel
theorem dX11_exchange_69 : decode cX11_exchange 69 = .ok (.getfield 35, 3) := by decide +kernel
theorem dX11_exchange_72 : decode cX11_exchange 72 = .ok (.getfield 183, 3) := by decide +kernel
theorem dX11_exchange_75 : decode cX11_exchange 75 = .ok (.iload_n 1, 1) := by decide +kernel
theorem dX11_exchange_76 : decode cX11_exchange 76 = .ok (.iaload, 1) := by decide +kernel
theorem dX11_exchange_77 : decode cX11_exchange 77 = .ok (.ireturn, 1) := by decide +kernel
set_option maxRecDepth 20000 in
theorem ggX11_undo_X0_takeBack : GoodIn wsX11_undo wsX0_takeBack := goodIn_r _ [6, 7, 8, 9, 10, 5, 11, 12, 13, 14, 15, 16, 17, 18, 19, 20, 21, 22, 23, 24, 25, 26, 27, 28, 29, 30, 31, 32, 33, 34, 35, 36, 37, 38, 39, 40, 41, 42, 43, 44, 45, 46, 47, 48, 49, 50, 51, 52, 53, 54, 55, 56, 72, 73, 74, 75, 76, 77, 78, 79, 80, 81, 82, 83, 84, 85, 86, 87, 88, 89, 90, 91, 92, 93, 94, 95] (by decide +kernel) (by decide +kernel)
set_option maxRecDepth 20000 in
theorem gX11_undo_X0_takeBack : GoodIn wsX11_undo (wsV RX11 221 RX0 yX0_takeBack wsX0_takeBack) := goodIn_app (goodIn_of _ (by decide +kernel)) ggX11_undo_X0_takeBack
theorem dX11_undo_0 : decode cX11_undo 0 = .ok (.aload_n 0, 1) := by decide +kernel
theorem dX11_undo_1 : decode cX11_undo 1 = .ok (.getfield 57, 3) := by decide +kernel
theorem dX11_undo_4 : decode cX11_undo 4 = .ok (.invokevirtual 221, 3) := by decide +kernel
theorem dX11_undo_7 : decode cX11_undo 7 = .ok (.ireturn, 1) := by decide +kernel
set_option maxRecDepth 20000 in
theorem ggX11_redo_X0_doAgain : GoodIn wsX11_redo wsX0_doAgain := goodIn_r _ [6, 7, 8, 9, 10, 11, 5, 12, 13, 14, 15, 16, 17, 18, 19, 20, 21, 22, 23, 24, 25, 26, 27, 28, 29, 30, 31, 32, 33, 34, 35, 36, 37, 38, 39, 40, 41, 42, 43, 44, 45, 46, 47, 48, 49, 50, 51, 52, 53, 54, 55, 56, 57, 58, 59, 60, 61, 62, 63, 64, 65, 66, 67, 68, 69, 70, 71, 72, 73, 74, 75, 76, 77, 78, 79, 80, 81, 82, 83, 84, 85, 86, 87, 88, 89, 90, 91, 92, 93, 94, 95, 96, 97, 98, 99, 100, 101, 102, 103, 104, 105, 106, 107, 108, 109, 110, 111, 112, 113, 114, 115, 116, 117, 118, 119, 120, 121, 122, 123, 124, 125, 126, 127, 128, 129, 130, 131, 132, 133, 134, 135, 136, 137, 138, 154, 155, 156, 157, 158, 159, 160, 161, 162, 163, 164, 165, 166, 167, 168, 169, 170, 171, 172, 173, 174, 175, 176, 177, 178, 179, 180, 181, 182, 183, 184, 185, 186, 187, 188, 189, 190, 191, 192, 193, 194, 195, 196, 197, 198, 199, 200, 201, 202, 203, 204, 205] (by decide +kernel) (by decide +kernel)
set_option maxRecDepth 20000 in
theorem gX11_redo_X0_doAgain : GoodIn wsX11_redo (wsV RX11 225 RX0 yX0_doAgain wsX0_doAgain) := goodIn_app (goodIn_of _ (by decide +kernel)) ggX11_redo_X0_doAgain
theorem dX11_redo_0 : decode cX11_redo 0 = .ok (.aload_n 0, 1) := by decide +kernel
theorem dX11_redo_1 : decode cX11_redo 1 = .ok (.getfield 57, 3) := by decide +kernel
theorem dX11_redo_4 : decode cX11_redo 4 = .ok (.invokevirtual 225, 3) := by decide +kernel
theorem dX11_redo_7 : decode cX11_redo 7 = .ok (.ireturn, 1) := by decide +kernel
set_option maxRecDepth 20000 in
theorem ggX11_feeds_X7_isGuest : GoodIn wsX11_feeds wsX7_isGuest := goodIn_r _ [7, 8, 60, 61, 62, 63, 64, 65, 66, 67, 68, 69, 70, 71, 72, 73, 74, 75] (by decide +kernel) (by decide +kernel)
set_option maxRecDepth 20000 in
theorem gX11_feeds_X7_isGuest : GoodIn wsX11_feeds (wsV RX11 171 RX7 yX7_isGuest wsX7_isGuest) := goodIn_app (goodIn_of _ (by decide +kernel)) ggX11_feeds_X7_isGuest
set_option maxRecDepth 20000 in
theorem ggX11_feeds_X8_feeders : GoodIn wsX11_feeds wsX8_feeders := goodIn_r _ [13, 14, 15, 16, 17, 18, 19, 4, 5, 6, 7, 8, 20, 21, 22, 23, 24, 25, 26, 27, 28, 29, 30, 31, 32, 33, 34, 35, 36, 37, 38, 39, 40, 41, 42, 43, 44, 76, 77, 78, 79, 80, 81, 82, 83, 84, 85, 86, 87, 88, 89, 90, 60, 61, 62, 63, 64, 65, 66, 67, 68, 69, 70, 71, 72, 73, 74, 75, 91, 92, 93, 94, 95, 96, 97] (by decide +kernel) (by decide +kernel)
set_option maxRecDepth 20000 in
theorem gX11_feeds_X8_feeders : GoodIn wsX11_feeds (wsV RX11 228 RX8 yX8_feeders wsX8_feeders) := goodIn_app (goodIn_of _ (by decide +kernel)) ggX11_feeds_X8_feeders
theorem dX11_feeds_0 : decode cX11_feeds 0 = .ok (.aload_n 0, 1) := by decide +kernel
theorem dX11_feeds_1 : decode cX11_feeds 1 = .ok (.getfield 16, 3) := by decide +kernel
theorem dX11_feeds_4 : decode cX11_feeds 4 = .ok (.iload_n 1, 1) := by decide +kernel
theorem dX11_feeds_5 : decode cX11_feeds 5 = .ok (.invokevirtual 171, 3) := by decide +kernel
theorem dX11_feeds_8 : decode cX11_feeds 8 = .ok (.ifCond .ne 5, 3) := by decide +kernel
theorem dX11_feeds_11 : decode cX11_feeds 11 = .ok (.iconst (-1), 1) := by decide +kernel
theorem dX11_feeds_12 : decode cX11_feeds 12 = .ok (.ireturn, 1) := by decide +kernel
theorem dX11_feeds_13 : decode cX11_feeds 13 = .ok (.aload_n 0, 1) := by decide +kernel
theorem dX11_feeds_14 : decode cX11_feeds 14 = .ok (.getfield 64, 3) := by decide +kernel
theorem dX11_feeds_17 : decode cX11_feeds 17 = .ok (.iload_n 1, 1) := by decide +kernel
theorem dX11_feeds_18 : decode cX11_feeds 18 = .ok (.invokevirtual 228, 3) := by decide +kernel
theorem dX11_feeds_21 : decode cX11_feeds 21 = .ok (.ireturn, 1) := by decide +kernel
set_option maxRecDepth 20000 in
theorem ggX11_served_X8_servedIf : GoodIn wsX11_served wsX8_servedIf := goodIn_r _ [6, 7, 8, 9, 5, 10, 11, 12, 13, 14, 15, 16, 17, 18, 19, 20, 21, 22, 23, 24, 25, 26, 27, 28, 29, 30, 31, 32, 33, 34, 35, 36, 37, 38, 39, 40, 41, 42, 43, 44, 45, 46, 47, 48, 49, 50, 51, 52, 53, 54, 55, 56, 57, 58, 59, 60, 61, 62, 78, 79, 80, 81, 82, 83, 84, 85, 86, 87, 88, 89, 90, 91, 92, 93, 94, 95, 96, 97, 98, 99, 100, 101, 102, 103, 104, 105, 106, 107, 108, 109, 110, 111, 112, 113, 114, 115] (by decide +kernel) (by decide +kernel)
set_option maxRecDepth 20000 in
theorem gX11_served_X8_servedIf : GoodIn wsX11_served (wsV RX11 232 RX8 yX8_servedIf wsX8_servedIf) := goodIn_app (goodIn_of _ (by decide +kernel)) ggX11_served_X8_servedIf
theorem dX11_served_0 : decode cX11_served 0 = .ok (.aload_n 0, 1) := by decide +kernel
theorem dX11_served_1 : decode cX11_served 1 = .ok (.getfield 64, 3) := by decide +kernel
theorem dX11_served_4 : decode cX11_served 4 = .ok (.iconst 0, 1) := by decide +kernel
theorem dX11_served_5 : decode cX11_served 5 = .ok (.invokevirtual 232, 3) := by decide +kernel
theorem dX11_served_8 : decode cX11_served 8 = .ok (.ireturn, 1) := by decide +kernel
set_option maxRecDepth 20000 in
theorem ggX11_next_X8_findCut : GoodIn wsX11_next wsX8_findCut := goodIn_r _ [12, 13, 14, 15, 16, 17, 18, 19, 20, 11, 21, 22, 23, 24, 25, 26, 27, 28, 29, 30, 31, 32, 33, 34, 35, 36, 37, 38, 39, 40, 41, 42, 43, 44, 45, 46, 47, 48, 49, 50, 51, 52, 53, 54, 55, 56, 57, 58, 59, 60, 61, 62, 63, 64, 65, 66, 67, 68, 69, 70, 71, 72, 73, 74, 75, 76, 77, 78, 79, 80, 81, 82, 83, 105, 106, 107, 108, 109, 110, 111, 112, 113, 99, 100, 101, 102, 103, 104, 114, 115, 116, 117, 118, 119, 120, 121, 122, 123, 124, 125, 126, 127, 128, 129, 130, 131, 132, 133, 134, 135, 136] (by decide +kernel) (by decide +kernel)
set_option maxRecDepth 20000 in
theorem gX11_next_X8_findCut : GoodIn wsX11_next (wsV RX11 235 RX8 yX8_findCut wsX8_findCut) := goodIn_app (goodIn_of _ (by decide +kernel)) ggX11_next_X8_findCut
theorem dX11_next_0 : decode cX11_next 0 = .ok (.aload_n 0, 1) := by decide +kernel
theorem dX11_next_1 : decode cX11_next 1 = .ok (.getfield 35, 3) := by decide +kernel
theorem dX11_next_4 : decode cX11_next 4 = .ok (.getfield 207, 3) := by decide +kernel
theorem dX11_next_7 : decode cX11_next 7 = .ok (.bipush 24, 2) := by decide +kernel
theorem dX11_next_9 : decode cX11_next 9 = .ok (.if_icmp .ge 13, 3) := by decide +kernel
theorem dX11_next_12 : decode cX11_next 12 = .ok (.aload_n 0, 1) := by decide +kernel
theorem dX11_next_13 : decode cX11_next 13 = .ok (.getfield 64, 3) := by decide +kernel
theorem dX11_next_16 : decode cX11_next 16 = .ok (.invokevirtual 235, 3) := by decide +kernel
theorem dX11_next_19 : decode cX11_next 19 = .ok (.ifCond .ne 5, 3) := by decide +kernel
theorem dX11_next_22 : decode cX11_next 22 = .ok (.iconst (-1), 1) := by decide +kernel
theorem dX11_next_23 : decode cX11_next 23 = .ok (.ireturn, 1) := by decide +kernel
theorem dX11_next_24 : decode cX11_next 24 = .ok (.iload_n 1, 1) := by decide +kernel
theorem dX11_next_25 : decode cX11_next 25 = .ok (.tableswitch 63 0 3 #[31, 39, 47, 55], 31) := by decide +kernel
theorem dX11_next_56 : decode cX11_next 56 = .ok (.aload_n 0, 1) := by decide +kernel
theorem dX11_next_57 : decode cX11_next 57 = .ok (.getfield 64, 3) := by decide +kernel
theorem dX11_next_60 : decode cX11_next 60 = .ok (.getfield 238, 3) := by decide +kernel
theorem dX11_next_63 : decode cX11_next 63 = .ok (.ireturn, 1) := by decide +kernel
theorem dX11_next_64 : decode cX11_next 64 = .ok (.aload_n 0, 1) := by decide +kernel
theorem dX11_next_65 : decode cX11_next 65 = .ok (.getfield 64, 3) := by decide +kernel
theorem dX11_next_68 : decode cX11_next 68 = .ok (.getfield 241, 3) := by decide +kernel
theorem dX11_next_71 : decode cX11_next 71 = .ok (.ireturn, 1) := by decide +kernel
theorem dX11_next_72 : decode cX11_next 72 = .ok (.aload_n 0, 1) := by decide +kernel
theorem dX11_next_73 : decode cX11_next 73 = .ok (.getfield 64, 3) := by decide +kernel
theorem dX11_next_76 : decode cX11_next 76 = .ok (.getfield 244, 3) := by decide +kernel
theorem dX11_next_79 : decode cX11_next 79 = .ok (.ireturn, 1) := by decide +kernel
theorem dX11_next_80 : decode cX11_next 80 = .ok (.aload_n 0, 1) := by decide +kernel
theorem dX11_next_81 : decode cX11_next 81 = .ok (.getfield 64, 3) := by decide +kernel
theorem dX11_next_84 : decode cX11_next 84 = .ok (.getfield 247, 3) := by decide +kernel
theorem dX11_next_87 : decode cX11_next 87 = .ok (.ireturn, 1) := by decide +kernel
theorem dX11_next_88 : decode cX11_next 88 = .ok (.iconst (-1), 1) := by decide +kernel
theorem dX11_next_89 : decode cX11_next 89 = .ok (.ireturn, 1) := by decide +kernel
set_option maxRecDepth 20000 in
theorem ggX11_room_X7_isGuest : GoodIn wsX11_room wsX7_isGuest := goodIn_r _ [9, 10, 97, 98, 99, 100, 101, 102, 103, 104, 105, 106, 107, 108, 109, 110, 111, 112] (by decide +kernel) (by decide +kernel)
set_option maxRecDepth 20000 in
theorem gX11_room_X7_isGuest : GoodIn wsX11_room (wsV RX11 171 RX7 yX7_isGuest wsX7_isGuest) := goodIn_app (goodIn_of _ (by decide +kernel)) ggX11_room_X7_isGuest
set_option maxRecDepth 20000 in
theorem ggX11_room_X8_roomOf : GoodIn wsX11_room wsX8_roomOf := goodIn_r _ [15, 16, 17, 18, 19, 20, 21, 6, 7, 8, 9, 10, 22, 23, 24, 14, 25, 26, 27, 28, 29, 30, 31, 32, 33, 34, 35, 36, 37, 38, 39, 40, 41, 42, 43, 44, 45, 46, 47, 48, 49, 50, 51, 52, 53, 54, 55, 56, 57, 58, 59, 60, 61, 62, 63, 64, 65, 66, 67, 68, 69, 70, 71, 72, 73, 74, 75, 113, 114, 115, 116, 117, 118, 119, 120, 121, 97, 98, 99, 100, 101, 102, 103, 104, 105, 106, 107, 108, 109, 110, 111, 112, 91, 92, 93, 94, 95, 96, 122, 123, 124, 125, 126, 127, 128] (by decide +kernel) (by decide +kernel)
set_option maxRecDepth 20000 in
theorem gX11_room_X8_roomOf : GoodIn wsX11_room (wsV RX11 250 RX8 yX8_roomOf wsX8_roomOf) := goodIn_app (goodIn_of _ (by decide +kernel)) ggX11_room_X8_roomOf
theorem dX11_room_0 : decode cX11_room 0 = .ok (.aload_n 0, 1) := by decide +kernel
theorem dX11_room_1 : decode cX11_room 1 = .ok (.getfield 16, 3) := by decide +kernel
theorem dX11_room_4 : decode cX11_room 4 = .ok (.iload_n 1, 1) := by decide +kernel
theorem dX11_room_5 : decode cX11_room 5 = .ok (.invokevirtual 171, 3) := by decide +kernel
theorem dX11_room_8 : decode cX11_room 8 = .ok (.ifCond .eq 16, 3) := by decide +kernel
theorem dX11_room_11 : decode cX11_room 11 = .ok (.aload_n 0, 1) := by decide +kernel
theorem dX11_room_12 : decode cX11_room 12 = .ok (.getfield 35, 3) := by decide +kernel
theorem dX11_room_15 : decode cX11_room 15 = .ok (.getfield 183, 3) := by decide +kernel
theorem dX11_room_18 : decode cX11_room 18 = .ok (.iload_n 1, 1) := by decide +kernel
theorem dX11_room_19 : decode cX11_room 19 = .ok (.iaload, 1) := by decide +kernel
theorem dX11_room_20 : decode cX11_room 20 = .ok (.iconst (-1), 1) := by decide +kernel
theorem dX11_room_21 : decode cX11_room 21 = .ok (.if_icmp .eq 5, 3) := by decide +kernel
theorem dX11_room_24 : decode cX11_room 24 = .ok (.iconst (-1), 1) := by decide +kernel
theorem dX11_room_25 : decode cX11_room 25 = .ok (.ireturn, 1) := by decide +kernel
theorem dX11_room_26 : decode cX11_room 26 = .ok (.aload_n 0, 1) := by decide +kernel
theorem dX11_room_27 : decode cX11_room 27 = .ok (.getfield 64, 3) := by decide +kernel
theorem dX11_room_30 : decode cX11_room 30 = .ok (.iload_n 1, 1) := by decide +kernel
theorem dX11_room_31 : decode cX11_room 31 = .ok (.invokevirtual 250, 3) := by decide +kernel
theorem dX11_room_34 : decode cX11_room 34 = .ok (.ireturn, 1) := by decide +kernel
set_option maxRecDepth 20000 in
theorem ggX11_hungry_X8_feeders : GoodIn wsX11_hungry wsX8_feeders := goodIn_r _ [10, 11, 12, 13, 14, 15, 16, 17, 18, 19, 20, 21, 22, 23, 24, 25, 26, 27, 28, 29, 30, 31, 32, 33, 34, 35, 36, 37, 38, 39, 40, 41, 42, 43, 44, 45, 46, 84, 85, 86, 87, 88, 89, 90, 91, 92, 78, 79, 80, 81, 82, 83, 62, 63, 64, 65, 66, 67, 68, 69, 70, 71, 72, 73, 74, 75, 76, 77, 93, 94, 95, 96, 97, 98, 99] (by decide +kernel) (by decide +kernel)
set_option maxRecDepth 20000 in
theorem gX11_hungry_X8_feeders : GoodIn wsX11_hungry (wsV RX11 228 RX8 yX8_feeders wsX8_feeders) := goodIn_app (goodIn_of _ (by decide +kernel)) ggX11_hungry_X8_feeders
theorem dX11_hungry_0 : decode cX11_hungry 0 = .ok (.iconst 0, 1) := by decide +kernel
theorem dX11_hungry_1 : decode cX11_hungry 1 = .ok (.istore_n 1, 1) := by decide +kernel
theorem dX11_hungry_2 : decode cX11_hungry 2 = .ok (.iconst 0, 1) := by decide +kernel
theorem dX11_hungry_3 : decode cX11_hungry 3 = .ok (.istore_n 2, 1) := by decide +kernel
theorem dX11_hungry_4 : decode cX11_hungry 4 = .ok (.iload_n 2, 1) := by decide +kernel
theorem dX11_hungry_5 : decode cX11_hungry 5 = .ok (.aload_n 0, 1) := by decide +kernel
theorem dX11_hungry_6 : decode cX11_hungry 6 = .ok (.getfield 16, 3) := by decide +kernel
theorem dX11_hungry_9 : decode cX11_hungry 9 = .ok (.getfield 253, 3) := by decide +kernel
theorem dX11_hungry_12 : decode cX11_hungry 12 = .ok (.if_icmp .ge 39, 3) := by decide +kernel
theorem dX11_hungry_15 : decode cX11_hungry 15 = .ok (.aload_n 0, 1) := by decide +kernel
theorem dX11_hungry_16 : decode cX11_hungry 16 = .ok (.getfield 35, 3) := by decide +kernel
theorem dX11_hungry_19 : decode cX11_hungry 19 = .ok (.getfield 183, 3) := by decide +kernel
theorem dX11_hungry_22 : decode cX11_hungry 22 = .ok (.iload_n 2, 1) := by decide +kernel
theorem dX11_hungry_23 : decode cX11_hungry 23 = .ok (.iaload, 1) := by decide +kernel
theorem dX11_hungry_24 : decode cX11_hungry 24 = .ok (.iconst (-1), 1) := by decide +kernel
theorem dX11_hungry_25 : decode cX11_hungry 25 = .ok (.if_icmp .ne 20, 3) := by decide +kernel
theorem dX11_hungry_28 : decode cX11_hungry 28 = .ok (.aload_n 0, 1) := by decide +kernel
theorem dX11_hungry_29 : decode cX11_hungry 29 = .ok (.getfield 64, 3) := by decide +kernel
theorem dX11_hungry_32 : decode cX11_hungry 32 = .ok (.iload_n 2, 1) := by decide +kernel
theorem dX11_hungry_33 : decode cX11_hungry 33 = .ok (.invokevirtual 228, 3) := by decide +kernel
theorem dX11_hungry_36 : decode cX11_hungry 36 = .ok (.ifCond .ne 9, 3) := by decide +kernel
theorem dX11_hungry_39 : decode cX11_hungry 39 = .ok (.iload_n 1, 1) := by decide +kernel
theorem dX11_hungry_40 : decode cX11_hungry 40 = .ok (.iconst 1, 1) := by decide +kernel
theorem dX11_hungry_41 : decode cX11_hungry 41 = .ok (.iload_n 2, 1) := by decide +kernel
theorem dX11_hungry_42 : decode cX11_hungry 42 = .ok (.ishl, 1) := by decide +kernel
theorem dX11_hungry_43 : decode cX11_hungry 43 = .ok (.ior, 1) := by decide +kernel
theorem dX11_hungry_44 : decode cX11_hungry 44 = .ok (.istore_n 1, 1) := by decide +kernel
theorem dX11_hungry_45 : decode cX11_hungry 45 = .ok (.iinc 2 1, 3) := by decide +kernel
theorem dX11_hungry_48 : decode cX11_hungry 48 = .ok (.goto (-44), 3) := by decide +kernel
theorem dX11_hungry_51 : decode cX11_hungry 51 = .ok (.iload_n 1, 1) := by decide +kernel
theorem dX11_hungry_52 : decode cX11_hungry 52 = .ok (.ireturn, 1) := by decide +kernel
set_option maxRecDepth 20000 in
theorem ggX11_law_X8_servedIf : GoodIn wsX11_law wsX8_servedIf := goodIn_r _ [6, 7, 8, 9, 5, 10, 11, 12, 13, 14, 15, 16, 17, 18, 19, 20, 21, 22, 23, 24, 25, 26, 27, 28, 29, 30, 31, 32, 33, 34, 35, 36, 37, 38, 39, 40, 41, 42, 43, 44, 45, 46, 47, 48, 49, 50, 51, 52, 53, 54, 55, 56, 57, 58, 59, 60, 61, 62, 78, 79, 80, 81, 82, 83, 84, 85, 86, 87, 88, 89, 90, 91, 92, 93, 94, 95, 96, 97, 98, 99, 100, 101, 102, 103, 104, 105, 106, 107, 108, 109, 110, 111, 112, 113, 114, 115] (by decide +kernel) (by decide +kernel)
set_option maxRecDepth 20000 in
theorem gX11_law_X8_servedIf : GoodIn wsX11_law (wsV RX11 232 RX8 yX8_servedIf wsX8_servedIf) := goodIn_app (goodIn_of _ (by decide +kernel)) ggX11_law_X8_servedIf
theorem dX11_law_0 : decode cX11_law 0 = .ok (.iload_n 1, 1) := by decide +kernel
theorem dX11_law_1 : decode cX11_law 1 = .ok (.bipush (-99), 2) := by decide +kernel
theorem dX11_law_3 : decode cX11_law 3 = .ok (.if_icmp .lt 9, 3) := by decide +kernel
theorem dX11_law_6 : decode cX11_law 6 = .ok (.iload_n 1, 1) := by decide +kernel
theorem dX11_law_7 : decode cX11_law 7 = .ok (.bipush 99, 2) := by decide +kernel
theorem dX11_law_9 : decode cX11_law 9 = .ok (.if_icmp .le 5, 3) := by decide +kernel
theorem dX11_law_12 : decode cX11_law 12 = .ok (.iconst (-1), 1) := by decide +kernel
theorem dX11_law_13 : decode cX11_law 13 = .ok (.ireturn, 1) := by decide +kernel
theorem dX11_law_14 : decode cX11_law 14 = .ok (.aload_n 0, 1) := by decide +kernel
theorem dX11_law_15 : decode cX11_law 15 = .ok (.getfield 64, 3) := by decide +kernel
theorem dX11_law_18 : decode cX11_law 18 = .ok (.iload_n 1, 1) := by decide +kernel
theorem dX11_law_19 : decode cX11_law 19 = .ok (.invokevirtual 232, 3) := by decide +kernel
theorem dX11_law_22 : decode cX11_law 22 = .ok (.ireturn, 1) := by decide +kernel
set_option maxRecDepth 20000 in
theorem ggX11_envies_X7_isGuest : GoodIn wsX11_envies wsX7_isGuest := goodIn_r _ [7, 8, 93, 94, 95, 96, 97, 98, 99, 100, 101, 102, 103, 104, 105, 106, 107, 108] (by decide +kernel) (by decide +kernel)
set_option maxRecDepth 20000 in
theorem gX11_envies_X7_isGuest : GoodIn wsX11_envies (wsV RX11 171 RX7 yX7_isGuest wsX7_isGuest) := goodIn_app (goodIn_of _ (by decide +kernel)) ggX11_envies_X7_isGuest
set_option maxRecDepth 20000 in
theorem ggX11_envies_X10_enviedBy : GoodIn wsX11_envies wsX10_enviedBy := goodIn_r _ [13, 14, 15, 16, 17, 18, 4, 5, 6, 7, 8, 19, 20, 21, 12, 22, 23, 24, 25, 26, 27, 28, 29, 30, 31, 32, 33, 34, 35, 36, 37, 38, 39, 40, 41, 42, 43, 44, 45, 46, 47, 48, 49, 50, 51, 52, 53, 54, 55, 56, 57, 58, 59, 60, 61, 62, 63, 64, 65, 66, 67, 68, 69, 70, 71, 72, 73, 74, 75, 76, 77, 109, 110, 111, 112, 113, 114, 115, 116, 117, 118, 119, 120, 121, 93, 94, 95, 96, 97, 98, 99, 100, 101, 102, 103, 104, 105, 106, 107, 108, 122, 123, 124, 125, 126, 127, 128, 129, 130, 131, 132, 133] (by decide +kernel) (by decide +kernel)
set_option maxRecDepth 20000 in
theorem gX11_envies_X10_enviedBy : GoodIn wsX11_envies (wsV RX11 256 RX10 yX10_enviedBy wsX10_enviedBy) := goodIn_app (goodIn_of _ (by decide +kernel)) ggX11_envies_X10_enviedBy
theorem dX11_envies_0 : decode cX11_envies 0 = .ok (.aload_n 0, 1) := by decide +kernel
theorem dX11_envies_1 : decode cX11_envies 1 = .ok (.getfield 16, 3) := by decide +kernel
theorem dX11_envies_4 : decode cX11_envies 4 = .ok (.iload_n 1, 1) := by decide +kernel
theorem dX11_envies_5 : decode cX11_envies 5 = .ok (.invokevirtual 171, 3) := by decide +kernel
theorem dX11_envies_8 : decode cX11_envies 8 = .ok (.ifCond .ne 5, 3) := by decide +kernel
theorem dX11_envies_11 : decode cX11_envies 11 = .ok (.iconst (-1), 1) := by decide +kernel
theorem dX11_envies_12 : decode cX11_envies 12 = .ok (.ireturn, 1) := by decide +kernel
theorem dX11_envies_13 : decode cX11_envies 13 = .ok (.aload_n 0, 1) := by decide +kernel
theorem dX11_envies_14 : decode cX11_envies 14 = .ok (.getfield 48, 3) := by decide +kernel
theorem dX11_envies_17 : decode cX11_envies 17 = .ok (.iload_n 1, 1) := by decide +kernel
theorem dX11_envies_18 : decode cX11_envies 18 = .ok (.invokevirtual 256, 3) := by decide +kernel
theorem dX11_envies_21 : decode cX11_envies 21 = .ok (.ireturn, 1) := by decide +kernel
set_option maxRecDepth 20000 in
theorem ggX11_quarrel_X10_enviedBy : GoodIn wsX11_quarrel wsX10_enviedBy := goodIn_r _ [8, 9, 10, 11, 12, 13, 14, 15, 16, 17, 18, 19, 20, 21, 7, 22, 23, 24, 25, 26, 27, 28, 29, 30, 31, 32, 33, 34, 35, 36, 37, 38, 39, 40, 41, 42, 43, 44, 45, 46, 47, 48, 49, 50, 51, 52, 53, 54, 55, 56, 57, 58, 59, 60, 61, 62, 63, 64, 65, 66, 67, 68, 69, 70, 71, 72, 73, 74, 75, 76, 77, 116, 117, 118, 119, 120, 121, 122, 123, 124, 125, 126, 127, 128, 100, 101, 102, 103, 104, 105, 106, 107, 108, 109, 110, 111, 112, 113, 114, 115, 129, 130, 131, 132, 133, 134, 135, 136, 137, 138, 139, 140] (by decide +kernel) (by decide +kernel)
set_option maxRecDepth 20000 in
theorem gX11_quarrel_X10_enviedBy : GoodIn wsX11_quarrel (wsV RX11 256 RX10 yX10_enviedBy wsX10_enviedBy) := goodIn_app (goodIn_of _ (by decide +kernel)) ggX11_quarrel_X10_enviedBy
set_option maxRecDepth 20000 in
theorem ggX11_quarrel_J6_bitCount_0f7a4 : GoodIn wsX11_quarrel wsJ6_bitCount_0f7a4 := goodIn_r _ [81, 82, 83, 84] (by decide +kernel) (by decide +kernel)
set_option maxRecDepth 20000 in
theorem gX11_quarrel_J6_bitCount_0f7a4 : GoodIn wsX11_quarrel (va_wsS RX11 259 yJ6_bitCount_0f7a4 wsJ6_bitCount_0f7a4) := goodIn_app (goodIn_of _ (by decide +kernel)) ggX11_quarrel_J6_bitCount_0f7a4
theorem dX11_quarrel_0 : decode cX11_quarrel 0 = .ok (.iconst 0, 1) := by decide +kernel
theorem dX11_quarrel_1 : decode cX11_quarrel 1 = .ok (.istore_n 1, 1) := by decide +kernel
theorem dX11_quarrel_2 : decode cX11_quarrel 2 = .ok (.iconst 0, 1) := by decide +kernel
theorem dX11_quarrel_3 : decode cX11_quarrel 3 = .ok (.istore_n 2, 1) := by decide +kernel
theorem dX11_quarrel_4 : decode cX11_quarrel 4 = .ok (.iload_n 2, 1) := by decide +kernel
theorem dX11_quarrel_5 : decode cX11_quarrel 5 = .ok (.aload_n 0, 1) := by decide +kernel
theorem dX11_quarrel_6 : decode cX11_quarrel 6 = .ok (.getfield 16, 3) := by decide +kernel
theorem dX11_quarrel_9 : decode cX11_quarrel 9 = .ok (.getfield 253, 3) := by decide +kernel
theorem dX11_quarrel_12 : decode cX11_quarrel 12 = .ok (.if_icmp .ge 23, 3) := by decide +kernel
theorem dX11_quarrel_15 : decode cX11_quarrel 15 = .ok (.iload_n 1, 1) := by decide +kernel
theorem dX11_quarrel_16 : decode cX11_quarrel 16 = .ok (.aload_n 0, 1) := by decide +kernel
theorem dX11_quarrel_17 : decode cX11_quarrel 17 = .ok (.getfield 48, 3) := by decide +kernel
theorem dX11_quarrel_20 : decode cX11_quarrel 20 = .ok (.iload_n 2, 1) := by decide +kernel
theorem dX11_quarrel_21 : decode cX11_quarrel 21 = .ok (.invokevirtual 256, 3) := by decide +kernel
theorem dX11_quarrel_24 : decode cX11_quarrel 24 = .ok (.invokestatic 259, 3) := by decide +kernel
theorem dX11_quarrel_27 : decode cX11_quarrel 27 = .ok (.iadd, 1) := by decide +kernel
theorem dX11_quarrel_28 : decode cX11_quarrel 28 = .ok (.istore_n 1, 1) := by decide +kernel
theorem dX11_quarrel_29 : decode cX11_quarrel 29 = .ok (.iinc 2 1, 3) := by decide +kernel
theorem dX11_quarrel_32 : decode cX11_quarrel 32 = .ok (.goto (-28), 3) := by decide +kernel
theorem dX11_quarrel_35 : decode cX11_quarrel 35 = .ok (.iload_n 1, 1) := by decide +kernel
theorem dX11_quarrel_36 : decode cX11_quarrel 36 = .ok (.ireturn, 1) := by decide +kernel
set_option maxRecDepth 20000 in
theorem ggX11_calm_X10_findCalm : GoodIn wsX11_calm wsX10_findCalm := goodIn_r _ [9, 10, 11, 12, 13, 14, 15, 16, 17, 18, 19, 20, 8, 21, 22, 23, 24, 25, 26, 27, 28, 29, 30, 31, 32, 33, 34, 35, 36, 37, 38, 39, 40, 41, 42, 43, 44, 45, 46, 47, 48, 49, 50, 51, 52, 53, 54, 55, 56, 57, 58, 59, 60, 61, 62, 63, 64, 65, 66, 67, 68, 69, 70, 71, 72, 73, 74, 75, 76, 77, 78, 79, 80, 81, 82, 83, 84, 85, 86, 87, 88, 89, 105, 106, 107, 108, 109, 110, 111, 112, 113, 114, 115, 116, 117, 118, 119, 120, 121, 122, 123, 124, 125, 126, 127, 128, 129, 130, 131, 132, 133, 134, 135, 136, 137, 138, 139, 140, 141, 142, 143, 144, 145] (by decide +kernel) (by decide +kernel)
set_option maxRecDepth 20000 in
theorem gX11_calm_X10_findCalm : GoodIn wsX11_calm (wsV RX11 264 RX10 yX10_findCalm wsX10_findCalm) := goodIn_app (goodIn_of _ (by decide +kernel)) ggX11_calm_X10_findCalm
theorem dX11_calm_0 : decode cX11_calm 0 = .ok (.aload_n 0, 1) := by decide +kernel
theorem dX11_calm_1 : decode cX11_calm 1 = .ok (.getfield 48, 3) := by decide +kernel
theorem dX11_calm_4 : decode cX11_calm 4 = .ok (.invokevirtual 264, 3) := by decide +kernel
theorem dX11_calm_7 : decode cX11_calm 7 = .ok (.ifCond .ne 5, 3) := by decide +kernel
theorem dX11_calm_10 : decode cX11_calm 10 = .ok (.iconst (-1), 1) := by decide +kernel
theorem dX11_calm_11 : decode cX11_calm 11 = .ok (.ireturn, 1) := by decide +kernel
theorem dX11_calm_12 : decode cX11_calm 12 = .ok (.iload_n 1, 1) := by decide +kernel
theorem dX11_calm_13 : decode cX11_calm 13 = .ok (.tableswitch 51 0 2 #[27, 35, 43], 27) := by decide +kernel
theorem dX11_calm_40 : decode cX11_calm 40 = .ok (.aload_n 0, 1) := by decide +kernel
theorem dX11_calm_41 : decode cX11_calm 41 = .ok (.getfield 48, 3) := by decide +kernel
theorem dX11_calm_44 : decode cX11_calm 44 = .ok (.getfield 267, 3) := by decide +kernel
theorem dX11_calm_47 : decode cX11_calm 47 = .ok (.ireturn, 1) := by decide +kernel
theorem dX11_calm_48 : decode cX11_calm 48 = .ok (.aload_n 0, 1) := by decide +kernel
theorem dX11_calm_49 : decode cX11_calm 49 = .ok (.getfield 48, 3) := by decide +kernel
theorem dX11_calm_52 : decode cX11_calm 52 = .ok (.getfield 270, 3) := by decide +kernel
theorem dX11_calm_55 : decode cX11_calm 55 = .ok (.ireturn, 1) := by decide +kernel
theorem dX11_calm_56 : decode cX11_calm 56 = .ok (.aload_n 0, 1) := by decide +kernel
theorem dX11_calm_57 : decode cX11_calm 57 = .ok (.getfield 48, 3) := by decide +kernel
theorem dX11_calm_60 : decode cX11_calm 60 = .ok (.getfield 273, 3) := by decide +kernel
theorem dX11_calm_63 : decode cX11_calm 63 = .ok (.ireturn, 1) := by decide +kernel
theorem dX11_calm_64 : decode cX11_calm 64 = .ok (.iconst (-1), 1) := by decide +kernel
theorem dX11_calm_65 : decode cX11_calm 65 = .ok (.ireturn, 1) := by decide +kernel
set_option maxRecDepth 20000 in
theorem ggX11_halve_X11_canHalve : GoodIn wsX11_halve wsX11_canHalve := goodIn_r _ [9, 10, 11, 12, 13, 14, 15, 16, 17, 18, 19, 20, 21, 22, 23, 24, 25, 26, 27, 28, 29, 121, 122, 123, 124, 125, 126, 127, 128, 129, 130, 131, 132, 133, 134, 135, 152, 153, 154, 155, 156, 157, 158, 159, 160, 161, 162, 163, 164, 165, 166, 167, 168, 169, 170, 171, 172, 173, 174, 175, 176, 177, 178, 179, 180] (by decide +kernel) (by decide +kernel)
set_option maxRecDepth 20000 in
theorem gX11_halve_X11_canHalve : GoodIn wsX11_halve (wsV RX11 276 RX11 yX11_canHalve wsX11_canHalve) := goodIn_app (goodIn_of _ (by decide +kernel)) ggX11_halve_X11_canHalve
set_option maxRecDepth 20000 in
theorem ggX11_halve_X5_findHalves : GoodIn wsX11_halve wsX5_findHalves := goodIn_r _ [34, 35, 36, 37, 38, 39, 40, 41, 42, 43, 44, 19, 20, 21, 22, 23, 24, 25, 26, 27, 28, 29, 45, 46, 47, 48, 49, 50, 51, 52, 53, 54, 55, 56, 57, 58, 59, 60, 61, 62, 63, 64, 65, 66, 67, 68, 69, 70, 71, 72, 73, 74, 75, 76, 77, 78, 79, 80, 81, 82, 83, 84, 85, 86, 87, 15, 88, 89, 90, 91, 92, 93, 94, 95, 96, 97, 98, 99, 100, 101, 102, 103, 104, 105, 106, 13, 14, 16, 17, 107, 108, 109, 110, 111, 112, 113, 114, 115, 116, 117, 118, 119, 120, 136, 137, 138, 139, 140, 141, 142, 143, 144, 145, 146, 147, 148, 149, 150, 151, 168, 169, 170, 171, 172, 173, 174, 175, 176, 177, 178, 179, 180, 181, 182, 183, 184, 185, 186, 187, 152, 153, 154, 155, 156, 157, 158, 159, 160, 161, 162, 163, 164, 165, 166, 167, 188, 189, 190, 191, 192] (by decide +kernel) (by decide +kernel)
set_option maxRecDepth 20000 in
theorem gX11_halve_X5_findHalves : GoodIn wsX11_halve (wsV RX11 279 RX5 yX5_findHalves wsX5_findHalves) := goodIn_app (goodIn_of _ (by decide +kernel)) ggX11_halve_X5_findHalves
theorem dX11_halve_0 : decode cX11_halve 0 = .ok (.aload_n 0, 1) := by decide +kernel
theorem dX11_halve_1 : decode cX11_halve 1 = .ok (.iload_n 1, 1) := by decide +kernel
theorem dX11_halve_2 : decode cX11_halve 2 = .ok (.iload_n 2, 1) := by decide +kernel
theorem dX11_halve_3 : decode cX11_halve 3 = .ok (.iload_n 3, 1) := by decide +kernel
theorem dX11_halve_4 : decode cX11_halve 4 = .ok (.invokevirtual 276, 3) := by decide +kernel
theorem dX11_halve_7 : decode cX11_halve 7 = .ok (.ifCond .eq 16, 3) := by decide +kernel
theorem dX11_halve_10 : decode cX11_halve 10 = .ok (.aload_n 0, 1) := by decide +kernel
theorem dX11_halve_11 : decode cX11_halve 11 = .ok (.getfield 71, 3) := by decide +kernel
theorem dX11_halve_14 : decode cX11_halve 14 = .ok (.iload_n 1, 1) := by decide +kernel
theorem dX11_halve_15 : decode cX11_halve 15 = .ok (.iload_n 2, 1) := by decide +kernel
theorem dX11_halve_16 : decode cX11_halve 16 = .ok (.iload_n 3, 1) := by decide +kernel
theorem dX11_halve_17 : decode cX11_halve 17 = .ok (.invokevirtual 279, 3) := by decide +kernel
theorem dX11_halve_20 : decode cX11_halve 20 = .ok (.ifCond .ne 5, 3) := by decide +kernel
theorem dX11_halve_23 : decode cX11_halve 23 = .ok (.iconst (-1), 1) := by decide +kernel
theorem dX11_halve_24 : decode cX11_halve 24 = .ok (.ireturn, 1) := by decide +kernel
theorem dX11_halve_25 : decode cX11_halve 25 = .ok (.iload 4, 2) := by decide +kernel
theorem dX11_halve_27 : decode cX11_halve 27 = .ok (.tableswitch 49 0 2 #[25, 33, 41], 25) := by decide +kernel
theorem dX11_halve_52 : decode cX11_halve 52 = .ok (.aload_n 0, 1) := by decide +kernel
theorem dX11_halve_53 : decode cX11_halve 53 = .ok (.getfield 71, 3) := by decide +kernel
theorem dX11_halve_56 : decode cX11_halve 56 = .ok (.getfield 282, 3) := by decide +kernel
theorem dX11_halve_59 : decode cX11_halve 59 = .ok (.ireturn, 1) := by decide +kernel
theorem dX11_halve_60 : decode cX11_halve 60 = .ok (.aload_n 0, 1) := by decide +kernel
theorem dX11_halve_61 : decode cX11_halve 61 = .ok (.getfield 71, 3) := by decide +kernel
theorem dX11_halve_64 : decode cX11_halve 64 = .ok (.getfield 285, 3) := by decide +kernel
theorem dX11_halve_67 : decode cX11_halve 67 = .ok (.ireturn, 1) := by decide +kernel
theorem dX11_halve_68 : decode cX11_halve 68 = .ok (.aload_n 0, 1) := by decide +kernel
theorem dX11_halve_69 : decode cX11_halve 69 = .ok (.getfield 71, 3) := by decide +kernel
theorem dX11_halve_72 : decode cX11_halve 72 = .ok (.getfield 288, 3) := by decide +kernel
theorem dX11_halve_75 : decode cX11_halve 75 = .ok (.ireturn, 1) := by decide +kernel
theorem dX11_halve_76 : decode cX11_halve 76 = .ok (.iconst (-1), 1) := by decide +kernel
theorem dX11_halve_77 : decode cX11_halve 77 = .ok (.ireturn, 1) := by decide +kernel
set_option maxRecDepth 20000 in
theorem ggX11_share_X11_canHalve : GoodIn wsX11_share wsX11_canHalve := goodIn_r _ [8, 9, 10, 11, 12, 13, 14, 15, 16, 17, 18, 19, 20, 21, 22, 23, 24, 25, 26, 27, 28, 120, 121, 122, 123, 124, 125, 126, 127, 128, 129, 130, 131, 132, 133, 134, 151, 152, 153, 154, 155, 156, 157, 158, 159, 160, 161, 162, 163, 164, 165, 166, 167, 168, 169, 170, 171, 172, 173, 174, 175, 176, 177, 178, 179] (by decide +kernel) (by decide +kernel)
set_option maxRecDepth 20000 in
theorem gX11_share_X11_canHalve : GoodIn wsX11_share (wsV RX11 276 RX11 yX11_canHalve wsX11_canHalve) := goodIn_app (goodIn_of _ (by decide +kernel)) ggX11_share_X11_canHalve
set_option maxRecDepth 20000 in
theorem ggX11_share_X5_findHalves : GoodIn wsX11_share wsX5_findHalves := goodIn_r _ [33, 34, 35, 36, 37, 38, 39, 40, 41, 42, 43, 18, 19, 20, 21, 22, 23, 24, 25, 26, 27, 28, 44, 45, 46, 47, 48, 49, 50, 51, 52, 53, 54, 55, 56, 57, 58, 59, 60, 61, 62, 63, 64, 65, 66, 67, 68, 69, 70, 71, 72, 73, 74, 75, 76, 77, 78, 79, 80, 81, 82, 83, 84, 85, 86, 14, 87, 88, 89, 90, 91, 92, 93, 94, 95, 96, 97, 98, 99, 100, 101, 102, 103, 104, 105, 12, 13, 15, 16, 106, 107, 108, 109, 110, 111, 112, 113, 114, 115, 116, 117, 118, 119, 135, 136, 137, 138, 139, 140, 141, 142, 143, 144, 145, 146, 147, 148, 149, 150, 167, 168, 169, 170, 171, 172, 173, 174, 175, 176, 177, 178, 179, 180, 181, 182, 183, 184, 185, 186, 151, 152, 153, 154, 155, 156, 157, 158, 159, 160, 161, 162, 163, 164, 165, 166, 187, 188, 189, 190, 191] (by decide +kernel) (by decide +kernel)
set_option maxRecDepth 20000 in
theorem gX11_share_X5_findHalves : GoodIn wsX11_share (wsV RX11 279 RX5 yX5_findHalves wsX5_findHalves) := goodIn_app (goodIn_of _ (by decide +kernel)) ggX11_share_X5_findHalves
theorem dX11_share_0 : decode cX11_share 0 = .ok (.aload_n 0, 1) := by decide +kernel
theorem dX11_share_1 : decode cX11_share 1 = .ok (.iload_n 1, 1) := by decide +kernel
theorem dX11_share_2 : decode cX11_share 2 = .ok (.iload_n 2, 1) := by decide +kernel
theorem dX11_share_3 : decode cX11_share 3 = .ok (.iload_n 3, 1) := by decide +kernel
theorem dX11_share_4 : decode cX11_share 4 = .ok (.invokevirtual 276, 3) := by decide +kernel
theorem dX11_share_7 : decode cX11_share 7 = .ok (.ifCond .eq 16, 3) := by decide +kernel
theorem dX11_share_10 : decode cX11_share 10 = .ok (.aload_n 0, 1) := by decide +kernel
theorem dX11_share_11 : decode cX11_share 11 = .ok (.getfield 71, 3) := by decide +kernel
theorem dX11_share_14 : decode cX11_share 14 = .ok (.iload_n 1, 1) := by decide +kernel
theorem dX11_share_15 : decode cX11_share 15 = .ok (.iload_n 2, 1) := by decide +kernel
theorem dX11_share_16 : decode cX11_share 16 = .ok (.iload_n 3, 1) := by decide +kernel
theorem dX11_share_17 : decode cX11_share 17 = .ok (.invokevirtual 279, 3) := by decide +kernel
theorem dX11_share_20 : decode cX11_share 20 = .ok (.ifCond .ne 6, 3) := by decide +kernel
theorem dX11_share_23 : decode cX11_share 23 = .ok (.ldc 190, 2) := by decide +kernel
theorem dX11_share_25 : decode cX11_share 25 = .ok (.ireturn, 1) := by decide +kernel
theorem dX11_share_26 : decode cX11_share 26 = .ok (.aload_n 0, 1) := by decide +kernel
theorem dX11_share_27 : decode cX11_share 27 = .ok (.getfield 71, 3) := by decide +kernel
theorem dX11_share_30 : decode cX11_share 30 = .ok (.getfield 291, 3) := by decide +kernel
theorem dX11_share_33 : decode cX11_share 33 = .ok (.ireturn, 1) := by decide +kernel
set_option maxRecDepth 20000 in
theorem ggX11_canHalve_X7_isGuest : GoodIn wsX11_canHalve wsX7_isGuest := goodIn_r _ [7, 8, 36, 37, 38, 39, 40, 41, 42, 43, 44, 45, 46, 47, 48, 49, 50, 51] (by decide +kernel) (by decide +kernel)
set_option maxRecDepth 20000 in
theorem gX11_canHalve_X7_isGuest : GoodIn wsX11_canHalve (wsV RX11 171 RX7 yX7_isGuest wsX7_isGuest) := goodIn_app (goodIn_of _ (by decide +kernel)) ggX11_canHalve_X7_isGuest
set_option maxRecDepth 20000 in
theorem ggX11_canHalve_X1_isFree : GoodIn wsX11_canHalve wsX1_isFree := goodIn_r _ [13, 14, 15, 16, 17, 18, 12, 19, 20, 52, 53, 54, 55, 56, 57, 58, 59, 60, 61, 62, 63, 64] (by decide +kernel) (by decide +kernel)
set_option maxRecDepth 20000 in
theorem gX11_canHalve_X1_isFree : GoodIn wsX11_canHalve (wsV RX11 214 RX1 yX1_isFree wsX1_isFree) := goodIn_app (goodIn_of _ (by decide +kernel)) ggX11_canHalve_X1_isFree
theorem dX11_canHalve_0 : decode cX11_canHalve 0 = .ok (.aload_n 0, 1) := by decide +kernel
theorem dX11_canHalve_1 : decode cX11_canHalve 1 = .ok (.getfield 16, 3) := by decide +kernel
theorem dX11_canHalve_4 : decode cX11_canHalve 4 = .ok (.iload_n 2, 1) := by decide +kernel
theorem dX11_canHalve_5 : decode cX11_canHalve 5 = .ok (.invokevirtual 171, 3) := by decide +kernel
theorem dX11_canHalve_8 : decode cX11_canHalve 8 = .ok (.ifCond .eq 34, 3) := by decide +kernel
theorem dX11_canHalve_11 : decode cX11_canHalve 11 = .ok (.aload_n 0, 1) := by decide +kernel
theorem dX11_canHalve_12 : decode cX11_canHalve 12 = .ok (.getfield 16, 3) := by decide +kernel
theorem dX11_canHalve_15 : decode cX11_canHalve 15 = .ok (.iload_n 3, 1) := by decide +kernel
theorem dX11_canHalve_16 : decode cX11_canHalve 16 = .ok (.invokevirtual 171, 3) := by decide +kernel
theorem dX11_canHalve_19 : decode cX11_canHalve 19 = .ok (.ifCond .eq 23, 3) := by decide +kernel
theorem dX11_canHalve_22 : decode cX11_canHalve 22 = .ok (.iload_n 2, 1) := by decide +kernel
theorem dX11_canHalve_23 : decode cX11_canHalve 23 = .ok (.iload_n 3, 1) := by decide +kernel
theorem dX11_canHalve_24 : decode cX11_canHalve 24 = .ok (.if_icmp .eq 18, 3) := by decide +kernel
theorem dX11_canHalve_27 : decode cX11_canHalve 27 = .ok (.aload_n 0, 1) := by decide +kernel
theorem dX11_canHalve_28 : decode cX11_canHalve 28 = .ok (.getfield 35, 3) := by decide +kernel
theorem dX11_canHalve_31 : decode cX11_canHalve 31 = .ok (.iload_n 1, 1) := by decide +kernel
theorem dX11_canHalve_32 : decode cX11_canHalve 32 = .ok (.invokevirtual 214, 3) := by decide +kernel
theorem dX11_canHalve_35 : decode cX11_canHalve 35 = .ok (.ifCond .eq 7, 3) := by decide +kernel
theorem dX11_canHalve_38 : decode cX11_canHalve 38 = .ok (.iconst 1, 1) := by decide +kernel
theorem dX11_canHalve_39 : decode cX11_canHalve 39 = .ok (.goto 4, 3) := by decide +kernel
theorem dX11_canHalve_42 : decode cX11_canHalve 42 = .ok (.iconst 0, 1) := by decide +kernel
theorem dX11_canHalve_43 : decode cX11_canHalve 43 = .ok (.ireturn, 1) := by decide +kernel
set_option maxRecDepth 20000 in
theorem ggX11_picks_X5_pickByNumber : GoodIn wsX11_picks wsX5_pickByNumber := goodIn_r _ [10, 11, 12, 13, 14, 15, 16, 17, 9, 18, 19, 20, 21, 22, 23, 24, 25, 26, 27, 28, 29, 30, 31, 32, 33, 34, 35, 36, 37, 38, 39, 40, 41, 42, 43, 44, 45, 46, 47, 48, 49, 50, 51, 52, 53, 54, 55, 56, 57, 58, 59, 60, 61, 62, 63, 64, 65, 66, 67, 68, 69, 70, 71, 72, 73, 74, 75, 76, 77, 78, 79, 80, 81, 82, 83, 84, 85, 86, 87, 88, 89, 90, 91, 92, 93, 94, 95, 96, 97, 98, 99, 100, 101, 102, 103, 104, 105, 106, 107, 108, 109, 110, 111, 112, 113, 145, 146, 147, 148, 149, 150, 151, 152, 153, 154, 155, 156, 157, 158, 159, 160, 129, 130, 131, 132, 133, 134, 135, 136, 137, 138, 139, 140, 141, 142, 143, 144, 161, 162, 163, 164, 165, 166, 167, 168, 169, 170, 171, 172, 173, 174, 175, 176, 177, 178, 179, 180, 181, 182, 183, 184, 185] (by decide +kernel) (by decide +kernel)
set_option maxRecDepth 20000 in
theorem gX11_picks_X5_pickByNumber : GoodIn wsX11_picks (wsV RX11 294 RX5 yX5_pickByNumber wsX5_pickByNumber) := goodIn_app (goodIn_of _ (by decide +kernel)) ggX11_picks_X5_pickByNumber
theorem dX11_picks_0 : decode cX11_picks 0 = .ok (.aload_n 0, 1) := by decide +kernel
theorem dX11_picks_1 : decode cX11_picks 1 = .ok (.aload_n 0, 1) := by decide +kernel
theorem dX11_picks_2 : decode cX11_picks 2 = .ok (.getfield 16, 3) := by decide +kernel
theorem dX11_picks_5 : decode cX11_picks 5 = .ok (.getfield 253, 3) := by decide +kernel
theorem dX11_picks_8 : decode cX11_picks 8 = .ok (.putfield 122, 3) := by decide +kernel
theorem dX11_picks_11 : decode cX11_picks 11 = .ok (.aload_n 0, 1) := by decide +kernel
theorem dX11_picks_12 : decode cX11_picks 12 = .ok (.getfield 71, 3) := by decide +kernel
theorem dX11_picks_15 : decode cX11_picks 15 = .ok (.aload_n 0, 1) := by decide +kernel
theorem dX11_picks_16 : decode cX11_picks 16 = .ok (.getfield 91, 3) := by decide +kernel
theorem dX11_picks_19 : decode cX11_picks 19 = .ok (.invokevirtual 294, 3) := by decide +kernel
theorem dX11_picks_22 : decode cX11_picks 22 = .ok (.ireturn, 1) := by decide +kernel
set_option maxRecDepth 20000 in
theorem ggX11_order_X5_findOrder : GoodIn wsX11_order wsX5_findOrder := goodIn_r _ [10, 11, 12, 13, 14, 15, 16, 17, 18, 19, 9, 20, 21, 22, 23, 24, 25, 26, 27, 28, 29, 30, 31, 32, 33, 34, 35, 36, 37, 38, 39, 40, 41, 42, 43, 44, 45, 46, 47, 48, 49, 50, 51, 52, 53, 54, 55, 56, 57, 58, 59, 60, 61, 62, 63, 64, 65, 66, 67, 68, 69, 70, 71, 72, 73, 74, 75, 76, 77, 78, 79, 80, 81, 82, 83, 84, 85, 86, 87, 88, 89, 90, 91, 92, 93, 94, 95, 96, 97, 98, 99, 100, 101, 102, 103, 104, 105, 106, 107, 108, 109, 110, 111, 112, 113, 114, 115, 116, 117, 118, 134, 135, 136, 137, 138, 139, 140, 141, 142, 143, 144, 145, 146, 147, 148, 149, 150, 151, 152, 153, 154, 155, 156, 157, 158, 159, 160, 161, 162, 163, 164, 165, 166, 167, 168, 169, 170, 171, 172, 173, 174, 175, 176, 177, 178, 179, 180, 181, 182, 183, 184, 185, 186, 187, 188, 189, 190] (by decide +kernel) (by decide +kernel)
set_option maxRecDepth 20000 in
theorem gX11_order_X5_findOrder : GoodIn wsX11_order (wsV RX11 298 RX5 yX5_findOrder wsX5_findOrder) := goodIn_app (goodIn_of _ (by decide +kernel)) ggX11_order_X5_findOrder
theorem dX11_order_0 : decode cX11_order 0 = .ok (.aload_n 0, 1) := by decide +kernel
theorem dX11_order_1 : decode cX11_order 1 = .ok (.aload_n 0, 1) := by decide +kernel
theorem dX11_order_2 : decode cX11_order 2 = .ok (.getfield 71, 3) := by decide +kernel
theorem dX11_order_5 : decode cX11_order 5 = .ok (.aload_n 0, 1) := by decide +kernel
theorem dX11_order_6 : decode cX11_order 6 = .ok (.getfield 91, 3) := by decide +kernel
theorem dX11_order_9 : decode cX11_order 9 = .ok (.invokevirtual 298, 3) := by decide +kernel
theorem dX11_order_12 : decode cX11_order 12 = .ok (.putfield 122, 3) := by decide +kernel
theorem dX11_order_15 : decode cX11_order 15 = .ok (.aload_n 0, 1) := by decide +kernel
theorem dX11_order_16 : decode cX11_order 16 = .ok (.getfield 122, 3) := by decide +kernel
theorem dX11_order_19 : decode cX11_order 19 = .ok (.ifCond .ne 8, 3) := by decide +kernel
theorem dX11_order_22 : decode cX11_order 22 = .ok (.ldc 190, 2) := by decide +kernel
theorem dX11_order_24 : decode cX11_order 24 = .ok (.goto 10, 3) := by decide +kernel
theorem dX11_order_27 : decode cX11_order 27 = .ok (.aload_n 0, 1) := by decide +kernel
theorem dX11_order_28 : decode cX11_order 28 = .ok (.getfield 71, 3) := by decide +kernel
theorem dX11_order_31 : decode cX11_order 31 = .ok (.getfield 301, 3) := by decide +kernel
theorem dX11_order_34 : decode cX11_order 34 = .ok (.ireturn, 1) := by decide +kernel
set_option maxRecDepth 20000 in
theorem ggX11_best_X7_isGuest : GoodIn wsX11_best wsX7_isGuest := goodIn_r _ [9, 10, 102, 103, 104, 105, 106, 107, 108, 109, 110, 111, 112, 113, 114, 115, 116, 117] (by decide +kernel) (by decide +kernel)
set_option maxRecDepth 20000 in
theorem gX11_best_X7_isGuest : GoodIn wsX11_best (wsV RX11 171 RX7 yX7_isGuest wsX7_isGuest) := goodIn_app (goodIn_of _ (by decide +kernel)) ggX11_best_X7_isGuest
set_option maxRecDepth 20000 in
theorem ggX11_best_X1_isFree : GoodIn wsX11_best wsX1_isFree := goodIn_r _ [15, 16, 17, 18, 19, 20, 14, 21, 22, 96, 97, 98, 99, 100, 101, 118, 119, 120, 121, 122, 123, 124] (by decide +kernel) (by decide +kernel)
set_option maxRecDepth 20000 in
theorem gX11_best_X1_isFree : GoodIn wsX11_best (wsV RX11 214 RX1 yX1_isFree wsX1_isFree) := goodIn_app (goodIn_of _ (by decide +kernel)) ggX11_best_X1_isFree
set_option maxRecDepth 20000 in
theorem ggX11_best_X10_ofPiece : GoodIn wsX11_best wsX10_ofPiece := goodIn_r _ [27, 28, 29, 30, 19, 20, 14, 21, 22, 31, 32, 33, 26, 34, 35, 36, 37, 38, 39, 40, 41, 42, 43, 44, 45, 46, 47, 8, 48, 49, 50, 51, 52, 53, 54, 55, 56, 57, 58, 59, 60, 61, 62, 63, 64, 65, 66, 6, 7, 9, 10, 67, 68, 69, 70, 71, 72, 73, 74, 75, 76, 77, 78, 79, 80, 125, 126, 127, 128, 129, 130, 131, 96, 97, 98, 99, 100, 101, 102, 103, 104, 105, 106, 107, 108, 109, 110, 111, 112, 113, 114, 115, 116, 117, 118, 119, 120, 121, 122, 123, 124, 132, 133, 134, 135, 136] (by decide +kernel) (by decide +kernel)
set_option maxRecDepth 20000 in
theorem gX11_best_X10_ofPiece : GoodIn wsX11_best (wsV RX11 186 RX10 yX10_ofPiece wsX10_ofPiece) := goodIn_app (goodIn_of _ (by decide +kernel)) ggX11_best_X10_ofPiece
theorem dX11_best_0 : decode cX11_best 0 = .ok (.aload_n 0, 1) := by decide +kernel
theorem dX11_best_1 : decode cX11_best 1 = .ok (.getfield 16, 3) := by decide +kernel
theorem dX11_best_4 : decode cX11_best 4 = .ok (.iload_n 1, 1) := by decide +kernel
theorem dX11_best_5 : decode cX11_best 5 = .ok (.invokevirtual 171, 3) := by decide +kernel
theorem dX11_best_8 : decode cX11_best 8 = .ok (.ifCond .ne 5, 3) := by decide +kernel
theorem dX11_best_11 : decode cX11_best 11 = .ok (.iconst (-1), 1) := by decide +kernel
theorem dX11_best_12 : decode cX11_best 12 = .ok (.ireturn, 1) := by decide +kernel
theorem dX11_best_13 : decode cX11_best 13 = .ok (.iconst (-1), 1) := by decide +kernel
theorem dX11_best_14 : decode cX11_best 14 = .ok (.istore_n 2, 1) := by decide +kernel
theorem dX11_best_15 : decode cX11_best 15 = .ok (.iconst 0, 1) := by decide +kernel
theorem dX11_best_16 : decode cX11_best 16 = .ok (.istore_n 3, 1) := by decide +kernel
theorem dX11_best_17 : decode cX11_best 17 = .ok (.iconst 0, 1) := by decide +kernel
theorem dX11_best_18 : decode cX11_best 18 = .ok (.istore 4, 2) := by decide +kernel
theorem dX11_best_20 : decode cX11_best 20 = .ok (.iload 4, 2) := by decide +kernel
theorem dX11_best_22 : decode cX11_best 22 = .ok (.aload_n 0, 1) := by decide +kernel
theorem dX11_best_23 : decode cX11_best 23 = .ok (.getfield 35, 3) := by decide +kernel
theorem dX11_best_26 : decode cX11_best 26 = .ok (.getfield 207, 3) := by decide +kernel
theorem dX11_best_29 : decode cX11_best 29 = .ok (.if_icmp .ge 51, 3) := by decide +kernel
theorem dX11_best_32 : decode cX11_best 32 = .ok (.aload_n 0, 1) := by decide +kernel
theorem dX11_best_33 : decode cX11_best 33 = .ok (.getfield 35, 3) := by decide +kernel
theorem dX11_best_36 : decode cX11_best 36 = .ok (.iload 4, 2) := by decide +kernel
theorem dX11_best_38 : decode cX11_best 38 = .ok (.invokevirtual 214, 3) := by decide +kernel
theorem dX11_best_41 : decode cX11_best 41 = .ok (.ifCond .eq 33, 3) := by decide +kernel
theorem dX11_best_44 : decode cX11_best 44 = .ok (.aload_n 0, 1) := by decide +kernel
theorem dX11_best_45 : decode cX11_best 45 = .ok (.getfield 48, 3) := by decide +kernel
theorem dX11_best_48 : decode cX11_best 48 = .ok (.iload_n 1, 1) := by decide +kernel
theorem dX11_best_49 : decode cX11_best 49 = .ok (.iload 4, 2) := by decide +kernel
theorem dX11_best_51 : decode cX11_best 51 = .ok (.iconst 0, 1) := by decide +kernel
theorem dX11_best_52 : decode cX11_best 52 = .ok (.invokevirtual 186, 3) := by decide +kernel
theorem dX11_best_55 : decode cX11_best 55 = .ok (.istore 5, 2) := by decide +kernel
theorem dX11_best_57 : decode cX11_best 57 = .ok (.iload_n 2, 1) := by decide +kernel
theorem dX11_best_58 : decode cX11_best 58 = .ok (.iconst (-1), 1) := by decide +kernel
theorem dX11_best_59 : decode cX11_best 59 = .ok (.if_icmp .eq 9, 3) := by decide +kernel
theorem dX11_best_62 : decode cX11_best 62 = .ok (.iload 5, 2) := by decide +kernel
theorem dX11_best_64 : decode cX11_best 64 = .ok (.iload_n 3, 1) := by decide +kernel
theorem dX11_best_65 : decode cX11_best 65 = .ok (.if_icmp .le 9, 3) := by decide +kernel
theorem dX11_best_68 : decode cX11_best 68 = .ok (.iload 4, 2) := by decide +kernel
theorem dX11_best_70 : decode cX11_best 70 = .ok (.istore_n 2, 1) := by decide +kernel
theorem dX11_best_71 : decode cX11_best 71 = .ok (.iload 5, 2) := by decide +kernel
theorem dX11_best_73 : decode cX11_best 73 = .ok (.istore_n 3, 1) := by decide +kernel
theorem dX11_best_74 : decode cX11_best 74 = .ok (.iinc 4 1, 3) := by decide +kernel
theorem dX11_best_77 : decode cX11_best 77 = .ok (.goto (-57), 3) := by decide +kernel
theorem dX11_best_80 : decode cX11_best 80 = .ok (.iload_n 2, 1) := by decide +kernel
theorem dX11_best_81 : decode cX11_best 81 = .ok (.ireturn, 1) := by decide +kernel
theorem dX11_lies_0 : decode cX11_lies 0 = .ok (.iload_n 1, 1) := by decide +kernel
theorem dX11_lies_1 : decode cX11_lies 1 = .ok (.ifCond .lt 20, 3) := by decide +kernel
theorem dX11_lies_4 : decode cX11_lies 4 = .ok (.iload_n 1, 1) := by decide +kernel
theorem dX11_lies_5 : decode cX11_lies 5 = .ok (.aload_n 0, 1) := by decide +kernel
theorem dX11_lies_6 : decode cX11_lies 6 = .ok (.getfield 122, 3) := by decide +kernel
theorem dX11_lies_9 : decode cX11_lies 9 = .ok (.if_icmp .ge 12, 3) := by decide +kernel
theorem dX11_lies_12 : decode cX11_lies 12 = .ok (.iload_n 1, 1) := by decide +kernel
theorem dX11_lies_13 : decode cX11_lies 13 = .ok (.aload_n 0, 1) := by decide +kernel
theorem dX11_lies_14 : decode cX11_lies 14 = .ok (.getfield 91, 3) := by decide +kernel
theorem dX11_lies_17 : decode cX11_lies 17 = .ok (.arraylength, 1) := by decide +kernel
theorem dX11_lies_18 : decode cX11_lies 18 = .ok (.if_icmp .lt 6, 3) := by decide +kernel
theorem dX11_lies_21 : decode cX11_lies 21 = .ok (.bipush (-2), 2) := by decide +kernel
theorem dX11_lies_23 : decode cX11_lies 23 = .ok (.ireturn, 1) := by decide +kernel
theorem dX11_lies_24 : decode cX11_lies 24 = .ok (.aload_n 0, 1) := by decide +kernel
theorem dX11_lies_25 : decode cX11_lies 25 = .ok (.getfield 91, 3) := by decide +kernel
theorem dX11_lies_28 : decode cX11_lies 28 = .ok (.iload_n 1, 1) := by decide +kernel
theorem dX11_lies_29 : decode cX11_lies 29 = .ok (.iaload, 1) := by decide +kernel
theorem dX11_lies_30 : decode cX11_lies 30 = .ok (.ireturn, 1) := by decide +kernel
set_option maxRecDepth 20000 in
theorem ggX11_grid_X11_canBeAlike : GoodIn wsX11_grid wsX11_canBeAlike := goodIn_r _ [13, 2, 14, 15, 16, 17, 18, 19, 40, 41, 42, 43, 44, 45, 46, 47, 48, 49, 50, 51, 52, 53, 54, 55, 56, 57, 58, 59, 60, 61, 62, 63, 64, 65, 66, 67, 68, 69, 70] (by decide +kernel) (by decide +kernel)
set_option maxRecDepth 20000 in
theorem gX11_grid_X11_canBeAlike : GoodIn wsX11_grid (wsV RX11 304 RX11 yX11_canBeAlike wsX11_canBeAlike) := goodIn_app (goodIn_of _ (by decide +kernel)) ggX11_grid_X11_canBeAlike
set_option maxRecDepth 20000 in
theorem ggX11_grid_X3_search : GoodIn wsX11_grid wsX3_search := goodIn_r _ [24, 25, 26, 27, 28, 29, 30, 31, 23, 32, 33, 34, 35, 36, 37, 38, 39, 71, 72, 73, 74] (by decide +kernel) (by decide +kernel)
set_option maxRecDepth 20000 in
theorem gX11_grid_X3_search : GoodIn wsX11_grid (wsV RX11 314 RX3 yX3_search wsX3_search) := goodIn_app (goodIn_of _ (by decide +kernel)) ggX11_grid_X3_search
theorem dX11_grid_0 : decode cX11_grid 0 = .ok (.aload_n 0, 1) := by decide +kernel
theorem dX11_grid_1 : decode cX11_grid 1 = .ok (.iload_n 1, 1) := by decide +kernel
theorem dX11_grid_2 : decode cX11_grid 2 = .ok (.iload_n 2, 1) := by decide +kernel
theorem dX11_grid_3 : decode cX11_grid 3 = .ok (.invokevirtual 304, 3) := by decide +kernel
theorem dX11_grid_6 : decode cX11_grid 6 = .ok (.ifCond .eq 32, 3) := by decide +kernel
theorem dX11_grid_9 : decode cX11_grid 9 = .ok (.aload_n 0, 1) := by decide +kernel
theorem dX11_grid_10 : decode cX11_grid 10 = .ok (.getfield 78, 3) := by decide +kernel
theorem dX11_grid_13 : decode cX11_grid 13 = .ok (.aload_n 0, 1) := by decide +kernel
theorem dX11_grid_14 : decode cX11_grid 14 = .ok (.getfield 16, 3) := by decide +kernel
theorem dX11_grid_17 : decode cX11_grid 17 = .ok (.getfield 308, 3) := by decide +kernel
theorem dX11_grid_20 : decode cX11_grid 20 = .ok (.iload_n 1, 1) := by decide +kernel
theorem dX11_grid_21 : decode cX11_grid 21 = .ok (.iaload, 1) := by decide +kernel
theorem dX11_grid_22 : decode cX11_grid 22 = .ok (.aload_n 0, 1) := by decide +kernel
theorem dX11_grid_23 : decode cX11_grid 23 = .ok (.getfield 16, 3) := by decide +kernel
theorem dX11_grid_26 : decode cX11_grid 26 = .ok (.getfield 311, 3) := by decide +kernel
theorem dX11_grid_29 : decode cX11_grid 29 = .ok (.iload_n 1, 1) := by decide +kernel
theorem dX11_grid_30 : decode cX11_grid 30 = .ok (.iaload, 1) := by decide +kernel
theorem dX11_grid_31 : decode cX11_grid 31 = .ok (.iload_n 2, 1) := by decide +kernel
theorem dX11_grid_32 : decode cX11_grid 32 = .ok (.invokevirtual 314, 3) := by decide +kernel
theorem dX11_grid_35 : decode cX11_grid 35 = .ok (.ifCond .ne 5, 3) := by decide +kernel
theorem dX11_grid_38 : decode cX11_grid 38 = .ok (.iconst (-1), 1) := by decide +kernel
theorem dX11_grid_39 : decode cX11_grid 39 = .ok (.ireturn, 1) := by decide +kernel
theorem dX11_grid_40 : decode cX11_grid 40 = .ok (.iload_n 3, 1) := by decide +kernel
theorem dX11_grid_41 : decode cX11_grid 41 = .ok (.tableswitch 63 0 3 #[31, 39, 47, 55], 31) := by decide +kernel
theorem dX11_grid_72 : decode cX11_grid 72 = .ok (.aload_n 0, 1) := by decide +kernel
theorem dX11_grid_73 : decode cX11_grid 73 = .ok (.getfield 78, 3) := by decide +kernel
theorem dX11_grid_76 : decode cX11_grid 76 = .ok (.getfield 317, 3) := by decide +kernel
theorem dX11_grid_79 : decode cX11_grid 79 = .ok (.ireturn, 1) := by decide +kernel
theorem dX11_grid_80 : decode cX11_grid 80 = .ok (.aload_n 0, 1) := by decide +kernel
theorem dX11_grid_81 : decode cX11_grid 81 = .ok (.getfield 78, 3) := by decide +kernel
theorem dX11_grid_84 : decode cX11_grid 84 = .ok (.getfield 320, 3) := by decide +kernel
theorem dX11_grid_87 : decode cX11_grid 87 = .ok (.ireturn, 1) := by decide +kernel
theorem dX11_grid_88 : decode cX11_grid 88 = .ok (.aload_n 0, 1) := by decide +kernel
theorem dX11_grid_89 : decode cX11_grid 89 = .ok (.getfield 78, 3) := by decide +kernel
theorem dX11_grid_92 : decode cX11_grid 92 = .ok (.getfield 323, 3) := by decide +kernel
theorem dX11_grid_95 : decode cX11_grid 95 = .ok (.ireturn, 1) := by decide +kernel
theorem dX11_grid_96 : decode cX11_grid 96 = .ok (.aload_n 0, 1) := by decide +kernel
theorem dX11_grid_97 : decode cX11_grid 97 = .ok (.getfield 78, 3) := by decide +kernel
theorem dX11_grid_100 : decode cX11_grid 100 = .ok (.getfield 326, 3) := by decide +kernel
theorem dX11_grid_103 : decode cX11_grid 103 = .ok (.ireturn, 1) := by decide +kernel
theorem dX11_grid_104 : decode cX11_grid 104 = .ok (.iconst (-1), 1) := by decide +kernel
theorem dX11_grid_105 : decode cX11_grid 105 = .ok (.ireturn, 1) := by decide +kernel
set_option maxRecDepth 20000 in
theorem ggX11_ways_X11_canBeAlike : GoodIn wsX11_ways wsX11_canBeAlike := goodIn_r _ [9, 2, 10, 11, 12, 13, 14, 15, 36, 37, 38, 39, 40, 41, 42, 43, 44, 45, 46, 47, 48, 49, 50, 51, 52, 53, 54, 55, 56, 57, 58, 59, 60, 61, 62, 63, 64, 65, 66] (by decide +kernel) (by decide +kernel)
set_option maxRecDepth 20000 in
theorem gX11_ways_X11_canBeAlike : GoodIn wsX11_ways (wsV RX11 304 RX11 yX11_canBeAlike wsX11_canBeAlike) := goodIn_app (goodIn_of _ (by decide +kernel)) ggX11_ways_X11_canBeAlike
set_option maxRecDepth 20000 in
theorem ggX11_ways_X3_search : GoodIn wsX11_ways wsX3_search := goodIn_r _ [20, 21, 22, 23, 24, 25, 26, 27, 19, 28, 29, 30, 31, 32, 33, 34, 35, 67, 68, 69, 70] (by decide +kernel) (by decide +kernel)
set_option maxRecDepth 20000 in
theorem gX11_ways_X3_search : GoodIn wsX11_ways (wsV RX11 314 RX3 yX3_search wsX3_search) := goodIn_app (goodIn_of _ (by decide +kernel)) ggX11_ways_X3_search
theorem dX11_ways_0 : decode cX11_ways 0 = .ok (.aload_n 0, 1) := by decide +kernel
theorem dX11_ways_1 : decode cX11_ways 1 = .ok (.iload_n 1, 1) := by decide +kernel
theorem dX11_ways_2 : decode cX11_ways 2 = .ok (.iload_n 2, 1) := by decide +kernel
theorem dX11_ways_3 : decode cX11_ways 3 = .ok (.invokevirtual 304, 3) := by decide +kernel
theorem dX11_ways_6 : decode cX11_ways 6 = .ok (.ifCond .ne 5, 3) := by decide +kernel
theorem dX11_ways_9 : decode cX11_ways 9 = .ok (.iconst (-1), 1) := by decide +kernel
theorem dX11_ways_10 : decode cX11_ways 10 = .ok (.ireturn, 1) := by decide +kernel
theorem dX11_ways_11 : decode cX11_ways 11 = .ok (.aload_n 0, 1) := by decide +kernel
theorem dX11_ways_12 : decode cX11_ways 12 = .ok (.getfield 78, 3) := by decide +kernel
theorem dX11_ways_15 : decode cX11_ways 15 = .ok (.aload_n 0, 1) := by decide +kernel
theorem dX11_ways_16 : decode cX11_ways 16 = .ok (.getfield 16, 3) := by decide +kernel
theorem dX11_ways_19 : decode cX11_ways 19 = .ok (.getfield 308, 3) := by decide +kernel
theorem dX11_ways_22 : decode cX11_ways 22 = .ok (.iload_n 1, 1) := by decide +kernel
theorem dX11_ways_23 : decode cX11_ways 23 = .ok (.iaload, 1) := by decide +kernel
theorem dX11_ways_24 : decode cX11_ways 24 = .ok (.aload_n 0, 1) := by decide +kernel
theorem dX11_ways_25 : decode cX11_ways 25 = .ok (.getfield 16, 3) := by decide +kernel
theorem dX11_ways_28 : decode cX11_ways 28 = .ok (.getfield 311, 3) := by decide +kernel
theorem dX11_ways_31 : decode cX11_ways 31 = .ok (.iload_n 1, 1) := by decide +kernel
theorem dX11_ways_32 : decode cX11_ways 32 = .ok (.iaload, 1) := by decide +kernel
theorem dX11_ways_33 : decode cX11_ways 33 = .ok (.iload_n 2, 1) := by decide +kernel
theorem dX11_ways_34 : decode cX11_ways 34 = .ok (.invokevirtual 314, 3) := by decide +kernel
theorem dX11_ways_37 : decode cX11_ways 37 = .ok (.ireturn, 1) := by decide +kernel
set_option maxRecDepth 20000 in
theorem ggX11_canBeAlike_X7_isTier : GoodIn wsX11_canBeAlike wsX7_isTier := goodIn_r _ [6, 7, 23, 24, 25, 26, 27, 28, 29, 30, 31, 32, 33, 34, 35, 36, 37, 38] (by decide +kernel) (by decide +kernel)
set_option maxRecDepth 20000 in
theorem gX11_canBeAlike_X7_isTier : GoodIn wsX11_canBeAlike (wsV RX11 329 RX7 yX7_isTier wsX7_isTier) := goodIn_app (goodIn_of _ (by decide +kernel)) ggX11_canBeAlike_X7_isTier
theorem dX11_canBeAlike_0 : decode cX11_canBeAlike 0 = .ok (.aload_n 0, 1) := by decide +kernel
theorem dX11_canBeAlike_1 : decode cX11_canBeAlike 1 = .ok (.getfield 16, 3) := by decide +kernel
theorem dX11_canBeAlike_4 : decode cX11_canBeAlike 4 = .ok (.iload_n 1, 1) := by decide +kernel
theorem dX11_canBeAlike_5 : decode cX11_canBeAlike 5 = .ok (.invokevirtual 329, 3) := by decide +kernel
theorem dX11_canBeAlike_8 : decode cX11_canBeAlike 8 = .ok (.ifCond .eq 18, 3) := by decide +kernel
theorem dX11_canBeAlike_11 : decode cX11_canBeAlike 11 = .ok (.iload_n 2, 1) := by decide +kernel
theorem dX11_canBeAlike_12 : decode cX11_canBeAlike 12 = .ok (.iconst 1, 1) := by decide +kernel
theorem dX11_canBeAlike_13 : decode cX11_canBeAlike 13 = .ok (.if_icmp .lt 13, 3) := by decide +kernel
theorem dX11_canBeAlike_16 : decode cX11_canBeAlike 16 = .ok (.iload_n 2, 1) := by decide +kernel
theorem dX11_canBeAlike_17 : decode cX11_canBeAlike 17 = .ok (.bipush 64, 2) := by decide +kernel
theorem dX11_canBeAlike_19 : decode cX11_canBeAlike 19 = .ok (.if_icmp .gt 7, 3) := by decide +kernel
theorem dX11_canBeAlike_22 : decode cX11_canBeAlike 22 = .ok (.iconst 1, 1) := by decide +kernel
theorem dX11_canBeAlike_23 : decode cX11_canBeAlike 23 = .ok (.goto 4, 3) := by decide +kernel
theorem dX11_canBeAlike_26 : decode cX11_canBeAlike 26 = .ok (.iconst 0, 1) := by decide +kernel
theorem dX11_canBeAlike_27 : decode cX11_canBeAlike 27 = .ok (.ireturn, 1) := by decide +kernel
set_option maxRecDepth 20000 in
theorem ggX11_most_X7_isTier : GoodIn wsX11_most wsX7_isTier := goodIn_r _ [10, 11, 47, 48, 49, 50, 51, 52, 53, 54, 55, 56, 57, 58, 59, 60, 61, 62] (by decide +kernel) (by decide +kernel)
set_option maxRecDepth 20000 in
theorem gX11_most_X7_isTier : GoodIn wsX11_most (wsV RX11 329 RX7 yX7_isTier wsX7_isTier) := goodIn_app (goodIn_of _ (by decide +kernel)) ggX11_most_X7_isTier
set_option maxRecDepth 20000 in
theorem ggX11_most_X3_search : GoodIn wsX11_most wsX3_search := goodIn_r _ [16, 17, 18, 19, 20, 21, 22, 23, 15, 24, 25, 26, 27, 28, 29, 30, 31, 63, 64, 65, 66] (by decide +kernel) (by decide +kernel)
set_option maxRecDepth 20000 in
theorem gX11_most_X3_search : GoodIn wsX11_most (wsV RX11 314 RX3 yX3_search wsX3_search) := goodIn_app (goodIn_of _ (by decide +kernel)) ggX11_most_X3_search
theorem dX11_most_0 : decode cX11_most 0 = .ok (.aload_n 0, 1) := by decide +kernel
theorem dX11_most_1 : decode cX11_most 1 = .ok (.getfield 16, 3) := by decide +kernel
theorem dX11_most_4 : decode cX11_most 4 = .ok (.iload_n 1, 1) := by decide +kernel
theorem dX11_most_5 : decode cX11_most 5 = .ok (.invokevirtual 329, 3) := by decide +kernel
theorem dX11_most_8 : decode cX11_most 8 = .ok (.ifCond .eq 15, 3) := by decide +kernel
theorem dX11_most_11 : decode cX11_most 11 = .ok (.iload_n 2, 1) := by decide +kernel
theorem dX11_most_12 : decode cX11_most 12 = .ok (.iconst 1, 1) := by decide +kernel
theorem dX11_most_13 : decode cX11_most 13 = .ok (.if_icmp .lt 10, 3) := by decide +kernel
theorem dX11_most_16 : decode cX11_most 16 = .ok (.iload_n 2, 1) := by decide +kernel
theorem dX11_most_17 : decode cX11_most 17 = .ok (.sipush 999, 3) := by decide +kernel
theorem dX11_most_20 : decode cX11_most 20 = .ok (.if_icmp .le 5, 3) := by decide +kernel
theorem dX11_most_23 : decode cX11_most 23 = .ok (.iconst (-1), 1) := by decide +kernel
theorem dX11_most_24 : decode cX11_most 24 = .ok (.ireturn, 1) := by decide +kernel
theorem dX11_most_25 : decode cX11_most 25 = .ok (.aload_n 0, 1) := by decide +kernel
theorem dX11_most_26 : decode cX11_most 26 = .ok (.getfield 16, 3) := by decide +kernel
theorem dX11_most_29 : decode cX11_most 29 = .ok (.getfield 332, 3) := by decide +kernel
theorem dX11_most_32 : decode cX11_most 32 = .ok (.iload_n 1, 1) := by decide +kernel
theorem dX11_most_33 : decode cX11_most 33 = .ok (.iaload, 1) := by decide +kernel
theorem dX11_most_34 : decode cX11_most 34 = .ok (.istore_n 3, 1) := by decide +kernel
theorem dX11_most_35 : decode cX11_most 35 = .ok (.aload_n 0, 1) := by decide +kernel
theorem dX11_most_36 : decode cX11_most 36 = .ok (.getfield 16, 3) := by decide +kernel
theorem dX11_most_39 : decode cX11_most 39 = .ok (.getfield 308, 3) := by decide +kernel
theorem dX11_most_42 : decode cX11_most 42 = .ok (.iload_n 1, 1) := by decide +kernel
theorem dX11_most_43 : decode cX11_most 43 = .ok (.iaload, 1) := by decide +kernel
theorem dX11_most_44 : decode cX11_most 44 = .ok (.aload_n 0, 1) := by decide +kernel
theorem dX11_most_45 : decode cX11_most 45 = .ok (.getfield 16, 3) := by decide +kernel
theorem dX11_most_48 : decode cX11_most 48 = .ok (.getfield 311, 3) := by decide +kernel
theorem dX11_most_51 : decode cX11_most 51 = .ok (.iload_n 1, 1) := by decide +kernel
theorem dX11_most_52 : decode cX11_most 52 = .ok (.iaload, 1) := by decide +kernel
theorem dX11_most_53 : decode cX11_most 53 = .ok (.imul, 1) := by decide +kernel
theorem dX11_most_54 : decode cX11_most 54 = .ok (.istore 4, 2) := by decide +kernel
theorem dX11_most_56 : decode cX11_most 56 = .ok (.iload 4, 2) := by decide +kernel
theorem dX11_most_58 : decode cX11_most 58 = .ok (.istore 5, 2) := by decide +kernel
theorem dX11_most_60 : decode cX11_most 60 = .ok (.iload 5, 2) := by decide +kernel
theorem dX11_most_62 : decode cX11_most 62 = .ok (.iconst 1, 1) := by decide +kernel
theorem dX11_most_63 : decode cX11_most 63 = .ok (.if_icmp .lt 65, 3) := by decide +kernel
theorem dX11_most_66 : decode cX11_most 66 = .ok (.iload 4, 2) := by decide +kernel
theorem dX11_most_68 : decode cX11_most 68 = .ok (.iload 5, 2) := by decide +kernel
theorem dX11_most_70 : decode cX11_most 70 = .ok (.idiv, 1) := by decide +kernel
theorem dX11_most_71 : decode cX11_most 71 = .ok (.iload_n 3, 1) := by decide +kernel
theorem dX11_most_72 : decode cX11_most 72 = .ok (.imul, 1) := by decide +kernel
theorem dX11_most_73 : decode cX11_most 73 = .ok (.iload_n 2, 1) := by decide +kernel
theorem dX11_most_74 : decode cX11_most 74 = .ok (.if_icmp .lt 7, 3) := by decide +kernel
theorem dX11_most_77 : decode cX11_most 77 = .ok (.iconst 1, 1) := by decide +kernel
theorem dX11_most_78 : decode cX11_most 78 = .ok (.goto 4, 3) := by decide +kernel
theorem dX11_most_81 : decode cX11_most 81 = .ok (.iconst 0, 1) := by decide +kernel
theorem dX11_most_82 : decode cX11_most 82 = .ok (.istore 6, 2) := by decide +kernel
theorem dX11_most_84 : decode cX11_most 84 = .ok (.iload 6, 2) := by decide +kernel
theorem dX11_most_86 : decode cX11_most 86 = .ok (.ifCond .eq 36, 3) := by decide +kernel
theorem dX11_most_89 : decode cX11_most 89 = .ok (.aload_n 0, 1) := by decide +kernel
theorem dX11_most_90 : decode cX11_most 90 = .ok (.getfield 78, 3) := by decide +kernel
theorem dX11_most_93 : decode cX11_most 93 = .ok (.aload_n 0, 1) := by decide +kernel
theorem dX11_most_94 : decode cX11_most 94 = .ok (.getfield 16, 3) := by decide +kernel
theorem dX11_most_97 : decode cX11_most 97 = .ok (.getfield 308, 3) := by decide +kernel
theorem dX11_most_100 : decode cX11_most 100 = .ok (.iload_n 1, 1) := by decide +kernel
theorem dX11_most_101 : decode cX11_most 101 = .ok (.iaload, 1) := by decide +kernel
theorem dX11_most_102 : decode cX11_most 102 = .ok (.aload_n 0, 1) := by decide +kernel
theorem dX11_most_103 : decode cX11_most 103 = .ok (.getfield 16, 3) := by decide +kernel
theorem dX11_most_106 : decode cX11_most 106 = .ok (.getfield 311, 3) := by decide +kernel
theorem dX11_most_109 : decode cX11_most 109 = .ok (.iload_n 1, 1) := by decide +kernel
theorem dX11_most_110 : decode cX11_most 110 = .ok (.iaload, 1) := by decide +kernel
theorem dX11_most_111 : decode cX11_most 111 = .ok (.iload 5, 2) := by decide +kernel
theorem dX11_most_113 : decode cX11_most 113 = .ok (.invokevirtual 314, 3) := by decide +kernel
theorem dX11_most_116 : decode cX11_most 116 = .ok (.ifCond .le 6, 3) := by decide +kernel
theorem dX11_most_119 : decode cX11_most 119 = .ok (.iload 5, 2) := by decide +kernel
theorem dX11_most_121 : decode cX11_most 121 = .ok (.ireturn, 1) := by decide +kernel
theorem dX11_most_122 : decode cX11_most 122 = .ok (.iinc 5 (-1), 3) := by decide +kernel
theorem dX11_most_125 : decode cX11_most 125 = .ok (.goto (-65), 3) := by decide +kernel
theorem dX11_most_128 : decode cX11_most 128 = .ok (.iconst (-1), 1) := by decide +kernel
theorem dX11_most_129 : decode cX11_most 129 = .ok (.ireturn, 1) := by decide +kernel
set_option maxRecDepth 20000 in
theorem ggX11_where_X9_holds : GoodIn wsX11_where wsX9_holds := goodIn_r _ [8, 9, 10, 11, 12, 13, 35, 36, 37, 38, 39, 40, 41] (by decide +kernel) (by decide +kernel)
set_option maxRecDepth 20000 in
theorem gX11_where_X9_holds : GoodIn wsX11_where (wsV RX11 335 RX9 yX9_holds wsX9_holds) := goodIn_app (goodIn_of _ (by decide +kernel)) ggX11_where_X9_holds
theorem dX11_where_0 : decode cX11_where 0 = .ok (.iconst 0, 1) := by decide +kernel
theorem dX11_where_1 : decode cX11_where 1 = .ok (.istore 4, 2) := by decide +kernel
theorem dX11_where_3 : decode cX11_where 3 = .ok (.iload 4, 2) := by decide +kernel
theorem dX11_where_5 : decode cX11_where 5 = .ok (.aload_n 0, 1) := by decide +kernel
theorem dX11_where_6 : decode cX11_where 6 = .ok (.getfield 35, 3) := by decide +kernel
theorem dX11_where_9 : decode cX11_where 9 = .ok (.getfield 207, 3) := by decide +kernel
theorem dX11_where_12 : decode cX11_where 12 = .ok (.if_icmp .ge 31, 3) := by decide +kernel
theorem dX11_where_15 : decode cX11_where 15 = .ok (.aload_n 0, 1) := by decide +kernel
theorem dX11_where_16 : decode cX11_where 16 = .ok (.getfield 35, 3) := by decide +kernel
theorem dX11_where_19 : decode cX11_where 19 = .ok (.getfield 137, 3) := by decide +kernel
theorem dX11_where_22 : decode cX11_where 22 = .ok (.iload 4, 2) := by decide +kernel
theorem dX11_where_24 : decode cX11_where 24 = .ok (.aaload, 1) := by decide +kernel
theorem dX11_where_25 : decode cX11_where 25 = .ok (.iload_n 1, 1) := by decide +kernel
theorem dX11_where_26 : decode cX11_where 26 = .ok (.iload_n 2, 1) := by decide +kernel
theorem dX11_where_27 : decode cX11_where 27 = .ok (.iload_n 3, 1) := by decide +kernel
theorem dX11_where_28 : decode cX11_where 28 = .ok (.invokevirtual 335, 3) := by decide +kernel
theorem dX11_where_31 : decode cX11_where 31 = .ok (.ifCond .eq 6, 3) := by decide +kernel
theorem dX11_where_34 : decode cX11_where 34 = .ok (.iload 4, 2) := by decide +kernel
theorem dX11_where_36 : decode cX11_where 36 = .ok (.ireturn, 1) := by decide +kernel
theorem dX11_where_37 : decode cX11_where 37 = .ok (.iinc 4 1, 3) := by decide +kernel
theorem dX11_where_40 : decode cX11_where 40 = .ok (.goto (-37), 3) := by decide +kernel
theorem dX11_where_43 : decode cX11_where 43 = .ok (.iconst (-1), 1) := by decide +kernel
theorem dX11_where_44 : decode cX11_where 44 = .ok (.ireturn, 1) := by decide +kernel
set_option maxRecDepth 20000 in
theorem ggX11_left_X1_isFree : GoodIn wsX11_left wsX1_isFree := goodIn_r _ [9, 10, 11, 12, 13, 14, 8, 15, 16, 46, 47, 48, 49, 50, 51, 52, 53, 54, 55, 56, 57, 58] (by decide +kernel) (by decide +kernel)
set_option maxRecDepth 20000 in
theorem gX11_left_X1_isFree : GoodIn wsX11_left (wsV RX11 214 RX1 yX1_isFree wsX1_isFree) := goodIn_app (goodIn_of _ (by decide +kernel)) ggX11_left_X1_isFree
set_option maxRecDepth 20000 in
theorem ggX11_left_X7_areaOf : GoodIn wsX11_left wsX7_areaOf := goodIn_r _ [21, 22, 23, 24, 25, 26, 27, 28, 20, 29, 30, 52, 53, 54, 55, 56, 57, 58, 59, 60, 61, 62, 63, 64, 65, 66, 67, 68, 69, 70, 71, 72, 73, 74] (by decide +kernel) (by decide +kernel)
set_option maxRecDepth 20000 in
theorem gX11_left_X7_areaOf : GoodIn wsX11_left (wsV RX11 158 RX7 yX7_areaOf wsX7_areaOf) := goodIn_app (goodIn_of _ (by decide +kernel)) ggX11_left_X7_areaOf
theorem dX11_left_0 : decode cX11_left 0 = .ok (.iconst 0, 1) := by decide +kernel
theorem dX11_left_1 : decode cX11_left 1 = .ok (.istore_n 1, 1) := by decide +kernel
theorem dX11_left_2 : decode cX11_left 2 = .ok (.iconst 0, 1) := by decide +kernel
theorem dX11_left_3 : decode cX11_left 3 = .ok (.istore_n 2, 1) := by decide +kernel
theorem dX11_left_4 : decode cX11_left 4 = .ok (.iload_n 2, 1) := by decide +kernel
theorem dX11_left_5 : decode cX11_left 5 = .ok (.aload_n 0, 1) := by decide +kernel
theorem dX11_left_6 : decode cX11_left 6 = .ok (.getfield 35, 3) := by decide +kernel
theorem dX11_left_9 : decode cX11_left 9 = .ok (.getfield 207, 3) := by decide +kernel
theorem dX11_left_12 : decode cX11_left 12 = .ok (.if_icmp .ge 39, 3) := by decide +kernel
theorem dX11_left_15 : decode cX11_left 15 = .ok (.aload_n 0, 1) := by decide +kernel
theorem dX11_left_16 : decode cX11_left 16 = .ok (.getfield 35, 3) := by decide +kernel
theorem dX11_left_19 : decode cX11_left 19 = .ok (.iload_n 2, 1) := by decide +kernel
theorem dX11_left_20 : decode cX11_left 20 = .ok (.invokevirtual 214, 3) := by decide +kernel
theorem dX11_left_23 : decode cX11_left 23 = .ok (.ifCond .eq 22, 3) := by decide +kernel
theorem dX11_left_26 : decode cX11_left 26 = .ok (.iload_n 1, 1) := by decide +kernel
theorem dX11_left_27 : decode cX11_left 27 = .ok (.aload_n 0, 1) := by decide +kernel
theorem dX11_left_28 : decode cX11_left 28 = .ok (.getfield 16, 3) := by decide +kernel
theorem dX11_left_31 : decode cX11_left 31 = .ok (.aload_n 0, 1) := by decide +kernel
theorem dX11_left_32 : decode cX11_left 32 = .ok (.getfield 35, 3) := by decide +kernel
theorem dX11_left_35 : decode cX11_left 35 = .ok (.getfield 137, 3) := by decide +kernel
theorem dX11_left_38 : decode cX11_left 38 = .ok (.iload_n 2, 1) := by decide +kernel
theorem dX11_left_39 : decode cX11_left 39 = .ok (.aaload, 1) := by decide +kernel
theorem dX11_left_40 : decode cX11_left 40 = .ok (.invokevirtual 158, 3) := by decide +kernel
theorem dX11_left_43 : decode cX11_left 43 = .ok (.iadd, 1) := by decide +kernel
theorem dX11_left_44 : decode cX11_left 44 = .ok (.istore_n 1, 1) := by decide +kernel
theorem dX11_left_45 : decode cX11_left 45 = .ok (.iinc 2 1, 3) := by decide +kernel
theorem dX11_left_48 : decode cX11_left 48 = .ok (.goto (-44), 3) := by decide +kernel
theorem dX11_left_51 : decode cX11_left 51 = .ok (.iload_n 1, 1) := by decide +kernel
theorem dX11_left_52 : decode cX11_left 52 = .ok (.ireturn, 1) := by decide +kernel
set_option maxRecDepth 20000 in
theorem ggX11_iced_X1_isFree : GoodIn wsX11_iced wsX1_isFree := goodIn_r _ [9, 10, 11, 12, 13, 14, 8, 15, 16, 49, 50, 51, 52, 53, 54, 55, 56, 57, 58, 59, 60, 61] (by decide +kernel) (by decide +kernel)
set_option maxRecDepth 20000 in
theorem gX11_iced_X1_isFree : GoodIn wsX11_iced (wsV RX11 214 RX1 yX1_isFree wsX1_isFree) := goodIn_app (goodIn_of _ (by decide +kernel)) ggX11_iced_X1_isFree
set_option maxRecDepth 20000 in
theorem ggX11_iced_X7_icingOf : GoodIn wsX11_iced wsX7_icingOf := goodIn_r _ [21, 22, 23, 24, 25, 26, 27, 28, 29, 30, 31, 20, 32, 33, 55, 56, 57, 58, 59, 60, 61, 62, 63, 64, 65, 66, 67, 68, 69, 70, 71, 72, 73, 74, 75, 76, 77] (by decide +kernel) (by decide +kernel)
set_option maxRecDepth 20000 in
theorem gX11_iced_X7_icingOf : GoodIn wsX11_iced (wsV RX11 162 RX7 yX7_icingOf wsX7_icingOf) := goodIn_app (goodIn_of _ (by decide +kernel)) ggX11_iced_X7_icingOf
theorem dX11_iced_0 : decode cX11_iced 0 = .ok (.iload_n 1, 1) := by decide +kernel
theorem dX11_iced_1 : decode cX11_iced 1 = .ok (.ifCond .lt 9, 3) := by decide +kernel
theorem dX11_iced_4 : decode cX11_iced 4 = .ok (.iload_n 1, 1) := by decide +kernel
theorem dX11_iced_5 : decode cX11_iced 5 = .ok (.bipush 32, 2) := by decide +kernel
theorem dX11_iced_7 : decode cX11_iced 7 = .ok (.if_icmp .le 5, 3) := by decide +kernel
theorem dX11_iced_10 : decode cX11_iced 10 = .ok (.iconst (-1), 1) := by decide +kernel
theorem dX11_iced_11 : decode cX11_iced 11 = .ok (.ireturn, 1) := by decide +kernel
theorem dX11_iced_12 : decode cX11_iced 12 = .ok (.iconst 0, 1) := by decide +kernel
theorem dX11_iced_13 : decode cX11_iced 13 = .ok (.istore_n 2, 1) := by decide +kernel
theorem dX11_iced_14 : decode cX11_iced 14 = .ok (.iconst 0, 1) := by decide +kernel
theorem dX11_iced_15 : decode cX11_iced 15 = .ok (.istore_n 3, 1) := by decide +kernel
theorem dX11_iced_16 : decode cX11_iced 16 = .ok (.iload_n 3, 1) := by decide +kernel
theorem dX11_iced_17 : decode cX11_iced 17 = .ok (.aload_n 0, 1) := by decide +kernel
theorem dX11_iced_18 : decode cX11_iced 18 = .ok (.getfield 35, 3) := by decide +kernel
theorem dX11_iced_21 : decode cX11_iced 21 = .ok (.getfield 207, 3) := by decide +kernel
theorem dX11_iced_24 : decode cX11_iced 24 = .ok (.if_icmp .ge 46, 3) := by decide +kernel
theorem dX11_iced_27 : decode cX11_iced 27 = .ok (.aload_n 0, 1) := by decide +kernel
theorem dX11_iced_28 : decode cX11_iced 28 = .ok (.getfield 35, 3) := by decide +kernel
theorem dX11_iced_31 : decode cX11_iced 31 = .ok (.iload_n 3, 1) := by decide +kernel
theorem dX11_iced_32 : decode cX11_iced 32 = .ok (.invokevirtual 214, 3) := by decide +kernel
theorem dX11_iced_35 : decode cX11_iced 35 = .ok (.ifCond .eq 29, 3) := by decide +kernel
theorem dX11_iced_38 : decode cX11_iced 38 = .ok (.aload_n 0, 1) := by decide +kernel
theorem dX11_iced_39 : decode cX11_iced 39 = .ok (.getfield 16, 3) := by decide +kernel
theorem dX11_iced_42 : decode cX11_iced 42 = .ok (.aload_n 0, 1) := by decide +kernel
theorem dX11_iced_43 : decode cX11_iced 43 = .ok (.getfield 35, 3) := by decide +kernel
theorem dX11_iced_46 : decode cX11_iced 46 = .ok (.getfield 137, 3) := by decide +kernel
theorem dX11_iced_49 : decode cX11_iced 49 = .ok (.iload_n 3, 1) := by decide +kernel
theorem dX11_iced_50 : decode cX11_iced 50 = .ok (.aaload, 1) := by decide +kernel
theorem dX11_iced_51 : decode cX11_iced 51 = .ok (.invokevirtual 162, 3) := by decide +kernel
theorem dX11_iced_54 : decode cX11_iced 54 = .ok (.iload_n 1, 1) := by decide +kernel
theorem dX11_iced_55 : decode cX11_iced 55 = .ok (.if_icmp .lt 9, 3) := by decide +kernel
theorem dX11_iced_58 : decode cX11_iced 58 = .ok (.iload_n 2, 1) := by decide +kernel
theorem dX11_iced_59 : decode cX11_iced 59 = .ok (.iconst 1, 1) := by decide +kernel
theorem dX11_iced_60 : decode cX11_iced 60 = .ok (.iload_n 3, 1) := by decide +kernel
theorem dX11_iced_61 : decode cX11_iced 61 = .ok (.ishl, 1) := by decide +kernel
theorem dX11_iced_62 : decode cX11_iced 62 = .ok (.ior, 1) := by decide +kernel
theorem dX11_iced_63 : decode cX11_iced 63 = .ok (.istore_n 2, 1) := by decide +kernel
theorem dX11_iced_64 : decode cX11_iced 64 = .ok (.iinc 3 1, 3) := by decide +kernel
theorem dX11_iced_67 : decode cX11_iced 67 = .ok (.goto (-51), 3) := by decide +kernel
theorem dX11_iced_70 : decode cX11_iced 70 = .ok (.iload_n 2, 1) := by decide +kernel
theorem dX11_iced_71 : decode cX11_iced 71 = .ok (.ireturn, 1) := by decide +kernel
set_option maxRecDepth 20000 in
theorem ggX11_come_J6_bitCount_0f7a4 : GoodIn wsX11_come wsJ6_bitCount_0f7a4 := goodIn_r _ [7, 8, 9, 10] (by decide +kernel) (by decide +kernel)
set_option maxRecDepth 20000 in
theorem gX11_come_J6_bitCount_0f7a4 : GoodIn wsX11_come (va_wsS RX11 259 yJ6_bitCount_0f7a4 wsJ6_bitCount_0f7a4) := goodIn_app (goodIn_of _ (by decide +kernel)) ggX11_come_J6_bitCount_0f7a4
set_option maxRecDepth 20000 in
theorem ggX11_come_X11_commonDivisor : GoodIn wsX11_come wsX11_commonDivisor := goodIn_r _ [14] (by decide +kernel) (by decide +kernel)
set_option maxRecDepth 20000 in
theorem gX11_come_X11_commonDivisor : GoodIn wsX11_come (va_wsS RX11 338 yX11_commonDivisor wsX11_commonDivisor) := goodIn_app (goodIn_of _ (by decide +kernel)) ggX11_come_X11_commonDivisor
theorem dX11_come_0 : decode cX11_come 0 = .ok (.iload_n 1, 1) := by decide +kernel
theorem dX11_come_1 : decode cX11_come 1 = .ok (.ifCond .lt 33, 3) := by decide +kernel
theorem dX11_come_4 : decode cX11_come 4 = .ok (.iload_n 1, 1) := by decide +kernel
theorem dX11_come_5 : decode cX11_come 5 = .ok (.iconst 1, 1) := by decide +kernel
theorem dX11_come_6 : decode cX11_come 6 = .ok (.aload_n 0, 1) := by decide +kernel
theorem dX11_come_7 : decode cX11_come 7 = .ok (.getfield 16, 3) := by decide +kernel
theorem dX11_come_10 : decode cX11_come 10 = .ok (.getfield 253, 3) := by decide +kernel
theorem dX11_come_13 : decode cX11_come 13 = .ok (.ishl, 1) := by decide +kernel
theorem dX11_come_14 : decode cX11_come 14 = .ok (.if_icmp .ge 20, 3) := by decide +kernel
theorem dX11_come_17 : decode cX11_come 17 = .ok (.iload_n 1, 1) := by decide +kernel
theorem dX11_come_18 : decode cX11_come 18 = .ok (.invokestatic 259, 3) := by decide +kernel
theorem dX11_come_21 : decode cX11_come 21 = .ok (.iconst 4, 1) := by decide +kernel
theorem dX11_come_22 : decode cX11_come 22 = .ok (.if_icmp .gt 12, 3) := by decide +kernel
theorem dX11_come_25 : decode cX11_come 25 = .ok (.iload_n 2, 1) := by decide +kernel
theorem dX11_come_26 : decode cX11_come 26 = .ok (.ifCond .lt 8, 3) := by decide +kernel
theorem dX11_come_29 : decode cX11_come 29 = .ok (.iload_n 2, 1) := by decide +kernel
theorem dX11_come_30 : decode cX11_come 30 = .ok (.iconst 1, 1) := by decide +kernel
theorem dX11_come_31 : decode cX11_come 31 = .ok (.if_icmp .le 5, 3) := by decide +kernel
theorem dX11_come_34 : decode cX11_come 34 = .ok (.iconst (-1), 1) := by decide +kernel
theorem dX11_come_35 : decode cX11_come 35 = .ok (.ireturn, 1) := by decide +kernel
theorem dX11_come_36 : decode cX11_come 36 = .ok (.iconst 1, 1) := by decide +kernel
theorem dX11_come_37 : decode cX11_come 37 = .ok (.istore_n 3, 1) := by decide +kernel
theorem dX11_come_38 : decode cX11_come 38 = .ok (.iconst 1, 1) := by decide +kernel
theorem dX11_come_39 : decode cX11_come 39 = .ok (.istore 4, 2) := by decide +kernel
theorem dX11_come_41 : decode cX11_come 41 = .ok (.iconst 0, 1) := by decide +kernel
theorem dX11_come_42 : decode cX11_come 42 = .ok (.istore 5, 2) := by decide +kernel
theorem dX11_come_44 : decode cX11_come 44 = .ok (.iload 5, 2) := by decide +kernel
theorem dX11_come_46 : decode cX11_come 46 = .ok (.aload_n 0, 1) := by decide +kernel
theorem dX11_come_47 : decode cX11_come 47 = .ok (.getfield 16, 3) := by decide +kernel
theorem dX11_come_50 : decode cX11_come 50 = .ok (.getfield 253, 3) := by decide +kernel
theorem dX11_come_53 : decode cX11_come 53 = .ok (.if_icmp .ge 39, 3) := by decide +kernel
theorem dX11_come_56 : decode cX11_come 56 = .ok (.iload_n 1, 1) := by decide +kernel
theorem dX11_come_57 : decode cX11_come 57 = .ok (.iload 5, 2) := by decide +kernel
theorem dX11_come_59 : decode cX11_come 59 = .ok (.ishr, 1) := by decide +kernel
theorem dX11_come_60 : decode cX11_come 60 = .ok (.iconst 1, 1) := by decide +kernel
theorem dX11_come_61 : decode cX11_come 61 = .ok (.iand, 1) := by decide +kernel
theorem dX11_come_62 : decode cX11_come 62 = .ok (.iconst 1, 1) := by decide +kernel
theorem dX11_come_63 : decode cX11_come 63 = .ok (.if_icmp .ne 23, 3) := by decide +kernel
theorem dX11_come_66 : decode cX11_come 66 = .ok (.iload_n 3, 1) := by decide +kernel
theorem dX11_come_67 : decode cX11_come 67 = .ok (.aload_n 0, 1) := by decide +kernel
theorem dX11_come_68 : decode cX11_come 68 = .ok (.getfield 16, 3) := by decide +kernel
theorem dX11_come_71 : decode cX11_come 71 = .ok (.getfield 180, 3) := by decide +kernel
theorem dX11_come_74 : decode cX11_come 74 = .ok (.iload 5, 2) := by decide +kernel
theorem dX11_come_76 : decode cX11_come 76 = .ok (.iaload, 1) := by decide +kernel
theorem dX11_come_77 : decode cX11_come 77 = .ok (.imul, 1) := by decide +kernel
theorem dX11_come_78 : decode cX11_come 78 = .ok (.istore_n 3, 1) := by decide +kernel
theorem dX11_come_79 : decode cX11_come 79 = .ok (.iload 4, 2) := by decide +kernel
theorem dX11_come_81 : decode cX11_come 81 = .ok (.bipush 100, 2) := by decide +kernel
theorem dX11_come_83 : decode cX11_come 83 = .ok (.imul, 1) := by decide +kernel
theorem dX11_come_84 : decode cX11_come 84 = .ok (.istore 4, 2) := by decide +kernel
theorem dX11_come_86 : decode cX11_come 86 = .ok (.iinc 5 1, 3) := by decide +kernel
theorem dX11_come_89 : decode cX11_come 89 = .ok (.goto (-45), 3) := by decide +kernel
theorem dX11_come_92 : decode cX11_come 92 = .ok (.iload_n 3, 1) := by decide +kernel
theorem dX11_come_93 : decode cX11_come 93 = .ok (.iload 4, 2) := by decide +kernel
theorem dX11_come_95 : decode cX11_come 95 = .ok (.invokestatic 338, 3) := by decide +kernel
theorem dX11_come_98 : decode cX11_come 98 = .ok (.istore 5, 2) := by decide +kernel
theorem dX11_come_100 : decode cX11_come 100 = .ok (.iload 5, 2) := by decide +kernel
theorem dX11_come_102 : decode cX11_come 102 = .ok (.ifCond .ne 5, 3) := by decide +kernel
theorem dX11_come_105 : decode cX11_come 105 = .ok (.iconst (-1), 1) := by decide +kernel
theorem dX11_come_106 : decode cX11_come 106 = .ok (.ireturn, 1) := by decide +kernel
theorem dX11_come_107 : decode cX11_come 107 = .ok (.iload_n 2, 1) := by decide +kernel
theorem dX11_come_108 : decode cX11_come 108 = .ok (.ifCond .ne 10, 3) := by decide +kernel
theorem dX11_come_111 : decode cX11_come 111 = .ok (.iload_n 3, 1) := by decide +kernel
theorem dX11_come_112 : decode cX11_come 112 = .ok (.iload 5, 2) := by decide +kernel
theorem dX11_come_114 : decode cX11_come 114 = .ok (.idiv, 1) := by decide +kernel
theorem dX11_come_115 : decode cX11_come 115 = .ok (.goto 8, 3) := by decide +kernel
theorem dX11_come_118 : decode cX11_come 118 = .ok (.iload 4, 2) := by decide +kernel
theorem dX11_come_120 : decode cX11_come 120 = .ok (.iload 5, 2) := by decide +kernel
theorem dX11_come_122 : decode cX11_come 122 = .ok (.idiv, 1) := by decide +kernel
theorem dX11_come_123 : decode cX11_come 123 = .ok (.ireturn, 1) := by decide +kernel
theorem dX11_commonDivisor_0 : decode cX11_commonDivisor 0 = .ok (.iload_n 0, 1) := by decide +kernel
theorem dX11_commonDivisor_1 : decode cX11_commonDivisor 1 = .ok (.istore_n 2, 1) := by decide +kernel
theorem dX11_commonDivisor_2 : decode cX11_commonDivisor 2 = .ok (.iload_n 1, 1) := by decide +kernel
theorem dX11_commonDivisor_3 : decode cX11_commonDivisor 3 = .ok (.istore_n 3, 1) := by decide +kernel
theorem dX11_commonDivisor_4 : decode cX11_commonDivisor 4 = .ok (.iconst 0, 1) := by decide +kernel
theorem dX11_commonDivisor_5 : decode cX11_commonDivisor 5 = .ok (.istore 4, 2) := by decide +kernel
theorem dX11_commonDivisor_7 : decode cX11_commonDivisor 7 = .ok (.iload 4, 2) := by decide +kernel
theorem dX11_commonDivisor_9 : decode cX11_commonDivisor 9 = .ok (.bipush 64, 2) := by decide +kernel
theorem dX11_commonDivisor_11 : decode cX11_commonDivisor 11 = .ok (.if_icmp .ge 23, 3) := by decide +kernel
theorem dX11_commonDivisor_14 : decode cX11_commonDivisor 14 = .ok (.iload_n 3, 1) := by decide +kernel
theorem dX11_commonDivisor_15 : decode cX11_commonDivisor 15 = .ok (.ifCond .eq 19, 3) := by decide +kernel
theorem dX11_commonDivisor_18 : decode cX11_commonDivisor 18 = .ok (.iload_n 2, 1) := by decide +kernel
theorem dX11_commonDivisor_19 : decode cX11_commonDivisor 19 = .ok (.iload_n 3, 1) := by decide +kernel
theorem dX11_commonDivisor_20 : decode cX11_commonDivisor 20 = .ok (.irem, 1) := by decide +kernel
theorem dX11_commonDivisor_21 : decode cX11_commonDivisor 21 = .ok (.istore 5, 2) := by decide +kernel
theorem dX11_commonDivisor_23 : decode cX11_commonDivisor 23 = .ok (.iload_n 3, 1) := by decide +kernel
theorem dX11_commonDivisor_24 : decode cX11_commonDivisor 24 = .ok (.istore_n 2, 1) := by decide +kernel
theorem dX11_commonDivisor_25 : decode cX11_commonDivisor 25 = .ok (.iload 5, 2) := by decide +kernel
theorem dX11_commonDivisor_27 : decode cX11_commonDivisor 27 = .ok (.istore_n 3, 1) := by decide +kernel
theorem dX11_commonDivisor_28 : decode cX11_commonDivisor 28 = .ok (.iinc 4 1, 3) := by decide +kernel
theorem dX11_commonDivisor_31 : decode cX11_commonDivisor 31 = .ok (.goto (-24), 3) := by decide +kernel
theorem dX11_commonDivisor_34 : decode cX11_commonDivisor 34 = .ok (.iload_n 2, 1) := by decide +kernel
theorem dX11_commonDivisor_35 : decode cX11_commonDivisor 35 = .ok (.ireturn, 1) := by decide +kernel
set_option maxRecDepth 20000 in
theorem ggX11_sized_X4_tell : GoodIn wsX11_sized wsX4_tell := goodIn_r _ [6, 7, 8, 9, 10, 11, 12, 13, 14, 15, 31, 32, 33, 34, 35, 36, 37, 38, 39, 40, 41, 42, 43, 44, 45, 46, 47, 48, 49, 50, 51, 52, 53, 54, 55, 56, 57, 58, 59, 60, 61] (by decide +kernel) (by decide +kernel)
set_option maxRecDepth 20000 in
theorem gX11_sized_X4_tell : GoodIn wsX11_sized (wsV RX11 341 RX4 yX4_tell wsX4_tell) := goodIn_app (goodIn_of _ (by decide +kernel)) ggX11_sized_X4_tell
theorem dX11_sized_0 : decode cX11_sized 0 = .ok (.iload_n 1, 1) := by decide +kernel
theorem dX11_sized_1 : decode cX11_sized 1 = .ok (.iconst 1, 1) := by decide +kernel
theorem dX11_sized_2 : decode cX11_sized 2 = .ok (.if_icmp .lt 9, 3) := by decide +kernel
theorem dX11_sized_5 : decode cX11_sized 5 = .ok (.iload_n 1, 1) := by decide +kernel
theorem dX11_sized_6 : decode cX11_sized 6 = .ok (.bipush 64, 2) := by decide +kernel
theorem dX11_sized_8 : decode cX11_sized 8 = .ok (.if_icmp .le 5, 3) := by decide +kernel
theorem dX11_sized_11 : decode cX11_sized 11 = .ok (.iconst (-1), 1) := by decide +kernel
theorem dX11_sized_12 : decode cX11_sized 12 = .ok (.ireturn, 1) := by decide +kernel
theorem dX11_sized_13 : decode cX11_sized 13 = .ok (.aload_n 0, 1) := by decide +kernel
theorem dX11_sized_14 : decode cX11_sized 14 = .ok (.getfield 87, 3) := by decide +kernel
theorem dX11_sized_17 : decode cX11_sized 17 = .ok (.iconst 0, 1) := by decide +kernel
theorem dX11_sized_18 : decode cX11_sized 18 = .ok (.iload_n 1, 1) := by decide +kernel
theorem dX11_sized_19 : decode cX11_sized 19 = .ok (.iload_n 2, 1) := by decide +kernel
theorem dX11_sized_20 : decode cX11_sized 20 = .ok (.invokevirtual 341, 3) := by decide +kernel
theorem dX11_sized_23 : decode cX11_sized 23 = .ok (.ireturn, 1) := by decide +kernel
set_option maxRecDepth 20000 in
theorem ggX11_rimmed_X4_tell : GoodIn wsX11_rimmed wsX4_tell := goodIn_r _ [6, 7, 8, 9, 10, 11, 12, 13, 14, 15, 31, 32, 33, 34, 35, 36, 37, 38, 39, 40, 41, 42, 43, 44, 45, 46, 47, 48, 49, 50, 51, 52, 53, 54, 55, 56, 57, 58, 59, 60, 61] (by decide +kernel) (by decide +kernel)
set_option maxRecDepth 20000 in
theorem gX11_rimmed_X4_tell : GoodIn wsX11_rimmed (wsV RX11 341 RX4 yX4_tell wsX4_tell) := goodIn_app (goodIn_of _ (by decide +kernel)) ggX11_rimmed_X4_tell
theorem dX11_rimmed_0 : decode cX11_rimmed 0 = .ok (.iload_n 1, 1) := by decide +kernel
theorem dX11_rimmed_1 : decode cX11_rimmed 1 = .ok (.ifCond .lt 9, 3) := by decide +kernel
theorem dX11_rimmed_4 : decode cX11_rimmed 4 = .ok (.iload_n 1, 1) := by decide +kernel
theorem dX11_rimmed_5 : decode cX11_rimmed 5 = .ok (.bipush 32, 2) := by decide +kernel
theorem dX11_rimmed_7 : decode cX11_rimmed 7 = .ok (.if_icmp .le 5, 3) := by decide +kernel
theorem dX11_rimmed_10 : decode cX11_rimmed 10 = .ok (.iconst (-1), 1) := by decide +kernel
theorem dX11_rimmed_11 : decode cX11_rimmed 11 = .ok (.ireturn, 1) := by decide +kernel
theorem dX11_rimmed_12 : decode cX11_rimmed 12 = .ok (.aload_n 0, 1) := by decide +kernel
theorem dX11_rimmed_13 : decode cX11_rimmed 13 = .ok (.getfield 87, 3) := by decide +kernel
theorem dX11_rimmed_16 : decode cX11_rimmed 16 = .ok (.iconst 1, 1) := by decide +kernel
theorem dX11_rimmed_17 : decode cX11_rimmed 17 = .ok (.iload_n 1, 1) := by decide +kernel
theorem dX11_rimmed_18 : decode cX11_rimmed 18 = .ok (.iload_n 2, 1) := by decide +kernel
theorem dX11_rimmed_19 : decode cX11_rimmed 19 = .ok (.invokevirtual 341, 3) := by decide +kernel
theorem dX11_rimmed_22 : decode cX11_rimmed 22 = .ok (.ireturn, 1) := by decide +kernel
set_option maxRecDepth 20000 in
theorem ggX11_untell_X4_takeAway : GoodIn wsX11_untell wsX4_takeAway := goodIn_r _ [6, 7, 8, 9, 25, 26, 27, 28, 29, 30, 31, 32, 33, 34, 35, 36, 37, 38, 39] (by decide +kernel) (by decide +kernel)
set_option maxRecDepth 20000 in
theorem gX11_untell_X4_takeAway : GoodIn wsX11_untell (wsV RX11 345 RX4 yX4_takeAway wsX4_takeAway) := goodIn_app (goodIn_of _ (by decide +kernel)) ggX11_untell_X4_takeAway
theorem dX11_untell_0 : decode cX11_untell 0 = .ok (.aload_n 0, 1) := by decide +kernel
theorem dX11_untell_1 : decode cX11_untell 1 = .ok (.getfield 87, 3) := by decide +kernel
theorem dX11_untell_4 : decode cX11_untell 4 = .ok (.iload_n 1, 1) := by decide +kernel
theorem dX11_untell_5 : decode cX11_untell 5 = .ok (.invokevirtual 345, 3) := by decide +kernel
theorem dX11_untell_8 : decode cX11_untell 8 = .ok (.ireturn, 1) := by decide +kernel
set_option maxRecDepth 20000 in
theorem ggX11_later_X4_goOn : GoodIn wsX11_later wsX4_goOn := goodIn_r _ [6, 7, 8, 24, 25, 26, 27, 28, 29, 30, 31, 32, 33, 34, 35, 36, 37, 38] (by decide +kernel) (by decide +kernel)
set_option maxRecDepth 20000 in
theorem gX11_later_X4_goOn : GoodIn wsX11_later (wsV RX11 348 RX4 yX4_goOn wsX4_goOn) := goodIn_app (goodIn_of _ (by decide +kernel)) ggX11_later_X4_goOn
theorem dX11_later_0 : decode cX11_later 0 = .ok (.aload_n 0, 1) := by decide +kernel
theorem dX11_later_1 : decode cX11_later 1 = .ok (.getfield 87, 3) := by decide +kernel
theorem dX11_later_4 : decode cX11_later 4 = .ok (.iload_n 1, 1) := by decide +kernel
theorem dX11_later_5 : decode cX11_later 5 = .ok (.invokevirtual 348, 3) := by decide +kernel
theorem dX11_later_8 : decode cX11_later 8 = .ok (.ireturn, 1) := by decide +kernel
set_option maxRecDepth 20000 in
theorem ggX11_fits_X4_gather : GoodIn wsX11_fits wsX4_gather := goodIn_r _ [6, 7, 8, 9, 10, 11, 12, 13, 14, 15, 16, 17, 18, 19, 20, 21, 22, 23, 24, 25, 26, 27, 28, 5, 29, 30, 31, 32, 33, 34, 35, 36, 37, 38, 39, 55, 56, 57, 58, 59, 60, 61, 62, 63, 64, 65, 66, 67, 68, 69, 70, 71, 72, 73, 74, 75, 76, 77, 78, 79, 80, 81, 82, 83, 84, 85] (by decide +kernel) (by decide +kernel)
set_option maxRecDepth 20000 in
theorem gX11_fits_X4_gather : GoodIn wsX11_fits (wsV RX11 351 RX4 yX4_gather wsX4_gather) := goodIn_app (goodIn_of _ (by decide +kernel)) ggX11_fits_X4_gather
theorem dX11_fits_0 : decode cX11_fits 0 = .ok (.aload_n 0, 1) := by decide +kernel
theorem dX11_fits_1 : decode cX11_fits 1 = .ok (.getfield 87, 3) := by decide +kernel
theorem dX11_fits_4 : decode cX11_fits 4 = .ok (.iload_n 1, 1) := by decide +kernel
theorem dX11_fits_5 : decode cX11_fits 5 = .ok (.invokevirtual 351, 3) := by decide +kernel
theorem dX11_fits_8 : decode cX11_fits 8 = .ok (.ireturn, 1) := by decide +kernel
set_option maxRecDepth 20000 in
theorem ggX11_sure_X4_gather : GoodIn wsX11_sure wsX4_gather := goodIn_r _ [8, 9, 10, 11, 12, 13, 14, 15, 16, 17, 18, 19, 20, 21, 22, 23, 24, 25, 26, 27, 28, 29, 30, 7, 31, 32, 33, 34, 35, 36, 37, 38, 39, 40, 41, 61, 62, 63, 64, 65, 66, 67, 68, 69, 70, 71, 72, 73, 74, 75, 76, 77, 78, 79, 80, 81, 82, 83, 84, 85, 86, 87, 88, 89, 90, 91] (by decide +kernel) (by decide +kernel)
set_option maxRecDepth 20000 in
theorem gX11_sure_X4_gather : GoodIn wsX11_sure (wsV RX11 351 RX4 yX4_gather wsX4_gather) := goodIn_app (goodIn_of _ (by decide +kernel)) ggX11_sure_X4_gather
set_option maxRecDepth 20000 in
theorem ggX11_sure_X4_sameInAll : GoodIn wsX11_sure wsX4_sameInAll := goodIn_r _ [45, 9, 61, 62, 63, 64, 65, 66, 67, 68, 69, 70, 71, 72, 73, 74, 75] (by decide +kernel) (by decide +kernel)
set_option maxRecDepth 20000 in
theorem gX11_sure_X4_sameInAll : GoodIn wsX11_sure (wsV RX11 360 RX4 yX4_sameInAll wsX4_sameInAll) := goodIn_app (goodIn_of _ (by decide +kernel)) ggX11_sure_X4_sameInAll
theorem dX11_sure_0 : decode cX11_sure 0 = .ok (.iload_n 1, 1) := by decide +kernel
theorem dX11_sure_1 : decode cX11_sure 1 = .ok (.ifCond .lt 19, 3) := by decide +kernel
theorem dX11_sure_4 : decode cX11_sure 4 = .ok (.iload_n 1, 1) := by decide +kernel
theorem dX11_sure_5 : decode cX11_sure 5 = .ok (.iconst 1, 1) := by decide +kernel
theorem dX11_sure_6 : decode cX11_sure 6 = .ok (.if_icmp .gt 14, 3) := by decide +kernel
theorem dX11_sure_9 : decode cX11_sure 9 = .ok (.aload_n 0, 1) := by decide +kernel
theorem dX11_sure_10 : decode cX11_sure 10 = .ok (.getfield 87, 3) := by decide +kernel
theorem dX11_sure_13 : decode cX11_sure 13 = .ok (.iload_n 2, 1) := by decide +kernel
theorem dX11_sure_14 : decode cX11_sure 14 = .ok (.invokevirtual 351, 3) := by decide +kernel
theorem dX11_sure_17 : decode cX11_sure 17 = .ok (.ifCond .ne 5, 3) := by decide +kernel
theorem dX11_sure_20 : decode cX11_sure 20 = .ok (.iconst (-1), 1) := by decide +kernel
theorem dX11_sure_21 : decode cX11_sure 21 = .ok (.ireturn, 1) := by decide +kernel
theorem dX11_sure_22 : decode cX11_sure 22 = .ok (.aload_n 0, 1) := by decide +kernel
theorem dX11_sure_23 : decode cX11_sure 23 = .ok (.getfield 87, 3) := by decide +kernel
theorem dX11_sure_26 : decode cX11_sure 26 = .ok (.iload_n 1, 1) := by decide +kernel
theorem dX11_sure_27 : decode cX11_sure 27 = .ok (.ifCond .ne 13, 3) := by decide +kernel
theorem dX11_sure_30 : decode cX11_sure 30 = .ok (.aload_n 0, 1) := by decide +kernel
theorem dX11_sure_31 : decode cX11_sure 31 = .ok (.getfield 87, 3) := by decide +kernel
theorem dX11_sure_34 : decode cX11_sure 34 = .ok (.getfield 354, 3) := by decide +kernel
theorem dX11_sure_37 : decode cX11_sure 37 = .ok (.goto 10, 3) := by decide +kernel
theorem dX11_sure_40 : decode cX11_sure 40 = .ok (.aload_n 0, 1) := by decide +kernel
theorem dX11_sure_41 : decode cX11_sure 41 = .ok (.getfield 87, 3) := by decide +kernel
theorem dX11_sure_44 : decode cX11_sure 44 = .ok (.getfield 357, 3) := by decide +kernel
theorem dX11_sure_47 : decode cX11_sure 47 = .ok (.invokevirtual 360, 3) := by decide +kernel
theorem dX11_sure_50 : decode cX11_sure 50 = .ok (.ireturn, 1) := by decide +kernel
set_option maxRecDepth 20000 in
theorem ggX11_ask_X4_gather : GoodIn wsX11_ask wsX4_gather := goodIn_r _ [8, 9, 10, 11, 12, 13, 14, 15, 16, 17, 18, 19, 20, 21, 22, 23, 24, 25, 26, 27, 28, 29, 30, 7, 31, 32, 33, 34, 35, 36, 37, 38, 39, 40, 41, 67, 68, 69, 70, 71, 72, 73, 74, 75, 76, 77, 78, 79, 80, 81, 82, 83, 84, 85, 86, 87, 88, 89, 90, 91, 92, 93, 94, 95, 96, 97] (by decide +kernel) (by decide +kernel)
set_option maxRecDepth 20000 in
theorem gX11_ask_X4_gather : GoodIn wsX11_ask (wsV RX11 351 RX4 yX4_gather wsX4_gather) := goodIn_app (goodIn_of _ (by decide +kernel)) ggX11_ask_X4_gather
set_option maxRecDepth 20000 in
theorem ggX11_ask_X4_findQuestion : GoodIn wsX11_ask wsX4_findQuestion := goodIn_r _ [45, 46, 9, 17, 47, 48, 49, 50, 51, 67, 68, 69, 70, 71, 72, 73, 74, 75, 76, 77, 78, 79, 80, 81] (by decide +kernel) (by decide +kernel)
set_option maxRecDepth 20000 in
theorem gX11_ask_X4_findQuestion : GoodIn wsX11_ask (wsV RX11 363 RX4 yX4_findQuestion wsX4_findQuestion) := goodIn_app (goodIn_of _ (by decide +kernel)) ggX11_ask_X4_findQuestion
theorem dX11_ask_0 : decode cX11_ask 0 = .ok (.iload_n 1, 1) := by decide +kernel
theorem dX11_ask_1 : decode cX11_ask 1 = .ok (.ifCond .lt 19, 3) := by decide +kernel
theorem dX11_ask_4 : decode cX11_ask 4 = .ok (.iload_n 1, 1) := by decide +kernel
theorem dX11_ask_5 : decode cX11_ask 5 = .ok (.iconst 1, 1) := by decide +kernel
theorem dX11_ask_6 : decode cX11_ask 6 = .ok (.if_icmp .gt 14, 3) := by decide +kernel
theorem dX11_ask_9 : decode cX11_ask 9 = .ok (.aload_n 0, 1) := by decide +kernel
theorem dX11_ask_10 : decode cX11_ask 10 = .ok (.getfield 87, 3) := by decide +kernel
theorem dX11_ask_13 : decode cX11_ask 13 = .ok (.iload_n 2, 1) := by decide +kernel
theorem dX11_ask_14 : decode cX11_ask 14 = .ok (.invokevirtual 351, 3) := by decide +kernel
theorem dX11_ask_17 : decode cX11_ask 17 = .ok (.ifCond .ne 5, 3) := by decide +kernel
theorem dX11_ask_20 : decode cX11_ask 20 = .ok (.iconst (-1), 1) := by decide +kernel
theorem dX11_ask_21 : decode cX11_ask 21 = .ok (.ireturn, 1) := by decide +kernel
theorem dX11_ask_22 : decode cX11_ask 22 = .ok (.aload_n 0, 1) := by decide +kernel
theorem dX11_ask_23 : decode cX11_ask 23 = .ok (.getfield 87, 3) := by decide +kernel
theorem dX11_ask_26 : decode cX11_ask 26 = .ok (.invokevirtual 363, 3) := by decide +kernel
theorem dX11_ask_29 : decode cX11_ask 29 = .ok (.iload_n 1, 1) := by decide +kernel
theorem dX11_ask_30 : decode cX11_ask 30 = .ok (.ifCond .ne 13, 3) := by decide +kernel
theorem dX11_ask_33 : decode cX11_ask 33 = .ok (.aload_n 0, 1) := by decide +kernel
theorem dX11_ask_34 : decode cX11_ask 34 = .ok (.getfield 87, 3) := by decide +kernel
theorem dX11_ask_37 : decode cX11_ask 37 = .ok (.getfield 366, 3) := by decide +kernel
theorem dX11_ask_40 : decode cX11_ask 40 = .ok (.goto 10, 3) := by decide +kernel
theorem dX11_ask_43 : decode cX11_ask 43 = .ok (.aload_n 0, 1) := by decide +kernel
theorem dX11_ask_44 : decode cX11_ask 44 = .ok (.getfield 87, 3) := by decide +kernel
theorem dX11_ask_47 : decode cX11_ask 47 = .ok (.getfield 369, 3) := by decide +kernel
theorem dX11_ask_50 : decode cX11_ask 50 = .ok (.ireturn, 1) := by decide +kernel
set_option maxRecDepth 20000 in
theorem ggX11_image_X1_takeFrom : GoodIn wsX11_image wsX1_takeFrom := goodIn_r _ [9, 10, 11, 12, 13, 14, 15, 16, 17, 18, 19, 20, 21, 22, 23, 24, 25, 26, 42, 43, 44, 45, 46, 47, 48, 49, 50, 51, 52, 53, 54] (by decide +kernel) (by decide +kernel)
set_option maxRecDepth 20000 in
theorem gX11_image_X1_takeFrom : GoodIn wsX11_image (wsV RX11 372 RX1 yX1_takeFrom wsX1_takeFrom) := goodIn_app (goodIn_of _ (by decide +kernel)) ggX11_image_X1_takeFrom
theorem dX11_image_0 : decode cX11_image 0 = .ok (.iload_n 1, 1) := by decide +kernel
theorem dX11_image_1 : decode cX11_image 1 = .ok (.ifCond .lt 12, 3) := by decide +kernel
theorem dX11_image_4 : decode cX11_image 4 = .ok (.iload_n 1, 1) := by decide +kernel
theorem dX11_image_5 : decode cX11_image 5 = .ok (.aload_n 0, 1) := by decide +kernel
theorem dX11_image_6 : decode cX11_image 6 = .ok (.getfield 39, 3) := by decide +kernel
theorem dX11_image_9 : decode cX11_image 9 = .ok (.arraylength, 1) := by decide +kernel
theorem dX11_image_10 : decode cX11_image 10 = .ok (.if_icmp .lt 5, 3) := by decide +kernel
theorem dX11_image_13 : decode cX11_image 13 = .ok (.iconst (-1), 1) := by decide +kernel
theorem dX11_image_14 : decode cX11_image 14 = .ok (.ireturn, 1) := by decide +kernel
theorem dX11_image_15 : decode cX11_image 15 = .ok (.aload_n 0, 1) := by decide +kernel
theorem dX11_image_16 : decode cX11_image 16 = .ok (.getfield 39, 3) := by decide +kernel
theorem dX11_image_19 : decode cX11_image 19 = .ok (.iload_n 1, 1) := by decide +kernel
theorem dX11_image_20 : decode cX11_image 20 = .ok (.aaload, 1) := by decide +kernel
theorem dX11_image_21 : decode cX11_image 21 = .ok (.aload_n 0, 1) := by decide +kernel
theorem dX11_image_22 : decode cX11_image 22 = .ok (.getfield 35, 3) := by decide +kernel
theorem dX11_image_25 : decode cX11_image 25 = .ok (.invokevirtual 372, 3) := by decide +kernel
theorem dX11_image_28 : decode cX11_image 28 = .ok (.aload_n 0, 1) := by decide +kernel
theorem dX11_image_29 : decode cX11_image 29 = .ok (.getfield 39, 3) := by decide +kernel
theorem dX11_image_32 : decode cX11_image 32 = .ok (.iload_n 1, 1) := by decide +kernel
theorem dX11_image_33 : decode cX11_image 33 = .ok (.aaload, 1) := by decide +kernel
theorem dX11_image_34 : decode cX11_image 34 = .ok (.iconst 1, 1) := by decide +kernel
theorem dX11_image_35 : decode cX11_image 35 = .ok (.putfield 114, 3) := by decide +kernel
theorem dX11_image_38 : decode cX11_image 38 = .ok (.aload_n 0, 1) := by decide +kernel
theorem dX11_image_39 : decode cX11_image 39 = .ok (.getfield 35, 3) := by decide +kernel
theorem dX11_image_42 : decode cX11_image 42 = .ok (.getfield 207, 3) := by decide +kernel
theorem dX11_image_45 : decode cX11_image 45 = .ok (.ireturn, 1) := by decide +kernel
set_option maxRecDepth 20000 in
theorem ggX11_restore_X1_takeFrom : GoodIn wsX11_restore wsX1_takeFrom := goodIn_r _ [10, 11, 12, 13, 14, 15, 16, 17, 18, 19, 20, 21, 22, 23, 24, 25, 26, 27, 50, 51, 52, 53, 54, 55, 56, 57, 58, 59, 60, 61, 62] (by decide +kernel) (by decide +kernel)
set_option maxRecDepth 20000 in
theorem gX11_restore_X1_takeFrom : GoodIn wsX11_restore (wsV RX11 372 RX1 yX1_takeFrom wsX1_takeFrom) := goodIn_app (goodIn_of _ (by decide +kernel)) ggX11_restore_X1_takeFrom
set_option maxRecDepth 20000 in
theorem ggX11_restore_X0_forget : GoodIn wsX11_restore wsX0_forget := goodIn_r _ [32, 33, 34, 63, 64, 65, 66, 67, 68, 69, 70, 71, 72, 73] (by decide +kernel) (by decide +kernel)
set_option maxRecDepth 20000 in
theorem gX11_restore_X0_forget : GoodIn wsX11_restore (wsV RX11 118 RX0 yX0_forget wsX0_forget) := goodIn_app (goodIn_of _ (by decide +kernel)) ggX11_restore_X0_forget
theorem dX11_restore_0 : decode cX11_restore 0 = .ok (.iload_n 1, 1) := by decide +kernel
theorem dX11_restore_1 : decode cX11_restore 1 = .ok (.ifCond .lt 24, 3) := by decide +kernel
theorem dX11_restore_4 : decode cX11_restore 4 = .ok (.iload_n 1, 1) := by decide +kernel
theorem dX11_restore_5 : decode cX11_restore 5 = .ok (.aload_n 0, 1) := by decide +kernel
theorem dX11_restore_6 : decode cX11_restore 6 = .ok (.getfield 39, 3) := by decide +kernel
theorem dX11_restore_9 : decode cX11_restore 9 = .ok (.arraylength, 1) := by decide +kernel
theorem dX11_restore_10 : decode cX11_restore 10 = .ok (.if_icmp .ge 15, 3) := by decide +kernel
theorem dX11_restore_13 : decode cX11_restore 13 = .ok (.aload_n 0, 1) := by decide +kernel
theorem dX11_restore_14 : decode cX11_restore 14 = .ok (.getfield 39, 3) := by decide +kernel
theorem dX11_restore_17 : decode cX11_restore 17 = .ok (.iload_n 1, 1) := by decide +kernel
theorem dX11_restore_18 : decode cX11_restore 18 = .ok (.aaload, 1) := by decide +kernel
theorem dX11_restore_19 : decode cX11_restore 19 = .ok (.getfield 114, 3) := by decide +kernel
theorem dX11_restore_22 : decode cX11_restore 22 = .ok (.ifCond .ne 5, 3) := by decide +kernel
theorem dX11_restore_25 : decode cX11_restore 25 = .ok (.iconst (-1), 1) := by decide +kernel
theorem dX11_restore_26 : decode cX11_restore 26 = .ok (.ireturn, 1) := by decide +kernel
theorem dX11_restore_27 : decode cX11_restore 27 = .ok (.aload_n 0, 1) := by decide +kernel
theorem dX11_restore_28 : decode cX11_restore 28 = .ok (.getfield 35, 3) := by decide +kernel
theorem dX11_restore_31 : decode cX11_restore 31 = .ok (.aload_n 0, 1) := by decide +kernel
theorem dX11_restore_32 : decode cX11_restore 32 = .ok (.getfield 39, 3) := by decide +kernel
theorem dX11_restore_35 : decode cX11_restore 35 = .ok (.iload_n 1, 1) := by decide +kernel
theorem dX11_restore_36 : decode cX11_restore 36 = .ok (.aaload, 1) := by decide +kernel
theorem dX11_restore_37 : decode cX11_restore 37 = .ok (.invokevirtual 372, 3) := by decide +kernel
theorem dX11_restore_40 : decode cX11_restore 40 = .ok (.aload_n 0, 1) := by decide +kernel
theorem dX11_restore_41 : decode cX11_restore 41 = .ok (.getfield 57, 3) := by decide +kernel
theorem dX11_restore_44 : decode cX11_restore 44 = .ok (.invokevirtual 118, 3) := by decide +kernel
theorem dX11_restore_47 : decode cX11_restore 47 = .ok (.aload_n 0, 1) := by decide +kernel
theorem dX11_restore_48 : decode cX11_restore 48 = .ok (.getfield 35, 3) := by decide +kernel
theorem dX11_restore_51 : decode cX11_restore 51 = .ok (.getfield 207, 3) := by decide +kernel
theorem dX11_restore_54 : decode cX11_restore 54 = .ok (.ireturn, 1) := by decide +kernel
set_option maxRecDepth 20000 in
theorem ggX11_about_X1_brokenSet : GoodIn wsX11_about wsX1_brokenSet := goodIn_r _ [23, 24, 25, 26, 58, 59, 60, 61, 62, 63, 95, 96, 97, 98, 99, 100, 101] (by decide +kernel) (by decide +kernel)
set_option maxRecDepth 20000 in
theorem gX11_about_X1_brokenSet : GoodIn wsX11_about (wsV RX11 381 RX1 yX1_brokenSet wsX1_brokenSet) := goodIn_app (goodIn_of _ (by decide +kernel)) ggX11_about_X1_brokenSet
theorem dX11_about_0 : decode cX11_about 0 = .ok (.iload_n 1, 1) := by decide +kernel
theorem dX11_about_1 : decode cX11_about 1 = .ok (.tableswitch 187 0 12 #[67, 75, 83, 91, 99, 107, 115, 123, 139, 147, 155, 160, 182], 67) := by decide +kernel
theorem dX11_about_68 : decode cX11_about 68 = .ok (.aload_n 0, 1) := by decide +kernel
theorem dX11_about_69 : decode cX11_about 69 = .ok (.getfield 16, 3) := by decide +kernel
theorem dX11_about_72 : decode cX11_about 72 = .ok (.getfield 125, 3) := by decide +kernel
theorem dX11_about_75 : decode cX11_about 75 = .ok (.ireturn, 1) := by decide +kernel
theorem dX11_about_76 : decode cX11_about 76 = .ok (.aload_n 0, 1) := by decide +kernel
theorem dX11_about_77 : decode cX11_about 77 = .ok (.getfield 16, 3) := by decide +kernel
theorem dX11_about_80 : decode cX11_about 80 = .ok (.getfield 253, 3) := by decide +kernel
theorem dX11_about_83 : decode cX11_about 83 = .ok (.ireturn, 1) := by decide +kernel
theorem dX11_about_84 : decode cX11_about 84 = .ok (.aload_n 0, 1) := by decide +kernel
theorem dX11_about_85 : decode cX11_about 85 = .ok (.getfield 35, 3) := by decide +kernel
theorem dX11_about_88 : decode cX11_about 88 = .ok (.getfield 207, 3) := by decide +kernel
theorem dX11_about_91 : decode cX11_about 91 = .ok (.ireturn, 1) := by decide +kernel
theorem dX11_about_92 : decode cX11_about 92 = .ok (.aload_n 0, 1) := by decide +kernel
theorem dX11_about_93 : decode cX11_about 93 = .ok (.getfield 35, 3) := by decide +kernel
theorem dX11_about_96 : decode cX11_about 96 = .ok (.getfield 375, 3) := by decide +kernel
theorem dX11_about_99 : decode cX11_about 99 = .ok (.ireturn, 1) := by decide +kernel
theorem dX11_about_100 : decode cX11_about 100 = .ok (.aload_n 0, 1) := by decide +kernel
theorem dX11_about_101 : decode cX11_about 101 = .ok (.getfield 35, 3) := by decide +kernel
theorem dX11_about_104 : decode cX11_about 104 = .ok (.getfield 378, 3) := by decide +kernel
theorem dX11_about_107 : decode cX11_about 107 = .ok (.ireturn, 1) := by decide +kernel
theorem dX11_about_108 : decode cX11_about 108 = .ok (.aload_n 0, 1) := by decide +kernel
theorem dX11_about_109 : decode cX11_about 109 = .ok (.getfield 35, 3) := by decide +kernel
theorem dX11_about_112 : decode cX11_about 112 = .ok (.invokevirtual 381, 3) := by decide +kernel
theorem dX11_about_115 : decode cX11_about 115 = .ok (.ireturn, 1) := by decide +kernel
theorem dX11_about_116 : decode cX11_about 116 = .ok (.aload_n 0, 1) := by decide +kernel
theorem dX11_about_117 : decode cX11_about 117 = .ok (.getfield 57, 3) := by decide +kernel
theorem dX11_about_120 : decode cX11_about 120 = .ok (.getfield 384, 3) := by decide +kernel
theorem dX11_about_123 : decode cX11_about 123 = .ok (.ireturn, 1) := by decide +kernel
theorem dX11_about_124 : decode cX11_about 124 = .ok (.aload_n 0, 1) := by decide +kernel
theorem dX11_about_125 : decode cX11_about 125 = .ok (.getfield 57, 3) := by decide +kernel
theorem dX11_about_128 : decode cX11_about 128 = .ok (.getfield 387, 3) := by decide +kernel
theorem dX11_about_131 : decode cX11_about 131 = .ok (.aload_n 0, 1) := by decide +kernel
theorem dX11_about_132 : decode cX11_about 132 = .ok (.getfield 57, 3) := by decide +kernel
theorem dX11_about_135 : decode cX11_about 135 = .ok (.getfield 384, 3) := by decide +kernel
theorem dX11_about_138 : decode cX11_about 138 = .ok (.isub, 1) := by decide +kernel
theorem dX11_about_139 : decode cX11_about 139 = .ok (.ireturn, 1) := by decide +kernel
theorem dX11_about_140 : decode cX11_about 140 = .ok (.aload_n 0, 1) := by decide +kernel
theorem dX11_about_141 : decode cX11_about 141 = .ok (.getfield 87, 3) := by decide +kernel
theorem dX11_about_144 : decode cX11_about 144 = .ok (.getfield 390, 3) := by decide +kernel
theorem dX11_about_147 : decode cX11_about 147 = .ok (.ireturn, 1) := by decide +kernel
theorem dX11_about_148 : decode cX11_about 148 = .ok (.aload_n 0, 1) := by decide +kernel
theorem dX11_about_149 : decode cX11_about 149 = .ok (.getfield 87, 3) := by decide +kernel
theorem dX11_about_152 : decode cX11_about 152 = .ok (.getfield 391, 3) := by decide +kernel
theorem dX11_about_155 : decode cX11_about 155 = .ok (.ireturn, 1) := by decide +kernel
theorem dX11_about_156 : decode cX11_about 156 = .ok (.aload_n 0, 1) := by decide +kernel
theorem dX11_about_157 : decode cX11_about 157 = .ok (.getfield 95, 3) := by decide +kernel
theorem dX11_about_160 : decode cX11_about 160 = .ok (.ireturn, 1) := by decide +kernel
theorem dX11_about_161 : decode cX11_about 161 = .ok (.aload_n 0, 1) := by decide +kernel
theorem dX11_about_162 : decode cX11_about 162 = .ok (.getfield 16, 3) := by decide +kernel
theorem dX11_about_165 : decode cX11_about 165 = .ok (.getfield 394, 3) := by decide +kernel
theorem dX11_about_168 : decode cX11_about 168 = .ok (.getfield 398, 3) := by decide +kernel
theorem dX11_about_171 : decode cX11_about 171 = .ok (.aload_n 0, 1) := by decide +kernel
theorem dX11_about_172 : decode cX11_about 172 = .ok (.getfield 16, 3) := by decide +kernel
theorem dX11_about_175 : decode cX11_about 175 = .ok (.getfield 403, 3) := by decide +kernel
theorem dX11_about_178 : decode cX11_about 178 = .ok (.getfield 398, 3) := by decide +kernel
theorem dX11_about_181 : decode cX11_about 181 = .ok (.iadd, 1) := by decide +kernel
theorem dX11_about_182 : decode cX11_about 182 = .ok (.ireturn, 1) := by decide +kernel
theorem dX11_about_183 : decode cX11_about 183 = .ok (.aload_n 0, 1) := by decide +kernel
theorem dX11_about_184 : decode cX11_about 184 = .ok (.getfield 122, 3) := by decide +kernel
theorem dX11_about_187 : decode cX11_about 187 = .ok (.ireturn, 1) := by decide +kernel
theorem dX11_about_188 : decode cX11_about 188 = .ok (.iconst (-1), 1) := by decide +kernel
theorem dX11_about_189 : decode cX11_about 189 = .ok (.ireturn, 1) := by decide +kernel
theorem in_X11_putOnTape_X11 : ∀ w ∈ wsX110, w ∈ wsX11_putOnTape := fun _ h => (List.mem_cons_of_mem _ (List.mem_append_right _ h))
def fn_X11_putOnTape_42 (k3 : Int32 → Int32 → St → Option (St)) (v1 : Int32) (v2 : Int32) (z : St) : Option (St) := k3 v1 (v2 + (-8)) z
set_option maxHeartbeats 4000000 in
set_option maxRecDepth 100000 in
theorem pf_X11_putOnTape_42 {p : Program} {l : Launch} {e : Env} {s : State} {m : MethodId} {args : Array Value} {below : List Frame} {meth : Method} {c : Code} {G : wG} (C : CX p s m args meth c cX11_putOnTape 3 wsX11_putOnTape RX11 none G) {Rz : St} {k3 : Int32 → Int32 → St → Option (St)} (hk_3 : ∀ (v1 : Int32) (v2 : Int32) (z : St)  (H : Heap) (locs : List Loc) (ls : Array Slot), WP G z H → va_S (AW G) s.heap H locs → lv_has ls 3 [(0, .ref (G.2.2 0)), (1, .int v1), (2, .int v2)] → k3 v1 v2 z = some Rz → W p l e (rmd 1) s m args below meth c H locs 0 0 (QV below args s G Rz) (F0 m 3 ls [])) (v1 : Int32) (v2 : Int32) (z : St)  {H : Heap} {locs : List Loc} {ls : Array Slot} (hP : WP G z H) (hS : va_S (AW G) s.heap H locs) (hl : lv_has ls 3 [(0, .ref (G.2.2 0)), (1, .int v1), (2, .int v2)]) (h : fn_X11_putOnTape_42  k3 v1 v2 z = some Rz) : W p l e (rmd 1) s m args below meth c H locs 0 0 (QV below args s G Rz) (F0 m 42 ls []) := by
  obtain ⟨hx, hb, hml, hown, hts, hr, hlocks, hK, hG⟩ := id C
  unfold fn_X11_putOnTape_42 at h
  refine lv_iinc (v := (v2 + (-8))) (lv' := [(2, .int (v2 + (-8))), (0, .ref (G.2.2 0)), (1, .int v1)]) hx hb dX11_putOnTape_42 hl (k := 2) rfl rfl (by decide) rfl (fun ls hl => ?_)
  refine lv_goto (tgt := 3) hx hb dX11_putOnTape_45 (by decide) ?_
  exact hk_3 v1 (v2 + (-8)) z  _ _ _ hP hS (lv_sub hl [1, 2, 0] rfl) h
def fn_X11_putOnTape_3 : Nat → Int32 → Int32 → St → Option (St)
  | 0, _, _, _ => none
  | n + 1, v1, v2, z => (if v2 < 0 then some z else (if 1600 ≤ (z.1 0 1) then fn_X11_putOnTape_42  (fn_X11_putOnTape_3   n) v1 v2 z else gd (ix (z.1 0 1) 1600) (nm (sI z 1 (Int32.toNatClampNeg (z.1 0 1)) (Int8.toInt32 (Int32.toInt8 (Int8.toInt32 (Int32.toInt8 (v1 >>> (v2 &&& 31))))))) (fun z4 => nm (sI z4 0 1 ((z4.1 0 1) + 1)) (fun z5 => fn_X11_putOnTape_42  (fn_X11_putOnTape_3   n) v1 v2 z5)))))
set_option maxHeartbeats 4000000 in
set_option maxRecDepth 100000 in
theorem pf_X11_putOnTape_3 {p : Program} {l : Launch} {e : Env} {s : State} {m : MethodId} {args : Array Value} {below : List Frame} {meth : Method} {c : Code} {G : wG} (C : CX p s m args meth c cX11_putOnTape 3 wsX11_putOnTape RX11 none G) {Rz : St} : ∀ (n : Nat) (v1 : Int32) (v2 : Int32) (z : St)  (H : Heap) (locs : List Loc) (ls : Array Slot), WP G z H → va_S (AW G) s.heap H locs → lv_has ls 3 [(0, .ref (G.2.2 0)), (1, .int v1), (2, .int v2)] → fn_X11_putOnTape_3   n v1 v2 z = some Rz → W p l e (rmd 1) s m args below meth c H locs 0 0 (QV below args s G Rz) (F0 m 3 ls []) := by
  obtain ⟨hx, hb, hml, hown, hts, hr, hlocks, hK, hG⟩ := id C
  intro n
  induction n with
  | zero => intro v1 v2 z  H locs ls hP hS hl h; cases h
  | succ n ih =>
    intro v1 v2 z  H locs ls hP hS hl h
    rw [fn_X11_putOnTape_3] at h
    refine lv_iload_n hx hb dX11_putOnTape_3 rfl (lv_at hl 2 rfl) ?_
    refine lv_if_lt (tgt := 48) hx hb dX11_putOnTape_4 (by decide) (fun c1 => ?_) (fun c1 => ?_)
    · rw [if_pos c1] at h
      exact x_vret hx hb hr hlocks hK hP hS h dX11_putOnTape_48
    · rw [if_neg c1] at h
      refine lv_aload_n hx hb dX11_putOnTape_7 rfl (lv_at hl 0 rfl) ?_
      refine ge_11_1 hx hb hts in_X11_putOnTape_X11 hown hK hP k_0 (hts _ (List.mem_of_getElem? (i := 1) rfl)) dX11_putOnTape_8 ?_
      refine lv_aload_n hx hb dX11_putOnTape_11 rfl (lv_at hl 0 rfl) ?_
      refine ge_11_0 hx hb hts in_X11_putOnTape_X11 hown hK hP k_0 (hts _ (List.mem_of_getElem? (i := 2) rfl)) dX11_putOnTape_12 ?_
      refine xn_13 (v := 1600) hx hb hK hP k_1 l_1 rfl dX11_putOnTape_15 ?_
      refine lv_icmp_ge (tgt := 42) hx hb dX11_putOnTape_16 (by decide) (fun c2 => ?_) (fun c2 => ?_)
      · rw [if_pos c2] at h
        exact pf_X11_putOnTape_42 C  ih v1 v2 z  hP hS (lv_sub hl [0, 1, 2] rfl) h
      · rw [if_neg c2] at h
        refine lv_aload_n hx hb dX11_putOnTape_19 rfl (lv_at hl 0 rfl) ?_
        refine ge_11_0 hx hb hts in_X11_putOnTape_X11 hown hK hP k_0 (hts _ (List.mem_of_getElem? (i := 2) rfl)) dX11_putOnTape_20 ?_
        refine lv_aload_n hx hb dX11_putOnTape_23 rfl (lv_at hl 0 rfl) ?_
        refine ge_11_1 hx hb hts in_X11_putOnTape_X11 hown hK hP k_0 (hts _ (List.mem_of_getElem? (i := 1) rfl)) dX11_putOnTape_24 ?_
        refine lv_iload_n hx hb dX11_putOnTape_27 rfl (lv_at hl 1 rfl) ?_
        refine lv_iload_n hx hb dX11_putOnTape_28 rfl (lv_at hl 2 rfl) ?_
        refine lv_ishr hx hb dX11_putOnTape_29 ?_
        refine lv_i2b hx hb dX11_putOnTape_30 rfl ?_
        obtain ⟨g3, h⟩ := gd_s h
        obtain ⟨z4, e_z4, h⟩ := nm_s h
        refine xs_13 hx hb hK hG hP hS k_1 l_1 (ix_in g3) dX11_putOnTape_31 (fun H locs hP hS => ?_)
        rw [← e_z4] at hP
        refine lv_aload_n hx hb dX11_putOnTape_32 rfl (lv_at hl 0 rfl) ?_
        refine lv_dup hx hb dX11_putOnTape_33 rfl ?_
        refine ge_11_1 hx hb hts in_X11_putOnTape_X11 hown hK hP k_0 (hts _ (List.mem_of_getElem? (i := 1) rfl)) dX11_putOnTape_34 ?_
        refine lv_iconst (v := 1) hx hb dX11_putOnTape_37 (by decide) ?_
        refine lv_iadd hx hb dX11_putOnTape_38 ?_
        obtain ⟨z5, e_z5, h⟩ := nm_s h
        refine pu_11_1 hx hb hts in_X11_putOnTape_X11 hown hK hG hP hS k_0 (hts _ (List.mem_of_getElem? (i := 1) rfl)) dX11_putOnTape_39 (fun H locs hP hS => ?_)
        rw [← e_z5] at hP
        exact pf_X11_putOnTape_42 C  ih v1 v2 z5  hP hS (lv_sub hl [0, 1, 2] rfl) h
def fn_X11_putOnTape (v1 : Int32) (z : St) : Option (St) := fn_X11_putOnTape_3   fu v1 24 z
set_option maxHeartbeats 4000000 in
set_option maxRecDepth 100000 in
theorem m_X11_putOnTape {l : Launch} {G : wG} (hG : Ok G) {v1 : Int32} {z : St} {Rz : St}  (h : fn_X11_putOnTape  v1 z = some Rz) : Met l yX11_putOnTape wsX11_putOnTape (rmd 1) (va_Pc [.ref (G.2.2 0), .int v1] (Pre G z)) (va_Qv (fun u => u = Rz) (Pre G) (AW G)) 0 0 (AW G) := by
  refine Met.ofW (cc := cX11_putOnTape) (maxL := 3) (ret := none) (by decide) rfl ?_
  intro p e s m args below meth c s₁ B hml hv
  obtain ⟨rfl, hP, hK⟩ := hv
  have C : CX p s m ([.ref (G.2.2 0), .int v1] : List Value).toArray meth c cX11_putOnTape 3 wsX11_putOnTape RX11 none G := ⟨B.exec, B.bytes, hml, findClass_of_methodNamed B.named, atoms_spec (ws := wsX11_putOnTape) B.pre, B.returns, B.notSynchronized, hK, hG⟩
  obtain ⟨hx, hb, -, hown, hts, hr, hlocks, -, -⟩ := id C
  have hS : va_S (AW G) s.heap s.heap [] := va_S.rf
  have hl := lv_entry [.ref (G.2.2 0), .int v1] (n := 3) (Nat.le_of_ble_eq_true rfl)
  rw [lg_entry_eq]
  generalize (lg_sl [.ref (G.2.2 0), .int v1] ++ List.replicate (3 - (lg_sl [.ref (G.2.2 0), .int v1]).length) Slot.unset).toArray = ls at hl ⊢
  have hl : lv_has ls 3 [(0, .ref (G.2.2 0)), (1, .int v1)] := hl
  unfold fn_X11_putOnTape at h
  refine lv_bipush (v := 24) hx hb dX11_putOnTape_0 (by decide) ?_
  refine lv_istore_n (lv' := [(2, .int 24), (0, .ref (G.2.2 0)), (1, .int v1)]) hx hb dX11_putOnTape_2 rfl hl (by decide) rfl (fun ls hl => ?_)
  exact pf_X11_putOnTape_3 C   fu v1 24 z  _ _ _ hP hS (lv_sub hl [1, 2, 0] rfl) h
theorem in_X11_feed_X11 : ∀ w ∈ wsX110, w ∈ wsX11_feed := fun _ h => (List.mem_cons_of_mem _ (List.mem_append_right _ h))
def fn_X11_feed (v1 : Int32) (v2 : Int32) (v3 : Int32) (v4 : Int32) (v5 : Int32) (z : St) : Option (Int32 × St) := (if (z.1 0 1) ≤ 1580 then bv (fn_X11_putOnTape  v1 z) (fun z3 => bv (fn_X11_putOnTape  v2 z3) (fun z5 => bv (fn_X11_putOnTape  v3 z5) (fun z7 => bv (fn_X11_putOnTape  v4 z7) (fun z9 => bv (fn_X11_putOnTape  v5 z9) (fun z11 => some ((z11.1 0 1), z11)))))) else some ((-1), z))
set_option maxHeartbeats 4000000 in
set_option maxRecDepth 100000 in
theorem m_X11_feed {l : Launch} {G : wG} (hG : Ok G) {v1 : Int32} {v2 : Int32} {v3 : Int32} {v4 : Int32} {v5 : Int32} {z : St} {Rz : Int32 × St}  (h : fn_X11_feed  v1 v2 v3 v4 v5 z = some Rz) : Met l yX11_feed wsX11_feed (rmd 2) (va_Pc [.ref (G.2.2 0), .int v1, .int v2, .int v3, .int v4, .int v5] (Pre G z)) (va_Qi (fun r u => (r, u) = Rz) (Pre G) (AW G)) 0 0 (AW G) := by
  refine Met.ofW (cc := cX11_feed) (maxL := 6) (ret := (some .int)) (by decide) rfl ?_
  intro p e s m args below meth c s₁ B hml hv
  obtain ⟨rfl, hP, hK⟩ := hv
  have C : CX p s m ([.ref (G.2.2 0), .int v1, .int v2, .int v3, .int v4, .int v5] : List Value).toArray meth c cX11_feed 6 wsX11_feed RX11 (some .int) G := ⟨B.exec, B.bytes, hml, findClass_of_methodNamed B.named, atoms_spec (ws := wsX11_feed) B.pre, B.returns, B.notSynchronized, hK, hG⟩
  obtain ⟨hx, hb, -, hown, hts, hr, hlocks, -, -⟩ := id C
  have hS : va_S (AW G) s.heap s.heap [] := va_S.rf
  have hl := lv_entry [.ref (G.2.2 0), .int v1, .int v2, .int v3, .int v4, .int v5] (n := 6) (Nat.le_of_ble_eq_true rfl)
  rw [lg_entry_eq]
  generalize (lg_sl [.ref (G.2.2 0), .int v1, .int v2, .int v3, .int v4, .int v5] ++ List.replicate (6 - (lg_sl [.ref (G.2.2 0), .int v1, .int v2, .int v3, .int v4, .int v5]).length) Slot.unset).toArray = ls at hl ⊢
  have hl : lv_has ls 6 [(0, .ref (G.2.2 0)), (1, .int v1), (2, .int v2), (3, .int v3), (4, .int v4), (5, .int v5)] := hl
  unfold fn_X11_feed at h
  refine lv_aload_n hx hb dX11_feed_0 rfl (lv_at hl 0 rfl) ?_
  refine ge_11_1 hx hb hts in_X11_feed_X11 hown hK hP k_0 (hts _ (List.mem_of_getElem? (i := 1) rfl)) dX11_feed_1 ?_
  refine lv_sipush (v := 1580) hx hb dX11_feed_4 (by decide) ?_
  refine lv_icmp_le (tgt := 12) hx hb dX11_feed_7 (by decide) (fun c1 => ?_) (fun c1 => ?_)
  · rw [if_pos c1] at h
    refine lv_aload_n hx hb dX11_feed_12 rfl (lv_at hl 0 rfl) ?_
    refine lv_iload_n hx hb dX11_feed_13 rfl (lv_at hl 1 rfl) ?_
    obtain ⟨z3, h2, h⟩ := bv_s h
    refine x_Vv (Rz := z3) (As := [.int v1]) (rest := []) ⟨hx, hb, hml, hown, hts⟩ hK hP hS (kd_lt k_0 (by decide)) (cell_11 k_0) rfl (m_X11_putOnTape hG   h2) (cwV 1 hts gX11_feed_X11_putOnTape rfl rfl rfl (by decide +kernel) (rmd_ok (by decide) (by decide))) rfl hl.1 rfl (Nat.le_of_ble_eq_true rfl) dX11_feed_14 ⟨Nat.le_refl _, Nat.le_refl _⟩ (fun H locs hP hS => ?_)
    refine lv_aload_n hx hb dX11_feed_17 rfl (lv_at hl 0 rfl) ?_
    refine lv_iload_n hx hb dX11_feed_18 rfl (lv_at hl 2 rfl) ?_
    obtain ⟨z5, h4, h⟩ := bv_s h
    refine x_Vv (Rz := z5) (As := [.int v2]) (rest := []) ⟨hx, hb, hml, hown, hts⟩ hK hP hS (kd_lt k_0 (by decide)) (cell_11 k_0) rfl (m_X11_putOnTape hG   h4) (cwV 1 hts gX11_feed_X11_putOnTape rfl rfl rfl (by decide +kernel) (rmd_ok (by decide) (by decide))) rfl hl.1 rfl (Nat.le_of_ble_eq_true rfl) dX11_feed_19 ⟨Nat.le_refl _, Nat.le_refl _⟩ (fun H locs hP hS => ?_)
    refine lv_aload_n hx hb dX11_feed_22 rfl (lv_at hl 0 rfl) ?_
    refine lv_iload_n hx hb dX11_feed_23 rfl (lv_at hl 3 rfl) ?_
    obtain ⟨z7, h6, h⟩ := bv_s h
    refine x_Vv (Rz := z7) (As := [.int v3]) (rest := []) ⟨hx, hb, hml, hown, hts⟩ hK hP hS (kd_lt k_0 (by decide)) (cell_11 k_0) rfl (m_X11_putOnTape hG   h6) (cwV 1 hts gX11_feed_X11_putOnTape rfl rfl rfl (by decide +kernel) (rmd_ok (by decide) (by decide))) rfl hl.1 rfl (Nat.le_of_ble_eq_true rfl) dX11_feed_24 ⟨Nat.le_refl _, Nat.le_refl _⟩ (fun H locs hP hS => ?_)
    refine lv_aload_n hx hb dX11_feed_27 rfl (lv_at hl 0 rfl) ?_
    refine lv_iload hx hb dX11_feed_28 (lv_at hl 4 rfl) ?_
    obtain ⟨z9, h8, h⟩ := bv_s h
    refine x_Vv (Rz := z9) (As := [.int v4]) (rest := []) ⟨hx, hb, hml, hown, hts⟩ hK hP hS (kd_lt k_0 (by decide)) (cell_11 k_0) rfl (m_X11_putOnTape hG   h8) (cwV 1 hts gX11_feed_X11_putOnTape rfl rfl rfl (by decide +kernel) (rmd_ok (by decide) (by decide))) rfl hl.1 rfl (Nat.le_of_ble_eq_true rfl) dX11_feed_30 ⟨Nat.le_refl _, Nat.le_refl _⟩ (fun H locs hP hS => ?_)
    refine lv_aload_n hx hb dX11_feed_33 rfl (lv_at hl 0 rfl) ?_
    refine lv_iload hx hb dX11_feed_34 (lv_at hl 5 rfl) ?_
    obtain ⟨z11, h10, h⟩ := bv_s h
    refine x_Vv (Rz := z11) (As := [.int v5]) (rest := []) ⟨hx, hb, hml, hown, hts⟩ hK hP hS (kd_lt k_0 (by decide)) (cell_11 k_0) rfl (m_X11_putOnTape hG   h10) (cwV 1 hts gX11_feed_X11_putOnTape rfl rfl rfl (by decide +kernel) (rmd_ok (by decide) (by decide))) rfl hl.1 rfl (Nat.le_of_ble_eq_true rfl) dX11_feed_36 ⟨Nat.le_refl _, Nat.le_refl _⟩ (fun H locs hP hS => ?_)
    refine lv_aload_n hx hb dX11_feed_39 rfl (lv_at hl 0 rfl) ?_
    refine ge_11_1 hx hb hts in_X11_feed_X11 hown hK hP k_0 (hts _ (List.mem_of_getElem? (i := 1) rfl)) dX11_feed_40 ?_
    exact x_iret hx hb hr hlocks hK hP hS h dX11_feed_43
  · rw [if_neg c1] at h
    refine lv_iconst (v := (-1)) hx hb dX11_feed_10 (by decide) ?_
    exact x_iret hx hb hr hlocks hK hP hS h dX11_feed_11
theorem in_X11_end_X11 : ∀ w ∈ wsX110, w ∈ wsX11_end := fun _ h => (List.mem_cons_of_mem _ (List.mem_append_right _ h))
def fn_X11_end (v1 : Int32) (z : St) : Option (Int32 × St) := (if v1 < 0 then some ((-1), z) else (if v1 ≤ (z.1 0 1) then nm (sI z 0 1 v1) (fun z3 => some (v1, z3)) else some ((-1), z)))
set_option maxHeartbeats 4000000 in
set_option maxRecDepth 100000 in
theorem m_X11_end {l : Launch} {G : wG} (hG : Ok G) {v1 : Int32} {z : St} {Rz : Int32 × St}  (h : fn_X11_end  v1 z = some Rz) : Met l yX11_end wsX11_end (rmd 1) (va_Pc [.ref (G.2.2 0), .int v1] (Pre G z)) (va_Qi (fun r u => (r, u) = Rz) (Pre G) (AW G)) 0 0 (AW G) := by
  refine Met.ofW (cc := cX11_end) (maxL := 2) (ret := (some .int)) (by decide) rfl ?_
  intro p e s m args below meth c s₁ B hml hv
  obtain ⟨rfl, hP, hK⟩ := hv
  have C : CX p s m ([.ref (G.2.2 0), .int v1] : List Value).toArray meth c cX11_end 2 wsX11_end RX11 (some .int) G := ⟨B.exec, B.bytes, hml, findClass_of_methodNamed B.named, atoms_spec (ws := wsX11_end) B.pre, B.returns, B.notSynchronized, hK, hG⟩
  obtain ⟨hx, hb, -, hown, hts, hr, hlocks, -, -⟩ := id C
  have hS : va_S (AW G) s.heap s.heap [] := va_S.rf
  have hl := lv_entry [.ref (G.2.2 0), .int v1] (n := 2) (Nat.le_of_ble_eq_true rfl)
  rw [lg_entry_eq]
  generalize (lg_sl [.ref (G.2.2 0), .int v1] ++ List.replicate (2 - (lg_sl [.ref (G.2.2 0), .int v1]).length) Slot.unset).toArray = ls at hl ⊢
  have hl : lv_has ls 2 [(0, .ref (G.2.2 0)), (1, .int v1)] := hl
  unfold fn_X11_end at h
  refine lv_iload_n hx hb dX11_end_0 rfl (lv_at hl 1 rfl) ?_
  refine lv_if_lt (tgt := 12) hx hb dX11_end_1 (by decide) (fun c1 => ?_) (fun c1 => ?_)
  · rw [if_pos c1] at h
    refine lv_iconst (v := (-1)) hx hb dX11_end_12 (by decide) ?_
    exact x_iret hx hb hr hlocks hK hP hS h dX11_end_13
  · rw [if_neg c1] at h
    refine lv_iload_n hx hb dX11_end_4 rfl (lv_at hl 1 rfl) ?_
    refine lv_aload_n hx hb dX11_end_5 rfl (lv_at hl 0 rfl) ?_
    refine ge_11_1 hx hb hts in_X11_end_X11 hown hK hP k_0 (hts _ (List.mem_of_getElem? (i := 1) rfl)) dX11_end_6 ?_
    refine lv_icmp_le (tgt := 14) hx hb dX11_end_9 (by decide) (fun c2 => ?_) (fun c2 => ?_)
    · rw [if_pos c2] at h
      refine lv_aload_n hx hb dX11_end_14 rfl (lv_at hl 0 rfl) ?_
      refine lv_iload_n hx hb dX11_end_15 rfl (lv_at hl 1 rfl) ?_
      obtain ⟨z3, e_z3, h⟩ := nm_s h
      refine pu_11_1 hx hb hts in_X11_end_X11 hown hK hG hP hS k_0 (hts _ (List.mem_of_getElem? (i := 1) rfl)) dX11_end_16 (fun H locs hP hS => ?_)
      rw [← e_z3] at hP
      refine lv_iload_n hx hb dX11_end_19 rfl (lv_at hl 1 rfl) ?_
      exact x_iret hx hb hr hlocks hK hP hS h dX11_end_20
    · rw [if_neg c2] at h
      refine lv_iconst (v := (-1)) hx hb dX11_end_12 (by decide) ?_
      exact x_iret hx hb hr hlocks hK hP hS h dX11_end_13
theorem in_X11_cake_X7 : ∀ w ∈ wsX70, w ∈ wsX11_cake := fun _ h => (List.mem_cons_of_mem _ (List.mem_append_left _ (List.mem_append_left _ (List.mem_append_left _ (List.mem_append_left _ (List.mem_append_left _ (List.mem_append_right _ h)))))))
theorem in_X11_cake_X11 : ∀ w ∈ wsX110, w ∈ wsX11_cake := fun _ h => (List.mem_cons_of_mem _ (List.mem_append_left _ (List.mem_append_left _ (List.mem_append_left _ (List.mem_append_left _ (List.mem_append_left _ (List.mem_append_left _ (List.mem_append_left _ (List.mem_append_right _ h)))))))))
theorem in_X11_cake_X1 : ∀ w ∈ wsX10, w ∈ wsX11_cake := fun _ h => (List.mem_cons_of_mem _ (List.mem_append_left _ (List.mem_append_left _ (List.mem_append_left _ (List.mem_append_left _ (List.mem_append_left _ (List.mem_append_left _ (List.mem_append_right _ h))))))))
def fn_X11_cake_47 : Nat → Int32 → St → Option (Int32 × St)
  | 0, _, _ => none
  | n + 1, v2, z => (if 3 ≤ v2 then bv (fn_X0_forget   z) (fun z3 => bv (fn_X4_forget   z3) (fun z5 => nm (sI z5 0 14 0) (fun z6 => some ((z6.1 2 0), z6)))) else gd (ix v2 3) (nm (sI z (61 + 1 + 27 * (Int32.toNatClampNeg v2)) 5 0) (fun z8 => fn_X11_cake_47   n (v2 + 1) z8)))
set_option maxHeartbeats 4000000 in
set_option maxRecDepth 100000 in
theorem pf_X11_cake_47 {p : Program} {l : Launch} {e : Env} {s : State} {m : MethodId} {args : Array Value} {below : List Frame} {meth : Method} {c : Code} {G : wG} (C : CX p s m args meth c cX11_cake 3 wsX11_cake RX11 (some .int) G) {Rz : Int32 × St} : ∀ (n : Nat) (v2 : Int32) (z : St)  (H : Heap) (locs : List Loc) (ls : Array Slot), WP G z H → va_S (AW G) s.heap H locs → lv_has ls 3 [(0, .ref (G.2.2 0)), (2, .int v2)] → fn_X11_cake_47   n v2 z = some Rz → W p l e (rmd 110) s m args below meth c H locs 0 0 (QI below args s G Rz) (F0 m 47 ls []) := by
  obtain ⟨hx, hb, hml, hown, hts, hr, hlocks, hK, hG⟩ := id C
  intro n
  induction n with
  | zero => intro v2 z  H locs ls hP hS hl h; cases h
  | succ n ih =>
    intro v2 z  H locs ls hP hS hl h
    rw [fn_X11_cake_47] at h
    refine lv_iload_n hx hb dX11_cake_47 rfl (lv_at hl 1 rfl) ?_
    refine lv_aload_n hx hb dX11_cake_48 rfl (lv_at hl 0 rfl) ?_
    refine ge_11_6 hx hb hts in_X11_cake_X11 hown hK hP k_0 (hts _ (List.mem_of_getElem? (i := 6) rfl)) dX11_cake_49 ?_
    refine xn_17 (v := 3) hx hb hK hP k_61 l_61 rfl dX11_cake_52 ?_
    refine lv_icmp_ge (tgt := 72) hx hb dX11_cake_53 (by decide) (fun c1 => ?_) (fun c1 => ?_)
    · rw [if_pos c1] at h
      refine lv_aload_n hx hb dX11_cake_72 rfl (lv_at hl 0 rfl) ?_
      refine ge_11_8 hx hb hts in_X11_cake_X11 hown hK hP k_0 (hts _ (List.mem_of_getElem? (i := 8) rfl)) dX11_cake_73 ?_
      obtain ⟨z3, h2, h⟩ := bv_s h
      refine x_Vv (Rz := z3) (As := []) (rest := []) ⟨hx, hb, hml, hown, hts⟩ hK hP hS (kd_lt k_146 (by decide)) (cell_0 k_146) rfl (m_X0_forget hG   h2) (cwV 0 hts gX11_cake_X0_forget rfl rfl rfl (by decide +kernel) (rmd_ok (by decide) (by decide))) rfl hl.1 rfl (Nat.le_of_ble_eq_true rfl) dX11_cake_76 ⟨Nat.le_refl _, Nat.le_refl _⟩ (fun H locs hP hS => ?_)
      refine lv_aload_n hx hb dX11_cake_79 rfl (lv_at hl 0 rfl) ?_
      refine ge_11_12 hx hb hts in_X11_cake_X11 hown hK hP k_0 (hts _ (List.mem_of_getElem? (i := 9) rfl)) dX11_cake_80 ?_
      obtain ⟨z5, h4, h⟩ := bv_s h
      refine x_Vv (Rz := z5) (As := []) (rest := []) ⟨hx, hb, hml, hown, hts⟩ hK hP hS (kd_lt k_162 (by decide)) (cell_4 k_162) rfl (m_X4_forget hG   h4) (cwV 0 hts gX11_cake_X4_forget rfl rfl rfl (by decide +kernel) (rmd_ok (by decide) (by decide))) rfl hl.1 rfl (Nat.le_of_ble_eq_true rfl) dX11_cake_83 ⟨Nat.le_refl _, Nat.le_refl _⟩ (fun H locs hP hS => ?_)
      refine lv_aload_n hx hb dX11_cake_86 rfl (lv_at hl 0 rfl) ?_
      refine lv_iconst (v := 0) hx hb dX11_cake_87 (by decide) ?_
      obtain ⟨z6, e_z6, h⟩ := nm_s h
      refine pu_11_14 hx hb hts in_X11_cake_X11 hown hK hG hP hS k_0 (hts _ (List.mem_of_getElem? (i := 10) rfl)) dX11_cake_88 (fun H locs hP hS => ?_)
      rw [← e_z6] at hP
      refine lv_aload_n hx hb dX11_cake_91 rfl (lv_at hl 0 rfl) ?_
      refine ge_11_2 hx hb hts in_X11_cake_X11 hown hK hP k_0 (hts _ (List.mem_of_getElem? (i := 3) rfl)) dX11_cake_92 ?_
      refine ge_7_0 hx hb hts in_X11_cake_X7 hown hK hP k_2 (hts _ (List.mem_of_getElem? (i := 11) rfl)) dX11_cake_95 ?_
      exact x_iret hx hb hr hlocks hK hP hS h dX11_cake_98
    · rw [if_neg c1] at h
      refine lv_aload_n hx hb dX11_cake_56 rfl (lv_at hl 0 rfl) ?_
      refine ge_11_6 hx hb hts in_X11_cake_X11 hown hK hP k_0 (hts _ (List.mem_of_getElem? (i := 6) rfl)) dX11_cake_57 ?_
      refine lv_iload_n hx hb dX11_cake_60 rfl (lv_at hl 1 rfl) ?_
      obtain ⟨g7, h⟩ := gd_s h
      refine xl_17 hx hb hK hP k_61 l_61 (ix_in g7) dX11_cake_61 ?_
      refine lv_iconst (v := 0) hx hb dX11_cake_62 (by decide) ?_
      obtain ⟨z8, e_z8, h⟩ := nm_s h
      refine pu_1_5 hx hb hts in_X11_cake_X1 hown hK hG hP hS (ke_17 k_61 (ix_lt g7)) (hts _ (List.mem_of_getElem? (i := 7) rfl)) rfl dX11_cake_63 (fun H locs hP hS => ?_)
      rw [← e_z8] at hP
      refine lv_iinc (v := (v2 + 1)) (lv' := [(2, .int (v2 + 1)), (0, .ref (G.2.2 0))]) hx hb dX11_cake_66 hl (k := 1) rfl rfl (by decide) rfl (fun ls hl => ?_)
      refine lv_goto (tgt := 47) hx hb dX11_cake_69 (by decide) ?_
      exact ih (v2 + 1) z8 _ _ _ hP hS (lv_sub hl [1, 0] rfl) h
def fn_X11_cake  (z : St) : Option (Int32 × St) := bd (fn_X6_readAll  (z.1 0 1) z) (fun r2 z3 => nm (sI z3 0 1 0) (fun z4 => (if r2 = 0 then some ((-1), z4) else bv (fn_X7_takeFrom  2 17 z4) (fun z7 => bv (fn_X1_lay  34 2 z7) (fun z9 => fn_X11_cake_47   fu 0 z9)))))
set_option maxHeartbeats 4000000 in
set_option maxRecDepth 100000 in
theorem m_X11_cake {l : Launch} {G : wG} (hG : Ok G)  {z : St} {Rz : Int32 × St}  (h : fn_X11_cake   z = some Rz) : Met l yX11_cake wsX11_cake (rmd 110) (va_Pc [.ref (G.2.2 0)] (Pre G z)) (va_Qi (fun r u => (r, u) = Rz) (Pre G) (AW G)) 0 0 (AW G) := by
  refine Met.ofW (cc := cX11_cake) (maxL := 3) (ret := (some .int)) (by decide) rfl ?_
  intro p e s m args below meth c s₁ B hml hv
  obtain ⟨rfl, hP, hK⟩ := hv
  have C : CX p s m ([.ref (G.2.2 0)] : List Value).toArray meth c cX11_cake 3 wsX11_cake RX11 (some .int) G := ⟨B.exec, B.bytes, hml, findClass_of_methodNamed B.named, atoms_spec (ws := wsX11_cake) B.pre, B.returns, B.notSynchronized, hK, hG⟩
  obtain ⟨hx, hb, -, hown, hts, hr, hlocks, -, -⟩ := id C
  have hS : va_S (AW G) s.heap s.heap [] := va_S.rf
  have hl := lv_entry [.ref (G.2.2 0)] (n := 3) (Nat.le_of_ble_eq_true rfl)
  rw [lg_entry_eq]
  generalize (lg_sl [.ref (G.2.2 0)] ++ List.replicate (3 - (lg_sl [.ref (G.2.2 0)]).length) Slot.unset).toArray = ls at hl ⊢
  have hl : lv_has ls 3 [(0, .ref (G.2.2 0))] := hl
  unfold fn_X11_cake at h
  refine lv_aload_n hx hb dX11_cake_0 rfl (lv_at hl 0 rfl) ?_
  refine ge_11_4 hx hb hts in_X11_cake_X11 hown hK hP k_0 (hts _ (List.mem_of_getElem? (i := 1) rfl)) dX11_cake_1 ?_
  refine lv_aload_n hx hb dX11_cake_4 rfl (lv_at hl 0 rfl) ?_
  refine ge_11_1 hx hb hts in_X11_cake_X11 hown hK hP k_0 (hts _ (List.mem_of_getElem? (i := 2) rfl)) dX11_cake_5 ?_
  obtain ⟨r2, z3, h1, h⟩ := bd_s h
  refine x_Vi (Rz := (r2, z3)) (As := [.int (z.1 0 1)]) (rest := []) ⟨hx, hb, hml, hown, hts⟩ hK hP hS (kd_lt k_32 (by decide)) (cell_6 k_32) rfl (m_X6_readAll hG   h1) (cwV 1 hts gX11_cake_X6_readAll rfl rfl rfl (by decide +kernel) (rmd_ok (by decide) (by decide))) rfl hl.1 rfl (Nat.le_of_ble_eq_true rfl) dX11_cake_8 ⟨Nat.le_refl _, Nat.le_refl _⟩ (fun H locs hP hS => ?_)
  refine lv_istore_n (lv' := [(1, .int r2), (0, .ref (G.2.2 0))]) hx hb dX11_cake_11 rfl hl (by decide) rfl (fun ls hl => ?_)
  refine lv_aload_n hx hb dX11_cake_12 rfl (lv_at hl 1 rfl) ?_
  refine lv_iconst (v := 0) hx hb dX11_cake_13 (by decide) ?_
  obtain ⟨z4, e_z4, h⟩ := nm_s h
  refine pu_11_1 hx hb hts in_X11_cake_X11 hown hK hG hP hS k_0 (hts _ (List.mem_of_getElem? (i := 2) rfl)) dX11_cake_14 (fun H locs hP hS => ?_)
  rw [← e_z4] at hP
  refine lv_iload_n hx hb dX11_cake_17 rfl (lv_at hl 0 rfl) ?_
  refine lv_if_ne (tgt := 23) hx hb dX11_cake_18 (by decide) (fun c5 => ?_) (fun c5 => ?_)
  · rw [if_neg c5] at h
    refine lv_aload_n hx hb dX11_cake_23 rfl (lv_at hl 1 rfl) ?_
    refine ge_11_2 hx hb hts in_X11_cake_X11 hown hK hP k_0 (hts _ (List.mem_of_getElem? (i := 3) rfl)) dX11_cake_24 ?_
    refine lv_aload_n hx hb dX11_cake_27 rfl (lv_at hl 1 rfl) ?_
    refine ge_11_3 hx hb hts in_X11_cake_X11 hown hK hP k_0 (hts _ (List.mem_of_getElem? (i := 4) rfl)) dX11_cake_28 ?_
    obtain ⟨z7, h6, h⟩ := bv_s h
    refine x_Vv (Rz := z7) (As := [.ref (G.2.2 17)]) (rest := []) ⟨hx, hb, hml, hown, hts⟩ hK hP hS (kd_lt k_2 (by decide)) (cell_7 k_2) rfl (m_X7_takeFrom hG  k_2 k_17 h6) (cwV 1 hts gX11_cake_X7_takeFrom rfl rfl rfl (by decide +kernel) (rmd_ok (by decide) (by decide))) rfl hl.1 rfl (Nat.le_of_ble_eq_true rfl) dX11_cake_31 ⟨Nat.le_refl _, Nat.le_refl _⟩ (fun H locs hP hS => ?_)
    refine lv_aload_n hx hb dX11_cake_34 rfl (lv_at hl 1 rfl) ?_
    refine ge_11_5 hx hb hts in_X11_cake_X11 hown hK hP k_0 (hts _ (List.mem_of_getElem? (i := 5) rfl)) dX11_cake_35 ?_
    refine lv_aload_n hx hb dX11_cake_38 rfl (lv_at hl 1 rfl) ?_
    refine ge_11_2 hx hb hts in_X11_cake_X11 hown hK hP k_0 (hts _ (List.mem_of_getElem? (i := 3) rfl)) dX11_cake_39 ?_
    obtain ⟨z9, h8, h⟩ := bv_s h
    refine x_Vv (Rz := z9) (As := [.ref (G.2.2 2)]) (rest := []) ⟨hx, hb, hml, hown, hts⟩ hK hP hS (kd_lt k_34 (by decide)) (cell_1 k_34) rfl (m_X1_lay hG  k_34 k_2 h8) (cwV 1 hts gX11_cake_X1_lay rfl rfl rfl (by decide +kernel) (rmd_ok (by decide) (by decide))) rfl hl.1 rfl (Nat.le_of_ble_eq_true rfl) dX11_cake_42 ⟨Nat.le_refl _, Nat.le_refl _⟩ (fun H locs hP hS => ?_)
    refine lv_iconst (v := 0) hx hb dX11_cake_45 (by decide) ?_
    refine lv_istore_n (lv' := [(2, .int 0), (1, .int r2), (0, .ref (G.2.2 0))]) hx hb dX11_cake_46 rfl hl (by decide) rfl (fun ls hl => ?_)
    exact pf_X11_cake_47 C   fu 0 z9  _ _ _ hP hS (lv_sub hl [2, 0] rfl) h
  · rw [if_pos c5] at h
    refine lv_iconst (v := (-1)) hx hb dX11_cake_21 (by decide) ?_
    exact x_iret hx hb hr hlocks hK hP hS h dX11_cake_22
theorem in_X11_fault_X6 : ∀ w ∈ wsX60, w ∈ wsX11_fault := fun _ h => (List.mem_cons_of_mem _ (List.mem_append_right _ h))
theorem in_X11_fault_X11 : ∀ w ∈ wsX110, w ∈ wsX11_fault := fun _ h => (List.mem_cons_of_mem _ (List.mem_append_left _ (List.mem_append_right _ h)))
def fn_X11_fault (v1 : Int32) (z : St) : Option (Int32 × St) := (if v1 = 0 then some ((z.1 32 11), z) else (if v1 = 1 then some ((z.1 32 12), z) else (some ((-1), z))))
set_option maxHeartbeats 4000000 in
set_option maxRecDepth 100000 in
theorem m_X11_fault {l : Launch} {G : wG} (hG : Ok G) {v1 : Int32} {z : St} {Rz : Int32 × St}  (h : fn_X11_fault  v1 z = some Rz) : Met l yX11_fault wsX11_fault (rmd 1) (va_Pc [.ref (G.2.2 0), .int v1] (Pre G z)) (va_Qi (fun r u => (r, u) = Rz) (Pre G) (AW G)) 0 0 (AW G) := by
  refine Met.ofW (cc := cX11_fault) (maxL := 2) (ret := (some .int)) (by decide) rfl ?_
  intro p e s m args below meth c s₁ B hml hv
  obtain ⟨rfl, hP, hK⟩ := hv
  have C : CX p s m ([.ref (G.2.2 0), .int v1] : List Value).toArray meth c cX11_fault 2 wsX11_fault RX11 (some .int) G := ⟨B.exec, B.bytes, hml, findClass_of_methodNamed B.named, atoms_spec (ws := wsX11_fault) B.pre, B.returns, B.notSynchronized, hK, hG⟩
  obtain ⟨hx, hb, -, hown, hts, hr, hlocks, -, -⟩ := id C
  have hS : va_S (AW G) s.heap s.heap [] := va_S.rf
  have hl := lv_entry [.ref (G.2.2 0), .int v1] (n := 2) (Nat.le_of_ble_eq_true rfl)
  rw [lg_entry_eq]
  generalize (lg_sl [.ref (G.2.2 0), .int v1] ++ List.replicate (2 - (lg_sl [.ref (G.2.2 0), .int v1]).length) Slot.unset).toArray = ls at hl ⊢
  have hl : lv_has ls 2 [(0, .ref (G.2.2 0)), (1, .int v1)] := hl
  unfold fn_X11_fault at h
  refine lv_iload_n hx hb dX11_fault_0 rfl (lv_at hl 1 rfl) ?_
  by_cases c1 : v1 = 0
  · rw [if_pos c1] at h
    refine lv_lookup (off := 27) (tgt := 28) hx hb dX11_fault_1 (by decide) (by rw [c1]; rfl) (by decide) ?_
    refine lv_aload_n hx hb dX11_fault_28 rfl (lv_at hl 0 rfl) ?_
    refine ge_11_4 hx hb hts in_X11_fault_X11 hown hK hP k_0 (hts _ (List.mem_of_getElem? (i := 1) rfl)) dX11_fault_29 ?_
    refine ge_6_11 hx hb hts in_X11_fault_X6 hown hK hP k_32 (hts _ (List.mem_of_getElem? (i := 2) rfl)) dX11_fault_32 ?_
    exact x_iret hx hb hr hlocks hK hP hS h dX11_fault_35
  rw [if_neg c1] at h
  by_cases c2 : v1 = 1
  · rw [if_pos c2] at h
    refine lv_lookup (off := 35) (tgt := 36) hx hb dX11_fault_1 (by decide) (by rw [c2]; rfl) (by decide) ?_
    refine lv_aload_n hx hb dX11_fault_36 rfl (lv_at hl 0 rfl) ?_
    refine ge_11_4 hx hb hts in_X11_fault_X11 hown hK hP k_0 (hts _ (List.mem_of_getElem? (i := 1) rfl)) dX11_fault_37 ?_
    refine ge_6_12 hx hb hts in_X11_fault_X6 hown hK hP k_32 (hts _ (List.mem_of_getElem? (i := 3) rfl)) dX11_fault_40 ?_
    exact x_iret hx hb hr hlocks hK hP hS h dX11_fault_43
  rw [if_neg c2] at h
  refine lv_lookup (off := 43) (tgt := 44) hx hb dX11_fault_1 (by decide) (by rw [lv_osw c1 (by decide), lv_osw c2 (by decide)]; rfl) (by decide) ?_
  refine lv_iconst (v := (-1)) hx hb dX11_fault_44 (by decide) ?_
  exact x_iret hx hb hr hlocks hK hP hS h dX11_fault_45
theorem in_X11_piece_X9 : ∀ w ∈ wsX90, w ∈ wsX11_piece := fun _ h => (List.mem_cons_of_mem _ (List.mem_append_left _ (List.mem_append_right _ h)))
theorem in_X11_piece_X11 : ∀ w ∈ wsX110, w ∈ wsX11_piece := fun _ h => (List.mem_cons_of_mem _ (List.mem_append_left _ (List.mem_append_left _ (List.mem_append_left _ (List.mem_append_right _ h)))))
theorem in_X11_piece_X1 : ∀ w ∈ wsX10, w ∈ wsX11_piece := fun _ h => (List.mem_cons_of_mem _ (List.mem_append_left _ (List.mem_append_left _ (List.mem_append_right _ h))))
def fn_X11_piece (v1 : Int32) (v2 : Int32) (z : St) : Option (Int32 × St) := bd (fn_X1_isPiece  34 v1 z) (fun r2 z3 => (if r2 = 0 then some ((-2), z3) else gd (ix v1 24) ((if v2 = 0 then some ((z3.1 (35 + 1 + (Int32.toNatClampNeg v1)) 0), z3) else (if v2 = 1 then some ((z3.1 (35 + 1 + (Int32.toNatClampNeg v1)) 1), z3) else (if v2 = 2 then some ((z3.1 (35 + 1 + (Int32.toNatClampNeg v1)) 2), z3) else (if v2 = 3 then some ((z3.1 (35 + 1 + (Int32.toNatClampNeg v1)) 3), z3) else (if v2 = 4 then some ((z3.1 (35 + 1 + (Int32.toNatClampNeg v1)) 4), z3) else (if v2 = 5 then bd (fn_X7_areaOf  2 (35 + 1 + (Int32.toNatClampNeg v1)) z3) (fun r13 z14 => some (r13, z14)) else (if v2 = 6 then bd (fn_X7_icingOf  2 (35 + 1 + (Int32.toNatClampNeg v1)) z3) (fun r17 z18 => some (r17, z18)) else (if v2 = 7 then (if (z3.1 (35 + 1 + (Int32.toNatClampNeg v1)) 5) = 0 then some (0, z3) else some (1, z3)) else (if v2 = 8 then some ((z3.1 (35 + 1 + (Int32.toNatClampNeg v1)) 6), z3) else (some ((-2), z3))))))))))))))
set_option maxHeartbeats 4000000 in
set_option maxRecDepth 100000 in
theorem m_X11_piece {l : Launch} {G : wG} (hG : Ok G) {v1 : Int32} {v2 : Int32} {z : St} {Rz : Int32 × St}  (h : fn_X11_piece  v1 v2 z = some Rz) : Met l yX11_piece wsX11_piece (rmd 3) (va_Pc [.ref (G.2.2 0), .int v1, .int v2] (Pre G z)) (va_Qi (fun r u => (r, u) = Rz) (Pre G) (AW G)) 0 0 (AW G) := by
  refine Met.ofW (cc := cX11_piece) (maxL := 4) (ret := (some .int)) (by decide) rfl ?_
  intro p e s m args below meth c s₁ B hml hv
  obtain ⟨rfl, hP, hK⟩ := hv
  have C : CX p s m ([.ref (G.2.2 0), .int v1, .int v2] : List Value).toArray meth c cX11_piece 4 wsX11_piece RX11 (some .int) G := ⟨B.exec, B.bytes, hml, findClass_of_methodNamed B.named, atoms_spec (ws := wsX11_piece) B.pre, B.returns, B.notSynchronized, hK, hG⟩
  obtain ⟨hx, hb, -, hown, hts, hr, hlocks, -, -⟩ := id C
  have hS : va_S (AW G) s.heap s.heap [] := va_S.rf
  have hl := lv_entry [.ref (G.2.2 0), .int v1, .int v2] (n := 4) (Nat.le_of_ble_eq_true rfl)
  rw [lg_entry_eq]
  generalize (lg_sl [.ref (G.2.2 0), .int v1, .int v2] ++ List.replicate (4 - (lg_sl [.ref (G.2.2 0), .int v1, .int v2]).length) Slot.unset).toArray = ls at hl ⊢
  have hl : lv_has ls 4 [(0, .ref (G.2.2 0)), (1, .int v1), (2, .int v2)] := hl
  unfold fn_X11_piece at h
  refine lv_aload_n hx hb dX11_piece_0 rfl (lv_at hl 0 rfl) ?_
  refine ge_11_5 hx hb hts in_X11_piece_X11 hown hK hP k_0 (hts _ (List.mem_of_getElem? (i := 1) rfl)) dX11_piece_1 ?_
  refine lv_iload_n hx hb dX11_piece_4 rfl (lv_at hl 1 rfl) ?_
  obtain ⟨r2, z3, h1, h⟩ := bd_s h
  refine x_Vi (Rz := (r2, z3)) (As := [.int v1]) (rest := []) ⟨hx, hb, hml, hown, hts⟩ hK hP hS (kd_lt k_34 (by decide)) (cell_1 k_34) rfl (m_X1_isPiece hG  k_34 h1) (cwV 1 hts gX11_piece_X1_isPiece rfl rfl rfl (by decide +kernel) (rmd_ok (by decide) (by decide))) rfl hl.1 rfl (Nat.le_of_ble_eq_true rfl) dX11_piece_5 ⟨Nat.le_refl _, Nat.le_refl _⟩ (fun H locs hP hS => ?_)
  refine lv_if_ne (tgt := 14) hx hb dX11_piece_8 (by decide) (fun c4 => ?_) (fun c4 => ?_)
  · rw [if_neg c4] at h
    refine lv_aload_n hx hb dX11_piece_14 rfl (lv_at hl 0 rfl) ?_
    refine ge_11_5 hx hb hts in_X11_piece_X11 hown hK hP k_0 (hts _ (List.mem_of_getElem? (i := 1) rfl)) dX11_piece_15 ?_
    refine ge_1_0 hx hb hts in_X11_piece_X1 hown hK hP k_34 (hts _ (List.mem_of_getElem? (i := 2) rfl)) dX11_piece_18 ?_
    refine lv_iload_n hx hb dX11_piece_21 rfl (lv_at hl 1 rfl) ?_
    obtain ⟨g5, h⟩ := gd_s h
    refine xl_18 hx hb hK hP k_35 l_35 (ix_in g5) dX11_piece_22 ?_
    refine lv_astore_n (lv' := [(3, .ref (G.2.2 (35 + 1 + (Int32.toNatClampNeg v1)))), (0, .ref (G.2.2 0)), (1, .int v1), (2, .int v2)]) hx hb dX11_piece_23 rfl hl (by decide) rfl (fun ls hl => ?_)
    refine lv_iload_n hx hb dX11_piece_24 rfl (lv_at hl 3 rfl) ?_
    by_cases c6 : v2 = 0
    · rw [if_pos c6] at h
      refine lv_tableIn (off := 51) (tgt := 76) hx hb dX11_piece_25 (by rw [c6]; decide) (by rw [c6]; decide) (by rw [c6]; rfl) (by decide) ?_
      refine lv_aload_n hx hb dX11_piece_76 rfl (lv_at hl 0 rfl) ?_
      refine ge_9_0 hx hb hts in_X11_piece_X9 hown hK hP (ke_18 k_35 (ix_lt g5)) (hts _ (List.mem_of_getElem? (i := 3) rfl)) dX11_piece_77 ?_
      exact x_iret hx hb hr hlocks hK hP hS h dX11_piece_80
    rw [if_neg c6] at h
    by_cases c7 : v2 = 1
    · rw [if_pos c7] at h
      refine lv_tableIn (off := 56) (tgt := 81) hx hb dX11_piece_25 (by rw [c7]; decide) (by rw [c7]; decide) (by rw [c7]; rfl) (by decide) ?_
      refine lv_aload_n hx hb dX11_piece_81 rfl (lv_at hl 0 rfl) ?_
      refine ge_9_1 hx hb hts in_X11_piece_X9 hown hK hP (ke_18 k_35 (ix_lt g5)) (hts _ (List.mem_of_getElem? (i := 4) rfl)) dX11_piece_82 ?_
      exact x_iret hx hb hr hlocks hK hP hS h dX11_piece_85
    rw [if_neg c7] at h
    by_cases c8 : v2 = 2
    · rw [if_pos c8] at h
      refine lv_tableIn (off := 61) (tgt := 86) hx hb dX11_piece_25 (by rw [c8]; decide) (by rw [c8]; decide) (by rw [c8]; rfl) (by decide) ?_
      refine lv_aload_n hx hb dX11_piece_86 rfl (lv_at hl 0 rfl) ?_
      refine ge_9_2 hx hb hts in_X11_piece_X9 hown hK hP (ke_18 k_35 (ix_lt g5)) (hts _ (List.mem_of_getElem? (i := 5) rfl)) dX11_piece_87 ?_
      exact x_iret hx hb hr hlocks hK hP hS h dX11_piece_90
    rw [if_neg c8] at h
    by_cases c9 : v2 = 3
    · rw [if_pos c9] at h
      refine lv_tableIn (off := 66) (tgt := 91) hx hb dX11_piece_25 (by rw [c9]; decide) (by rw [c9]; decide) (by rw [c9]; rfl) (by decide) ?_
      refine lv_aload_n hx hb dX11_piece_91 rfl (lv_at hl 0 rfl) ?_
      refine ge_9_3 hx hb hts in_X11_piece_X9 hown hK hP (ke_18 k_35 (ix_lt g5)) (hts _ (List.mem_of_getElem? (i := 6) rfl)) dX11_piece_92 ?_
      exact x_iret hx hb hr hlocks hK hP hS h dX11_piece_95
    rw [if_neg c9] at h
    by_cases c10 : v2 = 4
    · rw [if_pos c10] at h
      refine lv_tableIn (off := 71) (tgt := 96) hx hb dX11_piece_25 (by rw [c10]; decide) (by rw [c10]; decide) (by rw [c10]; rfl) (by decide) ?_
      refine lv_aload_n hx hb dX11_piece_96 rfl (lv_at hl 0 rfl) ?_
      refine ge_9_4 hx hb hts in_X11_piece_X9 hown hK hP (ke_18 k_35 (ix_lt g5)) (hts _ (List.mem_of_getElem? (i := 7) rfl)) dX11_piece_97 ?_
      exact x_iret hx hb hr hlocks hK hP hS h dX11_piece_100
    rw [if_neg c10] at h
    by_cases c11 : v2 = 5
    · rw [if_pos c11] at h
      refine lv_tableIn (off := 76) (tgt := 101) hx hb dX11_piece_25 (by rw [c11]; decide) (by rw [c11]; decide) (by rw [c11]; rfl) (by decide) ?_
      refine lv_aload_n hx hb dX11_piece_101 rfl (lv_at hl 1 rfl) ?_
      refine ge_11_2 hx hb hts in_X11_piece_X11 hown hK hP k_0 (hts _ (List.mem_of_getElem? (i := 8) rfl)) dX11_piece_102 ?_
      refine lv_aload_n hx hb dX11_piece_105 rfl (lv_at hl 0 rfl) ?_
      obtain ⟨r13, z14, h12, h⟩ := bd_s h
      refine x_Vi (Rz := (r13, z14)) (As := [.ref (G.2.2 (35 + 1 + (Int32.toNatClampNeg v1)))]) (rest := []) ⟨hx, hb, hml, hown, hts⟩ hK hP hS (kd_lt k_2 (by decide)) (cell_7 k_2) rfl (m_X7_areaOf hG  k_2 (ke_18 k_35 (ix_lt g5)) h12) (cwV 1 hts gX11_piece_X7_areaOf rfl rfl rfl (by decide +kernel) (rmd_ok (by decide) (by decide))) rfl hl.1 rfl (Nat.le_of_ble_eq_true rfl) dX11_piece_106 ⟨Nat.le_refl _, Nat.le_refl _⟩ (fun H locs hP hS => ?_)
      exact x_iret hx hb hr hlocks hK hP hS h dX11_piece_109
    rw [if_neg c11] at h
    by_cases c15 : v2 = 6
    · rw [if_pos c15] at h
      refine lv_tableIn (off := 85) (tgt := 110) hx hb dX11_piece_25 (by rw [c15]; decide) (by rw [c15]; decide) (by rw [c15]; rfl) (by decide) ?_
      refine lv_aload_n hx hb dX11_piece_110 rfl (lv_at hl 1 rfl) ?_
      refine ge_11_2 hx hb hts in_X11_piece_X11 hown hK hP k_0 (hts _ (List.mem_of_getElem? (i := 8) rfl)) dX11_piece_111 ?_
      refine lv_aload_n hx hb dX11_piece_114 rfl (lv_at hl 0 rfl) ?_
      obtain ⟨r17, z18, h16, h⟩ := bd_s h
      refine x_Vi (Rz := (r17, z18)) (As := [.ref (G.2.2 (35 + 1 + (Int32.toNatClampNeg v1)))]) (rest := []) ⟨hx, hb, hml, hown, hts⟩ hK hP hS (kd_lt k_2 (by decide)) (cell_7 k_2) rfl (m_X7_icingOf hG  k_2 (ke_18 k_35 (ix_lt g5)) h16) (cwV 1 hts gX11_piece_X7_icingOf rfl rfl rfl (by decide +kernel) (rmd_ok (by decide) (by decide))) rfl hl.1 rfl (Nat.le_of_ble_eq_true rfl) dX11_piece_115 ⟨Nat.le_refl _, Nat.le_refl _⟩ (fun H locs hP hS => ?_)
      exact x_iret hx hb hr hlocks hK hP hS h dX11_piece_118
    rw [if_neg c15] at h
    by_cases c19 : v2 = 7
    · rw [if_pos c19] at h
      refine lv_tableIn (off := 94) (tgt := 119) hx hb dX11_piece_25 (by rw [c19]; decide) (by rw [c19]; decide) (by rw [c19]; rfl) (by decide) ?_
      refine lv_aload_n hx hb dX11_piece_119 rfl (lv_at hl 0 rfl) ?_
      refine ge_9_5 hx hb hts in_X11_piece_X9 hown hK hP (ke_18 k_35 (ix_lt g5)) (hts _ (List.mem_of_getElem? (i := 9) rfl)) dX11_piece_120 ?_
      refine lv_if_eq (tgt := 130) hx hb dX11_piece_123 (by decide) (fun c20 => ?_) (fun c20 => ?_)
      · rw [if_pos c20] at h
        refine lv_iconst (v := 0) hx hb dX11_piece_130 (by decide) ?_
        exact x_iret hx hb hr hlocks hK hP hS h dX11_piece_131
      · rw [if_neg c20] at h
        refine lv_iconst (v := 1) hx hb dX11_piece_126 (by decide) ?_
        refine lv_goto (tgt := 131) hx hb dX11_piece_127 (by decide) ?_
        exact x_iret hx hb hr hlocks hK hP hS h dX11_piece_131
    rw [if_neg c19] at h
    by_cases c21 : v2 = 8
    · rw [if_pos c21] at h
      refine lv_tableIn (off := 107) (tgt := 132) hx hb dX11_piece_25 (by rw [c21]; decide) (by rw [c21]; decide) (by rw [c21]; rfl) (by decide) ?_
      refine lv_aload_n hx hb dX11_piece_132 rfl (lv_at hl 0 rfl) ?_
      refine ge_9_6 hx hb hts in_X11_piece_X9 hown hK hP (ke_18 k_35 (ix_lt g5)) (hts _ (List.mem_of_getElem? (i := 10) rfl)) dX11_piece_133 ?_
      exact x_iret hx hb hr hlocks hK hP hS h dX11_piece_136
    rw [if_neg c21] at h
    have n22 : (v2 : Int32).toInt < 0 ∨ 8 < (v2 : Int32).toInt := by
      have c6_n := lv_neT (a := 0) c6 (by decide)
      have c7_n := lv_neT (a := 1) c7 (by decide)
      have c8_n := lv_neT (a := 2) c8 (by decide)
      have c9_n := lv_neT (a := 3) c9 (by decide)
      have c10_n := lv_neT (a := 4) c10 (by decide)
      have c11_n := lv_neT (a := 5) c11 (by decide)
      have c15_n := lv_neT (a := 6) c15 (by decide)
      have c19_n := lv_neT (a := 7) c19 (by decide)
      have c21_n := lv_neT (a := 8) c21 (by decide)
      omega
    refine lv_tableOut (tgt := 137) hx hb dX11_piece_25 n22 (by decide) ?_
    refine lv_bipush (v := (-2)) hx hb dX11_piece_137 (by decide) ?_
    exact x_iret hx hb hr hlocks hK hP hS h dX11_piece_139
  · rw [if_pos c4] at h
    refine lv_bipush (v := (-2)) hx hb dX11_piece_11 (by decide) ?_
    exact x_iret hx hb hr hlocks hK hP hS h dX11_piece_13
theorem in_X11_guest_X7 : ∀ w ∈ wsX70, w ∈ wsX11_guest := fun _ h => (List.mem_cons_of_mem _ (List.mem_append_left _ (List.mem_append_left _ (List.mem_append_left _ (List.mem_append_left _ (List.mem_append_right _ h))))))
theorem in_X11_guest_X11 : ∀ w ∈ wsX110, w ∈ wsX11_guest := fun _ h => (List.mem_cons_of_mem _ (List.mem_append_left _ (List.mem_append_left _ (List.mem_append_left _ (List.mem_append_left _ (List.mem_append_left _ (List.mem_append_right _ h)))))))
theorem in_X11_guest_X1 : ∀ w ∈ wsX10, w ∈ wsX11_guest := fun _ h => (List.mem_cons_of_mem _ (List.mem_append_left _ (List.mem_append_left _ (List.mem_append_left _ (List.mem_append_right _ h)))))
def fn_X11_guest (v1 : Int32) (v2 : Int32) (z : St) : Option (Int32 × St) := bd (fn_X7_isGuest  2 v1 z) (fun r2 z3 => (if r2 = 0 then some ((-2), z3) else (if v2 = 0 then gd (ix v1 6) (some ((z3.1 8 (Int32.toNatClampNeg v1)), z3)) else (if v2 = 1 then gd (ix v1 6) (some ((z3.1 9 (Int32.toNatClampNeg v1)), z3)) else (if v2 = 2 then gd (ix v1 6) (some ((z3.1 10 (Int32.toNatClampNeg v1)), z3)) else (if v2 = 3 then gd (ix v1 6) (some ((z3.1 60 (Int32.toNatClampNeg v1)), z3)) else (if v2 = 4 then gd (ix v1 6) (bd (fn_X10_ofPiece  v1 (z3.1 60 (Int32.toNatClampNeg v1)) 0 z3) (fun r16 z17 => some (r16, z17))) else (some ((-2), z3)))))))))
set_option maxHeartbeats 4000000 in
set_option maxRecDepth 100000 in
theorem m_X11_guest {l : Launch} {G : wG} (hG : Ok G) {v1 : Int32} {v2 : Int32} {z : St} {Rz : Int32 × St}  (h : fn_X11_guest  v1 v2 z = some Rz) : Met l yX11_guest wsX11_guest (rmd 6) (va_Pc [.ref (G.2.2 0), .int v1, .int v2] (Pre G z)) (va_Qi (fun r u => (r, u) = Rz) (Pre G) (AW G)) 0 0 (AW G) := by
  refine Met.ofW (cc := cX11_guest) (maxL := 3) (ret := (some .int)) (by decide) rfl ?_
  intro p e s m args below meth c s₁ B hml hv
  obtain ⟨rfl, hP, hK⟩ := hv
  have C : CX p s m ([.ref (G.2.2 0), .int v1, .int v2] : List Value).toArray meth c cX11_guest 3 wsX11_guest RX11 (some .int) G := ⟨B.exec, B.bytes, hml, findClass_of_methodNamed B.named, atoms_spec (ws := wsX11_guest) B.pre, B.returns, B.notSynchronized, hK, hG⟩
  obtain ⟨hx, hb, -, hown, hts, hr, hlocks, -, -⟩ := id C
  have hS : va_S (AW G) s.heap s.heap [] := va_S.rf
  have hl := lv_entry [.ref (G.2.2 0), .int v1, .int v2] (n := 3) (Nat.le_of_ble_eq_true rfl)
  rw [lg_entry_eq]
  generalize (lg_sl [.ref (G.2.2 0), .int v1, .int v2] ++ List.replicate (3 - (lg_sl [.ref (G.2.2 0), .int v1, .int v2]).length) Slot.unset).toArray = ls at hl ⊢
  have hl : lv_has ls 3 [(0, .ref (G.2.2 0)), (1, .int v1), (2, .int v2)] := hl
  unfold fn_X11_guest at h
  refine lv_aload_n hx hb dX11_guest_0 rfl (lv_at hl 0 rfl) ?_
  refine ge_11_2 hx hb hts in_X11_guest_X11 hown hK hP k_0 (hts _ (List.mem_of_getElem? (i := 1) rfl)) dX11_guest_1 ?_
  refine lv_iload_n hx hb dX11_guest_4 rfl (lv_at hl 1 rfl) ?_
  obtain ⟨r2, z3, h1, h⟩ := bd_s h
  refine x_Vi (Rz := (r2, z3)) (As := [.int v1]) (rest := []) ⟨hx, hb, hml, hown, hts⟩ hK hP hS (kd_lt k_2 (by decide)) (cell_7 k_2) rfl (m_X7_isGuest hG  k_2 h1) (cwV 1 hts gX11_guest_X7_isGuest rfl rfl rfl (by decide +kernel) (rmd_ok (by decide) (by decide))) rfl hl.1 rfl (Nat.le_of_ble_eq_true rfl) dX11_guest_5 ⟨Nat.le_refl _, Nat.le_refl _⟩ (fun H locs hP hS => ?_)
  refine lv_if_ne (tgt := 14) hx hb dX11_guest_8 (by decide) (fun c4 => ?_) (fun c4 => ?_)
  · rw [if_neg c4] at h
    refine lv_iload_n hx hb dX11_guest_14 rfl (lv_at hl 2 rfl) ?_
    by_cases c5 : v2 = 0
    · rw [if_pos c5] at h
      refine lv_tableIn (off := 33) (tgt := 48) hx hb dX11_guest_15 (by rw [c5]; decide) (by rw [c5]; decide) (by rw [c5]; rfl) (by decide) ?_
      refine lv_aload_n hx hb dX11_guest_48 rfl (lv_at hl 0 rfl) ?_
      refine ge_11_2 hx hb hts in_X11_guest_X11 hown hK hP k_0 (hts _ (List.mem_of_getElem? (i := 1) rfl)) dX11_guest_49 ?_
      refine ge_7_7 hx hb hts in_X11_guest_X7 hown hK hP k_2 (hts _ (List.mem_of_getElem? (i := 2) rfl)) dX11_guest_52 ?_
      refine lv_iload_n hx hb dX11_guest_55 rfl (lv_at hl 1 rfl) ?_
      obtain ⟨g6, h⟩ := gd_s h
      refine xl_14 hx hb hK hP k_8 l_8 (ix_in g6) dX11_guest_56 ?_
      exact x_iret hx hb hr hlocks hK hP hS h dX11_guest_57
    rw [if_neg c5] at h
    by_cases c7 : v2 = 1
    · rw [if_pos c7] at h
      refine lv_tableIn (off := 43) (tgt := 58) hx hb dX11_guest_15 (by rw [c7]; decide) (by rw [c7]; decide) (by rw [c7]; rfl) (by decide) ?_
      refine lv_aload_n hx hb dX11_guest_58 rfl (lv_at hl 0 rfl) ?_
      refine ge_11_2 hx hb hts in_X11_guest_X11 hown hK hP k_0 (hts _ (List.mem_of_getElem? (i := 1) rfl)) dX11_guest_59 ?_
      refine ge_7_8 hx hb hts in_X11_guest_X7 hown hK hP k_2 (hts _ (List.mem_of_getElem? (i := 3) rfl)) dX11_guest_62 ?_
      refine lv_iload_n hx hb dX11_guest_65 rfl (lv_at hl 1 rfl) ?_
      obtain ⟨g8, h⟩ := gd_s h
      refine xl_14 hx hb hK hP k_9 l_9 (ix_in g8) dX11_guest_66 ?_
      exact x_iret hx hb hr hlocks hK hP hS h dX11_guest_67
    rw [if_neg c7] at h
    by_cases c9 : v2 = 2
    · rw [if_pos c9] at h
      refine lv_tableIn (off := 53) (tgt := 68) hx hb dX11_guest_15 (by rw [c9]; decide) (by rw [c9]; decide) (by rw [c9]; rfl) (by decide) ?_
      refine lv_aload_n hx hb dX11_guest_68 rfl (lv_at hl 0 rfl) ?_
      refine ge_11_2 hx hb hts in_X11_guest_X11 hown hK hP k_0 (hts _ (List.mem_of_getElem? (i := 1) rfl)) dX11_guest_69 ?_
      refine ge_7_9 hx hb hts in_X11_guest_X7 hown hK hP k_2 (hts _ (List.mem_of_getElem? (i := 4) rfl)) dX11_guest_72 ?_
      refine lv_iload_n hx hb dX11_guest_75 rfl (lv_at hl 1 rfl) ?_
      obtain ⟨g10, h⟩ := gd_s h
      refine xl_14 hx hb hK hP k_10 l_10 (ix_in g10) dX11_guest_76 ?_
      exact x_iret hx hb hr hlocks hK hP hS h dX11_guest_77
    rw [if_neg c9] at h
    by_cases c11 : v2 = 3
    · rw [if_pos c11] at h
      refine lv_tableIn (off := 63) (tgt := 78) hx hb dX11_guest_15 (by rw [c11]; decide) (by rw [c11]; decide) (by rw [c11]; rfl) (by decide) ?_
      refine lv_aload_n hx hb dX11_guest_78 rfl (lv_at hl 0 rfl) ?_
      refine ge_11_5 hx hb hts in_X11_guest_X11 hown hK hP k_0 (hts _ (List.mem_of_getElem? (i := 5) rfl)) dX11_guest_79 ?_
      refine ge_1_1 hx hb hts in_X11_guest_X1 hown hK hP k_34 (hts _ (List.mem_of_getElem? (i := 6) rfl)) dX11_guest_82 ?_
      refine lv_iload_n hx hb dX11_guest_85 rfl (lv_at hl 1 rfl) ?_
      obtain ⟨g12, h⟩ := gd_s h
      refine xl_14 hx hb hK hP k_60 l_60 (ix_in g12) dX11_guest_86 ?_
      exact x_iret hx hb hr hlocks hK hP hS h dX11_guest_87
    rw [if_neg c11] at h
    by_cases c13 : v2 = 4
    · rw [if_pos c13] at h
      refine lv_tableIn (off := 73) (tgt := 88) hx hb dX11_guest_15 (by rw [c13]; decide) (by rw [c13]; decide) (by rw [c13]; rfl) (by decide) ?_
      refine lv_aload_n hx hb dX11_guest_88 rfl (lv_at hl 0 rfl) ?_
      refine ge_11_7 hx hb hts in_X11_guest_X11 hown hK hP k_0 (hts _ (List.mem_of_getElem? (i := 7) rfl)) dX11_guest_89 ?_
      refine lv_iload_n hx hb dX11_guest_92 rfl (lv_at hl 1 rfl) ?_
      refine lv_aload_n hx hb dX11_guest_93 rfl (lv_at hl 0 rfl) ?_
      refine ge_11_5 hx hb hts in_X11_guest_X11 hown hK hP k_0 (hts _ (List.mem_of_getElem? (i := 5) rfl)) dX11_guest_94 ?_
      refine ge_1_1 hx hb hts in_X11_guest_X1 hown hK hP k_34 (hts _ (List.mem_of_getElem? (i := 6) rfl)) dX11_guest_97 ?_
      refine lv_iload_n hx hb dX11_guest_100 rfl (lv_at hl 1 rfl) ?_
      obtain ⟨g14, h⟩ := gd_s h
      refine xl_14 hx hb hK hP k_60 l_60 (ix_in g14) dX11_guest_101 ?_
      refine lv_iconst (v := 0) hx hb dX11_guest_102 (by decide) ?_
      obtain ⟨r16, z17, h15, h⟩ := bd_s h
      refine x_Vi (Rz := (r16, z17)) (As := [.int v1, .int (z3.1 60 (Int32.toNatClampNeg v1)), .int 0]) (rest := []) ⟨hx, hb, hml, hown, hts⟩ hK hP hS (kd_lt k_143 (by decide)) (cell_10 k_143) rfl (m_X10_ofPiece hG   h15) (cwV 3 hts gX11_guest_X10_ofPiece rfl rfl rfl (by decide +kernel) (rmd_ok (by decide) (by decide))) rfl hl.1 rfl (Nat.le_of_ble_eq_true rfl) dX11_guest_103 ⟨Nat.le_refl _, Nat.le_refl _⟩ (fun H locs hP hS => ?_)
      exact x_iret hx hb hr hlocks hK hP hS h dX11_guest_106
    rw [if_neg c13] at h
    have n18 : (v2 : Int32).toInt < 0 ∨ 4 < (v2 : Int32).toInt := by
      have c5_n := lv_neT (a := 0) c5 (by decide)
      have c7_n := lv_neT (a := 1) c7 (by decide)
      have c9_n := lv_neT (a := 2) c9 (by decide)
      have c11_n := lv_neT (a := 3) c11 (by decide)
      have c13_n := lv_neT (a := 4) c13 (by decide)
      omega
    refine lv_tableOut (tgt := 107) hx hb dX11_guest_15 n18 (by decide) ?_
    refine lv_bipush (v := (-2)) hx hb dX11_guest_107 (by decide) ?_
    exact x_iret hx hb hr hlocks hK hP hS h dX11_guest_109
  · rw [if_pos c4] at h
    refine lv_bipush (v := (-2)) hx hb dX11_guest_11 (by decide) ?_
    exact x_iret hx hb hr hlocks hK hP hS h dX11_guest_13
theorem in_X11_worth_X11 : ∀ w ∈ wsX110, w ∈ wsX11_worth := fun _ h => (List.mem_cons_of_mem _ (List.mem_append_left _ (List.mem_append_left _ (List.mem_append_left _ (List.mem_append_left _ (List.mem_append_left _ (List.mem_append_right _ h)))))))
def fn_X11_worth (v1 : Int32) (v2 : Int32) (z : St) : Option (Int32 × St) := bd (fn_X7_isGuest  2 v1 z) (fun r2 z3 => (if r2 = 0 then some ((-1000000000), z3) else bd (fn_X10_ofPiece  v1 v2 (-1000000000) z3) (fun r6 z7 => some (r6, z7))))
set_option maxHeartbeats 4000000 in
set_option maxRecDepth 100000 in
theorem m_X11_worth {l : Launch} {G : wG} (hG : Ok G) {v1 : Int32} {v2 : Int32} {z : St} {Rz : Int32 × St}  (h : fn_X11_worth  v1 v2 z = some Rz) : Met l yX11_worth wsX11_worth (rmd 6) (va_Pc [.ref (G.2.2 0), .int v1, .int v2] (Pre G z)) (va_Qi (fun r u => (r, u) = Rz) (Pre G) (AW G)) 0 0 (AW G) := by
  refine Met.ofW (cc := cX11_worth) (maxL := 3) (ret := (some .int)) (by decide) rfl ?_
  intro p e s m args below meth c s₁ B hml hv
  obtain ⟨rfl, hP, hK⟩ := hv
  have C : CX p s m ([.ref (G.2.2 0), .int v1, .int v2] : List Value).toArray meth c cX11_worth 3 wsX11_worth RX11 (some .int) G := ⟨B.exec, B.bytes, hml, findClass_of_methodNamed B.named, atoms_spec (ws := wsX11_worth) B.pre, B.returns, B.notSynchronized, hK, hG⟩
  obtain ⟨hx, hb, -, hown, hts, hr, hlocks, -, -⟩ := id C
  have hS : va_S (AW G) s.heap s.heap [] := va_S.rf
  have hl := lv_entry [.ref (G.2.2 0), .int v1, .int v2] (n := 3) (Nat.le_of_ble_eq_true rfl)
  rw [lg_entry_eq]
  generalize (lg_sl [.ref (G.2.2 0), .int v1, .int v2] ++ List.replicate (3 - (lg_sl [.ref (G.2.2 0), .int v1, .int v2]).length) Slot.unset).toArray = ls at hl ⊢
  have hl : lv_has ls 3 [(0, .ref (G.2.2 0)), (1, .int v1), (2, .int v2)] := hl
  unfold fn_X11_worth at h
  refine lv_aload_n hx hb dX11_worth_0 rfl (lv_at hl 0 rfl) ?_
  refine ge_11_2 hx hb hts in_X11_worth_X11 hown hK hP k_0 (hts _ (List.mem_of_getElem? (i := 1) rfl)) dX11_worth_1 ?_
  refine lv_iload_n hx hb dX11_worth_4 rfl (lv_at hl 1 rfl) ?_
  obtain ⟨r2, z3, h1, h⟩ := bd_s h
  refine x_Vi (Rz := (r2, z3)) (As := [.int v1]) (rest := []) ⟨hx, hb, hml, hown, hts⟩ hK hP hS (kd_lt k_2 (by decide)) (cell_7 k_2) rfl (m_X7_isGuest hG  k_2 h1) (cwV 1 hts gX11_worth_X7_isGuest rfl rfl rfl (by decide +kernel) (rmd_ok (by decide) (by decide))) rfl hl.1 rfl (Nat.le_of_ble_eq_true rfl) dX11_worth_5 ⟨Nat.le_refl _, Nat.le_refl _⟩ (fun H locs hP hS => ?_)
  refine lv_if_ne (tgt := 14) hx hb dX11_worth_8 (by decide) (fun c4 => ?_) (fun c4 => ?_)
  · rw [if_neg c4] at h
    refine lv_aload_n hx hb dX11_worth_14 rfl (lv_at hl 0 rfl) ?_
    refine ge_11_7 hx hb hts in_X11_worth_X11 hown hK hP k_0 (hts _ (List.mem_of_getElem? (i := 3) rfl)) dX11_worth_15 ?_
    refine lv_iload_n hx hb dX11_worth_18 rfl (lv_at hl 1 rfl) ?_
    refine lv_iload_n hx hb dX11_worth_19 rfl (lv_at hl 2 rfl) ?_
    refine lv_ldc (v := (-1000000000)) hx hb hown (hts _ (List.mem_of_getElem? (i := 2) rfl)) dX11_worth_20 ?_
    obtain ⟨r6, z7, h5, h⟩ := bd_s h
    refine x_Vi (Rz := (r6, z7)) (As := [.int v1, .int v2, .int (-1000000000)]) (rest := []) ⟨hx, hb, hml, hown, hts⟩ hK hP hS (kd_lt k_143 (by decide)) (cell_10 k_143) rfl (m_X10_ofPiece hG   h5) (cwV 3 hts gX11_worth_X10_ofPiece rfl rfl rfl (by decide +kernel) (rmd_ok (by decide) (by decide))) rfl hl.1 rfl (Nat.le_of_ble_eq_true rfl) dX11_worth_22 ⟨Nat.le_refl _, Nat.le_refl _⟩ (fun H locs hP hS => ?_)
    exact x_iret hx hb hr hlocks hK hP hS h dX11_worth_25
  · rw [if_pos c4] at h
    refine lv_ldc (v := (-1000000000)) hx hb hown (hts _ (List.mem_of_getElem? (i := 2) rfl)) dX11_worth_11 ?_
    exact x_iret hx hb hr hlocks hK hP hS h dX11_worth_13
theorem in_X11_slip_X11 : ∀ w ∈ wsX110, w ∈ wsX11_slip := fun _ h => (List.mem_cons_of_mem _ (List.mem_append_left _ (List.mem_append_left _ (List.mem_append_left _ (List.mem_append_left _ (List.mem_append_left _ (List.mem_append_right _ h)))))))
def fn_X11_slip (v1 : Int32) (v2 : Int32) (v3 : Int32) (z : St) : Option (Int32 × St) := bd (fn_X1_canSplit  34 v1 v2 v3 z) (fun r2 z3 => (if r2 = 0 then some ((-1), z3) else bd (fn_X10_slipOf  v1 v2 z3) (fun r6 z7 => some ((if 0 < (if r6 < 100 then r6 else 100) then (if r6 < 100 then r6 else 100) else 0), z7))))
set_option maxHeartbeats 4000000 in
set_option maxRecDepth 100000 in
theorem m_X11_slip {l : Launch} {G : wG} (hG : Ok G) {v1 : Int32} {v2 : Int32} {v3 : Int32} {z : St} {Rz : Int32 × St}  (h : fn_X11_slip  v1 v2 v3 z = some Rz) : Met l yX11_slip wsX11_slip (rmd 5) (va_Pc [.ref (G.2.2 0), .int v1, .int v2, .int v3] (Pre G z)) (va_Qi (fun r u => (r, u) = Rz) (Pre G) (AW G)) 0 0 (AW G) := by
  refine Met.ofW (cc := cX11_slip) (maxL := 4) (ret := (some .int)) (by decide) rfl ?_
  intro p e s m args below meth c s₁ B hml hv
  obtain ⟨rfl, hP, hK⟩ := hv
  have C : CX p s m ([.ref (G.2.2 0), .int v1, .int v2, .int v3] : List Value).toArray meth c cX11_slip 4 wsX11_slip RX11 (some .int) G := ⟨B.exec, B.bytes, hml, findClass_of_methodNamed B.named, atoms_spec (ws := wsX11_slip) B.pre, B.returns, B.notSynchronized, hK, hG⟩
  obtain ⟨hx, hb, -, hown, hts, hr, hlocks, -, -⟩ := id C
  have hS : va_S (AW G) s.heap s.heap [] := va_S.rf
  have hl := lv_entry [.ref (G.2.2 0), .int v1, .int v2, .int v3] (n := 4) (Nat.le_of_ble_eq_true rfl)
  rw [lg_entry_eq]
  generalize (lg_sl [.ref (G.2.2 0), .int v1, .int v2, .int v3] ++ List.replicate (4 - (lg_sl [.ref (G.2.2 0), .int v1, .int v2, .int v3]).length) Slot.unset).toArray = ls at hl ⊢
  have hl : lv_has ls 4 [(0, .ref (G.2.2 0)), (1, .int v1), (2, .int v2), (3, .int v3)] := hl
  unfold fn_X11_slip at h
  refine lv_aload_n hx hb dX11_slip_0 rfl (lv_at hl 0 rfl) ?_
  refine ge_11_5 hx hb hts in_X11_slip_X11 hown hK hP k_0 (hts _ (List.mem_of_getElem? (i := 1) rfl)) dX11_slip_1 ?_
  refine lv_iload_n hx hb dX11_slip_4 rfl (lv_at hl 1 rfl) ?_
  refine lv_iload_n hx hb dX11_slip_5 rfl (lv_at hl 2 rfl) ?_
  refine lv_iload_n hx hb dX11_slip_6 rfl (lv_at hl 3 rfl) ?_
  obtain ⟨r2, z3, h1, h⟩ := bd_s h
  refine x_Vi (Rz := (r2, z3)) (As := [.int v1, .int v2, .int v3]) (rest := []) ⟨hx, hb, hml, hown, hts⟩ hK hP hS (kd_lt k_34 (by decide)) (cell_1 k_34) rfl (m_X1_canSplit hG  k_34 h1) (cwV 3 hts gX11_slip_X1_canSplit rfl rfl rfl (by decide +kernel) (rmd_ok (by decide) (by decide))) rfl hl.1 rfl (Nat.le_of_ble_eq_true rfl) dX11_slip_7 ⟨Nat.le_refl _, Nat.le_refl _⟩ (fun H locs hP hS => ?_)
  refine lv_if_ne (tgt := 15) hx hb dX11_slip_10 (by decide) (fun c4 => ?_) (fun c4 => ?_)
  · rw [if_neg c4] at h
    refine lv_iconst (v := 0) hx hb dX11_slip_15 (by decide) ?_
    refine lv_bipush (v := 100) hx hb dX11_slip_16 (by decide) ?_
    refine lv_aload_n hx hb dX11_slip_18 rfl (lv_at hl 0 rfl) ?_
    refine ge_11_7 hx hb hts in_X11_slip_X11 hown hK hP k_0 (hts _ (List.mem_of_getElem? (i := 2) rfl)) dX11_slip_19 ?_
    refine lv_iload_n hx hb dX11_slip_22 rfl (lv_at hl 1 rfl) ?_
    refine lv_iload_n hx hb dX11_slip_23 rfl (lv_at hl 2 rfl) ?_
    obtain ⟨r6, z7, h5, h⟩ := bd_s h
    refine x_Vi (Rz := (r6, z7)) (As := [.int v1, .int v2]) (rest := [.int 100, .int 0]) ⟨hx, hb, hml, hown, hts⟩ hK hP hS (kd_lt k_143 (by decide)) (cell_10 k_143) rfl (m_X10_slipOf hG   h5) (cwV 2 hts gX11_slip_X10_slipOf rfl rfl rfl (by decide +kernel) (rmd_ok (by decide) (by decide))) rfl hl.1 rfl (Nat.le_of_ble_eq_true rfl) dX11_slip_24 ⟨Nat.le_refl _, Nat.le_refl _⟩ (fun H locs hP hS => ?_)
    refine va_mmin hx hb (by rw [hml]; exact hl.1.symm) hown (hts _ (List.mem_of_getElem? (i := 3) rfl)) (hts _ (List.mem_of_getElem? (i := 4) rfl)) (hts _ (List.mem_of_getElem? (i := 5) rfl)) (hts _ (List.mem_of_getElem? (i := 6) rfl)) (rmd_f (by decide)) (rmd_l (by decide) (Nat.le_of_ble_eq_true rfl)) (Nat.le_refl _) (Nat.le_refl _) dX11_slip_27 ?_
    refine va_mmax hx hb (by rw [hml]; exact hl.1.symm) hown (hts _ (List.mem_of_getElem? (i := 7) rfl)) (hts _ (List.mem_of_getElem? (i := 8) rfl)) (hts _ (List.mem_of_getElem? (i := 5) rfl)) (hts _ (List.mem_of_getElem? (i := 9) rfl)) (rmd_f (by decide)) (rmd_l (by decide) (Nat.le_of_ble_eq_true rfl)) (Nat.le_refl _) (Nat.le_refl _) dX11_slip_30 ?_
    exact x_iret hx hb hr hlocks hK hP hS h dX11_slip_33
  · rw [if_pos c4] at h
    refine lv_iconst (v := (-1)) hx hb dX11_slip_13 (by decide) ?_
    exact x_iret hx hb hr hlocks hK hP hS h dX11_slip_14
theorem in_X11_cut_X11 : ∀ w ∈ wsX110, w ∈ wsX11_cut := fun _ h => (List.mem_cons_of_mem _ (List.mem_append_left _ (List.mem_append_left _ (List.mem_append_left _ (List.mem_append_left _ (List.mem_append_left _ (List.mem_append_left _ (List.mem_append_right _ h))))))))
theorem in_X11_cut_X1 : ∀ w ∈ wsX10, w ∈ wsX11_cut := fun _ h => (List.mem_cons_of_mem _ (List.mem_append_left _ (List.mem_append_left _ (List.mem_append_left _ (List.mem_append_left _ (List.mem_append_left _ (List.mem_append_right _ h)))))))
def fn_X11_cut (v1 : Int32) (v2 : Int32) (v3 : Int32) (z : St) : Option (Int32 × St) := bd (fn_X1_canSplit  34 v1 v2 v3 z) (fun r2 z3 => (if r2 = 0 then some ((-1), z3) else (if (z3.1 34 2) < 24 then bv (fn_X0_perform  0 v1 v2 v3 z3) (fun z7 => some (((z7.1 34 2) - 1), z7)) else some ((-1), z3))))
set_option maxHeartbeats 4000000 in
set_option maxRecDepth 100000 in
theorem m_X11_cut {l : Launch} {G : wG} (hG : Ok G) {v1 : Int32} {v2 : Int32} {v3 : Int32} {z : St} {Rz : Int32 × St}  (h : fn_X11_cut  v1 v2 v3 z = some Rz) : Met l yX11_cut wsX11_cut (rmd 7) (va_Pc [.ref (G.2.2 0), .int v1, .int v2, .int v3] (Pre G z)) (va_Qi (fun r u => (r, u) = Rz) (Pre G) (AW G)) 0 0 (AW G) := by
  refine Met.ofW (cc := cX11_cut) (maxL := 4) (ret := (some .int)) (by decide) rfl ?_
  intro p e s m args below meth c s₁ B hml hv
  obtain ⟨rfl, hP, hK⟩ := hv
  have C : CX p s m ([.ref (G.2.2 0), .int v1, .int v2, .int v3] : List Value).toArray meth c cX11_cut 4 wsX11_cut RX11 (some .int) G := ⟨B.exec, B.bytes, hml, findClass_of_methodNamed B.named, atoms_spec (ws := wsX11_cut) B.pre, B.returns, B.notSynchronized, hK, hG⟩
  obtain ⟨hx, hb, -, hown, hts, hr, hlocks, -, -⟩ := id C
  have hS : va_S (AW G) s.heap s.heap [] := va_S.rf
  have hl := lv_entry [.ref (G.2.2 0), .int v1, .int v2, .int v3] (n := 4) (Nat.le_of_ble_eq_true rfl)
  rw [lg_entry_eq]
  generalize (lg_sl [.ref (G.2.2 0), .int v1, .int v2, .int v3] ++ List.replicate (4 - (lg_sl [.ref (G.2.2 0), .int v1, .int v2, .int v3]).length) Slot.unset).toArray = ls at hl ⊢
  have hl : lv_has ls 4 [(0, .ref (G.2.2 0)), (1, .int v1), (2, .int v2), (3, .int v3)] := hl
  unfold fn_X11_cut at h
  refine lv_aload_n hx hb dX11_cut_0 rfl (lv_at hl 0 rfl) ?_
  refine ge_11_5 hx hb hts in_X11_cut_X11 hown hK hP k_0 (hts _ (List.mem_of_getElem? (i := 1) rfl)) dX11_cut_1 ?_
  refine lv_iload_n hx hb dX11_cut_4 rfl (lv_at hl 1 rfl) ?_
  refine lv_iload_n hx hb dX11_cut_5 rfl (lv_at hl 2 rfl) ?_
  refine lv_iload_n hx hb dX11_cut_6 rfl (lv_at hl 3 rfl) ?_
  obtain ⟨r2, z3, h1, h⟩ := bd_s h
  refine x_Vi (Rz := (r2, z3)) (As := [.int v1, .int v2, .int v3]) (rest := []) ⟨hx, hb, hml, hown, hts⟩ hK hP hS (kd_lt k_34 (by decide)) (cell_1 k_34) rfl (m_X1_canSplit hG  k_34 h1) (cwV 3 hts gX11_cut_X1_canSplit rfl rfl rfl (by decide +kernel) (rmd_ok (by decide) (by decide))) rfl hl.1 rfl (Nat.le_of_ble_eq_true rfl) dX11_cut_7 ⟨Nat.le_refl _, Nat.le_refl _⟩ (fun H locs hP hS => ?_)
  refine lv_if_eq (tgt := 25) hx hb dX11_cut_10 (by decide) (fun c4 => ?_) (fun c4 => ?_)
  · rw [if_pos c4] at h
    refine lv_iconst (v := (-1)) hx hb dX11_cut_25 (by decide) ?_
    exact x_iret hx hb hr hlocks hK hP hS h dX11_cut_26
  · rw [if_neg c4] at h
    refine lv_aload_n hx hb dX11_cut_13 rfl (lv_at hl 0 rfl) ?_
    refine ge_11_5 hx hb hts in_X11_cut_X11 hown hK hP k_0 (hts _ (List.mem_of_getElem? (i := 1) rfl)) dX11_cut_14 ?_
    refine ge_1_2 hx hb hts in_X11_cut_X1 hown hK hP k_34 (hts _ (List.mem_of_getElem? (i := 2) rfl)) dX11_cut_17 ?_
    refine lv_bipush (v := 24) hx hb dX11_cut_20 (by decide) ?_
    refine lv_icmp_lt (tgt := 27) hx hb dX11_cut_22 (by decide) (fun c5 => ?_) (fun c5 => ?_)
    · rw [if_pos c5] at h
      refine lv_aload_n hx hb dX11_cut_27 rfl (lv_at hl 0 rfl) ?_
      refine ge_11_8 hx hb hts in_X11_cut_X11 hown hK hP k_0 (hts _ (List.mem_of_getElem? (i := 3) rfl)) dX11_cut_28 ?_
      refine lv_iconst (v := 0) hx hb dX11_cut_31 (by decide) ?_
      refine lv_iload_n hx hb dX11_cut_32 rfl (lv_at hl 1 rfl) ?_
      refine lv_iload_n hx hb dX11_cut_33 rfl (lv_at hl 2 rfl) ?_
      refine lv_iload_n hx hb dX11_cut_34 rfl (lv_at hl 3 rfl) ?_
      obtain ⟨z7, h6, h⟩ := bv_s h
      refine x_Vv (Rz := z7) (As := [.int 0, .int v1, .int v2, .int v3]) (rest := []) ⟨hx, hb, hml, hown, hts⟩ hK hP hS (kd_lt k_146 (by decide)) (cell_0 k_146) rfl (m_X0_perform hG   h6) (cwV 4 hts gX11_cut_X0_perform rfl rfl rfl (by decide +kernel) (rmd_ok (by decide) (by decide))) rfl hl.1 rfl (Nat.le_of_ble_eq_true rfl) dX11_cut_35 ⟨Nat.le_refl _, Nat.le_refl _⟩ (fun H locs hP hS => ?_)
      refine lv_aload_n hx hb dX11_cut_38 rfl (lv_at hl 0 rfl) ?_
      refine ge_11_5 hx hb hts in_X11_cut_X11 hown hK hP k_0 (hts _ (List.mem_of_getElem? (i := 1) rfl)) dX11_cut_39 ?_
      refine ge_1_2 hx hb hts in_X11_cut_X1 hown hK hP k_34 (hts _ (List.mem_of_getElem? (i := 2) rfl)) dX11_cut_42 ?_
      refine lv_iconst (v := 1) hx hb dX11_cut_45 (by decide) ?_
      refine lv_isub hx hb dX11_cut_46 ?_
      exact x_iret hx hb hr hlocks hK hP hS h dX11_cut_47
    · rw [if_neg c5] at h
      refine lv_iconst (v := (-1)) hx hb dX11_cut_25 (by decide) ?_
      exact x_iret hx hb hr hlocks hK hP hS h dX11_cut_26
theorem in_X11_give_X11 : ∀ w ∈ wsX110, w ∈ wsX11_give := fun _ h => (List.mem_cons_of_mem _ (List.mem_append_left _ (List.mem_append_left _ (List.mem_append_left _ (List.mem_append_left _ (List.mem_append_left _ (List.mem_append_left _ (List.mem_append_right _ h))))))))
theorem in_X11_give_X1 : ∀ w ∈ wsX10, w ∈ wsX11_give := fun _ h => (List.mem_cons_of_mem _ (List.mem_append_left _ (List.mem_append_left _ (List.mem_append_left _ (List.mem_append_left _ (List.mem_append_left _ (List.mem_append_right _ h)))))))
def fn_X11_give (v1 : Int32) (v2 : Int32) (z : St) : Option (Int32 × St) := bd (fn_X7_isGuest  2 v2 z) (fun r2 z3 => (if r2 = 0 then some ((-1), z3) else bd (fn_X1_isFree  34 v1 z3) (fun r6 z7 => (if r6 = 0 then some ((-1), z7) else gd (ix v2 6) ((if (z7.1 60 (Int32.toNatClampNeg v2)) = (-1) then bv (fn_X0_perform  1 v1 v2 0 z7) (fun z12 => bd (fn_X1_platesFilled  34 z12) (fun r14 z15 => some (r14, z15))) else some ((-1), z7)))))))
set_option maxHeartbeats 4000000 in
set_option maxRecDepth 100000 in
theorem m_X11_give {l : Launch} {G : wG} (hG : Ok G) {v1 : Int32} {v2 : Int32} {z : St} {Rz : Int32 × St}  (h : fn_X11_give  v1 v2 z = some Rz) : Met l yX11_give wsX11_give (rmd 7) (va_Pc [.ref (G.2.2 0), .int v1, .int v2] (Pre G z)) (va_Qi (fun r u => (r, u) = Rz) (Pre G) (AW G)) 0 0 (AW G) := by
  refine Met.ofW (cc := cX11_give) (maxL := 3) (ret := (some .int)) (by decide) rfl ?_
  intro p e s m args below meth c s₁ B hml hv
  obtain ⟨rfl, hP, hK⟩ := hv
  have C : CX p s m ([.ref (G.2.2 0), .int v1, .int v2] : List Value).toArray meth c cX11_give 3 wsX11_give RX11 (some .int) G := ⟨B.exec, B.bytes, hml, findClass_of_methodNamed B.named, atoms_spec (ws := wsX11_give) B.pre, B.returns, B.notSynchronized, hK, hG⟩
  obtain ⟨hx, hb, -, hown, hts, hr, hlocks, -, -⟩ := id C
  have hS : va_S (AW G) s.heap s.heap [] := va_S.rf
  have hl := lv_entry [.ref (G.2.2 0), .int v1, .int v2] (n := 3) (Nat.le_of_ble_eq_true rfl)
  rw [lg_entry_eq]
  generalize (lg_sl [.ref (G.2.2 0), .int v1, .int v2] ++ List.replicate (3 - (lg_sl [.ref (G.2.2 0), .int v1, .int v2]).length) Slot.unset).toArray = ls at hl ⊢
  have hl : lv_has ls 3 [(0, .ref (G.2.2 0)), (1, .int v1), (2, .int v2)] := hl
  unfold fn_X11_give at h
  refine lv_aload_n hx hb dX11_give_0 rfl (lv_at hl 0 rfl) ?_
  refine ge_11_2 hx hb hts in_X11_give_X11 hown hK hP k_0 (hts _ (List.mem_of_getElem? (i := 1) rfl)) dX11_give_1 ?_
  refine lv_iload_n hx hb dX11_give_4 rfl (lv_at hl 2 rfl) ?_
  obtain ⟨r2, z3, h1, h⟩ := bd_s h
  refine x_Vi (Rz := (r2, z3)) (As := [.int v2]) (rest := []) ⟨hx, hb, hml, hown, hts⟩ hK hP hS (kd_lt k_2 (by decide)) (cell_7 k_2) rfl (m_X7_isGuest hG  k_2 h1) (cwV 1 hts gX11_give_X7_isGuest rfl rfl rfl (by decide +kernel) (rmd_ok (by decide) (by decide))) rfl hl.1 rfl (Nat.le_of_ble_eq_true rfl) dX11_give_5 ⟨Nat.le_refl _, Nat.le_refl _⟩ (fun H locs hP hS => ?_)
  refine lv_if_eq (tgt := 35) hx hb dX11_give_8 (by decide) (fun c4 => ?_) (fun c4 => ?_)
  · rw [if_pos c4] at h
    refine lv_iconst (v := (-1)) hx hb dX11_give_35 (by decide) ?_
    exact x_iret hx hb hr hlocks hK hP hS h dX11_give_36
  · rw [if_neg c4] at h
    refine lv_aload_n hx hb dX11_give_11 rfl (lv_at hl 0 rfl) ?_
    refine ge_11_5 hx hb hts in_X11_give_X11 hown hK hP k_0 (hts _ (List.mem_of_getElem? (i := 2) rfl)) dX11_give_12 ?_
    refine lv_iload_n hx hb dX11_give_15 rfl (lv_at hl 1 rfl) ?_
    obtain ⟨r6, z7, h5, h⟩ := bd_s h
    refine x_Vi (Rz := (r6, z7)) (As := [.int v1]) (rest := []) ⟨hx, hb, hml, hown, hts⟩ hK hP hS (kd_lt k_34 (by decide)) (cell_1 k_34) rfl (m_X1_isFree hG  k_34 h5) (cwV 1 hts gX11_give_X1_isFree rfl rfl rfl (by decide +kernel) (rmd_ok (by decide) (by decide))) rfl hl.1 rfl (Nat.le_of_ble_eq_true rfl) dX11_give_16 ⟨Nat.le_refl _, Nat.le_refl _⟩ (fun H locs hP hS => ?_)
    refine lv_if_eq (tgt := 35) hx hb dX11_give_19 (by decide) (fun c8 => ?_) (fun c8 => ?_)
    · rw [if_pos c8] at h
      refine lv_iconst (v := (-1)) hx hb dX11_give_35 (by decide) ?_
      exact x_iret hx hb hr hlocks hK hP hS h dX11_give_36
    · rw [if_neg c8] at h
      refine lv_aload_n hx hb dX11_give_22 rfl (lv_at hl 0 rfl) ?_
      refine ge_11_5 hx hb hts in_X11_give_X11 hown hK hP k_0 (hts _ (List.mem_of_getElem? (i := 2) rfl)) dX11_give_23 ?_
      refine ge_1_1 hx hb hts in_X11_give_X1 hown hK hP k_34 (hts _ (List.mem_of_getElem? (i := 3) rfl)) dX11_give_26 ?_
      refine lv_iload_n hx hb dX11_give_29 rfl (lv_at hl 2 rfl) ?_
      obtain ⟨g9, h⟩ := gd_s h
      refine xl_14 hx hb hK hP k_60 l_60 (ix_in g9) dX11_give_30 ?_
      refine lv_iconst (v := (-1)) hx hb dX11_give_31 (by decide) ?_
      refine lv_icmp_eq (tgt := 37) hx hb dX11_give_32 (by decide) (fun c10 => ?_) (fun c10 => ?_)
      · rw [if_pos c10] at h
        refine lv_aload_n hx hb dX11_give_37 rfl (lv_at hl 0 rfl) ?_
        refine ge_11_8 hx hb hts in_X11_give_X11 hown hK hP k_0 (hts _ (List.mem_of_getElem? (i := 4) rfl)) dX11_give_38 ?_
        refine lv_iconst (v := 1) hx hb dX11_give_41 (by decide) ?_
        refine lv_iload_n hx hb dX11_give_42 rfl (lv_at hl 1 rfl) ?_
        refine lv_iload_n hx hb dX11_give_43 rfl (lv_at hl 2 rfl) ?_
        refine lv_iconst (v := 0) hx hb dX11_give_44 (by decide) ?_
        obtain ⟨z12, h11, h⟩ := bv_s h
        refine x_Vv (Rz := z12) (As := [.int 1, .int v1, .int v2, .int 0]) (rest := []) ⟨hx, hb, hml, hown, hts⟩ hK hP hS (kd_lt k_146 (by decide)) (cell_0 k_146) rfl (m_X0_perform hG   h11) (cwV 4 hts gX11_give_X0_perform rfl rfl rfl (by decide +kernel) (rmd_ok (by decide) (by decide))) rfl hl.1 rfl (Nat.le_of_ble_eq_true rfl) dX11_give_45 ⟨Nat.le_refl _, Nat.le_refl _⟩ (fun H locs hP hS => ?_)
        refine lv_aload_n hx hb dX11_give_48 rfl (lv_at hl 0 rfl) ?_
        refine ge_11_5 hx hb hts in_X11_give_X11 hown hK hP k_0 (hts _ (List.mem_of_getElem? (i := 2) rfl)) dX11_give_49 ?_
        obtain ⟨r14, z15, h13, h⟩ := bd_s h
        refine x_Vi (Rz := (r14, z15)) (As := []) (rest := []) ⟨hx, hb, hml, hown, hts⟩ hK hP hS (kd_lt k_34 (by decide)) (cell_1 k_34) rfl (m_X1_platesFilled hG  k_34 h13) (cwV 0 hts gX11_give_X1_platesFilled rfl rfl rfl (by decide +kernel) (rmd_ok (by decide) (by decide))) rfl hl.1 rfl (Nat.le_of_ble_eq_true rfl) dX11_give_52 ⟨Nat.le_refl _, Nat.le_refl _⟩ (fun H locs hP hS => ?_)
        exact x_iret hx hb hr hlocks hK hP hS h dX11_give_55
      · rw [if_neg c10] at h
        refine lv_iconst (v := (-1)) hx hb dX11_give_35 (by decide) ?_
        exact x_iret hx hb hr hlocks hK hP hS h dX11_give_36
theorem in_X11_back_X11 : ∀ w ∈ wsX110, w ∈ wsX11_back := fun _ h => (List.mem_cons_of_mem _ (List.mem_append_left _ (List.mem_append_left _ (List.mem_append_left _ (List.mem_append_left _ (List.mem_append_left _ (List.mem_append_left _ (List.mem_append_right _ h))))))))
theorem in_X11_back_X1 : ∀ w ∈ wsX10, w ∈ wsX11_back := fun _ h => (List.mem_cons_of_mem _ (List.mem_append_left _ (List.mem_append_left _ (List.mem_append_left _ (List.mem_append_left _ (List.mem_append_left _ (List.mem_append_right _ h)))))))
def fn_X11_back (v1 : Int32) (z : St) : Option (Int32 × St) := bd (fn_X7_isGuest  2 v1 z) (fun r2 z3 => (if r2 = 0 then some ((-1), z3) else gd (ix v1 6) ((if (z3.1 60 (Int32.toNatClampNeg v1)) = (-1) then some ((-1), z3) else gd (ix v1 6) (nm (z3.1 60 (Int32.toNatClampNeg v1)) (fun v2_8 => bv (fn_X0_perform  2 v2_8 v1 0 z3) (fun z10 => some (v2_8, z10))))))))
set_option maxHeartbeats 4000000 in
set_option maxRecDepth 100000 in
theorem m_X11_back {l : Launch} {G : wG} (hG : Ok G) {v1 : Int32} {z : St} {Rz : Int32 × St}  (h : fn_X11_back  v1 z = some Rz) : Met l yX11_back wsX11_back (rmd 7) (va_Pc [.ref (G.2.2 0), .int v1] (Pre G z)) (va_Qi (fun r u => (r, u) = Rz) (Pre G) (AW G)) 0 0 (AW G) := by
  refine Met.ofW (cc := cX11_back) (maxL := 3) (ret := (some .int)) (by decide) rfl ?_
  intro p e s m args below meth c s₁ B hml hv
  obtain ⟨rfl, hP, hK⟩ := hv
  have C : CX p s m ([.ref (G.2.2 0), .int v1] : List Value).toArray meth c cX11_back 3 wsX11_back RX11 (some .int) G := ⟨B.exec, B.bytes, hml, findClass_of_methodNamed B.named, atoms_spec (ws := wsX11_back) B.pre, B.returns, B.notSynchronized, hK, hG⟩
  obtain ⟨hx, hb, -, hown, hts, hr, hlocks, -, -⟩ := id C
  have hS : va_S (AW G) s.heap s.heap [] := va_S.rf
  have hl := lv_entry [.ref (G.2.2 0), .int v1] (n := 3) (Nat.le_of_ble_eq_true rfl)
  rw [lg_entry_eq]
  generalize (lg_sl [.ref (G.2.2 0), .int v1] ++ List.replicate (3 - (lg_sl [.ref (G.2.2 0), .int v1]).length) Slot.unset).toArray = ls at hl ⊢
  have hl : lv_has ls 3 [(0, .ref (G.2.2 0)), (1, .int v1)] := hl
  unfold fn_X11_back at h
  refine lv_aload_n hx hb dX11_back_0 rfl (lv_at hl 0 rfl) ?_
  refine ge_11_2 hx hb hts in_X11_back_X11 hown hK hP k_0 (hts _ (List.mem_of_getElem? (i := 1) rfl)) dX11_back_1 ?_
  refine lv_iload_n hx hb dX11_back_4 rfl (lv_at hl 1 rfl) ?_
  obtain ⟨r2, z3, h1, h⟩ := bd_s h
  refine x_Vi (Rz := (r2, z3)) (As := [.int v1]) (rest := []) ⟨hx, hb, hml, hown, hts⟩ hK hP hS (kd_lt k_2 (by decide)) (cell_7 k_2) rfl (m_X7_isGuest hG  k_2 h1) (cwV 1 hts gX11_back_X7_isGuest rfl rfl rfl (by decide +kernel) (rmd_ok (by decide) (by decide))) rfl hl.1 rfl (Nat.le_of_ble_eq_true rfl) dX11_back_5 ⟨Nat.le_refl _, Nat.le_refl _⟩ (fun H locs hP hS => ?_)
  refine lv_if_eq (tgt := 24) hx hb dX11_back_8 (by decide) (fun c4 => ?_) (fun c4 => ?_)
  · rw [if_pos c4] at h
    refine lv_iconst (v := (-1)) hx hb dX11_back_24 (by decide) ?_
    exact x_iret hx hb hr hlocks hK hP hS h dX11_back_25
  · rw [if_neg c4] at h
    refine lv_aload_n hx hb dX11_back_11 rfl (lv_at hl 0 rfl) ?_
    refine ge_11_5 hx hb hts in_X11_back_X11 hown hK hP k_0 (hts _ (List.mem_of_getElem? (i := 2) rfl)) dX11_back_12 ?_
    refine ge_1_1 hx hb hts in_X11_back_X1 hown hK hP k_34 (hts _ (List.mem_of_getElem? (i := 3) rfl)) dX11_back_15 ?_
    refine lv_iload_n hx hb dX11_back_18 rfl (lv_at hl 1 rfl) ?_
    obtain ⟨g5, h⟩ := gd_s h
    refine xl_14 hx hb hK hP k_60 l_60 (ix_in g5) dX11_back_19 ?_
    refine lv_iconst (v := (-1)) hx hb dX11_back_20 (by decide) ?_
    refine lv_icmp_ne (tgt := 26) hx hb dX11_back_21 (by decide) (fun c6 => ?_) (fun c6 => ?_)
    · rw [if_neg c6] at h
      refine lv_aload_n hx hb dX11_back_26 rfl (lv_at hl 0 rfl) ?_
      refine ge_11_5 hx hb hts in_X11_back_X11 hown hK hP k_0 (hts _ (List.mem_of_getElem? (i := 2) rfl)) dX11_back_27 ?_
      refine ge_1_1 hx hb hts in_X11_back_X1 hown hK hP k_34 (hts _ (List.mem_of_getElem? (i := 3) rfl)) dX11_back_30 ?_
      refine lv_iload_n hx hb dX11_back_33 rfl (lv_at hl 1 rfl) ?_
      obtain ⟨g7, h⟩ := gd_s h
      refine xl_14 hx hb hK hP k_60 l_60 (ix_in g7) dX11_back_34 ?_
      obtain ⟨v2_8, e_v2_8, h⟩ := nm_s h
      refine x_top e_v2_8 ?_
      refine lv_istore_n (lv' := [(2, .int v2_8), (0, .ref (G.2.2 0)), (1, .int v1)]) hx hb dX11_back_35 rfl hl (by decide) rfl (fun ls hl => ?_)
      refine lv_aload_n hx hb dX11_back_36 rfl (lv_at hl 1 rfl) ?_
      refine ge_11_8 hx hb hts in_X11_back_X11 hown hK hP k_0 (hts _ (List.mem_of_getElem? (i := 4) rfl)) dX11_back_37 ?_
      refine lv_iconst (v := 2) hx hb dX11_back_40 (by decide) ?_
      refine lv_iload_n hx hb dX11_back_41 rfl (lv_at hl 0 rfl) ?_
      refine lv_iload_n hx hb dX11_back_42 rfl (lv_at hl 2 rfl) ?_
      refine lv_iconst (v := 0) hx hb dX11_back_43 (by decide) ?_
      obtain ⟨z10, h9, h⟩ := bv_s h
      refine x_Vv (Rz := z10) (As := [.int 2, .int v2_8, .int v1, .int 0]) (rest := []) ⟨hx, hb, hml, hown, hts⟩ hK hP hS (kd_lt k_146 (by decide)) (cell_0 k_146) rfl (m_X0_perform hG   h9) (cwV 4 hts gX11_back_X0_perform rfl rfl rfl (by decide +kernel) (rmd_ok (by decide) (by decide))) rfl hl.1 rfl (Nat.le_of_ble_eq_true rfl) dX11_back_44 ⟨Nat.le_refl _, Nat.le_refl _⟩ (fun H locs hP hS => ?_)
      refine lv_iload_n hx hb dX11_back_47 rfl (lv_at hl 0 rfl) ?_
      exact x_iret hx hb hr hlocks hK hP hS h dX11_back_48
    · rw [if_pos c6] at h
      refine lv_iconst (v := (-1)) hx hb dX11_back_24 (by decide) ?_
      exact x_iret hx hb hr hlocks hK hP hS h dX11_back_25
theorem in_X11_exchange_X11 : ∀ w ∈ wsX110, w ∈ wsX11_exchange := fun _ h => (List.mem_cons_of_mem _ (List.mem_append_left _ (List.mem_append_left _ (List.mem_append_left _ (List.mem_append_left _ (List.mem_append_left _ (List.mem_append_left _ (List.mem_append_right _ h))))))))
theorem in_X11_exchange_X1 : ∀ w ∈ wsX10, w ∈ wsX11_exchange := fun _ h => (List.mem_cons_of_mem _ (List.mem_append_left _ (List.mem_append_left _ (List.mem_append_left _ (List.mem_append_left _ (List.mem_append_left _ (List.mem_append_right _ h)))))))
def fn_X11_exchange (v1 : Int32) (v2 : Int32) (z : St) : Option (Int32 × St) := bd (fn_X7_isGuest  2 v1 z) (fun r2 z3 => (if r2 = 0 then some ((-1), z3) else bd (fn_X7_isGuest  2 v2 z3) (fun r6 z7 => (if r6 = 0 then some ((-1), z7) else (if v1 = v2 then some ((-1), z7) else gd (ix v1 6) ((if (z7.1 60 (Int32.toNatClampNeg v1)) = (-1) then some ((-1), z7) else gd (ix v2 6) ((if (z7.1 60 (Int32.toNatClampNeg v2)) = (-1) then some ((-1), z7) else bv (fn_X0_perform  3 v1 v2 0 z7) (fun z15 => gd (ix v1 6) (some ((z15.1 60 (Int32.toNatClampNeg v1)), z15))))))))))))
set_option maxHeartbeats 4000000 in
set_option maxRecDepth 100000 in
theorem m_X11_exchange {l : Launch} {G : wG} (hG : Ok G) {v1 : Int32} {v2 : Int32} {z : St} {Rz : Int32 × St}  (h : fn_X11_exchange  v1 v2 z = some Rz) : Met l yX11_exchange wsX11_exchange (rmd 7) (va_Pc [.ref (G.2.2 0), .int v1, .int v2] (Pre G z)) (va_Qi (fun r u => (r, u) = Rz) (Pre G) (AW G)) 0 0 (AW G) := by
  refine Met.ofW (cc := cX11_exchange) (maxL := 3) (ret := (some .int)) (by decide) rfl ?_
  intro p e s m args below meth c s₁ B hml hv
  obtain ⟨rfl, hP, hK⟩ := hv
  have C : CX p s m ([.ref (G.2.2 0), .int v1, .int v2] : List Value).toArray meth c cX11_exchange 3 wsX11_exchange RX11 (some .int) G := ⟨B.exec, B.bytes, hml, findClass_of_methodNamed B.named, atoms_spec (ws := wsX11_exchange) B.pre, B.returns, B.notSynchronized, hK, hG⟩
  obtain ⟨hx, hb, -, hown, hts, hr, hlocks, -, -⟩ := id C
  have hS : va_S (AW G) s.heap s.heap [] := va_S.rf
  have hl := lv_entry [.ref (G.2.2 0), .int v1, .int v2] (n := 3) (Nat.le_of_ble_eq_true rfl)
  rw [lg_entry_eq]
  generalize (lg_sl [.ref (G.2.2 0), .int v1, .int v2] ++ List.replicate (3 - (lg_sl [.ref (G.2.2 0), .int v1, .int v2]).length) Slot.unset).toArray = ls at hl ⊢
  have hl : lv_has ls 3 [(0, .ref (G.2.2 0)), (1, .int v1), (2, .int v2)] := hl
  unfold fn_X11_exchange at h
  refine lv_aload_n hx hb dX11_exchange_0 rfl (lv_at hl 0 rfl) ?_
  refine ge_11_2 hx hb hts in_X11_exchange_X11 hown hK hP k_0 (hts _ (List.mem_of_getElem? (i := 1) rfl)) dX11_exchange_1 ?_
  refine lv_iload_n hx hb dX11_exchange_4 rfl (lv_at hl 1 rfl) ?_
  obtain ⟨r2, z3, h1, h⟩ := bd_s h
  refine x_Vi (Rz := (r2, z3)) (As := [.int v1]) (rest := []) ⟨hx, hb, hml, hown, hts⟩ hK hP hS (kd_lt k_2 (by decide)) (cell_7 k_2) rfl (m_X7_isGuest hG  k_2 h1) (cwV 1 hts gX11_exchange_X7_isGuest rfl rfl rfl (by decide +kernel) (rmd_ok (by decide) (by decide))) rfl hl.1 rfl (Nat.le_of_ble_eq_true rfl) dX11_exchange_5 ⟨Nat.le_refl _, Nat.le_refl _⟩ (fun H locs hP hS => ?_)
  refine lv_if_eq (tgt := 27) hx hb dX11_exchange_8 (by decide) (fun c4 => ?_) (fun c4 => ?_)
  · rw [if_pos c4] at h
    refine lv_iconst (v := (-1)) hx hb dX11_exchange_27 (by decide) ?_
    exact x_iret hx hb hr hlocks hK hP hS h dX11_exchange_28
  · rw [if_neg c4] at h
    refine lv_aload_n hx hb dX11_exchange_11 rfl (lv_at hl 0 rfl) ?_
    refine ge_11_2 hx hb hts in_X11_exchange_X11 hown hK hP k_0 (hts _ (List.mem_of_getElem? (i := 1) rfl)) dX11_exchange_12 ?_
    refine lv_iload_n hx hb dX11_exchange_15 rfl (lv_at hl 2 rfl) ?_
    obtain ⟨r6, z7, h5, h⟩ := bd_s h
    refine x_Vi (Rz := (r6, z7)) (As := [.int v2]) (rest := []) ⟨hx, hb, hml, hown, hts⟩ hK hP hS (kd_lt k_2 (by decide)) (cell_7 k_2) rfl (m_X7_isGuest hG  k_2 h5) (cwV 1 hts gX11_exchange_X7_isGuest rfl rfl rfl (by decide +kernel) (rmd_ok (by decide) (by decide))) rfl hl.1 rfl (Nat.le_of_ble_eq_true rfl) dX11_exchange_16 ⟨Nat.le_refl _, Nat.le_refl _⟩ (fun H locs hP hS => ?_)
    refine lv_if_eq (tgt := 27) hx hb dX11_exchange_19 (by decide) (fun c8 => ?_) (fun c8 => ?_)
    · rw [if_pos c8] at h
      refine lv_iconst (v := (-1)) hx hb dX11_exchange_27 (by decide) ?_
      exact x_iret hx hb hr hlocks hK hP hS h dX11_exchange_28
    · rw [if_neg c8] at h
      refine lv_iload_n hx hb dX11_exchange_22 rfl (lv_at hl 1 rfl) ?_
      refine lv_iload_n hx hb dX11_exchange_23 rfl (lv_at hl 2 rfl) ?_
      refine lv_icmp_ne (tgt := 29) hx hb dX11_exchange_24 (by decide) (fun c9 => ?_) (fun c9 => ?_)
      · rw [if_neg c9] at h
        refine lv_aload_n hx hb dX11_exchange_29 rfl (lv_at hl 0 rfl) ?_
        refine ge_11_5 hx hb hts in_X11_exchange_X11 hown hK hP k_0 (hts _ (List.mem_of_getElem? (i := 2) rfl)) dX11_exchange_30 ?_
        refine ge_1_1 hx hb hts in_X11_exchange_X1 hown hK hP k_34 (hts _ (List.mem_of_getElem? (i := 3) rfl)) dX11_exchange_33 ?_
        refine lv_iload_n hx hb dX11_exchange_36 rfl (lv_at hl 1 rfl) ?_
        obtain ⟨g10, h⟩ := gd_s h
        refine xl_14 hx hb hK hP k_60 l_60 (ix_in g10) dX11_exchange_37 ?_
        refine lv_iconst (v := (-1)) hx hb dX11_exchange_38 (by decide) ?_
        refine lv_icmp_eq (tgt := 55) hx hb dX11_exchange_39 (by decide) (fun c11 => ?_) (fun c11 => ?_)
        · rw [if_pos c11] at h
          refine lv_iconst (v := (-1)) hx hb dX11_exchange_55 (by decide) ?_
          exact x_iret hx hb hr hlocks hK hP hS h dX11_exchange_56
        · rw [if_neg c11] at h
          refine lv_aload_n hx hb dX11_exchange_42 rfl (lv_at hl 0 rfl) ?_
          refine ge_11_5 hx hb hts in_X11_exchange_X11 hown hK hP k_0 (hts _ (List.mem_of_getElem? (i := 2) rfl)) dX11_exchange_43 ?_
          refine ge_1_1 hx hb hts in_X11_exchange_X1 hown hK hP k_34 (hts _ (List.mem_of_getElem? (i := 3) rfl)) dX11_exchange_46 ?_
          refine lv_iload_n hx hb dX11_exchange_49 rfl (lv_at hl 2 rfl) ?_
          obtain ⟨g12, h⟩ := gd_s h
          refine xl_14 hx hb hK hP k_60 l_60 (ix_in g12) dX11_exchange_50 ?_
          refine lv_iconst (v := (-1)) hx hb dX11_exchange_51 (by decide) ?_
          refine lv_icmp_ne (tgt := 57) hx hb dX11_exchange_52 (by decide) (fun c13 => ?_) (fun c13 => ?_)
          · rw [if_neg c13] at h
            refine lv_aload_n hx hb dX11_exchange_57 rfl (lv_at hl 0 rfl) ?_
            refine ge_11_8 hx hb hts in_X11_exchange_X11 hown hK hP k_0 (hts _ (List.mem_of_getElem? (i := 4) rfl)) dX11_exchange_58 ?_
            refine lv_iconst (v := 3) hx hb dX11_exchange_61 (by decide) ?_
            refine lv_iload_n hx hb dX11_exchange_62 rfl (lv_at hl 1 rfl) ?_
            refine lv_iload_n hx hb dX11_exchange_63 rfl (lv_at hl 2 rfl) ?_
            refine lv_iconst (v := 0) hx hb dX11_exchange_64 (by decide) ?_
            obtain ⟨z15, h14, h⟩ := bv_s h
            refine x_Vv (Rz := z15) (As := [.int 3, .int v1, .int v2, .int 0]) (rest := []) ⟨hx, hb, hml, hown, hts⟩ hK hP hS (kd_lt k_146 (by decide)) (cell_0 k_146) rfl (m_X0_perform hG   h14) (cwV 4 hts gX11_exchange_X0_perform rfl rfl rfl (by decide +kernel) (rmd_ok (by decide) (by decide))) rfl hl.1 rfl (Nat.le_of_ble_eq_true rfl) dX11_exchange_65 ⟨Nat.le_refl _, Nat.le_refl _⟩ (fun H locs hP hS => ?_)
            refine lv_aload_n hx hb dX11_exchange_68 rfl (lv_at hl 0 rfl) ?_
            refine ge_11_5 hx hb hts in_X11_exchange_X11 hown hK hP k_0 (hts _ (List.mem_of_getElem? (i := 2) rfl)) dX11_exchange_69 ?_
            refine ge_1_1 hx hb hts in_X11_exchange_X1 hown hK hP k_34 (hts _ (List.mem_of_getElem? (i := 3) rfl)) dX11_exchange_72 ?_
            refine lv_iload_n hx hb dX11_exchange_75 rfl (lv_at hl 1 rfl) ?_
            obtain ⟨g16, h⟩ := gd_s h
            refine xl_14 hx hb hK hP k_60 l_60 (ix_in g16) dX11_exchange_76 ?_
            exact x_iret hx hb hr hlocks hK hP hS h dX11_exchange_77
          · rw [if_pos c13] at h
            refine lv_iconst (v := (-1)) hx hb dX11_exchange_55 (by decide) ?_
            exact x_iret hx hb hr hlocks hK hP hS h dX11_exchange_56
      · rw [if_pos c9] at h
        refine lv_iconst (v := (-1)) hx hb dX11_exchange_27 (by decide) ?_
        exact x_iret hx hb hr hlocks hK hP hS h dX11_exchange_28
theorem in_X11_undo_X11 : ∀ w ∈ wsX110, w ∈ wsX11_undo := fun _ h => (List.mem_cons_of_mem _ (List.mem_append_left _ (List.mem_append_left _ (List.mem_append_left _ (List.mem_append_right _ h)))))
def fn_X11_undo  (z : St) : Option (Int32 × St) := bd (fn_X0_takeBack   z) (fun r2 z3 => gd (zok r2) (some (r2, z3)))
set_option maxHeartbeats 4000000 in
set_option maxRecDepth 100000 in
theorem m_X11_undo {l : Launch} {G : wG} (hG : Ok G)  {z : St} {Rz : Int32 × St}  (h : fn_X11_undo   z = some Rz) : Met l yX11_undo wsX11_undo (rmd 6) (va_Pc [.ref (G.2.2 0)] (Pre G z)) (va_Qi (fun r u => (r, u) = Rz) (Pre G) (AW G)) 0 0 (AW G) := by
  refine Met.ofW (cc := cX11_undo) (maxL := 1) (ret := (some .boolean)) (by decide) rfl ?_
  intro p e s m args below meth c s₁ B hml hv
  obtain ⟨rfl, hP, hK⟩ := hv
  have C : CX p s m ([.ref (G.2.2 0)] : List Value).toArray meth c cX11_undo 1 wsX11_undo RX11 (some .boolean) G := ⟨B.exec, B.bytes, hml, findClass_of_methodNamed B.named, atoms_spec (ws := wsX11_undo) B.pre, B.returns, B.notSynchronized, hK, hG⟩
  obtain ⟨hx, hb, -, hown, hts, hr, hlocks, -, -⟩ := id C
  have hS : va_S (AW G) s.heap s.heap [] := va_S.rf
  have hl := lv_entry [.ref (G.2.2 0)] (n := 1) (Nat.le_of_ble_eq_true rfl)
  rw [lg_entry_eq]
  generalize (lg_sl [.ref (G.2.2 0)] ++ List.replicate (1 - (lg_sl [.ref (G.2.2 0)]).length) Slot.unset).toArray = ls at hl ⊢
  have hl : lv_has ls 1 [(0, .ref (G.2.2 0))] := hl
  unfold fn_X11_undo at h
  refine lv_aload_n hx hb dX11_undo_0 rfl (lv_at hl 0 rfl) ?_
  refine ge_11_8 hx hb hts in_X11_undo_X11 hown hK hP k_0 (hts _ (List.mem_of_getElem? (i := 1) rfl)) dX11_undo_1 ?_
  obtain ⟨r2, z3, h1, h⟩ := bd_s h
  refine x_Vi (Rz := (r2, z3)) (As := []) (rest := []) ⟨hx, hb, hml, hown, hts⟩ hK hP hS (kd_lt k_146 (by decide)) (cell_0 k_146) rfl (m_X0_takeBack hG   h1) (cwV 0 hts gX11_undo_X0_takeBack rfl rfl rfl (by decide +kernel) (rmd_ok (by decide) (by decide))) rfl hl.1 rfl (Nat.le_of_ble_eq_true rfl) dX11_undo_4 ⟨Nat.le_refl _, Nat.le_refl _⟩ (fun H locs hP hS => ?_)
  obtain ⟨g4, h⟩ := gd_s h
  exact x_zret hx hb hr hlocks hK hP hS g4 h dX11_undo_7
theorem in_X11_redo_X11 : ∀ w ∈ wsX110, w ∈ wsX11_redo := fun _ h => (List.mem_cons_of_mem _ (List.mem_append_left _ (List.mem_append_left _ (List.mem_append_left _ (List.mem_append_left _ (List.mem_append_left _ (List.mem_append_left _ (List.mem_append_right _ h))))))))
def fn_X11_redo  (z : St) : Option (Int32 × St) := bd (fn_X0_doAgain   z) (fun r2 z3 => gd (zok r2) (some (r2, z3)))
set_option maxHeartbeats 4000000 in
set_option maxRecDepth 100000 in
theorem m_X11_redo {l : Launch} {G : wG} (hG : Ok G)  {z : St} {Rz : Int32 × St}  (h : fn_X11_redo   z = some Rz) : Met l yX11_redo wsX11_redo (rmd 7) (va_Pc [.ref (G.2.2 0)] (Pre G z)) (va_Qi (fun r u => (r, u) = Rz) (Pre G) (AW G)) 0 0 (AW G) := by
  refine Met.ofW (cc := cX11_redo) (maxL := 1) (ret := (some .boolean)) (by decide) rfl ?_
  intro p e s m args below meth c s₁ B hml hv
  obtain ⟨rfl, hP, hK⟩ := hv
  have C : CX p s m ([.ref (G.2.2 0)] : List Value).toArray meth c cX11_redo 1 wsX11_redo RX11 (some .boolean) G := ⟨B.exec, B.bytes, hml, findClass_of_methodNamed B.named, atoms_spec (ws := wsX11_redo) B.pre, B.returns, B.notSynchronized, hK, hG⟩
  obtain ⟨hx, hb, -, hown, hts, hr, hlocks, -, -⟩ := id C
  have hS : va_S (AW G) s.heap s.heap [] := va_S.rf
  have hl := lv_entry [.ref (G.2.2 0)] (n := 1) (Nat.le_of_ble_eq_true rfl)
  rw [lg_entry_eq]
  generalize (lg_sl [.ref (G.2.2 0)] ++ List.replicate (1 - (lg_sl [.ref (G.2.2 0)]).length) Slot.unset).toArray = ls at hl ⊢
  have hl : lv_has ls 1 [(0, .ref (G.2.2 0))] := hl
  unfold fn_X11_redo at h
  refine lv_aload_n hx hb dX11_redo_0 rfl (lv_at hl 0 rfl) ?_
  refine ge_11_8 hx hb hts in_X11_redo_X11 hown hK hP k_0 (hts _ (List.mem_of_getElem? (i := 1) rfl)) dX11_redo_1 ?_
  obtain ⟨r2, z3, h1, h⟩ := bd_s h
  refine x_Vi (Rz := (r2, z3)) (As := []) (rest := []) ⟨hx, hb, hml, hown, hts⟩ hK hP hS (kd_lt k_146 (by decide)) (cell_0 k_146) rfl (m_X0_doAgain hG   h1) (cwV 0 hts gX11_redo_X0_doAgain rfl rfl rfl (by decide +kernel) (rmd_ok (by decide) (by decide))) rfl hl.1 rfl (Nat.le_of_ble_eq_true rfl) dX11_redo_4 ⟨Nat.le_refl _, Nat.le_refl _⟩ (fun H locs hP hS => ?_)
  obtain ⟨g4, h⟩ := gd_s h
  exact x_zret hx hb hr hlocks hK hP hS g4 h dX11_redo_7
theorem in_X11_feeds_X11 : ∀ w ∈ wsX110, w ∈ wsX11_feeds := fun _ h => (List.mem_cons_of_mem _ (List.mem_append_left _ (List.mem_append_left _ (List.mem_append_left _ (List.mem_append_left _ (List.mem_append_right _ h))))))
def fn_X11_feeds (v1 : Int32) (z : St) : Option (Int32 × St) := bd (fn_X7_isGuest  2 v1 z) (fun r2 z3 => (if r2 = 0 then some ((-1), z3) else bd (fn_X8_feeders  v1 z3) (fun r6 z7 => some (r6, z7))))
set_option maxHeartbeats 4000000 in
set_option maxRecDepth 100000 in
theorem m_X11_feeds {l : Launch} {G : wG} (hG : Ok G) {v1 : Int32} {z : St} {Rz : Int32 × St}  (h : fn_X11_feeds  v1 z = some Rz) : Met l yX11_feeds wsX11_feeds (rmd 4) (va_Pc [.ref (G.2.2 0), .int v1] (Pre G z)) (va_Qi (fun r u => (r, u) = Rz) (Pre G) (AW G)) 0 0 (AW G) := by
  refine Met.ofW (cc := cX11_feeds) (maxL := 2) (ret := (some .int)) (by decide) rfl ?_
  intro p e s m args below meth c s₁ B hml hv
  obtain ⟨rfl, hP, hK⟩ := hv
  have C : CX p s m ([.ref (G.2.2 0), .int v1] : List Value).toArray meth c cX11_feeds 2 wsX11_feeds RX11 (some .int) G := ⟨B.exec, B.bytes, hml, findClass_of_methodNamed B.named, atoms_spec (ws := wsX11_feeds) B.pre, B.returns, B.notSynchronized, hK, hG⟩
  obtain ⟨hx, hb, -, hown, hts, hr, hlocks, -, -⟩ := id C
  have hS : va_S (AW G) s.heap s.heap [] := va_S.rf
  have hl := lv_entry [.ref (G.2.2 0), .int v1] (n := 2) (Nat.le_of_ble_eq_true rfl)
  rw [lg_entry_eq]
  generalize (lg_sl [.ref (G.2.2 0), .int v1] ++ List.replicate (2 - (lg_sl [.ref (G.2.2 0), .int v1]).length) Slot.unset).toArray = ls at hl ⊢
  have hl : lv_has ls 2 [(0, .ref (G.2.2 0)), (1, .int v1)] := hl
  unfold fn_X11_feeds at h
  refine lv_aload_n hx hb dX11_feeds_0 rfl (lv_at hl 0 rfl) ?_
  refine ge_11_2 hx hb hts in_X11_feeds_X11 hown hK hP k_0 (hts _ (List.mem_of_getElem? (i := 1) rfl)) dX11_feeds_1 ?_
  refine lv_iload_n hx hb dX11_feeds_4 rfl (lv_at hl 1 rfl) ?_
  obtain ⟨r2, z3, h1, h⟩ := bd_s h
  refine x_Vi (Rz := (r2, z3)) (As := [.int v1]) (rest := []) ⟨hx, hb, hml, hown, hts⟩ hK hP hS (kd_lt k_2 (by decide)) (cell_7 k_2) rfl (m_X7_isGuest hG  k_2 h1) (cwV 1 hts gX11_feeds_X7_isGuest rfl rfl rfl (by decide +kernel) (rmd_ok (by decide) (by decide))) rfl hl.1 rfl (Nat.le_of_ble_eq_true rfl) dX11_feeds_5 ⟨Nat.le_refl _, Nat.le_refl _⟩ (fun H locs hP hS => ?_)
  refine lv_if_ne (tgt := 13) hx hb dX11_feeds_8 (by decide) (fun c4 => ?_) (fun c4 => ?_)
  · rw [if_neg c4] at h
    refine lv_aload_n hx hb dX11_feeds_13 rfl (lv_at hl 0 rfl) ?_
    refine ge_11_9 hx hb hts in_X11_feeds_X11 hown hK hP k_0 (hts _ (List.mem_of_getElem? (i := 2) rfl)) dX11_feeds_14 ?_
    refine lv_iload_n hx hb dX11_feeds_17 rfl (lv_at hl 1 rfl) ?_
    obtain ⟨r6, z7, h5, h⟩ := bd_s h
    refine x_Vi (Rz := (r6, z7)) (As := [.int v1]) (rest := []) ⟨hx, hb, hml, hown, hts⟩ hK hP hS (kd_lt k_153 (by decide)) (cell_8 k_153) rfl (m_X8_feeders hG   h5) (cwV 1 hts gX11_feeds_X8_feeders rfl rfl rfl (by decide +kernel) (rmd_ok (by decide) (by decide))) rfl hl.1 rfl (Nat.le_of_ble_eq_true rfl) dX11_feeds_18 ⟨Nat.le_refl _, Nat.le_refl _⟩ (fun H locs hP hS => ?_)
    exact x_iret hx hb hr hlocks hK hP hS h dX11_feeds_21
  · rw [if_pos c4] at h
    refine lv_iconst (v := (-1)) hx hb dX11_feeds_11 (by decide) ?_
    exact x_iret hx hb hr hlocks hK hP hS h dX11_feeds_12
theorem in_X11_served_X11 : ∀ w ∈ wsX110, w ∈ wsX11_served := fun _ h => (List.mem_cons_of_mem _ (List.mem_append_left _ (List.mem_append_left _ (List.mem_append_left _ (List.mem_append_left _ (List.mem_append_right _ h))))))
def fn_X11_served  (z : St) : Option (Int32 × St) := bd (fn_X8_servedIf  0 z) (fun r2 z3 => some (r2, z3))
set_option maxHeartbeats 4000000 in
set_option maxRecDepth 100000 in
theorem m_X11_served {l : Launch} {G : wG} (hG : Ok G)  {z : St} {Rz : Int32 × St}  (h : fn_X11_served   z = some Rz) : Met l yX11_served wsX11_served (rmd 5) (va_Pc [.ref (G.2.2 0)] (Pre G z)) (va_Qi (fun r u => (r, u) = Rz) (Pre G) (AW G)) 0 0 (AW G) := by
  refine Met.ofW (cc := cX11_served) (maxL := 1) (ret := (some .int)) (by decide) rfl ?_
  intro p e s m args below meth c s₁ B hml hv
  obtain ⟨rfl, hP, hK⟩ := hv
  have C : CX p s m ([.ref (G.2.2 0)] : List Value).toArray meth c cX11_served 1 wsX11_served RX11 (some .int) G := ⟨B.exec, B.bytes, hml, findClass_of_methodNamed B.named, atoms_spec (ws := wsX11_served) B.pre, B.returns, B.notSynchronized, hK, hG⟩
  obtain ⟨hx, hb, -, hown, hts, hr, hlocks, -, -⟩ := id C
  have hS : va_S (AW G) s.heap s.heap [] := va_S.rf
  have hl := lv_entry [.ref (G.2.2 0)] (n := 1) (Nat.le_of_ble_eq_true rfl)
  rw [lg_entry_eq]
  generalize (lg_sl [.ref (G.2.2 0)] ++ List.replicate (1 - (lg_sl [.ref (G.2.2 0)]).length) Slot.unset).toArray = ls at hl ⊢
  have hl : lv_has ls 1 [(0, .ref (G.2.2 0))] := hl
  unfold fn_X11_served at h
  refine lv_aload_n hx hb dX11_served_0 rfl (lv_at hl 0 rfl) ?_
  refine ge_11_9 hx hb hts in_X11_served_X11 hown hK hP k_0 (hts _ (List.mem_of_getElem? (i := 1) rfl)) dX11_served_1 ?_
  refine lv_iconst (v := 0) hx hb dX11_served_4 (by decide) ?_
  obtain ⟨r2, z3, h1, h⟩ := bd_s h
  refine x_Vi (Rz := (r2, z3)) (As := [.int 0]) (rest := []) ⟨hx, hb, hml, hown, hts⟩ hK hP hS (kd_lt k_153 (by decide)) (cell_8 k_153) rfl (m_X8_servedIf hG   h1) (cwV 1 hts gX11_served_X8_servedIf rfl rfl rfl (by decide +kernel) (rmd_ok (by decide) (by decide))) rfl hl.1 rfl (Nat.le_of_ble_eq_true rfl) dX11_served_5 ⟨Nat.le_refl _, Nat.le_refl _⟩ (fun H locs hP hS => ?_)
  exact x_iret hx hb hr hlocks hK hP hS h dX11_served_8
theorem in_X11_next_X8 : ∀ w ∈ wsX80, w ∈ wsX11_next := fun _ h => (List.mem_cons_of_mem _ (List.mem_append_left _ (List.mem_append_left _ (List.mem_append_right _ h))))
theorem in_X11_next_X11 : ∀ w ∈ wsX110, w ∈ wsX11_next := fun _ h => (List.mem_cons_of_mem _ (List.mem_append_left _ (List.mem_append_left _ (List.mem_append_left _ (List.mem_append_left _ (List.mem_append_right _ h))))))
theorem in_X11_next_X1 : ∀ w ∈ wsX10, w ∈ wsX11_next := fun _ h => (List.mem_cons_of_mem _ (List.mem_append_left _ (List.mem_append_left _ (List.mem_append_left _ (List.mem_append_right _ h)))))
def fn_X11_next (v1 : Int32) (z : St) : Option (Int32 × St) := (if 24 ≤ (z.1 34 2) then some ((-1), z) else bd (fn_X8_findCut   z) (fun r3 z4 => (if r3 = 0 then some ((-1), z4) else (if v1 = 0 then some ((z4.1 153 5), z4) else (if v1 = 1 then some ((z4.1 153 6), z4) else (if v1 = 2 then some ((z4.1 153 7), z4) else (if v1 = 3 then some ((z4.1 153 8), z4) else (some ((-1), z4)))))))))
set_option maxHeartbeats 4000000 in
set_option maxRecDepth 100000 in
theorem m_X11_next {l : Launch} {G : wG} (hG : Ok G) {v1 : Int32} {z : St} {Rz : Int32 × St}  (h : fn_X11_next  v1 z = some Rz) : Met l yX11_next wsX11_next (rmd 5) (va_Pc [.ref (G.2.2 0), .int v1] (Pre G z)) (va_Qi (fun r u => (r, u) = Rz) (Pre G) (AW G)) 0 0 (AW G) := by
  refine Met.ofW (cc := cX11_next) (maxL := 2) (ret := (some .int)) (by decide) rfl ?_
  intro p e s m args below meth c s₁ B hml hv
  obtain ⟨rfl, hP, hK⟩ := hv
  have C : CX p s m ([.ref (G.2.2 0), .int v1] : List Value).toArray meth c cX11_next 2 wsX11_next RX11 (some .int) G := ⟨B.exec, B.bytes, hml, findClass_of_methodNamed B.named, atoms_spec (ws := wsX11_next) B.pre, B.returns, B.notSynchronized, hK, hG⟩
  obtain ⟨hx, hb, -, hown, hts, hr, hlocks, -, -⟩ := id C
  have hS : va_S (AW G) s.heap s.heap [] := va_S.rf
  have hl := lv_entry [.ref (G.2.2 0), .int v1] (n := 2) (Nat.le_of_ble_eq_true rfl)
  rw [lg_entry_eq]
  generalize (lg_sl [.ref (G.2.2 0), .int v1] ++ List.replicate (2 - (lg_sl [.ref (G.2.2 0), .int v1]).length) Slot.unset).toArray = ls at hl ⊢
  have hl : lv_has ls 2 [(0, .ref (G.2.2 0)), (1, .int v1)] := hl
  unfold fn_X11_next at h
  refine lv_aload_n hx hb dX11_next_0 rfl (lv_at hl 0 rfl) ?_
  refine ge_11_5 hx hb hts in_X11_next_X11 hown hK hP k_0 (hts _ (List.mem_of_getElem? (i := 1) rfl)) dX11_next_1 ?_
  refine ge_1_2 hx hb hts in_X11_next_X1 hown hK hP k_34 (hts _ (List.mem_of_getElem? (i := 2) rfl)) dX11_next_4 ?_
  refine lv_bipush (v := 24) hx hb dX11_next_7 (by decide) ?_
  refine lv_icmp_ge (tgt := 22) hx hb dX11_next_9 (by decide) (fun c1 => ?_) (fun c1 => ?_)
  · rw [if_pos c1] at h
    refine lv_iconst (v := (-1)) hx hb dX11_next_22 (by decide) ?_
    exact x_iret hx hb hr hlocks hK hP hS h dX11_next_23
  · rw [if_neg c1] at h
    refine lv_aload_n hx hb dX11_next_12 rfl (lv_at hl 0 rfl) ?_
    refine ge_11_9 hx hb hts in_X11_next_X11 hown hK hP k_0 (hts _ (List.mem_of_getElem? (i := 3) rfl)) dX11_next_13 ?_
    obtain ⟨r3, z4, h2, h⟩ := bd_s h
    refine x_Vi (Rz := (r3, z4)) (As := []) (rest := []) ⟨hx, hb, hml, hown, hts⟩ hK hP hS (kd_lt k_153 (by decide)) (cell_8 k_153) rfl (m_X8_findCut hG   h2) (cwV 0 hts gX11_next_X8_findCut rfl rfl rfl (by decide +kernel) (rmd_ok (by decide) (by decide))) rfl hl.1 rfl (Nat.le_of_ble_eq_true rfl) dX11_next_16 ⟨Nat.le_refl _, Nat.le_refl _⟩ (fun H locs hP hS => ?_)
    refine lv_if_ne (tgt := 24) hx hb dX11_next_19 (by decide) (fun c5 => ?_) (fun c5 => ?_)
    · rw [if_neg c5] at h
      refine lv_iload_n hx hb dX11_next_24 rfl (lv_at hl 1 rfl) ?_
      by_cases c6 : v1 = 0
      · rw [if_pos c6] at h
        refine lv_tableIn (off := 31) (tgt := 56) hx hb dX11_next_25 (by rw [c6]; decide) (by rw [c6]; decide) (by rw [c6]; rfl) (by decide) ?_
        refine lv_aload_n hx hb dX11_next_56 rfl (lv_at hl 0 rfl) ?_
        refine ge_11_9 hx hb hts in_X11_next_X11 hown hK hP k_0 (hts _ (List.mem_of_getElem? (i := 3) rfl)) dX11_next_57 ?_
        refine ge_8_5 hx hb hts in_X11_next_X8 hown hK hP k_153 (hts _ (List.mem_of_getElem? (i := 4) rfl)) dX11_next_60 ?_
        exact x_iret hx hb hr hlocks hK hP hS h dX11_next_63
      rw [if_neg c6] at h
      by_cases c7 : v1 = 1
      · rw [if_pos c7] at h
        refine lv_tableIn (off := 39) (tgt := 64) hx hb dX11_next_25 (by rw [c7]; decide) (by rw [c7]; decide) (by rw [c7]; rfl) (by decide) ?_
        refine lv_aload_n hx hb dX11_next_64 rfl (lv_at hl 0 rfl) ?_
        refine ge_11_9 hx hb hts in_X11_next_X11 hown hK hP k_0 (hts _ (List.mem_of_getElem? (i := 3) rfl)) dX11_next_65 ?_
        refine ge_8_6 hx hb hts in_X11_next_X8 hown hK hP k_153 (hts _ (List.mem_of_getElem? (i := 5) rfl)) dX11_next_68 ?_
        exact x_iret hx hb hr hlocks hK hP hS h dX11_next_71
      rw [if_neg c7] at h
      by_cases c8 : v1 = 2
      · rw [if_pos c8] at h
        refine lv_tableIn (off := 47) (tgt := 72) hx hb dX11_next_25 (by rw [c8]; decide) (by rw [c8]; decide) (by rw [c8]; rfl) (by decide) ?_
        refine lv_aload_n hx hb dX11_next_72 rfl (lv_at hl 0 rfl) ?_
        refine ge_11_9 hx hb hts in_X11_next_X11 hown hK hP k_0 (hts _ (List.mem_of_getElem? (i := 3) rfl)) dX11_next_73 ?_
        refine ge_8_7 hx hb hts in_X11_next_X8 hown hK hP k_153 (hts _ (List.mem_of_getElem? (i := 6) rfl)) dX11_next_76 ?_
        exact x_iret hx hb hr hlocks hK hP hS h dX11_next_79
      rw [if_neg c8] at h
      by_cases c9 : v1 = 3
      · rw [if_pos c9] at h
        refine lv_tableIn (off := 55) (tgt := 80) hx hb dX11_next_25 (by rw [c9]; decide) (by rw [c9]; decide) (by rw [c9]; rfl) (by decide) ?_
        refine lv_aload_n hx hb dX11_next_80 rfl (lv_at hl 0 rfl) ?_
        refine ge_11_9 hx hb hts in_X11_next_X11 hown hK hP k_0 (hts _ (List.mem_of_getElem? (i := 3) rfl)) dX11_next_81 ?_
        refine ge_8_8 hx hb hts in_X11_next_X8 hown hK hP k_153 (hts _ (List.mem_of_getElem? (i := 7) rfl)) dX11_next_84 ?_
        exact x_iret hx hb hr hlocks hK hP hS h dX11_next_87
      rw [if_neg c9] at h
      have n10 : (v1 : Int32).toInt < 0 ∨ 3 < (v1 : Int32).toInt := by
        have c6_n := lv_neT (a := 0) c6 (by decide)
        have c7_n := lv_neT (a := 1) c7 (by decide)
        have c8_n := lv_neT (a := 2) c8 (by decide)
        have c9_n := lv_neT (a := 3) c9 (by decide)
        omega
      refine lv_tableOut (tgt := 88) hx hb dX11_next_25 n10 (by decide) ?_
      refine lv_iconst (v := (-1)) hx hb dX11_next_88 (by decide) ?_
      exact x_iret hx hb hr hlocks hK hP hS h dX11_next_89
    · rw [if_pos c5] at h
      refine lv_iconst (v := (-1)) hx hb dX11_next_22 (by decide) ?_
      exact x_iret hx hb hr hlocks hK hP hS h dX11_next_23
theorem in_X11_room_X11 : ∀ w ∈ wsX110, w ∈ wsX11_room := fun _ h => (List.mem_cons_of_mem _ (List.mem_append_left _ (List.mem_append_left _ (List.mem_append_left _ (List.mem_append_left _ (List.mem_append_right _ h))))))
theorem in_X11_room_X1 : ∀ w ∈ wsX10, w ∈ wsX11_room := fun _ h => (List.mem_cons_of_mem _ (List.mem_append_left _ (List.mem_append_left _ (List.mem_append_left _ (List.mem_append_right _ h)))))
def fn_X11_room (v1 : Int32) (z : St) : Option (Int32 × St) := bd (fn_X7_isGuest  2 v1 z) (fun r2 z3 => (if r2 = 0 then some ((-1), z3) else gd (ix v1 6) ((if (z3.1 60 (Int32.toNatClampNeg v1)) = (-1) then bd (fn_X8_roomOf  v1 z3) (fun r8 z9 => some (r8, z9)) else some ((-1), z3)))))
set_option maxHeartbeats 4000000 in
set_option maxRecDepth 100000 in
theorem m_X11_room {l : Launch} {G : wG} (hG : Ok G) {v1 : Int32} {z : St} {Rz : Int32 × St}  (h : fn_X11_room  v1 z = some Rz) : Met l yX11_room wsX11_room (rmd 6) (va_Pc [.ref (G.2.2 0), .int v1] (Pre G z)) (va_Qi (fun r u => (r, u) = Rz) (Pre G) (AW G)) 0 0 (AW G) := by
  refine Met.ofW (cc := cX11_room) (maxL := 2) (ret := (some .int)) (by decide) rfl ?_
  intro p e s m args below meth c s₁ B hml hv
  obtain ⟨rfl, hP, hK⟩ := hv
  have C : CX p s m ([.ref (G.2.2 0), .int v1] : List Value).toArray meth c cX11_room 2 wsX11_room RX11 (some .int) G := ⟨B.exec, B.bytes, hml, findClass_of_methodNamed B.named, atoms_spec (ws := wsX11_room) B.pre, B.returns, B.notSynchronized, hK, hG⟩
  obtain ⟨hx, hb, -, hown, hts, hr, hlocks, -, -⟩ := id C
  have hS : va_S (AW G) s.heap s.heap [] := va_S.rf
  have hl := lv_entry [.ref (G.2.2 0), .int v1] (n := 2) (Nat.le_of_ble_eq_true rfl)
  rw [lg_entry_eq]
  generalize (lg_sl [.ref (G.2.2 0), .int v1] ++ List.replicate (2 - (lg_sl [.ref (G.2.2 0), .int v1]).length) Slot.unset).toArray = ls at hl ⊢
  have hl : lv_has ls 2 [(0, .ref (G.2.2 0)), (1, .int v1)] := hl
  unfold fn_X11_room at h
  refine lv_aload_n hx hb dX11_room_0 rfl (lv_at hl 0 rfl) ?_
  refine ge_11_2 hx hb hts in_X11_room_X11 hown hK hP k_0 (hts _ (List.mem_of_getElem? (i := 1) rfl)) dX11_room_1 ?_
  refine lv_iload_n hx hb dX11_room_4 rfl (lv_at hl 1 rfl) ?_
  obtain ⟨r2, z3, h1, h⟩ := bd_s h
  refine x_Vi (Rz := (r2, z3)) (As := [.int v1]) (rest := []) ⟨hx, hb, hml, hown, hts⟩ hK hP hS (kd_lt k_2 (by decide)) (cell_7 k_2) rfl (m_X7_isGuest hG  k_2 h1) (cwV 1 hts gX11_room_X7_isGuest rfl rfl rfl (by decide +kernel) (rmd_ok (by decide) (by decide))) rfl hl.1 rfl (Nat.le_of_ble_eq_true rfl) dX11_room_5 ⟨Nat.le_refl _, Nat.le_refl _⟩ (fun H locs hP hS => ?_)
  refine lv_if_eq (tgt := 24) hx hb dX11_room_8 (by decide) (fun c4 => ?_) (fun c4 => ?_)
  · rw [if_pos c4] at h
    refine lv_iconst (v := (-1)) hx hb dX11_room_24 (by decide) ?_
    exact x_iret hx hb hr hlocks hK hP hS h dX11_room_25
  · rw [if_neg c4] at h
    refine lv_aload_n hx hb dX11_room_11 rfl (lv_at hl 0 rfl) ?_
    refine ge_11_5 hx hb hts in_X11_room_X11 hown hK hP k_0 (hts _ (List.mem_of_getElem? (i := 2) rfl)) dX11_room_12 ?_
    refine ge_1_1 hx hb hts in_X11_room_X1 hown hK hP k_34 (hts _ (List.mem_of_getElem? (i := 3) rfl)) dX11_room_15 ?_
    refine lv_iload_n hx hb dX11_room_18 rfl (lv_at hl 1 rfl) ?_
    obtain ⟨g5, h⟩ := gd_s h
    refine xl_14 hx hb hK hP k_60 l_60 (ix_in g5) dX11_room_19 ?_
    refine lv_iconst (v := (-1)) hx hb dX11_room_20 (by decide) ?_
    refine lv_icmp_eq (tgt := 26) hx hb dX11_room_21 (by decide) (fun c6 => ?_) (fun c6 => ?_)
    · rw [if_pos c6] at h
      refine lv_aload_n hx hb dX11_room_26 rfl (lv_at hl 0 rfl) ?_
      refine ge_11_9 hx hb hts in_X11_room_X11 hown hK hP k_0 (hts _ (List.mem_of_getElem? (i := 4) rfl)) dX11_room_27 ?_
      refine lv_iload_n hx hb dX11_room_30 rfl (lv_at hl 1 rfl) ?_
      obtain ⟨r8, z9, h7, h⟩ := bd_s h
      refine x_Vi (Rz := (r8, z9)) (As := [.int v1]) (rest := []) ⟨hx, hb, hml, hown, hts⟩ hK hP hS (kd_lt k_153 (by decide)) (cell_8 k_153) rfl (m_X8_roomOf hG   h7) (cwV 1 hts gX11_room_X8_roomOf rfl rfl rfl (by decide +kernel) (rmd_ok (by decide) (by decide))) rfl hl.1 rfl (Nat.le_of_ble_eq_true rfl) dX11_room_31 ⟨Nat.le_refl _, Nat.le_refl _⟩ (fun H locs hP hS => ?_)
      exact x_iret hx hb hr hlocks hK hP hS h dX11_room_34
    · rw [if_neg c6] at h
      refine lv_iconst (v := (-1)) hx hb dX11_room_24 (by decide) ?_
      exact x_iret hx hb hr hlocks hK hP hS h dX11_room_25
theorem in_X11_hungry_X7 : ∀ w ∈ wsX70, w ∈ wsX11_hungry := fun _ h => (List.mem_cons_of_mem _ (List.mem_append_left _ (List.mem_append_left _ (List.mem_append_left _ (List.mem_append_right _ h)))))
theorem in_X11_hungry_X11 : ∀ w ∈ wsX110, w ∈ wsX11_hungry := fun _ h => (List.mem_cons_of_mem _ (List.mem_append_left _ (List.mem_append_left _ (List.mem_append_left _ (List.mem_append_left _ (List.mem_append_right _ h))))))
theorem in_X11_hungry_X1 : ∀ w ∈ wsX10, w ∈ wsX11_hungry := fun _ h => (List.mem_cons_of_mem _ (List.mem_append_left _ (List.mem_append_left _ (List.mem_append_right _ h))))
def fn_X11_hungry_45 (k4 : Int32 → Int32 → St → Option (Int32 × St)) (v1 : Int32) (v2 : Int32) (z : St) : Option (Int32 × St) := k4 v1 (v2 + 1) z
set_option maxHeartbeats 4000000 in
set_option maxRecDepth 100000 in
theorem pf_X11_hungry_45 {p : Program} {l : Launch} {e : Env} {s : State} {m : MethodId} {args : Array Value} {below : List Frame} {meth : Method} {c : Code} {G : wG} (C : CX p s m args meth c cX11_hungry 3 wsX11_hungry RX11 (some .int) G) {Rz : Int32 × St} {k4 : Int32 → Int32 → St → Option (Int32 × St)} (hk_4 : ∀ (v1 : Int32) (v2 : Int32) (z : St)  (H : Heap) (locs : List Loc) (ls : Array Slot), WP G z H → va_S (AW G) s.heap H locs → lv_has ls 3 [(0, .ref (G.2.2 0)), (1, .int v1), (2, .int v2)] → k4 v1 v2 z = some Rz → W p l e (rmd 4) s m args below meth c H locs 0 0 (QI below args s G Rz) (F0 m 4 ls [])) (v1 : Int32) (v2 : Int32) (z : St)  {H : Heap} {locs : List Loc} {ls : Array Slot} (hP : WP G z H) (hS : va_S (AW G) s.heap H locs) (hl : lv_has ls 3 [(0, .ref (G.2.2 0)), (1, .int v1), (2, .int v2)]) (h : fn_X11_hungry_45  k4 v1 v2 z = some Rz) : W p l e (rmd 4) s m args below meth c H locs 0 0 (QI below args s G Rz) (F0 m 45 ls []) := by
  obtain ⟨hx, hb, hml, hown, hts, hr, hlocks, hK, hG⟩ := id C
  unfold fn_X11_hungry_45 at h
  refine lv_iinc (v := (v2 + 1)) (lv' := [(2, .int (v2 + 1)), (0, .ref (G.2.2 0)), (1, .int v1)]) hx hb dX11_hungry_45 hl (k := 2) rfl rfl (by decide) rfl (fun ls hl => ?_)
  refine lv_goto (tgt := 4) hx hb dX11_hungry_48 (by decide) ?_
  exact hk_4 v1 (v2 + 1) z  _ _ _ hP hS (lv_sub hl [1, 2, 0] rfl) h
def fn_X11_hungry_4 : Nat → Int32 → Int32 → St → Option (Int32 × St)
  | 0, _, _, _ => none
  | n + 1, v1, v2, z => (if (z.1 2 5) ≤ v2 then some (v1, z) else gd (ix v2 6) ((if (z.1 60 (Int32.toNatClampNeg v2)) = (-1) then bd (fn_X8_feeders  v2 z) (fun r5 z6 => (if r5 = 0 then nm (v1 ||| (1 <<< (v2 &&& 31))) (fun v1_8 => fn_X11_hungry_45  (fn_X11_hungry_4   n) v1_8 v2 z6) else fn_X11_hungry_45  (fn_X11_hungry_4   n) v1 v2 z6)) else fn_X11_hungry_45  (fn_X11_hungry_4   n) v1 v2 z)))
set_option maxHeartbeats 4000000 in
set_option maxRecDepth 100000 in
theorem pf_X11_hungry_4 {p : Program} {l : Launch} {e : Env} {s : State} {m : MethodId} {args : Array Value} {below : List Frame} {meth : Method} {c : Code} {G : wG} (C : CX p s m args meth c cX11_hungry 3 wsX11_hungry RX11 (some .int) G) {Rz : Int32 × St} : ∀ (n : Nat) (v1 : Int32) (v2 : Int32) (z : St)  (H : Heap) (locs : List Loc) (ls : Array Slot), WP G z H → va_S (AW G) s.heap H locs → lv_has ls 3 [(0, .ref (G.2.2 0)), (1, .int v1), (2, .int v2)] → fn_X11_hungry_4   n v1 v2 z = some Rz → W p l e (rmd 4) s m args below meth c H locs 0 0 (QI below args s G Rz) (F0 m 4 ls []) := by
  obtain ⟨hx, hb, hml, hown, hts, hr, hlocks, hK, hG⟩ := id C
  intro n
  induction n with
  | zero => intro v1 v2 z  H locs ls hP hS hl h; cases h
  | succ n ih =>
    intro v1 v2 z  H locs ls hP hS hl h
    rw [fn_X11_hungry_4] at h
    refine lv_iload_n hx hb dX11_hungry_4 rfl (lv_at hl 2 rfl) ?_
    refine lv_aload_n hx hb dX11_hungry_5 rfl (lv_at hl 0 rfl) ?_
    refine ge_11_2 hx hb hts in_X11_hungry_X11 hown hK hP k_0 (hts _ (List.mem_of_getElem? (i := 1) rfl)) dX11_hungry_6 ?_
    refine ge_7_5 hx hb hts in_X11_hungry_X7 hown hK hP k_2 (hts _ (List.mem_of_getElem? (i := 2) rfl)) dX11_hungry_9 ?_
    refine lv_icmp_ge (tgt := 51) hx hb dX11_hungry_12 (by decide) (fun c1 => ?_) (fun c1 => ?_)
    · rw [if_pos c1] at h
      refine lv_iload_n hx hb dX11_hungry_51 rfl (lv_at hl 1 rfl) ?_
      exact x_iret hx hb hr hlocks hK hP hS h dX11_hungry_52
    · rw [if_neg c1] at h
      refine lv_aload_n hx hb dX11_hungry_15 rfl (lv_at hl 0 rfl) ?_
      refine ge_11_5 hx hb hts in_X11_hungry_X11 hown hK hP k_0 (hts _ (List.mem_of_getElem? (i := 3) rfl)) dX11_hungry_16 ?_
      refine ge_1_1 hx hb hts in_X11_hungry_X1 hown hK hP k_34 (hts _ (List.mem_of_getElem? (i := 4) rfl)) dX11_hungry_19 ?_
      refine lv_iload_n hx hb dX11_hungry_22 rfl (lv_at hl 2 rfl) ?_
      obtain ⟨g2, h⟩ := gd_s h
      refine xl_14 hx hb hK hP k_60 l_60 (ix_in g2) dX11_hungry_23 ?_
      refine lv_iconst (v := (-1)) hx hb dX11_hungry_24 (by decide) ?_
      refine lv_icmp_ne (tgt := 45) hx hb dX11_hungry_25 (by decide) (fun c3 => ?_) (fun c3 => ?_)
      · rw [if_neg c3] at h
        exact pf_X11_hungry_45 C  ih v1 v2 z  hP hS (lv_sub hl [0, 1, 2] rfl) h
      · rw [if_pos c3] at h
        refine lv_aload_n hx hb dX11_hungry_28 rfl (lv_at hl 0 rfl) ?_
        refine ge_11_9 hx hb hts in_X11_hungry_X11 hown hK hP k_0 (hts _ (List.mem_of_getElem? (i := 5) rfl)) dX11_hungry_29 ?_
        refine lv_iload_n hx hb dX11_hungry_32 rfl (lv_at hl 2 rfl) ?_
        obtain ⟨r5, z6, h4, h⟩ := bd_s h
        refine x_Vi (Rz := (r5, z6)) (As := [.int v2]) (rest := []) ⟨hx, hb, hml, hown, hts⟩ hK hP hS (kd_lt k_153 (by decide)) (cell_8 k_153) rfl (m_X8_feeders hG   h4) (cwV 1 hts gX11_hungry_X8_feeders rfl rfl rfl (by decide +kernel) (rmd_ok (by decide) (by decide))) rfl hl.1 rfl (Nat.le_of_ble_eq_true rfl) dX11_hungry_33 ⟨Nat.le_refl _, Nat.le_refl _⟩ (fun H locs hP hS => ?_)
        refine lv_if_ne (tgt := 45) hx hb dX11_hungry_36 (by decide) (fun c7 => ?_) (fun c7 => ?_)
        · rw [if_neg c7] at h
          exact pf_X11_hungry_45 C  ih v1 v2 z6  hP hS (lv_sub hl [0, 1, 2] rfl) h
        · rw [if_pos c7] at h
          refine lv_iload_n hx hb dX11_hungry_39 rfl (lv_at hl 1 rfl) ?_
          refine lv_iconst (v := 1) hx hb dX11_hungry_40 (by decide) ?_
          refine lv_iload_n hx hb dX11_hungry_41 rfl (lv_at hl 2 rfl) ?_
          refine lv_ishl hx hb dX11_hungry_42 ?_
          refine lv_ior hx hb dX11_hungry_43 ?_
          obtain ⟨v1_8, e_v1_8, h⟩ := nm_s h
          refine x_top e_v1_8 ?_
          refine lv_istore_n (lv' := [(1, .int v1_8), (0, .ref (G.2.2 0)), (2, .int v2)]) hx hb dX11_hungry_44 rfl hl (by decide) rfl (fun ls hl => ?_)
          exact pf_X11_hungry_45 C  ih v1_8 v2 z6  hP hS (lv_sub hl [1, 0, 2] rfl) h
def fn_X11_hungry  (z : St) : Option (Int32 × St) := fn_X11_hungry_4   fu 0 0 z
set_option maxHeartbeats 4000000 in
set_option maxRecDepth 100000 in
theorem m_X11_hungry {l : Launch} {G : wG} (hG : Ok G)  {z : St} {Rz : Int32 × St}  (h : fn_X11_hungry   z = some Rz) : Met l yX11_hungry wsX11_hungry (rmd 4) (va_Pc [.ref (G.2.2 0)] (Pre G z)) (va_Qi (fun r u => (r, u) = Rz) (Pre G) (AW G)) 0 0 (AW G) := by
  refine Met.ofW (cc := cX11_hungry) (maxL := 3) (ret := (some .int)) (by decide) rfl ?_
  intro p e s m args below meth c s₁ B hml hv
  obtain ⟨rfl, hP, hK⟩ := hv
  have C : CX p s m ([.ref (G.2.2 0)] : List Value).toArray meth c cX11_hungry 3 wsX11_hungry RX11 (some .int) G := ⟨B.exec, B.bytes, hml, findClass_of_methodNamed B.named, atoms_spec (ws := wsX11_hungry) B.pre, B.returns, B.notSynchronized, hK, hG⟩
  obtain ⟨hx, hb, -, hown, hts, hr, hlocks, -, -⟩ := id C
  have hS : va_S (AW G) s.heap s.heap [] := va_S.rf
  have hl := lv_entry [.ref (G.2.2 0)] (n := 3) (Nat.le_of_ble_eq_true rfl)
  rw [lg_entry_eq]
  generalize (lg_sl [.ref (G.2.2 0)] ++ List.replicate (3 - (lg_sl [.ref (G.2.2 0)]).length) Slot.unset).toArray = ls at hl ⊢
  have hl : lv_has ls 3 [(0, .ref (G.2.2 0))] := hl
  unfold fn_X11_hungry at h
  refine lv_iconst (v := 0) hx hb dX11_hungry_0 (by decide) ?_
  refine lv_istore_n (lv' := [(1, .int 0), (0, .ref (G.2.2 0))]) hx hb dX11_hungry_1 rfl hl (by decide) rfl (fun ls hl => ?_)
  refine lv_iconst (v := 0) hx hb dX11_hungry_2 (by decide) ?_
  refine lv_istore_n (lv' := [(2, .int 0), (1, .int 0), (0, .ref (G.2.2 0))]) hx hb dX11_hungry_3 rfl hl (by decide) rfl (fun ls hl => ?_)
  exact pf_X11_hungry_4 C   fu 0 0 z  _ _ _ hP hS (lv_sub hl [2, 1, 0] rfl) h
theorem in_X11_law_X11 : ∀ w ∈ wsX110, w ∈ wsX11_law := fun _ h => (List.mem_cons_of_mem _ (List.mem_append_left _ (List.mem_append_left _ (List.mem_append_left _ (List.mem_append_left _ (List.mem_append_right _ h))))))
def fn_X11_law (v1 : Int32) (z : St) : Option (Int32 × St) := (if v1 < (-99) then some ((-1), z) else (if v1 ≤ 99 then bd (fn_X8_servedIf  v1 z) (fun r4 z5 => some (r4, z5)) else some ((-1), z)))
set_option maxHeartbeats 4000000 in
set_option maxRecDepth 100000 in
theorem m_X11_law {l : Launch} {G : wG} (hG : Ok G) {v1 : Int32} {z : St} {Rz : Int32 × St}  (h : fn_X11_law  v1 z = some Rz) : Met l yX11_law wsX11_law (rmd 5) (va_Pc [.ref (G.2.2 0), .int v1] (Pre G z)) (va_Qi (fun r u => (r, u) = Rz) (Pre G) (AW G)) 0 0 (AW G) := by
  refine Met.ofW (cc := cX11_law) (maxL := 2) (ret := (some .int)) (by decide) rfl ?_
  intro p e s m args below meth c s₁ B hml hv
  obtain ⟨rfl, hP, hK⟩ := hv
  have C : CX p s m ([.ref (G.2.2 0), .int v1] : List Value).toArray meth c cX11_law 2 wsX11_law RX11 (some .int) G := ⟨B.exec, B.bytes, hml, findClass_of_methodNamed B.named, atoms_spec (ws := wsX11_law) B.pre, B.returns, B.notSynchronized, hK, hG⟩
  obtain ⟨hx, hb, -, hown, hts, hr, hlocks, -, -⟩ := id C
  have hS : va_S (AW G) s.heap s.heap [] := va_S.rf
  have hl := lv_entry [.ref (G.2.2 0), .int v1] (n := 2) (Nat.le_of_ble_eq_true rfl)
  rw [lg_entry_eq]
  generalize (lg_sl [.ref (G.2.2 0), .int v1] ++ List.replicate (2 - (lg_sl [.ref (G.2.2 0), .int v1]).length) Slot.unset).toArray = ls at hl ⊢
  have hl : lv_has ls 2 [(0, .ref (G.2.2 0)), (1, .int v1)] := hl
  unfold fn_X11_law at h
  refine lv_iload_n hx hb dX11_law_0 rfl (lv_at hl 1 rfl) ?_
  refine lv_bipush (v := (-99)) hx hb dX11_law_1 (by decide) ?_
  refine lv_icmp_lt (tgt := 12) hx hb dX11_law_3 (by decide) (fun c1 => ?_) (fun c1 => ?_)
  · rw [if_pos c1] at h
    refine lv_iconst (v := (-1)) hx hb dX11_law_12 (by decide) ?_
    exact x_iret hx hb hr hlocks hK hP hS h dX11_law_13
  · rw [if_neg c1] at h
    refine lv_iload_n hx hb dX11_law_6 rfl (lv_at hl 1 rfl) ?_
    refine lv_bipush (v := 99) hx hb dX11_law_7 (by decide) ?_
    refine lv_icmp_le (tgt := 14) hx hb dX11_law_9 (by decide) (fun c2 => ?_) (fun c2 => ?_)
    · rw [if_pos c2] at h
      refine lv_aload_n hx hb dX11_law_14 rfl (lv_at hl 0 rfl) ?_
      refine ge_11_9 hx hb hts in_X11_law_X11 hown hK hP k_0 (hts _ (List.mem_of_getElem? (i := 1) rfl)) dX11_law_15 ?_
      refine lv_iload_n hx hb dX11_law_18 rfl (lv_at hl 1 rfl) ?_
      obtain ⟨r4, z5, h3, h⟩ := bd_s h
      refine x_Vi (Rz := (r4, z5)) (As := [.int v1]) (rest := []) ⟨hx, hb, hml, hown, hts⟩ hK hP hS (kd_lt k_153 (by decide)) (cell_8 k_153) rfl (m_X8_servedIf hG   h3) (cwV 1 hts gX11_law_X8_servedIf rfl rfl rfl (by decide +kernel) (rmd_ok (by decide) (by decide))) rfl hl.1 rfl (Nat.le_of_ble_eq_true rfl) dX11_law_19 ⟨Nat.le_refl _, Nat.le_refl _⟩ (fun H locs hP hS => ?_)
      exact x_iret hx hb hr hlocks hK hP hS h dX11_law_22
    · rw [if_neg c2] at h
      refine lv_iconst (v := (-1)) hx hb dX11_law_12 (by decide) ?_
      exact x_iret hx hb hr hlocks hK hP hS h dX11_law_13
theorem in_X11_envies_X11 : ∀ w ∈ wsX110, w ∈ wsX11_envies := fun _ h => (List.mem_cons_of_mem _ (List.mem_append_left _ (List.mem_append_left _ (List.mem_append_left _ (List.mem_append_left _ (List.mem_append_left _ (List.mem_append_right _ h)))))))
def fn_X11_envies (v1 : Int32) (z : St) : Option (Int32 × St) := bd (fn_X7_isGuest  2 v1 z) (fun r2 z3 => (if r2 = 0 then some ((-1), z3) else bd (fn_X10_enviedBy  v1 z3) (fun r6 z7 => some (r6, z7))))
set_option maxHeartbeats 4000000 in
set_option maxRecDepth 100000 in
theorem m_X11_envies {l : Launch} {G : wG} (hG : Ok G) {v1 : Int32} {z : St} {Rz : Int32 × St}  (h : fn_X11_envies  v1 z = some Rz) : Met l yX11_envies wsX11_envies (rmd 7) (va_Pc [.ref (G.2.2 0), .int v1] (Pre G z)) (va_Qi (fun r u => (r, u) = Rz) (Pre G) (AW G)) 0 0 (AW G) := by
  refine Met.ofW (cc := cX11_envies) (maxL := 2) (ret := (some .int)) (by decide) rfl ?_
  intro p e s m args below meth c s₁ B hml hv
  obtain ⟨rfl, hP, hK⟩ := hv
  have C : CX p s m ([.ref (G.2.2 0), .int v1] : List Value).toArray meth c cX11_envies 2 wsX11_envies RX11 (some .int) G := ⟨B.exec, B.bytes, hml, findClass_of_methodNamed B.named, atoms_spec (ws := wsX11_envies) B.pre, B.returns, B.notSynchronized, hK, hG⟩
  obtain ⟨hx, hb, -, hown, hts, hr, hlocks, -, -⟩ := id C
  have hS : va_S (AW G) s.heap s.heap [] := va_S.rf
  have hl := lv_entry [.ref (G.2.2 0), .int v1] (n := 2) (Nat.le_of_ble_eq_true rfl)
  rw [lg_entry_eq]
  generalize (lg_sl [.ref (G.2.2 0), .int v1] ++ List.replicate (2 - (lg_sl [.ref (G.2.2 0), .int v1]).length) Slot.unset).toArray = ls at hl ⊢
  have hl : lv_has ls 2 [(0, .ref (G.2.2 0)), (1, .int v1)] := hl
  unfold fn_X11_envies at h
  refine lv_aload_n hx hb dX11_envies_0 rfl (lv_at hl 0 rfl) ?_
  refine ge_11_2 hx hb hts in_X11_envies_X11 hown hK hP k_0 (hts _ (List.mem_of_getElem? (i := 1) rfl)) dX11_envies_1 ?_
  refine lv_iload_n hx hb dX11_envies_4 rfl (lv_at hl 1 rfl) ?_
  obtain ⟨r2, z3, h1, h⟩ := bd_s h
  refine x_Vi (Rz := (r2, z3)) (As := [.int v1]) (rest := []) ⟨hx, hb, hml, hown, hts⟩ hK hP hS (kd_lt k_2 (by decide)) (cell_7 k_2) rfl (m_X7_isGuest hG  k_2 h1) (cwV 1 hts gX11_envies_X7_isGuest rfl rfl rfl (by decide +kernel) (rmd_ok (by decide) (by decide))) rfl hl.1 rfl (Nat.le_of_ble_eq_true rfl) dX11_envies_5 ⟨Nat.le_refl _, Nat.le_refl _⟩ (fun H locs hP hS => ?_)
  refine lv_if_ne (tgt := 13) hx hb dX11_envies_8 (by decide) (fun c4 => ?_) (fun c4 => ?_)
  · rw [if_neg c4] at h
    refine lv_aload_n hx hb dX11_envies_13 rfl (lv_at hl 0 rfl) ?_
    refine ge_11_7 hx hb hts in_X11_envies_X11 hown hK hP k_0 (hts _ (List.mem_of_getElem? (i := 2) rfl)) dX11_envies_14 ?_
    refine lv_iload_n hx hb dX11_envies_17 rfl (lv_at hl 1 rfl) ?_
    obtain ⟨r6, z7, h5, h⟩ := bd_s h
    refine x_Vi (Rz := (r6, z7)) (As := [.int v1]) (rest := []) ⟨hx, hb, hml, hown, hts⟩ hK hP hS (kd_lt k_143 (by decide)) (cell_10 k_143) rfl (m_X10_enviedBy hG   h5) (cwV 1 hts gX11_envies_X10_enviedBy rfl rfl rfl (by decide +kernel) (rmd_ok (by decide) (by decide))) rfl hl.1 rfl (Nat.le_of_ble_eq_true rfl) dX11_envies_18 ⟨Nat.le_refl _, Nat.le_refl _⟩ (fun H locs hP hS => ?_)
    exact x_iret hx hb hr hlocks hK hP hS h dX11_envies_21
  · rw [if_pos c4] at h
    refine lv_iconst (v := (-1)) hx hb dX11_envies_11 (by decide) ?_
    exact x_iret hx hb hr hlocks hK hP hS h dX11_envies_12
theorem in_X11_quarrel_X7 : ∀ w ∈ wsX70, w ∈ wsX11_quarrel := fun _ h => (List.mem_cons_of_mem _ (List.mem_append_left _ (List.mem_append_left _ (List.mem_append_left _ (List.mem_append_left _ (List.mem_append_right _ h))))))
theorem in_X11_quarrel_X11 : ∀ w ∈ wsX110, w ∈ wsX11_quarrel := fun _ h => (List.mem_cons_of_mem _ (List.mem_append_left _ (List.mem_append_left _ (List.mem_append_left _ (List.mem_append_left _ (List.mem_append_left _ (List.mem_append_right _ h)))))))
def fn_X11_quarrel_4 : Nat → Int32 → Int32 → St → Option (Int32 × St)
  | 0, _, _, _ => none
  | n + 1, v1, v2, z => (if (z.1 2 5) ≤ v2 then some (v1, z) else bd (fn_X10_enviedBy  v2 z) (fun r3 z4 => bd (fn_J6_bitCount_0f7a4  r3 z4) (fun r6 z7 => nm (v1 + r6) (fun v1_8 => fn_X11_quarrel_4   n v1_8 (v2 + 1) z7))))
set_option maxHeartbeats 4000000 in
set_option maxRecDepth 100000 in
theorem pf_X11_quarrel_4 {p : Program} {l : Launch} {e : Env} {s : State} {m : MethodId} {args : Array Value} {below : List Frame} {meth : Method} {c : Code} {G : wG} (C : CX p s m args meth c cX11_quarrel 3 wsX11_quarrel RX11 (some .int) G) {Rz : Int32 × St} : ∀ (n : Nat) (v1 : Int32) (v2 : Int32) (z : St)  (H : Heap) (locs : List Loc) (ls : Array Slot), WP G z H → va_S (AW G) s.heap H locs → lv_has ls 3 [(0, .ref (G.2.2 0)), (1, .int v1), (2, .int v2)] → fn_X11_quarrel_4   n v1 v2 z = some Rz → W p l e (rmd 7) s m args below meth c H locs 0 0 (QI below args s G Rz) (F0 m 4 ls []) := by
  obtain ⟨hx, hb, hml, hown, hts, hr, hlocks, hK, hG⟩ := id C
  intro n
  induction n with
  | zero => intro v1 v2 z  H locs ls hP hS hl h; cases h
  | succ n ih =>
    intro v1 v2 z  H locs ls hP hS hl h
    rw [fn_X11_quarrel_4] at h
    refine lv_iload_n hx hb dX11_quarrel_4 rfl (lv_at hl 2 rfl) ?_
    refine lv_aload_n hx hb dX11_quarrel_5 rfl (lv_at hl 0 rfl) ?_
    refine ge_11_2 hx hb hts in_X11_quarrel_X11 hown hK hP k_0 (hts _ (List.mem_of_getElem? (i := 1) rfl)) dX11_quarrel_6 ?_
    refine ge_7_5 hx hb hts in_X11_quarrel_X7 hown hK hP k_2 (hts _ (List.mem_of_getElem? (i := 2) rfl)) dX11_quarrel_9 ?_
    refine lv_icmp_ge (tgt := 35) hx hb dX11_quarrel_12 (by decide) (fun c1 => ?_) (fun c1 => ?_)
    · rw [if_pos c1] at h
      refine lv_iload_n hx hb dX11_quarrel_35 rfl (lv_at hl 1 rfl) ?_
      exact x_iret hx hb hr hlocks hK hP hS h dX11_quarrel_36
    · rw [if_neg c1] at h
      refine lv_iload_n hx hb dX11_quarrel_15 rfl (lv_at hl 1 rfl) ?_
      refine lv_aload_n hx hb dX11_quarrel_16 rfl (lv_at hl 0 rfl) ?_
      refine ge_11_7 hx hb hts in_X11_quarrel_X11 hown hK hP k_0 (hts _ (List.mem_of_getElem? (i := 3) rfl)) dX11_quarrel_17 ?_
      refine lv_iload_n hx hb dX11_quarrel_20 rfl (lv_at hl 2 rfl) ?_
      obtain ⟨r3, z4, h2, h⟩ := bd_s h
      refine x_Vi (Rz := (r3, z4)) (As := [.int v2]) (rest := [.int v1]) ⟨hx, hb, hml, hown, hts⟩ hK hP hS (kd_lt k_143 (by decide)) (cell_10 k_143) rfl (m_X10_enviedBy hG   h2) (cwV 1 hts gX11_quarrel_X10_enviedBy rfl rfl rfl (by decide +kernel) (rmd_ok (by decide) (by decide))) rfl hl.1 rfl (Nat.le_of_ble_eq_true rfl) dX11_quarrel_21 ⟨Nat.le_refl _, Nat.le_refl _⟩ (fun H locs hP hS => ?_)
      obtain ⟨r6, z7, h5, h⟩ := bd_s h
      refine x_Si (Rz := (r6, z7)) (As := [.int r3]) (rest := [.int v1]) ⟨hx, hb, hml, hown, hts⟩ hK hP hS (m_J6_bitCount_0f7a4 hG   h5) (va_cwS 1 hts gX11_quarrel_J6_bitCount_0f7a4 rfl rfl rfl (by decide +kernel) (rmd_ok (by decide) (by decide))) rfl hl.1 rfl (Nat.le_of_ble_eq_true rfl) dX11_quarrel_24 ⟨Nat.le_refl _, Nat.le_refl _⟩ (fun H locs hP hS => ?_)
      refine lv_iadd hx hb dX11_quarrel_27 ?_
      obtain ⟨v1_8, e_v1_8, h⟩ := nm_s h
      refine x_top e_v1_8 ?_
      refine lv_istore_n (lv' := [(1, .int v1_8), (0, .ref (G.2.2 0)), (2, .int v2)]) hx hb dX11_quarrel_28 rfl hl (by decide) rfl (fun ls hl => ?_)
      refine lv_iinc (v := (v2 + 1)) (lv' := [(2, .int (v2 + 1)), (1, .int v1_8), (0, .ref (G.2.2 0))]) hx hb dX11_quarrel_29 hl (k := 2) rfl rfl (by decide) rfl (fun ls hl => ?_)
      refine lv_goto (tgt := 4) hx hb dX11_quarrel_32 (by decide) ?_
      exact ih v1_8 (v2 + 1) z7 _ _ _ hP hS (lv_sub hl [2, 1, 0] rfl) h
def fn_X11_quarrel  (z : St) : Option (Int32 × St) := fn_X11_quarrel_4   fu 0 0 z
set_option maxHeartbeats 4000000 in
set_option maxRecDepth 100000 in
theorem m_X11_quarrel {l : Launch} {G : wG} (hG : Ok G)  {z : St} {Rz : Int32 × St}  (h : fn_X11_quarrel   z = some Rz) : Met l yX11_quarrel wsX11_quarrel (rmd 7) (va_Pc [.ref (G.2.2 0)] (Pre G z)) (va_Qi (fun r u => (r, u) = Rz) (Pre G) (AW G)) 0 0 (AW G) := by
  refine Met.ofW (cc := cX11_quarrel) (maxL := 3) (ret := (some .int)) (by decide) rfl ?_
  intro p e s m args below meth c s₁ B hml hv
  obtain ⟨rfl, hP, hK⟩ := hv
  have C : CX p s m ([.ref (G.2.2 0)] : List Value).toArray meth c cX11_quarrel 3 wsX11_quarrel RX11 (some .int) G := ⟨B.exec, B.bytes, hml, findClass_of_methodNamed B.named, atoms_spec (ws := wsX11_quarrel) B.pre, B.returns, B.notSynchronized, hK, hG⟩
  obtain ⟨hx, hb, -, hown, hts, hr, hlocks, -, -⟩ := id C
  have hS : va_S (AW G) s.heap s.heap [] := va_S.rf
  have hl := lv_entry [.ref (G.2.2 0)] (n := 3) (Nat.le_of_ble_eq_true rfl)
  rw [lg_entry_eq]
  generalize (lg_sl [.ref (G.2.2 0)] ++ List.replicate (3 - (lg_sl [.ref (G.2.2 0)]).length) Slot.unset).toArray = ls at hl ⊢
  have hl : lv_has ls 3 [(0, .ref (G.2.2 0))] := hl
  unfold fn_X11_quarrel at h
  refine lv_iconst (v := 0) hx hb dX11_quarrel_0 (by decide) ?_
  refine lv_istore_n (lv' := [(1, .int 0), (0, .ref (G.2.2 0))]) hx hb dX11_quarrel_1 rfl hl (by decide) rfl (fun ls hl => ?_)
  refine lv_iconst (v := 0) hx hb dX11_quarrel_2 (by decide) ?_
  refine lv_istore_n (lv' := [(2, .int 0), (1, .int 0), (0, .ref (G.2.2 0))]) hx hb dX11_quarrel_3 rfl hl (by decide) rfl (fun ls hl => ?_)
  exact pf_X11_quarrel_4 C   fu 0 0 z  _ _ _ hP hS (lv_sub hl [2, 1, 0] rfl) h
theorem in_X11_calm_X11 : ∀ w ∈ wsX110, w ∈ wsX11_calm := fun _ h => (List.mem_cons_of_mem _ (List.mem_append_left _ (List.mem_append_left _ (List.mem_append_left _ (List.mem_append_left _ (List.mem_append_left _ (List.mem_append_right _ h)))))))
theorem in_X11_calm_X10 : ∀ w ∈ wsX100, w ∈ wsX11_calm := fun _ h => (List.mem_cons_of_mem _ (List.mem_append_left _ (List.mem_append_left _ (List.mem_append_left _ (List.mem_append_left _ (List.mem_append_right _ h))))))
def fn_X11_calm (v1 : Int32) (z : St) : Option (Int32 × St) := bd (fn_X10_findCalm   z) (fun r2 z3 => (if r2 = 0 then some ((-1), z3) else (if v1 = 0 then some ((z3.1 143 4), z3) else (if v1 = 1 then some ((z3.1 143 5), z3) else (if v1 = 2 then some ((z3.1 143 6), z3) else (some ((-1), z3)))))))
set_option maxHeartbeats 4000000 in
set_option maxRecDepth 100000 in
theorem m_X11_calm {l : Launch} {G : wG} (hG : Ok G) {v1 : Int32} {z : St} {Rz : Int32 × St}  (h : fn_X11_calm  v1 z = some Rz) : Met l yX11_calm wsX11_calm (rmd 7) (va_Pc [.ref (G.2.2 0), .int v1] (Pre G z)) (va_Qi (fun r u => (r, u) = Rz) (Pre G) (AW G)) 0 0 (AW G) := by
  refine Met.ofW (cc := cX11_calm) (maxL := 2) (ret := (some .int)) (by decide) rfl ?_
  intro p e s m args below meth c s₁ B hml hv
  obtain ⟨rfl, hP, hK⟩ := hv
  have C : CX p s m ([.ref (G.2.2 0), .int v1] : List Value).toArray meth c cX11_calm 2 wsX11_calm RX11 (some .int) G := ⟨B.exec, B.bytes, hml, findClass_of_methodNamed B.named, atoms_spec (ws := wsX11_calm) B.pre, B.returns, B.notSynchronized, hK, hG⟩
  obtain ⟨hx, hb, -, hown, hts, hr, hlocks, -, -⟩ := id C
  have hS : va_S (AW G) s.heap s.heap [] := va_S.rf
  have hl := lv_entry [.ref (G.2.2 0), .int v1] (n := 2) (Nat.le_of_ble_eq_true rfl)
  rw [lg_entry_eq]
  generalize (lg_sl [.ref (G.2.2 0), .int v1] ++ List.replicate (2 - (lg_sl [.ref (G.2.2 0), .int v1]).length) Slot.unset).toArray = ls at hl ⊢
  have hl : lv_has ls 2 [(0, .ref (G.2.2 0)), (1, .int v1)] := hl
  unfold fn_X11_calm at h
  refine lv_aload_n hx hb dX11_calm_0 rfl (lv_at hl 0 rfl) ?_
  refine ge_11_7 hx hb hts in_X11_calm_X11 hown hK hP k_0 (hts _ (List.mem_of_getElem? (i := 1) rfl)) dX11_calm_1 ?_
  obtain ⟨r2, z3, h1, h⟩ := bd_s h
  refine x_Vi (Rz := (r2, z3)) (As := []) (rest := []) ⟨hx, hb, hml, hown, hts⟩ hK hP hS (kd_lt k_143 (by decide)) (cell_10 k_143) rfl (m_X10_findCalm hG   h1) (cwV 0 hts gX11_calm_X10_findCalm rfl rfl rfl (by decide +kernel) (rmd_ok (by decide) (by decide))) rfl hl.1 rfl (Nat.le_of_ble_eq_true rfl) dX11_calm_4 ⟨Nat.le_refl _, Nat.le_refl _⟩ (fun H locs hP hS => ?_)
  refine lv_if_ne (tgt := 12) hx hb dX11_calm_7 (by decide) (fun c4 => ?_) (fun c4 => ?_)
  · rw [if_neg c4] at h
    refine lv_iload_n hx hb dX11_calm_12 rfl (lv_at hl 1 rfl) ?_
    by_cases c5 : v1 = 0
    · rw [if_pos c5] at h
      refine lv_tableIn (off := 27) (tgt := 40) hx hb dX11_calm_13 (by rw [c5]; decide) (by rw [c5]; decide) (by rw [c5]; rfl) (by decide) ?_
      refine lv_aload_n hx hb dX11_calm_40 rfl (lv_at hl 0 rfl) ?_
      refine ge_11_7 hx hb hts in_X11_calm_X11 hown hK hP k_0 (hts _ (List.mem_of_getElem? (i := 1) rfl)) dX11_calm_41 ?_
      refine ge_10_4 hx hb hts in_X11_calm_X10 hown hK hP k_143 (hts _ (List.mem_of_getElem? (i := 2) rfl)) dX11_calm_44 ?_
      exact x_iret hx hb hr hlocks hK hP hS h dX11_calm_47
    rw [if_neg c5] at h
    by_cases c6 : v1 = 1
    · rw [if_pos c6] at h
      refine lv_tableIn (off := 35) (tgt := 48) hx hb dX11_calm_13 (by rw [c6]; decide) (by rw [c6]; decide) (by rw [c6]; rfl) (by decide) ?_
      refine lv_aload_n hx hb dX11_calm_48 rfl (lv_at hl 0 rfl) ?_
      refine ge_11_7 hx hb hts in_X11_calm_X11 hown hK hP k_0 (hts _ (List.mem_of_getElem? (i := 1) rfl)) dX11_calm_49 ?_
      refine ge_10_5 hx hb hts in_X11_calm_X10 hown hK hP k_143 (hts _ (List.mem_of_getElem? (i := 3) rfl)) dX11_calm_52 ?_
      exact x_iret hx hb hr hlocks hK hP hS h dX11_calm_55
    rw [if_neg c6] at h
    by_cases c7 : v1 = 2
    · rw [if_pos c7] at h
      refine lv_tableIn (off := 43) (tgt := 56) hx hb dX11_calm_13 (by rw [c7]; decide) (by rw [c7]; decide) (by rw [c7]; rfl) (by decide) ?_
      refine lv_aload_n hx hb dX11_calm_56 rfl (lv_at hl 0 rfl) ?_
      refine ge_11_7 hx hb hts in_X11_calm_X11 hown hK hP k_0 (hts _ (List.mem_of_getElem? (i := 1) rfl)) dX11_calm_57 ?_
      refine ge_10_6 hx hb hts in_X11_calm_X10 hown hK hP k_143 (hts _ (List.mem_of_getElem? (i := 4) rfl)) dX11_calm_60 ?_
      exact x_iret hx hb hr hlocks hK hP hS h dX11_calm_63
    rw [if_neg c7] at h
    have n8 : (v1 : Int32).toInt < 0 ∨ 2 < (v1 : Int32).toInt := by
      have c5_n := lv_neT (a := 0) c5 (by decide)
      have c6_n := lv_neT (a := 1) c6 (by decide)
      have c7_n := lv_neT (a := 2) c7 (by decide)
      omega
    refine lv_tableOut (tgt := 64) hx hb dX11_calm_13 n8 (by decide) ?_
    refine lv_iconst (v := (-1)) hx hb dX11_calm_64 (by decide) ?_
    exact x_iret hx hb hr hlocks hK hP hS h dX11_calm_65
  · rw [if_pos c4] at h
    refine lv_iconst (v := (-1)) hx hb dX11_calm_10 (by decide) ?_
    exact x_iret hx hb hr hlocks hK hP hS h dX11_calm_11
theorem in_X11_canHalve_X11 : ∀ w ∈ wsX110, w ∈ wsX11_canHalve := fun _ h => (List.mem_cons_of_mem _ (List.mem_append_left _ (List.mem_append_left _ (List.mem_append_left _ (List.mem_append_right _ h)))))
def fn_X11_canHalve (v1 : Int32) (v2 : Int32) (v3 : Int32) (z : St) : Option (Int32 × St) := bd (fn_X7_isGuest  2 v2 z) (fun r2 z3 => (if r2 = 0 then some (0, z3) else bd (fn_X7_isGuest  2 v3 z3) (fun r6 z7 => (if r6 = 0 then some (0, z7) else (if v2 = v3 then some (0, z7) else bd (fn_X1_isFree  34 v1 z7) (fun r11 z12 => (if r11 = 0 then some (0, z12) else some (1, z12))))))))
set_option maxHeartbeats 4000000 in
set_option maxRecDepth 100000 in
theorem m_X11_canHalve {l : Launch} {G : wG} (hG : Ok G) {v1 : Int32} {v2 : Int32} {v3 : Int32} {z : St} {Rz : Int32 × St}  (h : fn_X11_canHalve  v1 v2 v3 z = some Rz) : Met l yX11_canHalve wsX11_canHalve (rmd 3) (va_Pc [.ref (G.2.2 0), .int v1, .int v2, .int v3] (Pre G z)) (va_Qi (fun r u => (r, u) = Rz) (Pre G) (AW G)) 0 0 (AW G) := by
  refine Met.ofW (cc := cX11_canHalve) (maxL := 4) (ret := (some .boolean)) (by decide) rfl ?_
  intro p e s m args below meth c s₁ B hml hv
  obtain ⟨rfl, hP, hK⟩ := hv
  have C : CX p s m ([.ref (G.2.2 0), .int v1, .int v2, .int v3] : List Value).toArray meth c cX11_canHalve 4 wsX11_canHalve RX11 (some .boolean) G := ⟨B.exec, B.bytes, hml, findClass_of_methodNamed B.named, atoms_spec (ws := wsX11_canHalve) B.pre, B.returns, B.notSynchronized, hK, hG⟩
  obtain ⟨hx, hb, -, hown, hts, hr, hlocks, -, -⟩ := id C
  have hS : va_S (AW G) s.heap s.heap [] := va_S.rf
  have hl := lv_entry [.ref (G.2.2 0), .int v1, .int v2, .int v3] (n := 4) (Nat.le_of_ble_eq_true rfl)
  rw [lg_entry_eq]
  generalize (lg_sl [.ref (G.2.2 0), .int v1, .int v2, .int v3] ++ List.replicate (4 - (lg_sl [.ref (G.2.2 0), .int v1, .int v2, .int v3]).length) Slot.unset).toArray = ls at hl ⊢
  have hl : lv_has ls 4 [(0, .ref (G.2.2 0)), (1, .int v1), (2, .int v2), (3, .int v3)] := hl
  unfold fn_X11_canHalve at h
  refine lv_aload_n hx hb dX11_canHalve_0 rfl (lv_at hl 0 rfl) ?_
  refine ge_11_2 hx hb hts in_X11_canHalve_X11 hown hK hP k_0 (hts _ (List.mem_of_getElem? (i := 1) rfl)) dX11_canHalve_1 ?_
  refine lv_iload_n hx hb dX11_canHalve_4 rfl (lv_at hl 2 rfl) ?_
  obtain ⟨r2, z3, h1, h⟩ := bd_s h
  refine x_Vi (Rz := (r2, z3)) (As := [.int v2]) (rest := []) ⟨hx, hb, hml, hown, hts⟩ hK hP hS (kd_lt k_2 (by decide)) (cell_7 k_2) rfl (m_X7_isGuest hG  k_2 h1) (cwV 1 hts gX11_canHalve_X7_isGuest rfl rfl rfl (by decide +kernel) (rmd_ok (by decide) (by decide))) rfl hl.1 rfl (Nat.le_of_ble_eq_true rfl) dX11_canHalve_5 ⟨Nat.le_refl _, Nat.le_refl _⟩ (fun H locs hP hS => ?_)
  refine lv_if_eq (tgt := 42) hx hb dX11_canHalve_8 (by decide) (fun c4 => ?_) (fun c4 => ?_)
  · rw [if_pos c4] at h
    refine lv_iconst (v := 0) hx hb dX11_canHalve_42 (by decide) ?_
    exact x_zret hx hb hr hlocks hK hP hS rfl h dX11_canHalve_43
  · rw [if_neg c4] at h
    refine lv_aload_n hx hb dX11_canHalve_11 rfl (lv_at hl 0 rfl) ?_
    refine ge_11_2 hx hb hts in_X11_canHalve_X11 hown hK hP k_0 (hts _ (List.mem_of_getElem? (i := 1) rfl)) dX11_canHalve_12 ?_
    refine lv_iload_n hx hb dX11_canHalve_15 rfl (lv_at hl 3 rfl) ?_
    obtain ⟨r6, z7, h5, h⟩ := bd_s h
    refine x_Vi (Rz := (r6, z7)) (As := [.int v3]) (rest := []) ⟨hx, hb, hml, hown, hts⟩ hK hP hS (kd_lt k_2 (by decide)) (cell_7 k_2) rfl (m_X7_isGuest hG  k_2 h5) (cwV 1 hts gX11_canHalve_X7_isGuest rfl rfl rfl (by decide +kernel) (rmd_ok (by decide) (by decide))) rfl hl.1 rfl (Nat.le_of_ble_eq_true rfl) dX11_canHalve_16 ⟨Nat.le_refl _, Nat.le_refl _⟩ (fun H locs hP hS => ?_)
    refine lv_if_eq (tgt := 42) hx hb dX11_canHalve_19 (by decide) (fun c8 => ?_) (fun c8 => ?_)
    · rw [if_pos c8] at h
      refine lv_iconst (v := 0) hx hb dX11_canHalve_42 (by decide) ?_
      exact x_zret hx hb hr hlocks hK hP hS rfl h dX11_canHalve_43
    · rw [if_neg c8] at h
      refine lv_iload_n hx hb dX11_canHalve_22 rfl (lv_at hl 2 rfl) ?_
      refine lv_iload_n hx hb dX11_canHalve_23 rfl (lv_at hl 3 rfl) ?_
      refine lv_icmp_eq (tgt := 42) hx hb dX11_canHalve_24 (by decide) (fun c9 => ?_) (fun c9 => ?_)
      · rw [if_pos c9] at h
        refine lv_iconst (v := 0) hx hb dX11_canHalve_42 (by decide) ?_
        exact x_zret hx hb hr hlocks hK hP hS rfl h dX11_canHalve_43
      · rw [if_neg c9] at h
        refine lv_aload_n hx hb dX11_canHalve_27 rfl (lv_at hl 0 rfl) ?_
        refine ge_11_5 hx hb hts in_X11_canHalve_X11 hown hK hP k_0 (hts _ (List.mem_of_getElem? (i := 2) rfl)) dX11_canHalve_28 ?_
        refine lv_iload_n hx hb dX11_canHalve_31 rfl (lv_at hl 1 rfl) ?_
        obtain ⟨r11, z12, h10, h⟩ := bd_s h
        refine x_Vi (Rz := (r11, z12)) (As := [.int v1]) (rest := []) ⟨hx, hb, hml, hown, hts⟩ hK hP hS (kd_lt k_34 (by decide)) (cell_1 k_34) rfl (m_X1_isFree hG  k_34 h10) (cwV 1 hts gX11_canHalve_X1_isFree rfl rfl rfl (by decide +kernel) (rmd_ok (by decide) (by decide))) rfl hl.1 rfl (Nat.le_of_ble_eq_true rfl) dX11_canHalve_32 ⟨Nat.le_refl _, Nat.le_refl _⟩ (fun H locs hP hS => ?_)
        refine lv_if_eq (tgt := 42) hx hb dX11_canHalve_35 (by decide) (fun c13 => ?_) (fun c13 => ?_)
        · rw [if_pos c13] at h
          refine lv_iconst (v := 0) hx hb dX11_canHalve_42 (by decide) ?_
          exact x_zret hx hb hr hlocks hK hP hS rfl h dX11_canHalve_43
        · rw [if_neg c13] at h
          refine lv_iconst (v := 1) hx hb dX11_canHalve_38 (by decide) ?_
          refine lv_goto (tgt := 43) hx hb dX11_canHalve_39 (by decide) ?_
          exact x_zret hx hb hr hlocks hK hP hS rfl h dX11_canHalve_43
theorem in_X11_halve_X5 : ∀ w ∈ wsX50, w ∈ wsX11_halve := fun _ h => (List.mem_cons_of_mem _ (List.mem_append_left _ (List.mem_append_left _ (List.mem_append_left _ (List.mem_append_left _ (List.mem_append_left _ (List.mem_append_right _ h)))))))
theorem in_X11_halve_X11 : ∀ w ∈ wsX110, w ∈ wsX11_halve := fun _ h => (List.mem_cons_of_mem _ (List.mem_append_left _ (List.mem_append_left _ (List.mem_append_left _ (List.mem_append_left _ (List.mem_append_left _ (List.mem_append_left _ (List.mem_append_right _ h))))))))
def fn_X11_halve (v1 : Int32) (v2 : Int32) (v3 : Int32) (v4 : Int32) (z : St) : Option (Int32 × St) := bd (fn_X11_canHalve  v1 v2 v3 z) (fun r2 z3 => (if r2 = 0 then some ((-1), z3) else bd (fn_X5_findHalves  v1 v2 v3 z3) (fun r6 z7 => (if r6 = 0 then some ((-1), z7) else (if v4 = 0 then some ((z7.1 156 12), z7) else (if v4 = 1 then some ((z7.1 156 13), z7) else (if v4 = 2 then some ((z7.1 156 14), z7) else (some ((-1), z7)))))))))
set_option maxHeartbeats 4000000 in
set_option maxRecDepth 100000 in
theorem m_X11_halve {l : Launch} {G : wG} (hG : Ok G) {v1 : Int32} {v2 : Int32} {v3 : Int32} {v4 : Int32} {z : St} {Rz : Int32 × St}  (h : fn_X11_halve  v1 v2 v3 v4 z = some Rz) : Met l yX11_halve wsX11_halve (rmd 6) (va_Pc [.ref (G.2.2 0), .int v1, .int v2, .int v3, .int v4] (Pre G z)) (va_Qi (fun r u => (r, u) = Rz) (Pre G) (AW G)) 0 0 (AW G) := by
  refine Met.ofW (cc := cX11_halve) (maxL := 5) (ret := (some .int)) (by decide) rfl ?_
  intro p e s m args below meth c s₁ B hml hv
  obtain ⟨rfl, hP, hK⟩ := hv
  have C : CX p s m ([.ref (G.2.2 0), .int v1, .int v2, .int v3, .int v4] : List Value).toArray meth c cX11_halve 5 wsX11_halve RX11 (some .int) G := ⟨B.exec, B.bytes, hml, findClass_of_methodNamed B.named, atoms_spec (ws := wsX11_halve) B.pre, B.returns, B.notSynchronized, hK, hG⟩
  obtain ⟨hx, hb, -, hown, hts, hr, hlocks, -, -⟩ := id C
  have hS : va_S (AW G) s.heap s.heap [] := va_S.rf
  have hl := lv_entry [.ref (G.2.2 0), .int v1, .int v2, .int v3, .int v4] (n := 5) (Nat.le_of_ble_eq_true rfl)
  rw [lg_entry_eq]
  generalize (lg_sl [.ref (G.2.2 0), .int v1, .int v2, .int v3, .int v4] ++ List.replicate (5 - (lg_sl [.ref (G.2.2 0), .int v1, .int v2, .int v3, .int v4]).length) Slot.unset).toArray = ls at hl ⊢
  have hl : lv_has ls 5 [(0, .ref (G.2.2 0)), (1, .int v1), (2, .int v2), (3, .int v3), (4, .int v4)] := hl
  unfold fn_X11_halve at h
  refine lv_aload_n hx hb dX11_halve_0 rfl (lv_at hl 0 rfl) ?_
  refine lv_iload_n hx hb dX11_halve_1 rfl (lv_at hl 1 rfl) ?_
  refine lv_iload_n hx hb dX11_halve_2 rfl (lv_at hl 2 rfl) ?_
  refine lv_iload_n hx hb dX11_halve_3 rfl (lv_at hl 3 rfl) ?_
  obtain ⟨r2, z3, h1, h⟩ := bd_s h
  refine x_Vi (Rz := (r2, z3)) (As := [.int v1, .int v2, .int v3]) (rest := []) ⟨hx, hb, hml, hown, hts⟩ hK hP hS (kd_lt k_0 (by decide)) (cell_11 k_0) rfl (m_X11_canHalve hG   h1) (cwV 3 hts gX11_halve_X11_canHalve rfl rfl rfl (by decide +kernel) (rmd_ok (by decide) (by decide))) rfl hl.1 rfl (Nat.le_of_ble_eq_true rfl) dX11_halve_4 ⟨Nat.le_refl _, Nat.le_refl _⟩ (fun H locs hP hS => ?_)
  refine lv_if_eq (tgt := 23) hx hb dX11_halve_7 (by decide) (fun c4 => ?_) (fun c4 => ?_)
  · rw [if_pos c4] at h
    refine lv_iconst (v := (-1)) hx hb dX11_halve_23 (by decide) ?_
    exact x_iret hx hb hr hlocks hK hP hS h dX11_halve_24
  · rw [if_neg c4] at h
    refine lv_aload_n hx hb dX11_halve_10 rfl (lv_at hl 0 rfl) ?_
    refine ge_11_10 hx hb hts in_X11_halve_X11 hown hK hP k_0 (hts _ (List.mem_of_getElem? (i := 1) rfl)) dX11_halve_11 ?_
    refine lv_iload_n hx hb dX11_halve_14 rfl (lv_at hl 1 rfl) ?_
    refine lv_iload_n hx hb dX11_halve_15 rfl (lv_at hl 2 rfl) ?_
    refine lv_iload_n hx hb dX11_halve_16 rfl (lv_at hl 3 rfl) ?_
    obtain ⟨r6, z7, h5, h⟩ := bd_s h
    refine x_Vi (Rz := (r6, z7)) (As := [.int v1, .int v2, .int v3]) (rest := []) ⟨hx, hb, hml, hown, hts⟩ hK hP hS (kd_lt k_156 (by decide)) (cell_5 k_156) rfl (m_X5_findHalves hG   h5) (cwV 3 hts gX11_halve_X5_findHalves rfl rfl rfl (by decide +kernel) (rmd_ok (by decide) (by decide))) rfl hl.1 rfl (Nat.le_of_ble_eq_true rfl) dX11_halve_17 ⟨Nat.le_refl _, Nat.le_refl _⟩ (fun H locs hP hS => ?_)
    refine lv_if_ne (tgt := 25) hx hb dX11_halve_20 (by decide) (fun c8 => ?_) (fun c8 => ?_)
    · rw [if_neg c8] at h
      refine lv_iload hx hb dX11_halve_25 (lv_at hl 4 rfl) ?_
      by_cases c9 : v4 = 0
      · rw [if_pos c9] at h
        refine lv_tableIn (off := 25) (tgt := 52) hx hb dX11_halve_27 (by rw [c9]; decide) (by rw [c9]; decide) (by rw [c9]; rfl) (by decide) ?_
        refine lv_aload_n hx hb dX11_halve_52 rfl (lv_at hl 0 rfl) ?_
        refine ge_11_10 hx hb hts in_X11_halve_X11 hown hK hP k_0 (hts _ (List.mem_of_getElem? (i := 1) rfl)) dX11_halve_53 ?_
        refine ge_5_12 hx hb hts in_X11_halve_X5 hown hK hP k_156 (hts _ (List.mem_of_getElem? (i := 2) rfl)) dX11_halve_56 ?_
        exact x_iret hx hb hr hlocks hK hP hS h dX11_halve_59
      rw [if_neg c9] at h
      by_cases c10 : v4 = 1
      · rw [if_pos c10] at h
        refine lv_tableIn (off := 33) (tgt := 60) hx hb dX11_halve_27 (by rw [c10]; decide) (by rw [c10]; decide) (by rw [c10]; rfl) (by decide) ?_
        refine lv_aload_n hx hb dX11_halve_60 rfl (lv_at hl 0 rfl) ?_
        refine ge_11_10 hx hb hts in_X11_halve_X11 hown hK hP k_0 (hts _ (List.mem_of_getElem? (i := 1) rfl)) dX11_halve_61 ?_
        refine ge_5_13 hx hb hts in_X11_halve_X5 hown hK hP k_156 (hts _ (List.mem_of_getElem? (i := 3) rfl)) dX11_halve_64 ?_
        exact x_iret hx hb hr hlocks hK hP hS h dX11_halve_67
      rw [if_neg c10] at h
      by_cases c11 : v4 = 2
      · rw [if_pos c11] at h
        refine lv_tableIn (off := 41) (tgt := 68) hx hb dX11_halve_27 (by rw [c11]; decide) (by rw [c11]; decide) (by rw [c11]; rfl) (by decide) ?_
        refine lv_aload_n hx hb dX11_halve_68 rfl (lv_at hl 0 rfl) ?_
        refine ge_11_10 hx hb hts in_X11_halve_X11 hown hK hP k_0 (hts _ (List.mem_of_getElem? (i := 1) rfl)) dX11_halve_69 ?_
        refine ge_5_14 hx hb hts in_X11_halve_X5 hown hK hP k_156 (hts _ (List.mem_of_getElem? (i := 4) rfl)) dX11_halve_72 ?_
        exact x_iret hx hb hr hlocks hK hP hS h dX11_halve_75
      rw [if_neg c11] at h
      have n12 : (v4 : Int32).toInt < 0 ∨ 2 < (v4 : Int32).toInt := by
        have c9_n := lv_neT (a := 0) c9 (by decide)
        have c10_n := lv_neT (a := 1) c10 (by decide)
        have c11_n := lv_neT (a := 2) c11 (by decide)
        omega
      refine lv_tableOut (tgt := 76) hx hb dX11_halve_27 n12 (by decide) ?_
      refine lv_iconst (v := (-1)) hx hb dX11_halve_76 (by decide) ?_
      exact x_iret hx hb hr hlocks hK hP hS h dX11_halve_77
    · rw [if_pos c8] at h
      refine lv_iconst (v := (-1)) hx hb dX11_halve_23 (by decide) ?_
      exact x_iret hx hb hr hlocks hK hP hS h dX11_halve_24
theorem in_X11_share_X5 : ∀ w ∈ wsX50, w ∈ wsX11_share := fun _ h => (List.mem_cons_of_mem _ (List.mem_append_left _ (List.mem_append_left _ (List.mem_append_left _ (List.mem_append_left _ (List.mem_append_left _ (List.mem_append_right _ h)))))))
theorem in_X11_share_X11 : ∀ w ∈ wsX110, w ∈ wsX11_share := fun _ h => (List.mem_cons_of_mem _ (List.mem_append_left _ (List.mem_append_left _ (List.mem_append_left _ (List.mem_append_left _ (List.mem_append_left _ (List.mem_append_left _ (List.mem_append_right _ h))))))))
def fn_X11_share (v1 : Int32) (v2 : Int32) (v3 : Int32) (z : St) : Option (Int32 × St) := bd (fn_X11_canHalve  v1 v2 v3 z) (fun r2 z3 => (if r2 = 0 then some ((-1000000000), z3) else bd (fn_X5_findHalves  v1 v2 v3 z3) (fun r6 z7 => (if r6 = 0 then some ((-1000000000), z7) else some ((z7.1 156 15), z7)))))
set_option maxHeartbeats 4000000 in
set_option maxRecDepth 100000 in
theorem m_X11_share {l : Launch} {G : wG} (hG : Ok G) {v1 : Int32} {v2 : Int32} {v3 : Int32} {z : St} {Rz : Int32 × St}  (h : fn_X11_share  v1 v2 v3 z = some Rz) : Met l yX11_share wsX11_share (rmd 6) (va_Pc [.ref (G.2.2 0), .int v1, .int v2, .int v3] (Pre G z)) (va_Qi (fun r u => (r, u) = Rz) (Pre G) (AW G)) 0 0 (AW G) := by
  refine Met.ofW (cc := cX11_share) (maxL := 4) (ret := (some .int)) (by decide) rfl ?_
  intro p e s m args below meth c s₁ B hml hv
  obtain ⟨rfl, hP, hK⟩ := hv
  have C : CX p s m ([.ref (G.2.2 0), .int v1, .int v2, .int v3] : List Value).toArray meth c cX11_share 4 wsX11_share RX11 (some .int) G := ⟨B.exec, B.bytes, hml, findClass_of_methodNamed B.named, atoms_spec (ws := wsX11_share) B.pre, B.returns, B.notSynchronized, hK, hG⟩
  obtain ⟨hx, hb, -, hown, hts, hr, hlocks, -, -⟩ := id C
  have hS : va_S (AW G) s.heap s.heap [] := va_S.rf
  have hl := lv_entry [.ref (G.2.2 0), .int v1, .int v2, .int v3] (n := 4) (Nat.le_of_ble_eq_true rfl)
  rw [lg_entry_eq]
  generalize (lg_sl [.ref (G.2.2 0), .int v1, .int v2, .int v3] ++ List.replicate (4 - (lg_sl [.ref (G.2.2 0), .int v1, .int v2, .int v3]).length) Slot.unset).toArray = ls at hl ⊢
  have hl : lv_has ls 4 [(0, .ref (G.2.2 0)), (1, .int v1), (2, .int v2), (3, .int v3)] := hl
  unfold fn_X11_share at h
  refine lv_aload_n hx hb dX11_share_0 rfl (lv_at hl 0 rfl) ?_
  refine lv_iload_n hx hb dX11_share_1 rfl (lv_at hl 1 rfl) ?_
  refine lv_iload_n hx hb dX11_share_2 rfl (lv_at hl 2 rfl) ?_
  refine lv_iload_n hx hb dX11_share_3 rfl (lv_at hl 3 rfl) ?_
  obtain ⟨r2, z3, h1, h⟩ := bd_s h
  refine x_Vi (Rz := (r2, z3)) (As := [.int v1, .int v2, .int v3]) (rest := []) ⟨hx, hb, hml, hown, hts⟩ hK hP hS (kd_lt k_0 (by decide)) (cell_11 k_0) rfl (m_X11_canHalve hG   h1) (cwV 3 hts gX11_share_X11_canHalve rfl rfl rfl (by decide +kernel) (rmd_ok (by decide) (by decide))) rfl hl.1 rfl (Nat.le_of_ble_eq_true rfl) dX11_share_4 ⟨Nat.le_refl _, Nat.le_refl _⟩ (fun H locs hP hS => ?_)
  refine lv_if_eq (tgt := 23) hx hb dX11_share_7 (by decide) (fun c4 => ?_) (fun c4 => ?_)
  · rw [if_pos c4] at h
    refine lv_ldc (v := (-1000000000)) hx hb hown (hts _ (List.mem_of_getElem? (i := 2) rfl)) dX11_share_23 ?_
    exact x_iret hx hb hr hlocks hK hP hS h dX11_share_25
  · rw [if_neg c4] at h
    refine lv_aload_n hx hb dX11_share_10 rfl (lv_at hl 0 rfl) ?_
    refine ge_11_10 hx hb hts in_X11_share_X11 hown hK hP k_0 (hts _ (List.mem_of_getElem? (i := 1) rfl)) dX11_share_11 ?_
    refine lv_iload_n hx hb dX11_share_14 rfl (lv_at hl 1 rfl) ?_
    refine lv_iload_n hx hb dX11_share_15 rfl (lv_at hl 2 rfl) ?_
    refine lv_iload_n hx hb dX11_share_16 rfl (lv_at hl 3 rfl) ?_
    obtain ⟨r6, z7, h5, h⟩ := bd_s h
    refine x_Vi (Rz := (r6, z7)) (As := [.int v1, .int v2, .int v3]) (rest := []) ⟨hx, hb, hml, hown, hts⟩ hK hP hS (kd_lt k_156 (by decide)) (cell_5 k_156) rfl (m_X5_findHalves hG   h5) (cwV 3 hts gX11_share_X5_findHalves rfl rfl rfl (by decide +kernel) (rmd_ok (by decide) (by decide))) rfl hl.1 rfl (Nat.le_of_ble_eq_true rfl) dX11_share_17 ⟨Nat.le_refl _, Nat.le_refl _⟩ (fun H locs hP hS => ?_)
    refine lv_if_ne (tgt := 26) hx hb dX11_share_20 (by decide) (fun c8 => ?_) (fun c8 => ?_)
    · rw [if_neg c8] at h
      refine lv_aload_n hx hb dX11_share_26 rfl (lv_at hl 0 rfl) ?_
      refine ge_11_10 hx hb hts in_X11_share_X11 hown hK hP k_0 (hts _ (List.mem_of_getElem? (i := 1) rfl)) dX11_share_27 ?_
      refine ge_5_15 hx hb hts in_X11_share_X5 hown hK hP k_156 (hts _ (List.mem_of_getElem? (i := 3) rfl)) dX11_share_30 ?_
      exact x_iret hx hb hr hlocks hK hP hS h dX11_share_33
    · rw [if_pos c8] at h
      refine lv_ldc (v := (-1000000000)) hx hb hown (hts _ (List.mem_of_getElem? (i := 2) rfl)) dX11_share_23 ?_
      exact x_iret hx hb hr hlocks hK hP hS h dX11_share_25
theorem in_X11_picks_X7 : ∀ w ∈ wsX70, w ∈ wsX11_picks := fun _ h => (List.mem_cons_of_mem _ (List.mem_append_left _ (List.mem_append_left _ (List.mem_append_left _ (List.mem_append_left _ (List.mem_append_left _ (List.mem_append_right _ h)))))))
theorem in_X11_picks_X11 : ∀ w ∈ wsX110, w ∈ wsX11_picks := fun _ h => (List.mem_cons_of_mem _ (List.mem_append_left _ (List.mem_append_left _ (List.mem_append_left _ (List.mem_append_left _ (List.mem_append_left _ (List.mem_append_left _ (List.mem_append_right _ h))))))))
def fn_X11_picks  (z : St) : Option (Int32 × St) := nm (sI z 0 14 (z.1 2 5)) (fun z1 => bd (fn_X5_pickByNumber  171 z1) (fun r3 z4 => some (r3, z4)))
set_option maxHeartbeats 4000000 in
set_option maxRecDepth 100000 in
theorem m_X11_picks {l : Launch} {G : wG} (hG : Ok G)  {z : St} {Rz : Int32 × St}  (h : fn_X11_picks   z = some Rz) : Met l yX11_picks wsX11_picks (rmd 8) (va_Pc [.ref (G.2.2 0)] (Pre G z)) (va_Qi (fun r u => (r, u) = Rz) (Pre G) (AW G)) 0 0 (AW G) := by
  refine Met.ofW (cc := cX11_picks) (maxL := 1) (ret := (some .int)) (by decide) rfl ?_
  intro p e s m args below meth c s₁ B hml hv
  obtain ⟨rfl, hP, hK⟩ := hv
  have C : CX p s m ([.ref (G.2.2 0)] : List Value).toArray meth c cX11_picks 1 wsX11_picks RX11 (some .int) G := ⟨B.exec, B.bytes, hml, findClass_of_methodNamed B.named, atoms_spec (ws := wsX11_picks) B.pre, B.returns, B.notSynchronized, hK, hG⟩
  obtain ⟨hx, hb, -, hown, hts, hr, hlocks, -, -⟩ := id C
  have hS : va_S (AW G) s.heap s.heap [] := va_S.rf
  have hl := lv_entry [.ref (G.2.2 0)] (n := 1) (Nat.le_of_ble_eq_true rfl)
  rw [lg_entry_eq]
  generalize (lg_sl [.ref (G.2.2 0)] ++ List.replicate (1 - (lg_sl [.ref (G.2.2 0)]).length) Slot.unset).toArray = ls at hl ⊢
  have hl : lv_has ls 1 [(0, .ref (G.2.2 0))] := hl
  unfold fn_X11_picks at h
  refine lv_aload_n hx hb dX11_picks_0 rfl (lv_at hl 0 rfl) ?_
  refine lv_aload_n hx hb dX11_picks_1 rfl (lv_at hl 0 rfl) ?_
  refine ge_11_2 hx hb hts in_X11_picks_X11 hown hK hP k_0 (hts _ (List.mem_of_getElem? (i := 1) rfl)) dX11_picks_2 ?_
  refine ge_7_5 hx hb hts in_X11_picks_X7 hown hK hP k_2 (hts _ (List.mem_of_getElem? (i := 2) rfl)) dX11_picks_5 ?_
  obtain ⟨z1, e_z1, h⟩ := nm_s h
  refine pu_11_14 hx hb hts in_X11_picks_X11 hown hK hG hP hS k_0 (hts _ (List.mem_of_getElem? (i := 3) rfl)) dX11_picks_8 (fun H locs hP hS => ?_)
  rw [← e_z1] at hP
  refine lv_aload_n hx hb dX11_picks_11 rfl (lv_at hl 0 rfl) ?_
  refine ge_11_10 hx hb hts in_X11_picks_X11 hown hK hP k_0 (hts _ (List.mem_of_getElem? (i := 4) rfl)) dX11_picks_12 ?_
  refine lv_aload_n hx hb dX11_picks_15 rfl (lv_at hl 0 rfl) ?_
  refine ge_11_13 hx hb hts in_X11_picks_X11 hown hK hP k_0 (hts _ (List.mem_of_getElem? (i := 5) rfl)) dX11_picks_16 ?_
  obtain ⟨r3, z4, h2, h⟩ := bd_s h
  refine x_Vi (Rz := (r3, z4)) (As := [.ref (G.2.2 171)]) (rest := []) ⟨hx, hb, hml, hown, hts⟩ hK hP hS (kd_lt k_156 (by decide)) (cell_5 k_156) rfl (m_X5_pickByNumber hG  k_171 h2) (cwV 1 hts gX11_picks_X5_pickByNumber rfl rfl rfl (by decide +kernel) (rmd_ok (by decide) (by decide))) rfl hl.1 rfl (Nat.le_of_ble_eq_true rfl) dX11_picks_19 ⟨Nat.le_refl _, Nat.le_refl _⟩ (fun H locs hP hS => ?_)
  exact x_iret hx hb hr hlocks hK hP hS h dX11_picks_22
theorem in_X11_order_X5 : ∀ w ∈ wsX50, w ∈ wsX11_order := fun _ h => (List.mem_cons_of_mem _ (List.mem_append_left _ (List.mem_append_left _ (List.mem_append_left _ (List.mem_append_left _ (List.mem_append_left _ (List.mem_append_right _ h)))))))
theorem in_X11_order_X11 : ∀ w ∈ wsX110, w ∈ wsX11_order := fun _ h => (List.mem_cons_of_mem _ (List.mem_append_left _ (List.mem_append_left _ (List.mem_append_left _ (List.mem_append_left _ (List.mem_append_left _ (List.mem_append_left _ (List.mem_append_right _ h))))))))
def fn_X11_order  (z : St) : Option (Int32 × St) := bd (fn_X5_findOrder  171 z) (fun r2 z3 => nm (sI z3 0 14 r2) (fun z4 => (if (z4.1 0 14) = 0 then some ((-1000000000), z4) else some ((z4.1 156 11), z4))))
set_option maxHeartbeats 4000000 in
set_option maxRecDepth 100000 in
theorem m_X11_order {l : Launch} {G : wG} (hG : Ok G)  {z : St} {Rz : Int32 × St}  (h : fn_X11_order   z = some Rz) : Met l yX11_order wsX11_order (rmd 30) (va_Pc [.ref (G.2.2 0)] (Pre G z)) (va_Qi (fun r u => (r, u) = Rz) (Pre G) (AW G)) 0 0 (AW G) := by
  refine Met.ofW (cc := cX11_order) (maxL := 1) (ret := (some .int)) (by decide) rfl ?_
  intro p e s m args below meth c s₁ B hml hv
  obtain ⟨rfl, hP, hK⟩ := hv
  have C : CX p s m ([.ref (G.2.2 0)] : List Value).toArray meth c cX11_order 1 wsX11_order RX11 (some .int) G := ⟨B.exec, B.bytes, hml, findClass_of_methodNamed B.named, atoms_spec (ws := wsX11_order) B.pre, B.returns, B.notSynchronized, hK, hG⟩
  obtain ⟨hx, hb, -, hown, hts, hr, hlocks, -, -⟩ := id C
  have hS : va_S (AW G) s.heap s.heap [] := va_S.rf
  have hl := lv_entry [.ref (G.2.2 0)] (n := 1) (Nat.le_of_ble_eq_true rfl)
  rw [lg_entry_eq]
  generalize (lg_sl [.ref (G.2.2 0)] ++ List.replicate (1 - (lg_sl [.ref (G.2.2 0)]).length) Slot.unset).toArray = ls at hl ⊢
  have hl : lv_has ls 1 [(0, .ref (G.2.2 0))] := hl
  unfold fn_X11_order at h
  refine lv_aload_n hx hb dX11_order_0 rfl (lv_at hl 0 rfl) ?_
  refine lv_aload_n hx hb dX11_order_1 rfl (lv_at hl 0 rfl) ?_
  refine ge_11_10 hx hb hts in_X11_order_X11 hown hK hP k_0 (hts _ (List.mem_of_getElem? (i := 1) rfl)) dX11_order_2 ?_
  refine lv_aload_n hx hb dX11_order_5 rfl (lv_at hl 0 rfl) ?_
  refine ge_11_13 hx hb hts in_X11_order_X11 hown hK hP k_0 (hts _ (List.mem_of_getElem? (i := 2) rfl)) dX11_order_6 ?_
  obtain ⟨r2, z3, h1, h⟩ := bd_s h
  refine x_Vi (Rz := (r2, z3)) (As := [.ref (G.2.2 171)]) (rest := [.ref (G.2.2 0)]) ⟨hx, hb, hml, hown, hts⟩ hK hP hS (kd_lt k_156 (by decide)) (cell_5 k_156) rfl (m_X5_findOrder hG  k_171 h1) (cwV 1 hts gX11_order_X5_findOrder rfl rfl rfl (by decide +kernel) (rmd_ok (by decide) (by decide))) rfl hl.1 rfl (Nat.le_of_ble_eq_true rfl) dX11_order_9 ⟨Nat.le_refl _, Nat.le_refl _⟩ (fun H locs hP hS => ?_)
  obtain ⟨z4, e_z4, h⟩ := nm_s h
  refine pu_11_14 hx hb hts in_X11_order_X11 hown hK hG hP hS k_0 (hts _ (List.mem_of_getElem? (i := 3) rfl)) dX11_order_12 (fun H locs hP hS => ?_)
  rw [← e_z4] at hP
  refine lv_aload_n hx hb dX11_order_15 rfl (lv_at hl 0 rfl) ?_
  refine ge_11_14 hx hb hts in_X11_order_X11 hown hK hP k_0 (hts _ (List.mem_of_getElem? (i := 3) rfl)) dX11_order_16 ?_
  refine lv_if_ne (tgt := 27) hx hb dX11_order_19 (by decide) (fun c5 => ?_) (fun c5 => ?_)
  · rw [if_neg c5] at h
    refine lv_aload_n hx hb dX11_order_27 rfl (lv_at hl 0 rfl) ?_
    refine ge_11_10 hx hb hts in_X11_order_X11 hown hK hP k_0 (hts _ (List.mem_of_getElem? (i := 1) rfl)) dX11_order_28 ?_
    refine ge_5_11 hx hb hts in_X11_order_X5 hown hK hP k_156 (hts _ (List.mem_of_getElem? (i := 5) rfl)) dX11_order_31 ?_
    exact x_iret hx hb hr hlocks hK hP hS h dX11_order_34
  · rw [if_pos c5] at h
    refine lv_ldc (v := (-1000000000)) hx hb hown (hts _ (List.mem_of_getElem? (i := 4) rfl)) dX11_order_22 ?_
    refine lv_goto (tgt := 34) hx hb dX11_order_24 (by decide) ?_
    exact x_iret hx hb hr hlocks hK hP hS h dX11_order_34
theorem in_X11_best_X11 : ∀ w ∈ wsX110, w ∈ wsX11_best := fun _ h => (List.mem_cons_of_mem _ (List.mem_append_left _ (List.mem_append_left _ (List.mem_append_left _ (List.mem_append_left _ (List.mem_append_left _ (List.mem_append_right _ h)))))))
theorem in_X11_best_X1 : ∀ w ∈ wsX10, w ∈ wsX11_best := fun _ h => (List.mem_cons_of_mem _ (List.mem_append_left _ (List.mem_append_left _ (List.mem_append_left _ (List.mem_append_left _ (List.mem_append_right _ h))))))
def fn_X11_best_74 (k20 : Int32 → Int32 → Int32 → Int32 → St → Option (Int32 × St)) (v1 : Int32) (v2 : Int32) (v3 : Int32) (v4 : Int32) (z : St) : Option (Int32 × St) := k20 v1 v2 v3 (v4 + 1) z
set_option maxHeartbeats 4000000 in
set_option maxRecDepth 100000 in
theorem pf_X11_best_74 {p : Program} {l : Launch} {e : Env} {s : State} {m : MethodId} {args : Array Value} {below : List Frame} {meth : Method} {c : Code} {G : wG} (C : CX p s m args meth c cX11_best 6 wsX11_best RX11 (some .int) G) {Rz : Int32 × St} {k20 : Int32 → Int32 → Int32 → Int32 → St → Option (Int32 × St)} (hk_20 : ∀ (v1 : Int32) (v2 : Int32) (v3 : Int32) (v4 : Int32) (z : St)  (H : Heap) (locs : List Loc) (ls : Array Slot), WP G z H → va_S (AW G) s.heap H locs → lv_has ls 6 [(0, .ref (G.2.2 0)), (1, .int v1), (2, .int v2), (3, .int v3), (4, .int v4)] → k20 v1 v2 v3 v4 z = some Rz → W p l e (rmd 6) s m args below meth c H locs 0 0 (QI below args s G Rz) (F0 m 20 ls [])) (v1 : Int32) (v2 : Int32) (v3 : Int32) (v4 : Int32) (z : St)  {H : Heap} {locs : List Loc} {ls : Array Slot} (hP : WP G z H) (hS : va_S (AW G) s.heap H locs) (hl : lv_has ls 6 [(0, .ref (G.2.2 0)), (1, .int v1), (2, .int v2), (3, .int v3), (4, .int v4)]) (h : fn_X11_best_74  k20 v1 v2 v3 v4 z = some Rz) : W p l e (rmd 6) s m args below meth c H locs 0 0 (QI below args s G Rz) (F0 m 74 ls []) := by
  obtain ⟨hx, hb, hml, hown, hts, hr, hlocks, hK, hG⟩ := id C
  unfold fn_X11_best_74 at h
  refine lv_iinc (v := (v4 + 1)) (lv' := [(4, .int (v4 + 1)), (0, .ref (G.2.2 0)), (1, .int v1), (2, .int v2), (3, .int v3)]) hx hb dX11_best_74 hl (k := 4) rfl rfl (by decide) rfl (fun ls hl => ?_)
  refine lv_goto (tgt := 20) hx hb dX11_best_77 (by decide) ?_
  exact hk_20 v1 v2 v3 (v4 + 1) z  _ _ _ hP hS (lv_sub hl [1, 2, 3, 4, 0] rfl) h
def fn_X11_best_68 (k20 : Int32 → Int32 → Int32 → Int32 → St → Option (Int32 × St)) (v1 : Int32) (v4 : Int32) (v5 : Int32) (z : St) : Option (Int32 × St) := fn_X11_best_74  k20 v1 v4 v5 v4 z
set_option maxHeartbeats 4000000 in
set_option maxRecDepth 100000 in
theorem pf_X11_best_68 {p : Program} {l : Launch} {e : Env} {s : State} {m : MethodId} {args : Array Value} {below : List Frame} {meth : Method} {c : Code} {G : wG} (C : CX p s m args meth c cX11_best 6 wsX11_best RX11 (some .int) G) {Rz : Int32 × St} {k20 : Int32 → Int32 → Int32 → Int32 → St → Option (Int32 × St)} (hk_20 : ∀ (v1 : Int32) (v2 : Int32) (v3 : Int32) (v4 : Int32) (z : St)  (H : Heap) (locs : List Loc) (ls : Array Slot), WP G z H → va_S (AW G) s.heap H locs → lv_has ls 6 [(0, .ref (G.2.2 0)), (1, .int v1), (2, .int v2), (3, .int v3), (4, .int v4)] → k20 v1 v2 v3 v4 z = some Rz → W p l e (rmd 6) s m args below meth c H locs 0 0 (QI below args s G Rz) (F0 m 20 ls [])) (v1 : Int32) (v4 : Int32) (v5 : Int32) (z : St)  {H : Heap} {locs : List Loc} {ls : Array Slot} (hP : WP G z H) (hS : va_S (AW G) s.heap H locs) (hl : lv_has ls 6 [(0, .ref (G.2.2 0)), (1, .int v1), (4, .int v4), (5, .int v5)]) (h : fn_X11_best_68  k20 v1 v4 v5 z = some Rz) : W p l e (rmd 6) s m args below meth c H locs 0 0 (QI below args s G Rz) (F0 m 68 ls []) := by
  obtain ⟨hx, hb, hml, hown, hts, hr, hlocks, hK, hG⟩ := id C
  unfold fn_X11_best_68 at h
  refine lv_iload hx hb dX11_best_68 (lv_at hl 2 rfl) ?_
  refine lv_istore_n (lv' := [(2, .int v4), (0, .ref (G.2.2 0)), (1, .int v1), (4, .int v4), (5, .int v5)]) hx hb dX11_best_70 rfl hl (by decide) rfl (fun ls hl => ?_)
  refine lv_iload hx hb dX11_best_71 (lv_at hl 4 rfl) ?_
  refine lv_istore_n (lv' := [(3, .int v5), (2, .int v4), (0, .ref (G.2.2 0)), (1, .int v1), (4, .int v4), (5, .int v5)]) hx hb dX11_best_73 rfl hl (by decide) rfl (fun ls hl => ?_)
  exact pf_X11_best_74 C  hk_20 v1 v4 v5 v4 z  hP hS (lv_sub hl [2, 3, 1, 0, 4] rfl) h
def fn_X11_best_20 : Nat → Int32 → Int32 → Int32 → Int32 → St → Option (Int32 × St)
  | 0, _, _, _, _, _ => none
  | n + 1, v1, v2, v3, v4, z => (if (z.1 34 2) ≤ v4 then some (v2, z) else bd (fn_X1_isFree  34 v4 z) (fun r3 z4 => (if r3 = 0 then fn_X11_best_74  (fn_X11_best_20   n) v1 v2 v3 v4 z4 else bd (fn_X10_ofPiece  v1 v4 0 z4) (fun r7 z8 => (if v2 = (-1) then fn_X11_best_68  (fn_X11_best_20   n) v1 v4 r7 z8 else (if r7 ≤ v3 then fn_X11_best_74  (fn_X11_best_20   n) v1 v2 v3 v4 z8 else fn_X11_best_68  (fn_X11_best_20   n) v1 v4 r7 z8))))))
set_option maxHeartbeats 4000000 in
set_option maxRecDepth 100000 in
theorem pf_X11_best_20 {p : Program} {l : Launch} {e : Env} {s : State} {m : MethodId} {args : Array Value} {below : List Frame} {meth : Method} {c : Code} {G : wG} (C : CX p s m args meth c cX11_best 6 wsX11_best RX11 (some .int) G) {Rz : Int32 × St} : ∀ (n : Nat) (v1 : Int32) (v2 : Int32) (v3 : Int32) (v4 : Int32) (z : St)  (H : Heap) (locs : List Loc) (ls : Array Slot), WP G z H → va_S (AW G) s.heap H locs → lv_has ls 6 [(0, .ref (G.2.2 0)), (1, .int v1), (2, .int v2), (3, .int v3), (4, .int v4)] → fn_X11_best_20   n v1 v2 v3 v4 z = some Rz → W p l e (rmd 6) s m args below meth c H locs 0 0 (QI below args s G Rz) (F0 m 20 ls []) := by
  obtain ⟨hx, hb, hml, hown, hts, hr, hlocks, hK, hG⟩ := id C
  intro n
  induction n with
  | zero => intro v1 v2 v3 v4 z  H locs ls hP hS hl h; cases h
  | succ n ih =>
    intro v1 v2 v3 v4 z  H locs ls hP hS hl h
    rw [fn_X11_best_20] at h
    refine lv_iload hx hb dX11_best_20 (lv_at hl 4 rfl) ?_
    refine lv_aload_n hx hb dX11_best_22 rfl (lv_at hl 0 rfl) ?_
    refine ge_11_5 hx hb hts in_X11_best_X11 hown hK hP k_0 (hts _ (List.mem_of_getElem? (i := 2) rfl)) dX11_best_23 ?_
    refine ge_1_2 hx hb hts in_X11_best_X1 hown hK hP k_34 (hts _ (List.mem_of_getElem? (i := 3) rfl)) dX11_best_26 ?_
    refine lv_icmp_ge (tgt := 80) hx hb dX11_best_29 (by decide) (fun c1 => ?_) (fun c1 => ?_)
    · rw [if_pos c1] at h
      refine lv_iload_n hx hb dX11_best_80 rfl (lv_at hl 2 rfl) ?_
      exact x_iret hx hb hr hlocks hK hP hS h dX11_best_81
    · rw [if_neg c1] at h
      refine lv_aload_n hx hb dX11_best_32 rfl (lv_at hl 0 rfl) ?_
      refine ge_11_5 hx hb hts in_X11_best_X11 hown hK hP k_0 (hts _ (List.mem_of_getElem? (i := 2) rfl)) dX11_best_33 ?_
      refine lv_iload hx hb dX11_best_36 (lv_at hl 4 rfl) ?_
      obtain ⟨r3, z4, h2, h⟩ := bd_s h
      refine x_Vi (Rz := (r3, z4)) (As := [.int v4]) (rest := []) ⟨hx, hb, hml, hown, hts⟩ hK hP hS (kd_lt k_34 (by decide)) (cell_1 k_34) rfl (m_X1_isFree hG  k_34 h2) (cwV 1 hts gX11_best_X1_isFree rfl rfl rfl (by decide +kernel) (rmd_ok (by decide) (by decide))) rfl hl.1 rfl (Nat.le_of_ble_eq_true rfl) dX11_best_38 ⟨Nat.le_refl _, Nat.le_refl _⟩ (fun H locs hP hS => ?_)
      refine lv_if_eq (tgt := 74) hx hb dX11_best_41 (by decide) (fun c5 => ?_) (fun c5 => ?_)
      · rw [if_pos c5] at h
        exact pf_X11_best_74 C  ih v1 v2 v3 v4 z4  hP hS (lv_sub hl [0, 1, 2, 3, 4] rfl) h
      · rw [if_neg c5] at h
        refine lv_aload_n hx hb dX11_best_44 rfl (lv_at hl 0 rfl) ?_
        refine ge_11_7 hx hb hts in_X11_best_X11 hown hK hP k_0 (hts _ (List.mem_of_getElem? (i := 4) rfl)) dX11_best_45 ?_
        refine lv_iload_n hx hb dX11_best_48 rfl (lv_at hl 1 rfl) ?_
        refine lv_iload hx hb dX11_best_49 (lv_at hl 4 rfl) ?_
        refine lv_iconst (v := 0) hx hb dX11_best_51 (by decide) ?_
        obtain ⟨r7, z8, h6, h⟩ := bd_s h
        refine x_Vi (Rz := (r7, z8)) (As := [.int v1, .int v4, .int 0]) (rest := []) ⟨hx, hb, hml, hown, hts⟩ hK hP hS (kd_lt k_143 (by decide)) (cell_10 k_143) rfl (m_X10_ofPiece hG   h6) (cwV 3 hts gX11_best_X10_ofPiece rfl rfl rfl (by decide +kernel) (rmd_ok (by decide) (by decide))) rfl hl.1 rfl (Nat.le_of_ble_eq_true rfl) dX11_best_52 ⟨Nat.le_refl _, Nat.le_refl _⟩ (fun H locs hP hS => ?_)
        refine lv_istore (lv' := [(5, .int r7), (0, .ref (G.2.2 0)), (1, .int v1), (2, .int v2), (3, .int v3), (4, .int v4)]) hx hb dX11_best_55 hl (by decide) rfl (fun ls hl => ?_)
        refine lv_iload_n hx hb dX11_best_57 rfl (lv_at hl 3 rfl) ?_
        refine lv_iconst (v := (-1)) hx hb dX11_best_58 (by decide) ?_
        refine lv_icmp_eq (tgt := 68) hx hb dX11_best_59 (by decide) (fun c9 => ?_) (fun c9 => ?_)
        · rw [if_pos c9] at h
          exact pf_X11_best_68 C  ih v1 v4 r7 z8  hP hS (lv_sub hl [1, 2, 5, 0] rfl) h
        · rw [if_neg c9] at h
          refine lv_iload hx hb dX11_best_62 (lv_at hl 0 rfl) ?_
          refine lv_iload_n hx hb dX11_best_64 rfl (lv_at hl 4 rfl) ?_
          refine lv_icmp_le (tgt := 74) hx hb dX11_best_65 (by decide) (fun c10 => ?_) (fun c10 => ?_)
          · rw [if_pos c10] at h
            exact pf_X11_best_74 C  ih v1 v2 v3 v4 z8  hP hS (lv_sub hl [1, 2, 3, 4, 5] rfl) h
          · rw [if_neg c10] at h
            exact pf_X11_best_68 C  ih v1 v4 r7 z8  hP hS (lv_sub hl [1, 2, 5, 0] rfl) h
def fn_X11_best (v1 : Int32) (z : St) : Option (Int32 × St) := bd (fn_X7_isGuest  2 v1 z) (fun r2 z3 => (if r2 = 0 then some ((-1), z3) else fn_X11_best_20   fu v1 (-1) 0 0 z3))
set_option maxHeartbeats 4000000 in
set_option maxRecDepth 100000 in
theorem m_X11_best {l : Launch} {G : wG} (hG : Ok G) {v1 : Int32} {z : St} {Rz : Int32 × St}  (h : fn_X11_best  v1 z = some Rz) : Met l yX11_best wsX11_best (rmd 6) (va_Pc [.ref (G.2.2 0), .int v1] (Pre G z)) (va_Qi (fun r u => (r, u) = Rz) (Pre G) (AW G)) 0 0 (AW G) := by
  refine Met.ofW (cc := cX11_best) (maxL := 6) (ret := (some .int)) (by decide) rfl ?_
  intro p e s m args below meth c s₁ B hml hv
  obtain ⟨rfl, hP, hK⟩ := hv
  have C : CX p s m ([.ref (G.2.2 0), .int v1] : List Value).toArray meth c cX11_best 6 wsX11_best RX11 (some .int) G := ⟨B.exec, B.bytes, hml, findClass_of_methodNamed B.named, atoms_spec (ws := wsX11_best) B.pre, B.returns, B.notSynchronized, hK, hG⟩
  obtain ⟨hx, hb, -, hown, hts, hr, hlocks, -, -⟩ := id C
  have hS : va_S (AW G) s.heap s.heap [] := va_S.rf
  have hl := lv_entry [.ref (G.2.2 0), .int v1] (n := 6) (Nat.le_of_ble_eq_true rfl)
  rw [lg_entry_eq]
  generalize (lg_sl [.ref (G.2.2 0), .int v1] ++ List.replicate (6 - (lg_sl [.ref (G.2.2 0), .int v1]).length) Slot.unset).toArray = ls at hl ⊢
  have hl : lv_has ls 6 [(0, .ref (G.2.2 0)), (1, .int v1)] := hl
  unfold fn_X11_best at h
  refine lv_aload_n hx hb dX11_best_0 rfl (lv_at hl 0 rfl) ?_
  refine ge_11_2 hx hb hts in_X11_best_X11 hown hK hP k_0 (hts _ (List.mem_of_getElem? (i := 1) rfl)) dX11_best_1 ?_
  refine lv_iload_n hx hb dX11_best_4 rfl (lv_at hl 1 rfl) ?_
  obtain ⟨r2, z3, h1, h⟩ := bd_s h
  refine x_Vi (Rz := (r2, z3)) (As := [.int v1]) (rest := []) ⟨hx, hb, hml, hown, hts⟩ hK hP hS (kd_lt k_2 (by decide)) (cell_7 k_2) rfl (m_X7_isGuest hG  k_2 h1) (cwV 1 hts gX11_best_X7_isGuest rfl rfl rfl (by decide +kernel) (rmd_ok (by decide) (by decide))) rfl hl.1 rfl (Nat.le_of_ble_eq_true rfl) dX11_best_5 ⟨Nat.le_refl _, Nat.le_refl _⟩ (fun H locs hP hS => ?_)
  refine lv_if_ne (tgt := 13) hx hb dX11_best_8 (by decide) (fun c4 => ?_) (fun c4 => ?_)
  · rw [if_neg c4] at h
    refine lv_iconst (v := (-1)) hx hb dX11_best_13 (by decide) ?_
    refine lv_istore_n (lv' := [(2, .int (-1)), (0, .ref (G.2.2 0)), (1, .int v1)]) hx hb dX11_best_14 rfl hl (by decide) rfl (fun ls hl => ?_)
    refine lv_iconst (v := 0) hx hb dX11_best_15 (by decide) ?_
    refine lv_istore_n (lv' := [(3, .int 0), (2, .int (-1)), (0, .ref (G.2.2 0)), (1, .int v1)]) hx hb dX11_best_16 rfl hl (by decide) rfl (fun ls hl => ?_)
    refine lv_iconst (v := 0) hx hb dX11_best_17 (by decide) ?_
    refine lv_istore (lv' := [(4, .int 0), (3, .int 0), (2, .int (-1)), (0, .ref (G.2.2 0)), (1, .int v1)]) hx hb dX11_best_18 hl (by decide) rfl (fun ls hl => ?_)
    exact pf_X11_best_20 C   fu v1 (-1) 0 0 z3  _ _ _ hP hS (lv_sub hl [3, 4, 2, 1, 0] rfl) h
  · rw [if_pos c4] at h
    refine lv_iconst (v := (-1)) hx hb dX11_best_11 (by decide) ?_
    exact x_iret hx hb hr hlocks hK hP hS h dX11_best_12
theorem in_X11_lies_X11 : ∀ w ∈ wsX110, w ∈ wsX11_lies := fun _ h => (List.mem_cons_of_mem _ (List.mem_append_right _ h))
def fn_X11_lies (v1 : Int32) (z : St) : Option (Int32 × St) := (if v1 < 0 then some ((-2), z) else (if (z.1 0 14) ≤ v1 then some ((-2), z) else (if v1 < 6 then gd (ix v1 6) (some ((z.1 171 (Int32.toNatClampNeg v1)), z)) else some ((-2), z))))
set_option maxHeartbeats 4000000 in
set_option maxRecDepth 100000 in
theorem m_X11_lies {l : Launch} {G : wG} (hG : Ok G) {v1 : Int32} {z : St} {Rz : Int32 × St}  (h : fn_X11_lies  v1 z = some Rz) : Met l yX11_lies wsX11_lies (rmd 1) (va_Pc [.ref (G.2.2 0), .int v1] (Pre G z)) (va_Qi (fun r u => (r, u) = Rz) (Pre G) (AW G)) 0 0 (AW G) := by
  refine Met.ofW (cc := cX11_lies) (maxL := 2) (ret := (some .int)) (by decide) rfl ?_
  intro p e s m args below meth c s₁ B hml hv
  obtain ⟨rfl, hP, hK⟩ := hv
  have C : CX p s m ([.ref (G.2.2 0), .int v1] : List Value).toArray meth c cX11_lies 2 wsX11_lies RX11 (some .int) G := ⟨B.exec, B.bytes, hml, findClass_of_methodNamed B.named, atoms_spec (ws := wsX11_lies) B.pre, B.returns, B.notSynchronized, hK, hG⟩
  obtain ⟨hx, hb, -, hown, hts, hr, hlocks, -, -⟩ := id C
  have hS : va_S (AW G) s.heap s.heap [] := va_S.rf
  have hl := lv_entry [.ref (G.2.2 0), .int v1] (n := 2) (Nat.le_of_ble_eq_true rfl)
  rw [lg_entry_eq]
  generalize (lg_sl [.ref (G.2.2 0), .int v1] ++ List.replicate (2 - (lg_sl [.ref (G.2.2 0), .int v1]).length) Slot.unset).toArray = ls at hl ⊢
  have hl : lv_has ls 2 [(0, .ref (G.2.2 0)), (1, .int v1)] := hl
  unfold fn_X11_lies at h
  refine lv_iload_n hx hb dX11_lies_0 rfl (lv_at hl 1 rfl) ?_
  refine lv_if_lt (tgt := 21) hx hb dX11_lies_1 (by decide) (fun c1 => ?_) (fun c1 => ?_)
  · rw [if_pos c1] at h
    refine lv_bipush (v := (-2)) hx hb dX11_lies_21 (by decide) ?_
    exact x_iret hx hb hr hlocks hK hP hS h dX11_lies_23
  · rw [if_neg c1] at h
    refine lv_iload_n hx hb dX11_lies_4 rfl (lv_at hl 1 rfl) ?_
    refine lv_aload_n hx hb dX11_lies_5 rfl (lv_at hl 0 rfl) ?_
    refine ge_11_14 hx hb hts in_X11_lies_X11 hown hK hP k_0 (hts _ (List.mem_of_getElem? (i := 1) rfl)) dX11_lies_6 ?_
    refine lv_icmp_ge (tgt := 21) hx hb dX11_lies_9 (by decide) (fun c2 => ?_) (fun c2 => ?_)
    · rw [if_pos c2] at h
      refine lv_bipush (v := (-2)) hx hb dX11_lies_21 (by decide) ?_
      exact x_iret hx hb hr hlocks hK hP hS h dX11_lies_23
    · rw [if_neg c2] at h
      refine lv_iload_n hx hb dX11_lies_12 rfl (lv_at hl 1 rfl) ?_
      refine lv_aload_n hx hb dX11_lies_13 rfl (lv_at hl 0 rfl) ?_
      refine ge_11_13 hx hb hts in_X11_lies_X11 hown hK hP k_0 (hts _ (List.mem_of_getElem? (i := 2) rfl)) dX11_lies_14 ?_
      refine xn_14 (v := 6) hx hb hK hP k_171 l_171 rfl dX11_lies_17 ?_
      refine lv_icmp_lt (tgt := 24) hx hb dX11_lies_18 (by decide) (fun c3 => ?_) (fun c3 => ?_)
      · rw [if_pos c3] at h
        refine lv_aload_n hx hb dX11_lies_24 rfl (lv_at hl 0 rfl) ?_
        refine ge_11_13 hx hb hts in_X11_lies_X11 hown hK hP k_0 (hts _ (List.mem_of_getElem? (i := 2) rfl)) dX11_lies_25 ?_
        refine lv_iload_n hx hb dX11_lies_28 rfl (lv_at hl 1 rfl) ?_
        obtain ⟨g4, h⟩ := gd_s h
        refine xl_14 hx hb hK hP k_171 l_171 (ix_in g4) dX11_lies_29 ?_
        exact x_iret hx hb hr hlocks hK hP hS h dX11_lies_30
      · rw [if_neg c3] at h
        refine lv_bipush (v := (-2)) hx hb dX11_lies_21 (by decide) ?_
        exact x_iret hx hb hr hlocks hK hP hS h dX11_lies_23
theorem in_X11_canBeAlike_X11 : ∀ w ∈ wsX110, w ∈ wsX11_canBeAlike := fun _ h => (List.mem_cons_of_mem _ (List.mem_append_left _ (List.mem_append_right _ h)))
def fn_X11_canBeAlike (v1 : Int32) (v2 : Int32) (z : St) : Option (Int32 × St) := bd (fn_X7_isTier  2 v1 z) (fun r2 z3 => (if r2 = 0 then some (0, z3) else (if v2 < 1 then some (0, z3) else (if 64 < v2 then some (0, z3) else some (1, z3)))))
set_option maxHeartbeats 4000000 in
set_option maxRecDepth 100000 in
theorem m_X11_canBeAlike {l : Launch} {G : wG} (hG : Ok G) {v1 : Int32} {v2 : Int32} {z : St} {Rz : Int32 × St}  (h : fn_X11_canBeAlike  v1 v2 z = some Rz) : Met l yX11_canBeAlike wsX11_canBeAlike (rmd 2) (va_Pc [.ref (G.2.2 0), .int v1, .int v2] (Pre G z)) (va_Qi (fun r u => (r, u) = Rz) (Pre G) (AW G)) 0 0 (AW G) := by
  refine Met.ofW (cc := cX11_canBeAlike) (maxL := 3) (ret := (some .boolean)) (by decide) rfl ?_
  intro p e s m args below meth c s₁ B hml hv
  obtain ⟨rfl, hP, hK⟩ := hv
  have C : CX p s m ([.ref (G.2.2 0), .int v1, .int v2] : List Value).toArray meth c cX11_canBeAlike 3 wsX11_canBeAlike RX11 (some .boolean) G := ⟨B.exec, B.bytes, hml, findClass_of_methodNamed B.named, atoms_spec (ws := wsX11_canBeAlike) B.pre, B.returns, B.notSynchronized, hK, hG⟩
  obtain ⟨hx, hb, -, hown, hts, hr, hlocks, -, -⟩ := id C
  have hS : va_S (AW G) s.heap s.heap [] := va_S.rf
  have hl := lv_entry [.ref (G.2.2 0), .int v1, .int v2] (n := 3) (Nat.le_of_ble_eq_true rfl)
  rw [lg_entry_eq]
  generalize (lg_sl [.ref (G.2.2 0), .int v1, .int v2] ++ List.replicate (3 - (lg_sl [.ref (G.2.2 0), .int v1, .int v2]).length) Slot.unset).toArray = ls at hl ⊢
  have hl : lv_has ls 3 [(0, .ref (G.2.2 0)), (1, .int v1), (2, .int v2)] := hl
  unfold fn_X11_canBeAlike at h
  refine lv_aload_n hx hb dX11_canBeAlike_0 rfl (lv_at hl 0 rfl) ?_
  refine ge_11_2 hx hb hts in_X11_canBeAlike_X11 hown hK hP k_0 (hts _ (List.mem_of_getElem? (i := 1) rfl)) dX11_canBeAlike_1 ?_
  refine lv_iload_n hx hb dX11_canBeAlike_4 rfl (lv_at hl 1 rfl) ?_
  obtain ⟨r2, z3, h1, h⟩ := bd_s h
  refine x_Vi (Rz := (r2, z3)) (As := [.int v1]) (rest := []) ⟨hx, hb, hml, hown, hts⟩ hK hP hS (kd_lt k_2 (by decide)) (cell_7 k_2) rfl (m_X7_isTier hG  k_2 h1) (cwV 1 hts gX11_canBeAlike_X7_isTier rfl rfl rfl (by decide +kernel) (rmd_ok (by decide) (by decide))) rfl hl.1 rfl (Nat.le_of_ble_eq_true rfl) dX11_canBeAlike_5 ⟨Nat.le_refl _, Nat.le_refl _⟩ (fun H locs hP hS => ?_)
  refine lv_if_eq (tgt := 26) hx hb dX11_canBeAlike_8 (by decide) (fun c4 => ?_) (fun c4 => ?_)
  · rw [if_pos c4] at h
    refine lv_iconst (v := 0) hx hb dX11_canBeAlike_26 (by decide) ?_
    exact x_zret hx hb hr hlocks hK hP hS rfl h dX11_canBeAlike_27
  · rw [if_neg c4] at h
    refine lv_iload_n hx hb dX11_canBeAlike_11 rfl (lv_at hl 2 rfl) ?_
    refine lv_iconst (v := 1) hx hb dX11_canBeAlike_12 (by decide) ?_
    refine lv_icmp_lt (tgt := 26) hx hb dX11_canBeAlike_13 (by decide) (fun c5 => ?_) (fun c5 => ?_)
    · rw [if_pos c5] at h
      refine lv_iconst (v := 0) hx hb dX11_canBeAlike_26 (by decide) ?_
      exact x_zret hx hb hr hlocks hK hP hS rfl h dX11_canBeAlike_27
    · rw [if_neg c5] at h
      refine lv_iload_n hx hb dX11_canBeAlike_16 rfl (lv_at hl 2 rfl) ?_
      refine lv_bipush (v := 64) hx hb dX11_canBeAlike_17 (by decide) ?_
      refine lv_icmp_gt (tgt := 26) hx hb dX11_canBeAlike_19 (by decide) (fun c6 => ?_) (fun c6 => ?_)
      · rw [if_pos c6] at h
        refine lv_iconst (v := 0) hx hb dX11_canBeAlike_26 (by decide) ?_
        exact x_zret hx hb hr hlocks hK hP hS rfl h dX11_canBeAlike_27
      · rw [if_neg c6] at h
        refine lv_iconst (v := 1) hx hb dX11_canBeAlike_22 (by decide) ?_
        refine lv_goto (tgt := 27) hx hb dX11_canBeAlike_23 (by decide) ?_
        exact x_zret hx hb hr hlocks hK hP hS rfl h dX11_canBeAlike_27
theorem in_X11_grid_X7 : ∀ w ∈ wsX70, w ∈ wsX11_grid := fun _ h => (List.mem_cons_of_mem _ (List.mem_append_left _ (List.mem_append_right _ h)))
theorem in_X11_grid_X3 : ∀ w ∈ wsX30, w ∈ wsX11_grid := fun _ h => (List.mem_cons_of_mem _ (List.mem_append_right _ h))
theorem in_X11_grid_X11 : ∀ w ∈ wsX110, w ∈ wsX11_grid := fun _ h => (List.mem_cons_of_mem _ (List.mem_append_left _ (List.mem_append_left _ (List.mem_append_right _ h))))
def fn_X11_grid (v1 : Int32) (v2 : Int32) (v3 : Int32) (z : St) : Option (Int32 × St) := bd (fn_X11_canBeAlike  v1 v2 z) (fun r2 z3 => (if r2 = 0 then some ((-1), z3) else gd (ix v1 3) (gd (ix v1 3) (bd (fn_X3_search  (z3.1 4 (Int32.toNatClampNeg v1)) (z3.1 5 (Int32.toNatClampNeg v1)) v2 z3) (fun r8 z9 => (if r8 = 0 then some ((-1), z9) else (if v3 = 0 then some ((z9.1 161 0), z9) else (if v3 = 1 then some ((z9.1 161 1), z9) else (if v3 = 2 then some ((z9.1 161 2), z9) else (if v3 = 3 then some ((z9.1 161 3), z9) else (some ((-1), z9))))))))))))
set_option maxHeartbeats 4000000 in
set_option maxRecDepth 100000 in
theorem m_X11_grid {l : Launch} {G : wG} (hG : Ok G) {v1 : Int32} {v2 : Int32} {v3 : Int32} {z : St} {Rz : Int32 × St}  (h : fn_X11_grid  v1 v2 v3 z = some Rz) : Met l yX11_grid wsX11_grid (rmd 4) (va_Pc [.ref (G.2.2 0), .int v1, .int v2, .int v3] (Pre G z)) (va_Qi (fun r u => (r, u) = Rz) (Pre G) (AW G)) 0 0 (AW G) := by
  refine Met.ofW (cc := cX11_grid) (maxL := 4) (ret := (some .int)) (by decide) rfl ?_
  intro p e s m args below meth c s₁ B hml hv
  obtain ⟨rfl, hP, hK⟩ := hv
  have C : CX p s m ([.ref (G.2.2 0), .int v1, .int v2, .int v3] : List Value).toArray meth c cX11_grid 4 wsX11_grid RX11 (some .int) G := ⟨B.exec, B.bytes, hml, findClass_of_methodNamed B.named, atoms_spec (ws := wsX11_grid) B.pre, B.returns, B.notSynchronized, hK, hG⟩
  obtain ⟨hx, hb, -, hown, hts, hr, hlocks, -, -⟩ := id C
  have hS : va_S (AW G) s.heap s.heap [] := va_S.rf
  have hl := lv_entry [.ref (G.2.2 0), .int v1, .int v2, .int v3] (n := 4) (Nat.le_of_ble_eq_true rfl)
  rw [lg_entry_eq]
  generalize (lg_sl [.ref (G.2.2 0), .int v1, .int v2, .int v3] ++ List.replicate (4 - (lg_sl [.ref (G.2.2 0), .int v1, .int v2, .int v3]).length) Slot.unset).toArray = ls at hl ⊢
  have hl : lv_has ls 4 [(0, .ref (G.2.2 0)), (1, .int v1), (2, .int v2), (3, .int v3)] := hl
  unfold fn_X11_grid at h
  refine lv_aload_n hx hb dX11_grid_0 rfl (lv_at hl 0 rfl) ?_
  refine lv_iload_n hx hb dX11_grid_1 rfl (lv_at hl 1 rfl) ?_
  refine lv_iload_n hx hb dX11_grid_2 rfl (lv_at hl 2 rfl) ?_
  obtain ⟨r2, z3, h1, h⟩ := bd_s h
  refine x_Vi (Rz := (r2, z3)) (As := [.int v1, .int v2]) (rest := []) ⟨hx, hb, hml, hown, hts⟩ hK hP hS (kd_lt k_0 (by decide)) (cell_11 k_0) rfl (m_X11_canBeAlike hG   h1) (cwV 2 hts gX11_grid_X11_canBeAlike rfl rfl rfl (by decide +kernel) (rmd_ok (by decide) (by decide))) rfl hl.1 rfl (Nat.le_of_ble_eq_true rfl) dX11_grid_3 ⟨Nat.le_refl _, Nat.le_refl _⟩ (fun H locs hP hS => ?_)
  refine lv_if_eq (tgt := 38) hx hb dX11_grid_6 (by decide) (fun c4 => ?_) (fun c4 => ?_)
  · rw [if_pos c4] at h
    refine lv_iconst (v := (-1)) hx hb dX11_grid_38 (by decide) ?_
    exact x_iret hx hb hr hlocks hK hP hS h dX11_grid_39
  · rw [if_neg c4] at h
    refine lv_aload_n hx hb dX11_grid_9 rfl (lv_at hl 0 rfl) ?_
    refine ge_11_11 hx hb hts in_X11_grid_X11 hown hK hP k_0 (hts _ (List.mem_of_getElem? (i := 1) rfl)) dX11_grid_10 ?_
    refine lv_aload_n hx hb dX11_grid_13 rfl (lv_at hl 0 rfl) ?_
    refine ge_11_2 hx hb hts in_X11_grid_X11 hown hK hP k_0 (hts _ (List.mem_of_getElem? (i := 2) rfl)) dX11_grid_14 ?_
    refine ge_7_2 hx hb hts in_X11_grid_X7 hown hK hP k_2 (hts _ (List.mem_of_getElem? (i := 3) rfl)) dX11_grid_17 ?_
    refine lv_iload_n hx hb dX11_grid_20 rfl (lv_at hl 1 rfl) ?_
    obtain ⟨g5, h⟩ := gd_s h
    refine xl_14 hx hb hK hP k_4 l_4 (ix_in g5) dX11_grid_21 ?_
    refine lv_aload_n hx hb dX11_grid_22 rfl (lv_at hl 0 rfl) ?_
    refine ge_11_2 hx hb hts in_X11_grid_X11 hown hK hP k_0 (hts _ (List.mem_of_getElem? (i := 2) rfl)) dX11_grid_23 ?_
    refine ge_7_3 hx hb hts in_X11_grid_X7 hown hK hP k_2 (hts _ (List.mem_of_getElem? (i := 4) rfl)) dX11_grid_26 ?_
    refine lv_iload_n hx hb dX11_grid_29 rfl (lv_at hl 1 rfl) ?_
    obtain ⟨g6, h⟩ := gd_s h
    refine xl_14 hx hb hK hP k_5 l_5 (ix_in g6) dX11_grid_30 ?_
    refine lv_iload_n hx hb dX11_grid_31 rfl (lv_at hl 2 rfl) ?_
    obtain ⟨r8, z9, h7, h⟩ := bd_s h
    refine x_Vi (Rz := (r8, z9)) (As := [.int (z3.1 4 (Int32.toNatClampNeg v1)), .int (z3.1 5 (Int32.toNatClampNeg v1)), .int v2]) (rest := []) ⟨hx, hb, hml, hown, hts⟩ hK hP hS (kd_lt k_161 (by decide)) (cell_3 k_161) rfl (m_X3_search hG   h7) (cwV 3 hts gX11_grid_X3_search rfl rfl rfl (by decide +kernel) (rmd_ok (by decide) (by decide))) rfl hl.1 rfl (Nat.le_of_ble_eq_true rfl) dX11_grid_32 ⟨Nat.le_refl _, Nat.le_refl _⟩ (fun H locs hP hS => ?_)
    refine lv_if_ne (tgt := 40) hx hb dX11_grid_35 (by decide) (fun c10 => ?_) (fun c10 => ?_)
    · rw [if_neg c10] at h
      refine lv_iload_n hx hb dX11_grid_40 rfl (lv_at hl 3 rfl) ?_
      by_cases c11 : v3 = 0
      · rw [if_pos c11] at h
        refine lv_tableIn (off := 31) (tgt := 72) hx hb dX11_grid_41 (by rw [c11]; decide) (by rw [c11]; decide) (by rw [c11]; rfl) (by decide) ?_
        refine lv_aload_n hx hb dX11_grid_72 rfl (lv_at hl 0 rfl) ?_
        refine ge_11_11 hx hb hts in_X11_grid_X11 hown hK hP k_0 (hts _ (List.mem_of_getElem? (i := 1) rfl)) dX11_grid_73 ?_
        refine ge_3_0 hx hb hts in_X11_grid_X3 hown hK hP k_161 (hts _ (List.mem_of_getElem? (i := 5) rfl)) dX11_grid_76 ?_
        exact x_iret hx hb hr hlocks hK hP hS h dX11_grid_79
      rw [if_neg c11] at h
      by_cases c12 : v3 = 1
      · rw [if_pos c12] at h
        refine lv_tableIn (off := 39) (tgt := 80) hx hb dX11_grid_41 (by rw [c12]; decide) (by rw [c12]; decide) (by rw [c12]; rfl) (by decide) ?_
        refine lv_aload_n hx hb dX11_grid_80 rfl (lv_at hl 0 rfl) ?_
        refine ge_11_11 hx hb hts in_X11_grid_X11 hown hK hP k_0 (hts _ (List.mem_of_getElem? (i := 1) rfl)) dX11_grid_81 ?_
        refine ge_3_1 hx hb hts in_X11_grid_X3 hown hK hP k_161 (hts _ (List.mem_of_getElem? (i := 6) rfl)) dX11_grid_84 ?_
        exact x_iret hx hb hr hlocks hK hP hS h dX11_grid_87
      rw [if_neg c12] at h
      by_cases c13 : v3 = 2
      · rw [if_pos c13] at h
        refine lv_tableIn (off := 47) (tgt := 88) hx hb dX11_grid_41 (by rw [c13]; decide) (by rw [c13]; decide) (by rw [c13]; rfl) (by decide) ?_
        refine lv_aload_n hx hb dX11_grid_88 rfl (lv_at hl 0 rfl) ?_
        refine ge_11_11 hx hb hts in_X11_grid_X11 hown hK hP k_0 (hts _ (List.mem_of_getElem? (i := 1) rfl)) dX11_grid_89 ?_
        refine ge_3_2 hx hb hts in_X11_grid_X3 hown hK hP k_161 (hts _ (List.mem_of_getElem? (i := 7) rfl)) dX11_grid_92 ?_
        exact x_iret hx hb hr hlocks hK hP hS h dX11_grid_95
      rw [if_neg c13] at h
      by_cases c14 : v3 = 3
      · rw [if_pos c14] at h
        refine lv_tableIn (off := 55) (tgt := 96) hx hb dX11_grid_41 (by rw [c14]; decide) (by rw [c14]; decide) (by rw [c14]; rfl) (by decide) ?_
        refine lv_aload_n hx hb dX11_grid_96 rfl (lv_at hl 0 rfl) ?_
        refine ge_11_11 hx hb hts in_X11_grid_X11 hown hK hP k_0 (hts _ (List.mem_of_getElem? (i := 1) rfl)) dX11_grid_97 ?_
        refine ge_3_3 hx hb hts in_X11_grid_X3 hown hK hP k_161 (hts _ (List.mem_of_getElem? (i := 8) rfl)) dX11_grid_100 ?_
        exact x_iret hx hb hr hlocks hK hP hS h dX11_grid_103
      rw [if_neg c14] at h
      have n15 : (v3 : Int32).toInt < 0 ∨ 3 < (v3 : Int32).toInt := by
        have c11_n := lv_neT (a := 0) c11 (by decide)
        have c12_n := lv_neT (a := 1) c12 (by decide)
        have c13_n := lv_neT (a := 2) c13 (by decide)
        have c14_n := lv_neT (a := 3) c14 (by decide)
        omega
      refine lv_tableOut (tgt := 104) hx hb dX11_grid_41 n15 (by decide) ?_
      refine lv_iconst (v := (-1)) hx hb dX11_grid_104 (by decide) ?_
      exact x_iret hx hb hr hlocks hK hP hS h dX11_grid_105
    · rw [if_pos c10] at h
      refine lv_iconst (v := (-1)) hx hb dX11_grid_38 (by decide) ?_
      exact x_iret hx hb hr hlocks hK hP hS h dX11_grid_39
theorem in_X11_ways_X7 : ∀ w ∈ wsX70, w ∈ wsX11_ways := fun _ h => (List.mem_cons_of_mem _ (List.mem_append_left _ (List.mem_append_right _ h)))
theorem in_X11_ways_X11 : ∀ w ∈ wsX110, w ∈ wsX11_ways := fun _ h => (List.mem_cons_of_mem _ (List.mem_append_left _ (List.mem_append_left _ (List.mem_append_right _ h))))
def fn_X11_ways (v1 : Int32) (v2 : Int32) (z : St) : Option (Int32 × St) := bd (fn_X11_canBeAlike  v1 v2 z) (fun r2 z3 => (if r2 = 0 then some ((-1), z3) else gd (ix v1 3) (gd (ix v1 3) (bd (fn_X3_search  (z3.1 4 (Int32.toNatClampNeg v1)) (z3.1 5 (Int32.toNatClampNeg v1)) v2 z3) (fun r8 z9 => some (r8, z9))))))
set_option maxHeartbeats 4000000 in
set_option maxRecDepth 100000 in
theorem m_X11_ways {l : Launch} {G : wG} (hG : Ok G) {v1 : Int32} {v2 : Int32} {z : St} {Rz : Int32 × St}  (h : fn_X11_ways  v1 v2 z = some Rz) : Met l yX11_ways wsX11_ways (rmd 4) (va_Pc [.ref (G.2.2 0), .int v1, .int v2] (Pre G z)) (va_Qi (fun r u => (r, u) = Rz) (Pre G) (AW G)) 0 0 (AW G) := by
  refine Met.ofW (cc := cX11_ways) (maxL := 3) (ret := (some .int)) (by decide) rfl ?_
  intro p e s m args below meth c s₁ B hml hv
  obtain ⟨rfl, hP, hK⟩ := hv
  have C : CX p s m ([.ref (G.2.2 0), .int v1, .int v2] : List Value).toArray meth c cX11_ways 3 wsX11_ways RX11 (some .int) G := ⟨B.exec, B.bytes, hml, findClass_of_methodNamed B.named, atoms_spec (ws := wsX11_ways) B.pre, B.returns, B.notSynchronized, hK, hG⟩
  obtain ⟨hx, hb, -, hown, hts, hr, hlocks, -, -⟩ := id C
  have hS : va_S (AW G) s.heap s.heap [] := va_S.rf
  have hl := lv_entry [.ref (G.2.2 0), .int v1, .int v2] (n := 3) (Nat.le_of_ble_eq_true rfl)
  rw [lg_entry_eq]
  generalize (lg_sl [.ref (G.2.2 0), .int v1, .int v2] ++ List.replicate (3 - (lg_sl [.ref (G.2.2 0), .int v1, .int v2]).length) Slot.unset).toArray = ls at hl ⊢
  have hl : lv_has ls 3 [(0, .ref (G.2.2 0)), (1, .int v1), (2, .int v2)] := hl
  unfold fn_X11_ways at h
  refine lv_aload_n hx hb dX11_ways_0 rfl (lv_at hl 0 rfl) ?_
  refine lv_iload_n hx hb dX11_ways_1 rfl (lv_at hl 1 rfl) ?_
  refine lv_iload_n hx hb dX11_ways_2 rfl (lv_at hl 2 rfl) ?_
  obtain ⟨r2, z3, h1, h⟩ := bd_s h
  refine x_Vi (Rz := (r2, z3)) (As := [.int v1, .int v2]) (rest := []) ⟨hx, hb, hml, hown, hts⟩ hK hP hS (kd_lt k_0 (by decide)) (cell_11 k_0) rfl (m_X11_canBeAlike hG   h1) (cwV 2 hts gX11_ways_X11_canBeAlike rfl rfl rfl (by decide +kernel) (rmd_ok (by decide) (by decide))) rfl hl.1 rfl (Nat.le_of_ble_eq_true rfl) dX11_ways_3 ⟨Nat.le_refl _, Nat.le_refl _⟩ (fun H locs hP hS => ?_)
  refine lv_if_ne (tgt := 11) hx hb dX11_ways_6 (by decide) (fun c4 => ?_) (fun c4 => ?_)
  · rw [if_neg c4] at h
    refine lv_aload_n hx hb dX11_ways_11 rfl (lv_at hl 0 rfl) ?_
    refine ge_11_11 hx hb hts in_X11_ways_X11 hown hK hP k_0 (hts _ (List.mem_of_getElem? (i := 1) rfl)) dX11_ways_12 ?_
    refine lv_aload_n hx hb dX11_ways_15 rfl (lv_at hl 0 rfl) ?_
    refine ge_11_2 hx hb hts in_X11_ways_X11 hown hK hP k_0 (hts _ (List.mem_of_getElem? (i := 2) rfl)) dX11_ways_16 ?_
    refine ge_7_2 hx hb hts in_X11_ways_X7 hown hK hP k_2 (hts _ (List.mem_of_getElem? (i := 3) rfl)) dX11_ways_19 ?_
    refine lv_iload_n hx hb dX11_ways_22 rfl (lv_at hl 1 rfl) ?_
    obtain ⟨g5, h⟩ := gd_s h
    refine xl_14 hx hb hK hP k_4 l_4 (ix_in g5) dX11_ways_23 ?_
    refine lv_aload_n hx hb dX11_ways_24 rfl (lv_at hl 0 rfl) ?_
    refine ge_11_2 hx hb hts in_X11_ways_X11 hown hK hP k_0 (hts _ (List.mem_of_getElem? (i := 2) rfl)) dX11_ways_25 ?_
    refine ge_7_3 hx hb hts in_X11_ways_X7 hown hK hP k_2 (hts _ (List.mem_of_getElem? (i := 4) rfl)) dX11_ways_28 ?_
    refine lv_iload_n hx hb dX11_ways_31 rfl (lv_at hl 1 rfl) ?_
    obtain ⟨g6, h⟩ := gd_s h
    refine xl_14 hx hb hK hP k_5 l_5 (ix_in g6) dX11_ways_32 ?_
    refine lv_iload_n hx hb dX11_ways_33 rfl (lv_at hl 2 rfl) ?_
    obtain ⟨r8, z9, h7, h⟩ := bd_s h
    refine x_Vi (Rz := (r8, z9)) (As := [.int (z3.1 4 (Int32.toNatClampNeg v1)), .int (z3.1 5 (Int32.toNatClampNeg v1)), .int v2]) (rest := []) ⟨hx, hb, hml, hown, hts⟩ hK hP hS (kd_lt k_161 (by decide)) (cell_3 k_161) rfl (m_X3_search hG   h7) (cwV 3 hts gX11_ways_X3_search rfl rfl rfl (by decide +kernel) (rmd_ok (by decide) (by decide))) rfl hl.1 rfl (Nat.le_of_ble_eq_true rfl) dX11_ways_34 ⟨Nat.le_refl _, Nat.le_refl _⟩ (fun H locs hP hS => ?_)
    exact x_iret hx hb hr hlocks hK hP hS h dX11_ways_37
  · rw [if_pos c4] at h
    refine lv_iconst (v := (-1)) hx hb dX11_ways_9 (by decide) ?_
    exact x_iret hx hb hr hlocks hK hP hS h dX11_ways_10
theorem in_X11_most_X7 : ∀ w ∈ wsX70, w ∈ wsX11_most := fun _ h => (List.mem_cons_of_mem _ (List.mem_append_left _ (List.mem_append_right _ h)))
theorem in_X11_most_X11 : ∀ w ∈ wsX110, w ∈ wsX11_most := fun _ h => (List.mem_cons_of_mem _ (List.mem_append_left _ (List.mem_append_left _ (List.mem_append_right _ h))))
def fn_X11_most_122 (k60 : Int32 → Int32 → Int32 → Int32 → Int32 → St → Option (Int32 × St)) (v1 : Int32) (v2 : Int32) (v3 : Int32) (v4 : Int32) (v5 : Int32) (z : St) : Option (Int32 × St) := k60 v1 v2 v3 v4 (v5 + (-1)) z
set_option maxHeartbeats 4000000 in
set_option maxRecDepth 100000 in
theorem pf_X11_most_122 {p : Program} {l : Launch} {e : Env} {s : State} {m : MethodId} {args : Array Value} {below : List Frame} {meth : Method} {c : Code} {G : wG} (C : CX p s m args meth c cX11_most 7 wsX11_most RX11 (some .int) G) {Rz : Int32 × St} {k60 : Int32 → Int32 → Int32 → Int32 → Int32 → St → Option (Int32 × St)} (hk_60 : ∀ (v1 : Int32) (v2 : Int32) (v3 : Int32) (v4 : Int32) (v5 : Int32) (z : St)  (H : Heap) (locs : List Loc) (ls : Array Slot), WP G z H → va_S (AW G) s.heap H locs → lv_has ls 7 [(0, .ref (G.2.2 0)), (1, .int v1), (2, .int v2), (3, .int v3), (4, .int v4), (5, .int v5)] → k60 v1 v2 v3 v4 v5 z = some Rz → W p l e (rmd 4) s m args below meth c H locs 0 0 (QI below args s G Rz) (F0 m 60 ls [])) (v1 : Int32) (v2 : Int32) (v3 : Int32) (v4 : Int32) (v5 : Int32) (z : St)  {H : Heap} {locs : List Loc} {ls : Array Slot} (hP : WP G z H) (hS : va_S (AW G) s.heap H locs) (hl : lv_has ls 7 [(0, .ref (G.2.2 0)), (1, .int v1), (2, .int v2), (3, .int v3), (4, .int v4), (5, .int v5)]) (h : fn_X11_most_122  k60 v1 v2 v3 v4 v5 z = some Rz) : W p l e (rmd 4) s m args below meth c H locs 0 0 (QI below args s G Rz) (F0 m 122 ls []) := by
  obtain ⟨hx, hb, hml, hown, hts, hr, hlocks, hK, hG⟩ := id C
  unfold fn_X11_most_122 at h
  refine lv_iinc (v := (v5 + (-1))) (lv' := [(5, .int (v5 + (-1))), (0, .ref (G.2.2 0)), (1, .int v1), (2, .int v2), (3, .int v3), (4, .int v4)]) hx hb dX11_most_122 hl (k := 5) rfl rfl (by decide) rfl (fun ls hl => ?_)
  refine lv_goto (tgt := 60) hx hb dX11_most_125 (by decide) ?_
  exact hk_60 v1 v2 v3 v4 (v5 + (-1)) z  _ _ _ hP hS (lv_sub hl [1, 2, 3, 4, 5, 0] rfl) h
def fn_X11_most_82 (k60 : Int32 → Int32 → Int32 → Int32 → Int32 → St → Option (Int32 × St)) (v1 : Int32) (v2 : Int32) (v3 : Int32) (v4 : Int32) (v5 : Int32) (tv0 : Int32) (z : St) : Option (Int32 × St) := (if tv0 = 0 then fn_X11_most_122  k60 v1 v2 v3 v4 v5 z else gd (ix v1 3) (gd (ix v1 3) (bd (fn_X3_search  (z.1 4 (Int32.toNatClampNeg v1)) (z.1 5 (Int32.toNatClampNeg v1)) v5 z) (fun r5 z6 => (if r5 ≤ 0 then fn_X11_most_122  k60 v1 v2 v3 v4 v5 z6 else some (v5, z6))))))
set_option maxHeartbeats 4000000 in
set_option maxRecDepth 100000 in
theorem pf_X11_most_82 {p : Program} {l : Launch} {e : Env} {s : State} {m : MethodId} {args : Array Value} {below : List Frame} {meth : Method} {c : Code} {G : wG} (C : CX p s m args meth c cX11_most 7 wsX11_most RX11 (some .int) G) {Rz : Int32 × St} {k60 : Int32 → Int32 → Int32 → Int32 → Int32 → St → Option (Int32 × St)} (hk_60 : ∀ (v1 : Int32) (v2 : Int32) (v3 : Int32) (v4 : Int32) (v5 : Int32) (z : St)  (H : Heap) (locs : List Loc) (ls : Array Slot), WP G z H → va_S (AW G) s.heap H locs → lv_has ls 7 [(0, .ref (G.2.2 0)), (1, .int v1), (2, .int v2), (3, .int v3), (4, .int v4), (5, .int v5)] → k60 v1 v2 v3 v4 v5 z = some Rz → W p l e (rmd 4) s m args below meth c H locs 0 0 (QI below args s G Rz) (F0 m 60 ls [])) (v1 : Int32) (v2 : Int32) (v3 : Int32) (v4 : Int32) (v5 : Int32) (tv0 : Int32) (z : St)  {H : Heap} {locs : List Loc} {ls : Array Slot} (hP : WP G z H) (hS : va_S (AW G) s.heap H locs) (hl : lv_has ls 7 [(0, .ref (G.2.2 0)), (1, .int v1), (2, .int v2), (3, .int v3), (4, .int v4), (5, .int v5)]) (h : fn_X11_most_82  k60 v1 v2 v3 v4 v5 tv0 z = some Rz) : W p l e (rmd 4) s m args below meth c H locs 0 0 (QI below args s G Rz) (F0 m 82 ls [.int tv0]) := by
  obtain ⟨hx, hb, hml, hown, hts, hr, hlocks, hK, hG⟩ := id C
  unfold fn_X11_most_82 at h
  refine lv_istore (lv' := [(6, .int tv0), (0, .ref (G.2.2 0)), (1, .int v1), (2, .int v2), (3, .int v3), (4, .int v4), (5, .int v5)]) hx hb dX11_most_82 hl (by decide) rfl (fun ls hl => ?_)
  refine lv_iload hx hb dX11_most_84 (lv_at hl 0 rfl) ?_
  refine lv_if_eq (tgt := 122) hx hb dX11_most_86 (by decide) (fun c1 => ?_) (fun c1 => ?_)
  · rw [if_pos c1] at h
    exact pf_X11_most_122 C  hk_60 v1 v2 v3 v4 v5 z  hP hS (lv_sub hl [1, 2, 3, 4, 5, 6] rfl) h
  · rw [if_neg c1] at h
    refine lv_aload_n hx hb dX11_most_89 rfl (lv_at hl 1 rfl) ?_
    refine ge_11_11 hx hb hts in_X11_most_X11 hown hK hP k_0 (hts _ (List.mem_of_getElem? (i := 5) rfl)) dX11_most_90 ?_
    refine lv_aload_n hx hb dX11_most_93 rfl (lv_at hl 1 rfl) ?_
    refine ge_11_2 hx hb hts in_X11_most_X11 hown hK hP k_0 (hts _ (List.mem_of_getElem? (i := 1) rfl)) dX11_most_94 ?_
    refine ge_7_2 hx hb hts in_X11_most_X7 hown hK hP k_2 (hts _ (List.mem_of_getElem? (i := 3) rfl)) dX11_most_97 ?_
    refine lv_iload_n hx hb dX11_most_100 rfl (lv_at hl 2 rfl) ?_
    obtain ⟨g2, h⟩ := gd_s h
    refine xl_14 hx hb hK hP k_4 l_4 (ix_in g2) dX11_most_101 ?_
    refine lv_aload_n hx hb dX11_most_102 rfl (lv_at hl 1 rfl) ?_
    refine ge_11_2 hx hb hts in_X11_most_X11 hown hK hP k_0 (hts _ (List.mem_of_getElem? (i := 1) rfl)) dX11_most_103 ?_
    refine ge_7_3 hx hb hts in_X11_most_X7 hown hK hP k_2 (hts _ (List.mem_of_getElem? (i := 4) rfl)) dX11_most_106 ?_
    refine lv_iload_n hx hb dX11_most_109 rfl (lv_at hl 2 rfl) ?_
    obtain ⟨g3, h⟩ := gd_s h
    refine xl_14 hx hb hK hP k_5 l_5 (ix_in g3) dX11_most_110 ?_
    refine lv_iload hx hb dX11_most_111 (lv_at hl 6 rfl) ?_
    obtain ⟨r5, z6, h4, h⟩ := bd_s h
    refine x_Vi (Rz := (r5, z6)) (As := [.int (z.1 4 (Int32.toNatClampNeg v1)), .int (z.1 5 (Int32.toNatClampNeg v1)), .int v5]) (rest := []) ⟨hx, hb, hml, hown, hts⟩ hK hP hS (kd_lt k_161 (by decide)) (cell_3 k_161) rfl (m_X3_search hG   h4) (cwV 3 hts gX11_most_X3_search rfl rfl rfl (by decide +kernel) (rmd_ok (by decide) (by decide))) rfl hl.1 rfl (Nat.le_of_ble_eq_true rfl) dX11_most_113 ⟨Nat.le_refl _, Nat.le_refl _⟩ (fun H locs hP hS => ?_)
    refine lv_if_le (tgt := 122) hx hb dX11_most_116 (by decide) (fun c7 => ?_) (fun c7 => ?_)
    · rw [if_pos c7] at h
      exact pf_X11_most_122 C  hk_60 v1 v2 v3 v4 v5 z6  hP hS (lv_sub hl [1, 2, 3, 4, 5, 6] rfl) h
    · rw [if_neg c7] at h
      refine lv_iload hx hb dX11_most_119 (lv_at hl 6 rfl) ?_
      exact x_iret hx hb hr hlocks hK hP hS h dX11_most_121
def fn_X11_most_60 : Nat → Int32 → Int32 → Int32 → Int32 → Int32 → St → Option (Int32 × St)
  | 0, _, _, _, _, _, _ => none
  | n + 1, v1, v2, v3, v4, v5, z => (if v5 < 1 then some ((-1), z) else gd (v5 != 0) ((if ((v4 / v5) * v3) < v2 then fn_X11_most_82  (fn_X11_most_60   n) v1 v2 v3 v4 v5 0 z else fn_X11_most_82  (fn_X11_most_60   n) v1 v2 v3 v4 v5 1 z)))
set_option maxHeartbeats 4000000 in
set_option maxRecDepth 100000 in
theorem pf_X11_most_60 {p : Program} {l : Launch} {e : Env} {s : State} {m : MethodId} {args : Array Value} {below : List Frame} {meth : Method} {c : Code} {G : wG} (C : CX p s m args meth c cX11_most 7 wsX11_most RX11 (some .int) G) {Rz : Int32 × St} : ∀ (n : Nat) (v1 : Int32) (v2 : Int32) (v3 : Int32) (v4 : Int32) (v5 : Int32) (z : St)  (H : Heap) (locs : List Loc) (ls : Array Slot), WP G z H → va_S (AW G) s.heap H locs → lv_has ls 7 [(0, .ref (G.2.2 0)), (1, .int v1), (2, .int v2), (3, .int v3), (4, .int v4), (5, .int v5)] → fn_X11_most_60   n v1 v2 v3 v4 v5 z = some Rz → W p l e (rmd 4) s m args below meth c H locs 0 0 (QI below args s G Rz) (F0 m 60 ls []) := by
  obtain ⟨hx, hb, hml, hown, hts, hr, hlocks, hK, hG⟩ := id C
  intro n
  induction n with
  | zero => intro v1 v2 v3 v4 v5 z  H locs ls hP hS hl h; cases h
  | succ n ih =>
    intro v1 v2 v3 v4 v5 z  H locs ls hP hS hl h
    rw [fn_X11_most_60] at h
    refine lv_iload hx hb dX11_most_60 (lv_at hl 5 rfl) ?_
    refine lv_iconst (v := 1) hx hb dX11_most_62 (by decide) ?_
    refine lv_icmp_lt (tgt := 128) hx hb dX11_most_63 (by decide) (fun c1 => ?_) (fun c1 => ?_)
    · rw [if_pos c1] at h
      refine lv_iconst (v := (-1)) hx hb dX11_most_128 (by decide) ?_
      exact x_iret hx hb hr hlocks hK hP hS h dX11_most_129
    · rw [if_neg c1] at h
      refine lv_iload hx hb dX11_most_66 (lv_at hl 4 rfl) ?_
      refine lv_iload hx hb dX11_most_68 (lv_at hl 5 rfl) ?_
      obtain ⟨g2, h⟩ := gd_s h
      refine lv_idiv hx hb dX11_most_70 (bne_z g2) ?_
      refine lv_iload_n hx hb dX11_most_71 rfl (lv_at hl 3 rfl) ?_
      refine lv_imul hx hb dX11_most_72 ?_
      refine lv_iload_n hx hb dX11_most_73 rfl (lv_at hl 2 rfl) ?_
      refine lv_icmp_lt (tgt := 81) hx hb dX11_most_74 (by decide) (fun c3 => ?_) (fun c3 => ?_)
      · rw [if_pos c3] at h
        refine lv_iconst (v := 0) hx hb dX11_most_81 (by decide) ?_
        exact pf_X11_most_82 C  ih v1 v2 v3 v4 v5 0 z  hP hS (lv_sub hl [0, 1, 2, 3, 4, 5] rfl) h
      · rw [if_neg c3] at h
        refine lv_iconst (v := 1) hx hb dX11_most_77 (by decide) ?_
        refine lv_goto (tgt := 82) hx hb dX11_most_78 (by decide) ?_
        exact pf_X11_most_82 C  ih v1 v2 v3 v4 v5 1 z  hP hS (lv_sub hl [0, 1, 2, 3, 4, 5] rfl) h
def fn_X11_most (v1 : Int32) (v2 : Int32) (z : St) : Option (Int32 × St) := bd (fn_X7_isTier  2 v1 z) (fun r2 z3 => (if r2 = 0 then some ((-1), z3) else (if v2 < 1 then some ((-1), z3) else (if v2 ≤ 999 then gd (ix v1 3) (nm (z3.1 6 (Int32.toNatClampNeg v1)) (fun v3_8 => gd (ix v1 3) (gd (ix v1 3) (nm ((z3.1 4 (Int32.toNatClampNeg v1)) * (z3.1 5 (Int32.toNatClampNeg v1))) (fun v4_11 => fn_X11_most_60   fu v1 v2 v3_8 v4_11 v4_11 z3))))) else some ((-1), z3)))))
set_option maxHeartbeats 4000000 in
set_option maxRecDepth 100000 in
theorem m_X11_most {l : Launch} {G : wG} (hG : Ok G) {v1 : Int32} {v2 : Int32} {z : St} {Rz : Int32 × St}  (h : fn_X11_most  v1 v2 z = some Rz) : Met l yX11_most wsX11_most (rmd 4) (va_Pc [.ref (G.2.2 0), .int v1, .int v2] (Pre G z)) (va_Qi (fun r u => (r, u) = Rz) (Pre G) (AW G)) 0 0 (AW G) := by
  refine Met.ofW (cc := cX11_most) (maxL := 7) (ret := (some .int)) (by decide) rfl ?_
  intro p e s m args below meth c s₁ B hml hv
  obtain ⟨rfl, hP, hK⟩ := hv
  have C : CX p s m ([.ref (G.2.2 0), .int v1, .int v2] : List Value).toArray meth c cX11_most 7 wsX11_most RX11 (some .int) G := ⟨B.exec, B.bytes, hml, findClass_of_methodNamed B.named, atoms_spec (ws := wsX11_most) B.pre, B.returns, B.notSynchronized, hK, hG⟩
  obtain ⟨hx, hb, -, hown, hts, hr, hlocks, -, -⟩ := id C
  have hS : va_S (AW G) s.heap s.heap [] := va_S.rf
  have hl := lv_entry [.ref (G.2.2 0), .int v1, .int v2] (n := 7) (Nat.le_of_ble_eq_true rfl)
  rw [lg_entry_eq]
  generalize (lg_sl [.ref (G.2.2 0), .int v1, .int v2] ++ List.replicate (7 - (lg_sl [.ref (G.2.2 0), .int v1, .int v2]).length) Slot.unset).toArray = ls at hl ⊢
  have hl : lv_has ls 7 [(0, .ref (G.2.2 0)), (1, .int v1), (2, .int v2)] := hl
  unfold fn_X11_most at h
  refine lv_aload_n hx hb dX11_most_0 rfl (lv_at hl 0 rfl) ?_
  refine ge_11_2 hx hb hts in_X11_most_X11 hown hK hP k_0 (hts _ (List.mem_of_getElem? (i := 1) rfl)) dX11_most_1 ?_
  refine lv_iload_n hx hb dX11_most_4 rfl (lv_at hl 1 rfl) ?_
  obtain ⟨r2, z3, h1, h⟩ := bd_s h
  refine x_Vi (Rz := (r2, z3)) (As := [.int v1]) (rest := []) ⟨hx, hb, hml, hown, hts⟩ hK hP hS (kd_lt k_2 (by decide)) (cell_7 k_2) rfl (m_X7_isTier hG  k_2 h1) (cwV 1 hts gX11_most_X7_isTier rfl rfl rfl (by decide +kernel) (rmd_ok (by decide) (by decide))) rfl hl.1 rfl (Nat.le_of_ble_eq_true rfl) dX11_most_5 ⟨Nat.le_refl _, Nat.le_refl _⟩ (fun H locs hP hS => ?_)
  refine lv_if_eq (tgt := 23) hx hb dX11_most_8 (by decide) (fun c4 => ?_) (fun c4 => ?_)
  · rw [if_pos c4] at h
    refine lv_iconst (v := (-1)) hx hb dX11_most_23 (by decide) ?_
    exact x_iret hx hb hr hlocks hK hP hS h dX11_most_24
  · rw [if_neg c4] at h
    refine lv_iload_n hx hb dX11_most_11 rfl (lv_at hl 2 rfl) ?_
    refine lv_iconst (v := 1) hx hb dX11_most_12 (by decide) ?_
    refine lv_icmp_lt (tgt := 23) hx hb dX11_most_13 (by decide) (fun c5 => ?_) (fun c5 => ?_)
    · rw [if_pos c5] at h
      refine lv_iconst (v := (-1)) hx hb dX11_most_23 (by decide) ?_
      exact x_iret hx hb hr hlocks hK hP hS h dX11_most_24
    · rw [if_neg c5] at h
      refine lv_iload_n hx hb dX11_most_16 rfl (lv_at hl 2 rfl) ?_
      refine lv_sipush (v := 999) hx hb dX11_most_17 (by decide) ?_
      refine lv_icmp_le (tgt := 25) hx hb dX11_most_20 (by decide) (fun c6 => ?_) (fun c6 => ?_)
      · rw [if_pos c6] at h
        refine lv_aload_n hx hb dX11_most_25 rfl (lv_at hl 0 rfl) ?_
        refine ge_11_2 hx hb hts in_X11_most_X11 hown hK hP k_0 (hts _ (List.mem_of_getElem? (i := 1) rfl)) dX11_most_26 ?_
        refine ge_7_4 hx hb hts in_X11_most_X7 hown hK hP k_2 (hts _ (List.mem_of_getElem? (i := 2) rfl)) dX11_most_29 ?_
        refine lv_iload_n hx hb dX11_most_32 rfl (lv_at hl 1 rfl) ?_
        obtain ⟨g7, h⟩ := gd_s h
        refine xl_14 hx hb hK hP k_6 l_6 (ix_in g7) dX11_most_33 ?_
        obtain ⟨v3_8, e_v3_8, h⟩ := nm_s h
        refine x_top e_v3_8 ?_
        refine lv_istore_n (lv' := [(3, .int v3_8), (0, .ref (G.2.2 0)), (1, .int v1), (2, .int v2)]) hx hb dX11_most_34 rfl hl (by decide) rfl (fun ls hl => ?_)
        refine lv_aload_n hx hb dX11_most_35 rfl (lv_at hl 1 rfl) ?_
        refine ge_11_2 hx hb hts in_X11_most_X11 hown hK hP k_0 (hts _ (List.mem_of_getElem? (i := 1) rfl)) dX11_most_36 ?_
        refine ge_7_2 hx hb hts in_X11_most_X7 hown hK hP k_2 (hts _ (List.mem_of_getElem? (i := 3) rfl)) dX11_most_39 ?_
        refine lv_iload_n hx hb dX11_most_42 rfl (lv_at hl 2 rfl) ?_
        obtain ⟨g9, h⟩ := gd_s h
        refine xl_14 hx hb hK hP k_4 l_4 (ix_in g9) dX11_most_43 ?_
        refine lv_aload_n hx hb dX11_most_44 rfl (lv_at hl 1 rfl) ?_
        refine ge_11_2 hx hb hts in_X11_most_X11 hown hK hP k_0 (hts _ (List.mem_of_getElem? (i := 1) rfl)) dX11_most_45 ?_
        refine ge_7_3 hx hb hts in_X11_most_X7 hown hK hP k_2 (hts _ (List.mem_of_getElem? (i := 4) rfl)) dX11_most_48 ?_
        refine lv_iload_n hx hb dX11_most_51 rfl (lv_at hl 2 rfl) ?_
        obtain ⟨g10, h⟩ := gd_s h
        refine xl_14 hx hb hK hP k_5 l_5 (ix_in g10) dX11_most_52 ?_
        refine lv_imul hx hb dX11_most_53 ?_
        obtain ⟨v4_11, e_v4_11, h⟩ := nm_s h
        refine x_top e_v4_11 ?_
        refine lv_istore (lv' := [(4, .int v4_11), (3, .int v3_8), (0, .ref (G.2.2 0)), (1, .int v1), (2, .int v2)]) hx hb dX11_most_54 hl (by decide) rfl (fun ls hl => ?_)
        refine lv_iload hx hb dX11_most_56 (lv_at hl 0 rfl) ?_
        refine lv_istore (lv' := [(5, .int v4_11), (4, .int v4_11), (3, .int v3_8), (0, .ref (G.2.2 0)), (1, .int v1), (2, .int v2)]) hx hb dX11_most_58 hl (by decide) rfl (fun ls hl => ?_)
        exact pf_X11_most_60 C   fu v1 v2 v3_8 v4_11 v4_11 z3  _ _ _ hP hS (lv_sub hl [3, 4, 5, 2, 1, 0] rfl) h
      · rw [if_neg c6] at h
        refine lv_iconst (v := (-1)) hx hb dX11_most_23 (by decide) ?_
        exact x_iret hx hb hr hlocks hK hP hS h dX11_most_24
theorem in_X11_where_X11 : ∀ w ∈ wsX110, w ∈ wsX11_where := fun _ h => (List.mem_cons_of_mem _ (List.mem_append_left _ (List.mem_append_left _ (List.mem_append_right _ h))))
theorem in_X11_where_X1 : ∀ w ∈ wsX10, w ∈ wsX11_where := fun _ h => (List.mem_cons_of_mem _ (List.mem_append_left _ (List.mem_append_right _ h)))
def fn_X11_where_3 : Nat → Int32 → Int32 → Int32 → Int32 → St → Option (Int32 × St)
  | 0, _, _, _, _, _ => none
  | n + 1, v1, v2, v3, v4, z => (if (z.1 34 2) ≤ v4 then some ((-1), z) else gd (ix v4 24) (bd (fn_X9_holds  (35 + 1 + (Int32.toNatClampNeg v4)) v1 v2 v3 z) (fun r4 z5 => (if r4 = 0 then fn_X11_where_3   n v1 v2 v3 (v4 + 1) z5 else some (v4, z5)))))
set_option maxHeartbeats 4000000 in
set_option maxRecDepth 100000 in
theorem pf_X11_where_3 {p : Program} {l : Launch} {e : Env} {s : State} {m : MethodId} {args : Array Value} {below : List Frame} {meth : Method} {c : Code} {G : wG} (C : CX p s m args meth c cX11_where 5 wsX11_where RX11 (some .int) G) {Rz : Int32 × St} : ∀ (n : Nat) (v1 : Int32) (v2 : Int32) (v3 : Int32) (v4 : Int32) (z : St)  (H : Heap) (locs : List Loc) (ls : Array Slot), WP G z H → va_S (AW G) s.heap H locs → lv_has ls 5 [(0, .ref (G.2.2 0)), (1, .int v1), (2, .int v2), (3, .int v3), (4, .int v4)] → fn_X11_where_3   n v1 v2 v3 v4 z = some Rz → W p l e (rmd 2) s m args below meth c H locs 0 0 (QI below args s G Rz) (F0 m 3 ls []) := by
  obtain ⟨hx, hb, hml, hown, hts, hr, hlocks, hK, hG⟩ := id C
  intro n
  induction n with
  | zero => intro v1 v2 v3 v4 z  H locs ls hP hS hl h; cases h
  | succ n ih =>
    intro v1 v2 v3 v4 z  H locs ls hP hS hl h
    rw [fn_X11_where_3] at h
    refine lv_iload hx hb dX11_where_3 (lv_at hl 4 rfl) ?_
    refine lv_aload_n hx hb dX11_where_5 rfl (lv_at hl 0 rfl) ?_
    refine ge_11_5 hx hb hts in_X11_where_X11 hown hK hP k_0 (hts _ (List.mem_of_getElem? (i := 1) rfl)) dX11_where_6 ?_
    refine ge_1_2 hx hb hts in_X11_where_X1 hown hK hP k_34 (hts _ (List.mem_of_getElem? (i := 2) rfl)) dX11_where_9 ?_
    refine lv_icmp_ge (tgt := 43) hx hb dX11_where_12 (by decide) (fun c1 => ?_) (fun c1 => ?_)
    · rw [if_pos c1] at h
      refine lv_iconst (v := (-1)) hx hb dX11_where_43 (by decide) ?_
      exact x_iret hx hb hr hlocks hK hP hS h dX11_where_44
    · rw [if_neg c1] at h
      refine lv_aload_n hx hb dX11_where_15 rfl (lv_at hl 0 rfl) ?_
      refine ge_11_5 hx hb hts in_X11_where_X11 hown hK hP k_0 (hts _ (List.mem_of_getElem? (i := 1) rfl)) dX11_where_16 ?_
      refine ge_1_0 hx hb hts in_X11_where_X1 hown hK hP k_34 (hts _ (List.mem_of_getElem? (i := 3) rfl)) dX11_where_19 ?_
      refine lv_iload hx hb dX11_where_22 (lv_at hl 4 rfl) ?_
      obtain ⟨g2, h⟩ := gd_s h
      refine xl_18 hx hb hK hP k_35 l_35 (ix_in g2) dX11_where_24 ?_
      refine lv_iload_n hx hb dX11_where_25 rfl (lv_at hl 1 rfl) ?_
      refine lv_iload_n hx hb dX11_where_26 rfl (lv_at hl 2 rfl) ?_
      refine lv_iload_n hx hb dX11_where_27 rfl (lv_at hl 3 rfl) ?_
      obtain ⟨r4, z5, h3, h⟩ := bd_s h
      refine x_Vi (Rz := (r4, z5)) (As := [.int v1, .int v2, .int v3]) (rest := []) ⟨hx, hb, hml, hown, hts⟩ hK hP hS (kd_lt (ke_18 k_35 (ix_lt g2)) (by decide)) (cell_9 (ke_18 k_35 (ix_lt g2))) rfl (m_X9_holds hG  (ke_18 k_35 (ix_lt g2)) h3) (cwV 3 hts gX11_where_X9_holds rfl rfl rfl (by decide +kernel) (rmd_ok (by decide) (by decide))) rfl hl.1 rfl (Nat.le_of_ble_eq_true rfl) dX11_where_28 ⟨Nat.le_refl _, Nat.le_refl _⟩ (fun H locs hP hS => ?_)
      refine lv_if_eq (tgt := 37) hx hb dX11_where_31 (by decide) (fun c6 => ?_) (fun c6 => ?_)
      · rw [if_pos c6] at h
        refine lv_iinc (v := (v4 + 1)) (lv' := [(4, .int (v4 + 1)), (0, .ref (G.2.2 0)), (1, .int v1), (2, .int v2), (3, .int v3)]) hx hb dX11_where_37 hl (k := 4) rfl rfl (by decide) rfl (fun ls hl => ?_)
        refine lv_goto (tgt := 3) hx hb dX11_where_40 (by decide) ?_
        exact ih v1 v2 v3 (v4 + 1) z5 _ _ _ hP hS (lv_sub hl [1, 2, 3, 4, 0] rfl) h
      · rw [if_neg c6] at h
        refine lv_iload hx hb dX11_where_34 (lv_at hl 4 rfl) ?_
        exact x_iret hx hb hr hlocks hK hP hS h dX11_where_36
def fn_X11_where (v1 : Int32) (v2 : Int32) (v3 : Int32) (z : St) : Option (Int32 × St) := fn_X11_where_3   fu v1 v2 v3 0 z
set_option maxHeartbeats 4000000 in
set_option maxRecDepth 100000 in
theorem m_X11_where {l : Launch} {G : wG} (hG : Ok G) {v1 : Int32} {v2 : Int32} {v3 : Int32} {z : St} {Rz : Int32 × St}  (h : fn_X11_where  v1 v2 v3 z = some Rz) : Met l yX11_where wsX11_where (rmd 2) (va_Pc [.ref (G.2.2 0), .int v1, .int v2, .int v3] (Pre G z)) (va_Qi (fun r u => (r, u) = Rz) (Pre G) (AW G)) 0 0 (AW G) := by
  refine Met.ofW (cc := cX11_where) (maxL := 5) (ret := (some .int)) (by decide) rfl ?_
  intro p e s m args below meth c s₁ B hml hv
  obtain ⟨rfl, hP, hK⟩ := hv
  have C : CX p s m ([.ref (G.2.2 0), .int v1, .int v2, .int v3] : List Value).toArray meth c cX11_where 5 wsX11_where RX11 (some .int) G := ⟨B.exec, B.bytes, hml, findClass_of_methodNamed B.named, atoms_spec (ws := wsX11_where) B.pre, B.returns, B.notSynchronized, hK, hG⟩
  obtain ⟨hx, hb, -, hown, hts, hr, hlocks, -, -⟩ := id C
  have hS : va_S (AW G) s.heap s.heap [] := va_S.rf
  have hl := lv_entry [.ref (G.2.2 0), .int v1, .int v2, .int v3] (n := 5) (Nat.le_of_ble_eq_true rfl)
  rw [lg_entry_eq]
  generalize (lg_sl [.ref (G.2.2 0), .int v1, .int v2, .int v3] ++ List.replicate (5 - (lg_sl [.ref (G.2.2 0), .int v1, .int v2, .int v3]).length) Slot.unset).toArray = ls at hl ⊢
  have hl : lv_has ls 5 [(0, .ref (G.2.2 0)), (1, .int v1), (2, .int v2), (3, .int v3)] := hl
  unfold fn_X11_where at h
  refine lv_iconst (v := 0) hx hb dX11_where_0 (by decide) ?_
  refine lv_istore (lv' := [(4, .int 0), (0, .ref (G.2.2 0)), (1, .int v1), (2, .int v2), (3, .int v3)]) hx hb dX11_where_1 hl (by decide) rfl (fun ls hl => ?_)
  exact pf_X11_where_3 C   fu v1 v2 v3 0 z  _ _ _ hP hS (lv_sub hl [1, 2, 3, 4, 0] rfl) h
theorem in_X11_left_X11 : ∀ w ∈ wsX110, w ∈ wsX11_left := fun _ h => (List.mem_cons_of_mem _ (List.mem_append_left _ (List.mem_append_left _ (List.mem_append_left _ (List.mem_append_right _ h)))))
theorem in_X11_left_X1 : ∀ w ∈ wsX10, w ∈ wsX11_left := fun _ h => (List.mem_cons_of_mem _ (List.mem_append_left _ (List.mem_append_left _ (List.mem_append_right _ h))))
def fn_X11_left_45 (k4 : Int32 → Int32 → St → Option (Int32 × St)) (v1 : Int32) (v2 : Int32) (z : St) : Option (Int32 × St) := k4 v1 (v2 + 1) z
set_option maxHeartbeats 4000000 in
set_option maxRecDepth 100000 in
theorem pf_X11_left_45 {p : Program} {l : Launch} {e : Env} {s : State} {m : MethodId} {args : Array Value} {below : List Frame} {meth : Method} {c : Code} {G : wG} (C : CX p s m args meth c cX11_left 3 wsX11_left RX11 (some .int) G) {Rz : Int32 × St} {k4 : Int32 → Int32 → St → Option (Int32 × St)} (hk_4 : ∀ (v1 : Int32) (v2 : Int32) (z : St)  (H : Heap) (locs : List Loc) (ls : Array Slot), WP G z H → va_S (AW G) s.heap H locs → lv_has ls 3 [(0, .ref (G.2.2 0)), (1, .int v1), (2, .int v2)] → k4 v1 v2 z = some Rz → W p l e (rmd 3) s m args below meth c H locs 0 0 (QI below args s G Rz) (F0 m 4 ls [])) (v1 : Int32) (v2 : Int32) (z : St)  {H : Heap} {locs : List Loc} {ls : Array Slot} (hP : WP G z H) (hS : va_S (AW G) s.heap H locs) (hl : lv_has ls 3 [(0, .ref (G.2.2 0)), (1, .int v1), (2, .int v2)]) (h : fn_X11_left_45  k4 v1 v2 z = some Rz) : W p l e (rmd 3) s m args below meth c H locs 0 0 (QI below args s G Rz) (F0 m 45 ls []) := by
  obtain ⟨hx, hb, hml, hown, hts, hr, hlocks, hK, hG⟩ := id C
  unfold fn_X11_left_45 at h
  refine lv_iinc (v := (v2 + 1)) (lv' := [(2, .int (v2 + 1)), (0, .ref (G.2.2 0)), (1, .int v1)]) hx hb dX11_left_45 hl (k := 2) rfl rfl (by decide) rfl (fun ls hl => ?_)
  refine lv_goto (tgt := 4) hx hb dX11_left_48 (by decide) ?_
  exact hk_4 v1 (v2 + 1) z  _ _ _ hP hS (lv_sub hl [1, 2, 0] rfl) h
def fn_X11_left_4 : Nat → Int32 → Int32 → St → Option (Int32 × St)
  | 0, _, _, _ => none
  | n + 1, v1, v2, z => (if (z.1 34 2) ≤ v2 then some (v1, z) else bd (fn_X1_isFree  34 v2 z) (fun r3 z4 => (if r3 = 0 then fn_X11_left_45  (fn_X11_left_4   n) v1 v2 z4 else gd (ix v2 24) (bd (fn_X7_areaOf  2 (35 + 1 + (Int32.toNatClampNeg v2)) z4) (fun r8 z9 => nm (v1 + r8) (fun v1_10 => fn_X11_left_45  (fn_X11_left_4   n) v1_10 v2 z9))))))
set_option maxHeartbeats 4000000 in
set_option maxRecDepth 100000 in
theorem pf_X11_left_4 {p : Program} {l : Launch} {e : Env} {s : State} {m : MethodId} {args : Array Value} {below : List Frame} {meth : Method} {c : Code} {G : wG} (C : CX p s m args meth c cX11_left 3 wsX11_left RX11 (some .int) G) {Rz : Int32 × St} : ∀ (n : Nat) (v1 : Int32) (v2 : Int32) (z : St)  (H : Heap) (locs : List Loc) (ls : Array Slot), WP G z H → va_S (AW G) s.heap H locs → lv_has ls 3 [(0, .ref (G.2.2 0)), (1, .int v1), (2, .int v2)] → fn_X11_left_4   n v1 v2 z = some Rz → W p l e (rmd 3) s m args below meth c H locs 0 0 (QI below args s G Rz) (F0 m 4 ls []) := by
  obtain ⟨hx, hb, hml, hown, hts, hr, hlocks, hK, hG⟩ := id C
  intro n
  induction n with
  | zero => intro v1 v2 z  H locs ls hP hS hl h; cases h
  | succ n ih =>
    intro v1 v2 z  H locs ls hP hS hl h
    rw [fn_X11_left_4] at h
    refine lv_iload_n hx hb dX11_left_4 rfl (lv_at hl 2 rfl) ?_
    refine lv_aload_n hx hb dX11_left_5 rfl (lv_at hl 0 rfl) ?_
    refine ge_11_5 hx hb hts in_X11_left_X11 hown hK hP k_0 (hts _ (List.mem_of_getElem? (i := 1) rfl)) dX11_left_6 ?_
    refine ge_1_2 hx hb hts in_X11_left_X1 hown hK hP k_34 (hts _ (List.mem_of_getElem? (i := 2) rfl)) dX11_left_9 ?_
    refine lv_icmp_ge (tgt := 51) hx hb dX11_left_12 (by decide) (fun c1 => ?_) (fun c1 => ?_)
    · rw [if_pos c1] at h
      refine lv_iload_n hx hb dX11_left_51 rfl (lv_at hl 1 rfl) ?_
      exact x_iret hx hb hr hlocks hK hP hS h dX11_left_52
    · rw [if_neg c1] at h
      refine lv_aload_n hx hb dX11_left_15 rfl (lv_at hl 0 rfl) ?_
      refine ge_11_5 hx hb hts in_X11_left_X11 hown hK hP k_0 (hts _ (List.mem_of_getElem? (i := 1) rfl)) dX11_left_16 ?_
      refine lv_iload_n hx hb dX11_left_19 rfl (lv_at hl 2 rfl) ?_
      obtain ⟨r3, z4, h2, h⟩ := bd_s h
      refine x_Vi (Rz := (r3, z4)) (As := [.int v2]) (rest := []) ⟨hx, hb, hml, hown, hts⟩ hK hP hS (kd_lt k_34 (by decide)) (cell_1 k_34) rfl (m_X1_isFree hG  k_34 h2) (cwV 1 hts gX11_left_X1_isFree rfl rfl rfl (by decide +kernel) (rmd_ok (by decide) (by decide))) rfl hl.1 rfl (Nat.le_of_ble_eq_true rfl) dX11_left_20 ⟨Nat.le_refl _, Nat.le_refl _⟩ (fun H locs hP hS => ?_)
      refine lv_if_eq (tgt := 45) hx hb dX11_left_23 (by decide) (fun c5 => ?_) (fun c5 => ?_)
      · rw [if_pos c5] at h
        exact pf_X11_left_45 C  ih v1 v2 z4  hP hS (lv_sub hl [0, 1, 2] rfl) h
      · rw [if_neg c5] at h
        refine lv_iload_n hx hb dX11_left_26 rfl (lv_at hl 1 rfl) ?_
        refine lv_aload_n hx hb dX11_left_27 rfl (lv_at hl 0 rfl) ?_
        refine ge_11_2 hx hb hts in_X11_left_X11 hown hK hP k_0 (hts _ (List.mem_of_getElem? (i := 3) rfl)) dX11_left_28 ?_
        refine lv_aload_n hx hb dX11_left_31 rfl (lv_at hl 0 rfl) ?_
        refine ge_11_5 hx hb hts in_X11_left_X11 hown hK hP k_0 (hts _ (List.mem_of_getElem? (i := 1) rfl)) dX11_left_32 ?_
        refine ge_1_0 hx hb hts in_X11_left_X1 hown hK hP k_34 (hts _ (List.mem_of_getElem? (i := 4) rfl)) dX11_left_35 ?_
        refine lv_iload_n hx hb dX11_left_38 rfl (lv_at hl 2 rfl) ?_
        obtain ⟨g6, h⟩ := gd_s h
        refine xl_18 hx hb hK hP k_35 l_35 (ix_in g6) dX11_left_39 ?_
        obtain ⟨r8, z9, h7, h⟩ := bd_s h
        refine x_Vi (Rz := (r8, z9)) (As := [.ref (G.2.2 (35 + 1 + (Int32.toNatClampNeg v2)))]) (rest := [.int v1]) ⟨hx, hb, hml, hown, hts⟩ hK hP hS (kd_lt k_2 (by decide)) (cell_7 k_2) rfl (m_X7_areaOf hG  k_2 (ke_18 k_35 (ix_lt g6)) h7) (cwV 1 hts gX11_left_X7_areaOf rfl rfl rfl (by decide +kernel) (rmd_ok (by decide) (by decide))) rfl hl.1 rfl (Nat.le_of_ble_eq_true rfl) dX11_left_40 ⟨Nat.le_refl _, Nat.le_refl _⟩ (fun H locs hP hS => ?_)
        refine lv_iadd hx hb dX11_left_43 ?_
        obtain ⟨v1_10, e_v1_10, h⟩ := nm_s h
        refine x_top e_v1_10 ?_
        refine lv_istore_n (lv' := [(1, .int v1_10), (0, .ref (G.2.2 0)), (2, .int v2)]) hx hb dX11_left_44 rfl hl (by decide) rfl (fun ls hl => ?_)
        exact pf_X11_left_45 C  ih v1_10 v2 z9  hP hS (lv_sub hl [1, 0, 2] rfl) h
def fn_X11_left  (z : St) : Option (Int32 × St) := fn_X11_left_4   fu 0 0 z
set_option maxHeartbeats 4000000 in
set_option maxRecDepth 100000 in
theorem m_X11_left {l : Launch} {G : wG} (hG : Ok G)  {z : St} {Rz : Int32 × St}  (h : fn_X11_left   z = some Rz) : Met l yX11_left wsX11_left (rmd 3) (va_Pc [.ref (G.2.2 0)] (Pre G z)) (va_Qi (fun r u => (r, u) = Rz) (Pre G) (AW G)) 0 0 (AW G) := by
  refine Met.ofW (cc := cX11_left) (maxL := 3) (ret := (some .int)) (by decide) rfl ?_
  intro p e s m args below meth c s₁ B hml hv
  obtain ⟨rfl, hP, hK⟩ := hv
  have C : CX p s m ([.ref (G.2.2 0)] : List Value).toArray meth c cX11_left 3 wsX11_left RX11 (some .int) G := ⟨B.exec, B.bytes, hml, findClass_of_methodNamed B.named, atoms_spec (ws := wsX11_left) B.pre, B.returns, B.notSynchronized, hK, hG⟩
  obtain ⟨hx, hb, -, hown, hts, hr, hlocks, -, -⟩ := id C
  have hS : va_S (AW G) s.heap s.heap [] := va_S.rf
  have hl := lv_entry [.ref (G.2.2 0)] (n := 3) (Nat.le_of_ble_eq_true rfl)
  rw [lg_entry_eq]
  generalize (lg_sl [.ref (G.2.2 0)] ++ List.replicate (3 - (lg_sl [.ref (G.2.2 0)]).length) Slot.unset).toArray = ls at hl ⊢
  have hl : lv_has ls 3 [(0, .ref (G.2.2 0))] := hl
  unfold fn_X11_left at h
  refine lv_iconst (v := 0) hx hb dX11_left_0 (by decide) ?_
  refine lv_istore_n (lv' := [(1, .int 0), (0, .ref (G.2.2 0))]) hx hb dX11_left_1 rfl hl (by decide) rfl (fun ls hl => ?_)
  refine lv_iconst (v := 0) hx hb dX11_left_2 (by decide) ?_
  refine lv_istore_n (lv' := [(2, .int 0), (1, .int 0), (0, .ref (G.2.2 0))]) hx hb dX11_left_3 rfl hl (by decide) rfl (fun ls hl => ?_)
  exact pf_X11_left_4 C   fu 0 0 z  _ _ _ hP hS (lv_sub hl [2, 1, 0] rfl) h
theorem in_X11_iced_X11 : ∀ w ∈ wsX110, w ∈ wsX11_iced := fun _ h => (List.mem_cons_of_mem _ (List.mem_append_left _ (List.mem_append_left _ (List.mem_append_left _ (List.mem_append_right _ h)))))
theorem in_X11_iced_X1 : ∀ w ∈ wsX10, w ∈ wsX11_iced := fun _ h => (List.mem_cons_of_mem _ (List.mem_append_left _ (List.mem_append_left _ (List.mem_append_right _ h))))
def fn_X11_iced_64 (k16 : Int32 → Int32 → Int32 → St → Option (Int32 × St)) (v1 : Int32) (v2 : Int32) (v3 : Int32) (z : St) : Option (Int32 × St) := k16 v1 v2 (v3 + 1) z
set_option maxHeartbeats 4000000 in
set_option maxRecDepth 100000 in
theorem pf_X11_iced_64 {p : Program} {l : Launch} {e : Env} {s : State} {m : MethodId} {args : Array Value} {below : List Frame} {meth : Method} {c : Code} {G : wG} (C : CX p s m args meth c cX11_iced 4 wsX11_iced RX11 (some .int) G) {Rz : Int32 × St} {k16 : Int32 → Int32 → Int32 → St → Option (Int32 × St)} (hk_16 : ∀ (v1 : Int32) (v2 : Int32) (v3 : Int32) (z : St)  (H : Heap) (locs : List Loc) (ls : Array Slot), WP G z H → va_S (AW G) s.heap H locs → lv_has ls 4 [(0, .ref (G.2.2 0)), (1, .int v1), (2, .int v2), (3, .int v3)] → k16 v1 v2 v3 z = some Rz → W p l e (rmd 3) s m args below meth c H locs 0 0 (QI below args s G Rz) (F0 m 16 ls [])) (v1 : Int32) (v2 : Int32) (v3 : Int32) (z : St)  {H : Heap} {locs : List Loc} {ls : Array Slot} (hP : WP G z H) (hS : va_S (AW G) s.heap H locs) (hl : lv_has ls 4 [(0, .ref (G.2.2 0)), (1, .int v1), (2, .int v2), (3, .int v3)]) (h : fn_X11_iced_64  k16 v1 v2 v3 z = some Rz) : W p l e (rmd 3) s m args below meth c H locs 0 0 (QI below args s G Rz) (F0 m 64 ls []) := by
  obtain ⟨hx, hb, hml, hown, hts, hr, hlocks, hK, hG⟩ := id C
  unfold fn_X11_iced_64 at h
  refine lv_iinc (v := (v3 + 1)) (lv' := [(3, .int (v3 + 1)), (0, .ref (G.2.2 0)), (1, .int v1), (2, .int v2)]) hx hb dX11_iced_64 hl (k := 3) rfl rfl (by decide) rfl (fun ls hl => ?_)
  refine lv_goto (tgt := 16) hx hb dX11_iced_67 (by decide) ?_
  exact hk_16 v1 v2 (v3 + 1) z  _ _ _ hP hS (lv_sub hl [1, 2, 3, 0] rfl) h
def fn_X11_iced_16 : Nat → Int32 → Int32 → Int32 → St → Option (Int32 × St)
  | 0, _, _, _, _ => none
  | n + 1, v1, v2, v3, z => (if (z.1 34 2) ≤ v3 then some (v2, z) else bd (fn_X1_isFree  34 v3 z) (fun r3 z4 => (if r3 = 0 then fn_X11_iced_64  (fn_X11_iced_16   n) v1 v2 v3 z4 else gd (ix v3 24) (bd (fn_X7_icingOf  2 (35 + 1 + (Int32.toNatClampNeg v3)) z4) (fun r8 z9 => (if r8 < v1 then fn_X11_iced_64  (fn_X11_iced_16   n) v1 v2 v3 z9 else nm (v2 ||| (1 <<< (v3 &&& 31))) (fun v2_11 => fn_X11_iced_64  (fn_X11_iced_16   n) v1 v2_11 v3 z9)))))))
set_option maxHeartbeats 4000000 in
set_option maxRecDepth 100000 in
theorem pf_X11_iced_16 {p : Program} {l : Launch} {e : Env} {s : State} {m : MethodId} {args : Array Value} {below : List Frame} {meth : Method} {c : Code} {G : wG} (C : CX p s m args meth c cX11_iced 4 wsX11_iced RX11 (some .int) G) {Rz : Int32 × St} : ∀ (n : Nat) (v1 : Int32) (v2 : Int32) (v3 : Int32) (z : St)  (H : Heap) (locs : List Loc) (ls : Array Slot), WP G z H → va_S (AW G) s.heap H locs → lv_has ls 4 [(0, .ref (G.2.2 0)), (1, .int v1), (2, .int v2), (3, .int v3)] → fn_X11_iced_16   n v1 v2 v3 z = some Rz → W p l e (rmd 3) s m args below meth c H locs 0 0 (QI below args s G Rz) (F0 m 16 ls []) := by
  obtain ⟨hx, hb, hml, hown, hts, hr, hlocks, hK, hG⟩ := id C
  intro n
  induction n with
  | zero => intro v1 v2 v3 z  H locs ls hP hS hl h; cases h
  | succ n ih =>
    intro v1 v2 v3 z  H locs ls hP hS hl h
    rw [fn_X11_iced_16] at h
    refine lv_iload_n hx hb dX11_iced_16 rfl (lv_at hl 3 rfl) ?_
    refine lv_aload_n hx hb dX11_iced_17 rfl (lv_at hl 0 rfl) ?_
    refine ge_11_5 hx hb hts in_X11_iced_X11 hown hK hP k_0 (hts _ (List.mem_of_getElem? (i := 1) rfl)) dX11_iced_18 ?_
    refine ge_1_2 hx hb hts in_X11_iced_X1 hown hK hP k_34 (hts _ (List.mem_of_getElem? (i := 2) rfl)) dX11_iced_21 ?_
    refine lv_icmp_ge (tgt := 70) hx hb dX11_iced_24 (by decide) (fun c1 => ?_) (fun c1 => ?_)
    · rw [if_pos c1] at h
      refine lv_iload_n hx hb dX11_iced_70 rfl (lv_at hl 2 rfl) ?_
      exact x_iret hx hb hr hlocks hK hP hS h dX11_iced_71
    · rw [if_neg c1] at h
      refine lv_aload_n hx hb dX11_iced_27 rfl (lv_at hl 0 rfl) ?_
      refine ge_11_5 hx hb hts in_X11_iced_X11 hown hK hP k_0 (hts _ (List.mem_of_getElem? (i := 1) rfl)) dX11_iced_28 ?_
      refine lv_iload_n hx hb dX11_iced_31 rfl (lv_at hl 3 rfl) ?_
      obtain ⟨r3, z4, h2, h⟩ := bd_s h
      refine x_Vi (Rz := (r3, z4)) (As := [.int v3]) (rest := []) ⟨hx, hb, hml, hown, hts⟩ hK hP hS (kd_lt k_34 (by decide)) (cell_1 k_34) rfl (m_X1_isFree hG  k_34 h2) (cwV 1 hts gX11_iced_X1_isFree rfl rfl rfl (by decide +kernel) (rmd_ok (by decide) (by decide))) rfl hl.1 rfl (Nat.le_of_ble_eq_true rfl) dX11_iced_32 ⟨Nat.le_refl _, Nat.le_refl _⟩ (fun H locs hP hS => ?_)
      refine lv_if_eq (tgt := 64) hx hb dX11_iced_35 (by decide) (fun c5 => ?_) (fun c5 => ?_)
      · rw [if_pos c5] at h
        exact pf_X11_iced_64 C  ih v1 v2 v3 z4  hP hS (lv_sub hl [0, 1, 2, 3] rfl) h
      · rw [if_neg c5] at h
        refine lv_aload_n hx hb dX11_iced_38 rfl (lv_at hl 0 rfl) ?_
        refine ge_11_2 hx hb hts in_X11_iced_X11 hown hK hP k_0 (hts _ (List.mem_of_getElem? (i := 3) rfl)) dX11_iced_39 ?_
        refine lv_aload_n hx hb dX11_iced_42 rfl (lv_at hl 0 rfl) ?_
        refine ge_11_5 hx hb hts in_X11_iced_X11 hown hK hP k_0 (hts _ (List.mem_of_getElem? (i := 1) rfl)) dX11_iced_43 ?_
        refine ge_1_0 hx hb hts in_X11_iced_X1 hown hK hP k_34 (hts _ (List.mem_of_getElem? (i := 4) rfl)) dX11_iced_46 ?_
        refine lv_iload_n hx hb dX11_iced_49 rfl (lv_at hl 3 rfl) ?_
        obtain ⟨g6, h⟩ := gd_s h
        refine xl_18 hx hb hK hP k_35 l_35 (ix_in g6) dX11_iced_50 ?_
        obtain ⟨r8, z9, h7, h⟩ := bd_s h
        refine x_Vi (Rz := (r8, z9)) (As := [.ref (G.2.2 (35 + 1 + (Int32.toNatClampNeg v3)))]) (rest := []) ⟨hx, hb, hml, hown, hts⟩ hK hP hS (kd_lt k_2 (by decide)) (cell_7 k_2) rfl (m_X7_icingOf hG  k_2 (ke_18 k_35 (ix_lt g6)) h7) (cwV 1 hts gX11_iced_X7_icingOf rfl rfl rfl (by decide +kernel) (rmd_ok (by decide) (by decide))) rfl hl.1 rfl (Nat.le_of_ble_eq_true rfl) dX11_iced_51 ⟨Nat.le_refl _, Nat.le_refl _⟩ (fun H locs hP hS => ?_)
        refine lv_iload_n hx hb dX11_iced_54 rfl (lv_at hl 1 rfl) ?_
        refine lv_icmp_lt (tgt := 64) hx hb dX11_iced_55 (by decide) (fun c10 => ?_) (fun c10 => ?_)
        · rw [if_pos c10] at h
          exact pf_X11_iced_64 C  ih v1 v2 v3 z9  hP hS (lv_sub hl [0, 1, 2, 3] rfl) h
        · rw [if_neg c10] at h
          refine lv_iload_n hx hb dX11_iced_58 rfl (lv_at hl 2 rfl) ?_
          refine lv_iconst (v := 1) hx hb dX11_iced_59 (by decide) ?_
          refine lv_iload_n hx hb dX11_iced_60 rfl (lv_at hl 3 rfl) ?_
          refine lv_ishl hx hb dX11_iced_61 ?_
          refine lv_ior hx hb dX11_iced_62 ?_
          obtain ⟨v2_11, e_v2_11, h⟩ := nm_s h
          refine x_top e_v2_11 ?_
          refine lv_istore_n (lv' := [(2, .int v2_11), (0, .ref (G.2.2 0)), (1, .int v1), (3, .int v3)]) hx hb dX11_iced_63 rfl hl (by decide) rfl (fun ls hl => ?_)
          exact pf_X11_iced_64 C  ih v1 v2_11 v3 z9  hP hS (lv_sub hl [1, 2, 0, 3] rfl) h
def fn_X11_iced (v1 : Int32) (z : St) : Option (Int32 × St) := (if v1 < 0 then some ((-1), z) else (if v1 ≤ 32 then fn_X11_iced_16   fu v1 0 0 z else some ((-1), z)))
set_option maxHeartbeats 4000000 in
set_option maxRecDepth 100000 in
theorem m_X11_iced {l : Launch} {G : wG} (hG : Ok G) {v1 : Int32} {z : St} {Rz : Int32 × St}  (h : fn_X11_iced  v1 z = some Rz) : Met l yX11_iced wsX11_iced (rmd 3) (va_Pc [.ref (G.2.2 0), .int v1] (Pre G z)) (va_Qi (fun r u => (r, u) = Rz) (Pre G) (AW G)) 0 0 (AW G) := by
  refine Met.ofW (cc := cX11_iced) (maxL := 4) (ret := (some .int)) (by decide) rfl ?_
  intro p e s m args below meth c s₁ B hml hv
  obtain ⟨rfl, hP, hK⟩ := hv
  have C : CX p s m ([.ref (G.2.2 0), .int v1] : List Value).toArray meth c cX11_iced 4 wsX11_iced RX11 (some .int) G := ⟨B.exec, B.bytes, hml, findClass_of_methodNamed B.named, atoms_spec (ws := wsX11_iced) B.pre, B.returns, B.notSynchronized, hK, hG⟩
  obtain ⟨hx, hb, -, hown, hts, hr, hlocks, -, -⟩ := id C
  have hS : va_S (AW G) s.heap s.heap [] := va_S.rf
  have hl := lv_entry [.ref (G.2.2 0), .int v1] (n := 4) (Nat.le_of_ble_eq_true rfl)
  rw [lg_entry_eq]
  generalize (lg_sl [.ref (G.2.2 0), .int v1] ++ List.replicate (4 - (lg_sl [.ref (G.2.2 0), .int v1]).length) Slot.unset).toArray = ls at hl ⊢
  have hl : lv_has ls 4 [(0, .ref (G.2.2 0)), (1, .int v1)] := hl
  unfold fn_X11_iced at h
  refine lv_iload_n hx hb dX11_iced_0 rfl (lv_at hl 1 rfl) ?_
  refine lv_if_lt (tgt := 10) hx hb dX11_iced_1 (by decide) (fun c1 => ?_) (fun c1 => ?_)
  · rw [if_pos c1] at h
    refine lv_iconst (v := (-1)) hx hb dX11_iced_10 (by decide) ?_
    exact x_iret hx hb hr hlocks hK hP hS h dX11_iced_11
  · rw [if_neg c1] at h
    refine lv_iload_n hx hb dX11_iced_4 rfl (lv_at hl 1 rfl) ?_
    refine lv_bipush (v := 32) hx hb dX11_iced_5 (by decide) ?_
    refine lv_icmp_le (tgt := 12) hx hb dX11_iced_7 (by decide) (fun c2 => ?_) (fun c2 => ?_)
    · rw [if_pos c2] at h
      refine lv_iconst (v := 0) hx hb dX11_iced_12 (by decide) ?_
      refine lv_istore_n (lv' := [(2, .int 0), (0, .ref (G.2.2 0)), (1, .int v1)]) hx hb dX11_iced_13 rfl hl (by decide) rfl (fun ls hl => ?_)
      refine lv_iconst (v := 0) hx hb dX11_iced_14 (by decide) ?_
      refine lv_istore_n (lv' := [(3, .int 0), (2, .int 0), (0, .ref (G.2.2 0)), (1, .int v1)]) hx hb dX11_iced_15 rfl hl (by decide) rfl (fun ls hl => ?_)
      exact pf_X11_iced_16 C   fu v1 0 0 z  _ _ _ hP hS (lv_sub hl [2, 3, 1, 0] rfl) h
    · rw [if_neg c2] at h
      refine lv_iconst (v := (-1)) hx hb dX11_iced_10 (by decide) ?_
      exact x_iret hx hb hr hlocks hK hP hS h dX11_iced_11
def fn_X11_commonDivisor_7 : Nat → Int32 → Int32 → Int32 → St → Option (Int32 × St)
  | 0, _, _, _, _ => none
  | n + 1, v2, v3, v4, z => (if 64 ≤ v4 then some (v2, z) else (if v3 = 0 then some (v2, z) else gd (v3 != 0) (nm (v2 - v2 / v3 * v3) (fun v5_4 => fn_X11_commonDivisor_7   n v3 v5_4 (v4 + 1) z))))
set_option maxHeartbeats 4000000 in
set_option maxRecDepth 100000 in
theorem pf_X11_commonDivisor_7 {p : Program} {l : Launch} {e : Env} {s : State} {m : MethodId} {args : Array Value} {below : List Frame} {meth : Method} {c : Code} {G : wG} (C : CX p s m args meth c cX11_commonDivisor 6 wsX11_commonDivisor RX11 (some .int) G) {Rz : Int32 × St} : ∀ (n : Nat) (v2 : Int32) (v3 : Int32) (v4 : Int32) (z : St)  (H : Heap) (locs : List Loc) (ls : Array Slot), WP G z H → va_S (AW G) s.heap H locs → lv_has ls 6 [(2, .int v2), (3, .int v3), (4, .int v4)] → fn_X11_commonDivisor_7   n v2 v3 v4 z = some Rz → W p l e (rmd 1) s m args below meth c H locs 0 0 (QI below args s G Rz) (F0 m 7 ls []) := by
  obtain ⟨hx, hb, hml, hown, hts, hr, hlocks, hK, hG⟩ := id C
  intro n
  induction n with
  | zero => intro v2 v3 v4 z  H locs ls hP hS hl h; cases h
  | succ n ih =>
    intro v2 v3 v4 z  H locs ls hP hS hl h
    rw [fn_X11_commonDivisor_7] at h
    refine lv_iload hx hb dX11_commonDivisor_7 (lv_at hl 2 rfl) ?_
    refine lv_bipush (v := 64) hx hb dX11_commonDivisor_9 (by decide) ?_
    refine lv_icmp_ge (tgt := 34) hx hb dX11_commonDivisor_11 (by decide) (fun c1 => ?_) (fun c1 => ?_)
    · rw [if_pos c1] at h
      refine lv_iload_n hx hb dX11_commonDivisor_34 rfl (lv_at hl 0 rfl) ?_
      exact x_iret hx hb hr hlocks hK hP hS h dX11_commonDivisor_35
    · rw [if_neg c1] at h
      refine lv_iload_n hx hb dX11_commonDivisor_14 rfl (lv_at hl 1 rfl) ?_
      refine lv_if_eq (tgt := 34) hx hb dX11_commonDivisor_15 (by decide) (fun c2 => ?_) (fun c2 => ?_)
      · rw [if_pos c2] at h
        refine lv_iload_n hx hb dX11_commonDivisor_34 rfl (lv_at hl 0 rfl) ?_
        exact x_iret hx hb hr hlocks hK hP hS h dX11_commonDivisor_35
      · rw [if_neg c2] at h
        refine lv_iload_n hx hb dX11_commonDivisor_18 rfl (lv_at hl 0 rfl) ?_
        refine lv_iload_n hx hb dX11_commonDivisor_19 rfl (lv_at hl 1 rfl) ?_
        obtain ⟨g3, h⟩ := gd_s h
        refine lv_irem hx hb dX11_commonDivisor_20 (bne_z g3) ?_
        obtain ⟨v5_4, e_v5_4, h⟩ := nm_s h
        refine x_top e_v5_4 ?_
        refine lv_istore (lv' := [(5, .int v5_4), (2, .int v2), (3, .int v3), (4, .int v4)]) hx hb dX11_commonDivisor_21 hl (by decide) rfl (fun ls hl => ?_)
        refine lv_iload_n hx hb dX11_commonDivisor_23 rfl (lv_at hl 2 rfl) ?_
        refine lv_istore_n (lv' := [(2, .int v3), (5, .int v5_4), (3, .int v3), (4, .int v4)]) hx hb dX11_commonDivisor_24 rfl hl (by decide) rfl (fun ls hl => ?_)
        refine lv_iload hx hb dX11_commonDivisor_25 (lv_at hl 1 rfl) ?_
        refine lv_istore_n (lv' := [(3, .int v5_4), (2, .int v3), (5, .int v5_4), (4, .int v4)]) hx hb dX11_commonDivisor_27 rfl hl (by decide) rfl (fun ls hl => ?_)
        refine lv_iinc (v := (v4 + 1)) (lv' := [(4, .int (v4 + 1)), (3, .int v5_4), (2, .int v3), (5, .int v5_4)]) hx hb dX11_commonDivisor_28 hl (k := 3) rfl rfl (by decide) rfl (fun ls hl => ?_)
        refine lv_goto (tgt := 7) hx hb dX11_commonDivisor_31 (by decide) ?_
        exact ih v3 v5_4 (v4 + 1) z _ _ _ hP hS (lv_sub hl [2, 1, 0] rfl) h
def fn_X11_commonDivisor (v0 : Int32) (v1 : Int32) (z : St) : Option (Int32 × St) := fn_X11_commonDivisor_7   fu v0 v1 0 z
set_option maxHeartbeats 4000000 in
set_option maxRecDepth 100000 in
theorem m_X11_commonDivisor {l : Launch} {G : wG} (hG : Ok G) {v0 : Int32} {v1 : Int32} {z : St} {Rz : Int32 × St}  (h : fn_X11_commonDivisor  v0 v1 z = some Rz) : Met l yX11_commonDivisor wsX11_commonDivisor (rmd 1) (va_Pc [.int v0, .int v1] (Pre G z)) (va_Qi (fun r u => (r, u) = Rz) (Pre G) (AW G)) 0 0 (AW G) := by
  refine Met.ofW (cc := cX11_commonDivisor) (maxL := 6) (ret := (some .int)) (by decide) rfl ?_
  intro p e s m args below meth c s₁ B hml hv
  obtain ⟨rfl, hP, hK⟩ := hv
  have C : CX p s m ([.int v0, .int v1] : List Value).toArray meth c cX11_commonDivisor 6 wsX11_commonDivisor RX11 (some .int) G := ⟨B.exec, B.bytes, hml, findClass_of_methodNamed B.named, atoms_spec (ws := wsX11_commonDivisor) B.pre, B.returns, B.notSynchronized, hK, hG⟩
  obtain ⟨hx, hb, -, hown, hts, hr, hlocks, -, -⟩ := id C
  have hS : va_S (AW G) s.heap s.heap [] := va_S.rf
  have hl := lv_entry [.int v0, .int v1] (n := 6) (Nat.le_of_ble_eq_true rfl)
  rw [lg_entry_eq]
  generalize (lg_sl [.int v0, .int v1] ++ List.replicate (6 - (lg_sl [.int v0, .int v1]).length) Slot.unset).toArray = ls at hl ⊢
  have hl : lv_has ls 6 [(0, .int v0), (1, .int v1)] := hl
  unfold fn_X11_commonDivisor at h
  refine lv_iload_n hx hb dX11_commonDivisor_0 rfl (lv_at hl 0 rfl) ?_
  refine lv_istore_n (lv' := [(2, .int v0), (0, .int v0), (1, .int v1)]) hx hb dX11_commonDivisor_1 rfl hl (by decide) rfl (fun ls hl => ?_)
  refine lv_iload_n hx hb dX11_commonDivisor_2 rfl (lv_at hl 2 rfl) ?_
  refine lv_istore_n (lv' := [(3, .int v1), (2, .int v0), (0, .int v0), (1, .int v1)]) hx hb dX11_commonDivisor_3 rfl hl (by decide) rfl (fun ls hl => ?_)
  refine lv_iconst (v := 0) hx hb dX11_commonDivisor_4 (by decide) ?_
  refine lv_istore (lv' := [(4, .int 0), (3, .int v1), (2, .int v0), (0, .int v0), (1, .int v1)]) hx hb dX11_commonDivisor_5 hl (by decide) rfl (fun ls hl => ?_)
  exact pf_X11_commonDivisor_7 C   fu v0 v1 0 z  _ _ _ hP hS (lv_sub hl [2, 1, 0] rfl) h
theorem in_X11_come_X7 : ∀ w ∈ wsX70, w ∈ wsX11_come := fun _ h => (List.mem_cons_of_mem _ (List.mem_append_right _ h))
theorem in_X11_come_X11 : ∀ w ∈ wsX110, w ∈ wsX11_come := fun _ h => (List.mem_cons_of_mem _ (List.mem_append_left _ (List.mem_append_right _ h)))
def fn_X11_come_86 (k44 : Int32 → Int32 → Int32 → Int32 → Int32 → St → Option (Int32 × St)) (v1 : Int32) (v2 : Int32) (v3 : Int32) (v4 : Int32) (v5 : Int32) (z : St) : Option (Int32 × St) := k44 v1 v2 v3 v4 (v5 + 1) z
set_option maxHeartbeats 4000000 in
set_option maxRecDepth 100000 in
theorem pf_X11_come_86 {p : Program} {l : Launch} {e : Env} {s : State} {m : MethodId} {args : Array Value} {below : List Frame} {meth : Method} {c : Code} {G : wG} (C : CX p s m args meth c cX11_come 6 wsX11_come RX11 (some .int) G) {Rz : Int32 × St} {k44 : Int32 → Int32 → Int32 → Int32 → Int32 → St → Option (Int32 × St)} (hk_44 : ∀ (v1 : Int32) (v2 : Int32) (v3 : Int32) (v4 : Int32) (v5 : Int32) (z : St)  (H : Heap) (locs : List Loc) (ls : Array Slot), WP G z H → va_S (AW G) s.heap H locs → lv_has ls 6 [(0, .ref (G.2.2 0)), (1, .int v1), (2, .int v2), (3, .int v3), (4, .int v4), (5, .int v5)] → k44 v1 v2 v3 v4 v5 z = some Rz → W p l e (rmd 2) s m args below meth c H locs 0 0 (QI below args s G Rz) (F0 m 44 ls [])) (v1 : Int32) (v2 : Int32) (v3 : Int32) (v4 : Int32) (v5 : Int32) (z : St)  {H : Heap} {locs : List Loc} {ls : Array Slot} (hP : WP G z H) (hS : va_S (AW G) s.heap H locs) (hl : lv_has ls 6 [(0, .ref (G.2.2 0)), (1, .int v1), (2, .int v2), (3, .int v3), (4, .int v4), (5, .int v5)]) (h : fn_X11_come_86  k44 v1 v2 v3 v4 v5 z = some Rz) : W p l e (rmd 2) s m args below meth c H locs 0 0 (QI below args s G Rz) (F0 m 86 ls []) := by
  obtain ⟨hx, hb, hml, hown, hts, hr, hlocks, hK, hG⟩ := id C
  unfold fn_X11_come_86 at h
  refine lv_iinc (v := (v5 + 1)) (lv' := [(5, .int (v5 + 1)), (0, .ref (G.2.2 0)), (1, .int v1), (2, .int v2), (3, .int v3), (4, .int v4)]) hx hb dX11_come_86 hl (k := 5) rfl rfl (by decide) rfl (fun ls hl => ?_)
  refine lv_goto (tgt := 44) hx hb dX11_come_89 (by decide) ?_
  exact hk_44 v1 v2 v3 v4 (v5 + 1) z  _ _ _ hP hS (lv_sub hl [1, 2, 3, 4, 5, 0] rfl) h
def fn_X11_come_44 : Nat → Int32 → Int32 → Int32 → Int32 → Int32 → St → Option (Int32 × St)
  | 0, _, _, _, _, _, _ => none
  | n + 1, v1, v2, v3, v4, v5, z => (if (z.1 2 5) ≤ v5 then bd (fn_X11_commonDivisor  v3 v4 z) (fun r3 z4 => (if r3 = 0 then some ((-1), z4) else (if v2 = 0 then gd (r3 != 0) (some ((v3 / r3), z4)) else gd (r3 != 0) (some ((v4 / r3), z4))))) else (if ((v1 >>> (v5 &&& 31)) &&& 1) = 1 then gd (ix v5 6) (nm (v3 * (z.1 10 (Int32.toNatClampNeg v5))) (fun v3_11 => nm (v4 * 100) (fun v4_12 => fn_X11_come_86  (fn_X11_come_44   n) v1 v2 v3_11 v4_12 v5 z))) else fn_X11_come_86  (fn_X11_come_44   n) v1 v2 v3 v4 v5 z))
set_option maxHeartbeats 4000000 in
set_option maxRecDepth 100000 in
theorem pf_X11_come_44 {p : Program} {l : Launch} {e : Env} {s : State} {m : MethodId} {args : Array Value} {below : List Frame} {meth : Method} {c : Code} {G : wG} (C : CX p s m args meth c cX11_come 6 wsX11_come RX11 (some .int) G) {Rz : Int32 × St} : ∀ (n : Nat) (v1 : Int32) (v2 : Int32) (v3 : Int32) (v4 : Int32) (v5 : Int32) (z : St)  (H : Heap) (locs : List Loc) (ls : Array Slot), WP G z H → va_S (AW G) s.heap H locs → lv_has ls 6 [(0, .ref (G.2.2 0)), (1, .int v1), (2, .int v2), (3, .int v3), (4, .int v4), (5, .int v5)] → fn_X11_come_44   n v1 v2 v3 v4 v5 z = some Rz → W p l e (rmd 2) s m args below meth c H locs 0 0 (QI below args s G Rz) (F0 m 44 ls []) := by
  obtain ⟨hx, hb, hml, hown, hts, hr, hlocks, hK, hG⟩ := id C
  intro n
  induction n with
  | zero => intro v1 v2 v3 v4 v5 z  H locs ls hP hS hl h; cases h
  | succ n ih =>
    intro v1 v2 v3 v4 v5 z  H locs ls hP hS hl h
    rw [fn_X11_come_44] at h
    refine lv_iload hx hb dX11_come_44 (lv_at hl 5 rfl) ?_
    refine lv_aload_n hx hb dX11_come_46 rfl (lv_at hl 0 rfl) ?_
    refine ge_11_2 hx hb hts in_X11_come_X11 hown hK hP k_0 (hts _ (List.mem_of_getElem? (i := 1) rfl)) dX11_come_47 ?_
    refine ge_7_5 hx hb hts in_X11_come_X7 hown hK hP k_2 (hts _ (List.mem_of_getElem? (i := 2) rfl)) dX11_come_50 ?_
    refine lv_icmp_ge (tgt := 92) hx hb dX11_come_53 (by decide) (fun c1 => ?_) (fun c1 => ?_)
    · rw [if_pos c1] at h
      refine lv_iload_n hx hb dX11_come_92 rfl (lv_at hl 3 rfl) ?_
      refine lv_iload hx hb dX11_come_93 (lv_at hl 4 rfl) ?_
      obtain ⟨r3, z4, h2, h⟩ := bd_s h
      refine x_Si (Rz := (r3, z4)) (As := [.int v3, .int v4]) (rest := []) ⟨hx, hb, hml, hown, hts⟩ hK hP hS (m_X11_commonDivisor hG   h2) (va_cwS 2 hts gX11_come_X11_commonDivisor rfl rfl rfl (by decide +kernel) (rmd_ok (by decide) (by decide))) rfl hl.1 rfl (Nat.le_of_ble_eq_true rfl) dX11_come_95 ⟨Nat.le_refl _, Nat.le_refl _⟩ (fun H locs hP hS => ?_)
      refine lv_istore (lv' := [(5, .int r3), (0, .ref (G.2.2 0)), (1, .int v1), (2, .int v2), (3, .int v3), (4, .int v4)]) hx hb dX11_come_98 hl (by decide) rfl (fun ls hl => ?_)
      refine lv_iload hx hb dX11_come_100 (lv_at hl 0 rfl) ?_
      refine lv_if_ne (tgt := 107) hx hb dX11_come_102 (by decide) (fun c5 => ?_) (fun c5 => ?_)
      · rw [if_neg c5] at h
        refine lv_iload_n hx hb dX11_come_107 rfl (lv_at hl 3 rfl) ?_
        refine lv_if_ne (tgt := 118) hx hb dX11_come_108 (by decide) (fun c6 => ?_) (fun c6 => ?_)
        · rw [if_neg c6] at h
          refine lv_iload hx hb dX11_come_118 (lv_at hl 5 rfl) ?_
          refine lv_iload hx hb dX11_come_120 (lv_at hl 0 rfl) ?_
          obtain ⟨g7, h⟩ := gd_s h
          refine lv_idiv hx hb dX11_come_122 (bne_z g7) ?_
          exact x_iret hx hb hr hlocks hK hP hS h dX11_come_123
        · rw [if_pos c6] at h
          refine lv_iload_n hx hb dX11_come_111 rfl (lv_at hl 4 rfl) ?_
          refine lv_iload hx hb dX11_come_112 (lv_at hl 0 rfl) ?_
          obtain ⟨g8, h⟩ := gd_s h
          refine lv_idiv hx hb dX11_come_114 (bne_z g8) ?_
          refine lv_goto (tgt := 123) hx hb dX11_come_115 (by decide) ?_
          exact x_iret hx hb hr hlocks hK hP hS h dX11_come_123
      · rw [if_pos c5] at h
        refine lv_iconst (v := (-1)) hx hb dX11_come_105 (by decide) ?_
        exact x_iret hx hb hr hlocks hK hP hS h dX11_come_106
    · rw [if_neg c1] at h
      refine lv_iload_n hx hb dX11_come_56 rfl (lv_at hl 1 rfl) ?_
      refine lv_iload hx hb dX11_come_57 (lv_at hl 5 rfl) ?_
      refine lv_ishr hx hb dX11_come_59 ?_
      refine lv_iconst (v := 1) hx hb dX11_come_60 (by decide) ?_
      refine lv_iand hx hb dX11_come_61 ?_
      refine lv_iconst (v := 1) hx hb dX11_come_62 (by decide) ?_
      refine lv_icmp_ne (tgt := 86) hx hb dX11_come_63 (by decide) (fun c9 => ?_) (fun c9 => ?_)
      · rw [if_neg c9] at h
        exact pf_X11_come_86 C  ih v1 v2 v3 v4 v5 z  hP hS (lv_sub hl [0, 1, 2, 3, 4, 5] rfl) h
      · rw [if_pos c9] at h
        refine lv_iload_n hx hb dX11_come_66 rfl (lv_at hl 3 rfl) ?_
        refine lv_aload_n hx hb dX11_come_67 rfl (lv_at hl 0 rfl) ?_
        refine ge_11_2 hx hb hts in_X11_come_X11 hown hK hP k_0 (hts _ (List.mem_of_getElem? (i := 1) rfl)) dX11_come_68 ?_
        refine ge_7_9 hx hb hts in_X11_come_X7 hown hK hP k_2 (hts _ (List.mem_of_getElem? (i := 3) rfl)) dX11_come_71 ?_
        refine lv_iload hx hb dX11_come_74 (lv_at hl 5 rfl) ?_
        obtain ⟨g10, h⟩ := gd_s h
        refine xl_14 hx hb hK hP k_10 l_10 (ix_in g10) dX11_come_76 ?_
        refine lv_imul hx hb dX11_come_77 ?_
        obtain ⟨v3_11, e_v3_11, h⟩ := nm_s h
        refine x_top e_v3_11 ?_
        refine lv_istore_n (lv' := [(3, .int v3_11), (0, .ref (G.2.2 0)), (1, .int v1), (2, .int v2), (4, .int v4), (5, .int v5)]) hx hb dX11_come_78 rfl hl (by decide) rfl (fun ls hl => ?_)
        refine lv_iload hx hb dX11_come_79 (lv_at hl 4 rfl) ?_
        refine lv_bipush (v := 100) hx hb dX11_come_81 (by decide) ?_
        refine lv_imul hx hb dX11_come_83 ?_
        obtain ⟨v4_12, e_v4_12, h⟩ := nm_s h
        refine x_top e_v4_12 ?_
        refine lv_istore (lv' := [(4, .int v4_12), (3, .int v3_11), (0, .ref (G.2.2 0)), (1, .int v1), (2, .int v2), (5, .int v5)]) hx hb dX11_come_84 hl (by decide) rfl (fun ls hl => ?_)
        exact pf_X11_come_86 C  ih v1 v2 v3_11 v4_12 v5 z  hP hS (lv_sub hl [2, 3, 4, 1, 0, 5] rfl) h
def fn_X11_come (v1 : Int32) (v2 : Int32) (z : St) : Option (Int32 × St) := (if v1 < 0 then some ((-1), z) else (if (1 <<< ((z.1 2 5) &&& 31)) ≤ v1 then some ((-1), z) else bd (fn_J6_bitCount_0f7a4  v1 z) (fun r4 z5 => (if 4 < r4 then some ((-1), z5) else (if v2 < 0 then some ((-1), z5) else (if v2 ≤ 1 then fn_X11_come_44   fu v1 v2 1 1 0 z5 else some ((-1), z5)))))))
set_option maxHeartbeats 4000000 in
set_option maxRecDepth 100000 in
theorem m_X11_come {l : Launch} {G : wG} (hG : Ok G) {v1 : Int32} {v2 : Int32} {z : St} {Rz : Int32 × St}  (h : fn_X11_come  v1 v2 z = some Rz) : Met l yX11_come wsX11_come (rmd 2) (va_Pc [.ref (G.2.2 0), .int v1, .int v2] (Pre G z)) (va_Qi (fun r u => (r, u) = Rz) (Pre G) (AW G)) 0 0 (AW G) := by
  refine Met.ofW (cc := cX11_come) (maxL := 6) (ret := (some .int)) (by decide) rfl ?_
  intro p e s m args below meth c s₁ B hml hv
  obtain ⟨rfl, hP, hK⟩ := hv
  have C : CX p s m ([.ref (G.2.2 0), .int v1, .int v2] : List Value).toArray meth c cX11_come 6 wsX11_come RX11 (some .int) G := ⟨B.exec, B.bytes, hml, findClass_of_methodNamed B.named, atoms_spec (ws := wsX11_come) B.pre, B.returns, B.notSynchronized, hK, hG⟩
  obtain ⟨hx, hb, -, hown, hts, hr, hlocks, -, -⟩ := id C
  have hS : va_S (AW G) s.heap s.heap [] := va_S.rf
  have hl := lv_entry [.ref (G.2.2 0), .int v1, .int v2] (n := 6) (Nat.le_of_ble_eq_true rfl)
  rw [lg_entry_eq]
  generalize (lg_sl [.ref (G.2.2 0), .int v1, .int v2] ++ List.replicate (6 - (lg_sl [.ref (G.2.2 0), .int v1, .int v2]).length) Slot.unset).toArray = ls at hl ⊢
  have hl : lv_has ls 6 [(0, .ref (G.2.2 0)), (1, .int v1), (2, .int v2)] := hl
  unfold fn_X11_come at h
  refine lv_iload_n hx hb dX11_come_0 rfl (lv_at hl 1 rfl) ?_
  refine lv_if_lt (tgt := 34) hx hb dX11_come_1 (by decide) (fun c1 => ?_) (fun c1 => ?_)
  · rw [if_pos c1] at h
    refine lv_iconst (v := (-1)) hx hb dX11_come_34 (by decide) ?_
    exact x_iret hx hb hr hlocks hK hP hS h dX11_come_35
  · rw [if_neg c1] at h
    refine lv_iload_n hx hb dX11_come_4 rfl (lv_at hl 1 rfl) ?_
    refine lv_iconst (v := 1) hx hb dX11_come_5 (by decide) ?_
    refine lv_aload_n hx hb dX11_come_6 rfl (lv_at hl 0 rfl) ?_
    refine ge_11_2 hx hb hts in_X11_come_X11 hown hK hP k_0 (hts _ (List.mem_of_getElem? (i := 1) rfl)) dX11_come_7 ?_
    refine ge_7_5 hx hb hts in_X11_come_X7 hown hK hP k_2 (hts _ (List.mem_of_getElem? (i := 2) rfl)) dX11_come_10 ?_
    refine lv_ishl hx hb dX11_come_13 ?_
    refine lv_icmp_ge (tgt := 34) hx hb dX11_come_14 (by decide) (fun c2 => ?_) (fun c2 => ?_)
    · rw [if_pos c2] at h
      refine lv_iconst (v := (-1)) hx hb dX11_come_34 (by decide) ?_
      exact x_iret hx hb hr hlocks hK hP hS h dX11_come_35
    · rw [if_neg c2] at h
      refine lv_iload_n hx hb dX11_come_17 rfl (lv_at hl 1 rfl) ?_
      obtain ⟨r4, z5, h3, h⟩ := bd_s h
      refine x_Si (Rz := (r4, z5)) (As := [.int v1]) (rest := []) ⟨hx, hb, hml, hown, hts⟩ hK hP hS (m_J6_bitCount_0f7a4 hG   h3) (va_cwS 1 hts gX11_come_J6_bitCount_0f7a4 rfl rfl rfl (by decide +kernel) (rmd_ok (by decide) (by decide))) rfl hl.1 rfl (Nat.le_of_ble_eq_true rfl) dX11_come_18 ⟨Nat.le_refl _, Nat.le_refl _⟩ (fun H locs hP hS => ?_)
      refine lv_iconst (v := 4) hx hb dX11_come_21 (by decide) ?_
      refine lv_icmp_gt (tgt := 34) hx hb dX11_come_22 (by decide) (fun c6 => ?_) (fun c6 => ?_)
      · rw [if_pos c6] at h
        refine lv_iconst (v := (-1)) hx hb dX11_come_34 (by decide) ?_
        exact x_iret hx hb hr hlocks hK hP hS h dX11_come_35
      · rw [if_neg c6] at h
        refine lv_iload_n hx hb dX11_come_25 rfl (lv_at hl 2 rfl) ?_
        refine lv_if_lt (tgt := 34) hx hb dX11_come_26 (by decide) (fun c7 => ?_) (fun c7 => ?_)
        · rw [if_pos c7] at h
          refine lv_iconst (v := (-1)) hx hb dX11_come_34 (by decide) ?_
          exact x_iret hx hb hr hlocks hK hP hS h dX11_come_35
        · rw [if_neg c7] at h
          refine lv_iload_n hx hb dX11_come_29 rfl (lv_at hl 2 rfl) ?_
          refine lv_iconst (v := 1) hx hb dX11_come_30 (by decide) ?_
          refine lv_icmp_le (tgt := 36) hx hb dX11_come_31 (by decide) (fun c8 => ?_) (fun c8 => ?_)
          · rw [if_pos c8] at h
            refine lv_iconst (v := 1) hx hb dX11_come_36 (by decide) ?_
            refine lv_istore_n (lv' := [(3, .int 1), (0, .ref (G.2.2 0)), (1, .int v1), (2, .int v2)]) hx hb dX11_come_37 rfl hl (by decide) rfl (fun ls hl => ?_)
            refine lv_iconst (v := 1) hx hb dX11_come_38 (by decide) ?_
            refine lv_istore (lv' := [(4, .int 1), (3, .int 1), (0, .ref (G.2.2 0)), (1, .int v1), (2, .int v2)]) hx hb dX11_come_39 hl (by decide) rfl (fun ls hl => ?_)
            refine lv_iconst (v := 0) hx hb dX11_come_41 (by decide) ?_
            refine lv_istore (lv' := [(5, .int 0), (4, .int 1), (3, .int 1), (0, .ref (G.2.2 0)), (1, .int v1), (2, .int v2)]) hx hb dX11_come_42 hl (by decide) rfl (fun ls hl => ?_)
            exact pf_X11_come_44 C   fu v1 v2 1 1 0 z5  _ _ _ hP hS (lv_sub hl [3, 4, 5, 2, 1, 0] rfl) h
          · rw [if_neg c8] at h
            refine lv_iconst (v := (-1)) hx hb dX11_come_34 (by decide) ?_
            exact x_iret hx hb hr hlocks hK hP hS h dX11_come_35
theorem in_X11_sized_X11 : ∀ w ∈ wsX110, w ∈ wsX11_sized := fun _ h => (List.mem_cons_of_mem _ (List.mem_append_left _ (List.mem_append_left _ (List.mem_append_right _ h))))
def fn_X11_sized (v1 : Int32) (v2 : Int32) (z : St) : Option (Int32 × St) := (if v1 < 1 then some ((-1), z) else (if v1 ≤ 64 then bd (fn_X4_tell  0 v1 v2 z) (fun r4 z5 => some (r4, z5)) else some ((-1), z)))
set_option maxHeartbeats 4000000 in
set_option maxRecDepth 100000 in
theorem m_X11_sized {l : Launch} {G : wG} (hG : Ok G) {v1 : Int32} {v2 : Int32} {z : St} {Rz : Int32 × St}  (h : fn_X11_sized  v1 v2 z = some Rz) : Met l yX11_sized wsX11_sized (rmd 2) (va_Pc [.ref (G.2.2 0), .int v1, .int v2] (Pre G z)) (va_Qi (fun r u => (r, u) = Rz) (Pre G) (AW G)) 0 0 (AW G) := by
  refine Met.ofW (cc := cX11_sized) (maxL := 3) (ret := (some .int)) (by decide) rfl ?_
  intro p e s m args below meth c s₁ B hml hv
  obtain ⟨rfl, hP, hK⟩ := hv
  have C : CX p s m ([.ref (G.2.2 0), .int v1, .int v2] : List Value).toArray meth c cX11_sized 3 wsX11_sized RX11 (some .int) G := ⟨B.exec, B.bytes, hml, findClass_of_methodNamed B.named, atoms_spec (ws := wsX11_sized) B.pre, B.returns, B.notSynchronized, hK, hG⟩
  obtain ⟨hx, hb, -, hown, hts, hr, hlocks, -, -⟩ := id C
  have hS : va_S (AW G) s.heap s.heap [] := va_S.rf
  have hl := lv_entry [.ref (G.2.2 0), .int v1, .int v2] (n := 3) (Nat.le_of_ble_eq_true rfl)
  rw [lg_entry_eq]
  generalize (lg_sl [.ref (G.2.2 0), .int v1, .int v2] ++ List.replicate (3 - (lg_sl [.ref (G.2.2 0), .int v1, .int v2]).length) Slot.unset).toArray = ls at hl ⊢
  have hl : lv_has ls 3 [(0, .ref (G.2.2 0)), (1, .int v1), (2, .int v2)] := hl
  unfold fn_X11_sized at h
  refine lv_iload_n hx hb dX11_sized_0 rfl (lv_at hl 1 rfl) ?_
  refine lv_iconst (v := 1) hx hb dX11_sized_1 (by decide) ?_
  refine lv_icmp_lt (tgt := 11) hx hb dX11_sized_2 (by decide) (fun c1 => ?_) (fun c1 => ?_)
  · rw [if_pos c1] at h
    refine lv_iconst (v := (-1)) hx hb dX11_sized_11 (by decide) ?_
    exact x_iret hx hb hr hlocks hK hP hS h dX11_sized_12
  · rw [if_neg c1] at h
    refine lv_iload_n hx hb dX11_sized_5 rfl (lv_at hl 1 rfl) ?_
    refine lv_bipush (v := 64) hx hb dX11_sized_6 (by decide) ?_
    refine lv_icmp_le (tgt := 13) hx hb dX11_sized_8 (by decide) (fun c2 => ?_) (fun c2 => ?_)
    · rw [if_pos c2] at h
      refine lv_aload_n hx hb dX11_sized_13 rfl (lv_at hl 0 rfl) ?_
      refine ge_11_12 hx hb hts in_X11_sized_X11 hown hK hP k_0 (hts _ (List.mem_of_getElem? (i := 1) rfl)) dX11_sized_14 ?_
      refine lv_iconst (v := 0) hx hb dX11_sized_17 (by decide) ?_
      refine lv_iload_n hx hb dX11_sized_18 rfl (lv_at hl 1 rfl) ?_
      refine lv_iload_n hx hb dX11_sized_19 rfl (lv_at hl 2 rfl) ?_
      obtain ⟨r4, z5, h3, h⟩ := bd_s h
      refine x_Vi (Rz := (r4, z5)) (As := [.int 0, .int v1, .int v2]) (rest := []) ⟨hx, hb, hml, hown, hts⟩ hK hP hS (kd_lt k_162 (by decide)) (cell_4 k_162) rfl (m_X4_tell hG   h3) (cwV 3 hts gX11_sized_X4_tell rfl rfl rfl (by decide +kernel) (rmd_ok (by decide) (by decide))) rfl hl.1 rfl (Nat.le_of_ble_eq_true rfl) dX11_sized_20 ⟨Nat.le_refl _, Nat.le_refl _⟩ (fun H locs hP hS => ?_)
      exact x_iret hx hb hr hlocks hK hP hS h dX11_sized_23
    · rw [if_neg c2] at h
      refine lv_iconst (v := (-1)) hx hb dX11_sized_11 (by decide) ?_
      exact x_iret hx hb hr hlocks hK hP hS h dX11_sized_12
theorem in_X11_rimmed_X11 : ∀ w ∈ wsX110, w ∈ wsX11_rimmed := fun _ h => (List.mem_cons_of_mem _ (List.mem_append_left _ (List.mem_append_left _ (List.mem_append_right _ h))))
def fn_X11_rimmed (v1 : Int32) (v2 : Int32) (z : St) : Option (Int32 × St) := (if v1 < 0 then some ((-1), z) else (if v1 ≤ 32 then bd (fn_X4_tell  1 v1 v2 z) (fun r4 z5 => some (r4, z5)) else some ((-1), z)))
set_option maxHeartbeats 4000000 in
set_option maxRecDepth 100000 in
theorem m_X11_rimmed {l : Launch} {G : wG} (hG : Ok G) {v1 : Int32} {v2 : Int32} {z : St} {Rz : Int32 × St}  (h : fn_X11_rimmed  v1 v2 z = some Rz) : Met l yX11_rimmed wsX11_rimmed (rmd 2) (va_Pc [.ref (G.2.2 0), .int v1, .int v2] (Pre G z)) (va_Qi (fun r u => (r, u) = Rz) (Pre G) (AW G)) 0 0 (AW G) := by
  refine Met.ofW (cc := cX11_rimmed) (maxL := 3) (ret := (some .int)) (by decide) rfl ?_
  intro p e s m args below meth c s₁ B hml hv
  obtain ⟨rfl, hP, hK⟩ := hv
  have C : CX p s m ([.ref (G.2.2 0), .int v1, .int v2] : List Value).toArray meth c cX11_rimmed 3 wsX11_rimmed RX11 (some .int) G := ⟨B.exec, B.bytes, hml, findClass_of_methodNamed B.named, atoms_spec (ws := wsX11_rimmed) B.pre, B.returns, B.notSynchronized, hK, hG⟩
  obtain ⟨hx, hb, -, hown, hts, hr, hlocks, -, -⟩ := id C
  have hS : va_S (AW G) s.heap s.heap [] := va_S.rf
  have hl := lv_entry [.ref (G.2.2 0), .int v1, .int v2] (n := 3) (Nat.le_of_ble_eq_true rfl)
  rw [lg_entry_eq]
  generalize (lg_sl [.ref (G.2.2 0), .int v1, .int v2] ++ List.replicate (3 - (lg_sl [.ref (G.2.2 0), .int v1, .int v2]).length) Slot.unset).toArray = ls at hl ⊢
  have hl : lv_has ls 3 [(0, .ref (G.2.2 0)), (1, .int v1), (2, .int v2)] := hl
  unfold fn_X11_rimmed at h
  refine lv_iload_n hx hb dX11_rimmed_0 rfl (lv_at hl 1 rfl) ?_
  refine lv_if_lt (tgt := 10) hx hb dX11_rimmed_1 (by decide) (fun c1 => ?_) (fun c1 => ?_)
  · rw [if_pos c1] at h
    refine lv_iconst (v := (-1)) hx hb dX11_rimmed_10 (by decide) ?_
    exact x_iret hx hb hr hlocks hK hP hS h dX11_rimmed_11
  · rw [if_neg c1] at h
    refine lv_iload_n hx hb dX11_rimmed_4 rfl (lv_at hl 1 rfl) ?_
    refine lv_bipush (v := 32) hx hb dX11_rimmed_5 (by decide) ?_
    refine lv_icmp_le (tgt := 12) hx hb dX11_rimmed_7 (by decide) (fun c2 => ?_) (fun c2 => ?_)
    · rw [if_pos c2] at h
      refine lv_aload_n hx hb dX11_rimmed_12 rfl (lv_at hl 0 rfl) ?_
      refine ge_11_12 hx hb hts in_X11_rimmed_X11 hown hK hP k_0 (hts _ (List.mem_of_getElem? (i := 1) rfl)) dX11_rimmed_13 ?_
      refine lv_iconst (v := 1) hx hb dX11_rimmed_16 (by decide) ?_
      refine lv_iload_n hx hb dX11_rimmed_17 rfl (lv_at hl 1 rfl) ?_
      refine lv_iload_n hx hb dX11_rimmed_18 rfl (lv_at hl 2 rfl) ?_
      obtain ⟨r4, z5, h3, h⟩ := bd_s h
      refine x_Vi (Rz := (r4, z5)) (As := [.int 1, .int v1, .int v2]) (rest := []) ⟨hx, hb, hml, hown, hts⟩ hK hP hS (kd_lt k_162 (by decide)) (cell_4 k_162) rfl (m_X4_tell hG   h3) (cwV 3 hts gX11_rimmed_X4_tell rfl rfl rfl (by decide +kernel) (rmd_ok (by decide) (by decide))) rfl hl.1 rfl (Nat.le_of_ble_eq_true rfl) dX11_rimmed_19 ⟨Nat.le_refl _, Nat.le_refl _⟩ (fun H locs hP hS => ?_)
      exact x_iret hx hb hr hlocks hK hP hS h dX11_rimmed_22
    · rw [if_neg c2] at h
      refine lv_iconst (v := (-1)) hx hb dX11_rimmed_10 (by decide) ?_
      exact x_iret hx hb hr hlocks hK hP hS h dX11_rimmed_11
theorem in_X11_untell_X11 : ∀ w ∈ wsX110, w ∈ wsX11_untell := fun _ h => (List.mem_cons_of_mem _ (List.mem_append_left _ (List.mem_append_right _ h)))
def fn_X11_untell (v1 : Int32) (z : St) : Option (Int32 × St) := bd (fn_X4_takeAway  v1 z) (fun r2 z3 => gd (zok r2) (some (r2, z3)))
set_option maxHeartbeats 4000000 in
set_option maxRecDepth 100000 in
theorem m_X11_untell {l : Launch} {G : wG} (hG : Ok G) {v1 : Int32} {z : St} {Rz : Int32 × St}  (h : fn_X11_untell  v1 z = some Rz) : Met l yX11_untell wsX11_untell (rmd 2) (va_Pc [.ref (G.2.2 0), .int v1] (Pre G z)) (va_Qi (fun r u => (r, u) = Rz) (Pre G) (AW G)) 0 0 (AW G) := by
  refine Met.ofW (cc := cX11_untell) (maxL := 2) (ret := (some .boolean)) (by decide) rfl ?_
  intro p e s m args below meth c s₁ B hml hv
  obtain ⟨rfl, hP, hK⟩ := hv
  have C : CX p s m ([.ref (G.2.2 0), .int v1] : List Value).toArray meth c cX11_untell 2 wsX11_untell RX11 (some .boolean) G := ⟨B.exec, B.bytes, hml, findClass_of_methodNamed B.named, atoms_spec (ws := wsX11_untell) B.pre, B.returns, B.notSynchronized, hK, hG⟩
  obtain ⟨hx, hb, -, hown, hts, hr, hlocks, -, -⟩ := id C
  have hS : va_S (AW G) s.heap s.heap [] := va_S.rf
  have hl := lv_entry [.ref (G.2.2 0), .int v1] (n := 2) (Nat.le_of_ble_eq_true rfl)
  rw [lg_entry_eq]
  generalize (lg_sl [.ref (G.2.2 0), .int v1] ++ List.replicate (2 - (lg_sl [.ref (G.2.2 0), .int v1]).length) Slot.unset).toArray = ls at hl ⊢
  have hl : lv_has ls 2 [(0, .ref (G.2.2 0)), (1, .int v1)] := hl
  unfold fn_X11_untell at h
  refine lv_aload_n hx hb dX11_untell_0 rfl (lv_at hl 0 rfl) ?_
  refine ge_11_12 hx hb hts in_X11_untell_X11 hown hK hP k_0 (hts _ (List.mem_of_getElem? (i := 1) rfl)) dX11_untell_1 ?_
  refine lv_iload_n hx hb dX11_untell_4 rfl (lv_at hl 1 rfl) ?_
  obtain ⟨r2, z3, h1, h⟩ := bd_s h
  refine x_Vi (Rz := (r2, z3)) (As := [.int v1]) (rest := []) ⟨hx, hb, hml, hown, hts⟩ hK hP hS (kd_lt k_162 (by decide)) (cell_4 k_162) rfl (m_X4_takeAway hG   h1) (cwV 1 hts gX11_untell_X4_takeAway rfl rfl rfl (by decide +kernel) (rmd_ok (by decide) (by decide))) rfl hl.1 rfl (Nat.le_of_ble_eq_true rfl) dX11_untell_5 ⟨Nat.le_refl _, Nat.le_refl _⟩ (fun H locs hP hS => ?_)
  obtain ⟨g4, h⟩ := gd_s h
  exact x_zret hx hb hr hlocks hK hP hS g4 h dX11_untell_8
theorem in_X11_later_X11 : ∀ w ∈ wsX110, w ∈ wsX11_later := fun _ h => (List.mem_cons_of_mem _ (List.mem_append_left _ (List.mem_append_right _ h)))
def fn_X11_later (v1 : Int32) (z : St) : Option (Int32 × St) := bd (fn_X4_goOn  v1 z) (fun r2 z3 => some (r2, z3))
set_option maxHeartbeats 4000000 in
set_option maxRecDepth 100000 in
theorem m_X11_later {l : Launch} {G : wG} (hG : Ok G) {v1 : Int32} {z : St} {Rz : Int32 × St}  (h : fn_X11_later  v1 z = some Rz) : Met l yX11_later wsX11_later (rmd 2) (va_Pc [.ref (G.2.2 0), .int v1] (Pre G z)) (va_Qi (fun r u => (r, u) = Rz) (Pre G) (AW G)) 0 0 (AW G) := by
  refine Met.ofW (cc := cX11_later) (maxL := 2) (ret := (some .int)) (by decide) rfl ?_
  intro p e s m args below meth c s₁ B hml hv
  obtain ⟨rfl, hP, hK⟩ := hv
  have C : CX p s m ([.ref (G.2.2 0), .int v1] : List Value).toArray meth c cX11_later 2 wsX11_later RX11 (some .int) G := ⟨B.exec, B.bytes, hml, findClass_of_methodNamed B.named, atoms_spec (ws := wsX11_later) B.pre, B.returns, B.notSynchronized, hK, hG⟩
  obtain ⟨hx, hb, -, hown, hts, hr, hlocks, -, -⟩ := id C
  have hS : va_S (AW G) s.heap s.heap [] := va_S.rf
  have hl := lv_entry [.ref (G.2.2 0), .int v1] (n := 2) (Nat.le_of_ble_eq_true rfl)
  rw [lg_entry_eq]
  generalize (lg_sl [.ref (G.2.2 0), .int v1] ++ List.replicate (2 - (lg_sl [.ref (G.2.2 0), .int v1]).length) Slot.unset).toArray = ls at hl ⊢
  have hl : lv_has ls 2 [(0, .ref (G.2.2 0)), (1, .int v1)] := hl
  unfold fn_X11_later at h
  refine lv_aload_n hx hb dX11_later_0 rfl (lv_at hl 0 rfl) ?_
  refine ge_11_12 hx hb hts in_X11_later_X11 hown hK hP k_0 (hts _ (List.mem_of_getElem? (i := 1) rfl)) dX11_later_1 ?_
  refine lv_iload_n hx hb dX11_later_4 rfl (lv_at hl 1 rfl) ?_
  obtain ⟨r2, z3, h1, h⟩ := bd_s h
  refine x_Vi (Rz := (r2, z3)) (As := [.int v1]) (rest := []) ⟨hx, hb, hml, hown, hts⟩ hK hP hS (kd_lt k_162 (by decide)) (cell_4 k_162) rfl (m_X4_goOn hG   h1) (cwV 1 hts gX11_later_X4_goOn rfl rfl rfl (by decide +kernel) (rmd_ok (by decide) (by decide))) rfl hl.1 rfl (Nat.le_of_ble_eq_true rfl) dX11_later_5 ⟨Nat.le_refl _, Nat.le_refl _⟩ (fun H locs hP hS => ?_)
  exact x_iret hx hb hr hlocks hK hP hS h dX11_later_8
theorem in_X11_fits_X11 : ∀ w ∈ wsX110, w ∈ wsX11_fits := fun _ h => (List.mem_cons_of_mem _ (List.mem_append_left _ (List.mem_append_left _ (List.mem_append_right _ h))))
def fn_X11_fits (v1 : Int32) (z : St) : Option (Int32 × St) := bd (fn_X4_gather  v1 z) (fun r2 z3 => some (r2, z3))
set_option maxHeartbeats 4000000 in
set_option maxRecDepth 100000 in
theorem m_X11_fits {l : Launch} {G : wG} (hG : Ok G) {v1 : Int32} {z : St} {Rz : Int32 × St}  (h : fn_X11_fits  v1 z = some Rz) : Met l yX11_fits wsX11_fits (rmd 4) (va_Pc [.ref (G.2.2 0), .int v1] (Pre G z)) (va_Qi (fun r u => (r, u) = Rz) (Pre G) (AW G)) 0 0 (AW G) := by
  refine Met.ofW (cc := cX11_fits) (maxL := 2) (ret := (some .int)) (by decide) rfl ?_
  intro p e s m args below meth c s₁ B hml hv
  obtain ⟨rfl, hP, hK⟩ := hv
  have C : CX p s m ([.ref (G.2.2 0), .int v1] : List Value).toArray meth c cX11_fits 2 wsX11_fits RX11 (some .int) G := ⟨B.exec, B.bytes, hml, findClass_of_methodNamed B.named, atoms_spec (ws := wsX11_fits) B.pre, B.returns, B.notSynchronized, hK, hG⟩
  obtain ⟨hx, hb, -, hown, hts, hr, hlocks, -, -⟩ := id C
  have hS : va_S (AW G) s.heap s.heap [] := va_S.rf
  have hl := lv_entry [.ref (G.2.2 0), .int v1] (n := 2) (Nat.le_of_ble_eq_true rfl)
  rw [lg_entry_eq]
  generalize (lg_sl [.ref (G.2.2 0), .int v1] ++ List.replicate (2 - (lg_sl [.ref (G.2.2 0), .int v1]).length) Slot.unset).toArray = ls at hl ⊢
  have hl : lv_has ls 2 [(0, .ref (G.2.2 0)), (1, .int v1)] := hl
  unfold fn_X11_fits at h
  refine lv_aload_n hx hb dX11_fits_0 rfl (lv_at hl 0 rfl) ?_
  refine ge_11_12 hx hb hts in_X11_fits_X11 hown hK hP k_0 (hts _ (List.mem_of_getElem? (i := 1) rfl)) dX11_fits_1 ?_
  refine lv_iload_n hx hb dX11_fits_4 rfl (lv_at hl 1 rfl) ?_
  obtain ⟨r2, z3, h1, h⟩ := bd_s h
  refine x_Vi (Rz := (r2, z3)) (As := [.int v1]) (rest := []) ⟨hx, hb, hml, hown, hts⟩ hK hP hS (kd_lt k_162 (by decide)) (cell_4 k_162) rfl (m_X4_gather hG   h1) (cwV 1 hts gX11_fits_X4_gather rfl rfl rfl (by decide +kernel) (rmd_ok (by decide) (by decide))) rfl hl.1 rfl (Nat.le_of_ble_eq_true rfl) dX11_fits_5 ⟨Nat.le_refl _, Nat.le_refl _⟩ (fun H locs hP hS => ?_)
  exact x_iret hx hb hr hlocks hK hP hS h dX11_fits_8
theorem in_X11_sure_X4 : ∀ w ∈ wsX40, w ∈ wsX11_sure := fun _ h => (List.mem_cons_of_mem _ (List.mem_append_left _ (List.mem_append_right _ h)))
theorem in_X11_sure_X11 : ∀ w ∈ wsX110, w ∈ wsX11_sure := fun _ h => (List.mem_cons_of_mem _ (List.mem_append_left _ (List.mem_append_left _ (List.mem_append_right _ h))))
def fn_X11_sure_47 (tp1 : Nat) (z : St) : Option (Int32 × St) := bd (fn_X4_sameInAll  tp1 z) (fun r2 z3 => some (r2, z3))
set_option maxHeartbeats 4000000 in
set_option maxRecDepth 100000 in
theorem pf_X11_sure_47 {p : Program} {l : Launch} {e : Env} {s : State} {m : MethodId} {args : Array Value} {below : List Frame} {meth : Method} {c : Code} {G : wG} (C : CX p s m args meth c cX11_sure 3 wsX11_sure RX11 (some .int) G) {Rz : Int32 × St} (tp1 : Nat) (z : St) (hkt1 : kd tp1 = 14) {H : Heap} {locs : List Loc} {ls : Array Slot} (hP : WP G z H) (hS : va_S (AW G) s.heap H locs) (hl : lv_has ls 3 []) (h : fn_X11_sure_47   tp1 z = some Rz) : W p l e (rmd 4) s m args below meth c H locs 0 0 (QI below args s G Rz) (F0 m 47 ls [.ref (G.2.2 tp1), .ref (G.2.2 162)]) := by
  obtain ⟨hx, hb, hml, hown, hts, hr, hlocks, hK, hG⟩ := id C
  unfold fn_X11_sure_47 at h
  obtain ⟨r2, z3, h1, h⟩ := bd_s h
  refine x_Vi (Rz := (r2, z3)) (As := [.ref (G.2.2 tp1)]) (rest := []) ⟨hx, hb, hml, hown, hts⟩ hK hP hS (kd_lt k_162 (by decide)) (cell_4 k_162) rfl (m_X4_sameInAll hG  hkt1 h1) (cwV 1 hts gX11_sure_X4_sameInAll rfl rfl rfl (by decide +kernel) (rmd_ok (by decide) (by decide))) rfl hl.1 rfl (Nat.le_of_ble_eq_true rfl) dX11_sure_47 ⟨Nat.le_refl _, Nat.le_refl _⟩ (fun H locs hP hS => ?_)
  exact x_iret hx hb hr hlocks hK hP hS h dX11_sure_50
def fn_X11_sure (v1 : Int32) (v2 : Int32) (z : St) : Option (Int32 × St) := (if v1 < 0 then some ((-1), z) else (if 1 < v1 then some ((-1), z) else bd (fn_X4_gather  v2 z) (fun r4 z5 => (if r4 = 0 then some ((-1), z5) else (if v1 = 0 then fn_X11_sure_47   168 z5 else fn_X11_sure_47   169 z5)))))
set_option maxHeartbeats 4000000 in
set_option maxRecDepth 100000 in
theorem m_X11_sure {l : Launch} {G : wG} (hG : Ok G) {v1 : Int32} {v2 : Int32} {z : St} {Rz : Int32 × St}  (h : fn_X11_sure  v1 v2 z = some Rz) : Met l yX11_sure wsX11_sure (rmd 4) (va_Pc [.ref (G.2.2 0), .int v1, .int v2] (Pre G z)) (va_Qi (fun r u => (r, u) = Rz) (Pre G) (AW G)) 0 0 (AW G) := by
  refine Met.ofW (cc := cX11_sure) (maxL := 3) (ret := (some .int)) (by decide) rfl ?_
  intro p e s m args below meth c s₁ B hml hv
  obtain ⟨rfl, hP, hK⟩ := hv
  have C : CX p s m ([.ref (G.2.2 0), .int v1, .int v2] : List Value).toArray meth c cX11_sure 3 wsX11_sure RX11 (some .int) G := ⟨B.exec, B.bytes, hml, findClass_of_methodNamed B.named, atoms_spec (ws := wsX11_sure) B.pre, B.returns, B.notSynchronized, hK, hG⟩
  obtain ⟨hx, hb, -, hown, hts, hr, hlocks, -, -⟩ := id C
  have hS : va_S (AW G) s.heap s.heap [] := va_S.rf
  have hl := lv_entry [.ref (G.2.2 0), .int v1, .int v2] (n := 3) (Nat.le_of_ble_eq_true rfl)
  rw [lg_entry_eq]
  generalize (lg_sl [.ref (G.2.2 0), .int v1, .int v2] ++ List.replicate (3 - (lg_sl [.ref (G.2.2 0), .int v1, .int v2]).length) Slot.unset).toArray = ls at hl ⊢
  have hl : lv_has ls 3 [(0, .ref (G.2.2 0)), (1, .int v1), (2, .int v2)] := hl
  unfold fn_X11_sure at h
  refine lv_iload_n hx hb dX11_sure_0 rfl (lv_at hl 1 rfl) ?_
  refine lv_if_lt (tgt := 20) hx hb dX11_sure_1 (by decide) (fun c1 => ?_) (fun c1 => ?_)
  · rw [if_pos c1] at h
    refine lv_iconst (v := (-1)) hx hb dX11_sure_20 (by decide) ?_
    exact x_iret hx hb hr hlocks hK hP hS h dX11_sure_21
  · rw [if_neg c1] at h
    refine lv_iload_n hx hb dX11_sure_4 rfl (lv_at hl 1 rfl) ?_
    refine lv_iconst (v := 1) hx hb dX11_sure_5 (by decide) ?_
    refine lv_icmp_gt (tgt := 20) hx hb dX11_sure_6 (by decide) (fun c2 => ?_) (fun c2 => ?_)
    · rw [if_pos c2] at h
      refine lv_iconst (v := (-1)) hx hb dX11_sure_20 (by decide) ?_
      exact x_iret hx hb hr hlocks hK hP hS h dX11_sure_21
    · rw [if_neg c2] at h
      refine lv_aload_n hx hb dX11_sure_9 rfl (lv_at hl 0 rfl) ?_
      refine ge_11_12 hx hb hts in_X11_sure_X11 hown hK hP k_0 (hts _ (List.mem_of_getElem? (i := 1) rfl)) dX11_sure_10 ?_
      refine lv_iload_n hx hb dX11_sure_13 rfl (lv_at hl 2 rfl) ?_
      obtain ⟨r4, z5, h3, h⟩ := bd_s h
      refine x_Vi (Rz := (r4, z5)) (As := [.int v2]) (rest := []) ⟨hx, hb, hml, hown, hts⟩ hK hP hS (kd_lt k_162 (by decide)) (cell_4 k_162) rfl (m_X4_gather hG   h3) (cwV 1 hts gX11_sure_X4_gather rfl rfl rfl (by decide +kernel) (rmd_ok (by decide) (by decide))) rfl hl.1 rfl (Nat.le_of_ble_eq_true rfl) dX11_sure_14 ⟨Nat.le_refl _, Nat.le_refl _⟩ (fun H locs hP hS => ?_)
      refine lv_if_ne (tgt := 22) hx hb dX11_sure_17 (by decide) (fun c6 => ?_) (fun c6 => ?_)
      · rw [if_neg c6] at h
        refine lv_aload_n hx hb dX11_sure_22 rfl (lv_at hl 0 rfl) ?_
        refine ge_11_12 hx hb hts in_X11_sure_X11 hown hK hP k_0 (hts _ (List.mem_of_getElem? (i := 1) rfl)) dX11_sure_23 ?_
        refine lv_iload_n hx hb dX11_sure_26 rfl (lv_at hl 1 rfl) ?_
        refine lv_if_ne (tgt := 40) hx hb dX11_sure_27 (by decide) (fun c7 => ?_) (fun c7 => ?_)
        · rw [if_neg c7] at h
          refine lv_aload_n hx hb dX11_sure_40 rfl (lv_at hl 0 rfl) ?_
          refine ge_11_12 hx hb hts in_X11_sure_X11 hown hK hP k_0 (hts _ (List.mem_of_getElem? (i := 1) rfl)) dX11_sure_41 ?_
          refine ge_4_8 hx hb hts in_X11_sure_X4 hown hK hP k_162 (hts _ (List.mem_of_getElem? (i := 3) rfl)) dX11_sure_44 ?_
          exact pf_X11_sure_47 C   169 z5 k_169 hP hS (lv_sub hl [] rfl) h
        · rw [if_pos c7] at h
          refine lv_aload_n hx hb dX11_sure_30 rfl (lv_at hl 0 rfl) ?_
          refine ge_11_12 hx hb hts in_X11_sure_X11 hown hK hP k_0 (hts _ (List.mem_of_getElem? (i := 1) rfl)) dX11_sure_31 ?_
          refine ge_4_7 hx hb hts in_X11_sure_X4 hown hK hP k_162 (hts _ (List.mem_of_getElem? (i := 2) rfl)) dX11_sure_34 ?_
          refine lv_goto (tgt := 47) hx hb dX11_sure_37 (by decide) ?_
          exact pf_X11_sure_47 C   168 z5 k_168 hP hS (lv_sub hl [] rfl) h
      · rw [if_pos c6] at h
        refine lv_iconst (v := (-1)) hx hb dX11_sure_20 (by decide) ?_
        exact x_iret hx hb hr hlocks hK hP hS h dX11_sure_21
theorem in_X11_ask_X4 : ∀ w ∈ wsX40, w ∈ wsX11_ask := fun _ h => (List.mem_cons_of_mem _ (List.mem_append_left _ (List.mem_append_right _ h)))
theorem in_X11_ask_X11 : ∀ w ∈ wsX110, w ∈ wsX11_ask := fun _ h => (List.mem_cons_of_mem _ (List.mem_append_left _ (List.mem_append_left _ (List.mem_append_right _ h))))
def fn_X11_ask (v1 : Int32) (v2 : Int32) (z : St) : Option (Int32 × St) := (if v1 < 0 then some ((-1), z) else (if 1 < v1 then some ((-1), z) else bd (fn_X4_gather  v2 z) (fun r4 z5 => (if r4 = 0 then some ((-1), z5) else bv (fn_X4_findQuestion   z5) (fun z8 => (if v1 = 0 then some ((z8.1 162 13), z8) else some ((z8.1 162 14), z8)))))))
set_option maxHeartbeats 4000000 in
set_option maxRecDepth 100000 in
theorem m_X11_ask {l : Launch} {G : wG} (hG : Ok G) {v1 : Int32} {v2 : Int32} {z : St} {Rz : Int32 × St}  (h : fn_X11_ask  v1 v2 z = some Rz) : Met l yX11_ask wsX11_ask (rmd 4) (va_Pc [.ref (G.2.2 0), .int v1, .int v2] (Pre G z)) (va_Qi (fun r u => (r, u) = Rz) (Pre G) (AW G)) 0 0 (AW G) := by
  refine Met.ofW (cc := cX11_ask) (maxL := 3) (ret := (some .int)) (by decide) rfl ?_
  intro p e s m args below meth c s₁ B hml hv
  obtain ⟨rfl, hP, hK⟩ := hv
  have C : CX p s m ([.ref (G.2.2 0), .int v1, .int v2] : List Value).toArray meth c cX11_ask 3 wsX11_ask RX11 (some .int) G := ⟨B.exec, B.bytes, hml, findClass_of_methodNamed B.named, atoms_spec (ws := wsX11_ask) B.pre, B.returns, B.notSynchronized, hK, hG⟩
  obtain ⟨hx, hb, -, hown, hts, hr, hlocks, -, -⟩ := id C
  have hS : va_S (AW G) s.heap s.heap [] := va_S.rf
  have hl := lv_entry [.ref (G.2.2 0), .int v1, .int v2] (n := 3) (Nat.le_of_ble_eq_true rfl)
  rw [lg_entry_eq]
  generalize (lg_sl [.ref (G.2.2 0), .int v1, .int v2] ++ List.replicate (3 - (lg_sl [.ref (G.2.2 0), .int v1, .int v2]).length) Slot.unset).toArray = ls at hl ⊢
  have hl : lv_has ls 3 [(0, .ref (G.2.2 0)), (1, .int v1), (2, .int v2)] := hl
  unfold fn_X11_ask at h
  refine lv_iload_n hx hb dX11_ask_0 rfl (lv_at hl 1 rfl) ?_
  refine lv_if_lt (tgt := 20) hx hb dX11_ask_1 (by decide) (fun c1 => ?_) (fun c1 => ?_)
  · rw [if_pos c1] at h
    refine lv_iconst (v := (-1)) hx hb dX11_ask_20 (by decide) ?_
    exact x_iret hx hb hr hlocks hK hP hS h dX11_ask_21
  · rw [if_neg c1] at h
    refine lv_iload_n hx hb dX11_ask_4 rfl (lv_at hl 1 rfl) ?_
    refine lv_iconst (v := 1) hx hb dX11_ask_5 (by decide) ?_
    refine lv_icmp_gt (tgt := 20) hx hb dX11_ask_6 (by decide) (fun c2 => ?_) (fun c2 => ?_)
    · rw [if_pos c2] at h
      refine lv_iconst (v := (-1)) hx hb dX11_ask_20 (by decide) ?_
      exact x_iret hx hb hr hlocks hK hP hS h dX11_ask_21
    · rw [if_neg c2] at h
      refine lv_aload_n hx hb dX11_ask_9 rfl (lv_at hl 0 rfl) ?_
      refine ge_11_12 hx hb hts in_X11_ask_X11 hown hK hP k_0 (hts _ (List.mem_of_getElem? (i := 1) rfl)) dX11_ask_10 ?_
      refine lv_iload_n hx hb dX11_ask_13 rfl (lv_at hl 2 rfl) ?_
      obtain ⟨r4, z5, h3, h⟩ := bd_s h
      refine x_Vi (Rz := (r4, z5)) (As := [.int v2]) (rest := []) ⟨hx, hb, hml, hown, hts⟩ hK hP hS (kd_lt k_162 (by decide)) (cell_4 k_162) rfl (m_X4_gather hG   h3) (cwV 1 hts gX11_ask_X4_gather rfl rfl rfl (by decide +kernel) (rmd_ok (by decide) (by decide))) rfl hl.1 rfl (Nat.le_of_ble_eq_true rfl) dX11_ask_14 ⟨Nat.le_refl _, Nat.le_refl _⟩ (fun H locs hP hS => ?_)
      refine lv_if_ne (tgt := 22) hx hb dX11_ask_17 (by decide) (fun c6 => ?_) (fun c6 => ?_)
      · rw [if_neg c6] at h
        refine lv_aload_n hx hb dX11_ask_22 rfl (lv_at hl 0 rfl) ?_
        refine ge_11_12 hx hb hts in_X11_ask_X11 hown hK hP k_0 (hts _ (List.mem_of_getElem? (i := 1) rfl)) dX11_ask_23 ?_
        obtain ⟨z8, h7, h⟩ := bv_s h
        refine x_Vv (Rz := z8) (As := []) (rest := []) ⟨hx, hb, hml, hown, hts⟩ hK hP hS (kd_lt k_162 (by decide)) (cell_4 k_162) rfl (m_X4_findQuestion hG   h7) (cwV 0 hts gX11_ask_X4_findQuestion rfl rfl rfl (by decide +kernel) (rmd_ok (by decide) (by decide))) rfl hl.1 rfl (Nat.le_of_ble_eq_true rfl) dX11_ask_26 ⟨Nat.le_refl _, Nat.le_refl _⟩ (fun H locs hP hS => ?_)
        refine lv_iload_n hx hb dX11_ask_29 rfl (lv_at hl 1 rfl) ?_
        refine lv_if_ne (tgt := 43) hx hb dX11_ask_30 (by decide) (fun c9 => ?_) (fun c9 => ?_)
        · rw [if_neg c9] at h
          refine lv_aload_n hx hb dX11_ask_43 rfl (lv_at hl 0 rfl) ?_
          refine ge_11_12 hx hb hts in_X11_ask_X11 hown hK hP k_0 (hts _ (List.mem_of_getElem? (i := 1) rfl)) dX11_ask_44 ?_
          refine ge_4_14 hx hb hts in_X11_ask_X4 hown hK hP k_162 (hts _ (List.mem_of_getElem? (i := 3) rfl)) dX11_ask_47 ?_
          exact x_iret hx hb hr hlocks hK hP hS h dX11_ask_50
        · rw [if_pos c9] at h
          refine lv_aload_n hx hb dX11_ask_33 rfl (lv_at hl 0 rfl) ?_
          refine ge_11_12 hx hb hts in_X11_ask_X11 hown hK hP k_0 (hts _ (List.mem_of_getElem? (i := 1) rfl)) dX11_ask_34 ?_
          refine ge_4_13 hx hb hts in_X11_ask_X4 hown hK hP k_162 (hts _ (List.mem_of_getElem? (i := 2) rfl)) dX11_ask_37 ?_
          refine lv_goto (tgt := 50) hx hb dX11_ask_40 (by decide) ?_
          exact x_iret hx hb hr hlocks hK hP hS h dX11_ask_50
      · rw [if_pos c6] at h
        refine lv_iconst (v := (-1)) hx hb dX11_ask_20 (by decide) ?_
        exact x_iret hx hb hr hlocks hK hP hS h dX11_ask_21
theorem in_X11_image_X11 : ∀ w ∈ wsX110, w ∈ wsX11_image := fun _ h => (List.mem_cons_of_mem _ (List.mem_append_left _ (List.mem_append_left _ (List.mem_append_right _ h))))
theorem in_X11_image_X1 : ∀ w ∈ wsX10, w ∈ wsX11_image := fun _ h => (List.mem_cons_of_mem _ (List.mem_append_left _ (List.mem_append_right _ h)))
def fn_X11_image (v1 : Int32) (z : St) : Option (Int32 × St) := (if v1 < 0 then some ((-1), z) else (if v1 < 3 then gd (ix v1 3) (bv (fn_X1_takeFrom  (61 + 1 + 27 * (Int32.toNatClampNeg v1)) 34 z) (fun z5 => gd (ix v1 3) (nm (sI z5 (61 + 1 + 27 * (Int32.toNatClampNeg v1)) 5 1) (fun z7 => some ((z7.1 34 2), z7))))) else some ((-1), z)))
set_option maxHeartbeats 4000000 in
set_option maxRecDepth 100000 in
theorem m_X11_image {l : Launch} {G : wG} (hG : Ok G) {v1 : Int32} {z : St} {Rz : Int32 × St}  (h : fn_X11_image  v1 z = some Rz) : Met l yX11_image wsX11_image (rmd 3) (va_Pc [.ref (G.2.2 0), .int v1] (Pre G z)) (va_Qi (fun r u => (r, u) = Rz) (Pre G) (AW G)) 0 0 (AW G) := by
  refine Met.ofW (cc := cX11_image) (maxL := 2) (ret := (some .int)) (by decide) rfl ?_
  intro p e s m args below meth c s₁ B hml hv
  obtain ⟨rfl, hP, hK⟩ := hv
  have C : CX p s m ([.ref (G.2.2 0), .int v1] : List Value).toArray meth c cX11_image 2 wsX11_image RX11 (some .int) G := ⟨B.exec, B.bytes, hml, findClass_of_methodNamed B.named, atoms_spec (ws := wsX11_image) B.pre, B.returns, B.notSynchronized, hK, hG⟩
  obtain ⟨hx, hb, -, hown, hts, hr, hlocks, -, -⟩ := id C
  have hS : va_S (AW G) s.heap s.heap [] := va_S.rf
  have hl := lv_entry [.ref (G.2.2 0), .int v1] (n := 2) (Nat.le_of_ble_eq_true rfl)
  rw [lg_entry_eq]
  generalize (lg_sl [.ref (G.2.2 0), .int v1] ++ List.replicate (2 - (lg_sl [.ref (G.2.2 0), .int v1]).length) Slot.unset).toArray = ls at hl ⊢
  have hl : lv_has ls 2 [(0, .ref (G.2.2 0)), (1, .int v1)] := hl
  unfold fn_X11_image at h
  refine lv_iload_n hx hb dX11_image_0 rfl (lv_at hl 1 rfl) ?_
  refine lv_if_lt (tgt := 13) hx hb dX11_image_1 (by decide) (fun c1 => ?_) (fun c1 => ?_)
  · rw [if_pos c1] at h
    refine lv_iconst (v := (-1)) hx hb dX11_image_13 (by decide) ?_
    exact x_iret hx hb hr hlocks hK hP hS h dX11_image_14
  · rw [if_neg c1] at h
    refine lv_iload_n hx hb dX11_image_4 rfl (lv_at hl 1 rfl) ?_
    refine lv_aload_n hx hb dX11_image_5 rfl (lv_at hl 0 rfl) ?_
    refine ge_11_6 hx hb hts in_X11_image_X11 hown hK hP k_0 (hts _ (List.mem_of_getElem? (i := 1) rfl)) dX11_image_6 ?_
    refine xn_17 (v := 3) hx hb hK hP k_61 l_61 rfl dX11_image_9 ?_
    refine lv_icmp_lt (tgt := 15) hx hb dX11_image_10 (by decide) (fun c2 => ?_) (fun c2 => ?_)
    · rw [if_pos c2] at h
      refine lv_aload_n hx hb dX11_image_15 rfl (lv_at hl 0 rfl) ?_
      refine ge_11_6 hx hb hts in_X11_image_X11 hown hK hP k_0 (hts _ (List.mem_of_getElem? (i := 1) rfl)) dX11_image_16 ?_
      refine lv_iload_n hx hb dX11_image_19 rfl (lv_at hl 1 rfl) ?_
      obtain ⟨g3, h⟩ := gd_s h
      refine xl_17 hx hb hK hP k_61 l_61 (ix_in g3) dX11_image_20 ?_
      refine lv_aload_n hx hb dX11_image_21 rfl (lv_at hl 0 rfl) ?_
      refine ge_11_5 hx hb hts in_X11_image_X11 hown hK hP k_0 (hts _ (List.mem_of_getElem? (i := 2) rfl)) dX11_image_22 ?_
      obtain ⟨z5, h4, h⟩ := bv_s h
      refine x_Vv (Rz := z5) (As := [.ref (G.2.2 34)]) (rest := []) ⟨hx, hb, hml, hown, hts⟩ hK hP hS (kd_lt (ke_17 k_61 (ix_lt g3)) (by decide)) (cell_1 (ke_17 k_61 (ix_lt g3))) rfl (m_X1_takeFrom hG  (ke_17 k_61 (ix_lt g3)) k_34 h4) (cwV 1 hts gX11_image_X1_takeFrom rfl rfl rfl (by decide +kernel) (rmd_ok (by decide) (by decide))) rfl hl.1 rfl (Nat.le_of_ble_eq_true rfl) dX11_image_25 ⟨Nat.le_refl _, Nat.le_refl _⟩ (fun H locs hP hS => ?_)
      refine lv_aload_n hx hb dX11_image_28 rfl (lv_at hl 0 rfl) ?_
      refine ge_11_6 hx hb hts in_X11_image_X11 hown hK hP k_0 (hts _ (List.mem_of_getElem? (i := 1) rfl)) dX11_image_29 ?_
      refine lv_iload_n hx hb dX11_image_32 rfl (lv_at hl 1 rfl) ?_
      obtain ⟨g6, h⟩ := gd_s h
      refine xl_17 hx hb hK hP k_61 l_61 (ix_in g6) dX11_image_33 ?_
      refine lv_iconst (v := 1) hx hb dX11_image_34 (by decide) ?_
      obtain ⟨z7, e_z7, h⟩ := nm_s h
      refine pu_1_5 hx hb hts in_X11_image_X1 hown hK hG hP hS (ke_17 k_61 (ix_lt g6)) (hts _ (List.mem_of_getElem? (i := 3) rfl)) rfl dX11_image_35 (fun H locs hP hS => ?_)
      rw [← e_z7] at hP
      refine lv_aload_n hx hb dX11_image_38 rfl (lv_at hl 0 rfl) ?_
      refine ge_11_5 hx hb hts in_X11_image_X11 hown hK hP k_0 (hts _ (List.mem_of_getElem? (i := 2) rfl)) dX11_image_39 ?_
      refine ge_1_2 hx hb hts in_X11_image_X1 hown hK hP k_34 (hts _ (List.mem_of_getElem? (i := 4) rfl)) dX11_image_42 ?_
      exact x_iret hx hb hr hlocks hK hP hS h dX11_image_45
    · rw [if_neg c2] at h
      refine lv_iconst (v := (-1)) hx hb dX11_image_13 (by decide) ?_
      exact x_iret hx hb hr hlocks hK hP hS h dX11_image_14
theorem in_X11_restore_X11 : ∀ w ∈ wsX110, w ∈ wsX11_restore := fun _ h => (List.mem_cons_of_mem _ (List.mem_append_left _ (List.mem_append_left _ (List.mem_append_left _ (List.mem_append_right _ h)))))
theorem in_X11_restore_X1 : ∀ w ∈ wsX10, w ∈ wsX11_restore := fun _ h => (List.mem_cons_of_mem _ (List.mem_append_left _ (List.mem_append_left _ (List.mem_append_right _ h))))
def fn_X11_restore (v1 : Int32) (z : St) : Option (Int32 × St) := (if v1 < 0 then some ((-1), z) else (if 3 ≤ v1 then some ((-1), z) else gd (ix v1 3) ((if (z.1 (61 + 1 + 27 * (Int32.toNatClampNeg v1)) 5) = 0 then some ((-1), z) else gd (ix v1 3) (bv (fn_X1_takeFrom  34 (61 + 1 + 27 * (Int32.toNatClampNeg v1)) z) (fun z7 => bv (fn_X0_forget   z7) (fun z9 => some ((z9.1 34 2), z9))))))))
set_option maxHeartbeats 4000000 in
set_option maxRecDepth 100000 in
theorem m_X11_restore {l : Launch} {G : wG} (hG : Ok G) {v1 : Int32} {z : St} {Rz : Int32 × St}  (h : fn_X11_restore  v1 z = some Rz) : Met l yX11_restore wsX11_restore (rmd 3) (va_Pc [.ref (G.2.2 0), .int v1] (Pre G z)) (va_Qi (fun r u => (r, u) = Rz) (Pre G) (AW G)) 0 0 (AW G) := by
  refine Met.ofW (cc := cX11_restore) (maxL := 2) (ret := (some .int)) (by decide) rfl ?_
  intro p e s m args below meth c s₁ B hml hv
  obtain ⟨rfl, hP, hK⟩ := hv
  have C : CX p s m ([.ref (G.2.2 0), .int v1] : List Value).toArray meth c cX11_restore 2 wsX11_restore RX11 (some .int) G := ⟨B.exec, B.bytes, hml, findClass_of_methodNamed B.named, atoms_spec (ws := wsX11_restore) B.pre, B.returns, B.notSynchronized, hK, hG⟩
  obtain ⟨hx, hb, -, hown, hts, hr, hlocks, -, -⟩ := id C
  have hS : va_S (AW G) s.heap s.heap [] := va_S.rf
  have hl := lv_entry [.ref (G.2.2 0), .int v1] (n := 2) (Nat.le_of_ble_eq_true rfl)
  rw [lg_entry_eq]
  generalize (lg_sl [.ref (G.2.2 0), .int v1] ++ List.replicate (2 - (lg_sl [.ref (G.2.2 0), .int v1]).length) Slot.unset).toArray = ls at hl ⊢
  have hl : lv_has ls 2 [(0, .ref (G.2.2 0)), (1, .int v1)] := hl
  unfold fn_X11_restore at h
  refine lv_iload_n hx hb dX11_restore_0 rfl (lv_at hl 1 rfl) ?_
  refine lv_if_lt (tgt := 25) hx hb dX11_restore_1 (by decide) (fun c1 => ?_) (fun c1 => ?_)
  · rw [if_pos c1] at h
    refine lv_iconst (v := (-1)) hx hb dX11_restore_25 (by decide) ?_
    exact x_iret hx hb hr hlocks hK hP hS h dX11_restore_26
  · rw [if_neg c1] at h
    refine lv_iload_n hx hb dX11_restore_4 rfl (lv_at hl 1 rfl) ?_
    refine lv_aload_n hx hb dX11_restore_5 rfl (lv_at hl 0 rfl) ?_
    refine ge_11_6 hx hb hts in_X11_restore_X11 hown hK hP k_0 (hts _ (List.mem_of_getElem? (i := 1) rfl)) dX11_restore_6 ?_
    refine xn_17 (v := 3) hx hb hK hP k_61 l_61 rfl dX11_restore_9 ?_
    refine lv_icmp_ge (tgt := 25) hx hb dX11_restore_10 (by decide) (fun c2 => ?_) (fun c2 => ?_)
    · rw [if_pos c2] at h
      refine lv_iconst (v := (-1)) hx hb dX11_restore_25 (by decide) ?_
      exact x_iret hx hb hr hlocks hK hP hS h dX11_restore_26
    · rw [if_neg c2] at h
      refine lv_aload_n hx hb dX11_restore_13 rfl (lv_at hl 0 rfl) ?_
      refine ge_11_6 hx hb hts in_X11_restore_X11 hown hK hP k_0 (hts _ (List.mem_of_getElem? (i := 1) rfl)) dX11_restore_14 ?_
      refine lv_iload_n hx hb dX11_restore_17 rfl (lv_at hl 1 rfl) ?_
      obtain ⟨g3, h⟩ := gd_s h
      refine xl_17 hx hb hK hP k_61 l_61 (ix_in g3) dX11_restore_18 ?_
      refine ge_1_5 hx hb hts in_X11_restore_X1 hown hK hP (ke_17 k_61 (ix_lt g3)) (hts _ (List.mem_of_getElem? (i := 2) rfl)) dX11_restore_19 ?_
      refine lv_if_ne (tgt := 27) hx hb dX11_restore_22 (by decide) (fun c4 => ?_) (fun c4 => ?_)
      · rw [if_neg c4] at h
        refine lv_aload_n hx hb dX11_restore_27 rfl (lv_at hl 0 rfl) ?_
        refine ge_11_5 hx hb hts in_X11_restore_X11 hown hK hP k_0 (hts _ (List.mem_of_getElem? (i := 3) rfl)) dX11_restore_28 ?_
        refine lv_aload_n hx hb dX11_restore_31 rfl (lv_at hl 0 rfl) ?_
        refine ge_11_6 hx hb hts in_X11_restore_X11 hown hK hP k_0 (hts _ (List.mem_of_getElem? (i := 1) rfl)) dX11_restore_32 ?_
        refine lv_iload_n hx hb dX11_restore_35 rfl (lv_at hl 1 rfl) ?_
        obtain ⟨g5, h⟩ := gd_s h
        refine xl_17 hx hb hK hP k_61 l_61 (ix_in g5) dX11_restore_36 ?_
        obtain ⟨z7, h6, h⟩ := bv_s h
        refine x_Vv (Rz := z7) (As := [.ref (G.2.2 (61 + 1 + 27 * (Int32.toNatClampNeg v1)))]) (rest := []) ⟨hx, hb, hml, hown, hts⟩ hK hP hS (kd_lt k_34 (by decide)) (cell_1 k_34) rfl (m_X1_takeFrom hG  k_34 (ke_17 k_61 (ix_lt g5)) h6) (cwV 1 hts gX11_restore_X1_takeFrom rfl rfl rfl (by decide +kernel) (rmd_ok (by decide) (by decide))) rfl hl.1 rfl (Nat.le_of_ble_eq_true rfl) dX11_restore_37 ⟨Nat.le_refl _, Nat.le_refl _⟩ (fun H locs hP hS => ?_)
        refine lv_aload_n hx hb dX11_restore_40 rfl (lv_at hl 0 rfl) ?_
        refine ge_11_8 hx hb hts in_X11_restore_X11 hown hK hP k_0 (hts _ (List.mem_of_getElem? (i := 4) rfl)) dX11_restore_41 ?_
        obtain ⟨z9, h8, h⟩ := bv_s h
        refine x_Vv (Rz := z9) (As := []) (rest := []) ⟨hx, hb, hml, hown, hts⟩ hK hP hS (kd_lt k_146 (by decide)) (cell_0 k_146) rfl (m_X0_forget hG   h8) (cwV 0 hts gX11_restore_X0_forget rfl rfl rfl (by decide +kernel) (rmd_ok (by decide) (by decide))) rfl hl.1 rfl (Nat.le_of_ble_eq_true rfl) dX11_restore_44 ⟨Nat.le_refl _, Nat.le_refl _⟩ (fun H locs hP hS => ?_)
        refine lv_aload_n hx hb dX11_restore_47 rfl (lv_at hl 0 rfl) ?_
        refine ge_11_5 hx hb hts in_X11_restore_X11 hown hK hP k_0 (hts _ (List.mem_of_getElem? (i := 3) rfl)) dX11_restore_48 ?_
        refine ge_1_2 hx hb hts in_X11_restore_X1 hown hK hP k_34 (hts _ (List.mem_of_getElem? (i := 5) rfl)) dX11_restore_51 ?_
        exact x_iret hx hb hr hlocks hK hP hS h dX11_restore_54
      · rw [if_pos c4] at h
        refine lv_iconst (v := (-1)) hx hb dX11_restore_25 (by decide) ?_
        exact x_iret hx hb hr hlocks hK hP hS h dX11_restore_26
theorem in_X11_about_X7 : ∀ w ∈ wsX70, w ∈ wsX11_about := fun _ h => (List.mem_cons_of_mem _ (List.mem_append_left _ (List.mem_append_left _ (List.mem_append_left _ (List.mem_append_left _ (List.mem_append_left _ (List.mem_append_right _ h)))))))
theorem in_X11_about_X4 : ∀ w ∈ wsX40, w ∈ wsX11_about := fun _ h => (List.mem_cons_of_mem _ (List.mem_append_left _ (List.mem_append_left _ (List.mem_append_right _ h))))
theorem in_X11_about_X2 : ∀ w ∈ wsX20, w ∈ wsX11_about := fun _ h => (List.mem_cons_of_mem _ (List.mem_append_left _ (List.mem_append_right _ h)))
theorem in_X11_about_X11 : ∀ w ∈ wsX110, w ∈ wsX11_about := fun _ h => (List.mem_cons_of_mem _ (List.mem_append_left _ (List.mem_append_left _ (List.mem_append_left _ (List.mem_append_left _ (List.mem_append_left _ (List.mem_append_left _ (List.mem_append_right _ h))))))))
theorem in_X11_about_X1 : ∀ w ∈ wsX10, w ∈ wsX11_about := fun _ h => (List.mem_cons_of_mem _ (List.mem_append_left _ (List.mem_append_left _ (List.mem_append_left _ (List.mem_append_left _ (List.mem_append_right _ h))))))
theorem in_X11_about_X0 : ∀ w ∈ wsX00, w ∈ wsX11_about := fun _ h => (List.mem_cons_of_mem _ (List.mem_append_left _ (List.mem_append_left _ (List.mem_append_left _ (List.mem_append_right _ h)))))
def fn_X11_about (v1 : Int32) (z : St) : Option (Int32 × St) := (if v1 = 0 then some ((z.1 2 0), z) else (if v1 = 1 then some ((z.1 2 5), z) else (if v1 = 2 then some ((z.1 34 2), z) else (if v1 = 3 then some ((z.1 34 3), z) else (if v1 = 4 then some ((z.1 34 4), z) else (if v1 = 5 then bd (fn_X1_brokenSet  34 z) (fun r8 z9 => some (r8, z9)) else (if v1 = 6 then some ((z.1 146 9), z) else (if v1 = 7 then some (((z.1 146 10) - (z.1 146 9)), z) else (if v1 = 8 then some ((z.1 162 11), z) else (if v1 = 9 then some ((z.1 162 12), z) else (if v1 = 10 then some ((z.1 0 1), z) else (if v1 = 11 then some (((z.1 11 3) + (z.1 14 3)), z) else (if v1 = 12 then some ((z.1 0 14), z) else (some ((-1), z)))))))))))))))
set_option maxHeartbeats 4000000 in
set_option maxRecDepth 100000 in
theorem m_X11_about {l : Launch} {G : wG} (hG : Ok G) {v1 : Int32} {z : St} {Rz : Int32 × St}  (h : fn_X11_about  v1 z = some Rz) : Met l yX11_about wsX11_about (rmd 2) (va_Pc [.ref (G.2.2 0), .int v1] (Pre G z)) (va_Qi (fun r u => (r, u) = Rz) (Pre G) (AW G)) 0 0 (AW G) := by
  refine Met.ofW (cc := cX11_about) (maxL := 2) (ret := (some .int)) (by decide) rfl ?_
  intro p e s m args below meth c s₁ B hml hv
  obtain ⟨rfl, hP, hK⟩ := hv
  have C : CX p s m ([.ref (G.2.2 0), .int v1] : List Value).toArray meth c cX11_about 2 wsX11_about RX11 (some .int) G := ⟨B.exec, B.bytes, hml, findClass_of_methodNamed B.named, atoms_spec (ws := wsX11_about) B.pre, B.returns, B.notSynchronized, hK, hG⟩
  obtain ⟨hx, hb, -, hown, hts, hr, hlocks, -, -⟩ := id C
  have hS : va_S (AW G) s.heap s.heap [] := va_S.rf
  have hl := lv_entry [.ref (G.2.2 0), .int v1] (n := 2) (Nat.le_of_ble_eq_true rfl)
  rw [lg_entry_eq]
  generalize (lg_sl [.ref (G.2.2 0), .int v1] ++ List.replicate (2 - (lg_sl [.ref (G.2.2 0), .int v1]).length) Slot.unset).toArray = ls at hl ⊢
  have hl : lv_has ls 2 [(0, .ref (G.2.2 0)), (1, .int v1)] := hl
  unfold fn_X11_about at h
  refine lv_iload_n hx hb dX11_about_0 rfl (lv_at hl 1 rfl) ?_
  by_cases c1 : v1 = 0
  · rw [if_pos c1] at h
    refine lv_tableIn (off := 67) (tgt := 68) hx hb dX11_about_1 (by rw [c1]; decide) (by rw [c1]; decide) (by rw [c1]; rfl) (by decide) ?_
    refine lv_aload_n hx hb dX11_about_68 rfl (lv_at hl 0 rfl) ?_
    refine ge_11_2 hx hb hts in_X11_about_X11 hown hK hP k_0 (hts _ (List.mem_of_getElem? (i := 1) rfl)) dX11_about_69 ?_
    refine ge_7_0 hx hb hts in_X11_about_X7 hown hK hP k_2 (hts _ (List.mem_of_getElem? (i := 2) rfl)) dX11_about_72 ?_
    exact x_iret hx hb hr hlocks hK hP hS h dX11_about_75
  rw [if_neg c1] at h
  by_cases c2 : v1 = 1
  · rw [if_pos c2] at h
    refine lv_tableIn (off := 75) (tgt := 76) hx hb dX11_about_1 (by rw [c2]; decide) (by rw [c2]; decide) (by rw [c2]; rfl) (by decide) ?_
    refine lv_aload_n hx hb dX11_about_76 rfl (lv_at hl 0 rfl) ?_
    refine ge_11_2 hx hb hts in_X11_about_X11 hown hK hP k_0 (hts _ (List.mem_of_getElem? (i := 1) rfl)) dX11_about_77 ?_
    refine ge_7_5 hx hb hts in_X11_about_X7 hown hK hP k_2 (hts _ (List.mem_of_getElem? (i := 3) rfl)) dX11_about_80 ?_
    exact x_iret hx hb hr hlocks hK hP hS h dX11_about_83
  rw [if_neg c2] at h
  by_cases c3 : v1 = 2
  · rw [if_pos c3] at h
    refine lv_tableIn (off := 83) (tgt := 84) hx hb dX11_about_1 (by rw [c3]; decide) (by rw [c3]; decide) (by rw [c3]; rfl) (by decide) ?_
    refine lv_aload_n hx hb dX11_about_84 rfl (lv_at hl 0 rfl) ?_
    refine ge_11_5 hx hb hts in_X11_about_X11 hown hK hP k_0 (hts _ (List.mem_of_getElem? (i := 4) rfl)) dX11_about_85 ?_
    refine ge_1_2 hx hb hts in_X11_about_X1 hown hK hP k_34 (hts _ (List.mem_of_getElem? (i := 5) rfl)) dX11_about_88 ?_
    exact x_iret hx hb hr hlocks hK hP hS h dX11_about_91
  rw [if_neg c3] at h
  by_cases c4 : v1 = 3
  · rw [if_pos c4] at h
    refine lv_tableIn (off := 91) (tgt := 92) hx hb dX11_about_1 (by rw [c4]; decide) (by rw [c4]; decide) (by rw [c4]; rfl) (by decide) ?_
    refine lv_aload_n hx hb dX11_about_92 rfl (lv_at hl 0 rfl) ?_
    refine ge_11_5 hx hb hts in_X11_about_X11 hown hK hP k_0 (hts _ (List.mem_of_getElem? (i := 4) rfl)) dX11_about_93 ?_
    refine ge_1_3 hx hb hts in_X11_about_X1 hown hK hP k_34 (hts _ (List.mem_of_getElem? (i := 6) rfl)) dX11_about_96 ?_
    exact x_iret hx hb hr hlocks hK hP hS h dX11_about_99
  rw [if_neg c4] at h
  by_cases c5 : v1 = 4
  · rw [if_pos c5] at h
    refine lv_tableIn (off := 99) (tgt := 100) hx hb dX11_about_1 (by rw [c5]; decide) (by rw [c5]; decide) (by rw [c5]; rfl) (by decide) ?_
    refine lv_aload_n hx hb dX11_about_100 rfl (lv_at hl 0 rfl) ?_
    refine ge_11_5 hx hb hts in_X11_about_X11 hown hK hP k_0 (hts _ (List.mem_of_getElem? (i := 4) rfl)) dX11_about_101 ?_
    refine ge_1_4 hx hb hts in_X11_about_X1 hown hK hP k_34 (hts _ (List.mem_of_getElem? (i := 7) rfl)) dX11_about_104 ?_
    exact x_iret hx hb hr hlocks hK hP hS h dX11_about_107
  rw [if_neg c5] at h
  by_cases c6 : v1 = 5
  · rw [if_pos c6] at h
    refine lv_tableIn (off := 107) (tgt := 108) hx hb dX11_about_1 (by rw [c6]; decide) (by rw [c6]; decide) (by rw [c6]; rfl) (by decide) ?_
    refine lv_aload_n hx hb dX11_about_108 rfl (lv_at hl 0 rfl) ?_
    refine ge_11_5 hx hb hts in_X11_about_X11 hown hK hP k_0 (hts _ (List.mem_of_getElem? (i := 4) rfl)) dX11_about_109 ?_
    obtain ⟨r8, z9, h7, h⟩ := bd_s h
    refine x_Vi (Rz := (r8, z9)) (As := []) (rest := []) ⟨hx, hb, hml, hown, hts⟩ hK hP hS (kd_lt k_34 (by decide)) (cell_1 k_34) rfl (m_X1_brokenSet hG  k_34 h7) (cwV 0 hts gX11_about_X1_brokenSet rfl rfl rfl (by decide +kernel) (rmd_ok (by decide) (by decide))) rfl hl.1 rfl (Nat.le_of_ble_eq_true rfl) dX11_about_112 ⟨Nat.le_refl _, Nat.le_refl _⟩ (fun H locs hP hS => ?_)
    exact x_iret hx hb hr hlocks hK hP hS h dX11_about_115
  rw [if_neg c6] at h
  by_cases c10 : v1 = 6
  · rw [if_pos c10] at h
    refine lv_tableIn (off := 115) (tgt := 116) hx hb dX11_about_1 (by rw [c10]; decide) (by rw [c10]; decide) (by rw [c10]; rfl) (by decide) ?_
    refine lv_aload_n hx hb dX11_about_116 rfl (lv_at hl 0 rfl) ?_
    refine ge_11_8 hx hb hts in_X11_about_X11 hown hK hP k_0 (hts _ (List.mem_of_getElem? (i := 8) rfl)) dX11_about_117 ?_
    refine ge_0_9 hx hb hts in_X11_about_X0 hown hK hP k_146 (hts _ (List.mem_of_getElem? (i := 9) rfl)) dX11_about_120 ?_
    exact x_iret hx hb hr hlocks hK hP hS h dX11_about_123
  rw [if_neg c10] at h
  by_cases c11 : v1 = 7
  · rw [if_pos c11] at h
    refine lv_tableIn (off := 123) (tgt := 124) hx hb dX11_about_1 (by rw [c11]; decide) (by rw [c11]; decide) (by rw [c11]; rfl) (by decide) ?_
    refine lv_aload_n hx hb dX11_about_124 rfl (lv_at hl 0 rfl) ?_
    refine ge_11_8 hx hb hts in_X11_about_X11 hown hK hP k_0 (hts _ (List.mem_of_getElem? (i := 8) rfl)) dX11_about_125 ?_
    refine ge_0_10 hx hb hts in_X11_about_X0 hown hK hP k_146 (hts _ (List.mem_of_getElem? (i := 10) rfl)) dX11_about_128 ?_
    refine lv_aload_n hx hb dX11_about_131 rfl (lv_at hl 0 rfl) ?_
    refine ge_11_8 hx hb hts in_X11_about_X11 hown hK hP k_0 (hts _ (List.mem_of_getElem? (i := 8) rfl)) dX11_about_132 ?_
    refine ge_0_9 hx hb hts in_X11_about_X0 hown hK hP k_146 (hts _ (List.mem_of_getElem? (i := 9) rfl)) dX11_about_135 ?_
    refine lv_isub hx hb dX11_about_138 ?_
    exact x_iret hx hb hr hlocks hK hP hS h dX11_about_139
  rw [if_neg c11] at h
  by_cases c12 : v1 = 8
  · rw [if_pos c12] at h
    refine lv_tableIn (off := 139) (tgt := 140) hx hb dX11_about_1 (by rw [c12]; decide) (by rw [c12]; decide) (by rw [c12]; rfl) (by decide) ?_
    refine lv_aload_n hx hb dX11_about_140 rfl (lv_at hl 0 rfl) ?_
    refine ge_11_12 hx hb hts in_X11_about_X11 hown hK hP k_0 (hts _ (List.mem_of_getElem? (i := 11) rfl)) dX11_about_141 ?_
    refine ge_4_11 hx hb hts in_X11_about_X4 hown hK hP k_162 (hts _ (List.mem_of_getElem? (i := 12) rfl)) dX11_about_144 ?_
    exact x_iret hx hb hr hlocks hK hP hS h dX11_about_147
  rw [if_neg c12] at h
  by_cases c13 : v1 = 9
  · rw [if_pos c13] at h
    refine lv_tableIn (off := 147) (tgt := 148) hx hb dX11_about_1 (by rw [c13]; decide) (by rw [c13]; decide) (by rw [c13]; rfl) (by decide) ?_
    refine lv_aload_n hx hb dX11_about_148 rfl (lv_at hl 0 rfl) ?_
    refine ge_11_12 hx hb hts in_X11_about_X11 hown hK hP k_0 (hts _ (List.mem_of_getElem? (i := 11) rfl)) dX11_about_149 ?_
    refine ge_4_12 hx hb hts in_X11_about_X4 hown hK hP k_162 (hts _ (List.mem_of_getElem? (i := 13) rfl)) dX11_about_152 ?_
    exact x_iret hx hb hr hlocks hK hP hS h dX11_about_155
  rw [if_neg c13] at h
  by_cases c14 : v1 = 10
  · rw [if_pos c14] at h
    refine lv_tableIn (off := 155) (tgt := 156) hx hb dX11_about_1 (by rw [c14]; decide) (by rw [c14]; decide) (by rw [c14]; rfl) (by decide) ?_
    refine lv_aload_n hx hb dX11_about_156 rfl (lv_at hl 0 rfl) ?_
    refine ge_11_1 hx hb hts in_X11_about_X11 hown hK hP k_0 (hts _ (List.mem_of_getElem? (i := 14) rfl)) dX11_about_157 ?_
    exact x_iret hx hb hr hlocks hK hP hS h dX11_about_160
  rw [if_neg c14] at h
  by_cases c15 : v1 = 11
  · rw [if_pos c15] at h
    refine lv_tableIn (off := 160) (tgt := 161) hx hb dX11_about_1 (by rw [c15]; decide) (by rw [c15]; decide) (by rw [c15]; rfl) (by decide) ?_
    refine lv_aload_n hx hb dX11_about_161 rfl (lv_at hl 0 rfl) ?_
    refine ge_11_2 hx hb hts in_X11_about_X11 hown hK hP k_0 (hts _ (List.mem_of_getElem? (i := 1) rfl)) dX11_about_162 ?_
    refine ge_7_10 hx hb hts in_X11_about_X7 hown hK hP k_2 (hts _ (List.mem_of_getElem? (i := 15) rfl)) dX11_about_165 ?_
    refine ge_2_3 hx hb hts in_X11_about_X2 hown hK hP k_11 (hts _ (List.mem_of_getElem? (i := 16) rfl)) dX11_about_168 ?_
    refine lv_aload_n hx hb dX11_about_171 rfl (lv_at hl 0 rfl) ?_
    refine ge_11_2 hx hb hts in_X11_about_X11 hown hK hP k_0 (hts _ (List.mem_of_getElem? (i := 1) rfl)) dX11_about_172 ?_
    refine ge_7_11 hx hb hts in_X11_about_X7 hown hK hP k_2 (hts _ (List.mem_of_getElem? (i := 17) rfl)) dX11_about_175 ?_
    refine ge_2_3 hx hb hts in_X11_about_X2 hown hK hP k_14 (hts _ (List.mem_of_getElem? (i := 16) rfl)) dX11_about_178 ?_
    refine lv_iadd hx hb dX11_about_181 ?_
    exact x_iret hx hb hr hlocks hK hP hS h dX11_about_182
  rw [if_neg c15] at h
  by_cases c16 : v1 = 12
  · rw [if_pos c16] at h
    refine lv_tableIn (off := 182) (tgt := 183) hx hb dX11_about_1 (by rw [c16]; decide) (by rw [c16]; decide) (by rw [c16]; rfl) (by decide) ?_
    refine lv_aload_n hx hb dX11_about_183 rfl (lv_at hl 0 rfl) ?_
    refine ge_11_14 hx hb hts in_X11_about_X11 hown hK hP k_0 (hts _ (List.mem_of_getElem? (i := 18) rfl)) dX11_about_184 ?_
    exact x_iret hx hb hr hlocks hK hP hS h dX11_about_187
  rw [if_neg c16] at h
  have n17 : (v1 : Int32).toInt < 0 ∨ 12 < (v1 : Int32).toInt := by
    have c1_n := lv_neT (a := 0) c1 (by decide)
    have c2_n := lv_neT (a := 1) c2 (by decide)
    have c3_n := lv_neT (a := 2) c3 (by decide)
    have c4_n := lv_neT (a := 3) c4 (by decide)
    have c5_n := lv_neT (a := 4) c5 (by decide)
    have c6_n := lv_neT (a := 5) c6 (by decide)
    have c10_n := lv_neT (a := 6) c10 (by decide)
    have c11_n := lv_neT (a := 7) c11 (by decide)
    have c12_n := lv_neT (a := 8) c12 (by decide)
    have c13_n := lv_neT (a := 9) c13 (by decide)
    have c14_n := lv_neT (a := 10) c14 (by decide)
    have c15_n := lv_neT (a := 11) c15 (by decide)
    have c16_n := lv_neT (a := 12) c16 (by decide)
    omega
  refine lv_tableOut (tgt := 188) hx hb dX11_about_1 n17 (by decide) ?_
  refine lv_iconst (v := (-1)) hx hb dX11_about_188 (by decide) ?_
  exact x_iret hx hb hr hlocks hK hP hS h dX11_about_189
