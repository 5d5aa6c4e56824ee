theorem dX12_canHalve_34 : decode cX12_canHalve 34 = .ok (.ireturn, 1) := by decide +kernel
set_option maxRecDepth 20000 in
theorem ggX12_halve_X12_canHalve : GoodIn wsX12_halve wsX12_canHalve := goodIn_r _ [7, 8, 9, 10, 6, 11, 12, 13, 14, 15, 16, 17, 18, 19, 20, 78, 79, 80, 81, 82, 83, 84, 85, 86, 87, 88, 89, 90, 91, 92, 93, 94, 95, 96, 97, 98, 99, 100, 101, 102, 103, 104, 105, 106, 107, 108, 109, 110, 111, 112, 113, 114, 115, 116, 117, 118, 119, 120, 121, 122, 123, 124, 125, 126, 127, 128, 129, 130, 131, 132, 133, 134, 135, 136, 137, 138, 139, 140, 141, 142, 143, 144, 145, 146, 147, 148, 149, 150, 151, 152] (by decide +kernel) (by decide +kernel)
set_option maxRecDepth 20000 in
theorem gX12_halve_X12_canHalve : GoodIn wsX12_halve (wsV RX12 457 RX12 yX12_canHalve wsX12_canHalve) := goodIn_app (goodIn_of _ (by decide +kernel)) ggX12_halve_X12_canHalve
set_option maxRecDepth 20000 in
theorem ggX12_halve_X12_isIn : GoodIn wsX12_halve wsX12_isIn := goodIn_r _ [15] (by decide +kernel) (by decide +kernel)
set_option maxRecDepth 20000 in
theorem gX12_halve_X12_isIn : GoodIn wsX12_halve (va_wsS RX12 371 yX12_isIn wsX12_isIn) := goodIn_app (goodIn_of _ (by decide +kernel)) ggX12_halve_X12_isIn
set_option maxRecDepth 20000 in
theorem ggX12_halve_X12_layHalve : GoodIn wsX12_halve wsX12_layHalve := goodIn_r _ [24, 1, 25, 2, 26, 27, 28, 6, 29, 30, 12, 31, 32, 33, 34, 13, 14, 15, 35, 36, 37, 38, 39, 40, 41, 42, 43, 44, 45, 46, 47, 48, 49, 50, 51, 52, 53, 54, 55, 56, 57, 58, 59, 60, 61, 62, 63, 64, 65, 66, 67, 68, 69, 70, 71, 72, 73, 74, 75, 76, 77, 78, 79, 80, 81, 82, 83, 84, 85, 86, 87, 88, 89, 90, 91, 92, 93, 94, 95, 96, 97, 98, 99, 100, 101, 102, 103, 104, 105, 106, 107, 108, 109, 110, 111, 112, 113, 114, 115, 116, 117, 118, 119, 120, 121, 122, 123, 124, 125, 126, 127, 128, 129, 130, 131, 132, 133, 134, 135, 136, 137, 138, 139, 140, 141, 142, 143, 144, 145, 146, 147, 148, 149, 150, 151, 152] (by decide +kernel) (by decide +kernel)
set_option maxRecDepth 20000 in
theorem gX12_halve_X12_layHalve : GoodIn wsX12_halve (wsV RX12 460 RX12 yX12_layHalve wsX12_layHalve) := goodIn_app (goodIn_of _ (by decide +kernel)) ggX12_halve_X12_layHalve
theorem dX12_halve_0 : decode cX12_halve 0 = .ok (.aload_n 0, 1) := by decide +kernel
theorem dX12_halve_1 : decode cX12_halve 1 = .ok (.iload_n 1, 1) := by decide +kernel
theorem dX12_halve_2 : decode cX12_halve 2 = .ok (.iload_n 2, 1) := by decide +kernel
theorem dX12_halve_3 : decode cX12_halve 3 = .ok (.iload_n 3, 1) := by decide +kernel
theorem dX12_halve_4 : decode cX12_halve 4 = .ok (.invokevirtual 457, 3) := by decide +kernel
theorem dX12_halve_7 : decode cX12_halve 7 = .ok (.ifCond .eq 13, 3) := by decide +kernel
theorem dX12_halve_10 : decode cX12_halve 10 = .ok (.iload 4, 2) := by decide +kernel
theorem dX12_halve_12 : decode cX12_halve 12 = .ok (.iconst 0, 1) := by decide +kernel
theorem dX12_halve_13 : decode cX12_halve 13 = .ok (.iconst 2, 1) := by decide +kernel
theorem dX12_halve_14 : decode cX12_halve 14 = .ok (.invokestatic 371, 3) := by decide +kernel
theorem dX12_halve_17 : decode cX12_halve 17 = .ok (.ifCond .ne 5, 3) := by decide +kernel
theorem dX12_halve_20 : decode cX12_halve 20 = .ok (.iconst (-1), 1) := by decide +kernel
theorem dX12_halve_21 : decode cX12_halve 21 = .ok (.ireturn, 1) := by decide +kernel
theorem dX12_halve_22 : decode cX12_halve 22 = .ok (.aload_n 0, 1) := by decide +kernel
theorem dX12_halve_23 : decode cX12_halve 23 = .ok (.iload_n 1, 1) := by decide +kernel
theorem dX12_halve_24 : decode cX12_halve 24 = .ok (.iload_n 2, 1) := by decide +kernel
theorem dX12_halve_25 : decode cX12_halve 25 = .ok (.iload_n 3, 1) := by decide +kernel
theorem dX12_halve_26 : decode cX12_halve 26 = .ok (.invokevirtual 460, 3) := by decide +kernel
theorem dX12_halve_29 : decode cX12_halve 29 = .ok (.aload_n 0, 1) := by decide +kernel
theorem dX12_halve_30 : decode cX12_halve 30 = .ok (.getfield 448, 3) := by decide +kernel
theorem dX12_halve_33 : decode cX12_halve 33 = .ok (.ifCond .ge 7, 3) := by decide +kernel
theorem dX12_halve_36 : decode cX12_halve 36 = .ok (.iconst (-1), 1) := by decide +kernel
theorem dX12_halve_37 : decode cX12_halve 37 = .ok (.goto 38, 3) := by decide +kernel
theorem dX12_halve_40 : decode cX12_halve 40 = .ok (.iload 4, 2) := by decide +kernel
theorem dX12_halve_42 : decode cX12_halve 42 = .ok (.ifCond .ne 13, 3) := by decide +kernel
theorem dX12_halve_45 : decode cX12_halve 45 = .ok (.aload_n 0, 1) := by decide +kernel
theorem dX12_halve_46 : decode cX12_halve 46 = .ok (.getfield 448, 3) := by decide +kernel
theorem dX12_halve_49 : decode cX12_halve 49 = .ok (.bipush 8, 2) := by decide +kernel
theorem dX12_halve_51 : decode cX12_halve 51 = .ok (.idiv, 1) := by decide +kernel
theorem dX12_halve_52 : decode cX12_halve 52 = .ok (.goto 23, 3) := by decide +kernel
theorem dX12_halve_55 : decode cX12_halve 55 = .ok (.iload 4, 2) := by decide +kernel
theorem dX12_halve_57 : decode cX12_halve 57 = .ok (.iconst 1, 1) := by decide +kernel
theorem dX12_halve_58 : decode cX12_halve 58 = .ok (.if_icmp .ne 13, 3) := by decide +kernel
theorem dX12_halve_61 : decode cX12_halve 61 = .ok (.aload_n 0, 1) := by decide +kernel
theorem dX12_halve_62 : decode cX12_halve 62 = .ok (.getfield 448, 3) := by decide +kernel
theorem dX12_halve_65 : decode cX12_halve 65 = .ok (.bipush 8, 2) := by decide +kernel
theorem dX12_halve_67 : decode cX12_halve 67 = .ok (.irem, 1) := by decide +kernel
theorem dX12_halve_68 : decode cX12_halve 68 = .ok (.goto 7, 3) := by decide +kernel
theorem dX12_halve_71 : decode cX12_halve 71 = .ok (.aload_n 0, 1) := by decide +kernel
theorem dX12_halve_72 : decode cX12_halve 72 = .ok (.getfield 454, 3) := by decide +kernel
theorem dX12_halve_75 : decode cX12_halve 75 = .ok (.ireturn, 1) := by decide +kernel
set_option maxRecDepth 20000 in
theorem ggX12_share_X12_canHalve : GoodIn wsX12_share wsX12_canHalve := goodIn_r _ [8, 9, 10, 11, 7, 12, 13, 14, 15, 16, 17, 18, 19, 20, 21, 79, 80, 81, 82, 83, 84, 85, 86, 87, 88, 89, 90, 91, 92, 93, 94, 95, 96, 97, 98, 99, 100, 101, 102, 103, 104, 105, 106, 107, 108, 109, 110, 111, 112, 113, 114, 115, 116, 117, 118, 119, 120, 121, 122, 123, 124, 125, 126, 127, 128, 129, 130, 131, 132, 133, 134, 135, 136, 137, 138, 139, 140, 141, 142, 143, 144, 145, 146, 147, 148, 149, 150, 151, 152, 153] (by decide +kernel) (by decide +kernel)
set_option maxRecDepth 20000 in
theorem gX12_share_X12_canHalve : GoodIn wsX12_share (wsV RX12 457 RX12 yX12_canHalve wsX12_canHalve) := goodIn_app (goodIn_of _ (by decide +kernel)) ggX12_share_X12_canHalve
set_option maxRecDepth 20000 in
theorem ggX12_share_X12_layHalve : GoodIn wsX12_share wsX12_layHalve := goodIn_r _ [25, 2, 3, 26, 27, 28, 29, 7, 30, 31, 13, 32, 33, 34, 35, 14, 15, 16, 36, 37, 38, 39, 40, 41, 42, 43, 44, 45, 46, 47, 48, 49, 50, 51, 52, 53, 54, 55, 56, 57, 58, 59, 60, 61, 62, 63, 64, 65, 66, 67, 68, 69, 70, 71, 72, 73, 74, 75, 76, 77, 78, 79, 80, 81, 82, 83, 84, 85, 86, 87, 88, 89, 90, 91, 92, 93, 94, 95, 96, 97, 98, 99, 100, 101, 102, 103, 104, 105, 106, 107, 108, 109, 110, 111, 112, 113, 114, 115, 116, 117, 118, 119, 120, 121, 122, 123, 124, 125, 126, 127, 128, 129, 130, 131, 132, 133, 134, 135, 136, 137, 138, 139, 140, 141, 142, 143, 144, 145, 146, 147, 148, 149, 150, 151, 152, 153] (by decide +kernel) (by decide +kernel)
set_option maxRecDepth 20000 in
theorem gX12_share_X12_layHalve : GoodIn wsX12_share (wsV RX12 460 RX12 yX12_layHalve wsX12_layHalve) := goodIn_app (goodIn_of _ (by decide +kernel)) ggX12_share_X12_layHalve
theorem dX12_share_0 : decode cX12_share 0 = .ok (.aload_n 0, 1) := by decide +kernel
theorem dX12_share_1 : decode cX12_share 1 = .ok (.iload_n 1, 1) := by decide +kernel
theorem dX12_share_2 : decode cX12_share 2 = .ok (.iload_n 2, 1) := by decide +kernel
theorem dX12_share_3 : decode cX12_share 3 = .ok (.iload_n 3, 1) := by decide +kernel
theorem dX12_share_4 : decode cX12_share 4 = .ok (.invokevirtual 457, 3) := by decide +kernel
theorem dX12_share_7 : decode cX12_share 7 = .ok (.ifCond .ne 7, 3) := by decide +kernel
theorem dX12_share_10 : decode cX12_share 10 = .ok (.ldc_w 406, 3) := by decide +kernel
theorem dX12_share_13 : decode cX12_share 13 = .ok (.ireturn, 1) := by decide +kernel
theorem dX12_share_14 : decode cX12_share 14 = .ok (.aload_n 0, 1) := by decide +kernel
theorem dX12_share_15 : decode cX12_share 15 = .ok (.iload_n 1, 1) := by decide +kernel
theorem dX12_share_16 : decode cX12_share 16 = .ok (.iload_n 2, 1) := by decide +kernel
theorem dX12_share_17 : decode cX12_share 17 = .ok (.iload_n 3, 1) := by decide +kernel
theorem dX12_share_18 : decode cX12_share 18 = .ok (.invokevirtual 460, 3) := by decide +kernel
theorem dX12_share_21 : decode cX12_share 21 = .ok (.aload_n 0, 1) := by decide +kernel
theorem dX12_share_22 : decode cX12_share 22 = .ok (.getfield 448, 3) := by decide +kernel
theorem dX12_share_25 : decode cX12_share 25 = .ok (.ifCond .ge 9, 3) := by decide +kernel
theorem dX12_share_28 : decode cX12_share 28 = .ok (.ldc_w 406, 3) := by decide +kernel
theorem dX12_share_31 : decode cX12_share 31 = .ok (.goto 7, 3) := by decide +kernel
theorem dX12_share_34 : decode cX12_share 34 = .ok (.aload_n 0, 1) := by decide +kernel
theorem dX12_share_35 : decode cX12_share 35 = .ok (.getfield 451, 3) := by decide +kernel
theorem dX12_share_38 : decode cX12_share 38 = .ok (.ireturn, 1) := by decide +kernel
set_option maxRecDepth 20000 in
theorem ggX12_layWorths_X12_load : GoodIn wsX12_layWorths wsX12_load := goodIn_r _ [8, 2, 9, 45, 46, 47, 48, 49, 50, 51, 52, 53, 54, 55, 56, 57, 58, 59, 60, 61, 62, 63, 64, 65, 66, 67, 68, 69, 70, 71, 72, 73, 74, 75, 76, 77, 78, 79, 80, 81, 82, 83, 84, 85, 86, 87, 88, 89, 90, 91, 92, 93, 94, 95, 96, 97, 98, 99, 100, 101, 102, 103, 104, 105, 106, 107, 108, 109, 110, 111, 112, 113, 114, 115, 116, 117, 118, 119] (by decide +kernel) (by decide +kernel)
set_option maxRecDepth 20000 in
theorem gX12_layWorths_X12_load : GoodIn wsX12_layWorths (wsV RX12 394 RX12 yX12_load wsX12_load) := goodIn_app (goodIn_of _ (by decide +kernel)) ggX12_layWorths_X12_load
set_option maxRecDepth 20000 in
theorem ggX12_layWorths_X12_worthOf : GoodIn wsX12_layWorths wsX12_worthOf := goodIn_r _ [13, 14, 15, 16, 17, 18, 7, 19, 2, 20, 21, 22, 23, 24, 25, 26, 27, 28, 29, 30, 31, 32, 33, 34, 35, 36, 37, 38, 39, 40, 41, 42, 43, 44, 45, 46, 47, 48, 49, 50, 51, 52, 53, 54, 55, 56, 57, 58, 59, 60, 61, 62, 63, 64, 65, 66, 67, 68, 69, 70, 71, 72, 73, 74, 75, 76, 77, 78, 79, 80, 81, 82, 83, 84, 85, 86, 87, 88, 89, 90, 91, 92, 93, 94, 95, 96, 97, 98, 99, 100, 101, 102, 103, 104, 105, 106, 107, 108, 109, 110, 111, 112, 113, 114, 115, 116, 117, 118, 119] (by decide +kernel) (by decide +kernel)
set_option maxRecDepth 20000 in
theorem gX12_layWorths_X12_worthOf : GoodIn wsX12_layWorths (wsV RX12 403 RX12 yX12_worthOf wsX12_worthOf) := goodIn_app (goodIn_of _ (by decide +kernel)) ggX12_layWorths_X12_worthOf
theorem dX12_layWorths_0 : decode cX12_layWorths 0 = .ok (.aload_n 0, 1) := by decide +kernel
theorem dX12_layWorths_1 : decode cX12_layWorths 1 = .ok (.invokevirtual 394, 3) := by decide +kernel
theorem dX12_layWorths_4 : decode cX12_layWorths 4 = .ok (.iconst 0, 1) := by decide +kernel
theorem dX12_layWorths_5 : decode cX12_layWorths 5 = .ok (.istore_n 1, 1) := by decide +kernel
theorem dX12_layWorths_6 : decode cX12_layWorths 6 = .ok (.iload_n 1, 1) := by decide +kernel
theorem dX12_layWorths_7 : decode cX12_layWorths 7 = .ok (.aload_n 0, 1) := by decide +kernel
theorem dX12_layWorths_8 : decode cX12_layWorths 8 = .ok (.getfield 353, 3) := by decide +kernel
theorem dX12_layWorths_11 : decode cX12_layWorths 11 = .ok (.if_icmp .ge 46, 3) := by decide +kernel
theorem dX12_layWorths_14 : decode cX12_layWorths 14 = .ok (.iconst 0, 1) := by decide +kernel
theorem dX12_layWorths_15 : decode cX12_layWorths 15 = .ok (.istore_n 2, 1) := by decide +kernel
theorem dX12_layWorths_16 : decode cX12_layWorths 16 = .ok (.iload_n 2, 1) := by decide +kernel
theorem dX12_layWorths_17 : decode cX12_layWorths 17 = .ok (.aload_n 0, 1) := by decide +kernel
theorem dX12_layWorths_18 : decode cX12_layWorths 18 = .ok (.getfield 94, 3) := by decide +kernel
theorem dX12_layWorths_21 : decode cX12_layWorths 21 = .ok (.sipush 168, 3) := by decide +kernel
theorem dX12_layWorths_24 : decode cX12_layWorths 24 = .ok (.iaload, 1) := by decide +kernel
theorem dX12_layWorths_25 : decode cX12_layWorths 25 = .ok (.if_icmp .ge 26, 3) := by decide +kernel
theorem dX12_layWorths_28 : decode cX12_layWorths 28 = .ok (.aload_n 0, 1) := by decide +kernel
theorem dX12_layWorths_29 : decode cX12_layWorths 29 = .ok (.getfield 106, 3) := by decide +kernel
theorem dX12_layWorths_32 : decode cX12_layWorths 32 = .ok (.bipush 24, 2) := by decide +kernel
theorem dX12_layWorths_34 : decode cX12_layWorths 34 = .ok (.iload_n 1, 1) := by decide +kernel
theorem dX12_layWorths_35 : decode cX12_layWorths 35 = .ok (.imul, 1) := by decide +kernel
theorem dX12_layWorths_36 : decode cX12_layWorths 36 = .ok (.iload_n 2, 1) := by decide +kernel
theorem dX12_layWorths_37 : decode cX12_layWorths 37 = .ok (.iadd, 1) := by decide +kernel
theorem dX12_layWorths_38 : decode cX12_layWorths 38 = .ok (.aload_n 0, 1) := by decide +kernel
theorem dX12_layWorths_39 : decode cX12_layWorths 39 = .ok (.iload_n 1, 1) := by decide +kernel
theorem dX12_layWorths_40 : decode cX12_layWorths 40 = .ok (.iload_n 2, 1) := by decide +kernel
theorem dX12_layWorths_41 : decode cX12_layWorths 41 = .ok (.invokevirtual 403, 3) := by decide +kernel
theorem dX12_layWorths_44 : decode cX12_layWorths 44 = .ok (.iastore, 1) := by decide +kernel
theorem dX12_layWorths_45 : decode cX12_layWorths 45 = .ok (.iinc 2 1, 3) := by decide +kernel
theorem dX12_layWorths_48 : decode cX12_layWorths 48 = .ok (.goto (-32), 3) := by decide +kernel
theorem dX12_layWorths_51 : decode cX12_layWorths 51 = .ok (.iinc 1 1, 3) := by decide +kernel
theorem dX12_layWorths_54 : decode cX12_layWorths 54 = .ok (.goto (-48), 3) := by decide +kernel
theorem dX12_layWorths_57 : decode cX12_layWorths 57 = .ok (.return_, 1) := by decide +kernel
set_option maxRecDepth 20000 in
theorem ggX12_bestFor_X12_isFree : GoodIn wsX12_bestFor wsX12_isFree := goodIn_r _ [7, 1, 8, 9, 10, 11, 12, 13, 14, 15, 16, 17, 18, 19, 20, 21, 22, 23, 24, 25, 26, 27, 28, 29, 30, 31, 32, 33, 34, 35, 36, 37, 38, 39, 40, 41, 42, 43, 44, 45, 46, 47, 48, 49, 50, 51, 52, 53, 54, 55, 56, 57, 58, 59, 60, 61, 62, 63, 64, 65, 66, 67, 68, 69, 70, 71, 72, 73, 74, 75, 76, 77, 78, 79, 80, 81, 82] (by decide +kernel) (by decide +kernel)
set_option maxRecDepth 20000 in
theorem gX12_bestFor_X12_isFree : GoodIn wsX12_bestFor (wsV RX12 388 RX12 yX12_isFree wsX12_isFree) := goodIn_app (goodIn_of _ (by decide +kernel)) ggX12_bestFor_X12_isFree
theorem dX12_bestFor_0 : decode cX12_bestFor 0 = .ok (.iconst (-1), 1) := by decide +kernel
theorem dX12_bestFor_1 : decode cX12_bestFor 1 = .ok (.istore_n 3, 1) := by decide +kernel
theorem dX12_bestFor_2 : decode cX12_bestFor 2 = .ok (.iconst 0, 1) := by decide +kernel
theorem dX12_bestFor_3 : decode cX12_bestFor 3 = .ok (.istore 4, 2) := by decide +kernel
theorem dX12_bestFor_5 : decode cX12_bestFor 5 = .ok (.iload 4, 2) := by decide +kernel
theorem dX12_bestFor_7 : decode cX12_bestFor 7 = .ok (.aload_n 0, 1) := by decide +kernel
theorem dX12_bestFor_8 : decode cX12_bestFor 8 = .ok (.getfield 94, 3) := by decide +kernel
theorem dX12_bestFor_11 : decode cX12_bestFor 11 = .ok (.sipush 168, 3) := by decide +kernel
theorem dX12_bestFor_14 : decode cX12_bestFor 14 = .ok (.iaload, 1) := by decide +kernel
theorem dX12_bestFor_15 : decode cX12_bestFor 15 = .ok (.if_icmp .ge 60, 3) := by decide +kernel
theorem dX12_bestFor_18 : decode cX12_bestFor 18 = .ok (.aload_n 0, 1) := by decide +kernel
theorem dX12_bestFor_19 : decode cX12_bestFor 19 = .ok (.iload 4, 2) := by decide +kernel
theorem dX12_bestFor_21 : decode cX12_bestFor 21 = .ok (.invokevirtual 388, 3) := by decide +kernel
theorem dX12_bestFor_24 : decode cX12_bestFor 24 = .ok (.ifCond .eq 45, 3) := by decide +kernel
theorem dX12_bestFor_27 : decode cX12_bestFor 27 = .ok (.iload_n 2, 1) := by decide +kernel
theorem dX12_bestFor_28 : decode cX12_bestFor 28 = .ok (.iload 4, 2) := by decide +kernel
theorem dX12_bestFor_30 : decode cX12_bestFor 30 = .ok (.ishr, 1) := by decide +kernel
theorem dX12_bestFor_31 : decode cX12_bestFor 31 = .ok (.iconst 1, 1) := by decide +kernel
theorem dX12_bestFor_32 : decode cX12_bestFor 32 = .ok (.iand, 1) := by decide +kernel
theorem dX12_bestFor_33 : decode cX12_bestFor 33 = .ok (.ifCond .ne 36, 3) := by decide +kernel
theorem dX12_bestFor_36 : decode cX12_bestFor 36 = .ok (.iload_n 3, 1) := by decide +kernel
theorem dX12_bestFor_37 : decode cX12_bestFor 37 = .ok (.ifCond .lt 29, 3) := by decide +kernel
theorem dX12_bestFor_40 : decode cX12_bestFor 40 = .ok (.aload_n 0, 1) := by decide +kernel
theorem dX12_bestFor_41 : decode cX12_bestFor 41 = .ok (.getfield 106, 3) := by decide +kernel
theorem dX12_bestFor_44 : decode cX12_bestFor 44 = .ok (.bipush 24, 2) := by decide +kernel
theorem dX12_bestFor_46 : decode cX12_bestFor 46 = .ok (.iload_n 1, 1) := by decide +kernel
theorem dX12_bestFor_47 : decode cX12_bestFor 47 = .ok (.imul, 1) := by decide +kernel
theorem dX12_bestFor_48 : decode cX12_bestFor 48 = .ok (.iload 4, 2) := by decide +kernel
theorem dX12_bestFor_50 : decode cX12_bestFor 50 = .ok (.iadd, 1) := by decide +kernel
theorem dX12_bestFor_51 : decode cX12_bestFor 51 = .ok (.iaload, 1) := by decide +kernel
theorem dX12_bestFor_52 : decode cX12_bestFor 52 = .ok (.aload_n 0, 1) := by decide +kernel
theorem dX12_bestFor_53 : decode cX12_bestFor 53 = .ok (.getfield 106, 3) := by decide +kernel
theorem dX12_bestFor_56 : decode cX12_bestFor 56 = .ok (.bipush 24, 2) := by decide +kernel
theorem dX12_bestFor_58 : decode cX12_bestFor 58 = .ok (.iload_n 1, 1) := by decide +kernel
theorem dX12_bestFor_59 : decode cX12_bestFor 59 = .ok (.imul, 1) := by decide +kernel
theorem dX12_bestFor_60 : decode cX12_bestFor 60 = .ok (.iload_n 3, 1) := by decide +kernel
theorem dX12_bestFor_61 : decode cX12_bestFor 61 = .ok (.iadd, 1) := by decide +kernel
theorem dX12_bestFor_62 : decode cX12_bestFor 62 = .ok (.iaload, 1) := by decide +kernel
theorem dX12_bestFor_63 : decode cX12_bestFor 63 = .ok (.if_icmp .le 6, 3) := by decide +kernel
theorem dX12_bestFor_66 : decode cX12_bestFor 66 = .ok (.iload 4, 2) := by decide +kernel
theorem dX12_bestFor_68 : decode cX12_bestFor 68 = .ok (.istore_n 3, 1) := by decide +kernel
theorem dX12_bestFor_69 : decode cX12_bestFor 69 = .ok (.iinc 4 1, 3) := by decide +kernel
theorem dX12_bestFor_72 : decode cX12_bestFor 72 = .ok (.goto (-67), 3) := by decide +kernel
theorem dX12_bestFor_75 : decode cX12_bestFor 75 = .ok (.iload_n 3, 1) := by decide +kernel
theorem dX12_bestFor_76 : decode cX12_bestFor 76 = .ok (.ireturn, 1) := by decide +kernel
set_option maxRecDepth 20000 in
theorem ggX12_picks_X12_layWorths : GoodIn wsX12_picks wsX12_layWorths := goodIn_r _ [8, 1, 9, 10, 11, 12, 13, 7, 14, 15, 16, 17, 18, 19, 20, 21, 22, 23, 24, 25, 26, 27, 28, 29, 30, 31, 32, 33, 34, 35, 36, 37, 38, 39, 40, 41, 42, 43, 44, 45, 46, 47, 48, 49, 50, 63, 64, 65, 66, 67, 68, 69, 70, 71, 72, 73, 74, 75, 76, 77, 78, 79, 80, 81, 82, 83, 84, 85, 86, 87, 88, 89, 90, 91, 92, 93, 94, 95, 96, 97, 98, 99, 100, 101, 102, 103, 104, 105, 106, 107, 108, 109, 110, 111, 112, 113, 114, 115, 116, 117, 118, 119, 120, 121, 122, 123, 124, 125, 126, 127, 128, 129, 130, 131, 132, 133, 134, 135, 136, 137] (by decide +kernel) (by decide +kernel)
set_option maxRecDepth 20000 in
theorem gX12_picks_X12_layWorths : GoodIn wsX12_picks (wsV RX12 463 RX12 yX12_layWorths wsX12_layWorths) := goodIn_app (goodIn_of _ (by decide +kernel)) ggX12_picks_X12_layWorths
set_option maxRecDepth 20000 in
theorem ggX12_picks_X12_pieceOf : GoodIn wsX12_picks wsX12_pieceOf := goodIn_r _ [54, 9, 63, 64, 65, 66, 67, 68, 69, 70, 71, 72, 73, 74, 75, 76, 77, 78, 79, 80, 81, 82, 83, 84, 85, 86, 87, 88, 89, 90, 91, 92, 93, 94, 95, 96, 97, 98, 99, 100, 101, 102, 103, 104, 105, 106, 107, 108, 109, 110, 111, 112, 113, 114, 115, 116, 117, 118, 119, 120, 121, 122, 123, 124, 125, 126, 127, 128, 129, 130, 131, 132, 133, 134, 135, 136, 137] (by decide +kernel) (by decide +kernel)
set_option maxRecDepth 20000 in
theorem gX12_picks_X12_pieceOf : GoodIn wsX12_picks (wsV RX12 400 RX12 yX12_pieceOf wsX12_pieceOf) := goodIn_app (goodIn_of _ (by decide +kernel)) ggX12_picks_X12_pieceOf
set_option maxRecDepth 20000 in
theorem ggX12_picks_X12_bestFor : GoodIn wsX12_picks wsX12_bestFor := goodIn_r _ [58, 9, 10, 59, 60, 61, 7, 62, 63, 64, 65, 66, 67, 68, 69, 70, 71, 72, 73, 74, 75, 76, 77, 78, 79, 80, 81, 82, 83, 84, 85, 86, 87, 88, 89, 90, 91, 92, 93, 94, 95, 96, 97, 98, 99, 100, 101, 102, 103, 104, 105, 106, 107, 108, 109, 110, 111, 112, 113, 114, 115, 116, 117, 118, 119, 120, 121, 122, 123, 124, 125, 126, 127, 128, 129, 130, 131, 132, 133, 134, 135, 136, 137] (by decide +kernel) (by decide +kernel)
set_option maxRecDepth 20000 in
theorem gX12_picks_X12_bestFor : GoodIn wsX12_picks (wsV RX12 466 RX12 yX12_bestFor wsX12_bestFor) := goodIn_app (goodIn_of _ (by decide +kernel)) ggX12_picks_X12_bestFor
theorem dX12_picks_0 : decode cX12_picks 0 = .ok (.aload_n 0, 1) := by decide +kernel
theorem dX12_picks_1 : decode cX12_picks 1 = .ok (.invokevirtual 463, 3) := by decide +kernel
theorem dX12_picks_4 : decode cX12_picks 4 = .ok (.iconst 0, 1) := by decide +kernel
theorem dX12_picks_5 : decode cX12_picks 5 = .ok (.istore_n 1, 1) := by decide +kernel
theorem dX12_picks_6 : decode cX12_picks 6 = .ok (.iconst 0, 1) := by decide +kernel
theorem dX12_picks_7 : decode cX12_picks 7 = .ok (.istore_n 2, 1) := by decide +kernel
theorem dX12_picks_8 : decode cX12_picks 8 = .ok (.iconst 0, 1) := by decide +kernel
theorem dX12_picks_9 : decode cX12_picks 9 = .ok (.istore_n 3, 1) := by decide +kernel
theorem dX12_picks_10 : decode cX12_picks 10 = .ok (.iload_n 3, 1) := by decide +kernel
theorem dX12_picks_11 : decode cX12_picks 11 = .ok (.aload_n 0, 1) := by decide +kernel
theorem dX12_picks_12 : decode cX12_picks 12 = .ok (.getfield 353, 3) := by decide +kernel
theorem dX12_picks_15 : decode cX12_picks 15 = .ok (.if_icmp .ge 55, 3) := by decide +kernel
theorem dX12_picks_18 : decode cX12_picks 18 = .ok (.aload_n 0, 1) := by decide +kernel
theorem dX12_picks_19 : decode cX12_picks 19 = .ok (.iload_n 3, 1) := by decide +kernel
theorem dX12_picks_20 : decode cX12_picks 20 = .ok (.invokevirtual 400, 3) := by decide +kernel
theorem dX12_picks_23 : decode cX12_picks 23 = .ok (.ifCond .lt 7, 3) := by decide +kernel
theorem dX12_picks_26 : decode cX12_picks 26 = .ok (.iconst (-1), 1) := by decide +kernel
theorem dX12_picks_27 : decode cX12_picks 27 = .ok (.goto 9, 3) := by decide +kernel
theorem dX12_picks_30 : decode cX12_picks 30 = .ok (.aload_n 0, 1) := by decide +kernel
theorem dX12_picks_31 : decode cX12_picks 31 = .ok (.iload_n 3, 1) := by decide +kernel
theorem dX12_picks_32 : decode cX12_picks 32 = .ok (.iload_n 1, 1) := by decide +kernel
theorem dX12_picks_33 : decode cX12_picks 33 = .ok (.invokevirtual 466, 3) := by decide +kernel
theorem dX12_picks_36 : decode cX12_picks 36 = .ok (.istore 4, 2) := by decide +kernel
theorem dX12_picks_38 : decode cX12_picks 38 = .ok (.aload_n 0, 1) := by decide +kernel
theorem dX12_picks_39 : decode cX12_picks 39 = .ok (.getfield 115, 3) := by decide +kernel
theorem dX12_picks_42 : decode cX12_picks 42 = .ok (.iload_n 3, 1) := by decide +kernel
theorem dX12_picks_43 : decode cX12_picks 43 = .ok (.iload 4, 2) := by decide +kernel
theorem dX12_picks_45 : decode cX12_picks 45 = .ok (.iastore, 1) := by decide +kernel
theorem dX12_picks_46 : decode cX12_picks 46 = .ok (.iload 4, 2) := by decide +kernel
theorem dX12_picks_48 : decode cX12_picks 48 = .ok (.ifCond .ge 6, 3) := by decide +kernel
theorem dX12_picks_51 : decode cX12_picks 51 = .ok (.goto 13, 3) := by decide +kernel
theorem dX12_picks_54 : decode cX12_picks 54 = .ok (.iload_n 1, 1) := by decide +kernel
theorem dX12_picks_55 : decode cX12_picks 55 = .ok (.iconst 1, 1) := by decide +kernel
theorem dX12_picks_56 : decode cX12_picks 56 = .ok (.iload 4, 2) := by decide +kernel
theorem dX12_picks_58 : decode cX12_picks 58 = .ok (.ishl, 1) := by decide +kernel
theorem dX12_picks_59 : decode cX12_picks 59 = .ok (.ior, 1) := by decide +kernel
theorem dX12_picks_60 : decode cX12_picks 60 = .ok (.istore_n 1, 1) := by decide +kernel
theorem dX12_picks_61 : decode cX12_picks 61 = .ok (.iinc 2 1, 3) := by decide +kernel
theorem dX12_picks_64 : decode cX12_picks 64 = .ok (.iinc 3 1, 3) := by decide +kernel
theorem dX12_picks_67 : decode cX12_picks 67 = .ok (.goto (-57), 3) := by decide +kernel
theorem dX12_picks_70 : decode cX12_picks 70 = .ok (.aload_n 0, 1) := by decide +kernel
theorem dX12_picks_71 : decode cX12_picks 71 = .ok (.aload_n 0, 1) := by decide +kernel
theorem dX12_picks_72 : decode cX12_picks 72 = .ok (.getfield 353, 3) := by decide +kernel
theorem dX12_picks_75 : decode cX12_picks 75 = .ok (.putfield 368, 3) := by decide +kernel
theorem dX12_picks_78 : decode cX12_picks 78 = .ok (.iload_n 2, 1) := by decide +kernel
theorem dX12_picks_79 : decode cX12_picks 79 = .ok (.ireturn, 1) := by decide +kernel
set_option maxRecDepth 20000 in
theorem ggX12_leastBy_X12_bestFor : GoodIn wsX12_leastBy wsX12_bestFor := goodIn_r _ [8, 9, 3, 10, 11, 12, 7, 13, 14, 15, 16, 17, 18, 19, 20, 21, 22, 23, 24, 25, 26, 27, 28, 29, 30, 31, 32, 33, 34, 35, 36, 37, 38, 39, 40, 41, 42, 43, 44, 45, 46, 47, 48, 49, 50, 51, 52, 53, 54, 55, 56, 57, 58, 59, 60, 61, 62, 63, 64, 65, 66, 67, 68, 69, 70, 71, 72, 73, 74, 75, 76, 77, 78, 79, 80, 81, 82, 83, 84, 85, 86, 87, 88] (by decide +kernel) (by decide +kernel)
set_option maxRecDepth 20000 in
theorem gX12_leastBy_X12_bestFor : GoodIn wsX12_leastBy (wsV RX12 466 RX12 yX12_bestFor wsX12_bestFor) := goodIn_app (goodIn_of _ (by decide +kernel)) ggX12_leastBy_X12_bestFor
theorem dX12_leastBy_0 : decode cX12_leastBy 0 = .ok (.iconst 0, 1) := by decide +kernel
theorem dX12_leastBy_1 : decode cX12_leastBy 1 = .ok (.istore_n 2, 1) := by decide +kernel
theorem dX12_leastBy_2 : decode cX12_leastBy 2 = .ok (.ldc_w 406, 3) := by decide +kernel
theorem dX12_leastBy_5 : decode cX12_leastBy 5 = .ok (.istore_n 3, 1) := by decide +kernel
theorem dX12_leastBy_6 : decode cX12_leastBy 6 = .ok (.iconst 0, 1) := by decide +kernel
theorem dX12_leastBy_7 : decode cX12_leastBy 7 = .ok (.istore 4, 2) := by decide +kernel
theorem dX12_leastBy_9 : decode cX12_leastBy 9 = .ok (.iload 4, 2) := by decide +kernel
theorem dX12_leastBy_11 : decode cX12_leastBy 11 = .ok (.iload_n 1, 1) := by decide +kernel
theorem dX12_leastBy_12 : decode cX12_leastBy 12 = .ok (.if_icmp .ge 78, 3) := by decide +kernel
theorem dX12_leastBy_15 : decode cX12_leastBy 15 = .ok (.aload_n 0, 1) := by decide +kernel
theorem dX12_leastBy_16 : decode cX12_leastBy 16 = .ok (.aload_n 0, 1) := by decide +kernel
theorem dX12_leastBy_17 : decode cX12_leastBy 17 = .ok (.getfield 109, 3) := by decide +kernel
theorem dX12_leastBy_20 : decode cX12_leastBy 20 = .ok (.iload 4, 2) := by decide +kernel
theorem dX12_leastBy_22 : decode cX12_leastBy 22 = .ok (.iaload, 1) := by decide +kernel
theorem dX12_leastBy_23 : decode cX12_leastBy 23 = .ok (.iload_n 2, 1) := by decide +kernel
theorem dX12_leastBy_24 : decode cX12_leastBy 24 = .ok (.invokevirtual 466, 3) := by decide +kernel
theorem dX12_leastBy_27 : decode cX12_leastBy 27 = .ok (.istore 5, 2) := by decide +kernel
theorem dX12_leastBy_29 : decode cX12_leastBy 29 = .ok (.iload 5, 2) := by decide +kernel
theorem dX12_leastBy_31 : decode cX12_leastBy 31 = .ok (.ifCond .ge 7, 3) := by decide +kernel
theorem dX12_leastBy_34 : decode cX12_leastBy 34 = .ok (.iconst 0, 1) := by decide +kernel
theorem dX12_leastBy_35 : decode cX12_leastBy 35 = .ok (.goto 21, 3) := by decide +kernel
theorem dX12_leastBy_38 : decode cX12_leastBy 38 = .ok (.aload_n 0, 1) := by decide +kernel
theorem dX12_leastBy_39 : decode cX12_leastBy 39 = .ok (.getfield 106, 3) := by decide +kernel
theorem dX12_leastBy_42 : decode cX12_leastBy 42 = .ok (.bipush 24, 2) := by decide +kernel
theorem dX12_leastBy_44 : decode cX12_leastBy 44 = .ok (.aload_n 0, 1) := by decide +kernel
theorem dX12_leastBy_45 : decode cX12_leastBy 45 = .ok (.getfield 109, 3) := by decide +kernel
theorem dX12_leastBy_48 : decode cX12_leastBy 48 = .ok (.iload 4, 2) := by decide +kernel
theorem dX12_leastBy_50 : decode cX12_leastBy 50 = .ok (.iaload, 1) := by decide +kernel
theorem dX12_leastBy_51 : decode cX12_leastBy 51 = .ok (.imul, 1) := by decide +kernel
theorem dX12_leastBy_52 : decode cX12_leastBy 52 = .ok (.iload 5, 2) := by decide +kernel
theorem dX12_leastBy_54 : decode cX12_leastBy 54 = .ok (.iadd, 1) := by decide +kernel
theorem dX12_leastBy_55 : decode cX12_leastBy 55 = .ok (.iaload, 1) := by decide +kernel
theorem dX12_leastBy_56 : decode cX12_leastBy 56 = .ok (.istore 6, 2) := by decide +kernel
theorem dX12_leastBy_58 : decode cX12_leastBy 58 = .ok (.iload 5, 2) := by decide +kernel
theorem dX12_leastBy_60 : decode cX12_leastBy 60 = .ok (.ifCond .lt 10, 3) := by decide +kernel
theorem dX12_leastBy_63 : decode cX12_leastBy 63 = .ok (.iload_n 2, 1) := by decide +kernel
theorem dX12_leastBy_64 : decode cX12_leastBy 64 = .ok (.iconst 1, 1) := by decide +kernel
theorem dX12_leastBy_65 : decode cX12_leastBy 65 = .ok (.iload 5, 2) := by decide +kernel
theorem dX12_leastBy_67 : decode cX12_leastBy 67 = .ok (.ishl, 1) := by decide +kernel
theorem dX12_leastBy_68 : decode cX12_leastBy 68 = .ok (.ior, 1) := by decide +kernel
theorem dX12_leastBy_69 : decode cX12_leastBy 69 = .ok (.istore_n 2, 1) := by decide +kernel
theorem dX12_leastBy_70 : decode cX12_leastBy 70 = .ok (.iload 4, 2) := by decide +kernel
theorem dX12_leastBy_72 : decode cX12_leastBy 72 = .ok (.ifCond .eq 9, 3) := by decide +kernel
theorem dX12_leastBy_75 : decode cX12_leastBy 75 = .ok (.iload 6, 2) := by decide +kernel
theorem dX12_leastBy_77 : decode cX12_leastBy 77 = .ok (.iload_n 3, 1) := by decide +kernel
theorem dX12_leastBy_78 : decode cX12_leastBy 78 = .ok (.if_icmp .ge 6, 3) := by decide +kernel
theorem dX12_leastBy_81 : decode cX12_leastBy 81 = .ok (.iload 6, 2) := by decide +kernel
theorem dX12_leastBy_83 : decode cX12_leastBy 83 = .ok (.istore_n 3, 1) := by decide +kernel
theorem dX12_leastBy_84 : decode cX12_leastBy 84 = .ok (.iinc 4 1, 3) := by decide +kernel
theorem dX12_leastBy_87 : decode cX12_leastBy 87 = .ok (.goto (-78), 3) := by decide +kernel
theorem dX12_leastBy_90 : decode cX12_leastBy 90 = .ok (.iload_n 3, 1) := by decide +kernel
theorem dX12_leastBy_91 : decode cX12_leastBy 91 = .ok (.ireturn, 1) := by decide +kernel
theorem dX12_layTurn_0 : decode cX12_layTurn 0 = .ok (.iload_n 2, 1) := by decide +kernel
theorem dX12_layTurn_1 : decode cX12_layTurn 1 = .ok (.istore 4, 2) := by decide +kernel
theorem dX12_layTurn_3 : decode cX12_layTurn 3 = .ok (.iconst 0, 1) := by decide +kernel
theorem dX12_layTurn_4 : decode cX12_layTurn 4 = .ok (.istore 5, 2) := by decide +kernel
theorem dX12_layTurn_6 : decode cX12_layTurn 6 = .ok (.iload_n 1, 1) := by decide +kernel
theorem dX12_layTurn_7 : decode cX12_layTurn 7 = .ok (.iconst 1, 1) := by decide +kernel
theorem dX12_layTurn_8 : decode cX12_layTurn 8 = .ok (.isub, 1) := by decide +kernel
theorem dX12_layTurn_9 : decode cX12_layTurn 9 = .ok (.istore 6, 2) := by decide +kernel
theorem dX12_layTurn_11 : decode cX12_layTurn 11 = .ok (.iload 6, 2) := by decide +kernel
theorem dX12_layTurn_13 : decode cX12_layTurn 13 = .ok (.ifCond .lt 42, 3) := by decide +kernel
theorem dX12_layTurn_16 : decode cX12_layTurn 16 = .ok (.aload_n 0, 1) := by decide +kernel
theorem dX12_layTurn_17 : decode cX12_layTurn 17 = .ok (.getfield 109, 3) := by decide +kernel
theorem dX12_layTurn_20 : decode cX12_layTurn 20 = .ok (.iload 6, 2) := by decide +kernel
theorem dX12_layTurn_22 : decode cX12_layTurn 22 = .ok (.iload 4, 2) := by decide +kernel
theorem dX12_layTurn_24 : decode cX12_layTurn 24 = .ok (.bipush 6, 2) := by decide +kernel
theorem dX12_layTurn_26 : decode cX12_layTurn 26 = .ok (.irem, 1) := by decide +kernel
theorem dX12_layTurn_27 : decode cX12_layTurn 27 = .ok (.iastore, 1) := by decide +kernel
theorem dX12_layTurn_28 : decode cX12_layTurn 28 = .ok (.iload 4, 2) := by decide +kernel
theorem dX12_layTurn_30 : decode cX12_layTurn 30 = .ok (.bipush 6, 2) := by decide +kernel
theorem dX12_layTurn_32 : decode cX12_layTurn 32 = .ok (.idiv, 1) := by decide +kernel
theorem dX12_layTurn_33 : decode cX12_layTurn 33 = .ok (.istore 4, 2) := by decide +kernel
theorem dX12_layTurn_35 : decode cX12_layTurn 35 = .ok (.iload 5, 2) := by decide +kernel
theorem dX12_layTurn_37 : decode cX12_layTurn 37 = .ok (.iconst 1, 1) := by decide +kernel
theorem dX12_layTurn_38 : decode cX12_layTurn 38 = .ok (.aload_n 0, 1) := by decide +kernel
theorem dX12_layTurn_39 : decode cX12_layTurn 39 = .ok (.getfield 109, 3) := by decide +kernel
theorem dX12_layTurn_42 : decode cX12_layTurn 42 = .ok (.iload 6, 2) := by decide +kernel
theorem dX12_layTurn_44 : decode cX12_layTurn 44 = .ok (.iaload, 1) := by decide +kernel
theorem dX12_layTurn_45 : decode cX12_layTurn 45 = .ok (.ishl, 1) := by decide +kernel
theorem dX12_layTurn_46 : decode cX12_layTurn 46 = .ok (.ior, 1) := by decide +kernel
theorem dX12_layTurn_47 : decode cX12_layTurn 47 = .ok (.istore 5, 2) := by decide +kernel
theorem dX12_layTurn_49 : decode cX12_layTurn 49 = .ok (.iinc 6 (-1), 3) := by decide +kernel
theorem dX12_layTurn_52 : decode cX12_layTurn 52 = .ok (.goto (-41), 3) := by decide +kernel
theorem dX12_layTurn_55 : decode cX12_layTurn 55 = .ok (.iload 5, 2) := by decide +kernel
theorem dX12_layTurn_57 : decode cX12_layTurn 57 = .ok (.iload_n 3, 1) := by decide +kernel
theorem dX12_layTurn_58 : decode cX12_layTurn 58 = .ok (.if_icmp .ne 7, 3) := by decide +kernel
theorem dX12_layTurn_61 : decode cX12_layTurn 61 = .ok (.iconst 1, 1) := by decide +kernel
theorem dX12_layTurn_62 : decode cX12_layTurn 62 = .ok (.goto 4, 3) := by decide +kernel
theorem dX12_layTurn_65 : decode cX12_layTurn 65 = .ok (.iconst 0, 1) := by decide +kernel
theorem dX12_layTurn_66 : decode cX12_layTurn 66 = .ok (.ireturn, 1) := by decide +kernel
set_option maxRecDepth 20000 in
theorem ggX12_order_X12_layWorths : GoodIn wsX12_order wsX12_layWorths := goodIn_r _ [11, 2, 12, 13, 14, 15, 16, 10, 17, 18, 19, 20, 21, 22, 23, 24, 25, 26, 27, 28, 29, 30, 31, 32, 33, 34, 35, 36, 37, 38, 39, 40, 41, 42, 43, 44, 45, 46, 47, 48, 49, 50, 51, 52, 53, 74, 75, 76, 77, 78, 79, 80, 81, 82, 83, 84, 85, 86, 87, 88, 89, 90, 91, 92, 93, 94, 95, 96, 97, 98, 99, 100, 101, 102, 103, 104, 105, 106, 107, 108, 109, 110, 111, 112, 113, 114, 115, 116, 117, 118, 119, 120, 121, 122, 123, 124, 125, 126, 127, 128, 129, 130, 131, 132, 133, 134, 135, 136, 137, 138, 139, 140, 141, 142, 143, 144, 145, 146, 147, 148] (by decide +kernel) (by decide +kernel)
set_option maxRecDepth 20000 in
theorem gX12_order_X12_layWorths : GoodIn wsX12_order (wsV RX12 463 RX12 yX12_layWorths wsX12_layWorths) := goodIn_app (goodIn_of _ (by decide +kernel)) ggX12_order_X12_layWorths
set_option maxRecDepth 20000 in
theorem ggX12_order_X12_pieceOf : GoodIn wsX12_order wsX12_pieceOf := goodIn_r _ [57, 12, 74, 75, 76, 77, 78, 79, 80, 81, 82, 83, 84, 85, 86, 87, 88, 89, 90, 91, 92, 93, 94, 95, 96, 97, 98, 99, 100, 101, 102, 103, 104, 105, 106, 107, 108, 109, 110, 111, 112, 113, 114, 115, 116, 117, 118, 119, 120, 121, 122, 123, 124, 125, 126, 127, 128, 129, 130, 131, 132, 133, 134, 135, 136, 137, 138, 139, 140, 141, 142, 143, 144, 145, 146, 147, 148] (by decide +kernel) (by decide +kernel)
set_option maxRecDepth 20000 in
theorem gX12_order_X12_pieceOf : GoodIn wsX12_order (wsV RX12 400 RX12 yX12_pieceOf wsX12_pieceOf) := goodIn_app (goodIn_of _ (by decide +kernel)) ggX12_order_X12_pieceOf
set_option maxRecDepth 20000 in
theorem ggX12_order_X12_layTurn : GoodIn wsX12_order wsX12_layTurn := goodIn_r _ [61, 5, 74, 75, 76, 77, 78, 79, 80, 81, 82, 83, 84, 85, 86, 87, 88, 89, 90, 91, 92, 93, 94, 95, 96, 97, 98, 99, 100, 101, 102, 103, 104, 105, 106, 107, 108, 109, 110, 111, 112, 113, 114, 115, 116, 117, 118, 119, 120, 121, 122, 123, 124, 125, 126, 127, 128, 129, 130, 131, 132, 133, 134, 135, 136, 137, 138, 139, 140, 141, 142, 143, 144, 145, 146, 147, 148] (by decide +kernel) (by decide +kernel)
set_option maxRecDepth 20000 in
theorem gX12_order_X12_layTurn : GoodIn wsX12_order (wsV RX12 469 RX12 yX12_layTurn wsX12_layTurn) := goodIn_app (goodIn_of _ (by decide +kernel)) ggX12_order_X12_layTurn
set_option maxRecDepth 20000 in
theorem ggX12_order_X12_leastBy : GoodIn wsX12_order wsX12_leastBy := goodIn_r _ [65, 3, 5, 13, 66, 67, 68, 10, 69, 12, 70, 71, 72, 73, 74, 75, 76, 77, 78, 79, 80, 81, 82, 83, 84, 85, 86, 87, 88, 89, 90, 91, 92, 93, 94, 95, 96, 97, 98, 99, 100, 101, 102, 103, 104, 105, 106, 107, 108, 109, 110, 111, 112, 113, 114, 115, 116, 117, 118, 119, 120, 121, 122, 123, 124, 125, 126, 127, 128, 129, 130, 131, 132, 133, 134, 135, 136, 137, 138, 139, 140, 141, 142, 143, 144, 145, 146, 147, 148] (by decide +kernel) (by decide +kernel)
set_option maxRecDepth 20000 in
theorem gX12_order_X12_leastBy : GoodIn wsX12_order (wsV RX12 472 RX12 yX12_leastBy wsX12_leastBy) := goodIn_app (goodIn_of _ (by decide +kernel)) ggX12_order_X12_leastBy
theorem dX12_order_0 : decode cX12_order 0 = .ok (.aload_n 0, 1) := by decide +kernel
theorem dX12_order_1 : decode cX12_order 1 = .ok (.iconst 0, 1) := by decide +kernel
theorem dX12_order_2 : decode cX12_order 2 = .ok (.putfield 368, 3) := by decide +kernel
theorem dX12_order_5 : decode cX12_order 5 = .ok (.aload_n 0, 1) := by decide +kernel
theorem dX12_order_6 : decode cX12_order 6 = .ok (.invokevirtual 463, 3) := by decide +kernel
theorem dX12_order_9 : decode cX12_order 9 = .ok (.iconst 0, 1) := by decide +kernel
theorem dX12_order_10 : decode cX12_order 10 = .ok (.istore_n 1, 1) := by decide +kernel
theorem dX12_order_11 : decode cX12_order 11 = .ok (.iconst 0, 1) := by decide +kernel
theorem dX12_order_12 : decode cX12_order 12 = .ok (.istore_n 2, 1) := by decide +kernel
theorem dX12_order_13 : decode cX12_order 13 = .ok (.iconst 1, 1) := by decide +kernel
theorem dX12_order_14 : decode cX12_order 14 = .ok (.istore_n 3, 1) := by decide +kernel
theorem dX12_order_15 : decode cX12_order 15 = .ok (.iconst 0, 1) := by decide +kernel
theorem dX12_order_16 : decode cX12_order 16 = .ok (.istore 4, 2) := by decide +kernel
theorem dX12_order_18 : decode cX12_order 18 = .ok (.iload 4, 2) := by decide +kernel
theorem dX12_order_20 : decode cX12_order 20 = .ok (.aload_n 0, 1) := by decide +kernel
theorem dX12_order_21 : decode cX12_order 21 = .ok (.getfield 353, 3) := by decide +kernel
theorem dX12_order_24 : decode cX12_order 24 = .ok (.if_icmp .ge 36, 3) := by decide +kernel
theorem dX12_order_27 : decode cX12_order 27 = .ok (.aload_n 0, 1) := by decide +kernel
theorem dX12_order_28 : decode cX12_order 28 = .ok (.iload 4, 2) := by decide +kernel
theorem dX12_order_30 : decode cX12_order 30 = .ok (.invokevirtual 400, 3) := by decide +kernel
theorem dX12_order_33 : decode cX12_order 33 = .ok (.ifCond .lt 6, 3) := by decide +kernel
theorem dX12_order_36 : decode cX12_order 36 = .ok (.goto 18, 3) := by decide +kernel
theorem dX12_order_39 : decode cX12_order 39 = .ok (.iload_n 1, 1) := by decide +kernel
theorem dX12_order_40 : decode cX12_order 40 = .ok (.iconst 1, 1) := by decide +kernel
theorem dX12_order_41 : decode cX12_order 41 = .ok (.iload 4, 2) := by decide +kernel
theorem dX12_order_43 : decode cX12_order 43 = .ok (.ishl, 1) := by decide +kernel
theorem dX12_order_44 : decode cX12_order 44 = .ok (.ior, 1) := by decide +kernel
theorem dX12_order_45 : decode cX12_order 45 = .ok (.istore_n 1, 1) := by decide +kernel
theorem dX12_order_46 : decode cX12_order 46 = .ok (.iinc 2 1, 3) := by decide +kernel
theorem dX12_order_49 : decode cX12_order 49 = .ok (.iload_n 3, 1) := by decide +kernel
theorem dX12_order_50 : decode cX12_order 50 = .ok (.bipush 6, 2) := by decide +kernel
theorem dX12_order_52 : decode cX12_order 52 = .ok (.imul, 1) := by decide +kernel
theorem dX12_order_53 : decode cX12_order 53 = .ok (.istore_n 3, 1) := by decide +kernel
theorem dX12_order_54 : decode cX12_order 54 = .ok (.iinc 4 1, 3) := by decide +kernel
theorem dX12_order_57 : decode cX12_order 57 = .ok (.goto (-39), 3) := by decide +kernel
theorem dX12_order_60 : decode cX12_order 60 = .ok (.iload_n 2, 1) := by decide +kernel
theorem dX12_order_61 : decode cX12_order 61 = .ok (.ifCond .ne 7, 3) := by decide +kernel
theorem dX12_order_64 : decode cX12_order 64 = .ok (.ldc_w 406, 3) := by decide +kernel
theorem dX12_order_67 : decode cX12_order 67 = .ok (.ireturn, 1) := by decide +kernel
theorem dX12_order_68 : decode cX12_order 68 = .ok (.ldc_w 406, 3) := by decide +kernel
theorem dX12_order_71 : decode cX12_order 71 = .ok (.istore 4, 2) := by decide +kernel
theorem dX12_order_73 : decode cX12_order 73 = .ok (.iconst 0, 1) := by decide +kernel
theorem dX12_order_74 : decode cX12_order 74 = .ok (.istore 5, 2) := by decide +kernel
theorem dX12_order_76 : decode cX12_order 76 = .ok (.iconst 0, 1) := by decide +kernel
theorem dX12_order_77 : decode cX12_order 77 = .ok (.istore 6, 2) := by decide +kernel
theorem dX12_order_79 : decode cX12_order 79 = .ok (.iload 6, 2) := by decide +kernel
theorem dX12_order_81 : decode cX12_order 81 = .ok (.iload_n 3, 1) := by decide +kernel
theorem dX12_order_82 : decode cX12_order 82 = .ok (.if_icmp .ge 81, 3) := by decide +kernel
theorem dX12_order_85 : decode cX12_order 85 = .ok (.aload_n 0, 1) := by decide +kernel
theorem dX12_order_86 : decode cX12_order 86 = .ok (.iload_n 2, 1) := by decide +kernel
theorem dX12_order_87 : decode cX12_order 87 = .ok (.iload 6, 2) := by decide +kernel
theorem dX12_order_89 : decode cX12_order 89 = .ok (.iload_n 1, 1) := by decide +kernel
theorem dX12_order_90 : decode cX12_order 90 = .ok (.invokevirtual 469, 3) := by decide +kernel
theorem dX12_order_93 : decode cX12_order 93 = .ok (.ifCond .ne 6, 3) := by decide +kernel
theorem dX12_order_96 : decode cX12_order 96 = .ok (.goto 61, 3) := by decide +kernel
theorem dX12_order_99 : decode cX12_order 99 = .ok (.aload_n 0, 1) := by decide +kernel
theorem dX12_order_100 : decode cX12_order 100 = .ok (.iload_n 2, 1) := by decide +kernel
theorem dX12_order_101 : decode cX12_order 101 = .ok (.invokevirtual 472, 3) := by decide +kernel
theorem dX12_order_104 : decode cX12_order 104 = .ok (.istore 7, 2) := by decide +kernel
theorem dX12_order_106 : decode cX12_order 106 = .ok (.iload 5, 2) := by decide +kernel
theorem dX12_order_108 : decode cX12_order 108 = .ok (.ifCond .eq 13, 3) := by decide +kernel
theorem dX12_order_111 : decode cX12_order 111 = .ok (.iload 7, 2) := by decide +kernel
theorem dX12_order_113 : decode cX12_order 113 = .ok (.iload 4, 2) := by decide +kernel
theorem dX12_order_115 : decode cX12_order 115 = .ok (.if_icmp .gt 6, 3) := by decide +kernel
theorem dX12_order_118 : decode cX12_order 118 = .ok (.goto 39, 3) := by decide +kernel
theorem dX12_order_121 : decode cX12_order 121 = .ok (.iconst 1, 1) := by decide +kernel
theorem dX12_order_122 : decode cX12_order 122 = .ok (.istore 5, 2) := by decide +kernel
theorem dX12_order_124 : decode cX12_order 124 = .ok (.iload 7, 2) := by decide +kernel
theorem dX12_order_126 : decode cX12_order 126 = .ok (.istore 4, 2) := by decide +kernel
theorem dX12_order_128 : decode cX12_order 128 = .ok (.iconst 0, 1) := by decide +kernel
theorem dX12_order_129 : decode cX12_order 129 = .ok (.istore 8, 2) := by decide +kernel
theorem dX12_order_131 : decode cX12_order 131 = .ok (.iload 8, 2) := by decide +kernel
theorem dX12_order_133 : decode cX12_order 133 = .ok (.iload_n 2, 1) := by decide +kernel
theorem dX12_order_134 : decode cX12_order 134 = .ok (.if_icmp .ge 23, 3) := by decide +kernel
theorem dX12_order_137 : decode cX12_order 137 = .ok (.aload_n 0, 1) := by decide +kernel
theorem dX12_order_138 : decode cX12_order 138 = .ok (.getfield 112, 3) := by decide +kernel
theorem dX12_order_141 : decode cX12_order 141 = .ok (.iload 8, 2) := by decide +kernel
theorem dX12_order_143 : decode cX12_order 143 = .ok (.aload_n 0, 1) := by decide +kernel
theorem dX12_order_144 : decode cX12_order 144 = .ok (.getfield 109, 3) := by decide +kernel
theorem dX12_order_147 : decode cX12_order 147 = .ok (.iload 8, 2) := by decide +kernel
theorem dX12_order_149 : decode cX12_order 149 = .ok (.iaload, 1) := by decide +kernel
theorem dX12_order_150 : decode cX12_order 150 = .ok (.iastore, 1) := by decide +kernel
theorem dX12_order_151 : decode cX12_order 151 = .ok (.iinc 8 1, 3) := by decide +kernel
theorem dX12_order_154 : decode cX12_order 154 = .ok (.goto (-23), 3) := by decide +kernel
theorem dX12_order_157 : decode cX12_order 157 = .ok (.iinc 6 1, 3) := by decide +kernel
theorem dX12_order_160 : decode cX12_order 160 = .ok (.goto (-81), 3) := by decide +kernel
theorem dX12_order_163 : decode cX12_order 163 = .ok (.iconst 0, 1) := by decide +kernel
theorem dX12_order_164 : decode cX12_order 164 = .ok (.istore 6, 2) := by decide +kernel
theorem dX12_order_166 : decode cX12_order 166 = .ok (.iload 6, 2) := by decide +kernel
theorem dX12_order_168 : decode cX12_order 168 = .ok (.iload_n 2, 1) := by decide +kernel
theorem dX12_order_169 : decode cX12_order 169 = .ok (.if_icmp .ge 23, 3) := by decide +kernel
theorem dX12_order_172 : decode cX12_order 172 = .ok (.aload_n 0, 1) := by decide +kernel
theorem dX12_order_173 : decode cX12_order 173 = .ok (.getfield 115, 3) := by decide +kernel
theorem dX12_order_176 : decode cX12_order 176 = .ok (.iload 6, 2) := by decide +kernel
theorem dX12_order_178 : decode cX12_order 178 = .ok (.aload_n 0, 1) := by decide +kernel
theorem dX12_order_179 : decode cX12_order 179 = .ok (.getfield 112, 3) := by decide +kernel
theorem dX12_order_182 : decode cX12_order 182 = .ok (.iload 6, 2) := by decide +kernel
theorem dX12_order_184 : decode cX12_order 184 = .ok (.iaload, 1) := by decide +kernel
theorem dX12_order_185 : decode cX12_order 185 = .ok (.iastore, 1) := by decide +kernel
theorem dX12_order_186 : decode cX12_order 186 = .ok (.iinc 6 1, 3) := by decide +kernel
theorem dX12_order_189 : decode cX12_order 189 = .ok (.goto (-23), 3) := by decide +kernel
theorem dX12_order_192 : decode cX12_order 192 = .ok (.aload_n 0, 1) := by decide +kernel
theorem dX12_order_193 : decode cX12_order 193 = .ok (.iload_n 2, 1) := by decide +kernel
theorem dX12_order_194 : decode cX12_order 194 = .ok (.putfield 368, 3) := by decide +kernel
theorem dX12_order_197 : decode cX12_order 197 = .ok (.iload 4, 2) := by decide +kernel
theorem dX12_order_199 : decode cX12_order 199 = .ok (.ireturn, 1) := by decide +kernel
theorem dX12_isGrid_0 : decode cX12_isGrid 0 = .ok (.aload_n 0, 1) := by decide +kernel
theorem dX12_isGrid_1 : decode cX12_isGrid 1 = .ok (.getfield 61, 3) := by decide +kernel
theorem dX12_isGrid_4 : decode cX12_isGrid 4 = .ok (.iload_n 1, 1) := by decide +kernel
theorem dX12_isGrid_5 : decode cX12_isGrid 5 = .ok (.iaload, 1) := by decide +kernel
theorem dX12_isGrid_6 : decode cX12_isGrid 6 = .ok (.iload_n 2, 1) := by decide +kernel
theorem dX12_isGrid_7 : decode cX12_isGrid 7 = .ok (.irem, 1) := by decide +kernel
theorem dX12_isGrid_8 : decode cX12_isGrid 8 = .ok (.ifCond .ne 18, 3) := by decide +kernel
theorem dX12_isGrid_11 : decode cX12_isGrid 11 = .ok (.aload_n 0, 1) := by decide +kernel
theorem dX12_isGrid_12 : decode cX12_isGrid 12 = .ok (.getfield 64, 3) := by decide +kernel
theorem dX12_isGrid_15 : decode cX12_isGrid 15 = .ok (.iload_n 1, 1) := by decide +kernel
theorem dX12_isGrid_16 : decode cX12_isGrid 16 = .ok (.iaload, 1) := by decide +kernel
theorem dX12_isGrid_17 : decode cX12_isGrid 17 = .ok (.iload_n 3, 1) := by decide +kernel
theorem dX12_isGrid_18 : decode cX12_isGrid 18 = .ok (.irem, 1) := by decide +kernel
theorem dX12_isGrid_19 : decode cX12_isGrid 19 = .ok (.ifCond .ne 7, 3) := by decide +kernel
theorem dX12_isGrid_22 : decode cX12_isGrid 22 = .ok (.iconst 1, 1) := by decide +kernel
theorem dX12_isGrid_23 : decode cX12_isGrid 23 = .ok (.goto 4, 3) := by decide +kernel
theorem dX12_isGrid_26 : decode cX12_isGrid 26 = .ok (.iconst 0, 1) := by decide +kernel
theorem dX12_isGrid_27 : decode cX12_isGrid 27 = .ok (.ireturn, 1) := by decide +kernel
set_option maxRecDepth 20000 in
theorem ggX12_gridIcing_X12_truth : GoodIn wsX12_gridIcing wsX12_truth := goodIn_r _ [6] (by decide +kernel) (by decide +kernel)
set_option maxRecDepth 20000 in
theorem gX12_gridIcing_X12_truth : GoodIn wsX12_gridIcing (va_wsS RX12 302 yX12_truth wsX12_truth) := goodIn_app (goodIn_of _ (by decide +kernel)) ggX12_gridIcing_X12_truth
theorem dX12_gridIcing_0 : decode cX12_gridIcing 0 = .ok (.aload_n 0, 1) := by decide +kernel
theorem dX12_gridIcing_1 : decode cX12_gridIcing 1 = .ok (.getfield 61, 3) := by decide +kernel
theorem dX12_gridIcing_4 : decode cX12_gridIcing 4 = .ok (.iload_n 1, 1) := by decide +kernel
theorem dX12_gridIcing_5 : decode cX12_gridIcing 5 = .ok (.iaload, 1) := by decide +kernel
theorem dX12_gridIcing_6 : decode cX12_gridIcing 6 = .ok (.iload_n 2, 1) := by decide +kernel
theorem dX12_gridIcing_7 : decode cX12_gridIcing 7 = .ok (.idiv, 1) := by decide +kernel
theorem dX12_gridIcing_8 : decode cX12_gridIcing 8 = .ok (.iload 5, 2) := by decide +kernel
theorem dX12_gridIcing_10 : decode cX12_gridIcing 10 = .ok (.ifCond .ne 7, 3) := by decide +kernel
theorem dX12_gridIcing_13 : decode cX12_gridIcing 13 = .ok (.iconst 1, 1) := by decide +kernel
theorem dX12_gridIcing_14 : decode cX12_gridIcing 14 = .ok (.goto 4, 3) := by decide +kernel
theorem dX12_gridIcing_17 : decode cX12_gridIcing 17 = .ok (.iconst 0, 1) := by decide +kernel
theorem dX12_gridIcing_18 : decode cX12_gridIcing 18 = .ok (.invokestatic 302, 3) := by decide +kernel
theorem dX12_gridIcing_21 : decode cX12_gridIcing 21 = .ok (.iload 5, 2) := by decide +kernel
theorem dX12_gridIcing_23 : decode cX12_gridIcing 23 = .ok (.iload_n 3, 1) := by decide +kernel
theorem dX12_gridIcing_24 : decode cX12_gridIcing 24 = .ok (.iconst 1, 1) := by decide +kernel
theorem dX12_gridIcing_25 : decode cX12_gridIcing 25 = .ok (.isub, 1) := by decide +kernel
theorem dX12_gridIcing_26 : decode cX12_gridIcing 26 = .ok (.if_icmp .ne 7, 3) := by decide +kernel
theorem dX12_gridIcing_29 : decode cX12_gridIcing 29 = .ok (.iconst 1, 1) := by decide +kernel
theorem dX12_gridIcing_30 : decode cX12_gridIcing 30 = .ok (.goto 4, 3) := by decide +kernel
theorem dX12_gridIcing_33 : decode cX12_gridIcing 33 = .ok (.iconst 0, 1) := by decide +kernel
theorem dX12_gridIcing_34 : decode cX12_gridIcing 34 = .ok (.invokestatic 302, 3) := by decide +kernel
theorem dX12_gridIcing_37 : decode cX12_gridIcing 37 = .ok (.iadd, 1) := by decide +kernel
theorem dX12_gridIcing_38 : decode cX12_gridIcing 38 = .ok (.imul, 1) := by decide +kernel
theorem dX12_gridIcing_39 : decode cX12_gridIcing 39 = .ok (.aload_n 0, 1) := by decide +kernel
theorem dX12_gridIcing_40 : decode cX12_gridIcing 40 = .ok (.getfield 64, 3) := by decide +kernel
theorem dX12_gridIcing_43 : decode cX12_gridIcing 43 = .ok (.iload_n 1, 1) := by decide +kernel
theorem dX12_gridIcing_44 : decode cX12_gridIcing 44 = .ok (.iaload, 1) := by decide +kernel
theorem dX12_gridIcing_45 : decode cX12_gridIcing 45 = .ok (.iload_n 3, 1) := by decide +kernel
theorem dX12_gridIcing_46 : decode cX12_gridIcing 46 = .ok (.idiv, 1) := by decide +kernel
theorem dX12_gridIcing_47 : decode cX12_gridIcing 47 = .ok (.iload 4, 2) := by decide +kernel
theorem dX12_gridIcing_49 : decode cX12_gridIcing 49 = .ok (.ifCond .ne 7, 3) := by decide +kernel
theorem dX12_gridIcing_52 : decode cX12_gridIcing 52 = .ok (.iconst 1, 1) := by decide +kernel
theorem dX12_gridIcing_53 : decode cX12_gridIcing 53 = .ok (.goto 4, 3) := by decide +kernel
theorem dX12_gridIcing_56 : decode cX12_gridIcing 56 = .ok (.iconst 0, 1) := by decide +kernel
theorem dX12_gridIcing_57 : decode cX12_gridIcing 57 = .ok (.invokestatic 302, 3) := by decide +kernel
theorem dX12_gridIcing_60 : decode cX12_gridIcing 60 = .ok (.iload 4, 2) := by decide +kernel
theorem dX12_gridIcing_62 : decode cX12_gridIcing 62 = .ok (.iload_n 2, 1) := by decide +kernel
theorem dX12_gridIcing_63 : decode cX12_gridIcing 63 = .ok (.iconst 1, 1) := by decide +kernel
theorem dX12_gridIcing_64 : decode cX12_gridIcing 64 = .ok (.isub, 1) := by decide +kernel
theorem dX12_gridIcing_65 : decode cX12_gridIcing 65 = .ok (.if_icmp .ne 7, 3) := by decide +kernel
theorem dX12_gridIcing_68 : decode cX12_gridIcing 68 = .ok (.iconst 1, 1) := by decide +kernel
theorem dX12_gridIcing_69 : decode cX12_gridIcing 69 = .ok (.goto 4, 3) := by decide +kernel
theorem dX12_gridIcing_72 : decode cX12_gridIcing 72 = .ok (.iconst 0, 1) := by decide +kernel
theorem dX12_gridIcing_73 : decode cX12_gridIcing 73 = .ok (.invokestatic 302, 3) := by decide +kernel
theorem dX12_gridIcing_76 : decode cX12_gridIcing 76 = .ok (.iadd, 1) := by decide +kernel
theorem dX12_gridIcing_77 : decode cX12_gridIcing 77 = .ok (.imul, 1) := by decide +kernel
theorem dX12_gridIcing_78 : decode cX12_gridIcing 78 = .ok (.iadd, 1) := by decide +kernel
theorem dX12_gridIcing_79 : decode cX12_gridIcing 79 = .ok (.ireturn, 1) := by decide +kernel
set_option maxRecDepth 20000 in
theorem ggX12_gridUneven_X12_gridIcing : GoodIn wsX12_gridUneven wsX12_gridIcing := goodIn_r _ [5, 6, 7, 8, 9, 4, 10, 11, 12, 13, 14, 15, 16, 17, 18, 19, 20, 21, 22, 23, 24, 25, 26, 27, 28, 29, 30, 31, 32, 33, 34, 35, 36, 37, 38, 39, 40, 41, 42, 43, 44, 45, 46, 47, 48, 49, 50, 51, 52, 53, 54, 55, 56, 57, 58, 59, 60, 61, 62, 63, 64, 65, 66, 67, 68, 69, 70, 71, 72, 73, 74, 75, 76, 77, 78, 79, 80, 81, 82, 83, 84, 85] (by decide +kernel) (by decide +kernel)
set_option maxRecDepth 20000 in
theorem gX12_gridUneven_X12_gridIcing : GoodIn wsX12_gridUneven (wsV RX12 475 RX12 yX12_gridIcing wsX12_gridIcing) := goodIn_app (goodIn_of _ (by decide +kernel)) ggX12_gridUneven_X12_gridIcing
theorem dX12_gridUneven_0 : decode cX12_gridUneven 0 = .ok (.bipush 33, 2) := by decide +kernel
theorem dX12_gridUneven_2 : decode cX12_gridUneven 2 = .ok (.istore 4, 2) := by decide +kernel
theorem dX12_gridUneven_4 : decode cX12_gridUneven 4 = .ok (.iconst 0, 1) := by decide +kernel
theorem dX12_gridUneven_5 : decode cX12_gridUneven 5 = .ok (.istore 5, 2) := by decide +kernel
theorem dX12_gridUneven_7 : decode cX12_gridUneven 7 = .ok (.iconst 0, 1) := by decide +kernel
theorem dX12_gridUneven_8 : decode cX12_gridUneven 8 = .ok (.istore 6, 2) := by decide +kernel
theorem dX12_gridUneven_10 : decode cX12_gridUneven 10 = .ok (.iload 6, 2) := by decide +kernel
theorem dX12_gridUneven_12 : decode cX12_gridUneven 12 = .ok (.iload_n 2, 1) := by decide +kernel
theorem dX12_gridUneven_13 : decode cX12_gridUneven 13 = .ok (.if_icmp .ge 69, 3) := by decide +kernel
theorem dX12_gridUneven_16 : decode cX12_gridUneven 16 = .ok (.iconst 0, 1) := by decide +kernel
theorem dX12_gridUneven_17 : decode cX12_gridUneven 17 = .ok (.istore 7, 2) := by decide +kernel
theorem dX12_gridUneven_19 : decode cX12_gridUneven 19 = .ok (.iload 7, 2) := by decide +kernel
theorem dX12_gridUneven_21 : decode cX12_gridUneven 21 = .ok (.iload_n 3, 1) := by decide +kernel
theorem dX12_gridUneven_22 : decode cX12_gridUneven 22 = .ok (.if_icmp .ge 54, 3) := by decide +kernel
theorem dX12_gridUneven_25 : decode cX12_gridUneven 25 = .ok (.aload_n 0, 1) := by decide +kernel
theorem dX12_gridUneven_26 : decode cX12_gridUneven 26 = .ok (.iload_n 1, 1) := by decide +kernel
theorem dX12_gridUneven_27 : decode cX12_gridUneven 27 = .ok (.iload_n 2, 1) := by decide +kernel
theorem dX12_gridUneven_28 : decode cX12_gridUneven 28 = .ok (.iload_n 3, 1) := by decide +kernel
theorem dX12_gridUneven_29 : decode cX12_gridUneven 29 = .ok (.iload 6, 2) := by decide +kernel
theorem dX12_gridUneven_31 : decode cX12_gridUneven 31 = .ok (.iload 7, 2) := by decide +kernel
theorem dX12_gridUneven_33 : decode cX12_gridUneven 33 = .ok (.invokevirtual 475, 3) := by decide +kernel
theorem dX12_gridUneven_36 : decode cX12_gridUneven 36 = .ok (.istore 8, 2) := by decide +kernel
theorem dX12_gridUneven_38 : decode cX12_gridUneven 38 = .ok (.iload 8, 2) := by decide +kernel
theorem dX12_gridUneven_40 : decode cX12_gridUneven 40 = .ok (.iload 4, 2) := by decide +kernel
theorem dX12_gridUneven_42 : decode cX12_gridUneven 42 = .ok (.if_icmp .ge 8, 3) := by decide +kernel
theorem dX12_gridUneven_45 : decode cX12_gridUneven 45 = .ok (.iload 8, 2) := by decide +kernel
theorem dX12_gridUneven_47 : decode cX12_gridUneven 47 = .ok (.goto 5, 3) := by decide +kernel
theorem dX12_gridUneven_50 : decode cX12_gridUneven 50 = .ok (.iload 4, 2) := by decide +kernel
theorem dX12_gridUneven_52 : decode cX12_gridUneven 52 = .ok (.istore 4, 2) := by decide +kernel
theorem dX12_gridUneven_54 : decode cX12_gridUneven 54 = .ok (.iload 8, 2) := by decide +kernel
theorem dX12_gridUneven_56 : decode cX12_gridUneven 56 = .ok (.iload 5, 2) := by decide +kernel
theorem dX12_gridUneven_58 : decode cX12_gridUneven 58 = .ok (.if_icmp .le 8, 3) := by decide +kernel
theorem dX12_gridUneven_61 : decode cX12_gridUneven 61 = .ok (.iload 8, 2) := by decide +kernel
theorem dX12_gridUneven_63 : decode cX12_gridUneven 63 = .ok (.goto 5, 3) := by decide +kernel
theorem dX12_gridUneven_66 : decode cX12_gridUneven 66 = .ok (.iload 5, 2) := by decide +kernel
theorem dX12_gridUneven_68 : decode cX12_gridUneven 68 = .ok (.istore 5, 2) := by decide +kernel
theorem dX12_gridUneven_70 : decode cX12_gridUneven 70 = .ok (.iinc 7 1, 3) := by decide +kernel
theorem dX12_gridUneven_73 : decode cX12_gridUneven 73 = .ok (.goto (-54), 3) := by decide +kernel
theorem dX12_gridUneven_76 : decode cX12_gridUneven 76 = .ok (.iinc 6 1, 3) := by decide +kernel
theorem dX12_gridUneven_79 : decode cX12_gridUneven 79 = .ok (.goto (-69), 3) := by decide +kernel
theorem dX12_gridUneven_82 : decode cX12_gridUneven 82 = .ok (.iload 5, 2) := by decide +kernel
theorem dX12_gridUneven_84 : decode cX12_gridUneven 84 = .ok (.iload 4, 2) := by decide +kernel
theorem dX12_gridUneven_86 : decode cX12_gridUneven 86 = .ok (.isub, 1) := by decide +kernel
theorem dX12_gridUneven_87 : decode cX12_gridUneven 87 = .ok (.ireturn, 1) := by decide +kernel
set_option maxRecDepth 20000 in
theorem ggX12_grid_X12_isTier : GoodIn wsX12_grid wsX12_isTier := goodIn_r _ [5, 6, 7, 8, 4, 9, 27, 28, 29, 30, 31, 32, 33, 34, 35, 36, 37, 38, 39, 40, 41, 42, 43, 44, 45, 46, 47, 48, 49, 50, 51, 52, 53, 54, 55, 56, 57, 58, 59, 60, 61, 62, 63, 64, 65, 66, 67, 68, 69, 70, 71, 72, 73, 74, 75, 76, 77, 78, 79, 80, 81, 82, 83, 84, 85, 86, 87, 88, 89, 90, 91, 92, 93, 94, 95, 96, 97, 98, 99, 100, 101] (by decide +kernel) (by decide +kernel)
set_option maxRecDepth 20000 in
theorem gX12_grid_X12_isTier : GoodIn wsX12_grid (wsV RX12 479 RX12 yX12_isTier wsX12_isTier) := goodIn_app (goodIn_of _ (by decide +kernel)) ggX12_grid_X12_isTier
set_option maxRecDepth 20000 in
theorem ggX12_grid_X12_isIn : GoodIn wsX12_grid wsX12_isIn := goodIn_r _ [9] (by decide +kernel) (by decide +kernel)
set_option maxRecDepth 20000 in
theorem gX12_grid_X12_isIn : GoodIn wsX12_grid (va_wsS RX12 371 yX12_isIn wsX12_isIn) := goodIn_app (goodIn_of _ (by decide +kernel)) ggX12_grid_X12_isIn
set_option maxRecDepth 20000 in
theorem ggX12_grid_X12_isGrid : GoodIn wsX12_grid wsX12_isGrid := goodIn_r _ [13, 14, 15, 27, 28, 29, 30, 31, 32, 33, 34, 35, 36, 37, 38, 39, 40, 41, 42, 43, 44, 45, 46, 47, 48, 49, 50, 51, 52, 53, 54, 55, 56, 57, 58, 59, 60, 61, 62, 63, 64, 65, 66, 67, 68, 69, 70, 71, 72, 73, 74, 75, 76, 77, 78, 79, 80, 81, 82, 83, 84, 85, 86, 87, 88, 89, 90, 91, 92, 93, 94, 95, 96, 97, 98, 99, 100, 101] (by decide +kernel) (by decide +kernel)
set_option maxRecDepth 20000 in
theorem gX12_grid_X12_isGrid : GoodIn wsX12_grid (wsV RX12 482 RX12 yX12_isGrid wsX12_isGrid) := goodIn_app (goodIn_of _ (by decide +kernel)) ggX12_grid_X12_isGrid
set_option maxRecDepth 20000 in
theorem ggX12_grid_X12_gridUneven : GoodIn wsX12_grid wsX12_gridUneven := goodIn_r _ [19, 20, 21, 22, 4, 23, 14, 15, 24, 25, 26, 27, 28, 29, 30, 31, 32, 33, 34, 35, 36, 37, 38, 39, 40, 41, 42, 43, 44, 45, 46, 47, 48, 49, 50, 51, 52, 53, 54, 55, 56, 57, 58, 59, 60, 61, 62, 63, 64, 65, 66, 67, 68, 69, 70, 71, 72, 73, 74, 75, 76, 77, 78, 79, 80, 81, 82, 83, 84, 85, 86, 87, 88, 89, 90, 91, 92, 93, 94, 95, 96, 97, 98, 99, 100, 101] (by decide +kernel) (by decide +kernel)
set_option maxRecDepth 20000 in
theorem gX12_grid_X12_gridUneven : GoodIn wsX12_grid (wsV RX12 485 RX12 yX12_gridUneven wsX12_gridUneven) := goodIn_app (goodIn_of _ (by decide +kernel)) ggX12_grid_X12_gridUneven
theorem dX12_grid_0 : decode cX12_grid 0 = .ok (.aload_n 0, 1) := by decide +kernel
theorem dX12_grid_1 : decode cX12_grid 1 = .ok (.iload_n 1, 1) := by decide +kernel
theorem dX12_grid_2 : decode cX12_grid 2 = .ok (.invokevirtual 479, 3) := by decide +kernel
theorem dX12_grid_5 : decode cX12_grid 5 = .ok (.ifCond .eq 22, 3) := by decide +kernel
theorem dX12_grid_8 : decode cX12_grid 8 = .ok (.iload_n 2, 1) := by decide +kernel
theorem dX12_grid_9 : decode cX12_grid 9 = .ok (.iconst 1, 1) := by decide +kernel
theorem dX12_grid_10 : decode cX12_grid 10 = .ok (.bipush 64, 2) := by decide +kernel
theorem dX12_grid_12 : decode cX12_grid 12 = .ok (.invokestatic 371, 3) := by decide +kernel
theorem dX12_grid_15 : decode cX12_grid 15 = .ok (.ifCond .eq 12, 3) := by decide +kernel
theorem dX12_grid_18 : decode cX12_grid 18 = .ok (.iload_n 3, 1) := by decide +kernel
theorem dX12_grid_19 : decode cX12_grid 19 = .ok (.iconst 0, 1) := by decide +kernel
theorem dX12_grid_20 : decode cX12_grid 20 = .ok (.iconst 3, 1) := by decide +kernel
theorem dX12_grid_21 : decode cX12_grid 21 = .ok (.invokestatic 371, 3) := by decide +kernel
theorem dX12_grid_24 : decode cX12_grid 24 = .ok (.ifCond .ne 5, 3) := by decide +kernel
theorem dX12_grid_27 : decode cX12_grid 27 = .ok (.iconst (-1), 1) := by decide +kernel
theorem dX12_grid_28 : decode cX12_grid 28 = .ok (.ireturn, 1) := by decide +kernel
theorem dX12_grid_29 : decode cX12_grid 29 = .ok (.iconst (-1), 1) := by decide +kernel
theorem dX12_grid_30 : decode cX12_grid 30 = .ok (.istore 4, 2) := by decide +kernel
theorem dX12_grid_32 : decode cX12_grid 32 = .ok (.iconst 1, 1) := by decide +kernel
theorem dX12_grid_33 : decode cX12_grid 33 = .ok (.istore 5, 2) := by decide +kernel
theorem dX12_grid_35 : decode cX12_grid 35 = .ok (.iload 5, 2) := by decide +kernel
theorem dX12_grid_37 : decode cX12_grid 37 = .ok (.bipush 8, 2) := by decide +kernel
theorem dX12_grid_39 : decode cX12_grid 39 = .ok (.if_icmp .gt 107, 3) := by decide +kernel
theorem dX12_grid_42 : decode cX12_grid 42 = .ok (.iload_n 2, 1) := by decide +kernel
theorem dX12_grid_43 : decode cX12_grid 43 = .ok (.iload 5, 2) := by decide +kernel
theorem dX12_grid_45 : decode cX12_grid 45 = .ok (.idiv, 1) := by decide +kernel
theorem dX12_grid_46 : decode cX12_grid 46 = .ok (.istore 6, 2) := by decide +kernel
theorem dX12_grid_48 : decode cX12_grid 48 = .ok (.iload 5, 2) := by decide +kernel
theorem dX12_grid_50 : decode cX12_grid 50 = .ok (.iload 6, 2) := by decide +kernel
theorem dX12_grid_52 : decode cX12_grid 52 = .ok (.imul, 1) := by decide +kernel
theorem dX12_grid_53 : decode cX12_grid 53 = .ok (.iload_n 2, 1) := by decide +kernel
theorem dX12_grid_54 : decode cX12_grid 54 = .ok (.if_icmp .ne 86, 3) := by decide +kernel
theorem dX12_grid_57 : decode cX12_grid 57 = .ok (.iload 6, 2) := by decide +kernel
theorem dX12_grid_59 : decode cX12_grid 59 = .ok (.bipush 8, 2) := by decide +kernel
theorem dX12_grid_61 : decode cX12_grid 61 = .ok (.if_icmp .gt 79, 3) := by decide +kernel
theorem dX12_grid_64 : decode cX12_grid 64 = .ok (.aload_n 0, 1) := by decide +kernel
theorem dX12_grid_65 : decode cX12_grid 65 = .ok (.iload_n 1, 1) := by decide +kernel
theorem dX12_grid_66 : decode cX12_grid 66 = .ok (.iload 5, 2) := by decide +kernel
theorem dX12_grid_68 : decode cX12_grid 68 = .ok (.iload 6, 2) := by decide +kernel
theorem dX12_grid_70 : decode cX12_grid 70 = .ok (.invokevirtual 482, 3) := by decide +kernel
theorem dX12_grid_73 : decode cX12_grid 73 = .ok (.ifCond .ne 6, 3) := by decide +kernel
theorem dX12_grid_76 : decode cX12_grid 76 = .ok (.goto 64, 3) := by decide +kernel
theorem dX12_grid_79 : decode cX12_grid 79 = .ok (.iload 4, 2) := by decide +kernel
theorem dX12_grid_81 : decode cX12_grid 81 = .ok (.ifCond .ge 7, 3) := by decide +kernel
theorem dX12_grid_84 : decode cX12_grid 84 = .ok (.iconst (-1), 1) := by decide +kernel
theorem dX12_grid_85 : decode cX12_grid 85 = .ok (.goto 16, 3) := by decide +kernel
theorem dX12_grid_88 : decode cX12_grid 88 = .ok (.iload 5, 2) := by decide +kernel
theorem dX12_grid_90 : decode cX12_grid 90 = .ok (.iload 6, 2) := by decide +kernel
theorem dX12_grid_92 : decode cX12_grid 92 = .ok (.iadd, 1) := by decide +kernel
theorem dX12_grid_93 : decode cX12_grid 93 = .ok (.iload 4, 2) := by decide +kernel
theorem dX12_grid_95 : decode cX12_grid 95 = .ok (.isub, 1) := by decide +kernel
theorem dX12_grid_96 : decode cX12_grid 96 = .ok (.iload_n 2, 1) := by decide +kernel
theorem dX12_grid_97 : decode cX12_grid 97 = .ok (.iload 4, 2) := by decide +kernel
theorem dX12_grid_99 : decode cX12_grid 99 = .ok (.idiv, 1) := by decide +kernel
theorem dX12_grid_100 : decode cX12_grid 100 = .ok (.isub, 1) := by decide +kernel
theorem dX12_grid_101 : decode cX12_grid 101 = .ok (.istore 7, 2) := by decide +kernel
theorem dX12_grid_103 : decode cX12_grid 103 = .ok (.iload 7, 2) := by decide +kernel
theorem dX12_grid_105 : decode cX12_grid 105 = .ok (.ifCond .lt 31, 3) := by decide +kernel
theorem dX12_grid_108 : decode cX12_grid 108 = .ok (.iload 7, 2) := by decide +kernel
theorem dX12_grid_110 : decode cX12_grid 110 = .ok (.ifCond .ne 30, 3) := by decide +kernel
theorem dX12_grid_113 : decode cX12_grid 113 = .ok (.aload_n 0, 1) := by decide +kernel
theorem dX12_grid_114 : decode cX12_grid 114 = .ok (.iload_n 1, 1) := by decide +kernel
theorem dX12_grid_115 : decode cX12_grid 115 = .ok (.iload 5, 2) := by decide +kernel
theorem dX12_grid_117 : decode cX12_grid 117 = .ok (.iload 6, 2) := by decide +kernel
theorem dX12_grid_119 : decode cX12_grid 119 = .ok (.invokevirtual 485, 3) := by decide +kernel
theorem dX12_grid_122 : decode cX12_grid 122 = .ok (.aload_n 0, 1) := by decide +kernel
theorem dX12_grid_123 : decode cX12_grid 123 = .ok (.iload_n 1, 1) := by decide +kernel
theorem dX12_grid_124 : decode cX12_grid 124 = .ok (.iload 4, 2) := by decide +kernel
theorem dX12_grid_126 : decode cX12_grid 126 = .ok (.iload_n 2, 1) := by decide +kernel
theorem dX12_grid_127 : decode cX12_grid 127 = .ok (.iload 4, 2) := by decide +kernel
theorem dX12_grid_129 : decode cX12_grid 129 = .ok (.idiv, 1) := by decide +kernel
theorem dX12_grid_130 : decode cX12_grid 130 = .ok (.invokevirtual 485, 3) := by decide +kernel
theorem dX12_grid_133 : decode cX12_grid 133 = .ok (.if_icmp .ge 7, 3) := by decide +kernel
theorem dX12_grid_136 : decode cX12_grid 136 = .ok (.iload 5, 2) := by decide +kernel
theorem dX12_grid_138 : decode cX12_grid 138 = .ok (.istore 4, 2) := by decide +kernel
theorem dX12_grid_140 : decode cX12_grid 140 = .ok (.iinc 5 1, 3) := by decide +kernel
theorem dX12_grid_143 : decode cX12_grid 143 = .ok (.goto (-108), 3) := by decide +kernel
theorem dX12_grid_146 : decode cX12_grid 146 = .ok (.iload 4, 2) := by decide +kernel
theorem dX12_grid_148 : decode cX12_grid 148 = .ok (.ifCond .ge 5, 3) := by decide +kernel
theorem dX12_grid_151 : decode cX12_grid 151 = .ok (.iconst (-1), 1) := by decide +kernel
theorem dX12_grid_152 : decode cX12_grid 152 = .ok (.ireturn, 1) := by decide +kernel
theorem dX12_grid_153 : decode cX12_grid 153 = .ok (.iload_n 2, 1) := by decide +kernel
theorem dX12_grid_154 : decode cX12_grid 154 = .ok (.iload 4, 2) := by decide +kernel
theorem dX12_grid_156 : decode cX12_grid 156 = .ok (.idiv, 1) := by decide +kernel
theorem dX12_grid_157 : decode cX12_grid 157 = .ok (.istore 5, 2) := by decide +kernel
theorem dX12_grid_159 : decode cX12_grid 159 = .ok (.iload_n 3, 1) := by decide +kernel
theorem dX12_grid_160 : decode cX12_grid 160 = .ok (.ifCond .ne 8, 3) := by decide +kernel
theorem dX12_grid_163 : decode cX12_grid 163 = .ok (.iload 4, 2) := by decide +kernel
theorem dX12_grid_165 : decode cX12_grid 165 = .ok (.goto 37, 3) := by decide +kernel
theorem dX12_grid_168 : decode cX12_grid 168 = .ok (.iload_n 3, 1) := by decide +kernel
theorem dX12_grid_169 : decode cX12_grid 169 = .ok (.iconst 1, 1) := by decide +kernel
theorem dX12_grid_170 : decode cX12_grid 170 = .ok (.if_icmp .ne 8, 3) := by decide +kernel
theorem dX12_grid_173 : decode cX12_grid 173 = .ok (.iload 5, 2) := by decide +kernel
theorem dX12_grid_175 : decode cX12_grid 175 = .ok (.goto 27, 3) := by decide +kernel
theorem dX12_grid_178 : decode cX12_grid 178 = .ok (.iload_n 3, 1) := by decide +kernel
theorem dX12_grid_179 : decode cX12_grid 179 = .ok (.iconst 2, 1) := by decide +kernel
theorem dX12_grid_180 : decode cX12_grid 180 = .ok (.if_icmp .ne 13, 3) := by decide +kernel
theorem dX12_grid_183 : decode cX12_grid 183 = .ok (.iload 4, 2) := by decide +kernel
theorem dX12_grid_185 : decode cX12_grid 185 = .ok (.iload 5, 2) := by decide +kernel
theorem dX12_grid_187 : decode cX12_grid 187 = .ok (.iadd, 1) := by decide +kernel
theorem dX12_grid_188 : decode cX12_grid 188 = .ok (.iconst 2, 1) := by decide +kernel
theorem dX12_grid_189 : decode cX12_grid 189 = .ok (.isub, 1) := by decide +kernel
theorem dX12_grid_190 : decode cX12_grid 190 = .ok (.goto 12, 3) := by decide +kernel
theorem dX12_grid_193 : decode cX12_grid 193 = .ok (.aload_n 0, 1) := by decide +kernel
theorem dX12_grid_194 : decode cX12_grid 194 = .ok (.iload_n 1, 1) := by decide +kernel
theorem dX12_grid_195 : decode cX12_grid 195 = .ok (.iload 4, 2) := by decide +kernel
theorem dX12_grid_197 : decode cX12_grid 197 = .ok (.iload 5, 2) := by decide +kernel
theorem dX12_grid_199 : decode cX12_grid 199 = .ok (.invokevirtual 485, 3) := by decide +kernel
theorem dX12_grid_202 : decode cX12_grid 202 = .ok (.ireturn, 1) := by decide +kernel
set_option maxRecDepth 20000 in
theorem ggX12_ways_X12_isTier : GoodIn wsX12_ways wsX12_isTier := goodIn_r _ [5, 6, 7, 8, 4, 9, 19, 20, 21, 22, 23, 24, 25, 26, 27, 28, 29, 30, 31, 32, 33, 34, 35, 36, 37, 38, 39, 40, 41, 42, 43, 44, 45, 46, 47, 48, 49, 50, 51, 52, 53, 54, 55, 56, 57, 58, 59, 60, 61, 62, 63, 64, 65, 66, 67, 68, 69, 70, 71, 72, 73, 74, 75, 76, 77, 78, 79, 80, 81, 82, 83, 84, 85, 86, 87, 88, 89, 90, 91, 92, 93] (by decide +kernel) (by decide +kernel)
set_option maxRecDepth 20000 in
theorem gX12_ways_X12_isTier : GoodIn wsX12_ways (wsV RX12 479 RX12 yX12_isTier wsX12_isTier) := goodIn_app (goodIn_of _ (by decide +kernel)) ggX12_ways_X12_isTier
set_option maxRecDepth 20000 in
theorem ggX12_ways_X12_isIn : GoodIn wsX12_ways wsX12_isIn := goodIn_r _ [9] (by decide +kernel) (by decide +kernel)
set_option maxRecDepth 20000 in
theorem gX12_ways_X12_isIn : GoodIn wsX12_ways (va_wsS RX12 371 yX12_isIn wsX12_isIn) := goodIn_app (goodIn_of _ (by decide +kernel)) ggX12_ways_X12_isIn
set_option maxRecDepth 20000 in
theorem ggX12_ways_X12_isGrid : GoodIn wsX12_ways wsX12_isGrid := goodIn_r _ [13, 14, 15, 19, 20, 21, 22, 23, 24, 25, 26, 27, 28, 29, 30, 31, 32, 33, 34, 35, 36, 37, 38, 39, 40, 41, 42, 43, 44, 45, 46, 47, 48, 49, 50, 51, 52, 53, 54, 55, 56, 57, 58, 59, 60, 61, 62, 63, 64, 65, 66, 67, 68, 69, 70, 71, 72, 73, 74, 75, 76, 77, 78, 79, 80, 81, 82, 83, 84, 85, 86, 87, 88, 89, 90, 91, 92, 93] (by decide +kernel) (by decide +kernel)
set_option maxRecDepth 20000 in
theorem gX12_ways_X12_isGrid : GoodIn wsX12_ways (wsV RX12 482 RX12 yX12_isGrid wsX12_isGrid) := goodIn_app (goodIn_of _ (by decide +kernel)) ggX12_ways_X12_isGrid
set_option maxRecDepth 20000 in
theorem ggX12_ways_X12_truth : GoodIn wsX12_ways wsX12_truth := goodIn_r _ [18] (by decide +kernel) (by decide +kernel)
set_option maxRecDepth 20000 in
theorem gX12_ways_X12_truth : GoodIn wsX12_ways (va_wsS RX12 302 yX12_truth wsX12_truth) := goodIn_app (goodIn_of _ (by decide +kernel)) ggX12_ways_X12_truth
theorem dX12_ways_0 : decode cX12_ways 0 = .ok (.aload_n 0, 1) := by decide +kernel
theorem dX12_ways_1 : decode cX12_ways 1 = .ok (.iload_n 1, 1) := by decide +kernel
theorem dX12_ways_2 : decode cX12_ways 2 = .ok (.invokevirtual 479, 3) := by decide +kernel
theorem dX12_ways_5 : decode cX12_ways 5 = .ok (.ifCond .eq 13, 3) := by decide +kernel
theorem dX12_ways_8 : decode cX12_ways 8 = .ok (.iload_n 2, 1) := by decide +kernel
theorem dX12_ways_9 : decode cX12_ways 9 = .ok (.iconst 1, 1) := by decide +kernel
theorem dX12_ways_10 : decode cX12_ways 10 = .ok (.bipush 64, 2) := by decide +kernel
theorem dX12_ways_12 : decode cX12_ways 12 = .ok (.invokestatic 371, 3) := by decide +kernel
theorem dX12_ways_15 : decode cX12_ways 15 = .ok (.ifCond .ne 5, 3) := by decide +kernel
theorem dX12_ways_18 : decode cX12_ways 18 = .ok (.iconst (-1), 1) := by decide +kernel
theorem dX12_ways_19 : decode cX12_ways 19 = .ok (.ireturn, 1) := by decide +kernel
theorem dX12_ways_20 : decode cX12_ways 20 = .ok (.iconst 0, 1) := by decide +kernel
theorem dX12_ways_21 : decode cX12_ways 21 = .ok (.istore_n 3, 1) := by decide +kernel
theorem dX12_ways_22 : decode cX12_ways 22 = .ok (.iconst 1, 1) := by decide +kernel
theorem dX12_ways_23 : decode cX12_ways 23 = .ok (.istore 4, 2) := by decide +kernel
theorem dX12_ways_25 : decode cX12_ways 25 = .ok (.iload 4, 2) := by decide +kernel
theorem dX12_ways_27 : decode cX12_ways 27 = .ok (.bipush 8, 2) := by decide +kernel
theorem dX12_ways_29 : decode cX12_ways 29 = .ok (.if_icmp .gt 57, 3) := by decide +kernel
theorem dX12_ways_32 : decode cX12_ways 32 = .ok (.iconst 1, 1) := by decide +kernel
theorem dX12_ways_33 : decode cX12_ways 33 = .ok (.istore 5, 2) := by decide +kernel
theorem dX12_ways_35 : decode cX12_ways 35 = .ok (.iload 5, 2) := by decide +kernel
theorem dX12_ways_37 : decode cX12_ways 37 = .ok (.bipush 8, 2) := by decide +kernel
theorem dX12_ways_39 : decode cX12_ways 39 = .ok (.if_icmp .gt 41, 3) := by decide +kernel
theorem dX12_ways_42 : decode cX12_ways 42 = .ok (.iload_n 3, 1) := by decide +kernel
theorem dX12_ways_43 : decode cX12_ways 43 = .ok (.iload 4, 2) := by decide +kernel
theorem dX12_ways_45 : decode cX12_ways 45 = .ok (.iload 5, 2) := by decide +kernel
theorem dX12_ways_47 : decode cX12_ways 47 = .ok (.imul, 1) := by decide +kernel
theorem dX12_ways_48 : decode cX12_ways 48 = .ok (.iload_n 2, 1) := by decide +kernel
theorem dX12_ways_49 : decode cX12_ways 49 = .ok (.if_icmp .ne 19, 3) := by decide +kernel
theorem dX12_ways_52 : decode cX12_ways 52 = .ok (.aload_n 0, 1) := by decide +kernel
theorem dX12_ways_53 : decode cX12_ways 53 = .ok (.iload_n 1, 1) := by decide +kernel
theorem dX12_ways_54 : decode cX12_ways 54 = .ok (.iload 4, 2) := by decide +kernel
theorem dX12_ways_56 : decode cX12_ways 56 = .ok (.iload 5, 2) := by decide +kernel
theorem dX12_ways_58 : decode cX12_ways 58 = .ok (.invokevirtual 482, 3) := by decide +kernel
theorem dX12_ways_61 : decode cX12_ways 61 = .ok (.ifCond .eq 7, 3) := by decide +kernel
theorem dX12_ways_64 : decode cX12_ways 64 = .ok (.iconst 1, 1) := by decide +kernel
theorem dX12_ways_65 : decode cX12_ways 65 = .ok (.goto 4, 3) := by decide +kernel
theorem dX12_ways_68 : decode cX12_ways 68 = .ok (.iconst 0, 1) := by decide +kernel
theorem dX12_ways_69 : decode cX12_ways 69 = .ok (.invokestatic 302, 3) := by decide +kernel
theorem dX12_ways_72 : decode cX12_ways 72 = .ok (.iadd, 1) := by decide +kernel
theorem dX12_ways_73 : decode cX12_ways 73 = .ok (.istore_n 3, 1) := by decide +kernel
theorem dX12_ways_74 : decode cX12_ways 74 = .ok (.iinc 5 1, 3) := by decide +kernel
theorem dX12_ways_77 : decode cX12_ways 77 = .ok (.goto (-42), 3) := by decide +kernel
theorem dX12_ways_80 : decode cX12_ways 80 = .ok (.iinc 4 1, 3) := by decide +kernel
theorem dX12_ways_83 : decode cX12_ways 83 = .ok (.goto (-58), 3) := by decide +kernel
theorem dX12_ways_86 : decode cX12_ways 86 = .ok (.iload_n 3, 1) := by decide +kernel
theorem dX12_ways_87 : decode cX12_ways 87 = .ok (.ireturn, 1) := by decide +kernel
set_option maxRecDepth 20000 in
theorem ggX12_most_X12_isTier : GoodIn wsX12_most wsX12_isTier := goodIn_r _ [8, 9, 10, 11, 7, 12, 17, 18, 19, 20, 21, 22, 23, 24, 25, 26, 27, 28, 29, 30, 31, 32, 33, 34, 35, 36, 37, 38, 39, 40, 41, 42, 43, 44, 45, 46, 47, 48, 49, 50, 51, 52, 53, 54, 55, 56, 57, 58, 59, 60, 61, 62, 63, 64, 65, 66, 67, 68, 69, 70, 71, 72, 73, 74, 75, 76, 77, 78, 79, 80, 81, 82, 83, 84, 85, 86, 87, 88, 89, 90, 91] (by decide +kernel) (by decide +kernel)
set_option maxRecDepth 20000 in
theorem gX12_most_X12_isTier : GoodIn wsX12_most (wsV RX12 479 RX12 yX12_isTier wsX12_isTier) := goodIn_app (goodIn_of _ (by decide +kernel)) ggX12_most_X12_isTier
set_option maxRecDepth 20000 in
theorem ggX12_most_X12_isIn : GoodIn wsX12_most wsX12_isIn := goodIn_r _ [12] (by decide +kernel) (by decide +kernel)
set_option maxRecDepth 20000 in
theorem gX12_most_X12_isIn : GoodIn wsX12_most (va_wsS RX12 371 yX12_isIn wsX12_isIn) := goodIn_app (goodIn_of _ (by decide +kernel)) ggX12_most_X12_isIn
set_option maxRecDepth 20000 in
theorem ggX12_most_X12_isGrid : GoodIn wsX12_most wsX12_isGrid := goodIn_r _ [16, 1, 2, 17, 18, 19, 20, 21, 22, 23, 24, 25, 26, 27, 28, 29, 30, 31, 32, 33, 34, 35, 36, 37, 38, 39, 40, 41, 42, 43, 44, 45, 46, 47, 48, 49, 50, 51, 52, 53, 54, 55, 56, 57, 58, 59, 60, 61, 62, 63, 64, 65, 66, 67, 68, 69, 70, 71, 72, 73, 74, 75, 76, 77, 78, 79, 80, 81, 82, 83, 84, 85, 86, 87, 88, 89, 90, 91] (by decide +kernel) (by decide +kernel)
set_option maxRecDepth 20000 in
theorem gX12_most_X12_isGrid : GoodIn wsX12_most (wsV RX12 482 RX12 yX12_isGrid wsX12_isGrid) := goodIn_app (goodIn_of _ (by decide +kernel)) ggX12_most_X12_isGrid
theorem dX12_most_0 : decode cX12_most 0 = .ok (.aload_n 0, 1) := by decide +kernel
theorem dX12_most_1 : decode cX12_most 1 = .ok (.iload_n 1, 1) := by decide +kernel
theorem dX12_most_2 : decode cX12_most 2 = .ok (.invokevirtual 479, 3) := by decide +kernel
theorem dX12_most_5 : decode cX12_most 5 = .ok (.ifCond .eq 14, 3) := by decide +kernel
theorem dX12_most_8 : decode cX12_most 8 = .ok (.iload_n 2, 1) := by decide +kernel
theorem dX12_most_9 : decode cX12_most 9 = .ok (.iconst 1, 1) := by decide +kernel
theorem dX12_most_10 : decode cX12_most 10 = .ok (.sipush 999, 3) := by decide +kernel
theorem dX12_most_13 : decode cX12_most 13 = .ok (.invokestatic 371, 3) := by decide +kernel
theorem dX12_most_16 : decode cX12_most 16 = .ok (.ifCond .ne 5, 3) := by decide +kernel
theorem dX12_most_19 : decode cX12_most 19 = .ok (.iconst (-1), 1) := by decide +kernel
theorem dX12_most_20 : decode cX12_most 20 = .ok (.ireturn, 1) := by decide +kernel
theorem dX12_most_21 : decode cX12_most 21 = .ok (.iconst (-1), 1) := by decide +kernel
theorem dX12_most_22 : decode cX12_most 22 = .ok (.istore_n 3, 1) := by decide +kernel
theorem dX12_most_23 : decode cX12_most 23 = .ok (.iconst 1, 1) := by decide +kernel
theorem dX12_most_24 : decode cX12_most 24 = .ok (.istore 4, 2) := by decide +kernel
theorem dX12_most_26 : decode cX12_most 26 = .ok (.iload 4, 2) := by decide +kernel
theorem dX12_most_28 : decode cX12_most 28 = .ok (.bipush 8, 2) := by decide +kernel
theorem dX12_most_30 : decode cX12_most 30 = .ok (.if_icmp .gt 89, 3) := by decide +kernel
theorem dX12_most_33 : decode cX12_most 33 = .ok (.iconst 1, 1) := by decide +kernel
theorem dX12_most_34 : decode cX12_most 34 = .ok (.istore 5, 2) := by decide +kernel
theorem dX12_most_36 : decode cX12_most 36 = .ok (.iload 5, 2) := by decide +kernel
theorem dX12_most_38 : decode cX12_most 38 = .ok (.bipush 8, 2) := by decide +kernel
theorem dX12_most_40 : decode cX12_most 40 = .ok (.if_icmp .gt 73, 3) := by decide +kernel
theorem dX12_most_43 : decode cX12_most 43 = .ok (.aload_n 0, 1) := by decide +kernel
theorem dX12_most_44 : decode cX12_most 44 = .ok (.iload_n 1, 1) := by decide +kernel
theorem dX12_most_45 : decode cX12_most 45 = .ok (.iload 4, 2) := by decide +kernel
theorem dX12_most_47 : decode cX12_most 47 = .ok (.iload 5, 2) := by decide +kernel
theorem dX12_most_49 : decode cX12_most 49 = .ok (.invokevirtual 482, 3) := by decide +kernel
theorem dX12_most_52 : decode cX12_most 52 = .ok (.ifCond .eq 55, 3) := by decide +kernel
theorem dX12_most_55 : decode cX12_most 55 = .ok (.aload_n 0, 1) := by decide +kernel
theorem dX12_most_56 : decode cX12_most 56 = .ok (.getfield 61, 3) := by decide +kernel
theorem dX12_most_59 : decode cX12_most 59 = .ok (.iload_n 1, 1) := by decide +kernel
theorem dX12_most_60 : decode cX12_most 60 = .ok (.iaload, 1) := by decide +kernel
theorem dX12_most_61 : decode cX12_most 61 = .ok (.iload 4, 2) := by decide +kernel
theorem dX12_most_63 : decode cX12_most 63 = .ok (.idiv, 1) := by decide +kernel
theorem dX12_most_64 : decode cX12_most 64 = .ok (.aload_n 0, 1) := by decide +kernel
theorem dX12_most_65 : decode cX12_most 65 = .ok (.getfield 64, 3) := by decide +kernel
theorem dX12_most_68 : decode cX12_most 68 = .ok (.iload_n 1, 1) := by decide +kernel
theorem dX12_most_69 : decode cX12_most 69 = .ok (.iaload, 1) := by decide +kernel
theorem dX12_most_70 : decode cX12_most 70 = .ok (.iload 5, 2) := by decide +kernel
theorem dX12_most_72 : decode cX12_most 72 = .ok (.idiv, 1) := by decide +kernel
theorem dX12_most_73 : decode cX12_most 73 = .ok (.imul, 1) := by decide +kernel
theorem dX12_most_74 : decode cX12_most 74 = .ok (.aload_n 0, 1) := by decide +kernel
theorem dX12_most_75 : decode cX12_most 75 = .ok (.getfield 67, 3) := by decide +kernel
theorem dX12_most_78 : decode cX12_most 78 = .ok (.iload_n 1, 1) := by decide +kernel
theorem dX12_most_79 : decode cX12_most 79 = .ok (.iaload, 1) := by decide +kernel
theorem dX12_most_80 : decode cX12_most 80 = .ok (.imul, 1) := by decide +kernel
theorem dX12_most_81 : decode cX12_most 81 = .ok (.iload_n 2, 1) := by decide +kernel
theorem dX12_most_82 : decode cX12_most 82 = .ok (.if_icmp .ge 6, 3) := by decide +kernel
theorem dX12_most_85 : decode cX12_most 85 = .ok (.goto 22, 3) := by decide +kernel
theorem dX12_most_88 : decode cX12_most 88 = .ok (.iload 4, 2) := by decide +kernel
theorem dX12_most_90 : decode cX12_most 90 = .ok (.iload 5, 2) := by decide +kernel
theorem dX12_most_92 : decode cX12_most 92 = .ok (.imul, 1) := by decide +kernel
theorem dX12_most_93 : decode cX12_most 93 = .ok (.iload_n 3, 1) := by decide +kernel
theorem dX12_most_94 : decode cX12_most 94 = .ok (.if_icmp .le 11, 3) := by decide +kernel
theorem dX12_most_97 : decode cX12_most 97 = .ok (.iload 4, 2) := by decide +kernel
theorem dX12_most_99 : decode cX12_most 99 = .ok (.iload 5, 2) := by decide +kernel
theorem dX12_most_101 : decode cX12_most 101 = .ok (.imul, 1) := by decide +kernel
theorem dX12_most_102 : decode cX12_most 102 = .ok (.goto 4, 3) := by decide +kernel
theorem dX12_most_105 : decode cX12_most 105 = .ok (.iload_n 3, 1) := by decide +kernel
theorem dX12_most_106 : decode cX12_most 106 = .ok (.istore_n 3, 1) := by decide +kernel
theorem dX12_most_107 : decode cX12_most 107 = .ok (.iinc 5 1, 3) := by decide +kernel
theorem dX12_most_110 : decode cX12_most 110 = .ok (.goto (-74), 3) := by decide +kernel
theorem dX12_most_113 : decode cX12_most 113 = .ok (.iinc 4 1, 3) := by decide +kernel
theorem dX12_most_116 : decode cX12_most 116 = .ok (.goto (-90), 3) := by decide +kernel
theorem dX12_most_119 : decode cX12_most 119 = .ok (.iload_n 3, 1) := by decide +kernel
theorem dX12_most_120 : decode cX12_most 120 = .ok (.ireturn, 1) := by decide +kernel
set_option maxRecDepth 20000 in
theorem ggX12_room_X12_load : GoodIn wsX12_room wsX12_load := goodIn_r _ [7, 1, 8, 42, 43, 44, 45, 46, 47, 48, 49, 50, 51, 52, 53, 54, 55, 56, 57, 58, 59, 60, 61, 62, 63, 64, 65, 66, 67, 68, 69, 70, 71, 72, 73, 74, 75, 76, 77, 78, 79, 80, 81, 82, 83, 84, 85, 86, 87, 88, 89, 90, 91, 92, 93, 94, 95, 96, 97, 98, 99, 100, 101, 102, 103, 104, 105, 106, 107, 108, 109, 110, 111, 112, 113, 114, 115, 116] (by decide +kernel) (by decide +kernel)
set_option maxRecDepth 20000 in
theorem gX12_room_X12_load : GoodIn wsX12_room (wsV RX12 394 RX12 yX12_load wsX12_load) := goodIn_app (goodIn_of _ (by decide +kernel)) ggX12_room_X12_load
set_option maxRecDepth 20000 in
theorem ggX12_room_X12_isGuest : GoodIn wsX12_room wsX12_isGuest := goodIn_r _ [12, 13, 14, 15, 6, 16, 42, 43, 44, 45, 46, 47, 48, 49, 50, 51, 52, 53, 54, 55, 56, 57, 58, 59, 60, 61, 62, 63, 64, 65, 66, 67, 68, 69, 70, 71, 72, 73, 74, 75, 76, 77, 78, 79, 80, 81, 82, 83, 84, 85, 86, 87, 88, 89, 90, 91, 92, 93, 94, 95, 96, 97, 98, 99, 100, 101, 102, 103, 104, 105, 106, 107, 108, 109, 110, 111, 112, 113, 114, 115, 116] (by decide +kernel) (by decide +kernel)
set_option maxRecDepth 20000 in
theorem gX12_room_X12_isGuest : GoodIn wsX12_room (wsV RX12 397 RX12 yX12_isGuest wsX12_isGuest) := goodIn_app (goodIn_of _ (by decide +kernel)) ggX12_room_X12_isGuest
set_option maxRecDepth 20000 in
theorem ggX12_room_X12_pieceOf : GoodIn wsX12_room wsX12_pieceOf := goodIn_r _ [20, 1, 42, 43, 44, 45, 46, 47, 48, 49, 50, 51, 52, 53, 54, 55, 56, 57, 58, 59, 60, 61, 62, 63, 64, 65, 66, 67, 68, 69, 70, 71, 72, 73, 74, 75, 76, 77, 78, 79, 80, 81, 82, 83, 84, 85, 86, 87, 88, 89, 90, 91, 92, 93, 94, 95, 96, 97, 98, 99, 100, 101, 102, 103, 104, 105, 106, 107, 108, 109, 110, 111, 112, 113, 114, 115, 116] (by decide +kernel) (by decide +kernel)
set_option maxRecDepth 20000 in
theorem gX12_room_X12_pieceOf : GoodIn wsX12_room (wsV RX12 400 RX12 yX12_pieceOf wsX12_pieceOf) := goodIn_app (goodIn_of _ (by decide +kernel)) ggX12_room_X12_pieceOf
set_option maxRecDepth 20000 in
theorem ggX12_room_X12_servedBut : GoodIn wsX12_room wsX12_servedBut := goodIn_r _ [24, 25, 26, 13, 27, 2, 28, 1, 29, 17, 18, 19, 6, 20, 30, 31, 32, 33, 34, 35, 36, 37, 38, 39, 40, 41, 42, 43, 44, 45, 46, 47, 48, 49, 50, 51, 52, 53, 54, 55, 56, 57, 58, 59, 60, 61, 62, 63, 64, 65, 66, 67, 68, 69, 70, 71, 72, 73, 74, 75, 76, 77, 78, 79, 80, 81, 82, 83, 84, 85, 86, 87, 88, 89, 90, 91, 92, 93, 94, 95, 96, 97, 98, 99, 100, 101, 102, 103, 104, 105, 106, 107, 108, 109, 110, 111, 112, 113, 114, 115, 116] (by decide +kernel) (by decide +kernel)
set_option maxRecDepth 20000 in
theorem gX12_room_X12_servedBut : GoodIn wsX12_room (wsV RX12 435 RX12 yX12_servedBut wsX12_servedBut) := goodIn_app (goodIn_of _ (by decide +kernel)) ggX12_room_X12_servedBut
set_option maxRecDepth 20000 in
theorem ggX12_room_X12_isFree : GoodIn wsX12_room wsX12_isFree := goodIn_r _ [36, 1, 42, 43, 44, 45, 46, 47, 48, 49, 50, 51, 52, 53, 54, 55, 56, 57, 58, 59, 60, 61, 62, 63, 64, 65, 66, 67, 68, 69, 70, 71, 72, 73, 74, 75, 76, 77, 78, 79, 80, 81, 82, 83, 84, 85, 86, 87, 88, 89, 90, 91, 92, 93, 94, 95, 96, 97, 98, 99, 100, 101, 102, 103, 104, 105, 106, 107, 108, 109, 110, 111, 112, 113, 114, 115, 116] (by decide +kernel) (by decide +kernel)
set_option maxRecDepth 20000 in
theorem gX12_room_X12_isFree : GoodIn wsX12_room (wsV RX12 388 RX12 yX12_isFree wsX12_isFree) := goodIn_app (goodIn_of _ (by decide +kernel)) ggX12_room_X12_isFree
set_option maxRecDepth 20000 in
theorem ggX12_room_X12_areaOf : GoodIn wsX12_room wsX12_areaOf := goodIn_r _ [40, 1, 41, 42, 43, 44, 45, 46, 47, 48, 49, 50, 51, 52, 53, 54, 55, 56, 57, 58, 59, 60, 61, 62, 63, 64, 65, 66, 67, 68, 69, 70, 71, 72, 73, 74, 75, 76, 77, 78, 79, 80, 81, 82, 83, 84, 85, 86, 87, 88, 89, 90, 91, 92, 93, 94, 95, 96, 97, 98, 99, 100, 101, 102, 103, 104, 105, 106, 107, 108, 109, 110, 111, 112, 113, 114, 115, 116] (by decide +kernel) (by decide +kernel)
set_option maxRecDepth 20000 in
theorem gX12_room_X12_areaOf : GoodIn wsX12_room (wsV RX12 375 RX12 yX12_areaOf wsX12_areaOf) := goodIn_app (goodIn_of _ (by decide +kernel)) ggX12_room_X12_areaOf
theorem dX12_room_0 : decode cX12_room 0 = .ok (.aload_n 0, 1) := by decide +kernel
theorem dX12_room_1 : decode cX12_room 1 = .ok (.invokevirtual 394, 3) := by decide +kernel
theorem dX12_room_4 : decode cX12_room 4 = .ok (.aload_n 0, 1) := by decide +kernel
theorem dX12_room_5 : decode cX12_room 5 = .ok (.iload_n 1, 1) := by decide +kernel
theorem dX12_room_6 : decode cX12_room 6 = .ok (.invokevirtual 397, 3) := by decide +kernel
theorem dX12_room_9 : decode cX12_room 9 = .ok (.ifCond .eq 11, 3) := by decide +kernel
theorem dX12_room_12 : decode cX12_room 12 = .ok (.aload_n 0, 1) := by decide +kernel
theorem dX12_room_13 : decode cX12_room 13 = .ok (.iload_n 1, 1) := by decide +kernel
theorem dX12_room_14 : decode cX12_room 14 = .ok (.invokevirtual 400, 3) := by decide +kernel
theorem dX12_room_17 : decode cX12_room 17 = .ok (.ifCond .lt 5, 3) := by decide +kernel
theorem dX12_room_20 : decode cX12_room 20 = .ok (.iconst (-1), 1) := by decide +kernel
theorem dX12_room_21 : decode cX12_room 21 = .ok (.ireturn, 1) := by decide +kernel
theorem dX12_room_22 : decode cX12_room 22 = .ok (.aload_n 0, 1) := by decide +kernel
theorem dX12_room_23 : decode cX12_room 23 = .ok (.iconst (-1), 1) := by decide +kernel
theorem dX12_room_24 : decode cX12_room 24 = .ok (.iconst (-1), 1) := by decide +kernel
theorem dX12_room_25 : decode cX12_room 25 = .ok (.invokevirtual 435, 3) := by decide +kernel
theorem dX12_room_28 : decode cX12_room 28 = .ok (.istore_n 2, 1) := by decide +kernel
theorem dX12_room_29 : decode cX12_room 29 = .ok (.iconst (-1), 1) := by decide +kernel
theorem dX12_room_30 : decode cX12_room 30 = .ok (.istore_n 3, 1) := by decide +kernel
theorem dX12_room_31 : decode cX12_room 31 = .ok (.iconst 0, 1) := by decide +kernel
theorem dX12_room_32 : decode cX12_room 32 = .ok (.istore 4, 2) := by decide +kernel
theorem dX12_room_34 : decode cX12_room 34 = .ok (.iload 4, 2) := by decide +kernel
theorem dX12_room_36 : decode cX12_room 36 = .ok (.aload_n 0, 1) := by decide +kernel
theorem dX12_room_37 : decode cX12_room 37 = .ok (.getfield 94, 3) := by decide +kernel
theorem dX12_room_40 : decode cX12_room 40 = .ok (.sipush 168, 3) := by decide +kernel
theorem dX12_room_43 : decode cX12_room 43 = .ok (.iaload, 1) := by decide +kernel
theorem dX12_room_44 : decode cX12_room 44 = .ok (.if_icmp .ge 102, 3) := by decide +kernel
theorem dX12_room_47 : decode cX12_room 47 = .ok (.aload_n 0, 1) := by decide +kernel
theorem dX12_room_48 : decode cX12_room 48 = .ok (.iload 4, 2) := by decide +kernel
theorem dX12_room_50 : decode cX12_room 50 = .ok (.invokevirtual 388, 3) := by decide +kernel
theorem dX12_room_53 : decode cX12_room 53 = .ok (.ifCond .eq 87, 3) := by decide +kernel
theorem dX12_room_56 : decode cX12_room 56 = .ok (.aload_n 0, 1) := by decide +kernel
theorem dX12_room_57 : decode cX12_room 57 = .ok (.iload 4, 2) := by decide +kernel
theorem dX12_room_59 : decode cX12_room 59 = .ok (.invokevirtual 375, 3) := by decide +kernel
theorem dX12_room_62 : decode cX12_room 62 = .ok (.aload_n 0, 1) := by decide +kernel
theorem dX12_room_63 : decode cX12_room 63 = .ok (.getfield 79, 3) := by decide +kernel
theorem dX12_room_66 : decode cX12_room 66 = .ok (.iload_n 1, 1) := by decide +kernel
theorem dX12_room_67 : decode cX12_room 67 = .ok (.iaload, 1) := by decide +kernel
theorem dX12_room_68 : decode cX12_room 68 = .ok (.if_icmp .lt 72, 3) := by decide +kernel
theorem dX12_room_71 : decode cX12_room 71 = .ok (.aload_n 0, 1) := by decide +kernel
theorem dX12_room_72 : decode cX12_room 72 = .ok (.iload_n 1, 1) := by decide +kernel
theorem dX12_room_73 : decode cX12_room 73 = .ok (.iload 4, 2) := by decide +kernel
theorem dX12_room_75 : decode cX12_room 75 = .ok (.invokevirtual 435, 3) := by decide +kernel
theorem dX12_room_78 : decode cX12_room 78 = .ok (.iconst 1, 1) := by decide +kernel
theorem dX12_room_79 : decode cX12_room 79 = .ok (.iadd, 1) := by decide +kernel
theorem dX12_room_80 : decode cX12_room 80 = .ok (.iload_n 2, 1) := by decide +kernel
theorem dX12_room_81 : decode cX12_room 81 = .ok (.if_icmp .ge 6, 3) := by decide +kernel
theorem dX12_room_84 : decode cX12_room 84 = .ok (.goto 56, 3) := by decide +kernel
theorem dX12_room_87 : decode cX12_room 87 = .ok (.aload_n 0, 1) := by decide +kernel
theorem dX12_room_88 : decode cX12_room 88 = .ok (.iload 4, 2) := by decide +kernel
theorem dX12_room_90 : decode cX12_room 90 = .ok (.invokevirtual 375, 3) := by decide +kernel
theorem dX12_room_93 : decode cX12_room 93 = .ok (.sipush 999, 3) := by decide +kernel
theorem dX12_room_96 : decode cX12_room 96 = .ok (.if_icmp .ge 12, 3) := by decide +kernel
theorem dX12_room_99 : decode cX12_room 99 = .ok (.aload_n 0, 1) := by decide +kernel
theorem dX12_room_100 : decode cX12_room 100 = .ok (.iload 4, 2) := by decide +kernel
theorem dX12_room_102 : decode cX12_room 102 = .ok (.invokevirtual 375, 3) := by decide +kernel
theorem dX12_room_105 : decode cX12_room 105 = .ok (.goto 6, 3) := by decide +kernel
theorem dX12_room_108 : decode cX12_room 108 = .ok (.sipush 999, 3) := by decide +kernel
theorem dX12_room_111 : decode cX12_room 111 = .ok (.istore 5, 2) := by decide +kernel
theorem dX12_room_113 : decode cX12_room 113 = .ok (.iload 5, 2) := by decide +kernel
theorem dX12_room_115 : decode cX12_room 115 = .ok (.aload_n 0, 1) := by decide +kernel
theorem dX12_room_116 : decode cX12_room 116 = .ok (.getfield 79, 3) := by decide +kernel
theorem dX12_room_119 : decode cX12_room 119 = .ok (.iload_n 1, 1) := by decide +kernel
theorem dX12_room_120 : decode cX12_room 120 = .ok (.iaload, 1) := by decide +kernel
theorem dX12_room_121 : decode cX12_room 121 = .ok (.isub, 1) := by decide +kernel
theorem dX12_room_122 : decode cX12_room 122 = .ok (.iload_n 3, 1) := by decide +kernel
theorem dX12_room_123 : decode cX12_room 123 = .ok (.if_icmp .le 15, 3) := by decide +kernel
theorem dX12_room_126 : decode cX12_room 126 = .ok (.iload 5, 2) := by decide +kernel
theorem dX12_room_128 : decode cX12_room 128 = .ok (.aload_n 0, 1) := by decide +kernel
theorem dX12_room_129 : decode cX12_room 129 = .ok (.getfield 79, 3) := by decide +kernel
theorem dX12_room_132 : decode cX12_room 132 = .ok (.iload_n 1, 1) := by decide +kernel
theorem dX12_room_133 : decode cX12_room 133 = .ok (.iaload, 1) := by decide +kernel
theorem dX12_room_134 : decode cX12_room 134 = .ok (.isub, 1) := by decide +kernel
theorem dX12_room_135 : decode cX12_room 135 = .ok (.goto 4, 3) := by decide +kernel
theorem dX12_room_138 : decode cX12_room 138 = .ok (.iload_n 3, 1) := by decide +kernel
theorem dX12_room_139 : decode cX12_room 139 = .ok (.istore_n 3, 1) := by decide +kernel
theorem dX12_room_140 : decode cX12_room 140 = .ok (.iinc 4 1, 3) := by decide +kernel
theorem dX12_room_143 : decode cX12_room 143 = .ok (.goto (-109), 3) := by decide +kernel
theorem dX12_room_146 : decode cX12_room 146 = .ok (.iload_n 3, 1) := by decide +kernel
theorem dX12_room_147 : decode cX12_room 147 = .ok (.ireturn, 1) := by decide +kernel
set_option maxRecDepth 20000 in
theorem ggX12_best_X12_isGuest : GoodIn wsX12_best wsX12_isGuest := goodIn_r _ [5, 6, 7, 8, 4, 9, 64, 65, 66, 67, 68, 69, 70, 71, 72, 73, 74, 75, 76, 77, 78, 79, 80, 81, 82, 83, 84, 85, 86, 87, 88, 89, 90, 91, 92, 93, 94, 95, 96, 97, 98, 99, 100, 101, 102, 103, 104, 105, 106, 107, 108, 109, 110, 111, 112, 113, 114, 115, 116, 117, 118, 119, 120, 121, 122, 123, 124, 125, 126, 127, 128, 129, 130, 131, 132, 133, 134, 135, 136, 137, 138] (by decide +kernel) (by decide +kernel)
set_option maxRecDepth 20000 in
theorem gX12_best_X12_isGuest : GoodIn wsX12_best (wsV RX12 397 RX12 yX12_isGuest wsX12_isGuest) := goodIn_app (goodIn_of _ (by decide +kernel)) ggX12_best_X12_isGuest
set_option maxRecDepth 20000 in
theorem ggX12_best_X12_layWorths : GoodIn wsX12_best wsX12_layWorths := goodIn_r _ [13, 6, 14, 15, 16, 17, 18, 4, 19, 20, 21, 22, 23, 24, 25, 26, 27, 28, 29, 30, 31, 32, 33, 34, 35, 36, 37, 38, 39, 40, 41, 42, 43, 44, 45, 46, 47, 48, 49, 50, 51, 52, 53, 54, 55, 64, 65, 66, 67, 68, 69, 70, 71, 72, 73, 74, 75, 76, 77, 78, 79, 80, 81, 82, 83, 84, 85, 86, 87, 88, 89, 90, 91, 92, 93, 94, 95, 96, 97, 98, 99, 100, 101, 102, 103, 104, 105, 106, 107, 108, 109, 110, 111, 112, 113, 114, 115, 116, 117, 118, 119, 120, 121, 122, 123, 124, 125, 126, 127, 128, 129, 130, 131, 132, 133, 134, 135, 136, 137, 138] (by decide +kernel) (by decide +kernel)
set_option maxRecDepth 20000 in
theorem gX12_best_X12_layWorths : GoodIn wsX12_best (wsV RX12 463 RX12 yX12_layWorths wsX12_layWorths) := goodIn_app (goodIn_of _ (by decide +kernel)) ggX12_best_X12_layWorths
set_option maxRecDepth 20000 in
theorem ggX12_best_X12_bestFor : GoodIn wsX12_best wsX12_bestFor := goodIn_r _ [59, 14, 15, 60, 61, 62, 4, 63, 64, 65, 66, 67, 68, 69, 70, 71, 72, 73, 74, 75, 76, 77, 78, 79, 80, 81, 82, 83, 84, 85, 86, 87, 88, 89, 90, 91, 92, 93, 94, 95, 96, 97, 98, 99, 100, 101, 102, 103, 104, 105, 106, 107, 108, 109, 110, 111, 112, 113, 114, 115, 116, 117, 118, 119, 120, 121, 122, 123, 124, 125, 126, 127, 128, 129, 130, 131, 132, 133, 134, 135, 136, 137, 138] (by decide +kernel) (by decide +kernel)
set_option maxRecDepth 20000 in
theorem gX12_best_X12_bestFor : GoodIn wsX12_best (wsV RX12 466 RX12 yX12_bestFor wsX12_bestFor) := goodIn_app (goodIn_of _ (by decide +kernel)) ggX12_best_X12_bestFor
theorem dX12_best_0 : decode cX12_best 0 = .ok (.aload_n 0, 1) := by decide +kernel
theorem dX12_best_1 : decode cX12_best 1 = .ok (.iload_n 1, 1) := by decide +kernel
theorem dX12_best_2 : decode cX12_best 2 = .ok (.invokevirtual 397, 3) := by decide +kernel
theorem dX12_best_5 : decode cX12_best 5 = .ok (.ifCond .ne 5, 3) := by decide +kernel
theorem dX12_best_8 : decode cX12_best 8 = .ok (.iconst (-1), 1) := by decide +kernel
theorem dX12_best_9 : decode cX12_best 9 = .ok (.ireturn, 1) := by decide +kernel
theorem dX12_best_10 : decode cX12_best 10 = .ok (.aload_n 0, 1) := by decide +kernel
theorem dX12_best_11 : decode cX12_best 11 = .ok (.invokevirtual 463, 3) := by decide +kernel
theorem dX12_best_14 : decode cX12_best 14 = .ok (.aload_n 0, 1) := by decide +kernel
theorem dX12_best_15 : decode cX12_best 15 = .ok (.iload_n 1, 1) := by decide +kernel
theorem dX12_best_16 : decode cX12_best 16 = .ok (.iconst 0, 1) := by decide +kernel
theorem dX12_best_17 : decode cX12_best 17 = .ok (.invokevirtual 466, 3) := by decide +kernel
theorem dX12_best_20 : decode cX12_best 20 = .ok (.ireturn, 1) := by decide +kernel
theorem dX12_hasCell_0 : decode cX12_hasCell 0 = .ok (.iload_n 3, 1) := by decide +kernel
theorem dX12_hasCell_1 : decode cX12_hasCell 1 = .ok (.aload_n 0, 1) := by decide +kernel
theorem dX12_hasCell_2 : decode cX12_hasCell 2 = .ok (.getfield 94, 3) := by decide +kernel
theorem dX12_hasCell_5 : decode cX12_hasCell 5 = .ok (.bipush 7, 2) := by decide +kernel
theorem dX12_hasCell_7 : decode cX12_hasCell 7 = .ok (.iload_n 1, 1) := by decide +kernel
theorem dX12_hasCell_8 : decode cX12_hasCell 8 = .ok (.imul, 1) := by decide +kernel
theorem dX12_hasCell_9 : decode cX12_hasCell 9 = .ok (.iconst 1, 1) := by decide +kernel
theorem dX12_hasCell_10 : decode cX12_hasCell 10 = .ok (.iadd, 1) := by decide +kernel
theorem dX12_hasCell_11 : decode cX12_hasCell 11 = .ok (.iaload, 1) := by decide +kernel
theorem dX12_hasCell_12 : decode cX12_hasCell 12 = .ok (.isub, 1) := by decide +kernel
theorem dX12_hasCell_13 : decode cX12_hasCell 13 = .ok (.istore 5, 2) := by decide +kernel
theorem dX12_hasCell_15 : decode cX12_hasCell 15 = .ok (.iload 4, 2) := by decide +kernel
theorem dX12_hasCell_17 : decode cX12_hasCell 17 = .ok (.aload_n 0, 1) := by decide +kernel
theorem dX12_hasCell_18 : decode cX12_hasCell 18 = .ok (.getfield 94, 3) := by decide +kernel
theorem dX12_hasCell_21 : decode cX12_hasCell 21 = .ok (.bipush 7, 2) := by decide +kernel
theorem dX12_hasCell_23 : decode cX12_hasCell 23 = .ok (.iload_n 1, 1) := by decide +kernel
theorem dX12_hasCell_24 : decode cX12_hasCell 24 = .ok (.imul, 1) := by decide +kernel
theorem dX12_hasCell_25 : decode cX12_hasCell 25 = .ok (.iconst 2, 1) := by decide +kernel
theorem dX12_hasCell_26 : decode cX12_hasCell 26 = .ok (.iadd, 1) := by decide +kernel
theorem dX12_hasCell_27 : decode cX12_hasCell 27 = .ok (.iaload, 1) := by decide +kernel
theorem dX12_hasCell_28 : decode cX12_hasCell 28 = .ok (.isub, 1) := by decide +kernel
theorem dX12_hasCell_29 : decode cX12_hasCell 29 = .ok (.istore 6, 2) := by decide +kernel
theorem dX12_hasCell_31 : decode cX12_hasCell 31 = .ok (.aload_n 0, 1) := by decide +kernel
theorem dX12_hasCell_32 : decode cX12_hasCell 32 = .ok (.getfield 94, 3) := by decide +kernel
theorem dX12_hasCell_35 : decode cX12_hasCell 35 = .ok (.bipush 7, 2) := by decide +kernel
theorem dX12_hasCell_37 : decode cX12_hasCell 37 = .ok (.iload_n 1, 1) := by decide +kernel
theorem dX12_hasCell_38 : decode cX12_hasCell 38 = .ok (.imul, 1) := by decide +kernel
theorem dX12_hasCell_39 : decode cX12_hasCell 39 = .ok (.iaload, 1) := by decide +kernel
theorem dX12_hasCell_40 : decode cX12_hasCell 40 = .ok (.iload_n 2, 1) := by decide +kernel
theorem dX12_hasCell_41 : decode cX12_hasCell 41 = .ok (.if_icmp .ne 49, 3) := by decide +kernel
theorem dX12_hasCell_44 : decode cX12_hasCell 44 = .ok (.iload 5, 2) := by decide +kernel
theorem dX12_hasCell_46 : decode cX12_hasCell 46 = .ok (.ifCond .lt 44, 3) := by decide +kernel
theorem dX12_hasCell_49 : decode cX12_hasCell 49 = .ok (.iload 5, 2) := by decide +kernel
theorem dX12_hasCell_51 : decode cX12_hasCell 51 = .ok (.aload_n 0, 1) := by decide +kernel
theorem dX12_hasCell_52 : decode cX12_hasCell 52 = .ok (.getfield 94, 3) := by decide +kernel
theorem dX12_hasCell_55 : decode cX12_hasCell 55 = .ok (.bipush 7, 2) := by decide +kernel
theorem dX12_hasCell_57 : decode cX12_hasCell 57 = .ok (.iload_n 1, 1) := by decide +kernel
theorem dX12_hasCell_58 : decode cX12_hasCell 58 = .ok (.imul, 1) := by decide +kernel
theorem dX12_hasCell_59 : decode cX12_hasCell 59 = .ok (.iconst 3, 1) := by decide +kernel
theorem dX12_hasCell_60 : decode cX12_hasCell 60 = .ok (.iadd, 1) := by decide +kernel
theorem dX12_hasCell_61 : decode cX12_hasCell 61 = .ok (.iaload, 1) := by decide +kernel
theorem dX12_hasCell_62 : decode cX12_hasCell 62 = .ok (.if_icmp .ge 28, 3) := by decide +kernel
theorem dX12_hasCell_65 : decode cX12_hasCell 65 = .ok (.iload 6, 2) := by decide +kernel
theorem dX12_hasCell_67 : decode cX12_hasCell 67 = .ok (.ifCond .lt 23, 3) := by decide +kernel
theorem dX12_hasCell_70 : decode cX12_hasCell 70 = .ok (.iload 6, 2) := by decide +kernel
theorem dX12_hasCell_72 : decode cX12_hasCell 72 = .ok (.aload_n 0, 1) := by decide +kernel
theorem dX12_hasCell_73 : decode cX12_hasCell 73 = .ok (.getfield 94, 3) := by decide +kernel
theorem dX12_hasCell_76 : decode cX12_hasCell 76 = .ok (.bipush 7, 2) := by decide +kernel
theorem dX12_hasCell_78 : decode cX12_hasCell 78 = .ok (.iload_n 1, 1) := by decide +kernel
