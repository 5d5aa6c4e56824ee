theorem dX12_asked_36 : decode cX12_asked 36 = .ok (.aload_n 0, 1) := by decide +kernel
theorem dX12_asked_37 : decode cX12_asked 37 = .ok (.getfield 159, 3) := by decide +kernel
theorem dX12_asked_40 : decode cX12_asked 40 = .ok (.ldc2_w 192, 3) := by decide +kernel
theorem dX12_asked_43 : decode cX12_asked 43 = .ok (.lcmp, 1) := by decide +kernel
theorem dX12_asked_44 : decode cX12_asked 44 = .ok (.ifCond .ne 5, 3) := by decide +kernel
theorem dX12_asked_47 : decode cX12_asked 47 = .ok (.iconst 2, 1) := by decide +kernel
theorem dX12_asked_48 : decode cX12_asked 48 = .ok (.ireturn, 1) := by decide +kernel
theorem dX12_asked_49 : decode cX12_asked 49 = .ok (.aload_n 0, 1) := by decide +kernel
theorem dX12_asked_50 : decode cX12_asked 50 = .ok (.getfield 159, 3) := by decide +kernel
theorem dX12_asked_53 : decode cX12_asked 53 = .ok (.ldc2_w 208, 3) := by decide +kernel
theorem dX12_asked_56 : decode cX12_asked 56 = .ok (.lcmp, 1) := by decide +kernel
theorem dX12_asked_57 : decode cX12_asked 57 = .ok (.ifCond .ne 5, 3) := by decide +kernel
theorem dX12_asked_60 : decode cX12_asked 60 = .ok (.iconst 3, 1) := by decide +kernel
theorem dX12_asked_61 : decode cX12_asked 61 = .ok (.ireturn, 1) := by decide +kernel
theorem dX12_asked_62 : decode cX12_asked 62 = .ok (.aload_n 0, 1) := by decide +kernel
theorem dX12_asked_63 : decode cX12_asked 63 = .ok (.getfield 159, 3) := by decide +kernel
theorem dX12_asked_66 : decode cX12_asked 66 = .ok (.ldc2_w 210, 3) := by decide +kernel
theorem dX12_asked_69 : decode cX12_asked 69 = .ok (.lcmp, 1) := by decide +kernel
theorem dX12_asked_70 : decode cX12_asked 70 = .ok (.ifCond .ne 5, 3) := by decide +kernel
theorem dX12_asked_73 : decode cX12_asked 73 = .ok (.iconst 4, 1) := by decide +kernel
theorem dX12_asked_74 : decode cX12_asked 74 = .ok (.ireturn, 1) := by decide +kernel
theorem dX12_asked_75 : decode cX12_asked 75 = .ok (.aload_n 0, 1) := by decide +kernel
theorem dX12_asked_76 : decode cX12_asked 76 = .ok (.getfield 159, 3) := by decide +kernel
theorem dX12_asked_79 : decode cX12_asked 79 = .ok (.ldc2_w 212, 3) := by decide +kernel
theorem dX12_asked_82 : decode cX12_asked 82 = .ok (.lcmp, 1) := by decide +kernel
theorem dX12_asked_83 : decode cX12_asked 83 = .ok (.ifCond .ne 7, 3) := by decide +kernel
theorem dX12_asked_86 : decode cX12_asked 86 = .ok (.iconst 5, 1) := by decide +kernel
theorem dX12_asked_87 : decode cX12_asked 87 = .ok (.goto 4, 3) := by decide +kernel
theorem dX12_asked_90 : decode cX12_asked 90 = .ok (.iconst (-1), 1) := by decide +kernel
theorem dX12_asked_91 : decode cX12_asked 91 = .ok (.ireturn, 1) := by decide +kernel
theorem dX12_isFull_0 : decode cX12_isFull 0 = .ok (.aload_n 0, 1) := by decide +kernel
theorem dX12_isFull_1 : decode cX12_isFull 1 = .ok (.getfield 265, 3) := by decide +kernel
theorem dX12_isFull_4 : decode cX12_isFull 4 = .ok (.bipush 60, 2) := by decide +kernel
theorem dX12_isFull_6 : decode cX12_isFull 6 = .ok (.if_icmp .eq 12, 3) := by decide +kernel
theorem dX12_isFull_9 : decode cX12_isFull 9 = .ok (.aload_n 0, 1) := by decide +kernel
theorem dX12_isFull_10 : decode cX12_isFull 10 = .ok (.getfield 268, 3) := by decide +kernel
theorem dX12_isFull_13 : decode cX12_isFull 13 = .ok (.bipush 30, 2) := by decide +kernel
theorem dX12_isFull_15 : decode cX12_isFull 15 = .ok (.if_icmp .ne 7, 3) := by decide +kernel
theorem dX12_isFull_18 : decode cX12_isFull 18 = .ok (.iconst 1, 1) := by decide +kernel
theorem dX12_isFull_19 : decode cX12_isFull 19 = .ok (.goto 4, 3) := by decide +kernel
theorem dX12_isFull_22 : decode cX12_isFull 22 = .ok (.iconst 0, 1) := by decide +kernel
theorem dX12_isFull_23 : decode cX12_isFull 23 = .ok (.ireturn, 1) := by decide +kernel
theorem dX12_countUnit_0 : decode cX12_countUnit 0 = .ok (.aload_n 0, 1) := by decide +kernel
theorem dX12_countUnit_1 : decode cX12_countUnit 1 = .ok (.dup, 1) := by decide +kernel
theorem dX12_countUnit_2 : decode cX12_countUnit 2 = .ok (.getfield 265, 3) := by decide +kernel
theorem dX12_countUnit_5 : decode cX12_countUnit 5 = .ok (.iconst 1, 1) := by decide +kernel
theorem dX12_countUnit_6 : decode cX12_countUnit 6 = .ok (.iadd, 1) := by decide +kernel
theorem dX12_countUnit_7 : decode cX12_countUnit 7 = .ok (.putfield 265, 3) := by decide +kernel
theorem dX12_countUnit_10 : decode cX12_countUnit 10 = .ok (.aload_n 0, 1) := by decide +kernel
theorem dX12_countUnit_11 : decode cX12_countUnit 11 = .ok (.dup, 1) := by decide +kernel
theorem dX12_countUnit_12 : decode cX12_countUnit 12 = .ok (.getfield 268, 3) := by decide +kernel
theorem dX12_countUnit_15 : decode cX12_countUnit 15 = .ok (.iconst 1, 1) := by decide +kernel
theorem dX12_countUnit_16 : decode cX12_countUnit 16 = .ok (.iadd, 1) := by decide +kernel
theorem dX12_countUnit_17 : decode cX12_countUnit 17 = .ok (.putfield 268, 3) := by decide +kernel
theorem dX12_countUnit_20 : decode cX12_countUnit 20 = .ok (.return_, 1) := by decide +kernel
set_option maxRecDepth 20000 in
theorem ggX12_openUp_X12_token : GoodIn wsX12_openUp wsX12_token := goodIn_r _ [9, 10, 11, 12, 13, 14, 15, 16, 17, 8, 18, 19, 20, 21, 22, 23, 24, 25, 26, 27, 28, 29, 30, 31, 32, 33, 34, 35, 36, 37, 38, 39, 40, 41, 42, 43, 44, 45, 46, 47, 48, 49, 50, 51, 52, 53, 54, 55, 56, 57, 58, 59, 60, 61, 62, 63, 64, 65, 66, 67, 68, 69, 70, 71, 72, 73, 74, 75, 76, 77, 78, 79, 80, 81, 82, 83, 84, 85, 86, 87, 88, 89, 90, 91, 92, 93, 94, 95, 96, 97, 98, 99, 100, 101, 102, 103, 104] (by decide +kernel) (by decide +kernel)
set_option maxRecDepth 20000 in
theorem gX12_openUp_X12_token : GoodIn wsX12_openUp (wsV RX12 231 RX12 yX12_token wsX12_token) := goodIn_app (goodIn_of _ (by decide +kernel)) ggX12_openUp_X12_token
theorem dX12_openUp_0 : decode cX12_openUp 0 = .ok (.aload_n 0, 1) := by decide +kernel
theorem dX12_openUp_1 : decode cX12_openUp 1 = .ok (.getfield 39, 3) := by decide +kernel
theorem dX12_openUp_4 : decode cX12_openUp 4 = .ok (.aload_n 0, 1) := by decide +kernel
theorem dX12_openUp_5 : decode cX12_openUp 5 = .ok (.getfield 252, 3) := by decide +kernel
theorem dX12_openUp_8 : decode cX12_openUp 8 = .ok (.iload_n 1, 1) := by decide +kernel
theorem dX12_openUp_9 : decode cX12_openUp 9 = .ok (.iastore, 1) := by decide +kernel
theorem dX12_openUp_10 : decode cX12_openUp 10 = .ok (.aload_n 0, 1) := by decide +kernel
theorem dX12_openUp_11 : decode cX12_openUp 11 = .ok (.dup, 1) := by decide +kernel
theorem dX12_openUp_12 : decode cX12_openUp 12 = .ok (.getfield 252, 3) := by decide +kernel
theorem dX12_openUp_15 : decode cX12_openUp 15 = .ok (.iconst 1, 1) := by decide +kernel
theorem dX12_openUp_16 : decode cX12_openUp 16 = .ok (.iadd, 1) := by decide +kernel
theorem dX12_openUp_17 : decode cX12_openUp 17 = .ok (.putfield 252, 3) := by decide +kernel
theorem dX12_openUp_20 : decode cX12_openUp 20 = .ok (.aload_n 0, 1) := by decide +kernel
theorem dX12_openUp_21 : decode cX12_openUp 21 = .ok (.dup, 1) := by decide +kernel
theorem dX12_openUp_22 : decode cX12_openUp 22 = .ok (.getfield 262, 3) := by decide +kernel
theorem dX12_openUp_25 : decode cX12_openUp 25 = .ok (.iconst 1, 1) := by decide +kernel
theorem dX12_openUp_26 : decode cX12_openUp 26 = .ok (.iadd, 1) := by decide +kernel
theorem dX12_openUp_27 : decode cX12_openUp 27 = .ok (.putfield 262, 3) := by decide +kernel
theorem dX12_openUp_30 : decode cX12_openUp 30 = .ok (.aload_n 0, 1) := by decide +kernel
theorem dX12_openUp_31 : decode cX12_openUp 31 = .ok (.getfield 179, 3) := by decide +kernel
theorem dX12_openUp_34 : decode cX12_openUp 34 = .ok (.ifCond .ne 7, 3) := by decide +kernel
theorem dX12_openUp_37 : decode cX12_openUp 37 = .ok (.aload_n 0, 1) := by decide +kernel
theorem dX12_openUp_38 : decode cX12_openUp 38 = .ok (.invokevirtual 231, 3) := by decide +kernel
theorem dX12_openUp_41 : decode cX12_openUp 41 = .ok (.return_, 1) := by decide +kernel
set_option maxRecDepth 20000 in
theorem ggX12_unit_X12_isWord : GoodIn wsX12_unit wsX12_isWord := goodIn_r _ [10, 4, 11, 79, 80, 81, 82, 83, 84, 85, 86, 87, 88, 89, 90, 91, 92, 93, 94, 95, 96, 97, 98, 99, 100, 101, 102, 103, 104, 105, 106, 107, 108, 109, 110, 111, 112, 113, 114, 115, 116, 117, 118, 119, 120, 121, 122, 123, 124, 125, 126, 127, 128, 129, 130, 131, 132, 133, 134, 135, 136, 137, 138, 139, 140, 141, 142, 143, 144, 145, 146, 147, 148, 149, 150, 151, 152, 153] (by decide +kernel) (by decide +kernel)
set_option maxRecDepth 20000 in
theorem gX12_unit_X12_isWord : GoodIn wsX12_unit (wsV RX12 224 RX12 yX12_isWord wsX12_isWord) := goodIn_app (goodIn_of _ (by decide +kernel)) ggX12_unit_X12_isWord
set_option maxRecDepth 20000 in
theorem ggX12_unit_X12_mayNot : GoodIn wsX12_unit wsX12_mayNot := goodIn_r _ [15, 16, 17, 18, 19, 9, 20, 79, 80, 81, 82, 83, 84, 85, 86, 87, 88, 89, 90, 91, 92, 93, 94, 95, 96, 97, 98, 99, 100, 101, 102, 103, 104, 105, 106, 107, 108, 109, 110, 111, 112, 113, 114, 115, 116, 117, 118, 119, 120, 121, 122, 123, 124, 125, 126, 127, 128, 129, 130, 131, 132, 133, 134, 135, 136, 137, 138, 139, 140, 141, 142, 143, 144, 145, 146, 147, 148, 149, 150, 151, 152, 153] (by decide +kernel) (by decide +kernel)
set_option maxRecDepth 20000 in
theorem gX12_unit_X12_mayNot : GoodIn wsX12_unit (wsV RX12 271 RX12 yX12_mayNot wsX12_mayNot) := goodIn_app (goodIn_of _ (by decide +kernel)) ggX12_unit_X12_mayNot
set_option maxRecDepth 20000 in
theorem ggX12_unit_X12_wrong : GoodIn wsX12_unit wsX12_wrong := goodIn_r _ [24, 1, 4, 25, 26, 79, 80, 81, 82, 83, 84, 85, 86, 87, 88, 89, 90, 91, 92, 93, 94, 95, 96, 97, 98, 99, 100, 101, 102, 103, 104, 105, 106, 107, 108, 109, 110, 111, 112, 113, 114, 115, 116, 117, 118, 119, 120, 121, 122, 123, 124, 125, 126, 127, 128, 129, 130, 131, 132, 133, 134, 135, 136, 137, 138, 139, 140, 141, 142, 143, 144, 145, 146, 147, 148, 149, 150, 151, 152, 153] (by decide +kernel) (by decide +kernel)
set_option maxRecDepth 20000 in
theorem gX12_unit_X12_wrong : GoodIn wsX12_unit (wsV RX12 228 RX12 yX12_wrong wsX12_wrong) := goodIn_app (goodIn_of _ (by decide +kernel)) ggX12_unit_X12_wrong
set_option maxRecDepth 20000 in
theorem ggX12_unit_X12_openUp : GoodIn wsX12_unit wsX12_openUp := goodIn_r _ [30, 17, 16, 3, 1, 31, 32, 33, 9, 34, 35, 25, 11, 5, 4, 36, 37, 38, 39, 40, 41, 42, 43, 44, 45, 46, 47, 48, 49, 50, 79, 80, 81, 82, 83, 84, 85, 86, 87, 88, 89, 90, 91, 92, 93, 94, 95, 96, 97, 98, 99, 100, 101, 102, 103, 104, 105, 106, 107, 108, 109, 110, 111, 112, 113, 114, 115, 116, 117, 118, 119, 120, 121, 122, 123, 124, 125, 126, 127, 128, 129, 130, 131, 132, 133, 134, 135, 136, 137, 138, 139, 140, 141, 142, 143, 144, 145, 146, 147, 148, 149, 150, 151, 152, 153] (by decide +kernel) (by decide +kernel)
set_option maxRecDepth 20000 in
theorem gX12_unit_X12_openUp : GoodIn wsX12_unit (wsV RX12 274 RX12 yX12_openUp wsX12_openUp) := goodIn_app (goodIn_of _ (by decide +kernel)) ggX12_unit_X12_openUp
set_option maxRecDepth 20000 in
theorem ggX12_unit_X12_isFull : GoodIn wsX12_unit wsX12_isFull := goodIn_r _ [54, 55, 56, 79, 80, 81, 82, 83, 84, 85, 86, 87, 88, 89, 90, 91, 92, 93, 94, 95, 96, 97, 98, 99, 100, 101, 102, 103, 104, 105, 106, 107, 108, 109, 110, 111, 112, 113, 114, 115, 116, 117, 118, 119, 120, 121, 122, 123, 124, 125, 126, 127, 128, 129, 130, 131, 132, 133, 134, 135, 136, 137, 138, 139, 140, 141, 142, 143, 144, 145, 146, 147, 148, 149, 150, 151, 152, 153] (by decide +kernel) (by decide +kernel)
set_option maxRecDepth 20000 in
theorem gX12_unit_X12_isFull : GoodIn wsX12_unit (wsV RX12 277 RX12 yX12_isFull wsX12_isFull) := goodIn_app (goodIn_of _ (by decide +kernel)) ggX12_unit_X12_isFull
set_option maxRecDepth 20000 in
theorem ggX12_unit_X12_countUnit : GoodIn wsX12_unit wsX12_countUnit := goodIn_r _ [60, 55, 56, 79, 80, 81, 82, 83, 84, 85, 86, 87, 88, 89, 90, 91, 92, 93, 94, 95, 96, 97, 98, 99, 100, 101, 102, 103, 104, 105, 106, 107, 108, 109, 110, 111, 112, 113, 114, 115, 116, 117, 118, 119, 120, 121, 122, 123, 124, 125, 126, 127, 128, 129, 130, 131, 132, 133, 134, 135, 136, 137, 138, 139, 140, 141, 142, 143, 144, 145, 146, 147, 148, 149, 150, 151, 152, 153] (by decide +kernel) (by decide +kernel)
set_option maxRecDepth 20000 in
theorem gX12_unit_X12_countUnit : GoodIn wsX12_unit (wsV RX12 280 RX12 yX12_countUnit wsX12_countUnit) := goodIn_app (goodIn_of _ (by decide +kernel)) ggX12_unit_X12_countUnit
set_option maxRecDepth 20000 in
theorem ggX12_unit_X12_asked : GoodIn wsX12_unit wsX12_asked := goodIn_r _ [64, 4, 11, 65, 66, 67, 68, 69, 70, 79, 80, 81, 82, 83, 84, 85, 86, 87, 88, 89, 90, 91, 92, 93, 94, 95, 96, 97, 98, 99, 100, 101, 102, 103, 104, 105, 106, 107, 108, 109, 110, 111, 112, 113, 114, 115, 116, 117, 118, 119, 120, 121, 122, 123, 124, 125, 126, 127, 128, 129, 130, 131, 132, 133, 134, 135, 136, 137, 138, 139, 140, 141, 142, 143, 144, 145, 146, 147, 148, 149, 150, 151, 152, 153] (by decide +kernel) (by decide +kernel)
set_option maxRecDepth 20000 in
theorem gX12_unit_X12_asked : GoodIn wsX12_unit (wsV RX12 283 RX12 yX12_asked wsX12_asked) := goodIn_app (goodIn_of _ (by decide +kernel)) ggX12_unit_X12_asked
set_option maxRecDepth 20000 in
theorem ggX12_unit_X12_add : GoodIn wsX12_unit wsX12_add := goodIn_r _ [74, 75, 76, 77, 78, 79, 80, 81, 82, 83, 84, 85, 86, 87, 88, 89, 90, 91, 92, 93, 94, 95, 96, 97, 98, 99, 100, 101, 102, 103, 104, 105, 106, 107, 108, 109, 110, 111, 112, 113, 114, 115, 116, 117, 118, 119, 120, 121, 122, 123, 124, 125, 126, 127, 128, 129, 130, 131, 132, 133, 134, 135, 136, 137, 138, 139, 140, 141, 142, 143, 144, 145, 146, 147, 148, 149, 150, 151, 152, 153] (by decide +kernel) (by decide +kernel)
set_option maxRecDepth 20000 in
theorem gX12_unit_X12_add : GoodIn wsX12_unit (wsV RX12 258 RX12 yX12_add wsX12_add) := goodIn_app (goodIn_of _ (by decide +kernel)) ggX12_unit_X12_add
set_option maxRecDepth 20000 in
theorem ggX12_unit_X12_token : GoodIn wsX12_unit wsX12_token := goodIn_r _ [34, 35, 25, 11, 5, 4, 36, 37, 38, 9, 39, 40, 41, 42, 43, 44, 45, 46, 47, 48, 49, 50, 79, 80, 81, 82, 83, 84, 85, 86, 87, 88, 89, 90, 91, 92, 93, 94, 95, 96, 97, 98, 99, 100, 101, 102, 103, 104, 105, 106, 107, 108, 109, 110, 111, 112, 113, 114, 115, 116, 117, 118, 119, 120, 121, 122, 123, 124, 125, 126, 127, 128, 129, 130, 131, 132, 133, 134, 135, 136, 137, 138, 139, 140, 141, 142, 143, 144, 145, 146, 147, 148, 149, 150, 151, 152, 153] (by decide +kernel) (by decide +kernel)
set_option maxRecDepth 20000 in
theorem gX12_unit_X12_token : GoodIn wsX12_unit (wsV RX12 231 RX12 yX12_token wsX12_token) := goodIn_app (goodIn_of _ (by decide +kernel)) ggX12_unit_X12_token
theorem dX12_unit_0 : decode cX12_unit 0 = .ok (.iconst 1, 1) := by decide +kernel
theorem dX12_unit_1 : decode cX12_unit 1 = .ok (.istore_n 1, 1) := by decide +kernel
theorem dX12_unit_2 : decode cX12_unit 2 = .ok (.iload_n 1, 1) := by decide +kernel
theorem dX12_unit_3 : decode cX12_unit 3 = .ok (.ifCond .eq 98, 3) := by decide +kernel
theorem dX12_unit_6 : decode cX12_unit 6 = .ok (.aload_n 0, 1) := by decide +kernel
theorem dX12_unit_7 : decode cX12_unit 7 = .ok (.getfield 179, 3) := by decide +kernel
theorem dX12_unit_10 : decode cX12_unit 10 = .ok (.ifCond .ne 91, 3) := by decide +kernel
theorem dX12_unit_13 : decode cX12_unit 13 = .ok (.aload_n 0, 1) := by decide +kernel
theorem dX12_unit_14 : decode cX12_unit 14 = .ok (.ldc2_w 218, 3) := by decide +kernel
theorem dX12_unit_17 : decode cX12_unit 17 = .ok (.invokevirtual 224, 3) := by decide +kernel
theorem dX12_unit_20 : decode cX12_unit 20 = .ok (.ifCond .eq 33, 3) := by decide +kernel
theorem dX12_unit_23 : decode cX12_unit 23 = .ok (.aload_n 0, 1) := by decide +kernel
theorem dX12_unit_24 : decode cX12_unit 24 = .ok (.invokevirtual 271, 3) := by decide +kernel
theorem dX12_unit_27 : decode cX12_unit 27 = .ok (.ifCond .eq 26, 3) := by decide +kernel
theorem dX12_unit_30 : decode cX12_unit 30 = .ok (.aload_n 0, 1) := by decide +kernel
theorem dX12_unit_31 : decode cX12_unit 31 = .ok (.getfield 262, 3) := by decide +kernel
theorem dX12_unit_34 : decode cX12_unit 34 = .ok (.bipush 6, 2) := by decide +kernel
theorem dX12_unit_36 : decode cX12_unit 36 = .ok (.if_icmp .le 8, 3) := by decide +kernel
theorem dX12_unit_39 : decode cX12_unit 39 = .ok (.aload_n 0, 1) := by decide +kernel
theorem dX12_unit_40 : decode cX12_unit 40 = .ok (.iconst 2, 1) := by decide +kernel
theorem dX12_unit_41 : decode cX12_unit 41 = .ok (.invokevirtual 228, 3) := by decide +kernel
theorem dX12_unit_44 : decode cX12_unit 44 = .ok (.aload_n 0, 1) := by decide +kernel
theorem dX12_unit_45 : decode cX12_unit 45 = .ok (.bipush 21, 2) := by decide +kernel
theorem dX12_unit_47 : decode cX12_unit 47 = .ok (.invokevirtual 274, 3) := by decide +kernel
theorem dX12_unit_50 : decode cX12_unit 50 = .ok (.goto (-48), 3) := by decide +kernel
theorem dX12_unit_53 : decode cX12_unit 53 = .ok (.aload_n 0, 1) := by decide +kernel
theorem dX12_unit_54 : decode cX12_unit 54 = .ok (.getfield 166, 3) := by decide +kernel
theorem dX12_unit_57 : decode cX12_unit 57 = .ok (.bipush 40, 2) := by decide +kernel
theorem dX12_unit_59 : decode cX12_unit 59 = .ok (.if_icmp .ne 37, 3) := by decide +kernel
theorem dX12_unit_62 : decode cX12_unit 62 = .ok (.aload_n 0, 1) := by decide +kernel
theorem dX12_unit_63 : decode cX12_unit 63 = .ok (.invokevirtual 277, 3) := by decide +kernel
theorem dX12_unit_66 : decode cX12_unit 66 = .ok (.ifCond .ne 12, 3) := by decide +kernel
theorem dX12_unit_69 : decode cX12_unit 69 = .ok (.aload_n 0, 1) := by decide +kernel
theorem dX12_unit_70 : decode cX12_unit 70 = .ok (.getfield 262, 3) := by decide +kernel
theorem dX12_unit_73 : decode cX12_unit 73 = .ok (.bipush 6, 2) := by decide +kernel
theorem dX12_unit_75 : decode cX12_unit 75 = .ok (.if_icmp .le 8, 3) := by decide +kernel
theorem dX12_unit_78 : decode cX12_unit 78 = .ok (.aload_n 0, 1) := by decide +kernel
theorem dX12_unit_79 : decode cX12_unit 79 = .ok (.iconst 2, 1) := by decide +kernel
theorem dX12_unit_80 : decode cX12_unit 80 = .ok (.invokevirtual 228, 3) := by decide +kernel
theorem dX12_unit_83 : decode cX12_unit 83 = .ok (.aload_n 0, 1) := by decide +kernel
theorem dX12_unit_84 : decode cX12_unit 84 = .ok (.invokevirtual 280, 3) := by decide +kernel
theorem dX12_unit_87 : decode cX12_unit 87 = .ok (.aload_n 0, 1) := by decide +kernel
theorem dX12_unit_88 : decode cX12_unit 88 = .ok (.bipush 20, 2) := by decide +kernel
theorem dX12_unit_90 : decode cX12_unit 90 = .ok (.invokevirtual 274, 3) := by decide +kernel
theorem dX12_unit_93 : decode cX12_unit 93 = .ok (.goto (-91), 3) := by decide +kernel
theorem dX12_unit_96 : decode cX12_unit 96 = .ok (.iconst 0, 1) := by decide +kernel
theorem dX12_unit_97 : decode cX12_unit 97 = .ok (.istore_n 1, 1) := by decide +kernel
theorem dX12_unit_98 : decode cX12_unit 98 = .ok (.goto (-96), 3) := by decide +kernel
theorem dX12_unit_101 : decode cX12_unit 101 = .ok (.aload_n 0, 1) := by decide +kernel
theorem dX12_unit_102 : decode cX12_unit 102 = .ok (.getfield 179, 3) := by decide +kernel
theorem dX12_unit_105 : decode cX12_unit 105 = .ok (.ifCond .le 4, 3) := by decide +kernel
theorem dX12_unit_108 : decode cX12_unit 108 = .ok (.return_, 1) := by decide +kernel
theorem dX12_unit_109 : decode cX12_unit 109 = .ok (.aload_n 0, 1) := by decide +kernel
theorem dX12_unit_110 : decode cX12_unit 110 = .ok (.invokevirtual 283, 3) := by decide +kernel
theorem dX12_unit_113 : decode cX12_unit 113 = .ok (.istore_n 2, 1) := by decide +kernel
theorem dX12_unit_114 : decode cX12_unit 114 = .ok (.aload_n 0, 1) := by decide +kernel
theorem dX12_unit_115 : decode cX12_unit 115 = .ok (.getfield 166, 3) := by decide +kernel
theorem dX12_unit_118 : decode cX12_unit 118 = .ok (.iconst 2, 1) := by decide +kernel
theorem dX12_unit_119 : decode cX12_unit 119 = .ok (.if_icmp .eq 7, 3) := by decide +kernel
theorem dX12_unit_122 : decode cX12_unit 122 = .ok (.iload_n 2, 1) := by decide +kernel
theorem dX12_unit_123 : decode cX12_unit 123 = .ok (.ifCond .lt 10, 3) := by decide +kernel
theorem dX12_unit_126 : decode cX12_unit 126 = .ok (.aload_n 0, 1) := by decide +kernel
theorem dX12_unit_127 : decode cX12_unit 127 = .ok (.invokevirtual 277, 3) := by decide +kernel
theorem dX12_unit_130 : decode cX12_unit 130 = .ok (.ifCond .eq 8, 3) := by decide +kernel
theorem dX12_unit_133 : decode cX12_unit 133 = .ok (.aload_n 0, 1) := by decide +kernel
theorem dX12_unit_134 : decode cX12_unit 134 = .ok (.iconst 2, 1) := by decide +kernel
theorem dX12_unit_135 : decode cX12_unit 135 = .ok (.invokevirtual 228, 3) := by decide +kernel
theorem dX12_unit_138 : decode cX12_unit 138 = .ok (.aload_n 0, 1) := by decide +kernel
theorem dX12_unit_139 : decode cX12_unit 139 = .ok (.getfield 179, 3) := by decide +kernel
theorem dX12_unit_142 : decode cX12_unit 142 = .ok (.ifCond .le 4, 3) := by decide +kernel
theorem dX12_unit_145 : decode cX12_unit 145 = .ok (.return_, 1) := by decide +kernel
theorem dX12_unit_146 : decode cX12_unit 146 = .ok (.aload_n 0, 1) := by decide +kernel
theorem dX12_unit_147 : decode cX12_unit 147 = .ok (.invokevirtual 280, 3) := by decide +kernel
theorem dX12_unit_150 : decode cX12_unit 150 = .ok (.aload_n 0, 1) := by decide +kernel
theorem dX12_unit_151 : decode cX12_unit 151 = .ok (.iload_n 2, 1) := by decide +kernel
theorem dX12_unit_152 : decode cX12_unit 152 = .ok (.ifCond .ge 7, 3) := by decide +kernel
theorem dX12_unit_155 : decode cX12_unit 155 = .ok (.iconst 0, 1) := by decide +kernel
theorem dX12_unit_156 : decode cX12_unit 156 = .ok (.goto 4, 3) := by decide +kernel
theorem dX12_unit_159 : decode cX12_unit 159 = .ok (.iconst 1, 1) := by decide +kernel
theorem dX12_unit_160 : decode cX12_unit 160 = .ok (.iload_n 2, 1) := by decide +kernel
theorem dX12_unit_161 : decode cX12_unit 161 = .ok (.ifCond .ge 10, 3) := by decide +kernel
theorem dX12_unit_164 : decode cX12_unit 164 = .ok (.aload_n 0, 1) := by decide +kernel
theorem dX12_unit_165 : decode cX12_unit 165 = .ok (.getfield 163, 3) := by decide +kernel
theorem dX12_unit_168 : decode cX12_unit 168 = .ok (.goto 4, 3) := by decide +kernel
theorem dX12_unit_171 : decode cX12_unit 171 = .ok (.iload_n 2, 1) := by decide +kernel
theorem dX12_unit_172 : decode cX12_unit 172 = .ok (.invokevirtual 258, 3) := by decide +kernel
theorem dX12_unit_175 : decode cX12_unit 175 = .ok (.aload_n 0, 1) := by decide +kernel
theorem dX12_unit_176 : decode cX12_unit 176 = .ok (.invokevirtual 231, 3) := by decide +kernel
theorem dX12_unit_179 : decode cX12_unit 179 = .ok (.return_, 1) := by decide +kernel
set_option maxRecDepth 20000 in
theorem ggX12_sign_X12_isWord : GoodIn wsX12_sign wsX12_isWord := goodIn_r _ [8, 3, 9, 10, 11, 12, 13, 14, 15, 16, 17, 18, 19, 20, 21, 22, 23, 24, 25, 26, 27, 28, 29, 30, 31, 32, 33, 34, 35, 36, 37, 38, 39, 40, 41, 42, 43, 44, 45, 46, 47, 48, 49, 50, 51, 52, 53, 54, 55, 56, 57, 58, 59, 60, 61, 62, 63, 64, 65, 66, 67, 68, 69, 70, 71, 72, 73, 74, 75, 76, 77, 78, 79, 80, 81, 82, 83, 84] (by decide +kernel) (by decide +kernel)
set_option maxRecDepth 20000 in
theorem gX12_sign_X12_isWord : GoodIn wsX12_sign (wsV RX12 224 RX12 yX12_isWord wsX12_isWord) := goodIn_app (goodIn_of _ (by decide +kernel)) ggX12_sign_X12_isWord
theorem dX12_sign_0 : decode cX12_sign 0 = .ok (.aload_n 0, 1) := by decide +kernel
theorem dX12_sign_1 : decode cX12_sign 1 = .ok (.ldc2_w 214, 3) := by decide +kernel
theorem dX12_sign_4 : decode cX12_sign 4 = .ok (.invokevirtual 224, 3) := by decide +kernel
theorem dX12_sign_7 : decode cX12_sign 7 = .ok (.ifCond .eq 6, 3) := by decide +kernel
theorem dX12_sign_10 : decode cX12_sign 10 = .ok (.bipush 38, 2) := by decide +kernel
theorem dX12_sign_12 : decode cX12_sign 12 = .ok (.ireturn, 1) := by decide +kernel
theorem dX12_sign_13 : decode cX12_sign 13 = .ok (.aload_n 0, 1) := by decide +kernel
theorem dX12_sign_14 : decode cX12_sign 14 = .ok (.ldc2_w 216, 3) := by decide +kernel
theorem dX12_sign_17 : decode cX12_sign 17 = .ok (.invokevirtual 224, 3) := by decide +kernel
theorem dX12_sign_20 : decode cX12_sign 20 = .ok (.ifCond .eq 6, 3) := by decide +kernel
theorem dX12_sign_23 : decode cX12_sign 23 = .ok (.bipush 124, 2) := by decide +kernel
theorem dX12_sign_25 : decode cX12_sign 25 = .ok (.ireturn, 1) := by decide +kernel
theorem dX12_sign_26 : decode cX12_sign 26 = .ok (.aload_n 0, 1) := by decide +kernel
theorem dX12_sign_27 : decode cX12_sign 27 = .ok (.getfield 166, 3) := by decide +kernel
theorem dX12_sign_30 : decode cX12_sign 30 = .ok (.bipush 60, 2) := by decide +kernel
theorem dX12_sign_32 : decode cX12_sign 32 = .ok (.if_icmp .eq 66, 3) := by decide +kernel
theorem dX12_sign_35 : decode cX12_sign 35 = .ok (.aload_n 0, 1) := by decide +kernel
theorem dX12_sign_36 : decode cX12_sign 36 = .ok (.getfield 166, 3) := by decide +kernel
theorem dX12_sign_39 : decode cX12_sign 39 = .ok (.bipush 62, 2) := by decide +kernel
theorem dX12_sign_41 : decode cX12_sign 41 = .ok (.if_icmp .eq 57, 3) := by decide +kernel
theorem dX12_sign_44 : decode cX12_sign 44 = .ok (.aload_n 0, 1) := by decide +kernel
theorem dX12_sign_45 : decode cX12_sign 45 = .ok (.getfield 166, 3) := by decide +kernel
theorem dX12_sign_48 : decode cX12_sign 48 = .ok (.bipush 61, 2) := by decide +kernel
theorem dX12_sign_50 : decode cX12_sign 50 = .ok (.if_icmp .eq 48, 3) := by decide +kernel
theorem dX12_sign_53 : decode cX12_sign 53 = .ok (.aload_n 0, 1) := by decide +kernel
theorem dX12_sign_54 : decode cX12_sign 54 = .ok (.getfield 166, 3) := by decide +kernel
theorem dX12_sign_57 : decode cX12_sign 57 = .ok (.bipush 43, 2) := by decide +kernel
theorem dX12_sign_59 : decode cX12_sign 59 = .ok (.if_icmp .eq 39, 3) := by decide +kernel
theorem dX12_sign_62 : decode cX12_sign 62 = .ok (.aload_n 0, 1) := by decide +kernel
theorem dX12_sign_63 : decode cX12_sign 63 = .ok (.getfield 166, 3) := by decide +kernel
theorem dX12_sign_66 : decode cX12_sign 66 = .ok (.bipush 45, 2) := by decide +kernel
theorem dX12_sign_68 : decode cX12_sign 68 = .ok (.if_icmp .eq 30, 3) := by decide +kernel
theorem dX12_sign_71 : decode cX12_sign 71 = .ok (.aload_n 0, 1) := by decide +kernel
theorem dX12_sign_72 : decode cX12_sign 72 = .ok (.getfield 166, 3) := by decide +kernel
theorem dX12_sign_75 : decode cX12_sign 75 = .ok (.bipush 42, 2) := by decide +kernel
theorem dX12_sign_77 : decode cX12_sign 77 = .ok (.if_icmp .eq 21, 3) := by decide +kernel
theorem dX12_sign_80 : decode cX12_sign 80 = .ok (.aload_n 0, 1) := by decide +kernel
theorem dX12_sign_81 : decode cX12_sign 81 = .ok (.getfield 166, 3) := by decide +kernel
theorem dX12_sign_84 : decode cX12_sign 84 = .ok (.bipush 47, 2) := by decide +kernel
theorem dX12_sign_86 : decode cX12_sign 86 = .ok (.if_icmp .eq 12, 3) := by decide +kernel
theorem dX12_sign_89 : decode cX12_sign 89 = .ok (.aload_n 0, 1) := by decide +kernel
theorem dX12_sign_90 : decode cX12_sign 90 = .ok (.getfield 166, 3) := by decide +kernel
theorem dX12_sign_93 : decode cX12_sign 93 = .ok (.bipush 37, 2) := by decide +kernel
theorem dX12_sign_95 : decode cX12_sign 95 = .ok (.if_icmp .ne 10, 3) := by decide +kernel
theorem dX12_sign_98 : decode cX12_sign 98 = .ok (.aload_n 0, 1) := by decide +kernel
theorem dX12_sign_99 : decode cX12_sign 99 = .ok (.getfield 166, 3) := by decide +kernel
theorem dX12_sign_102 : decode cX12_sign 102 = .ok (.goto 4, 3) := by decide +kernel
theorem dX12_sign_105 : decode cX12_sign 105 = .ok (.iconst 0, 1) := by decide +kernel
theorem dX12_sign_106 : decode cX12_sign 106 = .ok (.ireturn, 1) := by decide +kernel
theorem dX12_hasBracket_0 : decode cX12_hasBracket 0 = .ok (.iconst 0, 1) := by decide +kernel
theorem dX12_hasBracket_1 : decode cX12_hasBracket 1 = .ok (.istore_n 1, 1) := by decide +kernel
theorem dX12_hasBracket_2 : decode cX12_hasBracket 2 = .ok (.iconst 0, 1) := by decide +kernel
theorem dX12_hasBracket_3 : decode cX12_hasBracket 3 = .ok (.istore_n 2, 1) := by decide +kernel
theorem dX12_hasBracket_4 : decode cX12_hasBracket 4 = .ok (.iload_n 2, 1) := by decide +kernel
theorem dX12_hasBracket_5 : decode cX12_hasBracket 5 = .ok (.aload_n 0, 1) := by decide +kernel
theorem dX12_hasBracket_6 : decode cX12_hasBracket 6 = .ok (.getfield 252, 3) := by decide +kernel
theorem dX12_hasBracket_9 : decode cX12_hasBracket 9 = .ok (.if_icmp .ge 30, 3) := by decide +kernel
theorem dX12_hasBracket_12 : decode cX12_hasBracket 12 = .ok (.iload_n 1, 1) := by decide +kernel
theorem dX12_hasBracket_13 : decode cX12_hasBracket 13 = .ok (.ifCond .ne 14, 3) := by decide +kernel
theorem dX12_hasBracket_16 : decode cX12_hasBracket 16 = .ok (.aload_n 0, 1) := by decide +kernel
theorem dX12_hasBracket_17 : decode cX12_hasBracket 17 = .ok (.getfield 39, 3) := by decide +kernel
theorem dX12_hasBracket_20 : decode cX12_hasBracket 20 = .ok (.iload_n 2, 1) := by decide +kernel
theorem dX12_hasBracket_21 : decode cX12_hasBracket 21 = .ok (.iaload, 1) := by decide +kernel
theorem dX12_hasBracket_22 : decode cX12_hasBracket 22 = .ok (.bipush 20, 2) := by decide +kernel
theorem dX12_hasBracket_24 : decode cX12_hasBracket 24 = .ok (.if_icmp .ne 7, 3) := by decide +kernel
theorem dX12_hasBracket_27 : decode cX12_hasBracket 27 = .ok (.iconst 1, 1) := by decide +kernel
theorem dX12_hasBracket_28 : decode cX12_hasBracket 28 = .ok (.goto 4, 3) := by decide +kernel
theorem dX12_hasBracket_31 : decode cX12_hasBracket 31 = .ok (.iconst 0, 1) := by decide +kernel
theorem dX12_hasBracket_32 : decode cX12_hasBracket 32 = .ok (.istore_n 1, 1) := by decide +kernel
theorem dX12_hasBracket_33 : decode cX12_hasBracket 33 = .ok (.iinc 2 1, 3) := by decide +kernel
theorem dX12_hasBracket_36 : decode cX12_hasBracket 36 = .ok (.goto (-32), 3) := by decide +kernel
theorem dX12_hasBracket_39 : decode cX12_hasBracket 39 = .ok (.iload_n 1, 1) := by decide +kernel
theorem dX12_hasBracket_40 : decode cX12_hasBracket 40 = .ok (.ireturn, 1) := by decide +kernel
set_option maxRecDepth 20000 in
theorem ggX12_formula_X12_token : GoodIn wsX12_formula wsX12_token := goodIn_r _ [14, 15, 16, 17, 18, 8, 19, 20, 21, 13, 22, 23, 24, 25, 26, 27, 28, 29, 30, 31, 32, 33, 102, 103, 104, 105, 106, 107, 108, 109, 110, 111, 112, 113, 114, 115, 116, 117, 118, 119, 120, 121, 122, 123, 124, 125, 126, 127, 128, 129, 130, 131, 132, 133, 134, 135, 136, 137, 138, 139, 140, 141, 142, 143, 144, 145, 146, 147, 148, 149, 150, 151, 152, 153, 154, 155, 156, 157, 158, 159, 160, 161, 162, 163, 164, 165, 166, 167, 168, 169, 170, 171, 172, 173, 174, 175, 176] (by decide +kernel) (by decide +kernel)
set_option maxRecDepth 20000 in
theorem gX12_formula_X12_token : GoodIn wsX12_formula (wsV RX12 231 RX12 yX12_token wsX12_token) := goodIn_app (goodIn_of _ (by decide +kernel)) ggX12_formula_X12_token
set_option maxRecDepth 20000 in
theorem ggX12_formula_X12_unit : GoodIn wsX12_formula wsX12_unit := goodIn_r _ [37, 7, 38, 5, 8, 18, 39, 40, 41, 13, 42, 17, 43, 44, 45, 46, 4, 9, 47, 48, 49, 50, 51, 52, 53, 16, 54, 55, 56, 57, 58, 10, 11, 12, 14, 15, 19, 20, 21, 22, 23, 24, 25, 26, 27, 28, 29, 30, 31, 32, 33, 59, 60, 61, 62, 63, 6, 64, 65, 66, 67, 68, 69, 70, 71, 72, 73, 74, 75, 76, 77, 78, 79, 80, 81, 82, 1, 3, 83, 102, 103, 104, 105, 106, 107, 108, 109, 110, 111, 112, 113, 114, 115, 116, 117, 118, 119, 120, 121, 122, 123, 124, 125, 126, 127, 128, 129, 130, 131, 132, 133, 134, 135, 136, 137, 138, 139, 140, 141, 142, 143, 144, 145, 146, 147, 148, 149, 150, 151, 152, 153, 154, 155, 156, 157, 158, 159, 160, 161, 162, 163, 164, 165, 166, 167, 168, 169, 170, 171, 172, 173, 174, 175, 176] (by decide +kernel) (by decide +kernel)
set_option maxRecDepth 20000 in
theorem gX12_formula_X12_unit : GoodIn wsX12_formula (wsV RX12 287 RX12 yX12_unit wsX12_unit) := goodIn_app (goodIn_of _ (by decide +kernel)) ggX12_formula_X12_unit
set_option maxRecDepth 20000 in
theorem ggX12_formula_X12_sign : GoodIn wsX12_formula wsX12_sign := goodIn_r _ [87, 88, 89, 8, 39, 40, 41, 13, 42, 17, 102, 103, 104, 105, 106, 107, 108, 109, 110, 111, 112, 113, 114, 115, 116, 117, 118, 119, 120, 121, 122, 123, 124, 125, 126, 127, 128, 129, 130, 131, 132, 133, 134, 135, 136, 137, 138, 139, 140, 141, 142, 143, 144, 145, 146, 147, 148, 149, 150, 151, 152, 153, 154, 155, 156, 157, 158, 159, 160, 161, 162, 163, 164, 165, 166, 167, 168, 169, 170, 171, 172, 173, 174, 175, 176] (by decide +kernel) (by decide +kernel)
set_option maxRecDepth 20000 in
theorem gX12_formula_X12_sign : GoodIn wsX12_formula (wsV RX12 290 RX12 yX12_sign wsX12_sign) := goodIn_app (goodIn_of _ (by decide +kernel)) ggX12_formula_X12_sign
set_option maxRecDepth 20000 in
theorem ggX12_formula_X12_hasBracket : GoodIn wsX12_formula wsX12_hasBracket := goodIn_r _ [93, 4, 9, 102, 103, 104, 105, 106, 107, 108, 109, 110, 111, 112, 113, 114, 115, 116, 117, 118, 119, 120, 121, 122, 123, 124, 125, 126, 127, 128, 129, 130, 131, 132, 133, 134, 135, 136, 137, 138, 139, 140, 141, 142, 143, 144, 145, 146, 147, 148, 149, 150, 151, 152, 153, 154, 155, 156, 157, 158, 159, 160, 161, 162, 163, 164, 165, 166, 167, 168, 169, 170, 171, 172, 173, 174, 175, 176] (by decide +kernel) (by decide +kernel)
set_option maxRecDepth 20000 in
theorem gX12_formula_X12_hasBracket : GoodIn wsX12_formula (wsV RX12 293 RX12 yX12_hasBracket wsX12_hasBracket) := goodIn_app (goodIn_of _ (by decide +kernel)) ggX12_formula_X12_hasBracket
set_option maxRecDepth 20000 in
theorem ggX12_formula_X12_close : GoodIn wsX12_formula wsX12_close := goodIn_r _ [97, 4, 9, 5, 47, 48, 13, 49, 78, 79, 80, 81, 82, 1, 3, 83, 102, 103, 104, 105, 106, 107, 108, 109, 110, 111, 112, 113, 114, 115, 116, 117, 118, 119, 120, 121, 122, 123, 124, 125, 126, 127, 128, 129, 130, 131, 132, 133, 134, 135, 136, 137, 138, 139, 140, 141, 142, 143, 144, 145, 146, 147, 148, 149, 150, 151, 152, 153, 154, 155, 156, 157, 158, 159, 160, 161, 162, 163, 164, 165, 166, 167, 168, 169, 170, 171, 172, 173, 174, 175, 176] (by decide +kernel) (by decide +kernel)
set_option maxRecDepth 20000 in
theorem gX12_formula_X12_close : GoodIn wsX12_formula (wsV RX12 296 RX12 yX12_close wsX12_close) := goodIn_app (goodIn_of _ (by decide +kernel)) ggX12_formula_X12_close
set_option maxRecDepth 20000 in
theorem ggX12_formula_X12_tight : GoodIn wsX12_formula wsX12_tight := goodIn_r _ [49] (by decide +kernel) (by decide +kernel)
set_option maxRecDepth 20000 in
theorem gX12_formula_X12_tight : GoodIn wsX12_formula (va_wsS RX12 255 yX12_tight wsX12_tight) := goodIn_app (goodIn_of _ (by decide +kernel)) ggX12_formula_X12_tight
set_option maxRecDepth 20000 in
theorem ggX12_formula_X12_hasRelation : GoodIn wsX12_formula wsX12_hasRelation := goodIn_r _ [101, 4, 9, 47, 48, 13, 49, 102, 103, 104, 105, 106, 107, 108, 109, 110, 111, 112, 113, 114, 115, 116, 117, 118, 119, 120, 121, 122, 123, 124, 125, 126, 127, 128, 129, 130, 131, 132, 133, 134, 135, 136, 137, 138, 139, 140, 141, 142, 143, 144, 145, 146, 147, 148, 149, 150, 151, 152, 153, 154, 155, 156, 157, 158, 159, 160, 161, 162, 163, 164, 165, 166, 167, 168, 169, 170, 171, 172, 173, 174, 175, 176] (by decide +kernel) (by decide +kernel)
set_option maxRecDepth 20000 in
theorem gX12_formula_X12_hasRelation : GoodIn wsX12_formula (wsV RX12 299 RX12 yX12_hasRelation wsX12_hasRelation) := goodIn_app (goodIn_of _ (by decide +kernel)) ggX12_formula_X12_hasRelation
set_option maxRecDepth 20000 in
theorem ggX12_formula_X12_wrong : GoodIn wsX12_formula wsX12_wrong := goodIn_r _ [53, 7, 8, 16, 54, 102, 103, 104, 105, 106, 107, 108, 109, 110, 111, 112, 113, 114, 115, 116, 117, 118, 119, 120, 121, 122, 123, 124, 125, 126, 127, 128, 129, 130, 131, 132, 133, 134, 135, 136, 137, 138, 139, 140, 141, 142, 143, 144, 145, 146, 147, 148, 149, 150, 151, 152, 153, 154, 155, 156, 157, 158, 159, 160, 161, 162, 163, 164, 165, 166, 167, 168, 169, 170, 171, 172, 173, 174, 175, 176] (by decide +kernel) (by decide +kernel)
set_option maxRecDepth 20000 in
theorem gX12_formula_X12_wrong : GoodIn wsX12_formula (wsV RX12 228 RX12 yX12_wrong wsX12_wrong) := goodIn_app (goodIn_of _ (by decide +kernel)) ggX12_formula_X12_wrong
theorem dX12_formula_0 : decode cX12_formula 0 = .ok (.aload_n 0, 1) := by decide +kernel
theorem dX12_formula_1 : decode cX12_formula 1 = .ok (.invokevirtual 231, 3) := by decide +kernel
theorem dX12_formula_4 : decode cX12_formula 4 = .ok (.aload_n 0, 1) := by decide +kernel
theorem dX12_formula_5 : decode cX12_formula 5 = .ok (.iload_n 1, 1) := by decide +kernel
theorem dX12_formula_6 : decode cX12_formula 6 = .ok (.putfield 249, 3) := by decide +kernel
theorem dX12_formula_9 : decode cX12_formula 9 = .ok (.aload_n 0, 1) := by decide +kernel
theorem dX12_formula_10 : decode cX12_formula 10 = .ok (.getfield 45, 3) := by decide +kernel
theorem dX12_formula_13 : decode cX12_formula 13 = .ok (.aload_n 0, 1) := by decide +kernel
theorem dX12_formula_14 : decode cX12_formula 14 = .ok (.getfield 249, 3) := by decide +kernel
theorem dX12_formula_17 : decode cX12_formula 17 = .ok (.iconst 1, 1) := by decide +kernel
theorem dX12_formula_18 : decode cX12_formula 18 = .ok (.bastore, 1) := by decide +kernel
theorem dX12_formula_19 : decode cX12_formula 19 = .ok (.aload_n 0, 1) := by decide +kernel
theorem dX12_formula_20 : decode cX12_formula 20 = .ok (.getfield 27, 3) := by decide +kernel
theorem dX12_formula_23 : decode cX12_formula 23 = .ok (.aload_n 0, 1) := by decide +kernel
theorem dX12_formula_24 : decode cX12_formula 24 = .ok (.getfield 249, 3) := by decide +kernel
theorem dX12_formula_27 : decode cX12_formula 27 = .ok (.iconst 0, 1) := by decide +kernel
theorem dX12_formula_28 : decode cX12_formula 28 = .ok (.iastore, 1) := by decide +kernel
theorem dX12_formula_29 : decode cX12_formula 29 = .ok (.aload_n 0, 1) := by decide +kernel
theorem dX12_formula_30 : decode cX12_formula 30 = .ok (.iconst 0, 1) := by decide +kernel
theorem dX12_formula_31 : decode cX12_formula 31 = .ok (.putfield 252, 3) := by decide +kernel
theorem dX12_formula_34 : decode cX12_formula 34 = .ok (.aload_n 0, 1) := by decide +kernel
theorem dX12_formula_35 : decode cX12_formula 35 = .ok (.iconst 0, 1) := by decide +kernel
theorem dX12_formula_36 : decode cX12_formula 36 = .ok (.putfield 262, 3) := by decide +kernel
theorem dX12_formula_39 : decode cX12_formula 39 = .ok (.aload_n 0, 1) := by decide +kernel
theorem dX12_formula_40 : decode cX12_formula 40 = .ok (.iconst 0, 1) := by decide +kernel
theorem dX12_formula_41 : decode cX12_formula 41 = .ok (.putfield 268, 3) := by decide +kernel
theorem dX12_formula_44 : decode cX12_formula 44 = .ok (.aload_n 0, 1) := by decide +kernel
theorem dX12_formula_45 : decode cX12_formula 45 = .ok (.invokevirtual 287, 3) := by decide +kernel
theorem dX12_formula_48 : decode cX12_formula 48 = .ok (.iconst 1, 1) := by decide +kernel
theorem dX12_formula_49 : decode cX12_formula 49 = .ok (.istore_n 2, 1) := by decide +kernel
theorem dX12_formula_50 : decode cX12_formula 50 = .ok (.iload_n 2, 1) := by decide +kernel
theorem dX12_formula_51 : decode cX12_formula 51 = .ok (.ifCond .eq 126, 3) := by decide +kernel
theorem dX12_formula_54 : decode cX12_formula 54 = .ok (.aload_n 0, 1) := by decide +kernel
theorem dX12_formula_55 : decode cX12_formula 55 = .ok (.getfield 179, 3) := by decide +kernel
theorem dX12_formula_58 : decode cX12_formula 58 = .ok (.ifCond .ne 119, 3) := by decide +kernel
theorem dX12_formula_61 : decode cX12_formula 61 = .ok (.aload_n 0, 1) := by decide +kernel
theorem dX12_formula_62 : decode cX12_formula 62 = .ok (.invokevirtual 290, 3) := by decide +kernel
theorem dX12_formula_65 : decode cX12_formula 65 = .ok (.istore_n 3, 1) := by decide +kernel
theorem dX12_formula_66 : decode cX12_formula 66 = .ok (.aload_n 0, 1) := by decide +kernel
theorem dX12_formula_67 : decode cX12_formula 67 = .ok (.getfield 166, 3) := by decide +kernel
theorem dX12_formula_70 : decode cX12_formula 70 = .ok (.bipush 41, 2) := by decide +kernel
theorem dX12_formula_72 : decode cX12_formula 72 = .ok (.if_icmp .ne 42, 3) := by decide +kernel
theorem dX12_formula_75 : decode cX12_formula 75 = .ok (.aload_n 0, 1) := by decide +kernel
theorem dX12_formula_76 : decode cX12_formula 76 = .ok (.invokevirtual 293, 3) := by decide +kernel
theorem dX12_formula_79 : decode cX12_formula 79 = .ok (.ifCond .eq 35, 3) := by decide +kernel
theorem dX12_formula_82 : decode cX12_formula 82 = .ok (.aload_n 0, 1) := by decide +kernel
theorem dX12_formula_83 : decode cX12_formula 83 = .ok (.iconst 0, 1) := by decide +kernel
theorem dX12_formula_84 : decode cX12_formula 84 = .ok (.invokevirtual 296, 3) := by decide +kernel
theorem dX12_formula_87 : decode cX12_formula 87 = .ok (.aload_n 0, 1) := by decide +kernel
theorem dX12_formula_88 : decode cX12_formula 88 = .ok (.dup, 1) := by decide +kernel
theorem dX12_formula_89 : decode cX12_formula 89 = .ok (.getfield 252, 3) := by decide +kernel
theorem dX12_formula_92 : decode cX12_formula 92 = .ok (.iconst 1, 1) := by decide +kernel
theorem dX12_formula_93 : decode cX12_formula 93 = .ok (.isub, 1) := by decide +kernel
theorem dX12_formula_94 : decode cX12_formula 94 = .ok (.putfield 252, 3) := by decide +kernel
theorem dX12_formula_97 : decode cX12_formula 97 = .ok (.aload_n 0, 1) := by decide +kernel
theorem dX12_formula_98 : decode cX12_formula 98 = .ok (.dup, 1) := by decide +kernel
theorem dX12_formula_99 : decode cX12_formula 99 = .ok (.getfield 262, 3) := by decide +kernel
theorem dX12_formula_102 : decode cX12_formula 102 = .ok (.iconst 1, 1) := by decide +kernel
theorem dX12_formula_103 : decode cX12_formula 103 = .ok (.isub, 1) := by decide +kernel
theorem dX12_formula_104 : decode cX12_formula 104 = .ok (.putfield 262, 3) := by decide +kernel
theorem dX12_formula_107 : decode cX12_formula 107 = .ok (.aload_n 0, 1) := by decide +kernel
theorem dX12_formula_108 : decode cX12_formula 108 = .ok (.invokevirtual 231, 3) := by decide +kernel
theorem dX12_formula_111 : decode cX12_formula 111 = .ok (.goto 63, 3) := by decide +kernel
theorem dX12_formula_114 : decode cX12_formula 114 = .ok (.iload_n 3, 1) := by decide +kernel
theorem dX12_formula_115 : decode cX12_formula 115 = .ok (.ifCond .eq 57, 3) := by decide +kernel
theorem dX12_formula_118 : decode cX12_formula 118 = .ok (.iload_n 3, 1) := by decide +kernel
theorem dX12_formula_119 : decode cX12_formula 119 = .ok (.invokestatic 255, 3) := by decide +kernel
theorem dX12_formula_122 : decode cX12_formula 122 = .ok (.iconst 4, 1) := by decide +kernel
theorem dX12_formula_123 : decode cX12_formula 123 = .ok (.if_icmp .ne 10, 3) := by decide +kernel
theorem dX12_formula_126 : decode cX12_formula 126 = .ok (.aload_n 0, 1) := by decide +kernel
theorem dX12_formula_127 : decode cX12_formula 127 = .ok (.invokevirtual 299, 3) := by decide +kernel
theorem dX12_formula_130 : decode cX12_formula 130 = .ok (.ifCond .ne 42, 3) := by decide +kernel
theorem dX12_formula_133 : decode cX12_formula 133 = .ok (.aload_n 0, 1) := by decide +kernel
theorem dX12_formula_134 : decode cX12_formula 134 = .ok (.iload_n 3, 1) := by decide +kernel
theorem dX12_formula_135 : decode cX12_formula 135 = .ok (.invokestatic 255, 3) := by decide +kernel
theorem dX12_formula_138 : decode cX12_formula 138 = .ok (.invokevirtual 296, 3) := by decide +kernel
theorem dX12_formula_141 : decode cX12_formula 141 = .ok (.aload_n 0, 1) := by decide +kernel
theorem dX12_formula_142 : decode cX12_formula 142 = .ok (.getfield 39, 3) := by decide +kernel
theorem dX12_formula_145 : decode cX12_formula 145 = .ok (.aload_n 0, 1) := by decide +kernel
theorem dX12_formula_146 : decode cX12_formula 146 = .ok (.getfield 252, 3) := by decide +kernel
theorem dX12_formula_149 : decode cX12_formula 149 = .ok (.iload_n 3, 1) := by decide +kernel
theorem dX12_formula_150 : decode cX12_formula 150 = .ok (.iastore, 1) := by decide +kernel
theorem dX12_formula_151 : decode cX12_formula 151 = .ok (.aload_n 0, 1) := by decide +kernel
theorem dX12_formula_152 : decode cX12_formula 152 = .ok (.dup, 1) := by decide +kernel
theorem dX12_formula_153 : decode cX12_formula 153 = .ok (.getfield 252, 3) := by decide +kernel
theorem dX12_formula_156 : decode cX12_formula 156 = .ok (.iconst 1, 1) := by decide +kernel
theorem dX12_formula_157 : decode cX12_formula 157 = .ok (.iadd, 1) := by decide +kernel
theorem dX12_formula_158 : decode cX12_formula 158 = .ok (.putfield 252, 3) := by decide +kernel
theorem dX12_formula_161 : decode cX12_formula 161 = .ok (.aload_n 0, 1) := by decide +kernel
theorem dX12_formula_162 : decode cX12_formula 162 = .ok (.invokevirtual 231, 3) := by decide +kernel
theorem dX12_formula_165 : decode cX12_formula 165 = .ok (.aload_n 0, 1) := by decide +kernel
theorem dX12_formula_166 : decode cX12_formula 166 = .ok (.invokevirtual 287, 3) := by decide +kernel
theorem dX12_formula_169 : decode cX12_formula 169 = .ok (.goto 5, 3) := by decide +kernel
theorem dX12_formula_172 : decode cX12_formula 172 = .ok (.iconst 0, 1) := by decide +kernel
theorem dX12_formula_173 : decode cX12_formula 173 = .ok (.istore_n 2, 1) := by decide +kernel
theorem dX12_formula_174 : decode cX12_formula 174 = .ok (.goto (-124), 3) := by decide +kernel
theorem dX12_formula_177 : decode cX12_formula 177 = .ok (.aload_n 0, 1) := by decide +kernel
theorem dX12_formula_178 : decode cX12_formula 178 = .ok (.getfield 179, 3) := by decide +kernel
theorem dX12_formula_181 : decode cX12_formula 181 = .ok (.ifCond .ne 15, 3) := by decide +kernel
theorem dX12_formula_184 : decode cX12_formula 184 = .ok (.aload_n 0, 1) := by decide +kernel
theorem dX12_formula_185 : decode cX12_formula 185 = .ok (.invokevirtual 293, 3) := by decide +kernel
theorem dX12_formula_188 : decode cX12_formula 188 = .ok (.ifCond .eq 8, 3) := by decide +kernel
theorem dX12_formula_191 : decode cX12_formula 191 = .ok (.aload_n 0, 1) := by decide +kernel
theorem dX12_formula_192 : decode cX12_formula 192 = .ok (.iconst 2, 1) := by decide +kernel
theorem dX12_formula_193 : decode cX12_formula 193 = .ok (.invokevirtual 228, 3) := by decide +kernel
theorem dX12_formula_196 : decode cX12_formula 196 = .ok (.aload_n 0, 1) := by decide +kernel
theorem dX12_formula_197 : decode cX12_formula 197 = .ok (.getfield 179, 3) := by decide +kernel
theorem dX12_formula_200 : decode cX12_formula 200 = .ok (.ifCond .ne 8, 3) := by decide +kernel
theorem dX12_formula_203 : decode cX12_formula 203 = .ok (.aload_n 0, 1) := by decide +kernel
theorem dX12_formula_204 : decode cX12_formula 204 = .ok (.iconst 0, 1) := by decide +kernel
theorem dX12_formula_205 : decode cX12_formula 205 = .ok (.invokevirtual 296, 3) := by decide +kernel
theorem dX12_formula_208 : decode cX12_formula 208 = .ok (.return_, 1) := by decide +kernel
theorem dX12_truth_0 : decode cX12_truth 0 = .ok (.iload_n 0, 1) := by decide +kernel
theorem dX12_truth_1 : decode cX12_truth 1 = .ok (.ifCond .eq 7, 3) := by decide +kernel
theorem dX12_truth_4 : decode cX12_truth 4 = .ok (.iconst 1, 1) := by decide +kernel
theorem dX12_truth_5 : decode cX12_truth 5 = .ok (.goto 4, 3) := by decide +kernel
theorem dX12_truth_8 : decode cX12_truth 8 = .ok (.iconst 0, 1) := by decide +kernel
theorem dX12_truth_9 : decode cX12_truth 9 = .ok (.ireturn, 1) := by decide +kernel
set_option maxRecDepth 20000 in
theorem ggX12_done_X12_truth : GoodIn wsX12_done wsX12_truth := goodIn_r _ [4] (by decide +kernel) (by decide +kernel)
set_option maxRecDepth 20000 in
theorem gX12_done_X12_truth : GoodIn wsX12_done (va_wsS RX12 302 yX12_truth wsX12_truth) := goodIn_app (goodIn_of _ (by decide +kernel)) ggX12_done_X12_truth
theorem dX12_done_0 : decode cX12_done 0 = .ok (.iload_n 0, 1) := by decide +kernel
theorem dX12_done_1 : decode cX12_done 1 = .ok (.tableswitch 214 37 62 #[143, 197, 214, 214, 214, 127, 119, 214, 123, 214, 131, 214, 214, 214, 214, 214, 214, 214, 214, 214, 214, 214, 214, 155, 183, 169], 119) := by decide +kernel
theorem dX12_done_120 : decode cX12_done 120 = .ok (.iload_n 1, 1) := by decide +kernel
theorem dX12_done_121 : decode cX12_done 121 = .ok (.iload_n 2, 1) := by decide +kernel
theorem dX12_done_122 : decode cX12_done 122 = .ok (.iadd, 1) := by decide +kernel
theorem dX12_done_123 : decode cX12_done 123 = .ok (.ireturn, 1) := by decide +kernel
theorem dX12_done_124 : decode cX12_done 124 = .ok (.iload_n 1, 1) := by decide +kernel
theorem dX12_done_125 : decode cX12_done 125 = .ok (.iload_n 2, 1) := by decide +kernel
theorem dX12_done_126 : decode cX12_done 126 = .ok (.isub, 1) := by decide +kernel
theorem dX12_done_127 : decode cX12_done 127 = .ok (.ireturn, 1) := by decide +kernel
theorem dX12_done_128 : decode cX12_done 128 = .ok (.iload_n 1, 1) := by decide +kernel
theorem dX12_done_129 : decode cX12_done 129 = .ok (.iload_n 2, 1) := by decide +kernel
theorem dX12_done_130 : decode cX12_done 130 = .ok (.imul, 1) := by decide +kernel
theorem dX12_done_131 : decode cX12_done 131 = .ok (.ireturn, 1) := by decide +kernel
theorem dX12_done_132 : decode cX12_done 132 = .ok (.iload_n 2, 1) := by decide +kernel
theorem dX12_done_133 : decode cX12_done 133 = .ok (.ifCond .ne 7, 3) := by decide +kernel
theorem dX12_done_136 : decode cX12_done 136 = .ok (.iconst 0, 1) := by decide +kernel
theorem dX12_done_137 : decode cX12_done 137 = .ok (.goto 6, 3) := by decide +kernel
theorem dX12_done_140 : decode cX12_done 140 = .ok (.iload_n 1, 1) := by decide +kernel
theorem dX12_done_141 : decode cX12_done 141 = .ok (.iload_n 2, 1) := by decide +kernel
theorem dX12_done_142 : decode cX12_done 142 = .ok (.idiv, 1) := by decide +kernel
theorem dX12_done_143 : decode cX12_done 143 = .ok (.ireturn, 1) := by decide +kernel
theorem dX12_done_144 : decode cX12_done 144 = .ok (.iload_n 2, 1) := by decide +kernel
theorem dX12_done_145 : decode cX12_done 145 = .ok (.ifCond .ne 7, 3) := by decide +kernel
theorem dX12_done_148 : decode cX12_done 148 = .ok (.iconst 0, 1) := by decide +kernel
theorem dX12_done_149 : decode cX12_done 149 = .ok (.goto 6, 3) := by decide +kernel
theorem dX12_done_152 : decode cX12_done 152 = .ok (.iload_n 1, 1) := by decide +kernel
theorem dX12_done_153 : decode cX12_done 153 = .ok (.iload_n 2, 1) := by decide +kernel
theorem dX12_done_154 : decode cX12_done 154 = .ok (.irem, 1) := by decide +kernel
theorem dX12_done_155 : decode cX12_done 155 = .ok (.ireturn, 1) := by decide +kernel
theorem dX12_done_156 : decode cX12_done 156 = .ok (.iload_n 1, 1) := by decide +kernel
theorem dX12_done_157 : decode cX12_done 157 = .ok (.iload_n 2, 1) := by decide +kernel
theorem dX12_done_158 : decode cX12_done 158 = .ok (.if_icmp .ge 7, 3) := by decide +kernel
theorem dX12_done_161 : decode cX12_done 161 = .ok (.iconst 1, 1) := by decide +kernel
theorem dX12_done_162 : decode cX12_done 162 = .ok (.goto 4, 3) := by decide +kernel
theorem dX12_done_165 : decode cX12_done 165 = .ok (.iconst 0, 1) := by decide +kernel
theorem dX12_done_166 : decode cX12_done 166 = .ok (.invokestatic 302, 3) := by decide +kernel
theorem dX12_done_169 : decode cX12_done 169 = .ok (.ireturn, 1) := by decide +kernel
theorem dX12_done_170 : decode cX12_done 170 = .ok (.iload_n 1, 1) := by decide +kernel
theorem dX12_done_171 : decode cX12_done 171 = .ok (.iload_n 2, 1) := by decide +kernel
theorem dX12_done_172 : decode cX12_done 172 = .ok (.if_icmp .le 7, 3) := by decide +kernel
theorem dX12_done_175 : decode cX12_done 175 = .ok (.iconst 1, 1) := by decide +kernel
theorem dX12_done_176 : decode cX12_done 176 = .ok (.goto 4, 3) := by decide +kernel
theorem dX12_done_179 : decode cX12_done 179 = .ok (.iconst 0, 1) := by decide +kernel
theorem dX12_done_180 : decode cX12_done 180 = .ok (.invokestatic 302, 3) := by decide +kernel
theorem dX12_done_183 : decode cX12_done 183 = .ok (.ireturn, 1) := by decide +kernel
theorem dX12_done_184 : decode cX12_done 184 = .ok (.iload_n 1, 1) := by decide +kernel
theorem dX12_done_185 : decode cX12_done 185 = .ok (.iload_n 2, 1) := by decide +kernel
theorem dX12_done_186 : decode cX12_done 186 = .ok (.if_icmp .ne 7, 3) := by decide +kernel
theorem dX12_done_189 : decode cX12_done 189 = .ok (.iconst 1, 1) := by decide +kernel
theorem dX12_done_190 : decode cX12_done 190 = .ok (.goto 4, 3) := by decide +kernel
theorem dX12_done_193 : decode cX12_done 193 = .ok (.iconst 0, 1) := by decide +kernel
theorem dX12_done_194 : decode cX12_done 194 = .ok (.invokestatic 302, 3) := by decide +kernel
theorem dX12_done_197 : decode cX12_done 197 = .ok (.ireturn, 1) := by decide +kernel
theorem dX12_done_198 : decode cX12_done 198 = .ok (.iload_n 1, 1) := by decide +kernel
theorem dX12_done_199 : decode cX12_done 199 = .ok (.ifCond .eq 11, 3) := by decide +kernel
theorem dX12_done_202 : decode cX12_done 202 = .ok (.iload_n 2, 1) := by decide +kernel
theorem dX12_done_203 : decode cX12_done 203 = .ok (.ifCond .eq 7, 3) := by decide +kernel
theorem dX12_done_206 : decode cX12_done 206 = .ok (.iconst 1, 1) := by decide +kernel
theorem dX12_done_207 : decode cX12_done 207 = .ok (.goto 4, 3) := by decide +kernel
theorem dX12_done_210 : decode cX12_done 210 = .ok (.iconst 0, 1) := by decide +kernel
theorem dX12_done_211 : decode cX12_done 211 = .ok (.invokestatic 302, 3) := by decide +kernel
theorem dX12_done_214 : decode cX12_done 214 = .ok (.ireturn, 1) := by decide +kernel
theorem dX12_done_215 : decode cX12_done 215 = .ok (.iload_n 1, 1) := by decide +kernel
theorem dX12_done_216 : decode cX12_done 216 = .ok (.ifCond .ne 7, 3) := by decide +kernel
theorem dX12_done_219 : decode cX12_done 219 = .ok (.iload_n 2, 1) := by decide +kernel
theorem dX12_done_220 : decode cX12_done 220 = .ok (.ifCond .eq 7, 3) := by decide +kernel
theorem dX12_done_223 : decode cX12_done 223 = .ok (.iconst 1, 1) := by decide +kernel
theorem dX12_done_224 : decode cX12_done 224 = .ok (.goto 4, 3) := by decide +kernel
theorem dX12_done_227 : decode cX12_done 227 = .ok (.iconst 0, 1) := by decide +kernel
theorem dX12_done_228 : decode cX12_done 228 = .ok (.invokestatic 302, 3) := by decide +kernel
theorem dX12_done_231 : decode cX12_done 231 = .ok (.ireturn, 1) := by decide +kernel
set_option maxRecDepth 20000 in
theorem ggX12_worked_X12_truth : GoodIn wsX12_worked wsX12_truth := goodIn_r _ [9] (by decide +kernel) (by decide +kernel)
set_option maxRecDepth 20000 in
theorem gX12_worked_X12_truth : GoodIn wsX12_worked (va_wsS RX12 302 yX12_truth wsX12_truth) := goodIn_app (goodIn_of _ (by decide +kernel)) ggX12_worked_X12_truth
set_option maxRecDepth 20000 in
theorem ggX12_worked_X12_done : GoodIn wsX12_worked wsX12_done := goodIn_r _ [12, 6, 7, 8, 9] (by decide +kernel) (by decide +kernel)
set_option maxRecDepth 20000 in
theorem gX12_worked_X12_done : GoodIn wsX12_worked (va_wsS RX12 306 yX12_done wsX12_done) := goodIn_app (goodIn_of _ (by decide +kernel)) ggX12_worked_X12_done
theorem dX12_worked_0 : decode cX12_worked 0 = .ok (.iconst 0, 1) := by decide +kernel
theorem dX12_worked_1 : decode cX12_worked 1 = .ok (.istore_n 3, 1) := by decide +kernel
theorem dX12_worked_2 : decode cX12_worked 2 = .ok (.aload_n 0, 1) := by decide +kernel
theorem dX12_worked_3 : decode cX12_worked 3 = .ok (.getfield 42, 3) := by decide +kernel
theorem dX12_worked_6 : decode cX12_worked 6 = .ok (.iconst 0, 1) := by decide +kernel
theorem dX12_worked_7 : decode cX12_worked 7 = .ok (.iload_n 2, 1) := by decide +kernel
theorem dX12_worked_8 : decode cX12_worked 8 = .ok (.iastore, 1) := by decide +kernel
theorem dX12_worked_9 : decode cX12_worked 9 = .ok (.sipush 320, 3) := by decide +kernel
theorem dX12_worked_12 : decode cX12_worked 12 = .ok (.iload_n 1, 1) := by decide +kernel
theorem dX12_worked_13 : decode cX12_worked 13 = .ok (.imul, 1) := by decide +kernel
theorem dX12_worked_14 : decode cX12_worked 14 = .ok (.istore 4, 2) := by decide +kernel
theorem dX12_worked_16 : decode cX12_worked 16 = .ok (.iload 4, 2) := by decide +kernel
theorem dX12_worked_18 : decode cX12_worked 18 = .ok (.sipush 320, 3) := by decide +kernel
theorem dX12_worked_21 : decode cX12_worked 21 = .ok (.iload_n 1, 1) := by decide +kernel
theorem dX12_worked_22 : decode cX12_worked 22 = .ok (.imul, 1) := by decide +kernel
theorem dX12_worked_23 : decode cX12_worked 23 = .ok (.aload_n 0, 1) := by decide +kernel
theorem dX12_worked_24 : decode cX12_worked 24 = .ok (.getfield 36, 3) := by decide +kernel
theorem dX12_worked_27 : decode cX12_worked 27 = .ok (.iload_n 1, 1) := by decide +kernel
theorem dX12_worked_28 : decode cX12_worked 28 = .ok (.iaload, 1) := by decide +kernel
theorem dX12_worked_29 : decode cX12_worked 29 = .ok (.iadd, 1) := by decide +kernel
theorem dX12_worked_30 : decode cX12_worked 30 = .ok (.if_icmp .ge 150, 3) := by decide +kernel
theorem dX12_worked_33 : decode cX12_worked 33 = .ok (.aload_n 0, 1) := by decide +kernel
theorem dX12_worked_34 : decode cX12_worked 34 = .ok (.getfield 30, 3) := by decide +kernel
theorem dX12_worked_37 : decode cX12_worked 37 = .ok (.iload 4, 2) := by decide +kernel
theorem dX12_worked_39 : decode cX12_worked 39 = .ok (.iaload, 1) := by decide +kernel
theorem dX12_worked_40 : decode cX12_worked 40 = .ok (.ifCond .eq 14, 3) := by decide +kernel
theorem dX12_worked_43 : decode cX12_worked 43 = .ok (.aload_n 0, 1) := by decide +kernel
theorem dX12_worked_44 : decode cX12_worked 44 = .ok (.getfield 30, 3) := by decide +kernel
theorem dX12_worked_47 : decode cX12_worked 47 = .ok (.iload 4, 2) := by decide +kernel
theorem dX12_worked_49 : decode cX12_worked 49 = .ok (.iaload, 1) := by decide +kernel
theorem dX12_worked_50 : decode cX12_worked 50 = .ok (.iconst 1, 1) := by decide +kernel
theorem dX12_worked_51 : decode cX12_worked 51 = .ok (.if_icmp .ne 47, 3) := by decide +kernel
theorem dX12_worked_54 : decode cX12_worked 54 = .ok (.aload_n 0, 1) := by decide +kernel
theorem dX12_worked_55 : decode cX12_worked 55 = .ok (.getfield 42, 3) := by decide +kernel
theorem dX12_worked_58 : decode cX12_worked 58 = .ok (.iload_n 3, 1) := by decide +kernel
theorem dX12_worked_59 : decode cX12_worked 59 = .ok (.aload_n 0, 1) := by decide +kernel
theorem dX12_worked_60 : decode cX12_worked 60 = .ok (.getfield 30, 3) := by decide +kernel
theorem dX12_worked_63 : decode cX12_worked 63 = .ok (.iload 4, 2) := by decide +kernel
theorem dX12_worked_65 : decode cX12_worked 65 = .ok (.iaload, 1) := by decide +kernel
theorem dX12_worked_66 : decode cX12_worked 66 = .ok (.ifCond .ne 13, 3) := by decide +kernel
theorem dX12_worked_69 : decode cX12_worked 69 = .ok (.aload_n 0, 1) := by decide +kernel
theorem dX12_worked_70 : decode cX12_worked 70 = .ok (.getfield 33, 3) := by decide +kernel
theorem dX12_worked_73 : decode cX12_worked 73 = .ok (.iload 4, 2) := by decide +kernel
theorem dX12_worked_75 : decode cX12_worked 75 = .ok (.iaload, 1) := by decide +kernel
theorem dX12_worked_76 : decode cX12_worked 76 = .ok (.goto 15, 3) := by decide +kernel
theorem dX12_worked_79 : decode cX12_worked 79 = .ok (.aload_n 0, 1) := by decide +kernel
theorem dX12_worked_80 : decode cX12_worked 80 = .ok (.getfield 49, 3) := by decide +kernel
theorem dX12_worked_83 : decode cX12_worked 83 = .ok (.aload_n 0, 1) := by decide +kernel
theorem dX12_worked_84 : decode cX12_worked 84 = .ok (.getfield 33, 3) := by decide +kernel
theorem dX12_worked_87 : decode cX12_worked 87 = .ok (.iload 4, 2) := by decide +kernel
theorem dX12_worked_89 : decode cX12_worked 89 = .ok (.iaload, 1) := by decide +kernel
theorem dX12_worked_90 : decode cX12_worked 90 = .ok (.iaload, 1) := by decide +kernel
theorem dX12_worked_91 : decode cX12_worked 91 = .ok (.iastore, 1) := by decide +kernel
theorem dX12_worked_92 : decode cX12_worked 92 = .ok (.iinc 3 1, 3) := by decide +kernel
theorem dX12_worked_95 : decode cX12_worked 95 = .ok (.goto 79, 3) := by decide +kernel
theorem dX12_worked_98 : decode cX12_worked 98 = .ok (.aload_n 0, 1) := by decide +kernel
theorem dX12_worked_99 : decode cX12_worked 99 = .ok (.getfield 30, 3) := by decide +kernel
theorem dX12_worked_102 : decode cX12_worked 102 = .ok (.iload 4, 2) := by decide +kernel
theorem dX12_worked_104 : decode cX12_worked 104 = .ok (.iaload, 1) := by decide +kernel
theorem dX12_worked_105 : decode cX12_worked 105 = .ok (.iconst 2, 1) := by decide +kernel
theorem dX12_worked_106 : decode cX12_worked 106 = .ok (.if_icmp .ne 33, 3) := by decide +kernel
theorem dX12_worked_109 : decode cX12_worked 109 = .ok (.aload_n 0, 1) := by decide +kernel
theorem dX12_worked_110 : decode cX12_worked 110 = .ok (.getfield 42, 3) := by decide +kernel
theorem dX12_worked_113 : decode cX12_worked 113 = .ok (.iload_n 3, 1) := by decide +kernel
theorem dX12_worked_114 : decode cX12_worked 114 = .ok (.iconst 1, 1) := by decide +kernel
theorem dX12_worked_115 : decode cX12_worked 115 = .ok (.isub, 1) := by decide +kernel
theorem dX12_worked_116 : decode cX12_worked 116 = .ok (.aload_n 0, 1) := by decide +kernel
theorem dX12_worked_117 : decode cX12_worked 117 = .ok (.getfield 42, 3) := by decide +kernel
theorem dX12_worked_120 : decode cX12_worked 120 = .ok (.iload_n 3, 1) := by decide +kernel
theorem dX12_worked_121 : decode cX12_worked 121 = .ok (.iconst 1, 1) := by decide +kernel
theorem dX12_worked_122 : decode cX12_worked 122 = .ok (.isub, 1) := by decide +kernel
theorem dX12_worked_123 : decode cX12_worked 123 = .ok (.iaload, 1) := by decide +kernel
theorem dX12_worked_124 : decode cX12_worked 124 = .ok (.ifCond .ne 7, 3) := by decide +kernel
theorem dX12_worked_127 : decode cX12_worked 127 = .ok (.iconst 1, 1) := by decide +kernel
theorem dX12_worked_128 : decode cX12_worked 128 = .ok (.goto 4, 3) := by decide +kernel
theorem dX12_worked_131 : decode cX12_worked 131 = .ok (.iconst 0, 1) := by decide +kernel
theorem dX12_worked_132 : decode cX12_worked 132 = .ok (.invokestatic 302, 3) := by decide +kernel
theorem dX12_worked_135 : decode cX12_worked 135 = .ok (.iastore, 1) := by decide +kernel
theorem dX12_worked_136 : decode cX12_worked 136 = .ok (.goto 38, 3) := by decide +kernel
theorem dX12_worked_139 : decode cX12_worked 139 = .ok (.iinc 3 (-1), 3) := by decide +kernel
theorem dX12_worked_142 : decode cX12_worked 142 = .ok (.aload_n 0, 1) := by decide +kernel
theorem dX12_worked_143 : decode cX12_worked 143 = .ok (.getfield 42, 3) := by decide +kernel
theorem dX12_worked_146 : decode cX12_worked 146 = .ok (.iload_n 3, 1) := by decide +kernel
theorem dX12_worked_147 : decode cX12_worked 147 = .ok (.iconst 1, 1) := by decide +kernel
theorem dX12_worked_148 : decode cX12_worked 148 = .ok (.isub, 1) := by decide +kernel
theorem dX12_worked_149 : decode cX12_worked 149 = .ok (.aload_n 0, 1) := by decide +kernel
theorem dX12_worked_150 : decode cX12_worked 150 = .ok (.getfield 33, 3) := by decide +kernel
theorem dX12_worked_153 : decode cX12_worked 153 = .ok (.iload 4, 2) := by decide +kernel
theorem dX12_worked_155 : decode cX12_worked 155 = .ok (.iaload, 1) := by decide +kernel
theorem dX12_worked_156 : decode cX12_worked 156 = .ok (.aload_n 0, 1) := by decide +kernel
theorem dX12_worked_157 : decode cX12_worked 157 = .ok (.getfield 42, 3) := by decide +kernel
theorem dX12_worked_160 : decode cX12_worked 160 = .ok (.iload_n 3, 1) := by decide +kernel
theorem dX12_worked_161 : decode cX12_worked 161 = .ok (.iconst 1, 1) := by decide +kernel
theorem dX12_worked_162 : decode cX12_worked 162 = .ok (.isub, 1) := by decide +kernel
theorem dX12_worked_163 : decode cX12_worked 163 = .ok (.iaload, 1) := by decide +kernel
theorem dX12_worked_164 : decode cX12_worked 164 = .ok (.aload_n 0, 1) := by decide +kernel
theorem dX12_worked_165 : decode cX12_worked 165 = .ok (.getfield 42, 3) := by decide +kernel
theorem dX12_worked_168 : decode cX12_worked 168 = .ok (.iload_n 3, 1) := by decide +kernel
theorem dX12_worked_169 : decode cX12_worked 169 = .ok (.iaload, 1) := by decide +kernel
theorem dX12_worked_170 : decode cX12_worked 170 = .ok (.invokestatic 306, 3) := by decide +kernel
theorem dX12_worked_173 : decode cX12_worked 173 = .ok (.iastore, 1) := by decide +kernel
theorem dX12_worked_174 : decode cX12_worked 174 = .ok (.iinc 4 1, 3) := by decide +kernel
theorem dX12_worked_177 : decode cX12_worked 177 = .ok (.goto (-161), 3) := by decide +kernel
theorem dX12_worked_180 : decode cX12_worked 180 = .ok (.aload_n 0, 1) := by decide +kernel
theorem dX12_worked_181 : decode cX12_worked 181 = .ok (.getfield 42, 3) := by decide +kernel
theorem dX12_worked_184 : decode cX12_worked 184 = .ok (.iconst 0, 1) := by decide +kernel
theorem dX12_worked_185 : decode cX12_worked 185 = .ok (.iaload, 1) := by decide +kernel
theorem dX12_worked_186 : decode cX12_worked 186 = .ok (.ireturn, 1) := by decide +kernel
set_option maxRecDepth 20000 in
theorem ggX12_readTier_X12_newName : GoodIn wsX12_readTier wsX12_newName := goodIn_r _ [12, 7, 13, 14, 15, 16, 17, 11, 18, 19, 20, 21, 22, 23, 24, 25, 26, 27, 28, 29, 30, 31, 32, 33, 34, 35, 36, 37, 38, 39, 40, 41, 42, 43, 44, 45, 46, 4, 6, 47, 48, 49, 50, 51, 52, 53, 54, 55, 56, 57, 58, 59, 60, 61, 62, 63, 64, 65, 66, 67, 84, 85, 86, 87, 88, 89, 90, 91, 92, 93, 94, 95, 96, 97, 98, 99, 100, 101, 102, 103, 104, 105, 106, 107, 108, 109, 110, 111, 112, 113, 114, 115, 116, 117, 118, 119, 120, 121, 122, 123, 124, 125, 126, 127, 128, 129, 130, 131, 132, 133, 134, 135, 136, 137, 138, 139, 140, 141, 142, 143, 144, 145, 146, 147, 148, 149, 150, 151, 152, 153, 154, 155, 156, 157, 158] (by decide +kernel) (by decide +kernel)
set_option maxRecDepth 20000 in
theorem gX12_readTier_X12_newName : GoodIn wsX12_readTier (wsV RX12 313 RX12 yX12_newName wsX12_newName) := goodIn_app (goodIn_of _ (by decide +kernel)) ggX12_readTier_X12_newName
set_option maxRecDepth 20000 in
theorem ggX12_readTier_X12_toldNumber : GoodIn wsX12_readTier wsX12_toldNumber := goodIn_r _ [71, 7, 22, 21, 63, 64, 65, 11, 66, 20, 67, 15, 16, 17, 18, 19, 14, 23, 24, 25, 26, 27, 28, 29, 30, 31, 32, 33, 34, 35, 36, 37, 84, 85, 86, 87, 88, 89, 90, 91, 92, 93, 94, 95, 96, 97, 98, 99, 100, 101, 102, 103, 104, 105, 106, 107, 108, 109, 110, 111, 112, 113, 114, 115, 116, 117, 118, 119, 120, 121, 122, 123, 124, 125, 126, 127, 128, 129, 130, 131, 132, 133, 134, 135, 136, 137, 138, 139, 140, 141, 142, 143, 144, 145, 146, 147, 148, 149, 150, 151, 152, 153, 154, 155, 156, 157, 158] (by decide +kernel) (by decide +kernel)
set_option maxRecDepth 20000 in
theorem gX12_readTier_X12_toldNumber : GoodIn wsX12_readTier (wsV RX12 238 RX12 yX12_toldNumber wsX12_toldNumber) := goodIn_app (goodIn_of _ (by decide +kernel)) ggX12_readTier_X12_toldNumber
set_option maxRecDepth 20000 in
theorem ggX12_readTier_X12_told : GoodIn wsX12_readTier wsX12_told := goodIn_r _ [75, 76, 77, 78, 11, 79, 7, 80, 81, 82, 83, 22, 14, 63, 64, 65, 66, 20, 67, 15, 16, 17, 18, 19, 21, 23, 24, 25, 26, 27, 28, 29, 30, 31, 32, 33, 34, 35, 36, 37, 68, 69, 70, 71, 84, 85, 86, 87, 88, 89, 90, 91, 92, 93, 94, 95, 96, 97, 98, 99, 100, 101, 102, 103, 104, 105, 106, 107, 108, 109, 110, 111, 112, 113, 114, 115, 116, 117, 118, 119, 120, 121, 122, 123, 124, 125, 126, 127, 128, 129, 130, 131, 132, 133, 134, 135, 136, 137, 138, 139, 140, 141, 142, 143, 144, 145, 146, 147, 148, 149, 150, 151, 152, 153, 154, 155, 156, 157, 158] (by decide +kernel) (by decide +kernel)
set_option maxRecDepth 20000 in
theorem gX12_readTier_X12_told : GoodIn wsX12_readTier (wsV RX12 242 RX12 yX12_told wsX12_told) := goodIn_app (goodIn_of _ (by decide +kernel)) ggX12_readTier_X12_told
theorem dX12_readTier_0 : decode cX12_readTier 0 = .ok (.aload_n 0, 1) := by decide +kernel
theorem dX12_readTier_1 : decode cX12_readTier 1 = .ok (.iconst 0, 1) := by decide +kernel
theorem dX12_readTier_2 : decode cX12_readTier 2 = .ok (.aload_n 0, 1) := by decide +kernel
theorem dX12_readTier_3 : decode cX12_readTier 3 = .ok (.getfield 310, 3) := by decide +kernel
theorem dX12_readTier_6 : decode cX12_readTier 6 = .ok (.invokevirtual 313, 3) := by decide +kernel
theorem dX12_readTier_9 : decode cX12_readTier 9 = .ok (.aload_n 0, 1) := by decide +kernel
theorem dX12_readTier_10 : decode cX12_readTier 10 = .ok (.getfield 310, 3) := by decide +kernel
theorem dX12_readTier_13 : decode cX12_readTier 13 = .ok (.istore_n 1, 1) := by decide +kernel
theorem dX12_readTier_14 : decode cX12_readTier 14 = .ok (.aload_n 0, 1) := by decide +kernel
theorem dX12_readTier_15 : decode cX12_readTier 15 = .ok (.getfield 52, 3) := by decide +kernel
theorem dX12_readTier_18 : decode cX12_readTier 18 = .ok (.iload_n 1, 1) := by decide +kernel
theorem dX12_readTier_19 : decode cX12_readTier 19 = .ok (.aload_n 0, 1) := by decide +kernel
theorem dX12_readTier_20 : decode cX12_readTier 20 = .ok (.iconst 1, 1) := by decide +kernel
theorem dX12_readTier_21 : decode cX12_readTier 21 = .ok (.bipush 8, 2) := by decide +kernel
theorem dX12_readTier_23 : decode cX12_readTier 23 = .ok (.invokevirtual 238, 3) := by decide +kernel
theorem dX12_readTier_26 : decode cX12_readTier 26 = .ok (.iastore, 1) := by decide +kernel
theorem dX12_readTier_27 : decode cX12_readTier 27 = .ok (.aload_n 0, 1) := by decide +kernel
theorem dX12_readTier_28 : decode cX12_readTier 28 = .ok (.getfield 55, 3) := by decide +kernel
theorem dX12_readTier_31 : decode cX12_readTier 31 = .ok (.iload_n 1, 1) := by decide +kernel
theorem dX12_readTier_32 : decode cX12_readTier 32 = .ok (.aload_n 0, 1) := by decide +kernel
theorem dX12_readTier_33 : decode cX12_readTier 33 = .ok (.ldc2_w 184, 3) := by decide +kernel
theorem dX12_readTier_36 : decode cX12_readTier 36 = .ok (.iconst 1, 1) := by decide +kernel
theorem dX12_readTier_37 : decode cX12_readTier 37 = .ok (.bipush 8, 2) := by decide +kernel
theorem dX12_readTier_39 : decode cX12_readTier 39 = .ok (.invokevirtual 242, 3) := by decide +kernel
theorem dX12_readTier_42 : decode cX12_readTier 42 = .ok (.iastore, 1) := by decide +kernel
theorem dX12_readTier_43 : decode cX12_readTier 43 = .ok (.aload_n 0, 1) := by decide +kernel
theorem dX12_readTier_44 : decode cX12_readTier 44 = .ok (.getfield 58, 3) := by decide +kernel
theorem dX12_readTier_47 : decode cX12_readTier 47 = .ok (.iload_n 1, 1) := by decide +kernel
theorem dX12_readTier_48 : decode cX12_readTier 48 = .ok (.aload_n 0, 1) := by decide +kernel
theorem dX12_readTier_49 : decode cX12_readTier 49 = .ok (.ldc2_w 186, 3) := by decide +kernel
theorem dX12_readTier_52 : decode cX12_readTier 52 = .ok (.iconst 1, 1) := by decide +kernel
theorem dX12_readTier_53 : decode cX12_readTier 53 = .ok (.bipush 9, 2) := by decide +kernel
theorem dX12_readTier_55 : decode cX12_readTier 55 = .ok (.invokevirtual 242, 3) := by decide +kernel
theorem dX12_readTier_58 : decode cX12_readTier 58 = .ok (.iastore, 1) := by decide +kernel
theorem dX12_readTier_59 : decode cX12_readTier 59 = .ok (.aload_n 0, 1) := by decide +kernel
theorem dX12_readTier_60 : decode cX12_readTier 60 = .ok (.getfield 179, 3) := by decide +kernel
theorem dX12_readTier_63 : decode cX12_readTier 63 = .ok (.ifCond .ne 13, 3) := by decide +kernel
theorem dX12_readTier_66 : decode cX12_readTier 66 = .ok (.aload_n 0, 1) := by decide +kernel
theorem dX12_readTier_67 : decode cX12_readTier 67 = .ok (.dup, 1) := by decide +kernel
theorem dX12_readTier_68 : decode cX12_readTier 68 = .ok (.getfield 310, 3) := by decide +kernel
theorem dX12_readTier_71 : decode cX12_readTier 71 = .ok (.iconst 1, 1) := by decide +kernel
theorem dX12_readTier_72 : decode cX12_readTier 72 = .ok (.iadd, 1) := by decide +kernel
theorem dX12_readTier_73 : decode cX12_readTier 73 = .ok (.putfield 310, 3) := by decide +kernel
theorem dX12_readTier_76 : decode cX12_readTier 76 = .ok (.return_, 1) := by decide +kernel
set_option maxRecDepth 20000 in
theorem ggX12_readGuest_X12_newName : GoodIn wsX12_readGuest wsX12_newName := goodIn_r _ [13, 8, 14, 15, 16, 17, 18, 12, 19, 20, 21, 22, 23, 24, 25, 26, 27, 28, 29, 30, 31, 32, 33, 34, 35, 36, 37, 38, 39, 40, 41, 42, 43, 44, 45, 46, 47, 48, 49, 50, 3, 5, 7, 51, 52, 53, 54, 55, 56, 57, 58, 59, 60, 61, 62, 63, 64, 65, 66, 67, 88, 89, 90, 91, 92, 93, 94, 95, 96, 97, 98, 99, 100, 101, 102, 103, 104, 105, 106, 107, 108, 109, 110, 111, 112, 113, 114, 115, 116, 117, 118, 119, 120, 121, 122, 123, 124, 125, 126, 127, 128, 129, 130, 131, 132, 133, 134, 135, 136, 137, 138, 139, 140, 141, 142, 143, 144, 145, 146, 147, 148, 149, 150, 151, 152, 153, 154, 155, 156, 157, 158, 159, 160, 161, 162] (by decide +kernel) (by decide +kernel)
set_option maxRecDepth 20000 in
theorem gX12_readGuest_X12_newName : GoodIn wsX12_readGuest (wsV RX12 313 RX12 yX12_newName wsX12_newName) := goodIn_app (goodIn_of _ (by decide +kernel)) ggX12_readGuest_X12_newName
set_option maxRecDepth 20000 in
theorem ggX12_readGuest_X12_told : GoodIn wsX12_readGuest wsX12_told := goodIn_r _ [71, 72, 73, 74, 12, 75, 8, 76, 77, 78, 79, 23, 15, 63, 64, 65, 66, 21, 67, 16, 17, 18, 19, 20, 22, 24, 25, 26, 27, 28, 29, 30, 31, 32, 33, 34, 35, 36, 37, 38, 80, 81, 82, 83, 88, 89, 90, 91, 92, 93, 94, 95, 96, 97, 98, 99, 100, 101, 102, 103, 104, 105, 106, 107, 108, 109, 110, 111, 112, 113, 114, 115, 116, 117, 118, 119, 120, 121, 122, 123, 124, 125, 126, 127, 128, 129, 130, 131, 132, 133, 134, 135, 136, 137, 138, 139, 140, 141, 142, 143, 144, 145, 146, 147, 148, 149, 150, 151, 152, 153, 154, 155, 156, 157, 158, 159, 160, 161, 162] (by decide +kernel) (by decide +kernel)
set_option maxRecDepth 20000 in
theorem gX12_readGuest_X12_told : GoodIn wsX12_readGuest (wsV RX12 242 RX12 yX12_told wsX12_told) := goodIn_app (goodIn_of _ (by decide +kernel)) ggX12_readGuest_X12_told
set_option maxRecDepth 20000 in
theorem ggX12_readGuest_X12_option : GoodIn wsX12_readGuest wsX12_option := goodIn_r _ [87, 8, 76, 77, 78, 12, 79, 23, 15, 68, 69, 70, 71, 72, 73, 74, 75, 63, 64, 65, 66, 21, 67, 16, 17, 18, 19, 20, 22, 24, 25, 26, 27, 28, 29, 30, 31, 32, 33, 34, 35, 36, 37, 38, 80, 81, 82, 83, 88, 89, 90, 91, 92, 93, 94, 95, 96, 97, 98, 99, 100, 101, 102, 103, 104, 105, 106, 107, 108, 109, 110, 111, 112, 113, 114, 115, 116, 117, 118, 119, 120, 121, 122, 123, 124, 125, 126, 127, 128, 129, 130, 131, 132, 133, 134, 135, 136, 137, 138, 139, 140, 141, 142, 143, 144, 145, 146, 147, 148, 149, 150, 151, 152, 153, 154, 155, 156, 157, 158, 159, 160, 161, 162] (by decide +kernel) (by decide +kernel)
set_option maxRecDepth 20000 in
theorem gX12_readGuest_X12_option : GoodIn wsX12_readGuest (wsV RX12 319 RX12 yX12_option wsX12_option) := goodIn_app (goodIn_of _ (by decide +kernel)) ggX12_readGuest_X12_option
theorem dX12_readGuest_0 : decode cX12_readGuest 0 = .ok (.aload_n 0, 1) := by decide +kernel
theorem dX12_readGuest_1 : decode cX12_readGuest 1 = .ok (.iconst 3, 1) := by decide +kernel
theorem dX12_readGuest_2 : decode cX12_readGuest 2 = .ok (.aload_n 0, 1) := by decide +kernel
theorem dX12_readGuest_3 : decode cX12_readGuest 3 = .ok (.getfield 316, 3) := by decide +kernel
theorem dX12_readGuest_6 : decode cX12_readGuest 6 = .ok (.invokevirtual 313, 3) := by decide +kernel
theorem dX12_readGuest_9 : decode cX12_readGuest 9 = .ok (.aload_n 0, 1) := by decide +kernel
theorem dX12_readGuest_10 : decode cX12_readGuest 10 = .ok (.getfield 316, 3) := by decide +kernel
theorem dX12_readGuest_13 : decode cX12_readGuest 13 = .ok (.istore_n 1, 1) := by decide +kernel
theorem dX12_readGuest_14 : decode cX12_readGuest 14 = .ok (.aload_n 0, 1) := by decide +kernel
theorem dX12_readGuest_15 : decode cX12_readGuest 15 = .ok (.getfield 70, 3) := by decide +kernel
theorem dX12_readGuest_18 : decode cX12_readGuest 18 = .ok (.iload_n 1, 1) := by decide +kernel
theorem dX12_readGuest_19 : decode cX12_readGuest 19 = .ok (.aload_n 0, 1) := by decide +kernel
theorem dX12_readGuest_20 : decode cX12_readGuest 20 = .ok (.ldc2_w 190, 3) := by decide +kernel
theorem dX12_readGuest_23 : decode cX12_readGuest 23 = .ok (.iconst 0, 1) := by decide +kernel
theorem dX12_readGuest_24 : decode cX12_readGuest 24 = .ok (.sipush 999, 3) := by decide +kernel
theorem dX12_readGuest_27 : decode cX12_readGuest 27 = .ok (.invokevirtual 242, 3) := by decide +kernel
theorem dX12_readGuest_30 : decode cX12_readGuest 30 = .ok (.iastore, 1) := by decide +kernel
theorem dX12_readGuest_31 : decode cX12_readGuest 31 = .ok (.aload_n 0, 1) := by decide +kernel
theorem dX12_readGuest_32 : decode cX12_readGuest 32 = .ok (.getfield 73, 3) := by decide +kernel
theorem dX12_readGuest_35 : decode cX12_readGuest 35 = .ok (.iload_n 1, 1) := by decide +kernel
theorem dX12_readGuest_36 : decode cX12_readGuest 36 = .ok (.aload_n 0, 1) := by decide +kernel
theorem dX12_readGuest_37 : decode cX12_readGuest 37 = .ok (.ldc2_w 192, 3) := by decide +kernel
theorem dX12_readGuest_40 : decode cX12_readGuest 40 = .ok (.bipush 9, 2) := by decide +kernel
theorem dX12_readGuest_42 : decode cX12_readGuest 42 = .ok (.iconst 0, 1) := by decide +kernel
theorem dX12_readGuest_43 : decode cX12_readGuest 43 = .ok (.invokevirtual 319, 3) := by decide +kernel
theorem dX12_readGuest_46 : decode cX12_readGuest 46 = .ok (.iastore, 1) := by decide +kernel
theorem dX12_readGuest_47 : decode cX12_readGuest 47 = .ok (.aload_n 0, 1) := by decide +kernel
theorem dX12_readGuest_48 : decode cX12_readGuest 48 = .ok (.getfield 76, 3) := by decide +kernel
theorem dX12_readGuest_51 : decode cX12_readGuest 51 = .ok (.iload_n 1, 1) := by decide +kernel
theorem dX12_readGuest_52 : decode cX12_readGuest 52 = .ok (.aload_n 0, 1) := by decide +kernel
theorem dX12_readGuest_53 : decode cX12_readGuest 53 = .ok (.ldc2_w 194, 3) := by decide +kernel
theorem dX12_readGuest_56 : decode cX12_readGuest 56 = .ok (.bipush 100, 2) := by decide +kernel
theorem dX12_readGuest_58 : decode cX12_readGuest 58 = .ok (.bipush 100, 2) := by decide +kernel
theorem dX12_readGuest_60 : decode cX12_readGuest 60 = .ok (.invokevirtual 319, 3) := by decide +kernel
theorem dX12_readGuest_63 : decode cX12_readGuest 63 = .ok (.iastore, 1) := by decide +kernel
theorem dX12_readGuest_64 : decode cX12_readGuest 64 = .ok (.aload_n 0, 1) := by decide +kernel
theorem dX12_readGuest_65 : decode cX12_readGuest 65 = .ok (.getfield 179, 3) := by decide +kernel
theorem dX12_readGuest_68 : decode cX12_readGuest 68 = .ok (.ifCond .ne 13, 3) := by decide +kernel
theorem dX12_readGuest_71 : decode cX12_readGuest 71 = .ok (.aload_n 0, 1) := by decide +kernel
theorem dX12_readGuest_72 : decode cX12_readGuest 72 = .ok (.dup, 1) := by decide +kernel
theorem dX12_readGuest_73 : decode cX12_readGuest 73 = .ok (.getfield 316, 3) := by decide +kernel
theorem dX12_readGuest_76 : decode cX12_readGuest 76 = .ok (.iconst 1, 1) := by decide +kernel
theorem dX12_readGuest_77 : decode cX12_readGuest 77 = .ok (.iadd, 1) := by decide +kernel
theorem dX12_readGuest_78 : decode cX12_readGuest 78 = .ok (.putfield 316, 3) := by decide +kernel
theorem dX12_readGuest_81 : decode cX12_readGuest 81 = .ok (.return_, 1) := by decide +kernel
set_option maxRecDepth 20000 in
theorem ggX12_readLine_X12_isWord : GoodIn wsX12_readLine wsX12_isWord := goodIn_r _ [20, 15, 21, 165, 166, 167, 168, 169, 170, 171, 172, 173, 174, 175, 176, 177, 178, 179, 180, 181, 182, 183, 184, 185, 186, 187, 188, 189, 190, 191, 192, 193, 194, 195, 196, 197, 198, 199, 200, 201, 202, 203, 204, 205, 206, 207, 208, 209, 210, 211, 212, 213, 214, 215, 216, 217, 218, 219, 220, 221, 222, 223, 224, 225, 226, 227, 228, 229, 230, 231, 232, 233, 234, 235, 236, 237, 238, 239] (by decide +kernel) (by decide +kernel)
set_option maxRecDepth 20000 in
theorem gX12_readLine_X12_isWord : GoodIn wsX12_readLine (wsV RX12 224 RX12 yX12_isWord wsX12_isWord) := goodIn_app (goodIn_of _ (by decide +kernel)) ggX12_readLine_X12_isWord
set_option maxRecDepth 20000 in
theorem ggX12_readLine_X12_readTier : GoodIn wsX12_readLine wsX12_readTier := goodIn_r _ [25, 2, 26, 27, 28, 29, 30, 14, 31, 32, 33, 19, 34, 35, 21, 36, 37, 38, 39, 40, 41, 42, 15, 43, 44, 45, 46, 47, 48, 49, 50, 51, 52, 53, 54, 55, 56, 57, 58, 59, 60, 61, 62, 63, 64, 65, 1, 3, 66, 67, 68, 5, 7, 8, 11, 69, 70, 71, 72, 73, 74, 75, 76, 77, 78, 79, 80, 81, 82, 83, 84, 85, 86, 87, 88, 89, 90, 91, 92, 93, 16, 17, 18, 20, 165, 166, 167, 168, 169, 170, 171, 172, 173, 174, 175, 176, 177, 178, 179, 180, 181, 182, 183, 184, 185, 186, 187, 188, 189, 190, 191, 192, 193, 194, 195, 196, 197, 198, 199, 200, 201, 202, 203, 204, 205, 206, 207, 208, 209, 210, 211, 212, 213, 214, 215, 216, 217, 218, 219, 220, 221, 222, 223, 224, 225, 226, 227, 228, 229, 230, 231, 232, 233, 234, 235, 236, 237, 238, 239] (by decide +kernel) (by decide +kernel)
set_option maxRecDepth 20000 in
theorem gX12_readLine_X12_readTier : GoodIn wsX12_readLine (wsV RX12 322 RX12 yX12_readTier wsX12_readTier) := goodIn_app (goodIn_of _ (by decide +kernel)) ggX12_readLine_X12_readTier
set_option maxRecDepth 20000 in
theorem ggX12_readLine_X12_readGuest : GoodIn wsX12_readLine wsX12_readGuest := goodIn_r _ [97, 4, 98, 66, 99, 67, 100, 68, 14, 31, 32, 33, 19, 34, 35, 21, 36, 37, 38, 39, 40, 41, 42, 15, 43, 44, 45, 46, 47, 48, 49, 50, 51, 52, 53, 54, 55, 56, 57, 58, 59, 60, 61, 62, 63, 64, 65, 1, 28, 30, 3, 5, 7, 8, 11, 69, 70, 71, 72, 73, 74, 75, 76, 77, 78, 79, 80, 81, 86, 87, 88, 89, 90, 91, 92, 93, 16, 17, 18, 20, 82, 83, 84, 85, 101, 102, 103, 104, 165, 166, 167, 168, 169, 170, 171, 172, 173, 174, 175, 176, 177, 178, 179, 180, 181, 182, 183, 184, 185, 186, 187, 188, 189, 190, 191, 192, 193, 194, 195, 196, 197, 198, 199, 200, 201, 202, 203, 204, 205, 206, 207, 208, 209, 210, 211, 212, 213, 214, 215, 216, 217, 218, 219, 220, 221, 222, 223, 224, 225, 226, 227, 228, 229, 230, 231, 232, 233, 234, 235, 236, 237, 238, 239] (by decide +kernel) (by decide +kernel)
set_option maxRecDepth 20000 in
theorem gX12_readLine_X12_readGuest : GoodIn wsX12_readLine (wsV RX12 325 RX12 yX12_readGuest wsX12_readGuest) := goodIn_app (goodIn_of _ (by decide +kernel)) ggX12_readLine_X12_readGuest
set_option maxRecDepth 20000 in
theorem ggX12_readLine_X12_formula : GoodIn wsX12_readLine wsX12_formula := goodIn_r _ [108, 109, 6, 110, 111, 112, 113, 14, 15, 114, 36, 37, 38, 19, 39, 40, 41, 21, 42, 43, 44, 45, 46, 47, 48, 49, 50, 51, 52, 53, 54, 55, 56, 57, 115, 116, 117, 118, 76, 16, 17, 18, 20, 119, 120, 121, 122, 123, 124, 125, 77, 78, 79, 80, 81, 126, 127, 128, 129, 130, 131, 132, 133, 134, 135, 136, 137, 138, 139, 140, 141, 142, 69, 70, 67, 71, 72, 73, 143, 144, 145, 146, 147, 148, 149, 150, 151, 152, 74, 75, 153, 154, 155, 156, 157, 158, 159, 160, 161, 162, 163, 164, 165, 166, 167, 168, 169, 170, 171, 172, 173, 174, 175, 176, 177, 178, 179, 180, 181, 182, 183, 184, 185, 186, 187, 188, 189, 190, 191, 192, 193, 194, 195, 196, 197, 198, 199, 200, 201, 202, 203, 204, 205, 206, 207, 208, 209, 210, 211, 212, 213, 214, 215, 216, 217, 218, 219, 220, 221, 222, 223, 224, 225, 226, 227, 228, 229, 230, 231, 232, 233, 234, 235, 236, 237, 238, 239] (by decide +kernel) (by decide +kernel)
set_option maxRecDepth 20000 in
theorem gX12_readLine_X12_formula : GoodIn wsX12_readLine (wsV RX12 328 RX12 yX12_formula wsX12_formula) := goodIn_app (goodIn_of _ (by decide +kernel)) ggX12_readLine_X12_formula
set_option maxRecDepth 20000 in
theorem ggX12_readLine_X12_told : GoodIn wsX12_readLine wsX12_told := goodIn_r _ [89, 90, 91, 92, 19, 93, 14, 16, 17, 18, 20, 15, 21, 77, 78, 79, 80, 41, 81, 36, 37, 38, 39, 40, 42, 43, 44, 45, 46, 47, 48, 49, 50, 51, 52, 53, 54, 55, 56, 57, 82, 83, 84, 85, 165, 166, 167, 168, 169, 170, 171, 172, 173, 174, 175, 176, 177, 178, 179, 180, 181, 182, 183, 184, 185, 186, 187, 188, 189, 190, 191, 192, 193, 194, 195, 196, 197, 198, 199, 200, 201, 202, 203, 204, 205, 206, 207, 208, 209, 210, 211, 212, 213, 214, 215, 216, 217, 218, 219, 220, 221, 222, 223, 224, 225, 226, 227, 228, 229, 230, 231, 232, 233, 234, 235, 236, 237, 238, 239] (by decide +kernel) (by decide +kernel)
set_option maxRecDepth 20000 in
theorem gX12_readLine_X12_told : GoodIn wsX12_readLine (wsV RX12 242 RX12 yX12_told wsX12_told) := goodIn_app (goodIn_of _ (by decide +kernel)) ggX12_readLine_X12_told
set_option maxRecDepth 20000 in
theorem ggX12_readLine_X12_wrong : GoodIn wsX12_readLine wsX12_wrong := goodIn_r _ [80, 14, 15, 41, 81, 165, 166, 167, 168, 169, 170, 171, 172, 173, 174, 175, 176, 177, 178, 179, 180, 181, 182, 183, 184, 185, 186, 187, 188, 189, 190, 191, 192, 193, 194, 195, 196, 197, 198, 199, 200, 201, 202, 203, 204, 205, 206, 207, 208, 209, 210, 211, 212, 213, 214, 215, 216, 217, 218, 219, 220, 221, 222, 223, 224, 225, 226, 227, 228, 229, 230, 231, 232, 233, 234, 235, 236, 237, 238, 239] (by decide +kernel) (by decide +kernel)
set_option maxRecDepth 20000 in
theorem gX12_readLine_X12_wrong : GoodIn wsX12_readLine (wsV RX12 228 RX12 yX12_wrong wsX12_wrong) := goodIn_app (goodIn_of _ (by decide +kernel)) ggX12_readLine_X12_wrong
set_option maxRecDepth 20000 in
theorem ggX12_readLine_X12_token : GoodIn wsX12_readLine wsX12_token := goodIn_r _ [39, 40, 41, 21, 42, 15, 43, 44, 45, 19, 46, 47, 48, 49, 50, 51, 52, 53, 54, 55, 56, 57, 165, 166, 167, 168, 169, 170, 171, 172, 173, 174, 175, 176, 177, 178, 179, 180, 181, 182, 183, 184, 185, 186, 187, 188, 189, 190, 191, 192, 193, 194, 195, 196, 197, 198, 199, 200, 201, 202, 203, 204, 205, 206, 207, 208, 209, 210, 211, 212, 213, 214, 215, 216, 217, 218, 219, 220, 221, 222, 223, 224, 225, 226, 227, 228, 229, 230, 231, 232, 233, 234, 235, 236, 237, 238, 239] (by decide +kernel) (by decide +kernel)
set_option maxRecDepth 20000 in
theorem gX12_readLine_X12_token : GoodIn wsX12_readLine (wsV RX12 231 RX12 yX12_token wsX12_token) := goodIn_app (goodIn_of _ (by decide +kernel)) ggX12_readLine_X12_token
theorem dX12_readLine_0 : decode cX12_readLine 0 = .ok (.aload_n 0, 1) := by decide +kernel
theorem dX12_readLine_1 : decode cX12_readLine 1 = .ok (.ldc2_w 182, 3) := by decide +kernel
theorem dX12_readLine_4 : decode cX12_readLine 4 = .ok (.invokevirtual 224, 3) := by decide +kernel
theorem dX12_readLine_7 : decode cX12_readLine 7 = .ok (.ifCond .eq 18, 3) := by decide +kernel
theorem dX12_readLine_10 : decode cX12_readLine 10 = .ok (.aload_n 0, 1) := by decide +kernel
theorem dX12_readLine_11 : decode cX12_readLine 11 = .ok (.getfield 310, 3) := by decide +kernel
theorem dX12_readLine_14 : decode cX12_readLine 14 = .ok (.iconst 3, 1) := by decide +kernel
theorem dX12_readLine_15 : decode cX12_readLine 15 = .ok (.if_icmp .ge 10, 3) := by decide +kernel
theorem dX12_readLine_18 : decode cX12_readLine 18 = .ok (.aload_n 0, 1) := by decide +kernel
theorem dX12_readLine_19 : decode cX12_readLine 19 = .ok (.invokevirtual 322, 3) := by decide +kernel
theorem dX12_readLine_22 : decode cX12_readLine 22 = .ok (.goto 167, 3) := by decide +kernel
theorem dX12_readLine_25 : decode cX12_readLine 25 = .ok (.aload_n 0, 1) := by decide +kernel
theorem dX12_readLine_26 : decode cX12_readLine 26 = .ok (.ldc2_w 188, 3) := by decide +kernel
theorem dX12_readLine_29 : decode cX12_readLine 29 = .ok (.invokevirtual 224, 3) := by decide +kernel
theorem dX12_readLine_32 : decode cX12_readLine 32 = .ok (.ifCond .eq 19, 3) := by decide +kernel
theorem dX12_readLine_35 : decode cX12_readLine 35 = .ok (.aload_n 0, 1) := by decide +kernel
theorem dX12_readLine_36 : decode cX12_readLine 36 = .ok (.getfield 316, 3) := by decide +kernel
theorem dX12_readLine_39 : decode cX12_readLine 39 = .ok (.bipush 6, 2) := by decide +kernel
theorem dX12_readLine_41 : decode cX12_readLine 41 = .ok (.if_icmp .ge 10, 3) := by decide +kernel
theorem dX12_readLine_44 : decode cX12_readLine 44 = .ok (.aload_n 0, 1) := by decide +kernel
theorem dX12_readLine_45 : decode cX12_readLine 45 = .ok (.invokevirtual 325, 3) := by decide +kernel
theorem dX12_readLine_48 : decode cX12_readLine 48 = .ok (.goto 141, 3) := by decide +kernel
theorem dX12_readLine_51 : decode cX12_readLine 51 = .ok (.aload_n 0, 1) := by decide +kernel
theorem dX12_readLine_52 : decode cX12_readLine 52 = .ok (.ldc2_w 196, 3) := by decide +kernel
theorem dX12_readLine_55 : decode cX12_readLine 55 = .ok (.invokevirtual 224, 3) := by decide +kernel
theorem dX12_readLine_58 : decode cX12_readLine 58 = .ok (.ifCond .eq 20, 3) := by decide +kernel
theorem dX12_readLine_61 : decode cX12_readLine 61 = .ok (.aload_n 0, 1) := by decide +kernel
theorem dX12_readLine_62 : decode cX12_readLine 62 = .ok (.getfield 45, 3) := by decide +kernel
theorem dX12_readLine_65 : decode cX12_readLine 65 = .ok (.iconst 0, 1) := by decide +kernel
theorem dX12_readLine_66 : decode cX12_readLine 66 = .ok (.baload, 1) := by decide +kernel
theorem dX12_readLine_67 : decode cX12_readLine 67 = .ok (.ifCond .ne 11, 3) := by decide +kernel
theorem dX12_readLine_70 : decode cX12_readLine 70 = .ok (.aload_n 0, 1) := by decide +kernel
theorem dX12_readLine_71 : decode cX12_readLine 71 = .ok (.iconst 0, 1) := by decide +kernel
theorem dX12_readLine_72 : decode cX12_readLine 72 = .ok (.invokevirtual 328, 3) := by decide +kernel
theorem dX12_readLine_75 : decode cX12_readLine 75 = .ok (.goto 114, 3) := by decide +kernel
theorem dX12_readLine_78 : decode cX12_readLine 78 = .ok (.aload_n 0, 1) := by decide +kernel
theorem dX12_readLine_79 : decode cX12_readLine 79 = .ok (.ldc2_w 198, 3) := by decide +kernel
theorem dX12_readLine_82 : decode cX12_readLine 82 = .ok (.invokevirtual 224, 3) := by decide +kernel
theorem dX12_readLine_85 : decode cX12_readLine 85 = .ok (.ifCond .eq 20, 3) := by decide +kernel
theorem dX12_readLine_88 : decode cX12_readLine 88 = .ok (.aload_n 0, 1) := by decide +kernel
theorem dX12_readLine_89 : decode cX12_readLine 89 = .ok (.getfield 45, 3) := by decide +kernel
theorem dX12_readLine_92 : decode cX12_readLine 92 = .ok (.iconst 1, 1) := by decide +kernel
theorem dX12_readLine_93 : decode cX12_readLine 93 = .ok (.baload, 1) := by decide +kernel
theorem dX12_readLine_94 : decode cX12_readLine 94 = .ok (.ifCond .ne 11, 3) := by decide +kernel
theorem dX12_readLine_97 : decode cX12_readLine 97 = .ok (.aload_n 0, 1) := by decide +kernel
theorem dX12_readLine_98 : decode cX12_readLine 98 = .ok (.iconst 1, 1) := by decide +kernel
theorem dX12_readLine_99 : decode cX12_readLine 99 = .ok (.invokevirtual 328, 3) := by decide +kernel
theorem dX12_readLine_102 : decode cX12_readLine 102 = .ok (.goto 87, 3) := by decide +kernel
theorem dX12_readLine_105 : decode cX12_readLine 105 = .ok (.aload_n 0, 1) := by decide +kernel
theorem dX12_readLine_106 : decode cX12_readLine 106 = .ok (.ldc2_w 200, 3) := by decide +kernel
theorem dX12_readLine_109 : decode cX12_readLine 109 = .ok (.invokevirtual 224, 3) := by decide +kernel
theorem dX12_readLine_112 : decode cX12_readLine 112 = .ok (.ifCond .eq 32, 3) := by decide +kernel
theorem dX12_readLine_115 : decode cX12_readLine 115 = .ok (.aload_n 0, 1) := by decide +kernel
theorem dX12_readLine_116 : decode cX12_readLine 116 = .ok (.getfield 331, 3) := by decide +kernel
theorem dX12_readLine_119 : decode cX12_readLine 119 = .ok (.ifCond .ne 25, 3) := by decide +kernel
theorem dX12_readLine_122 : decode cX12_readLine 122 = .ok (.aload_n 0, 1) := by decide +kernel
theorem dX12_readLine_123 : decode cX12_readLine 123 = .ok (.iconst 1, 1) := by decide +kernel
theorem dX12_readLine_124 : decode cX12_readLine 124 = .ok (.putfield 331, 3) := by decide +kernel
theorem dX12_readLine_127 : decode cX12_readLine 127 = .ok (.aload_n 0, 1) := by decide +kernel
theorem dX12_readLine_128 : decode cX12_readLine 128 = .ok (.aload_n 0, 1) := by decide +kernel
theorem dX12_readLine_129 : decode cX12_readLine 129 = .ok (.ldc2_w 200, 3) := by decide +kernel
theorem dX12_readLine_132 : decode cX12_readLine 132 = .ok (.iconst 0, 1) := by decide +kernel
theorem dX12_readLine_133 : decode cX12_readLine 133 = .ok (.bipush 60, 2) := by decide +kernel
theorem dX12_readLine_135 : decode cX12_readLine 135 = .ok (.invokevirtual 242, 3) := by decide +kernel
theorem dX12_readLine_138 : decode cX12_readLine 138 = .ok (.putfield 335, 3) := by decide +kernel
theorem dX12_readLine_141 : decode cX12_readLine 141 = .ok (.goto 48, 3) := by decide +kernel
theorem dX12_readLine_144 : decode cX12_readLine 144 = .ok (.aload_n 0, 1) := by decide +kernel
theorem dX12_readLine_145 : decode cX12_readLine 145 = .ok (.ldc2_w 202, 3) := by decide +kernel
theorem dX12_readLine_148 : decode cX12_readLine 148 = .ok (.invokevirtual 224, 3) := by decide +kernel
theorem dX12_readLine_151 : decode cX12_readLine 151 = .ok (.ifCond .eq 33, 3) := by decide +kernel
theorem dX12_readLine_154 : decode cX12_readLine 154 = .ok (.aload_n 0, 1) := by decide +kernel
theorem dX12_readLine_155 : decode cX12_readLine 155 = .ok (.getfield 338, 3) := by decide +kernel
theorem dX12_readLine_158 : decode cX12_readLine 158 = .ok (.ifCond .ne 26, 3) := by decide +kernel
theorem dX12_readLine_161 : decode cX12_readLine 161 = .ok (.aload_n 0, 1) := by decide +kernel
theorem dX12_readLine_162 : decode cX12_readLine 162 = .ok (.iconst 1, 1) := by decide +kernel
theorem dX12_readLine_163 : decode cX12_readLine 163 = .ok (.putfield 338, 3) := by decide +kernel
theorem dX12_readLine_166 : decode cX12_readLine 166 = .ok (.aload_n 0, 1) := by decide +kernel
theorem dX12_readLine_167 : decode cX12_readLine 167 = .ok (.aload_n 0, 1) := by decide +kernel
theorem dX12_readLine_168 : decode cX12_readLine 168 = .ok (.ldc2_w 202, 3) := by decide +kernel
theorem dX12_readLine_171 : decode cX12_readLine 171 = .ok (.iconst 0, 1) := by decide +kernel
theorem dX12_readLine_172 : decode cX12_readLine 172 = .ok (.sipush 999, 3) := by decide +kernel
theorem dX12_readLine_175 : decode cX12_readLine 175 = .ok (.invokevirtual 242, 3) := by decide +kernel
theorem dX12_readLine_178 : decode cX12_readLine 178 = .ok (.putfield 341, 3) := by decide +kernel
theorem dX12_readLine_181 : decode cX12_readLine 181 = .ok (.goto 8, 3) := by decide +kernel
theorem dX12_readLine_184 : decode cX12_readLine 184 = .ok (.aload_n 0, 1) := by decide +kernel
theorem dX12_readLine_185 : decode cX12_readLine 185 = .ok (.iconst 2, 1) := by decide +kernel
theorem dX12_readLine_186 : decode cX12_readLine 186 = .ok (.invokevirtual 228, 3) := by decide +kernel
theorem dX12_readLine_189 : decode cX12_readLine 189 = .ok (.aload_n 0, 1) := by decide +kernel
theorem dX12_readLine_190 : decode cX12_readLine 190 = .ok (.getfield 179, 3) := by decide +kernel
theorem dX12_readLine_193 : decode cX12_readLine 193 = .ok (.ifCond .ne 17, 3) := by decide +kernel
theorem dX12_readLine_196 : decode cX12_readLine 196 = .ok (.aload_n 0, 1) := by decide +kernel
theorem dX12_readLine_197 : decode cX12_readLine 197 = .ok (.getfield 166, 3) := by decide +kernel
theorem dX12_readLine_200 : decode cX12_readLine 200 = .ok (.bipush 59, 2) := by decide +kernel
theorem dX12_readLine_202 : decode cX12_readLine 202 = .ok (.if_icmp .eq 8, 3) := by decide +kernel
theorem dX12_readLine_205 : decode cX12_readLine 205 = .ok (.aload_n 0, 1) := by decide +kernel
theorem dX12_readLine_206 : decode cX12_readLine 206 = .ok (.iconst 2, 1) := by decide +kernel
theorem dX12_readLine_207 : decode cX12_readLine 207 = .ok (.invokevirtual 228, 3) := by decide +kernel
theorem dX12_readLine_210 : decode cX12_readLine 210 = .ok (.aload_n 0, 1) := by decide +kernel
theorem dX12_readLine_211 : decode cX12_readLine 211 = .ok (.getfield 179, 3) := by decide +kernel
theorem dX12_readLine_214 : decode cX12_readLine 214 = .ok (.ifCond .ne 7, 3) := by decide +kernel
theorem dX12_readLine_217 : decode cX12_readLine 217 = .ok (.aload_n 0, 1) := by decide +kernel
theorem dX12_readLine_218 : decode cX12_readLine 218 = .ok (.invokevirtual 231, 3) := by decide +kernel
theorem dX12_readLine_221 : decode cX12_readLine 221 = .ok (.return_, 1) := by decide +kernel
set_option maxRecDepth 20000 in
theorem ggX12_readAll_X12_token : GoodIn wsX12_readAll wsX12_token := goodIn_r _ [19, 3, 20, 21, 22, 14, 23, 24, 25, 18, 26, 2, 27, 28, 29, 30, 31, 32, 33, 34, 35, 36, 170, 171, 172, 173, 174, 175, 176, 177, 178, 179, 180, 181, 182, 183, 184, 185, 186, 187, 188, 189, 190, 191, 192, 193, 194, 195, 196, 197, 198, 199, 200, 201, 202, 203, 204, 205, 206, 207, 208, 209, 210, 211, 212, 213, 214, 215, 216, 217, 218, 219, 220, 221, 222, 223, 224, 225, 226, 227, 228, 229, 230, 231, 232, 233, 234, 235, 236, 237, 238, 239, 240, 241, 242, 243, 244] (by decide +kernel) (by decide +kernel)
set_option maxRecDepth 20000 in
theorem gX12_readAll_X12_token : GoodIn wsX12_readAll (wsV RX12 231 RX12 yX12_token wsX12_token) := goodIn_app (goodIn_of _ (by decide +kernel)) ggX12_readAll_X12_token
set_option maxRecDepth 20000 in
theorem ggX12_readAll_X12_readLine : GoodIn wsX12_readAll wsX12_readLine := goodIn_r _ [40, 41, 6, 42, 7, 43, 12, 44, 45, 10, 8, 46, 11, 9, 4, 14, 47, 48, 49, 18, 50, 21, 51, 52, 53, 54, 55, 56, 57, 58, 59, 60, 61, 62, 63, 64, 15, 16, 17, 19, 3, 20, 22, 23, 24, 25, 26, 2, 27, 28, 29, 30, 31, 32, 33, 34, 35, 36, 65, 66, 67, 68, 69, 70, 71, 72, 73, 74, 75, 76, 77, 78, 79, 80, 81, 82, 83, 84, 85, 86, 87, 5, 88, 89, 90, 91, 92, 93, 94, 95, 96, 97, 98, 99, 100, 101, 102, 103, 104, 105, 106, 107, 108, 109, 110, 111, 112, 113, 114, 115, 116, 117, 118, 119, 120, 121, 122, 123, 124, 125, 126, 127, 128, 129, 130, 131, 132, 133, 134, 135, 136, 137, 138, 139, 13, 140, 141, 142, 143, 144, 145, 146, 147, 148, 149, 150, 151, 152, 153, 154, 155, 156, 157, 158, 159, 160, 161, 162, 163, 164, 165, 166, 167, 168, 169, 170, 171, 172, 173, 174, 175, 176, 177, 178, 179, 180, 181, 182, 183, 184, 185, 186, 187, 188, 189, 190, 191, 192, 193, 194, 195, 196, 197, 198, 199, 200, 201, 202, 203, 204, 205, 206, 207, 208, 209, 210, 211, 212, 213, 214, 215, 216, 217, 218, 219, 220, 221, 222, 223, 224, 225, 226, 227, 228, 229, 230, 231, 232, 233, 234, 235, 236, 237, 238, 239, 240, 241, 242, 243, 244] (by decide +kernel) (by decide +kernel)
set_option maxRecDepth 20000 in
theorem gX12_readAll_X12_readLine : GoodIn wsX12_readAll (wsV RX12 344 RX12 yX12_readLine wsX12_readLine) := goodIn_app (goodIn_of _ (by decide +kernel)) ggX12_readAll_X12_readLine
theorem dX12_readAll_0 : decode cX12_readAll 0 = .ok (.aload_n 0, 1) := by decide +kernel
theorem dX12_readAll_1 : decode cX12_readAll 1 = .ok (.aload_n 0, 1) := by decide +kernel
theorem dX12_readAll_2 : decode cX12_readAll 2 = .ok (.getfield 139, 3) := by decide +kernel
theorem dX12_readAll_5 : decode cX12_readAll 5 = .ok (.putfield 149, 3) := by decide +kernel
theorem dX12_readAll_8 : decode cX12_readAll 8 = .ok (.aload_n 0, 1) := by decide +kernel
theorem dX12_readAll_9 : decode cX12_readAll 9 = .ok (.iconst 0, 1) := by decide +kernel
theorem dX12_readAll_10 : decode cX12_readAll 10 = .ok (.putfield 139, 3) := by decide +kernel
theorem dX12_readAll_13 : decode cX12_readAll 13 = .ok (.aload_n 0, 1) := by decide +kernel
theorem dX12_readAll_14 : decode cX12_readAll 14 = .ok (.iconst 0, 1) := by decide +kernel
theorem dX12_readAll_15 : decode cX12_readAll 15 = .ok (.putfield 146, 3) := by decide +kernel
theorem dX12_readAll_18 : decode cX12_readAll 18 = .ok (.aload_n 0, 1) := by decide +kernel
theorem dX12_readAll_19 : decode cX12_readAll 19 = .ok (.iconst 0, 1) := by decide +kernel
theorem dX12_readAll_20 : decode cX12_readAll 20 = .ok (.putfield 179, 3) := by decide +kernel
theorem dX12_readAll_23 : decode cX12_readAll 23 = .ok (.aload_n 0, 1) := by decide +kernel
theorem dX12_readAll_24 : decode cX12_readAll 24 = .ok (.iconst (-1), 1) := by decide +kernel
theorem dX12_readAll_25 : decode cX12_readAll 25 = .ok (.putfield 13, 3) := by decide +kernel
theorem dX12_readAll_28 : decode cX12_readAll 28 = .ok (.aload_n 0, 1) := by decide +kernel
theorem dX12_readAll_29 : decode cX12_readAll 29 = .ok (.iconst 0, 1) := by decide +kernel
theorem dX12_readAll_30 : decode cX12_readAll 30 = .ok (.putfield 310, 3) := by decide +kernel
theorem dX12_readAll_33 : decode cX12_readAll 33 = .ok (.aload_n 0, 1) := by decide +kernel
theorem dX12_readAll_34 : decode cX12_readAll 34 = .ok (.iconst 0, 1) := by decide +kernel
theorem dX12_readAll_35 : decode cX12_readAll 35 = .ok (.putfield 316, 3) := by decide +kernel
theorem dX12_readAll_38 : decode cX12_readAll 38 = .ok (.aload_n 0, 1) := by decide +kernel
theorem dX12_readAll_39 : decode cX12_readAll 39 = .ok (.iconst 1, 1) := by decide +kernel
theorem dX12_readAll_40 : decode cX12_readAll 40 = .ok (.putfield 335, 3) := by decide +kernel
theorem dX12_readAll_43 : decode cX12_readAll 43 = .ok (.aload_n 0, 1) := by decide +kernel
theorem dX12_readAll_44 : decode cX12_readAll 44 = .ok (.iconst 0, 1) := by decide +kernel
theorem dX12_readAll_45 : decode cX12_readAll 45 = .ok (.putfield 341, 3) := by decide +kernel
theorem dX12_readAll_48 : decode cX12_readAll 48 = .ok (.aload_n 0, 1) := by decide +kernel
theorem dX12_readAll_49 : decode cX12_readAll 49 = .ok (.iconst 0, 1) := by decide +kernel
theorem dX12_readAll_50 : decode cX12_readAll 50 = .ok (.putfield 331, 3) := by decide +kernel
theorem dX12_readAll_53 : decode cX12_readAll 53 = .ok (.aload_n 0, 1) := by decide +kernel
theorem dX12_readAll_54 : decode cX12_readAll 54 = .ok (.iconst 0, 1) := by decide +kernel
theorem dX12_readAll_55 : decode cX12_readAll 55 = .ok (.putfield 338, 3) := by decide +kernel
theorem dX12_readAll_58 : decode cX12_readAll 58 = .ok (.aload_n 0, 1) := by decide +kernel
theorem dX12_readAll_59 : decode cX12_readAll 59 = .ok (.getfield 45, 3) := by decide +kernel
theorem dX12_readAll_62 : decode cX12_readAll 62 = .ok (.iconst 0, 1) := by decide +kernel
theorem dX12_readAll_63 : decode cX12_readAll 63 = .ok (.iconst 0, 1) := by decide +kernel
theorem dX12_readAll_64 : decode cX12_readAll 64 = .ok (.bastore, 1) := by decide +kernel
theorem dX12_readAll_65 : decode cX12_readAll 65 = .ok (.aload_n 0, 1) := by decide +kernel
theorem dX12_readAll_66 : decode cX12_readAll 66 = .ok (.getfield 45, 3) := by decide +kernel
theorem dX12_readAll_69 : decode cX12_readAll 69 = .ok (.iconst 1, 1) := by decide +kernel
theorem dX12_readAll_70 : decode cX12_readAll 70 = .ok (.iconst 0, 1) := by decide +kernel
theorem dX12_readAll_71 : decode cX12_readAll 71 = .ok (.bastore, 1) := by decide +kernel
theorem dX12_readAll_72 : decode cX12_readAll 72 = .ok (.aload_n 0, 1) := by decide +kernel
theorem dX12_readAll_73 : decode cX12_readAll 73 = .ok (.iconst 0, 1) := by decide +kernel
theorem dX12_readAll_74 : decode cX12_readAll 74 = .ok (.putfield 265, 3) := by decide +kernel
theorem dX12_readAll_77 : decode cX12_readAll 77 = .ok (.aload_n 0, 1) := by decide +kernel
theorem dX12_readAll_78 : decode cX12_readAll 78 = .ok (.invokevirtual 231, 3) := by decide +kernel
theorem dX12_readAll_81 : decode cX12_readAll 81 = .ok (.aload_n 0, 1) := by decide +kernel
theorem dX12_readAll_82 : decode cX12_readAll 82 = .ok (.getfield 179, 3) := by decide +kernel
theorem dX12_readAll_85 : decode cX12_readAll 85 = .ok (.ifCond .ne 17, 3) := by decide +kernel
theorem dX12_readAll_88 : decode cX12_readAll 88 = .ok (.aload_n 0, 1) := by decide +kernel
theorem dX12_readAll_89 : decode cX12_readAll 89 = .ok (.getfield 166, 3) := by decide +kernel
theorem dX12_readAll_92 : decode cX12_readAll 92 = .ok (.ifCond .eq 10, 3) := by decide +kernel
theorem dX12_readAll_95 : decode cX12_readAll 95 = .ok (.aload_n 0, 1) := by decide +kernel
theorem dX12_readAll_96 : decode cX12_readAll 96 = .ok (.invokevirtual 344, 3) := by decide +kernel
theorem dX12_readAll_99 : decode cX12_readAll 99 = .ok (.goto (-18), 3) := by decide +kernel
theorem dX12_readAll_102 : decode cX12_readAll 102 = .ok (.return_, 1) := by decide +kernel
set_option maxRecDepth 20000 in
theorem ggX12_cake_X12_readAll : GoodIn wsX12_cake wsX12_readAll := goodIn_r _ [40, 41, 42, 43, 1, 44, 2, 4, 6, 30, 45, 46, 11, 8, 47, 48, 49, 50, 39, 51, 52, 53, 54, 55, 56, 57, 58, 59, 60, 61, 62, 63, 64, 65, 66, 67, 68, 69, 70, 71, 72, 73, 74, 75, 76, 77, 78, 79, 80, 81, 82, 83, 84, 85, 86, 19, 21, 87, 23, 88, 89, 90, 91, 92, 93, 94, 95, 96, 97, 98, 99, 100, 101, 102, 103, 104, 105, 106, 107, 108, 109, 110, 111, 112, 113, 114, 115, 116, 117, 118, 119, 120, 121, 122, 123, 124, 125, 126, 127, 128, 129, 130, 131, 132, 25, 27, 29, 133, 134, 135, 136, 137, 138, 139, 140, 141, 12, 142, 143, 144, 145, 146, 147, 148, 149, 150, 151, 152, 153, 154, 155, 156, 157, 158, 159, 160, 161, 162, 163, 164, 165, 166, 167, 168, 169, 170, 171, 172, 173, 174, 175, 176, 14, 16, 177, 178, 179, 180, 181, 182, 183, 184, 185, 186, 187, 188, 189, 190, 191, 192, 193, 194, 195, 196, 197, 198, 199, 200, 201, 202, 203, 204, 205, 206, 207, 208, 209, 210, 211, 212, 213, 214, 215, 216, 217, 218, 219, 220, 221, 222, 223, 224, 225, 226, 227, 228, 229, 230, 231, 232, 233, 234, 235, 236, 237, 238, 239, 240, 241, 242, 243, 244, 245, 246, 247, 248, 249, 250, 251, 252, 253, 254, 255, 256, 257, 258, 259, 260, 261, 262, 263, 264, 265, 266, 267] (by decide +kernel) (by decide +kernel)
set_option maxRecDepth 20000 in
theorem gX12_cake_X12_readAll : GoodIn wsX12_cake (wsV RX12 347 RX12 yX12_readAll wsX12_readAll) := goodIn_app (goodIn_of _ (by decide +kernel)) ggX12_cake_X12_readAll
theorem dX12_cake_0 : decode cX12_cake 0 = .ok (.aload_n 0, 1) := by decide +kernel
theorem dX12_cake_1 : decode cX12_cake 1 = .ok (.invokevirtual 347, 3) := by decide +kernel
theorem dX12_cake_4 : decode cX12_cake 4 = .ok (.aload_n 0, 1) := by decide +kernel
theorem dX12_cake_5 : decode cX12_cake 5 = .ok (.getfield 179, 3) := by decide +kernel
theorem dX12_cake_8 : decode cX12_cake 8 = .ok (.ifCond .le 5, 3) := by decide +kernel
theorem dX12_cake_11 : decode cX12_cake 11 = .ok (.iconst (-1), 1) := by decide +kernel
theorem dX12_cake_12 : decode cX12_cake 12 = .ok (.ireturn, 1) := by decide +kernel
theorem dX12_cake_13 : decode cX12_cake 13 = .ok (.aload_n 0, 1) := by decide +kernel
theorem dX12_cake_14 : decode cX12_cake 14 = .ok (.aload_n 0, 1) := by decide +kernel
theorem dX12_cake_15 : decode cX12_cake 15 = .ok (.getfield 310, 3) := by decide +kernel
theorem dX12_cake_18 : decode cX12_cake 18 = .ok (.putfield 350, 3) := by decide +kernel
theorem dX12_cake_21 : decode cX12_cake 21 = .ok (.aload_n 0, 1) := by decide +kernel
theorem dX12_cake_22 : decode cX12_cake 22 = .ok (.aload_n 0, 1) := by decide +kernel
theorem dX12_cake_23 : decode cX12_cake 23 = .ok (.getfield 316, 3) := by decide +kernel
theorem dX12_cake_26 : decode cX12_cake 26 = .ok (.putfield 353, 3) := by decide +kernel
theorem dX12_cake_29 : decode cX12_cake 29 = .ok (.aload_n 0, 1) := by decide +kernel
theorem dX12_cake_30 : decode cX12_cake 30 = .ok (.aload_n 0, 1) := by decide +kernel
theorem dX12_cake_31 : decode cX12_cake 31 = .ok (.getfield 335, 3) := by decide +kernel
theorem dX12_cake_34 : decode cX12_cake 34 = .ok (.putfield 88, 3) := by decide +kernel
theorem dX12_cake_37 : decode cX12_cake 37 = .ok (.aload_n 0, 1) := by decide +kernel
theorem dX12_cake_38 : decode cX12_cake 38 = .ok (.aload_n 0, 1) := by decide +kernel
theorem dX12_cake_39 : decode cX12_cake 39 = .ok (.getfield 265, 3) := by decide +kernel
theorem dX12_cake_42 : decode cX12_cake 42 = .ok (.putfield 356, 3) := by decide +kernel
theorem dX12_cake_45 : decode cX12_cake 45 = .ok (.iconst 0, 1) := by decide +kernel
theorem dX12_cake_46 : decode cX12_cake 46 = .ok (.istore_n 1, 1) := by decide +kernel
theorem dX12_cake_47 : decode cX12_cake 47 = .ok (.iload_n 1, 1) := by decide +kernel
theorem dX12_cake_48 : decode cX12_cake 48 = .ok (.iconst 2, 1) := by decide +kernel
theorem dX12_cake_49 : decode cX12_cake 49 = .ok (.if_icmp .ge 86, 3) := by decide +kernel
theorem dX12_cake_52 : decode cX12_cake 52 = .ok (.aload_n 0, 1) := by decide +kernel
theorem dX12_cake_53 : decode cX12_cake 53 = .ok (.getfield 36, 3) := by decide +kernel
theorem dX12_cake_56 : decode cX12_cake 56 = .ok (.iload_n 1, 1) := by decide +kernel
theorem dX12_cake_57 : decode cX12_cake 57 = .ok (.aload_n 0, 1) := by decide +kernel
theorem dX12_cake_58 : decode cX12_cake 58 = .ok (.getfield 45, 3) := by decide +kernel
theorem dX12_cake_61 : decode cX12_cake 61 = .ok (.iload_n 1, 1) := by decide +kernel
theorem dX12_cake_62 : decode cX12_cake 62 = .ok (.baload, 1) := by decide +kernel
theorem dX12_cake_63 : decode cX12_cake 63 = .ok (.ifCond .eq 12, 3) := by decide +kernel
theorem dX12_cake_66 : decode cX12_cake 66 = .ok (.aload_n 0, 1) := by decide +kernel
theorem dX12_cake_67 : decode cX12_cake 67 = .ok (.getfield 27, 3) := by decide +kernel
theorem dX12_cake_70 : decode cX12_cake 70 = .ok (.iload_n 1, 1) := by decide +kernel
theorem dX12_cake_71 : decode cX12_cake 71 = .ok (.iaload, 1) := by decide +kernel
theorem dX12_cake_72 : decode cX12_cake 72 = .ok (.goto 4, 3) := by decide +kernel
theorem dX12_cake_75 : decode cX12_cake 75 = .ok (.iconst 0, 1) := by decide +kernel
theorem dX12_cake_76 : decode cX12_cake 76 = .ok (.iastore, 1) := by decide +kernel
theorem dX12_cake_77 : decode cX12_cake 77 = .ok (.sipush 320, 3) := by decide +kernel
theorem dX12_cake_80 : decode cX12_cake 80 = .ok (.iload_n 1, 1) := by decide +kernel
theorem dX12_cake_81 : decode cX12_cake 81 = .ok (.imul, 1) := by decide +kernel
theorem dX12_cake_82 : decode cX12_cake 82 = .ok (.istore_n 2, 1) := by decide +kernel
theorem dX12_cake_83 : decode cX12_cake 83 = .ok (.iload_n 2, 1) := by decide +kernel
theorem dX12_cake_84 : decode cX12_cake 84 = .ok (.sipush 320, 3) := by decide +kernel
theorem dX12_cake_87 : decode cX12_cake 87 = .ok (.iload_n 1, 1) := by decide +kernel
theorem dX12_cake_88 : decode cX12_cake 88 = .ok (.imul, 1) := by decide +kernel
theorem dX12_cake_89 : decode cX12_cake 89 = .ok (.aload_n 0, 1) := by decide +kernel
theorem dX12_cake_90 : decode cX12_cake 90 = .ok (.getfield 36, 3) := by decide +kernel
theorem dX12_cake_93 : decode cX12_cake 93 = .ok (.iload_n 1, 1) := by decide +kernel
theorem dX12_cake_94 : decode cX12_cake 94 = .ok (.iaload, 1) := by decide +kernel
theorem dX12_cake_95 : decode cX12_cake 95 = .ok (.iadd, 1) := by decide +kernel
theorem dX12_cake_96 : decode cX12_cake 96 = .ok (.if_icmp .ge 33, 3) := by decide +kernel
theorem dX12_cake_99 : decode cX12_cake 99 = .ok (.aload_n 0, 1) := by decide +kernel
theorem dX12_cake_100 : decode cX12_cake 100 = .ok (.getfield 30, 3) := by decide +kernel
theorem dX12_cake_103 : decode cX12_cake 103 = .ok (.iload_n 2, 1) := by decide +kernel
theorem dX12_cake_104 : decode cX12_cake 104 = .ok (.aload_n 0, 1) := by decide +kernel
theorem dX12_cake_105 : decode cX12_cake 105 = .ok (.getfield 21, 3) := by decide +kernel
theorem dX12_cake_108 : decode cX12_cake 108 = .ok (.iload_n 2, 1) := by decide +kernel
theorem dX12_cake_109 : decode cX12_cake 109 = .ok (.iaload, 1) := by decide +kernel
theorem dX12_cake_110 : decode cX12_cake 110 = .ok (.iastore, 1) := by decide +kernel
theorem dX12_cake_111 : decode cX12_cake 111 = .ok (.aload_n 0, 1) := by decide +kernel
theorem dX12_cake_112 : decode cX12_cake 112 = .ok (.getfield 33, 3) := by decide +kernel
theorem dX12_cake_115 : decode cX12_cake 115 = .ok (.iload_n 2, 1) := by decide +kernel
theorem dX12_cake_116 : decode cX12_cake 116 = .ok (.aload_n 0, 1) := by decide +kernel
