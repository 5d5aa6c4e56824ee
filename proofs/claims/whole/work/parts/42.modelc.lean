set_option maxRecDepth 20000 in
theorem ggX12_readAll_X12_token : GoodIn wsX12_readAll wsX12_token := goodIn_r _ [19, 3, 20, 21, 22, 14, 23, 24, 25, 18, 26, 2, 27, 28, 29, 30, 31, 32, 33, 34, 35, 36, 170, 171, 172, 173, 174, 175, 176, 177, 178, 179, 180, 181, 182, 183, 184, 185, 186, 187, 188, 189, 190, 191, 192, 193, 194, 195, 196, 197, 198, 199, 200, 201, 202, 203, 204, 205, 206, 207, 208, 209, 210, 211, 212, 213, 214, 215, 216, 217, 218, 219, 220, 221, 222, 223, 224, 225, 226, 227, 228, 229, 230, 231, 232, 233, 234, 235, 236, 237, 238, 239, 240, 241, 242, 243, 244] (by decide +kernel) (by decide +kernel)
set_option maxRecDepth 20000 in
theorem gX12_readAll_X12_token : GoodIn wsX12_readAll (wsV RX12 231 RX12 yX12_token wsX12_token) := goodIn_app (goodIn_of _ (by decide +kernel)) ggX12_readAll_X12_token
set_option maxRecDepth 20000 in
theorem ggX12_readAll_X12_readLine : GoodIn wsX12_readAll wsX12_readLine := goodIn_r _ [40, 41, 6, 42, 7, 43, 12, 44, 45, 10, 8, 46, 11, 9, 4, 14, 47, 48, 49, 18, 50, 21, 51, 52, 53, 54, 55, 56, 57, 58, 59, 60, 61, 62, 63, 64, 15, 16, 17, 19, 3, 20, 22, 23, 24, 25, 26, 2, 27, 28, 29, 30, 31, 32, 33, 34, 35, 36, 65, 66, 67, 68, 69, 70, 71, 72, 73, 74, 75, 76, 77, 78, 79, 80, 81, 82, 83, 84, 85, 86, 87, 5, 88, 89, 90, 91, 92, 93, 94, 95, 96, 97, 98, 99, 100, 101, 102, 103, 104, 105, 106, 107, 108, 109, 110, 111, 112, 113, 114, 115, 116, 117, 118, 119, 120, 121, 122, 123, 124, 125, 126, 127, 128, 129, 130, 131, 132, 133, 134, 135, 136, 137, 138, 139, 13, 140, 141, 142, 143, 144, 145, 146, 147, 148, 149, 150, 151, 152, 153, 154, 155, 156, 157, 158, 159, 160, 161, 162, 163, 164, 165, 166, 167, 168, 169, 170, 171, 172, 173, 174, 175, 176, 177, 178, 179, 180, 181, 182, 183, 184, 185, 186, 187, 188, 189, 190, 191, 192, 193, 194, 195, 196, 197, 198, 199, 200, 201, 202, 203, 204, 205, 206, 207, 208, 209, 210, 211, 212, 213, 214, 215, 216, 217, 218, 219, 220, 221, 222, 223, 224, 225, 226, 227, 228, 229, 230, 231, 232, 233, 234, 235, 236, 237, 238, 239, 240, 241, 242, 243, 244] (by decide +kernel) (by decide +kernel)
set_option maxRecDepth 20000 in
theorem gX12_readAll_X12_readLine : GoodIn wsX12_readAll (wsV RX12 344 RX12 yX12_readLine wsX12_readLine) := goodIn_app (goodIn_of _ (by decide +kernel)) ggX12_readAll_X12_readLine
theorem dX12_readAll_0 : decode cX12_readAll 0 = .ok (.aload_n 0, 1) := by decide +kernel
theorem dX12_readAll_1 : decode cX12_readAll 1 = .ok (.aload_n 0, 1) := by decide +kernel
theorem dX12_readAll_2 : decode cX12_readAll 2 = .ok (.getfield 139, 3) := by decide +kernel
theorem dX12_readAll_5 : decode cX12_readAll 5 = .ok (.putfield 149, 3) := by decide +kernel
theorem dX12_readAll_8 : decode cX12_readAll 8 = .ok (.aload_n 0, 1) := by decide +kernel
theorem dX12_readAll_9 : decode cX12_readAll 9 = .ok (.iconst 0, 1) := by decide +kernel
theorem dX12_readAll_10 : decode cX12_readAll 10 = .ok (.putfield 139, 3) := by decide +kernel
theorem dX12_readAll_13 : decode cX12_readAll 13 = .ok (.aload_n 0, 1) := by decide +kernel
theorem dX12_readAll_14 : decode cX12_readAll 14 = .ok (.iconst 0, 1) := by decide +kernel
theorem dX12_readAll_15 : decode cX12_readAll 15 = .ok (.putfield 146, 3) := by decide +kernel
theorem dX12_readAll_18 : decode cX12_readAll 18 = .ok (.aload_n 0, 1) := by decide +kernel
theorem dX12_readAll_19 : decode cX12_readAll 19 = .ok (.iconst 0, 1) := by decide +kernel
theorem dX12_readAll_20 : decode cX12_readAll 20 = .ok (.putfield 179, 3) := by decide +kernel
theorem dX12_readAll_23 : decode cX12_readAll 23 = .ok (.aload_n 0, 1) := by decide +kernel
theorem dX12_readAll_24 : decode cX12_readAll 24 = .ok (.iconst (-1), 1) := by decide +kernel
theorem dX12_readAll_25 : decode cX12_readAll 25 = .ok (.putfield 13, 3) := by decide +kernel
theorem dX12_readAll_28 : decode cX12_readAll 28 = .ok (.aload_n 0, 1) := by decide +kernel
theorem dX12_readAll_29 : decode cX12_readAll 29 = .ok (.iconst 0, 1) := by decide +kernel
theorem dX12_readAll_30 : decode cX12_readAll 30 = .ok (.putfield 310, 3) := by decide +kernel
theorem dX12_readAll_33 : decode cX12_readAll 33 = .ok (.aload_n 0, 1) := by decide +kernel
theorem dX12_readAll_34 : decode cX12_readAll 34 = .ok (.iconst 0, 1) := by decide +kernel
theorem dX12_readAll_35 : decode cX12_readAll 35 = .ok (.putfield 316, 3) := by decide +kernel
theorem dX12_readAll_38 : decode cX12_readAll 38 = .ok (.aload_n 0, 1) := by decide +kernel
theorem dX12_readAll_39 : decode cX12_readAll 39 = .ok (.iconst 1, 1) := by decide +kernel
theorem dX12_readAll_40 : decode cX12_readAll 40 = .ok (.putfield 335, 3) := by decide +kernel
theorem dX12_readAll_43 : decode cX12_readAll 43 = .ok (.aload_n 0, 1) := by decide +kernel
theorem dX12_readAll_44 : decode cX12_readAll 44 = .ok (.iconst 0, 1) := by decide +kernel
theorem dX12_readAll_45 : decode cX12_readAll 45 = .ok (.putfield 341, 3) := by decide +kernel
theorem dX12_readAll_48 : decode cX12_readAll 48 = .ok (.aload_n 0, 1) := by decide +kernel
theorem dX12_readAll_49 : decode cX12_readAll 49 = .ok (.iconst 0, 1) := by decide +kernel
theorem dX12_readAll_50 : decode cX12_readAll 50 = .ok (.putfield 331, 3) := by decide +kernel
theorem dX12_readAll_53 : decode cX12_readAll 53 = .ok (.aload_n 0, 1) := by decide +kernel
theorem dX12_readAll_54 : decode cX12_readAll 54 = .ok (.iconst 0, 1) := by decide +kernel
theorem dX12_readAll_55 : decode cX12_readAll 55 = .ok (.putfield 338, 3) := by decide +kernel
theorem dX12_readAll_58 : decode cX12_readAll 58 = .ok (.aload_n 0, 1) := by decide +kernel
theorem dX12_readAll_59 : decode cX12_readAll 59 = .ok (.getfield 45, 3) := by decide +kernel
theorem dX12_readAll_62 : decode cX12_readAll 62 = .ok (.iconst 0, 1) := by decide +kernel
theorem dX12_readAll_63 : decode cX12_readAll 63 = .ok (.iconst 0, 1) := by decide +kernel
theorem dX12_readAll_64 : decode cX12_readAll 64 = .ok (.bastore, 1) := by decide +kernel
theorem dX12_readAll_65 : decode cX12_readAll 65 = .ok (.aload_n 0, 1) := by decide +kernel
theorem dX12_readAll_66 : decode cX12_readAll 66 = .ok (.getfield 45, 3) := by decide +kernel
theorem dX12_readAll_69 : decode cX12_readAll 69 = .ok (.iconst 1, 1) := by decide +kernel
theorem dX12_readAll_70 : decode cX12_readAll 70 = .ok (.iconst 0, 1) := by decide +kernel
theorem dX12_readAll_71 : decode cX12_readAll 71 = .ok (.bastore, 1) := by decide +kernel
theorem dX12_readAll_72 : decode cX12_readAll 72 = .ok (.aload_n 0, 1) := by decide +kernel
theorem dX12_readAll_73 : decode cX12_readAll 73 = .ok (.iconst 0, 1) := by decide +kernel
theorem dX12_readAll_74 : decode cX12_readAll 74 = .ok (.putfield 265, 3) := by decide +kernel
theorem dX12_readAll_77 : decode cX12_readAll 77 = .ok (.aload_n 0, 1) := by decide +kernel
theorem dX12_readAll_78 : decode cX12_readAll 78 = .ok (.invokevirtual 231, 3) := by decide +kernel
theorem dX12_readAll_81 : decode cX12_readAll 81 = .ok (.aload_n 0, 1) := by decide +kernel
theorem dX12_readAll_82 : decode cX12_readAll 82 = .ok (.getfield 179, 3) := by decide +kernel
theorem dX12_readAll_85 : decode cX12_readAll 85 = .ok (.ifCond .ne 17, 3) := by decide +kernel
theorem dX12_readAll_88 : decode cX12_readAll 88 = .ok (.aload_n 0, 1) := by decide +kernel
theorem dX12_readAll_89 : decode cX12_readAll 89 = .ok (.getfield 166, 3) := by decide +kernel
theorem dX12_readAll_92 : decode cX12_readAll 92 = .ok (.ifCond .eq 10, 3) := by decide +kernel
theorem dX12_readAll_95 : decode cX12_readAll 95 = .ok (.aload_n 0, 1) := by decide +kernel
theorem dX12_readAll_96 : decode cX12_readAll 96 = .ok (.invokevirtual 344, 3) := by decide +kernel
theorem dX12_readAll_99 : decode cX12_readAll 99 = .ok (.goto (-18), 3) := by decide +kernel
theorem dX12_readAll_102 : decode cX12_readAll 102 = .ok (.return_, 1) := by decide +kernel
set_option maxRecDepth 20000 in
theorem ggX12_cake_X12_readAll : GoodIn wsX12_cake wsX12_readAll := goodIn_r _ [40, 41, 42, 43, 1, 44, 2, 4, 6, 30, 45, 46, 11, 8, 47, 48, 49, 50, 39, 51, 52, 53, 54, 55, 56, 57, 58, 59, 60, 61, 62, 63, 64, 65, 66, 67, 68, 69, 70, 71, 72, 73, 74, 75, 76, 77, 78, 79, 80, 81, 82, 83, 84, 85, 86, 19, 21, 87, 23, 88, 89, 90, 91, 92, 93, 94, 95, 96, 97, 98, 99, 100, 101, 102, 103, 104, 105, 106, 107, 108, 109, 110, 111, 112, 113, 114, 115, 116, 117, 118, 119, 120, 121, 122, 123, 124, 125, 126, 127, 128, 129, 130, 131, 132, 25, 27, 29, 133, 134, 135, 136, 137, 138, 139, 140, 141, 12, 142, 143, 144, 145, 146, 147, 148, 149, 150, 151, 152, 153, 154, 155, 156, 157, 158, 159, 160, 161, 162, 163, 164, 165, 166, 167, 168, 169, 170, 171, 172, 173, 174, 175, 176, 14, 16, 177, 178, 179, 180, 181, 182, 183, 184, 185, 186, 187, 188, 189, 190, 191, 192, 193, 194, 195, 196, 197, 198, 199, 200, 201, 202, 203, 204, 205, 206, 207, 208, 209, 210, 211, 212, 213, 214, 215, 216, 217, 218, 219, 220, 221, 222, 223, 224, 225, 226, 227, 228, 229, 230, 231, 232, 233, 234, 235, 236, 237, 238, 239, 240, 241, 242, 243, 244, 245, 246, 247, 248, 249, 250, 251, 252, 253, 254, 255, 256, 257, 258, 259, 260, 261, 262, 263, 264, 265, 266, 267] (by decide +kernel) (by decide +kernel)
set_option maxRecDepth 20000 in
theorem gX12_cake_X12_readAll : GoodIn wsX12_cake (wsV RX12 347 RX12 yX12_readAll wsX12_readAll) := goodIn_app (goodIn_of _ (by decide +kernel)) ggX12_cake_X12_readAll
theorem dX12_cake_0 : decode cX12_cake 0 = .ok (.aload_n 0, 1) := by decide +kernel
theorem dX12_cake_1 : decode cX12_cake 1 = .ok (.invokevirtual 347, 3) := by decide +kernel
theorem dX12_cake_4 : decode cX12_cake 4 = .ok (.aload_n 0, 1) := by decide +kernel
theorem dX12_cake_5 : decode cX12_cake 5 = .ok (.getfield 179, 3) := by decide +kernel
theorem dX12_cake_8 : decode cX12_cake 8 = .ok (.ifCond .le 5, 3) := by decide +kernel
theorem dX12_cake_11 : decode cX12_cake 11 = .ok (.iconst (-1), 1) := by decide +kernel
theorem dX12_cake_12 : decode cX12_cake 12 = .ok (.ireturn, 1) := by decide +kernel
theorem dX12_cake_13 : decode cX12_cake 13 = .ok (.aload_n 0, 1) := by decide +kernel
theorem dX12_cake_14 : decode cX12_cake 14 = .ok (.aload_n 0, 1) := by decide +kernel
theorem dX12_cake_15 : decode cX12_cake 15 = .ok (.getfield 310, 3) := by decide +kernel
theorem dX12_cake_18 : decode cX12_cake 18 = .ok (.putfield 350, 3) := by decide +kernel
theorem dX12_cake_21 : decode cX12_cake 21 = .ok (.aload_n 0, 1) := by decide +kernel
theorem dX12_cake_22 : decode cX12_cake 22 = .ok (.aload_n 0, 1) := by decide +kernel
theorem dX12_cake_23 : decode cX12_cake 23 = .ok (.getfield 316, 3) := by decide +kernel
theorem dX12_cake_26 : decode cX12_cake 26 = .ok (.putfield 353, 3) := by decide +kernel
theorem dX12_cake_29 : decode cX12_cake 29 = .ok (.aload_n 0, 1) := by decide +kernel
theorem dX12_cake_30 : decode cX12_cake 30 = .ok (.aload_n 0, 1) := by decide +kernel
theorem dX12_cake_31 : decode cX12_cake 31 = .ok (.getfield 335, 3) := by decide +kernel
theorem dX12_cake_34 : decode cX12_cake 34 = .ok (.putfield 88, 3) := by decide +kernel
theorem dX12_cake_37 : decode cX12_cake 37 = .ok (.aload_n 0, 1) := by decide +kernel
theorem dX12_cake_38 : decode cX12_cake 38 = .ok (.aload_n 0, 1) := by decide +kernel
theorem dX12_cake_39 : decode cX12_cake 39 = .ok (.getfield 265, 3) := by decide +kernel
theorem dX12_cake_42 : decode cX12_cake 42 = .ok (.putfield 356, 3) := by decide +kernel
theorem dX12_cake_45 : decode cX12_cake 45 = .ok (.iconst 0, 1) := by decide +kernel
theorem dX12_cake_46 : decode cX12_cake 46 = .ok (.istore_n 1, 1) := by decide +kernel
theorem dX12_cake_47 : decode cX12_cake 47 = .ok (.iload_n 1, 1) := by decide +kernel
theorem dX12_cake_48 : decode cX12_cake 48 = .ok (.iconst 2, 1) := by decide +kernel
theorem dX12_cake_49 : decode cX12_cake 49 = .ok (.if_icmp .ge 86, 3) := by decide +kernel
theorem dX12_cake_52 : decode cX12_cake 52 = .ok (.aload_n 0, 1) := by decide +kernel
theorem dX12_cake_53 : decode cX12_cake 53 = .ok (.getfield 36, 3) := by decide +kernel
theorem dX12_cake_56 : decode cX12_cake 56 = .ok (.iload_n 1, 1) := by decide +kernel
theorem dX12_cake_57 : decode cX12_cake 57 = .ok (.aload_n 0, 1) := by decide +kernel
theorem dX12_cake_58 : decode cX12_cake 58 = .ok (.getfield 45, 3) := by decide +kernel
theorem dX12_cake_61 : decode cX12_cake 61 = .ok (.iload_n 1, 1) := by decide +kernel
theorem dX12_cake_62 : decode cX12_cake 62 = .ok (.baload, 1) := by decide +kernel
theorem dX12_cake_63 : decode cX12_cake 63 = .ok (.ifCond .eq 12, 3) := by decide +kernel
theorem dX12_cake_66 : decode cX12_cake 66 = .ok (.aload_n 0, 1) := by decide +kernel
theorem dX12_cake_67 : decode cX12_cake 67 = .ok (.getfield 27, 3) := by decide +kernel
theorem dX12_cake_70 : decode cX12_cake 70 = .ok (.iload_n 1, 1) := by decide +kernel
theorem dX12_cake_71 : decode cX12_cake 71 = .ok (.iaload, 1) := by decide +kernel
theorem dX12_cake_72 : decode cX12_cake 72 = .ok (.goto 4, 3) := by decide +kernel
theorem dX12_cake_75 : decode cX12_cake 75 = .ok (.iconst 0, 1) := by decide +kernel
theorem dX12_cake_76 : decode cX12_cake 76 = .ok (.iastore, 1) := by decide +kernel
theorem dX12_cake_77 : decode cX12_cake 77 = .ok (.sipush 320, 3) := by decide +kernel
theorem dX12_cake_80 : decode cX12_cake 80 = .ok (.iload_n 1, 1) := by decide +kernel
theorem dX12_cake_81 : decode cX12_cake 81 = .ok (.imul, 1) := by decide +kernel
theorem dX12_cake_82 : decode cX12_cake 82 = .ok (.istore_n 2, 1) := by decide +kernel
theorem dX12_cake_83 : decode cX12_cake 83 = .ok (.iload_n 2, 1) := by decide +kernel
theorem dX12_cake_84 : decode cX12_cake 84 = .ok (.sipush 320, 3) := by decide +kernel
theorem dX12_cake_87 : decode cX12_cake 87 = .ok (.iload_n 1, 1) := by decide +kernel
theorem dX12_cake_88 : decode cX12_cake 88 = .ok (.imul, 1) := by decide +kernel
theorem dX12_cake_89 : decode cX12_cake 89 = .ok (.aload_n 0, 1) := by decide +kernel
theorem dX12_cake_90 : decode cX12_cake 90 = .ok (.getfield 36, 3) := by decide +kernel
theorem dX12_cake_93 : decode cX12_cake 93 = .ok (.iload_n 1, 1) := by decide +kernel
theorem dX12_cake_94 : decode cX12_cake 94 = .ok (.iaload, 1) := by decide +kernel
theorem dX12_cake_95 : decode cX12_cake 95 = .ok (.iadd, 1) := by decide +kernel
theorem dX12_cake_96 : decode cX12_cake 96 = .ok (.if_icmp .ge 33, 3) := by decide +kernel
theorem dX12_cake_99 : decode cX12_cake 99 = .ok (.aload_n 0, 1) := by decide +kernel
theorem dX12_cake_100 : decode cX12_cake 100 = .ok (.getfield 30, 3) := by decide +kernel
theorem dX12_cake_103 : decode cX12_cake 103 = .ok (.iload_n 2, 1) := by decide +kernel
theorem dX12_cake_104 : decode cX12_cake 104 = .ok (.aload_n 0, 1) := by decide +kernel
theorem dX12_cake_105 : decode cX12_cake 105 = .ok (.getfield 21, 3) := by decide +kernel
theorem dX12_cake_108 : decode cX12_cake 108 = .ok (.iload_n 2, 1) := by decide +kernel
theorem dX12_cake_109 : decode cX12_cake 109 = .ok (.iaload, 1) := by decide +kernel
theorem dX12_cake_110 : decode cX12_cake 110 = .ok (.iastore, 1) := by decide +kernel
theorem dX12_cake_111 : decode cX12_cake 111 = .ok (.aload_n 0, 1) := by decide +kernel
theorem dX12_cake_112 : decode cX12_cake 112 = .ok (.getfield 33, 3) := by decide +kernel
theorem dX12_cake_115 : decode cX12_cake 115 = .ok (.iload_n 2, 1) := by decide +kernel
theorem dX12_cake_116 : decode cX12_cake 116 = .ok (.aload_n 0, 1) := by decide +kernel
theorem dX12_cake_117 : decode cX12_cake 117 = .ok (.getfield 24, 3) := by decide +kernel
theorem dX12_cake_120 : decode cX12_cake 120 = .ok (.iload_n 2, 1) := by decide +kernel
theorem dX12_cake_121 : decode cX12_cake 121 = .ok (.iaload, 1) := by decide +kernel
theorem dX12_cake_122 : decode cX12_cake 122 = .ok (.iastore, 1) := by decide +kernel
theorem dX12_cake_123 : decode cX12_cake 123 = .ok (.iinc 2 1, 3) := by decide +kernel
theorem dX12_cake_126 : decode cX12_cake 126 = .ok (.goto (-43), 3) := by decide +kernel
theorem dX12_cake_129 : decode cX12_cake 129 = .ok (.iinc 1 1, 3) := by decide +kernel
theorem dX12_cake_132 : decode cX12_cake 132 = .ok (.goto (-85), 3) := by decide +kernel
theorem dX12_cake_135 : decode cX12_cake 135 = .ok (.iconst 0, 1) := by decide +kernel
theorem dX12_cake_136 : decode cX12_cake 136 = .ok (.istore_n 1, 1) := by decide +kernel
theorem dX12_cake_137 : decode cX12_cake 137 = .ok (.iload_n 1, 1) := by decide +kernel
theorem dX12_cake_138 : decode cX12_cake 138 = .ok (.sipush 171, 3) := by decide +kernel
theorem dX12_cake_141 : decode cX12_cake 141 = .ok (.if_icmp .ge 16, 3) := by decide +kernel
theorem dX12_cake_144 : decode cX12_cake 144 = .ok (.aload_n 0, 1) := by decide +kernel
theorem dX12_cake_145 : decode cX12_cake 145 = .ok (.getfield 91, 3) := by decide +kernel
theorem dX12_cake_148 : decode cX12_cake 148 = .ok (.iload_n 1, 1) := by decide +kernel
theorem dX12_cake_149 : decode cX12_cake 149 = .ok (.iconst 0, 1) := by decide +kernel
theorem dX12_cake_150 : decode cX12_cake 150 = .ok (.iastore, 1) := by decide +kernel
theorem dX12_cake_151 : decode cX12_cake 151 = .ok (.iinc 1 1, 3) := by decide +kernel
theorem dX12_cake_154 : decode cX12_cake 154 = .ok (.goto (-17), 3) := by decide +kernel
theorem dX12_cake_157 : decode cX12_cake 157 = .ok (.iconst 0, 1) := by decide +kernel
theorem dX12_cake_158 : decode cX12_cake 158 = .ok (.istore_n 1, 1) := by decide +kernel
theorem dX12_cake_159 : decode cX12_cake 159 = .ok (.iload_n 1, 1) := by decide +kernel
theorem dX12_cake_160 : decode cX12_cake 160 = .ok (.aload_n 0, 1) := by decide +kernel
theorem dX12_cake_161 : decode cX12_cake 161 = .ok (.getfield 350, 3) := by decide +kernel
theorem dX12_cake_164 : decode cX12_cake 164 = .ok (.if_icmp .ge 102, 3) := by decide +kernel
theorem dX12_cake_167 : decode cX12_cake 167 = .ok (.aload_n 0, 1) := by decide +kernel
theorem dX12_cake_168 : decode cX12_cake 168 = .ok (.getfield 61, 3) := by decide +kernel
theorem dX12_cake_171 : decode cX12_cake 171 = .ok (.iload_n 1, 1) := by decide +kernel
theorem dX12_cake_172 : decode cX12_cake 172 = .ok (.aload_n 0, 1) := by decide +kernel
theorem dX12_cake_173 : decode cX12_cake 173 = .ok (.getfield 52, 3) := by decide +kernel
theorem dX12_cake_176 : decode cX12_cake 176 = .ok (.iload_n 1, 1) := by decide +kernel
theorem dX12_cake_177 : decode cX12_cake 177 = .ok (.iaload, 1) := by decide +kernel
theorem dX12_cake_178 : decode cX12_cake 178 = .ok (.iastore, 1) := by decide +kernel
theorem dX12_cake_179 : decode cX12_cake 179 = .ok (.aload_n 0, 1) := by decide +kernel
theorem dX12_cake_180 : decode cX12_cake 180 = .ok (.getfield 64, 3) := by decide +kernel
theorem dX12_cake_183 : decode cX12_cake 183 = .ok (.iload_n 1, 1) := by decide +kernel
theorem dX12_cake_184 : decode cX12_cake 184 = .ok (.aload_n 0, 1) := by decide +kernel
theorem dX12_cake_185 : decode cX12_cake 185 = .ok (.getfield 55, 3) := by decide +kernel
theorem dX12_cake_188 : decode cX12_cake 188 = .ok (.iload_n 1, 1) := by decide +kernel
theorem dX12_cake_189 : decode cX12_cake 189 = .ok (.iaload, 1) := by decide +kernel
theorem dX12_cake_190 : decode cX12_cake 190 = .ok (.iastore, 1) := by decide +kernel
theorem dX12_cake_191 : decode cX12_cake 191 = .ok (.aload_n 0, 1) := by decide +kernel
theorem dX12_cake_192 : decode cX12_cake 192 = .ok (.getfield 67, 3) := by decide +kernel
theorem dX12_cake_195 : decode cX12_cake 195 = .ok (.iload_n 1, 1) := by decide +kernel
theorem dX12_cake_196 : decode cX12_cake 196 = .ok (.aload_n 0, 1) := by decide +kernel
theorem dX12_cake_197 : decode cX12_cake 197 = .ok (.getfield 58, 3) := by decide +kernel
theorem dX12_cake_200 : decode cX12_cake 200 = .ok (.iload_n 1, 1) := by decide +kernel
theorem dX12_cake_201 : decode cX12_cake 201 = .ok (.iaload, 1) := by decide +kernel
theorem dX12_cake_202 : decode cX12_cake 202 = .ok (.iastore, 1) := by decide +kernel
theorem dX12_cake_203 : decode cX12_cake 203 = .ok (.aload_n 0, 1) := by decide +kernel
theorem dX12_cake_204 : decode cX12_cake 204 = .ok (.getfield 91, 3) := by decide +kernel
theorem dX12_cake_207 : decode cX12_cake 207 = .ok (.bipush 7, 2) := by decide +kernel
theorem dX12_cake_209 : decode cX12_cake 209 = .ok (.iload_n 1, 1) := by decide +kernel
theorem dX12_cake_210 : decode cX12_cake 210 = .ok (.imul, 1) := by decide +kernel
theorem dX12_cake_211 : decode cX12_cake 211 = .ok (.iload_n 1, 1) := by decide +kernel
theorem dX12_cake_212 : decode cX12_cake 212 = .ok (.iastore, 1) := by decide +kernel
theorem dX12_cake_213 : decode cX12_cake 213 = .ok (.aload_n 0, 1) := by decide +kernel
theorem dX12_cake_214 : decode cX12_cake 214 = .ok (.getfield 91, 3) := by decide +kernel
theorem dX12_cake_217 : decode cX12_cake 217 = .ok (.bipush 7, 2) := by decide +kernel
theorem dX12_cake_219 : decode cX12_cake 219 = .ok (.iload_n 1, 1) := by decide +kernel
theorem dX12_cake_220 : decode cX12_cake 220 = .ok (.imul, 1) := by decide +kernel
theorem dX12_cake_221 : decode cX12_cake 221 = .ok (.iconst 3, 1) := by decide +kernel
theorem dX12_cake_222 : decode cX12_cake 222 = .ok (.iadd, 1) := by decide +kernel
theorem dX12_cake_223 : decode cX12_cake 223 = .ok (.aload_n 0, 1) := by decide +kernel
theorem dX12_cake_224 : decode cX12_cake 224 = .ok (.getfield 61, 3) := by decide +kernel
theorem dX12_cake_227 : decode cX12_cake 227 = .ok (.iload_n 1, 1) := by decide +kernel
theorem dX12_cake_228 : decode cX12_cake 228 = .ok (.iaload, 1) := by decide +kernel
theorem dX12_cake_229 : decode cX12_cake 229 = .ok (.iastore, 1) := by decide +kernel
theorem dX12_cake_230 : decode cX12_cake 230 = .ok (.aload_n 0, 1) := by decide +kernel
theorem dX12_cake_231 : decode cX12_cake 231 = .ok (.getfield 91, 3) := by decide +kernel
theorem dX12_cake_234 : decode cX12_cake 234 = .ok (.bipush 7, 2) := by decide +kernel
theorem dX12_cake_236 : decode cX12_cake 236 = .ok (.iload_n 1, 1) := by decide +kernel
theorem dX12_cake_237 : decode cX12_cake 237 = .ok (.imul, 1) := by decide +kernel
theorem dX12_cake_238 : decode cX12_cake 238 = .ok (.iconst 4, 1) := by decide +kernel
theorem dX12_cake_239 : decode cX12_cake 239 = .ok (.iadd, 1) := by decide +kernel
theorem dX12_cake_240 : decode cX12_cake 240 = .ok (.aload_n 0, 1) := by decide +kernel
theorem dX12_cake_241 : decode cX12_cake 241 = .ok (.getfield 64, 3) := by decide +kernel
theorem dX12_cake_244 : decode cX12_cake 244 = .ok (.iload_n 1, 1) := by decide +kernel
theorem dX12_cake_245 : decode cX12_cake 245 = .ok (.iaload, 1) := by decide +kernel
theorem dX12_cake_246 : decode cX12_cake 246 = .ok (.iastore, 1) := by decide +kernel
theorem dX12_cake_247 : decode cX12_cake 247 = .ok (.aload_n 0, 1) := by decide +kernel
theorem dX12_cake_248 : decode cX12_cake 248 = .ok (.getfield 91, 3) := by decide +kernel
theorem dX12_cake_251 : decode cX12_cake 251 = .ok (.bipush 7, 2) := by decide +kernel
theorem dX12_cake_253 : decode cX12_cake 253 = .ok (.iload_n 1, 1) := by decide +kernel
theorem dX12_cake_254 : decode cX12_cake 254 = .ok (.imul, 1) := by decide +kernel
theorem dX12_cake_255 : decode cX12_cake 255 = .ok (.bipush 6, 2) := by decide +kernel
theorem dX12_cake_257 : decode cX12_cake 257 = .ok (.iadd, 1) := by decide +kernel
theorem dX12_cake_258 : decode cX12_cake 258 = .ok (.iconst (-1), 1) := by decide +kernel
theorem dX12_cake_259 : decode cX12_cake 259 = .ok (.iastore, 1) := by decide +kernel
theorem dX12_cake_260 : decode cX12_cake 260 = .ok (.iinc 1 1, 3) := by decide +kernel
theorem dX12_cake_263 : decode cX12_cake 263 = .ok (.goto (-104), 3) := by decide +kernel
theorem dX12_cake_266 : decode cX12_cake 266 = .ok (.iconst 0, 1) := by decide +kernel
theorem dX12_cake_267 : decode cX12_cake 267 = .ok (.istore_n 1, 1) := by decide +kernel
theorem dX12_cake_268 : decode cX12_cake 268 = .ok (.iload_n 1, 1) := by decide +kernel
theorem dX12_cake_269 : decode cX12_cake 269 = .ok (.aload_n 0, 1) := by decide +kernel
theorem dX12_cake_270 : decode cX12_cake 270 = .ok (.getfield 353, 3) := by decide +kernel
theorem dX12_cake_273 : decode cX12_cake 273 = .ok (.if_icmp .ge 45, 3) := by decide +kernel
theorem dX12_cake_276 : decode cX12_cake 276 = .ok (.aload_n 0, 1) := by decide +kernel
theorem dX12_cake_277 : decode cX12_cake 277 = .ok (.getfield 79, 3) := by decide +kernel
theorem dX12_cake_280 : decode cX12_cake 280 = .ok (.iload_n 1, 1) := by decide +kernel
theorem dX12_cake_281 : decode cX12_cake 281 = .ok (.aload_n 0, 1) := by decide +kernel
theorem dX12_cake_282 : decode cX12_cake 282 = .ok (.getfield 70, 3) := by decide +kernel
theorem dX12_cake_285 : decode cX12_cake 285 = .ok (.iload_n 1, 1) := by decide +kernel
theorem dX12_cake_286 : decode cX12_cake 286 = .ok (.iaload, 1) := by decide +kernel
theorem dX12_cake_287 : decode cX12_cake 287 = .ok (.iastore, 1) := by decide +kernel
theorem dX12_cake_288 : decode cX12_cake 288 = .ok (.aload_n 0, 1) := by decide +kernel
theorem dX12_cake_289 : decode cX12_cake 289 = .ok (.getfield 82, 3) := by decide +kernel
theorem dX12_cake_292 : decode cX12_cake 292 = .ok (.iload_n 1, 1) := by decide +kernel
theorem dX12_cake_293 : decode cX12_cake 293 = .ok (.aload_n 0, 1) := by decide +kernel
theorem dX12_cake_294 : decode cX12_cake 294 = .ok (.getfield 73, 3) := by decide +kernel
theorem dX12_cake_297 : decode cX12_cake 297 = .ok (.iload_n 1, 1) := by decide +kernel
theorem dX12_cake_298 : decode cX12_cake 298 = .ok (.iaload, 1) := by decide +kernel
theorem dX12_cake_299 : decode cX12_cake 299 = .ok (.iastore, 1) := by decide +kernel
theorem dX12_cake_300 : decode cX12_cake 300 = .ok (.aload_n 0, 1) := by decide +kernel
theorem dX12_cake_301 : decode cX12_cake 301 = .ok (.getfield 85, 3) := by decide +kernel
theorem dX12_cake_304 : decode cX12_cake 304 = .ok (.iload_n 1, 1) := by decide +kernel
theorem dX12_cake_305 : decode cX12_cake 305 = .ok (.aload_n 0, 1) := by decide +kernel
theorem dX12_cake_306 : decode cX12_cake 306 = .ok (.getfield 76, 3) := by decide +kernel
theorem dX12_cake_309 : decode cX12_cake 309 = .ok (.iload_n 1, 1) := by decide +kernel
theorem dX12_cake_310 : decode cX12_cake 310 = .ok (.iaload, 1) := by decide +kernel
theorem dX12_cake_311 : decode cX12_cake 311 = .ok (.iastore, 1) := by decide +kernel
theorem dX12_cake_312 : decode cX12_cake 312 = .ok (.iinc 1 1, 3) := by decide +kernel
theorem dX12_cake_315 : decode cX12_cake 315 = .ok (.goto (-47), 3) := by decide +kernel
theorem dX12_cake_318 : decode cX12_cake 318 = .ok (.aload_n 0, 1) := by decide +kernel
theorem dX12_cake_319 : decode cX12_cake 319 = .ok (.getfield 91, 3) := by decide +kernel
theorem dX12_cake_322 : decode cX12_cake 322 = .ok (.sipush 168, 3) := by decide +kernel
theorem dX12_cake_325 : decode cX12_cake 325 = .ok (.aload_n 0, 1) := by decide +kernel
theorem dX12_cake_326 : decode cX12_cake 326 = .ok (.getfield 350, 3) := by decide +kernel
theorem dX12_cake_329 : decode cX12_cake 329 = .ok (.iastore, 1) := by decide +kernel
theorem dX12_cake_330 : decode cX12_cake 330 = .ok (.aload_n 0, 1) := by decide +kernel
theorem dX12_cake_331 : decode cX12_cake 331 = .ok (.getfield 91, 3) := by decide +kernel
theorem dX12_cake_334 : decode cX12_cake 334 = .ok (.sipush 170, 3) := by decide +kernel
theorem dX12_cake_337 : decode cX12_cake 337 = .ok (.aload_n 0, 1) := by decide +kernel
theorem dX12_cake_338 : decode cX12_cake 338 = .ok (.getfield 341, 3) := by decide +kernel
theorem dX12_cake_341 : decode cX12_cake 341 = .ok (.iastore, 1) := by decide +kernel
theorem dX12_cake_342 : decode cX12_cake 342 = .ok (.aload_n 0, 1) := by decide +kernel
theorem dX12_cake_343 : decode cX12_cake 343 = .ok (.iconst 0, 1) := by decide +kernel
theorem dX12_cake_344 : decode cX12_cake 344 = .ok (.putfield 359, 3) := by decide +kernel
theorem dX12_cake_347 : decode cX12_cake 347 = .ok (.aload_n 0, 1) := by decide +kernel
theorem dX12_cake_348 : decode cX12_cake 348 = .ok (.iconst 0, 1) := by decide +kernel
theorem dX12_cake_349 : decode cX12_cake 349 = .ok (.putfield 362, 3) := by decide +kernel
theorem dX12_cake_352 : decode cX12_cake 352 = .ok (.aload_n 0, 1) := by decide +kernel
theorem dX12_cake_353 : decode cX12_cake 353 = .ok (.iconst 0, 1) := by decide +kernel
theorem dX12_cake_354 : decode cX12_cake 354 = .ok (.putfield 365, 3) := by decide +kernel
theorem dX12_cake_357 : decode cX12_cake 357 = .ok (.aload_n 0, 1) := by decide +kernel
theorem dX12_cake_358 : decode cX12_cake 358 = .ok (.iconst 0, 1) := by decide +kernel
theorem dX12_cake_359 : decode cX12_cake 359 = .ok (.putfield 368, 3) := by decide +kernel
theorem dX12_cake_362 : decode cX12_cake 362 = .ok (.iconst 0, 1) := by decide +kernel
theorem dX12_cake_363 : decode cX12_cake 363 = .ok (.istore_n 1, 1) := by decide +kernel
theorem dX12_cake_364 : decode cX12_cake 364 = .ok (.iload_n 1, 1) := by decide +kernel
theorem dX12_cake_365 : decode cX12_cake 365 = .ok (.iconst 3, 1) := by decide +kernel
theorem dX12_cake_366 : decode cX12_cake 366 = .ok (.if_icmp .ge 16, 3) := by decide +kernel
theorem dX12_cake_369 : decode cX12_cake 369 = .ok (.aload_n 0, 1) := by decide +kernel
theorem dX12_cake_370 : decode cX12_cake 370 = .ok (.getfield 133, 3) := by decide +kernel
theorem dX12_cake_373 : decode cX12_cake 373 = .ok (.iload_n 1, 1) := by decide +kernel
theorem dX12_cake_374 : decode cX12_cake 374 = .ok (.iconst 0, 1) := by decide +kernel
theorem dX12_cake_375 : decode cX12_cake 375 = .ok (.bastore, 1) := by decide +kernel
theorem dX12_cake_376 : decode cX12_cake 376 = .ok (.iinc 1 1, 3) := by decide +kernel
theorem dX12_cake_379 : decode cX12_cake 379 = .ok (.goto (-15), 3) := by decide +kernel
theorem dX12_cake_382 : decode cX12_cake 382 = .ok (.aload_n 0, 1) := by decide +kernel
theorem dX12_cake_383 : decode cX12_cake 383 = .ok (.getfield 350, 3) := by decide +kernel
theorem dX12_cake_386 : decode cX12_cake 386 = .ok (.ireturn, 1) := by decide +kernel
theorem dX12_fault_0 : decode cX12_fault 0 = .ok (.iload_n 1, 1) := by decide +kernel
theorem dX12_fault_1 : decode cX12_fault 1 = .ok (.ifCond .ne 10, 3) := by decide +kernel
theorem dX12_fault_4 : decode cX12_fault 4 = .ok (.aload_n 0, 1) := by decide +kernel
theorem dX12_fault_5 : decode cX12_fault 5 = .ok (.getfield 179, 3) := by decide +kernel
theorem dX12_fault_8 : decode cX12_fault 8 = .ok (.goto 16, 3) := by decide +kernel
theorem dX12_fault_11 : decode cX12_fault 11 = .ok (.iload_n 1, 1) := by decide +kernel
theorem dX12_fault_12 : decode cX12_fault 12 = .ok (.iconst 1, 1) := by decide +kernel
theorem dX12_fault_13 : decode cX12_fault 13 = .ok (.if_icmp .ne 10, 3) := by decide +kernel
theorem dX12_fault_16 : decode cX12_fault 16 = .ok (.aload_n 0, 1) := by decide +kernel
theorem dX12_fault_17 : decode cX12_fault 17 = .ok (.getfield 13, 3) := by decide +kernel
theorem dX12_fault_20 : decode cX12_fault 20 = .ok (.goto 4, 3) := by decide +kernel
theorem dX12_fault_23 : decode cX12_fault 23 = .ok (.iconst (-1), 1) := by decide +kernel
theorem dX12_fault_24 : decode cX12_fault 24 = .ok (.ireturn, 1) := by decide +kernel
theorem dX12_isIn_0 : decode cX12_isIn 0 = .ok (.iload_n 0, 1) := by decide +kernel
theorem dX12_isIn_1 : decode cX12_isIn 1 = .ok (.iload_n 1, 1) := by decide +kernel
theorem dX12_isIn_2 : decode cX12_isIn 2 = .ok (.if_icmp .lt 12, 3) := by decide +kernel
theorem dX12_isIn_5 : decode cX12_isIn 5 = .ok (.iload_n 0, 1) := by decide +kernel
theorem dX12_isIn_6 : decode cX12_isIn 6 = .ok (.iload_n 2, 1) := by decide +kernel
theorem dX12_isIn_7 : decode cX12_isIn 7 = .ok (.if_icmp .gt 7, 3) := by decide +kernel
theorem dX12_isIn_10 : decode cX12_isIn 10 = .ok (.iconst 1, 1) := by decide +kernel
theorem dX12_isIn_11 : decode cX12_isIn 11 = .ok (.goto 4, 3) := by decide +kernel
theorem dX12_isIn_14 : decode cX12_isIn 14 = .ok (.iconst 0, 1) := by decide +kernel
theorem dX12_isIn_15 : decode cX12_isIn 15 = .ok (.ireturn, 1) := by decide +kernel
set_option maxRecDepth 20000 in
theorem ggX12_isTier_X12_isIn : GoodIn wsX12_isTier wsX12_isIn := goodIn_r _ [5] (by decide +kernel) (by decide +kernel)
set_option maxRecDepth 20000 in
theorem gX12_isTier_X12_isIn : GoodIn wsX12_isTier (va_wsS RX12 371 yX12_isIn wsX12_isIn) := goodIn_app (goodIn_of _ (by decide +kernel)) ggX12_isTier_X12_isIn
theorem dX12_isTier_0 : decode cX12_isTier 0 = .ok (.iload_n 1, 1) := by decide +kernel
theorem dX12_isTier_1 : decode cX12_isTier 1 = .ok (.iconst 0, 1) := by decide +kernel
theorem dX12_isTier_2 : decode cX12_isTier 2 = .ok (.aload_n 0, 1) := by decide +kernel
theorem dX12_isTier_3 : decode cX12_isTier 3 = .ok (.getfield 350, 3) := by decide +kernel
theorem dX12_isTier_6 : decode cX12_isTier 6 = .ok (.iconst 1, 1) := by decide +kernel
theorem dX12_isTier_7 : decode cX12_isTier 7 = .ok (.isub, 1) := by decide +kernel
theorem dX12_isTier_8 : decode cX12_isTier 8 = .ok (.invokestatic 371, 3) := by decide +kernel
theorem dX12_isTier_11 : decode cX12_isTier 11 = .ok (.ireturn, 1) := by decide +kernel
set_option maxRecDepth 20000 in
theorem ggX12_isGuest_X12_isIn : GoodIn wsX12_isGuest wsX12_isIn := goodIn_r _ [5] (by decide +kernel) (by decide +kernel)
set_option maxRecDepth 20000 in
theorem gX12_isGuest_X12_isIn : GoodIn wsX12_isGuest (va_wsS RX12 371 yX12_isIn wsX12_isIn) := goodIn_app (goodIn_of _ (by decide +kernel)) ggX12_isGuest_X12_isIn
theorem dX12_isGuest_0 : decode cX12_isGuest 0 = .ok (.iload_n 1, 1) := by decide +kernel
theorem dX12_isGuest_1 : decode cX12_isGuest 1 = .ok (.iconst 0, 1) := by decide +kernel
theorem dX12_isGuest_2 : decode cX12_isGuest 2 = .ok (.aload_n 0, 1) := by decide +kernel
theorem dX12_isGuest_3 : decode cX12_isGuest 3 = .ok (.getfield 353, 3) := by decide +kernel
theorem dX12_isGuest_6 : decode cX12_isGuest 6 = .ok (.iconst 1, 1) := by decide +kernel
theorem dX12_isGuest_7 : decode cX12_isGuest 7 = .ok (.isub, 1) := by decide +kernel
theorem dX12_isGuest_8 : decode cX12_isGuest 8 = .ok (.invokestatic 371, 3) := by decide +kernel
theorem dX12_isGuest_11 : decode cX12_isGuest 11 = .ok (.ireturn, 1) := by decide +kernel
set_option maxRecDepth 20000 in
theorem ggX12_isPiece_X12_isIn : GoodIn wsX12_isPiece wsX12_isIn := goodIn_r _ [5] (by decide +kernel) (by decide +kernel)
set_option maxRecDepth 20000 in
theorem gX12_isPiece_X12_isIn : GoodIn wsX12_isPiece (va_wsS RX12 371 yX12_isIn wsX12_isIn) := goodIn_app (goodIn_of _ (by decide +kernel)) ggX12_isPiece_X12_isIn
theorem dX12_isPiece_0 : decode cX12_isPiece 0 = .ok (.iload_n 1, 1) := by decide +kernel
theorem dX12_isPiece_1 : decode cX12_isPiece 1 = .ok (.iconst 0, 1) := by decide +kernel
theorem dX12_isPiece_2 : decode cX12_isPiece 2 = .ok (.aload_n 0, 1) := by decide +kernel
theorem dX12_isPiece_3 : decode cX12_isPiece 3 = .ok (.getfield 91, 3) := by decide +kernel
theorem dX12_isPiece_6 : decode cX12_isPiece 6 = .ok (.sipush 168, 3) := by decide +kernel
theorem dX12_isPiece_9 : decode cX12_isPiece 9 = .ok (.iaload, 1) := by decide +kernel
theorem dX12_isPiece_10 : decode cX12_isPiece 10 = .ok (.iconst 1, 1) := by decide +kernel
theorem dX12_isPiece_11 : decode cX12_isPiece 11 = .ok (.isub, 1) := by decide +kernel
theorem dX12_isPiece_12 : decode cX12_isPiece 12 = .ok (.invokestatic 371, 3) := by decide +kernel
theorem dX12_isPiece_15 : decode cX12_isPiece 15 = .ok (.ireturn, 1) := by decide +kernel
theorem dX12_load_0 : decode cX12_load 0 = .ok (.iconst 0, 1) := by decide +kernel
theorem dX12_load_1 : decode cX12_load 1 = .ok (.istore_n 1, 1) := by decide +kernel
theorem dX12_load_2 : decode cX12_load 2 = .ok (.iload_n 1, 1) := by decide +kernel
theorem dX12_load_3 : decode cX12_load 3 = .ok (.sipush 171, 3) := by decide +kernel
theorem dX12_load_6 : decode cX12_load 6 = .ok (.if_icmp .ge 21, 3) := by decide +kernel
theorem dX12_load_9 : decode cX12_load 9 = .ok (.aload_n 0, 1) := by decide +kernel
theorem dX12_load_10 : decode cX12_load 10 = .ok (.getfield 94, 3) := by decide +kernel
theorem dX12_load_13 : decode cX12_load 13 = .ok (.iload_n 1, 1) := by decide +kernel
theorem dX12_load_14 : decode cX12_load 14 = .ok (.aload_n 0, 1) := by decide +kernel
theorem dX12_load_15 : decode cX12_load 15 = .ok (.getfield 91, 3) := by decide +kernel
theorem dX12_load_18 : decode cX12_load 18 = .ok (.iload_n 1, 1) := by decide +kernel
theorem dX12_load_19 : decode cX12_load 19 = .ok (.iaload, 1) := by decide +kernel
theorem dX12_load_20 : decode cX12_load 20 = .ok (.iastore, 1) := by decide +kernel
theorem dX12_load_21 : decode cX12_load 21 = .ok (.iinc 1 1, 3) := by decide +kernel
theorem dX12_load_24 : decode cX12_load 24 = .ok (.goto (-22), 3) := by decide +kernel
theorem dX12_load_27 : decode cX12_load 27 = .ok (.return_, 1) := by decide +kernel
theorem dX12_areaOf_0 : decode cX12_areaOf 0 = .ok (.aload_n 0, 1) := by decide +kernel
theorem dX12_areaOf_1 : decode cX12_areaOf 1 = .ok (.getfield 94, 3) := by decide +kernel
theorem dX12_areaOf_4 : decode cX12_areaOf 4 = .ok (.bipush 7, 2) := by decide +kernel
theorem dX12_areaOf_6 : decode cX12_areaOf 6 = .ok (.iload_n 1, 1) := by decide +kernel
theorem dX12_areaOf_7 : decode cX12_areaOf 7 = .ok (.imul, 1) := by decide +kernel
theorem dX12_areaOf_8 : decode cX12_areaOf 8 = .ok (.iconst 3, 1) := by decide +kernel
theorem dX12_areaOf_9 : decode cX12_areaOf 9 = .ok (.iadd, 1) := by decide +kernel
theorem dX12_areaOf_10 : decode cX12_areaOf 10 = .ok (.iaload, 1) := by decide +kernel
theorem dX12_areaOf_11 : decode cX12_areaOf 11 = .ok (.aload_n 0, 1) := by decide +kernel
theorem dX12_areaOf_12 : decode cX12_areaOf 12 = .ok (.getfield 94, 3) := by decide +kernel
theorem dX12_areaOf_15 : decode cX12_areaOf 15 = .ok (.bipush 7, 2) := by decide +kernel
theorem dX12_areaOf_17 : decode cX12_areaOf 17 = .ok (.iload_n 1, 1) := by decide +kernel
theorem dX12_areaOf_18 : decode cX12_areaOf 18 = .ok (.imul, 1) := by decide +kernel
theorem dX12_areaOf_19 : decode cX12_areaOf 19 = .ok (.iconst 4, 1) := by decide +kernel
theorem dX12_areaOf_20 : decode cX12_areaOf 20 = .ok (.iadd, 1) := by decide +kernel
theorem dX12_areaOf_21 : decode cX12_areaOf 21 = .ok (.iaload, 1) := by decide +kernel
theorem dX12_areaOf_22 : decode cX12_areaOf 22 = .ok (.imul, 1) := by decide +kernel
theorem dX12_areaOf_23 : decode cX12_areaOf 23 = .ok (.aload_n 0, 1) := by decide +kernel
theorem dX12_areaOf_24 : decode cX12_areaOf 24 = .ok (.getfield 67, 3) := by decide +kernel
theorem dX12_areaOf_27 : decode cX12_areaOf 27 = .ok (.aload_n 0, 1) := by decide +kernel
theorem dX12_areaOf_28 : decode cX12_areaOf 28 = .ok (.getfield 94, 3) := by decide +kernel
theorem dX12_areaOf_31 : decode cX12_areaOf 31 = .ok (.bipush 7, 2) := by decide +kernel
theorem dX12_areaOf_33 : decode cX12_areaOf 33 = .ok (.iload_n 1, 1) := by decide +kernel
theorem dX12_areaOf_34 : decode cX12_areaOf 34 = .ok (.imul, 1) := by decide +kernel
theorem dX12_areaOf_35 : decode cX12_areaOf 35 = .ok (.iaload, 1) := by decide +kernel
theorem dX12_areaOf_36 : decode cX12_areaOf 36 = .ok (.iaload, 1) := by decide +kernel
theorem dX12_areaOf_37 : decode cX12_areaOf 37 = .ok (.imul, 1) := by decide +kernel
theorem dX12_areaOf_38 : decode cX12_areaOf 38 = .ok (.ireturn, 1) := by decide +kernel
set_option maxRecDepth 20000 in
theorem ggX12_icingOf_X12_truth : GoodIn wsX12_icingOf wsX12_truth := goodIn_r _ [7] (by decide +kernel) (by decide +kernel)
set_option maxRecDepth 20000 in
theorem gX12_icingOf_X12_truth : GoodIn wsX12_icingOf (va_wsS RX12 302 yX12_truth wsX12_truth) := goodIn_app (goodIn_of _ (by decide +kernel)) ggX12_icingOf_X12_truth
theorem dX12_icingOf_0 : decode cX12_icingOf 0 = .ok (.aload_n 0, 1) := by decide +kernel
theorem dX12_icingOf_1 : decode cX12_icingOf 1 = .ok (.getfield 94, 3) := by decide +kernel
theorem dX12_icingOf_4 : decode cX12_icingOf 4 = .ok (.bipush 7, 2) := by decide +kernel
theorem dX12_icingOf_6 : decode cX12_icingOf 6 = .ok (.iload_n 1, 1) := by decide +kernel
theorem dX12_icingOf_7 : decode cX12_icingOf 7 = .ok (.imul, 1) := by decide +kernel
theorem dX12_icingOf_8 : decode cX12_icingOf 8 = .ok (.iaload, 1) := by decide +kernel
theorem dX12_icingOf_9 : decode cX12_icingOf 9 = .ok (.istore_n 2, 1) := by decide +kernel
theorem dX12_icingOf_10 : decode cX12_icingOf 10 = .ok (.aload_n 0, 1) := by decide +kernel
theorem dX12_icingOf_11 : decode cX12_icingOf 11 = .ok (.getfield 94, 3) := by decide +kernel
theorem dX12_icingOf_14 : decode cX12_icingOf 14 = .ok (.bipush 7, 2) := by decide +kernel
theorem dX12_icingOf_16 : decode cX12_icingOf 16 = .ok (.iload_n 1, 1) := by decide +kernel
theorem dX12_icingOf_17 : decode cX12_icingOf 17 = .ok (.imul, 1) := by decide +kernel
theorem dX12_icingOf_18 : decode cX12_icingOf 18 = .ok (.iconst 1, 1) := by decide +kernel
theorem dX12_icingOf_19 : decode cX12_icingOf 19 = .ok (.iadd, 1) := by decide +kernel
theorem dX12_icingOf_20 : decode cX12_icingOf 20 = .ok (.iaload, 1) := by decide +kernel
theorem dX12_icingOf_21 : decode cX12_icingOf 21 = .ok (.istore_n 3, 1) := by decide +kernel
theorem dX12_icingOf_22 : decode cX12_icingOf 22 = .ok (.aload_n 0, 1) := by decide +kernel
theorem dX12_icingOf_23 : decode cX12_icingOf 23 = .ok (.getfield 94, 3) := by decide +kernel
theorem dX12_icingOf_26 : decode cX12_icingOf 26 = .ok (.bipush 7, 2) := by decide +kernel
theorem dX12_icingOf_28 : decode cX12_icingOf 28 = .ok (.iload_n 1, 1) := by decide +kernel
theorem dX12_icingOf_29 : decode cX12_icingOf 29 = .ok (.imul, 1) := by decide +kernel
theorem dX12_icingOf_30 : decode cX12_icingOf 30 = .ok (.iconst 2, 1) := by decide +kernel
theorem dX12_icingOf_31 : decode cX12_icingOf 31 = .ok (.iadd, 1) := by decide +kernel
theorem dX12_icingOf_32 : decode cX12_icingOf 32 = .ok (.iaload, 1) := by decide +kernel
theorem dX12_icingOf_33 : decode cX12_icingOf 33 = .ok (.istore 4, 2) := by decide +kernel
theorem dX12_icingOf_35 : decode cX12_icingOf 35 = .ok (.aload_n 0, 1) := by decide +kernel
theorem dX12_icingOf_36 : decode cX12_icingOf 36 = .ok (.getfield 94, 3) := by decide +kernel
theorem dX12_icingOf_39 : decode cX12_icingOf 39 = .ok (.bipush 7, 2) := by decide +kernel
theorem dX12_icingOf_41 : decode cX12_icingOf 41 = .ok (.iload_n 1, 1) := by decide +kernel
theorem dX12_icingOf_42 : decode cX12_icingOf 42 = .ok (.imul, 1) := by decide +kernel
theorem dX12_icingOf_43 : decode cX12_icingOf 43 = .ok (.iconst 3, 1) := by decide +kernel
theorem dX12_icingOf_44 : decode cX12_icingOf 44 = .ok (.iadd, 1) := by decide +kernel
theorem dX12_icingOf_45 : decode cX12_icingOf 45 = .ok (.iaload, 1) := by decide +kernel
theorem dX12_icingOf_46 : decode cX12_icingOf 46 = .ok (.istore 5, 2) := by decide +kernel
theorem dX12_icingOf_48 : decode cX12_icingOf 48 = .ok (.aload_n 0, 1) := by decide +kernel
theorem dX12_icingOf_49 : decode cX12_icingOf 49 = .ok (.getfield 94, 3) := by decide +kernel
theorem dX12_icingOf_52 : decode cX12_icingOf 52 = .ok (.bipush 7, 2) := by decide +kernel
theorem dX12_icingOf_54 : decode cX12_icingOf 54 = .ok (.iload_n 1, 1) := by decide +kernel
theorem dX12_icingOf_55 : decode cX12_icingOf 55 = .ok (.imul, 1) := by decide +kernel
theorem dX12_icingOf_56 : decode cX12_icingOf 56 = .ok (.iconst 4, 1) := by decide +kernel
theorem dX12_icingOf_57 : decode cX12_icingOf 57 = .ok (.iadd, 1) := by decide +kernel
theorem dX12_icingOf_58 : decode cX12_icingOf 58 = .ok (.iaload, 1) := by decide +kernel
theorem dX12_icingOf_59 : decode cX12_icingOf 59 = .ok (.istore 6, 2) := by decide +kernel
theorem dX12_icingOf_61 : decode cX12_icingOf 61 = .ok (.iload 5, 2) := by decide +kernel
theorem dX12_icingOf_63 : decode cX12_icingOf 63 = .ok (.iload 4, 2) := by decide +kernel
theorem dX12_icingOf_65 : decode cX12_icingOf 65 = .ok (.ifCond .ne 7, 3) := by decide +kernel
theorem dX12_icingOf_68 : decode cX12_icingOf 68 = .ok (.iconst 1, 1) := by decide +kernel
theorem dX12_icingOf_69 : decode cX12_icingOf 69 = .ok (.goto 4, 3) := by decide +kernel
theorem dX12_icingOf_72 : decode cX12_icingOf 72 = .ok (.iconst 0, 1) := by decide +kernel
theorem dX12_icingOf_73 : decode cX12_icingOf 73 = .ok (.invokestatic 302, 3) := by decide +kernel
theorem dX12_icingOf_76 : decode cX12_icingOf 76 = .ok (.iload 4, 2) := by decide +kernel
theorem dX12_icingOf_78 : decode cX12_icingOf 78 = .ok (.iload 6, 2) := by decide +kernel
theorem dX12_icingOf_80 : decode cX12_icingOf 80 = .ok (.iadd, 1) := by decide +kernel
theorem dX12_icingOf_81 : decode cX12_icingOf 81 = .ok (.aload_n 0, 1) := by decide +kernel
theorem dX12_icingOf_82 : decode cX12_icingOf 82 = .ok (.getfield 64, 3) := by decide +kernel
theorem dX12_icingOf_85 : decode cX12_icingOf 85 = .ok (.iload_n 2, 1) := by decide +kernel
theorem dX12_icingOf_86 : decode cX12_icingOf 86 = .ok (.iaload, 1) := by decide +kernel
theorem dX12_icingOf_87 : decode cX12_icingOf 87 = .ok (.if_icmp .ne 7, 3) := by decide +kernel
theorem dX12_icingOf_90 : decode cX12_icingOf 90 = .ok (.iconst 1, 1) := by decide +kernel
theorem dX12_icingOf_91 : decode cX12_icingOf 91 = .ok (.goto 4, 3) := by decide +kernel
theorem dX12_icingOf_94 : decode cX12_icingOf 94 = .ok (.iconst 0, 1) := by decide +kernel
theorem dX12_icingOf_95 : decode cX12_icingOf 95 = .ok (.invokestatic 302, 3) := by decide +kernel
theorem dX12_icingOf_98 : decode cX12_icingOf 98 = .ok (.iadd, 1) := by decide +kernel
theorem dX12_icingOf_99 : decode cX12_icingOf 99 = .ok (.imul, 1) := by decide +kernel
theorem dX12_icingOf_100 : decode cX12_icingOf 100 = .ok (.iload 6, 2) := by decide +kernel
theorem dX12_icingOf_102 : decode cX12_icingOf 102 = .ok (.iload_n 3, 1) := by decide +kernel
theorem dX12_icingOf_103 : decode cX12_icingOf 103 = .ok (.ifCond .ne 7, 3) := by decide +kernel
theorem dX12_icingOf_106 : decode cX12_icingOf 106 = .ok (.iconst 1, 1) := by decide +kernel
theorem dX12_icingOf_107 : decode cX12_icingOf 107 = .ok (.goto 4, 3) := by decide +kernel
theorem dX12_icingOf_110 : decode cX12_icingOf 110 = .ok (.iconst 0, 1) := by decide +kernel
theorem dX12_icingOf_111 : decode cX12_icingOf 111 = .ok (.invokestatic 302, 3) := by decide +kernel
theorem dX12_icingOf_114 : decode cX12_icingOf 114 = .ok (.iload_n 3, 1) := by decide +kernel
theorem dX12_icingOf_115 : decode cX12_icingOf 115 = .ok (.iload 5, 2) := by decide +kernel
theorem dX12_icingOf_117 : decode cX12_icingOf 117 = .ok (.iadd, 1) := by decide +kernel
theorem dX12_icingOf_118 : decode cX12_icingOf 118 = .ok (.aload_n 0, 1) := by decide +kernel
theorem dX12_icingOf_119 : decode cX12_icingOf 119 = .ok (.getfield 61, 3) := by decide +kernel
theorem dX12_icingOf_122 : decode cX12_icingOf 122 = .ok (.iload_n 2, 1) := by decide +kernel
theorem dX12_icingOf_123 : decode cX12_icingOf 123 = .ok (.iaload, 1) := by decide +kernel
theorem dX12_icingOf_124 : decode cX12_icingOf 124 = .ok (.if_icmp .ne 7, 3) := by decide +kernel
theorem dX12_icingOf_127 : decode cX12_icingOf 127 = .ok (.iconst 1, 1) := by decide +kernel
theorem dX12_icingOf_128 : decode cX12_icingOf 128 = .ok (.goto 4, 3) := by decide +kernel
theorem dX12_icingOf_131 : decode cX12_icingOf 131 = .ok (.iconst 0, 1) := by decide +kernel
theorem dX12_icingOf_132 : decode cX12_icingOf 132 = .ok (.invokestatic 302, 3) := by decide +kernel
theorem dX12_icingOf_135 : decode cX12_icingOf 135 = .ok (.iadd, 1) := by decide +kernel
theorem dX12_icingOf_136 : decode cX12_icingOf 136 = .ok (.imul, 1) := by decide +kernel
theorem dX12_icingOf_137 : decode cX12_icingOf 137 = .ok (.iadd, 1) := by decide +kernel
theorem dX12_icingOf_138 : decode cX12_icingOf 138 = .ok (.ireturn, 1) := by decide +kernel
set_option maxRecDepth 20000 in
theorem ggX12_askOf_X12_areaOf : GoodIn wsX12_askOf wsX12_areaOf := goodIn_r _ [7, 2, 8, 18, 19, 20, 21, 22, 23, 24, 25, 26, 27, 28, 29, 30, 31, 32, 33, 34, 35, 36, 37, 38, 39, 40, 41, 42, 43, 44, 45, 46, 47, 48, 49, 50, 51, 52, 53, 54, 55, 56, 57, 58, 59, 60, 61, 62, 63, 64, 65, 66, 67, 68, 69, 70, 71, 72, 73, 74, 75, 76, 77, 78, 79, 80, 81, 82, 83, 84, 85, 86, 87, 88, 89, 90, 91, 92] (by decide +kernel) (by decide +kernel)
set_option maxRecDepth 20000 in
theorem gX12_askOf_X12_areaOf : GoodIn wsX12_askOf (wsV RX12 375 RX12 yX12_areaOf wsX12_areaOf) := goodIn_app (goodIn_of _ (by decide +kernel)) ggX12_askOf_X12_areaOf
set_option maxRecDepth 20000 in
theorem ggX12_askOf_X12_icingOf : GoodIn wsX12_askOf wsX12_icingOf := goodIn_r _ [12, 2, 13, 14, 15, 16, 6, 17, 18, 19, 20, 21, 22, 23, 24, 25, 26, 27, 28, 29, 30, 31, 32, 33, 34, 35, 36, 37, 38, 39, 40, 41, 42, 43, 44, 45, 46, 47, 48, 49, 50, 51, 52, 53, 54, 55, 56, 57, 58, 59, 60, 61, 62, 63, 64, 65, 66, 67, 68, 69, 70, 71, 72, 73, 74, 75, 76, 77, 78, 79, 80, 81, 82, 83, 84, 85, 86, 87, 88, 89, 90, 91, 92] (by decide +kernel) (by decide +kernel)
set_option maxRecDepth 20000 in
theorem gX12_askOf_X12_icingOf : GoodIn wsX12_askOf (wsV RX12 378 RX12 yX12_icingOf wsX12_icingOf) := goodIn_app (goodIn_of _ (by decide +kernel)) ggX12_askOf_X12_icingOf
theorem dX12_askOf_0 : decode cX12_askOf 0 = .ok (.aload_n 0, 1) := by decide +kernel
theorem dX12_askOf_1 : decode cX12_askOf 1 = .ok (.getfield 49, 3) := by decide +kernel
theorem dX12_askOf_4 : decode cX12_askOf 4 = .ok (.iconst 0, 1) := by decide +kernel
theorem dX12_askOf_5 : decode cX12_askOf 5 = .ok (.aload_n 0, 1) := by decide +kernel
theorem dX12_askOf_6 : decode cX12_askOf 6 = .ok (.iload_n 1, 1) := by decide +kernel
theorem dX12_askOf_7 : decode cX12_askOf 7 = .ok (.invokevirtual 375, 3) := by decide +kernel
theorem dX12_askOf_10 : decode cX12_askOf 10 = .ok (.iastore, 1) := by decide +kernel
theorem dX12_askOf_11 : decode cX12_askOf 11 = .ok (.aload_n 0, 1) := by decide +kernel
theorem dX12_askOf_12 : decode cX12_askOf 12 = .ok (.getfield 49, 3) := by decide +kernel
theorem dX12_askOf_15 : decode cX12_askOf 15 = .ok (.iconst 1, 1) := by decide +kernel
theorem dX12_askOf_16 : decode cX12_askOf 16 = .ok (.aload_n 0, 1) := by decide +kernel
theorem dX12_askOf_17 : decode cX12_askOf 17 = .ok (.iload_n 1, 1) := by decide +kernel
theorem dX12_askOf_18 : decode cX12_askOf 18 = .ok (.invokevirtual 378, 3) := by decide +kernel
theorem dX12_askOf_21 : decode cX12_askOf 21 = .ok (.iastore, 1) := by decide +kernel
theorem dX12_askOf_22 : decode cX12_askOf 22 = .ok (.aload_n 0, 1) := by decide +kernel
theorem dX12_askOf_23 : decode cX12_askOf 23 = .ok (.getfield 49, 3) := by decide +kernel
theorem dX12_askOf_26 : decode cX12_askOf 26 = .ok (.iconst 2, 1) := by decide +kernel
theorem dX12_askOf_27 : decode cX12_askOf 27 = .ok (.iload_n 2, 1) := by decide +kernel
theorem dX12_askOf_28 : decode cX12_askOf 28 = .ok (.iastore, 1) := by decide +kernel
theorem dX12_askOf_29 : decode cX12_askOf 29 = .ok (.aload_n 0, 1) := by decide +kernel
theorem dX12_askOf_30 : decode cX12_askOf 30 = .ok (.getfield 49, 3) := by decide +kernel
theorem dX12_askOf_33 : decode cX12_askOf 33 = .ok (.iconst 3, 1) := by decide +kernel
theorem dX12_askOf_34 : decode cX12_askOf 34 = .ok (.aload_n 0, 1) := by decide +kernel
theorem dX12_askOf_35 : decode cX12_askOf 35 = .ok (.getfield 94, 3) := by decide +kernel
theorem dX12_askOf_38 : decode cX12_askOf 38 = .ok (.bipush 7, 2) := by decide +kernel
theorem dX12_askOf_40 : decode cX12_askOf 40 = .ok (.iload_n 1, 1) := by decide +kernel
theorem dX12_askOf_41 : decode cX12_askOf 41 = .ok (.imul, 1) := by decide +kernel
theorem dX12_askOf_42 : decode cX12_askOf 42 = .ok (.iconst 5, 1) := by decide +kernel
theorem dX12_askOf_43 : decode cX12_askOf 43 = .ok (.iadd, 1) := by decide +kernel
theorem dX12_askOf_44 : decode cX12_askOf 44 = .ok (.iaload, 1) := by decide +kernel
theorem dX12_askOf_45 : decode cX12_askOf 45 = .ok (.iastore, 1) := by decide +kernel
theorem dX12_askOf_46 : decode cX12_askOf 46 = .ok (.aload_n 0, 1) := by decide +kernel
theorem dX12_askOf_47 : decode cX12_askOf 47 = .ok (.getfield 49, 3) := by decide +kernel
theorem dX12_askOf_50 : decode cX12_askOf 50 = .ok (.iconst 4, 1) := by decide +kernel
theorem dX12_askOf_51 : decode cX12_askOf 51 = .ok (.iload_n 3, 1) := by decide +kernel
theorem dX12_askOf_52 : decode cX12_askOf 52 = .ok (.iastore, 1) := by decide +kernel
theorem dX12_askOf_53 : decode cX12_askOf 53 = .ok (.aload_n 0, 1) := by decide +kernel
theorem dX12_askOf_54 : decode cX12_askOf 54 = .ok (.getfield 49, 3) := by decide +kernel
theorem dX12_askOf_57 : decode cX12_askOf 57 = .ok (.iconst 5, 1) := by decide +kernel
theorem dX12_askOf_58 : decode cX12_askOf 58 = .ok (.aload_n 0, 1) := by decide +kernel
theorem dX12_askOf_59 : decode cX12_askOf 59 = .ok (.getfield 94, 3) := by decide +kernel
theorem dX12_askOf_62 : decode cX12_askOf 62 = .ok (.sipush 169, 3) := by decide +kernel
theorem dX12_askOf_65 : decode cX12_askOf 65 = .ok (.iaload, 1) := by decide +kernel
theorem dX12_askOf_66 : decode cX12_askOf 66 = .ok (.iastore, 1) := by decide +kernel
theorem dX12_askOf_67 : decode cX12_askOf 67 = .ok (.return_, 1) := by decide +kernel
set_option maxRecDepth 20000 in
theorem ggX12_worthOf_X12_askOf : GoodIn wsX12_worthOf wsX12_askOf := goodIn_r _ [7, 2, 8, 9, 10, 11, 6, 12, 13, 14, 15, 16, 17, 18, 19, 20, 21, 22, 34, 35, 36, 37, 38, 39, 40, 41, 42, 43, 44, 45, 46, 47, 48, 49, 50, 51, 52, 53, 54, 55, 56, 57, 58, 59, 60, 61, 62, 63, 64, 65, 66, 67, 68, 69, 70, 71, 72, 73, 74, 75, 76, 77, 78, 79, 80, 81, 82, 83, 84, 85, 86, 87, 88, 89, 90, 91, 92, 93, 94, 95, 96, 97, 98, 99, 100, 101, 102, 103, 104, 105, 106, 107, 108] (by decide +kernel) (by decide +kernel)
set_option maxRecDepth 20000 in
theorem gX12_worthOf_X12_askOf : GoodIn wsX12_worthOf (wsV RX12 381 RX12 yX12_askOf wsX12_askOf) := goodIn_app (goodIn_of _ (by decide +kernel)) ggX12_worthOf_X12_askOf
set_option maxRecDepth 20000 in
theorem ggX12_worthOf_X12_worked : GoodIn wsX12_worthOf wsX12_worked := goodIn_r _ [26, 27, 28, 29, 30, 2, 20, 21, 6, 22, 31, 32, 33, 34, 35, 36, 37, 38, 39, 40, 41, 42, 43, 44, 45, 46, 47, 48, 49, 50, 51, 52, 53, 54, 55, 56, 57, 58, 59, 60, 61, 62, 63, 64, 65, 66, 67, 68, 69, 70, 71, 72, 73, 74, 75, 76, 77, 78, 79, 80, 81, 82, 83, 84, 85, 86, 87, 88, 89, 90, 91, 92, 93, 94, 95, 96, 97, 98, 99, 100, 101, 102, 103, 104, 105, 106, 107, 108] (by decide +kernel) (by decide +kernel)
set_option maxRecDepth 20000 in
theorem gX12_worthOf_X12_worked : GoodIn wsX12_worthOf (wsV RX12 385 RX12 yX12_worked wsX12_worked) := goodIn_app (goodIn_of _ (by decide +kernel)) ggX12_worthOf_X12_worked
theorem dX12_worthOf_0 : decode cX12_worthOf 0 = .ok (.aload_n 0, 1) := by decide +kernel
theorem dX12_worthOf_1 : decode cX12_worthOf 1 = .ok (.iload_n 2, 1) := by decide +kernel
theorem dX12_worthOf_2 : decode cX12_worthOf 2 = .ok (.aload_n 0, 1) := by decide +kernel
theorem dX12_worthOf_3 : decode cX12_worthOf 3 = .ok (.getfield 82, 3) := by decide +kernel
theorem dX12_worthOf_6 : decode cX12_worthOf 6 = .ok (.iload_n 1, 1) := by decide +kernel
theorem dX12_worthOf_7 : decode cX12_worthOf 7 = .ok (.iaload, 1) := by decide +kernel
theorem dX12_worthOf_8 : decode cX12_worthOf 8 = .ok (.iconst 0, 1) := by decide +kernel
theorem dX12_worthOf_9 : decode cX12_worthOf 9 = .ok (.invokevirtual 381, 3) := by decide +kernel
theorem dX12_worthOf_12 : decode cX12_worthOf 12 = .ok (.aload_n 0, 1) := by decide +kernel
theorem dX12_worthOf_13 : decode cX12_worthOf 13 = .ok (.iconst 0, 1) := by decide +kernel
theorem dX12_worthOf_14 : decode cX12_worthOf 14 = .ok (.aload_n 0, 1) := by decide +kernel
theorem dX12_worthOf_15 : decode cX12_worthOf 15 = .ok (.getfield 49, 3) := by decide +kernel
theorem dX12_worthOf_18 : decode cX12_worthOf 18 = .ok (.iconst 0, 1) := by decide +kernel
theorem dX12_worthOf_19 : decode cX12_worthOf 19 = .ok (.iaload, 1) := by decide +kernel
theorem dX12_worthOf_20 : decode cX12_worthOf 20 = .ok (.invokevirtual 385, 3) := by decide +kernel
theorem dX12_worthOf_23 : decode cX12_worthOf 23 = .ok (.ireturn, 1) := by decide +kernel
theorem dX12_isFree_0 : decode cX12_isFree 0 = .ok (.aload_n 0, 1) := by decide +kernel
theorem dX12_isFree_1 : decode cX12_isFree 1 = .ok (.getfield 94, 3) := by decide +kernel
theorem dX12_isFree_4 : decode cX12_isFree 4 = .ok (.bipush 7, 2) := by decide +kernel
theorem dX12_isFree_6 : decode cX12_isFree 6 = .ok (.iload_n 1, 1) := by decide +kernel
theorem dX12_isFree_7 : decode cX12_isFree 7 = .ok (.imul, 1) := by decide +kernel
theorem dX12_isFree_8 : decode cX12_isFree 8 = .ok (.bipush 6, 2) := by decide +kernel
theorem dX12_isFree_10 : decode cX12_isFree 10 = .ok (.iadd, 1) := by decide +kernel
theorem dX12_isFree_11 : decode cX12_isFree 11 = .ok (.iaload, 1) := by decide +kernel
theorem dX12_isFree_12 : decode cX12_isFree 12 = .ok (.iconst (-1), 1) := by decide +kernel
theorem dX12_isFree_13 : decode cX12_isFree 13 = .ok (.if_icmp .ne 7, 3) := by decide +kernel
theorem dX12_isFree_16 : decode cX12_isFree 16 = .ok (.iconst 1, 1) := by decide +kernel
theorem dX12_isFree_17 : decode cX12_isFree 17 = .ok (.goto 4, 3) := by decide +kernel
theorem dX12_isFree_20 : decode cX12_isFree 20 = .ok (.iconst 0, 1) := by decide +kernel
theorem dX12_isFree_21 : decode cX12_isFree 21 = .ok (.ireturn, 1) := by decide +kernel
theorem dX12_pieceOf_0 : decode cX12_pieceOf 0 = .ok (.iconst (-1), 1) := by decide +kernel
theorem dX12_pieceOf_1 : decode cX12_pieceOf 1 = .ok (.istore_n 2, 1) := by decide +kernel
theorem dX12_pieceOf_2 : decode cX12_pieceOf 2 = .ok (.iconst 0, 1) := by decide +kernel
theorem dX12_pieceOf_3 : decode cX12_pieceOf 3 = .ok (.istore_n 3, 1) := by decide +kernel
theorem dX12_pieceOf_4 : decode cX12_pieceOf 4 = .ok (.iload_n 3, 1) := by decide +kernel
theorem dX12_pieceOf_5 : decode cX12_pieceOf 5 = .ok (.aload_n 0, 1) := by decide +kernel
theorem dX12_pieceOf_6 : decode cX12_pieceOf 6 = .ok (.getfield 94, 3) := by decide +kernel
theorem dX12_pieceOf_9 : decode cX12_pieceOf 9 = .ok (.sipush 168, 3) := by decide +kernel
theorem dX12_pieceOf_12 : decode cX12_pieceOf 12 = .ok (.iaload, 1) := by decide +kernel
theorem dX12_pieceOf_13 : decode cX12_pieceOf 13 = .ok (.if_icmp .ge 27, 3) := by decide +kernel
theorem dX12_pieceOf_16 : decode cX12_pieceOf 16 = .ok (.aload_n 0, 1) := by decide +kernel
theorem dX12_pieceOf_17 : decode cX12_pieceOf 17 = .ok (.getfield 94, 3) := by decide +kernel
theorem dX12_pieceOf_20 : decode cX12_pieceOf 20 = .ok (.bipush 7, 2) := by decide +kernel
theorem dX12_pieceOf_22 : decode cX12_pieceOf 22 = .ok (.iload_n 3, 1) := by decide +kernel
theorem dX12_pieceOf_23 : decode cX12_pieceOf 23 = .ok (.imul, 1) := by decide +kernel
theorem dX12_pieceOf_24 : decode cX12_pieceOf 24 = .ok (.bipush 6, 2) := by decide +kernel
theorem dX12_pieceOf_26 : decode cX12_pieceOf 26 = .ok (.iadd, 1) := by decide +kernel
theorem dX12_pieceOf_27 : decode cX12_pieceOf 27 = .ok (.iaload, 1) := by decide +kernel
theorem dX12_pieceOf_28 : decode cX12_pieceOf 28 = .ok (.iload_n 1, 1) := by decide +kernel
theorem dX12_pieceOf_29 : decode cX12_pieceOf 29 = .ok (.if_icmp .ne 5, 3) := by decide +kernel
theorem dX12_pieceOf_32 : decode cX12_pieceOf 32 = .ok (.iload_n 3, 1) := by decide +kernel
theorem dX12_pieceOf_33 : decode cX12_pieceOf 33 = .ok (.istore_n 2, 1) := by decide +kernel
theorem dX12_pieceOf_34 : decode cX12_pieceOf 34 = .ok (.iinc 3 1, 3) := by decide +kernel
theorem dX12_pieceOf_37 : decode cX12_pieceOf 37 = .ok (.goto (-33), 3) := by decide +kernel
theorem dX12_pieceOf_40 : decode cX12_pieceOf 40 = .ok (.iload_n 2, 1) := by decide +kernel
theorem dX12_pieceOf_41 : decode cX12_pieceOf 41 = .ok (.ireturn, 1) := by decide +kernel
set_option maxRecDepth 20000 in
theorem ggX12_canCut_X12_isIn : GoodIn wsX12_canCut wsX12_isIn := goodIn_r _ [5] (by decide +kernel) (by decide +kernel)
set_option maxRecDepth 20000 in
theorem gX12_canCut_X12_isIn : GoodIn wsX12_canCut (va_wsS RX12 371 yX12_isIn wsX12_isIn) := goodIn_app (goodIn_of _ (by decide +kernel)) ggX12_canCut_X12_isIn
set_option maxRecDepth 20000 in
theorem ggX12_canCut_X12_isFree : GoodIn wsX12_canCut wsX12_isFree := goodIn_r _ [9, 1, 10, 11, 12, 13, 14, 15, 16, 17, 18, 19, 20, 21, 22, 23, 24, 25, 26, 27, 28, 29, 30, 31, 32, 33, 34, 35, 36, 37, 38, 39, 40, 41, 42, 43, 44, 45, 46, 47, 48, 49, 50, 51, 52, 53, 54, 55, 56, 57, 58, 59, 60, 61, 62, 63, 64, 65, 66, 67, 68, 69, 70, 71, 72, 73, 74, 75, 76, 77, 78, 79, 80, 81, 82, 83, 84] (by decide +kernel) (by decide +kernel)
set_option maxRecDepth 20000 in
theorem gX12_canCut_X12_isFree : GoodIn wsX12_canCut (wsV RX12 388 RX12 yX12_isFree wsX12_isFree) := goodIn_app (goodIn_of _ (by decide +kernel)) ggX12_canCut_X12_isFree
theorem dX12_canCut_0 : decode cX12_canCut 0 = .ok (.iload_n 1, 1) := by decide +kernel
theorem dX12_canCut_1 : decode cX12_canCut 1 = .ok (.ifCond .lt 78, 3) := by decide +kernel
theorem dX12_canCut_4 : decode cX12_canCut 4 = .ok (.iload_n 1, 1) := by decide +kernel
theorem dX12_canCut_5 : decode cX12_canCut 5 = .ok (.aload_n 0, 1) := by decide +kernel
theorem dX12_canCut_6 : decode cX12_canCut 6 = .ok (.getfield 94, 3) := by decide +kernel
theorem dX12_canCut_9 : decode cX12_canCut 9 = .ok (.sipush 168, 3) := by decide +kernel
theorem dX12_canCut_12 : decode cX12_canCut 12 = .ok (.iaload, 1) := by decide +kernel
theorem dX12_canCut_13 : decode cX12_canCut 13 = .ok (.if_icmp .ge 66, 3) := by decide +kernel
theorem dX12_canCut_16 : decode cX12_canCut 16 = .ok (.aload_n 0, 1) := by decide +kernel
theorem dX12_canCut_17 : decode cX12_canCut 17 = .ok (.getfield 94, 3) := by decide +kernel
theorem dX12_canCut_20 : decode cX12_canCut 20 = .ok (.sipush 168, 3) := by decide +kernel
theorem dX12_canCut_23 : decode cX12_canCut 23 = .ok (.iaload, 1) := by decide +kernel
theorem dX12_canCut_24 : decode cX12_canCut 24 = .ok (.bipush 24, 2) := by decide +kernel
theorem dX12_canCut_26 : decode cX12_canCut 26 = .ok (.if_icmp .ge 53, 3) := by decide +kernel
theorem dX12_canCut_29 : decode cX12_canCut 29 = .ok (.iload_n 2, 1) := by decide +kernel
theorem dX12_canCut_30 : decode cX12_canCut 30 = .ok (.iconst 0, 1) := by decide +kernel
theorem dX12_canCut_31 : decode cX12_canCut 31 = .ok (.iconst 1, 1) := by decide +kernel
theorem dX12_canCut_32 : decode cX12_canCut 32 = .ok (.invokestatic 371, 3) := by decide +kernel
theorem dX12_canCut_35 : decode cX12_canCut 35 = .ok (.ifCond .eq 44, 3) := by decide +kernel
theorem dX12_canCut_38 : decode cX12_canCut 38 = .ok (.aload_n 0, 1) := by decide +kernel
theorem dX12_canCut_39 : decode cX12_canCut 39 = .ok (.iload_n 1, 1) := by decide +kernel
theorem dX12_canCut_40 : decode cX12_canCut 40 = .ok (.invokevirtual 388, 3) := by decide +kernel
theorem dX12_canCut_43 : decode cX12_canCut 43 = .ok (.ifCond .eq 36, 3) := by decide +kernel
theorem dX12_canCut_46 : decode cX12_canCut 46 = .ok (.iload_n 3, 1) := by decide +kernel
theorem dX12_canCut_47 : decode cX12_canCut 47 = .ok (.iconst 1, 1) := by decide +kernel
theorem dX12_canCut_48 : decode cX12_canCut 48 = .ok (.aload_n 0, 1) := by decide +kernel
theorem dX12_canCut_49 : decode cX12_canCut 49 = .ok (.getfield 94, 3) := by decide +kernel
theorem dX12_canCut_52 : decode cX12_canCut 52 = .ok (.bipush 7, 2) := by decide +kernel
theorem dX12_canCut_54 : decode cX12_canCut 54 = .ok (.iload_n 1, 1) := by decide +kernel
theorem dX12_canCut_55 : decode cX12_canCut 55 = .ok (.imul, 1) := by decide +kernel
theorem dX12_canCut_56 : decode cX12_canCut 56 = .ok (.iload_n 2, 1) := by decide +kernel
theorem dX12_canCut_57 : decode cX12_canCut 57 = .ok (.ifCond .ne 7, 3) := by decide +kernel
theorem dX12_canCut_60 : decode cX12_canCut 60 = .ok (.iconst 3, 1) := by decide +kernel
theorem dX12_canCut_61 : decode cX12_canCut 61 = .ok (.goto 4, 3) := by decide +kernel
theorem dX12_canCut_64 : decode cX12_canCut 64 = .ok (.iconst 4, 1) := by decide +kernel
theorem dX12_canCut_65 : decode cX12_canCut 65 = .ok (.iadd, 1) := by decide +kernel
theorem dX12_canCut_66 : decode cX12_canCut 66 = .ok (.iaload, 1) := by decide +kernel
theorem dX12_canCut_67 : decode cX12_canCut 67 = .ok (.iconst 1, 1) := by decide +kernel
theorem dX12_canCut_68 : decode cX12_canCut 68 = .ok (.isub, 1) := by decide +kernel
theorem dX12_canCut_69 : decode cX12_canCut 69 = .ok (.invokestatic 371, 3) := by decide +kernel
theorem dX12_canCut_72 : decode cX12_canCut 72 = .ok (.ifCond .eq 7, 3) := by decide +kernel
theorem dX12_canCut_75 : decode cX12_canCut 75 = .ok (.iconst 1, 1) := by decide +kernel
theorem dX12_canCut_76 : decode cX12_canCut 76 = .ok (.goto 4, 3) := by decide +kernel
theorem dX12_canCut_79 : decode cX12_canCut 79 = .ok (.iconst 0, 1) := by decide +kernel
theorem dX12_canCut_80 : decode cX12_canCut 80 = .ok (.ireturn, 1) := by decide +kernel
theorem dX12_goCut_0 : decode cX12_goCut 0 = .ok (.aload_n 0, 1) := by decide +kernel
theorem dX12_goCut_1 : decode cX12_goCut 1 = .ok (.getfield 94, 3) := by decide +kernel
theorem dX12_goCut_4 : decode cX12_goCut 4 = .ok (.sipush 168, 3) := by decide +kernel
theorem dX12_goCut_7 : decode cX12_goCut 7 = .ok (.iaload, 1) := by decide +kernel
theorem dX12_goCut_8 : decode cX12_goCut 8 = .ok (.istore 4, 2) := by decide +kernel
theorem dX12_goCut_10 : decode cX12_goCut 10 = .ok (.iconst 0, 1) := by decide +kernel
theorem dX12_goCut_11 : decode cX12_goCut 11 = .ok (.istore 5, 2) := by decide +kernel
theorem dX12_goCut_13 : decode cX12_goCut 13 = .ok (.iload 5, 2) := by decide +kernel
theorem dX12_goCut_15 : decode cX12_goCut 15 = .ok (.bipush 7, 2) := by decide +kernel
theorem dX12_goCut_17 : decode cX12_goCut 17 = .ok (.if_icmp .ge 34, 3) := by decide +kernel
theorem dX12_goCut_20 : decode cX12_goCut 20 = .ok (.aload_n 0, 1) := by decide +kernel
theorem dX12_goCut_21 : decode cX12_goCut 21 = .ok (.getfield 94, 3) := by decide +kernel
theorem dX12_goCut_24 : decode cX12_goCut 24 = .ok (.bipush 7, 2) := by decide +kernel
theorem dX12_goCut_26 : decode cX12_goCut 26 = .ok (.iload 4, 2) := by decide +kernel
theorem dX12_goCut_28 : decode cX12_goCut 28 = .ok (.imul, 1) := by decide +kernel
theorem dX12_goCut_29 : decode cX12_goCut 29 = .ok (.iload 5, 2) := by decide +kernel
theorem dX12_goCut_31 : decode cX12_goCut 31 = .ok (.iadd, 1) := by decide +kernel
theorem dX12_goCut_32 : decode cX12_goCut 32 = .ok (.aload_n 0, 1) := by decide +kernel
theorem dX12_goCut_33 : decode cX12_goCut 33 = .ok (.getfield 94, 3) := by decide +kernel
theorem dX12_goCut_36 : decode cX12_goCut 36 = .ok (.bipush 7, 2) := by decide +kernel
theorem dX12_goCut_38 : decode cX12_goCut 38 = .ok (.iload_n 1, 1) := by decide +kernel
theorem dX12_goCut_39 : decode cX12_goCut 39 = .ok (.imul, 1) := by decide +kernel
theorem dX12_goCut_40 : decode cX12_goCut 40 = .ok (.iload 5, 2) := by decide +kernel
theorem dX12_goCut_42 : decode cX12_goCut 42 = .ok (.iadd, 1) := by decide +kernel
theorem dX12_goCut_43 : decode cX12_goCut 43 = .ok (.iaload, 1) := by decide +kernel
theorem dX12_goCut_44 : decode cX12_goCut 44 = .ok (.iastore, 1) := by decide +kernel
theorem dX12_goCut_45 : decode cX12_goCut 45 = .ok (.iinc 5 1, 3) := by decide +kernel
theorem dX12_goCut_48 : decode cX12_goCut 48 = .ok (.goto (-35), 3) := by decide +kernel
theorem dX12_goCut_51 : decode cX12_goCut 51 = .ok (.iload_n 2, 1) := by decide +kernel
theorem dX12_goCut_52 : decode cX12_goCut 52 = .ok (.ifCond .ne 7, 3) := by decide +kernel
theorem dX12_goCut_55 : decode cX12_goCut 55 = .ok (.iconst 3, 1) := by decide +kernel
theorem dX12_goCut_56 : decode cX12_goCut 56 = .ok (.goto 4, 3) := by decide +kernel
theorem dX12_goCut_59 : decode cX12_goCut 59 = .ok (.iconst 4, 1) := by decide +kernel
theorem dX12_goCut_60 : decode cX12_goCut 60 = .ok (.istore 5, 2) := by decide +kernel
theorem dX12_goCut_62 : decode cX12_goCut 62 = .ok (.iload_n 2, 1) := by decide +kernel
theorem dX12_goCut_63 : decode cX12_goCut 63 = .ok (.ifCond .ne 7, 3) := by decide +kernel
theorem dX12_goCut_66 : decode cX12_goCut 66 = .ok (.iconst 1, 1) := by decide +kernel
theorem dX12_goCut_67 : decode cX12_goCut 67 = .ok (.goto 4, 3) := by decide +kernel
theorem dX12_goCut_70 : decode cX12_goCut 70 = .ok (.iconst 2, 1) := by decide +kernel
theorem dX12_goCut_71 : decode cX12_goCut 71 = .ok (.istore 6, 2) := by decide +kernel
theorem dX12_goCut_73 : decode cX12_goCut 73 = .ok (.aload_n 0, 1) := by decide +kernel
theorem dX12_goCut_74 : decode cX12_goCut 74 = .ok (.getfield 94, 3) := by decide +kernel
theorem dX12_goCut_77 : decode cX12_goCut 77 = .ok (.bipush 7, 2) := by decide +kernel
theorem dX12_goCut_79 : decode cX12_goCut 79 = .ok (.iload 4, 2) := by decide +kernel
theorem dX12_goCut_81 : decode cX12_goCut 81 = .ok (.imul, 1) := by decide +kernel
theorem dX12_goCut_82 : decode cX12_goCut 82 = .ok (.iload 6, 2) := by decide +kernel
theorem dX12_goCut_84 : decode cX12_goCut 84 = .ok (.iadd, 1) := by decide +kernel
theorem dX12_goCut_85 : decode cX12_goCut 85 = .ok (.dup2, 1) := by decide +kernel
theorem dX12_goCut_86 : decode cX12_goCut 86 = .ok (.iaload, 1) := by decide +kernel
theorem dX12_goCut_87 : decode cX12_goCut 87 = .ok (.iload_n 3, 1) := by decide +kernel
theorem dX12_goCut_88 : decode cX12_goCut 88 = .ok (.iadd, 1) := by decide +kernel
theorem dX12_goCut_89 : decode cX12_goCut 89 = .ok (.iastore, 1) := by decide +kernel
theorem dX12_goCut_90 : decode cX12_goCut 90 = .ok (.aload_n 0, 1) := by decide +kernel
theorem dX12_goCut_91 : decode cX12_goCut 91 = .ok (.getfield 94, 3) := by decide +kernel
theorem dX12_goCut_94 : decode cX12_goCut 94 = .ok (.bipush 7, 2) := by decide +kernel
theorem dX12_goCut_96 : decode cX12_goCut 96 = .ok (.iload 4, 2) := by decide +kernel
theorem dX12_goCut_98 : decode cX12_goCut 98 = .ok (.imul, 1) := by decide +kernel
theorem dX12_goCut_99 : decode cX12_goCut 99 = .ok (.iload 5, 2) := by decide +kernel
theorem dX12_goCut_101 : decode cX12_goCut 101 = .ok (.iadd, 1) := by decide +kernel
theorem dX12_goCut_102 : decode cX12_goCut 102 = .ok (.dup2, 1) := by decide +kernel
theorem dX12_goCut_103 : decode cX12_goCut 103 = .ok (.iaload, 1) := by decide +kernel
theorem dX12_goCut_104 : decode cX12_goCut 104 = .ok (.iload_n 3, 1) := by decide +kernel
theorem dX12_goCut_105 : decode cX12_goCut 105 = .ok (.isub, 1) := by decide +kernel
theorem dX12_goCut_106 : decode cX12_goCut 106 = .ok (.iastore, 1) := by decide +kernel
theorem dX12_goCut_107 : decode cX12_goCut 107 = .ok (.aload_n 0, 1) := by decide +kernel
theorem dX12_goCut_108 : decode cX12_goCut 108 = .ok (.getfield 94, 3) := by decide +kernel
theorem dX12_goCut_111 : decode cX12_goCut 111 = .ok (.bipush 7, 2) := by decide +kernel
theorem dX12_goCut_113 : decode cX12_goCut 113 = .ok (.iload_n 1, 1) := by decide +kernel
theorem dX12_goCut_114 : decode cX12_goCut 114 = .ok (.imul, 1) := by decide +kernel
theorem dX12_goCut_115 : decode cX12_goCut 115 = .ok (.iload 5, 2) := by decide +kernel
theorem dX12_goCut_117 : decode cX12_goCut 117 = .ok (.iadd, 1) := by decide +kernel
theorem dX12_goCut_118 : decode cX12_goCut 118 = .ok (.iload_n 3, 1) := by decide +kernel
theorem dX12_goCut_119 : decode cX12_goCut 119 = .ok (.iastore, 1) := by decide +kernel
theorem dX12_goCut_120 : decode cX12_goCut 120 = .ok (.aload_n 0, 1) := by decide +kernel
theorem dX12_goCut_121 : decode cX12_goCut 121 = .ok (.getfield 94, 3) := by decide +kernel
theorem dX12_goCut_124 : decode cX12_goCut 124 = .ok (.sipush 168, 3) := by decide +kernel
theorem dX12_goCut_127 : decode cX12_goCut 127 = .ok (.dup2, 1) := by decide +kernel
theorem dX12_goCut_128 : decode cX12_goCut 128 = .ok (.iaload, 1) := by decide +kernel
theorem dX12_goCut_129 : decode cX12_goCut 129 = .ok (.iconst 1, 1) := by decide +kernel
theorem dX12_goCut_130 : decode cX12_goCut 130 = .ok (.iadd, 1) := by decide +kernel
theorem dX12_goCut_131 : decode cX12_goCut 131 = .ok (.iastore, 1) := by decide +kernel
theorem dX12_goCut_132 : decode cX12_goCut 132 = .ok (.iload 4, 2) := by decide +kernel
theorem dX12_goCut_134 : decode cX12_goCut 134 = .ok (.ireturn, 1) := by decide +kernel
set_option maxRecDepth 20000 in
theorem ggX12_slipOf_X12_askOf : GoodIn wsX12_slipOf wsX12_askOf := goodIn_r _ [6, 7, 1, 8, 9, 10, 5, 11, 12, 13, 14, 15, 16, 17, 18, 19, 20, 21, 33, 34, 35, 36, 37, 38, 39, 40, 41, 42, 43, 44, 45, 46, 47, 48, 49, 50, 51, 52, 53, 54, 55, 56, 57, 58, 59, 60, 61, 62, 63, 64, 65, 66, 67, 68, 69, 70, 71, 72, 73, 74, 75, 76, 77, 78, 79, 80, 81, 82, 83, 84, 85, 86, 87, 88, 89, 90, 91, 92, 93, 94, 95, 96, 97, 98, 99, 100, 101, 102, 103, 104, 105, 106, 107] (by decide +kernel) (by decide +kernel)
set_option maxRecDepth 20000 in
theorem gX12_slipOf_X12_askOf : GoodIn wsX12_slipOf (wsV RX12 381 RX12 yX12_askOf wsX12_askOf) := goodIn_app (goodIn_of _ (by decide +kernel)) ggX12_slipOf_X12_askOf
set_option maxRecDepth 20000 in
theorem ggX12_slipOf_X12_worked : GoodIn wsX12_slipOf wsX12_worked := goodIn_r _ [25, 26, 27, 28, 29, 7, 19, 20, 5, 21, 30, 31, 32, 33, 34, 35, 36, 37, 38, 39, 40, 41, 42, 43, 44, 45, 46, 47, 48, 49, 50, 51, 52, 53, 54, 55, 56, 57, 58, 59, 60, 61, 62, 63, 64, 65, 66, 67, 68, 69, 70, 71, 72, 73, 74, 75, 76, 77, 78, 79, 80, 81, 82, 83, 84, 85, 86, 87, 88, 89, 90, 91, 92, 93, 94, 95, 96, 97, 98, 99, 100, 101, 102, 103, 104, 105, 106, 107] (by decide +kernel) (by decide +kernel)
set_option maxRecDepth 20000 in
theorem gX12_slipOf_X12_worked : GoodIn wsX12_slipOf (wsV RX12 385 RX12 yX12_worked wsX12_worked) := goodIn_app (goodIn_of _ (by decide +kernel)) ggX12_slipOf_X12_worked
theorem dX12_slipOf_0 : decode cX12_slipOf 0 = .ok (.aload_n 0, 1) := by decide +kernel
theorem dX12_slipOf_1 : decode cX12_slipOf 1 = .ok (.iload_n 1, 1) := by decide +kernel
theorem dX12_slipOf_2 : decode cX12_slipOf 2 = .ok (.iconst 0, 1) := by decide +kernel
theorem dX12_slipOf_3 : decode cX12_slipOf 3 = .ok (.aload_n 0, 1) := by decide +kernel
theorem dX12_slipOf_4 : decode cX12_slipOf 4 = .ok (.getfield 94, 3) := by decide +kernel
theorem dX12_slipOf_7 : decode cX12_slipOf 7 = .ok (.bipush 7, 2) := by decide +kernel
theorem dX12_slipOf_9 : decode cX12_slipOf 9 = .ok (.iload_n 1, 1) := by decide +kernel
theorem dX12_slipOf_10 : decode cX12_slipOf 10 = .ok (.imul, 1) := by decide +kernel
theorem dX12_slipOf_11 : decode cX12_slipOf 11 = .ok (.iload_n 2, 1) := by decide +kernel
theorem dX12_slipOf_12 : decode cX12_slipOf 12 = .ok (.ifCond .ne 7, 3) := by decide +kernel
theorem dX12_slipOf_15 : decode cX12_slipOf 15 = .ok (.iconst 4, 1) := by decide +kernel
theorem dX12_slipOf_16 : decode cX12_slipOf 16 = .ok (.goto 4, 3) := by decide +kernel
theorem dX12_slipOf_19 : decode cX12_slipOf 19 = .ok (.iconst 3, 1) := by decide +kernel
theorem dX12_slipOf_20 : decode cX12_slipOf 20 = .ok (.iadd, 1) := by decide +kernel
theorem dX12_slipOf_21 : decode cX12_slipOf 21 = .ok (.iaload, 1) := by decide +kernel
theorem dX12_slipOf_22 : decode cX12_slipOf 22 = .ok (.invokevirtual 381, 3) := by decide +kernel
theorem dX12_slipOf_25 : decode cX12_slipOf 25 = .ok (.aload_n 0, 1) := by decide +kernel
theorem dX12_slipOf_26 : decode cX12_slipOf 26 = .ok (.iconst 1, 1) := by decide +kernel
theorem dX12_slipOf_27 : decode cX12_slipOf 27 = .ok (.iconst 0, 1) := by decide +kernel
theorem dX12_slipOf_28 : decode cX12_slipOf 28 = .ok (.invokevirtual 385, 3) := by decide +kernel
theorem dX12_slipOf_31 : decode cX12_slipOf 31 = .ok (.istore_n 3, 1) := by decide +kernel
theorem dX12_slipOf_32 : decode cX12_slipOf 32 = .ok (.iload_n 3, 1) := by decide +kernel
theorem dX12_slipOf_33 : decode cX12_slipOf 33 = .ok (.ifCond .ge 7, 3) := by decide +kernel
theorem dX12_slipOf_36 : decode cX12_slipOf 36 = .ok (.iconst 0, 1) := by decide +kernel
theorem dX12_slipOf_37 : decode cX12_slipOf 37 = .ok (.goto 15, 3) := by decide +kernel
theorem dX12_slipOf_40 : decode cX12_slipOf 40 = .ok (.iload_n 3, 1) := by decide +kernel
theorem dX12_slipOf_41 : decode cX12_slipOf 41 = .ok (.bipush 100, 2) := by decide +kernel
theorem dX12_slipOf_43 : decode cX12_slipOf 43 = .ok (.if_icmp .le 8, 3) := by decide +kernel
theorem dX12_slipOf_46 : decode cX12_slipOf 46 = .ok (.bipush 100, 2) := by decide +kernel
theorem dX12_slipOf_48 : decode cX12_slipOf 48 = .ok (.goto 4, 3) := by decide +kernel
theorem dX12_slipOf_51 : decode cX12_slipOf 51 = .ok (.iload_n 3, 1) := by decide +kernel
theorem dX12_slipOf_52 : decode cX12_slipOf 52 = .ok (.ireturn, 1) := by decide +kernel
theorem in_X12_readAll_X12 : ∀ w ∈ wsX120, w ∈ wsX12_readAll := fun _ h => (List.mem_cons_of_mem _ (List.mem_append_right _ h))
def fn_X12_readAll_81 : Nat → St → Option (St)
  | 0, _ => none
  | n + 1, z => (if (z.1 172 2) = 0 then (if (z.1 172 6) = 0 then some z else bv (fn_X12_readLine   z) (fun z4 => fn_X12_readAll_81   n  z4)) else some z)
set_option maxHeartbeats 4000000 in
set_option maxRecDepth 100000 in
theorem pf_X12_readAll_81 {p : Program} {l : Launch} {e : Env} {s : State} {m : MethodId} {args : Array Value} {below : List Frame} {meth : Method} {c : Code} {G : wG} (C : CX p s m args meth c cX12_readAll 1 wsX12_readAll RX12 none G) {Rz : St} : ∀ (n : Nat)  (z : St)  (H : Heap) (locs : List Loc) (ls : Array Slot), WP G z H → va_S (AW G) s.heap H locs → lv_has ls 1 [(0, .ref (G.2.2 172))] → fn_X12_readAll_81   n  z = some Rz → W p l e (rmd 8) s m args below meth c H locs 0 0 (QV below args s G Rz) (F0 m 81 ls []) := by
  obtain ⟨hx, hb, hml, hown, hts, hr, hlocks, hK, hG⟩ := id C
  intro n
  induction n with
  | zero => intro  z  H locs ls hP hS hl h; cases h
  | succ n ih =>
    intro  z  H locs ls hP hS hl h
    rw [fn_X12_readAll_81] at h
    refine lv_aload_n hx hb dX12_readAll_81 rfl (lv_at hl 0 rfl) ?_
    refine ge_12_2 hx hb hts in_X12_readAll_X12 hown hK hP k_172 (hts _ (List.mem_of_getElem? (i := 4) rfl)) dX12_readAll_82 ?_
    refine lv_if_ne (tgt := 102) hx hb dX12_readAll_85 (by decide) (fun c1 => ?_) (fun c1 => ?_)
    · rw [if_neg c1] at h
      exact x_vret hx hb hr hlocks hK hP hS h dX12_readAll_102
    · rw [if_pos c1] at h
      refine lv_aload_n hx hb dX12_readAll_88 rfl (lv_at hl 0 rfl) ?_
      refine ge_12_6 hx hb hts in_X12_readAll_X12 hown hK hP k_172 (hts _ (List.mem_of_getElem? (i := 14) rfl)) dX12_readAll_89 ?_
      refine lv_if_eq (tgt := 102) hx hb dX12_readAll_92 (by decide) (fun c2 => ?_) (fun c2 => ?_)
      · rw [if_pos c2] at h
        exact x_vret hx hb hr hlocks hK hP hS h dX12_readAll_102
      · rw [if_neg c2] at h
        refine lv_aload_n hx hb dX12_readAll_95 rfl (lv_at hl 0 rfl) ?_
        obtain ⟨z4, h3, h⟩ := bv_s h
        refine x_Vv (Rz := z4) (As := []) (rest := []) ⟨hx, hb, hml, hown, hts⟩ hK hP hS (kd_lt k_172 (by decide)) (cell_12 k_172) rfl (m_X12_readLine hG   h3) (cwV 0 hts gX12_readAll_X12_readLine rfl rfl rfl (by decide +kernel) (rmd_ok (by decide) (by decide))) rfl hl.1 rfl (Nat.le_of_ble_eq_true rfl) dX12_readAll_96 ⟨Nat.le_refl _, Nat.le_refl _⟩ (fun H locs hP hS => ?_)
        refine lv_goto (tgt := 81) hx hb dX12_readAll_99 (by decide) ?_
        exact ih  z4 _ _ _ hP hS (lv_sub hl [0] rfl) h
def fn_X12_readAll  (z : St) : Option (St) := nm (sI z 172 5 (z.1 172 1)) (fun z1 => nm (sI z1 172 1 0) (fun z2 => nm (sI z2 172 4 0) (fun z3 => nm (sI z3 172 2 0) (fun z4 => nm (sI z4 172 3 (-1)) (fun z5 => nm (sI z5 172 39 0) (fun z6 => nm (sI z6 172 40 0) (fun z7 => nm (sI z7 172 41 1) (fun z8 => nm (sI z8 172 42 0) (fun z9 => nm (sI z9 172 46 0) (fun z10 => nm (sI z10 172 47 0) (fun z11 => nm (sI z11 183 (Int32.toNatClampNeg 0) 0) (fun z12 => nm (sI z12 183 (Int32.toNatClampNeg 1) 0) (fun z13 => nm (sI z13 172 22 0) (fun z14 => bv (fn_X12_token   z14) (fun z16 => fn_X12_readAll_81   fu  z16)))))))))))))))
set_option maxHeartbeats 4000000 in
set_option maxRecDepth 100000 in
theorem m_X12_readAll {l : Launch} {G : wG} (hG : Ok G)  {z : St} {Rz : St}  (h : fn_X12_readAll   z = some Rz) : Met l yX12_readAll wsX12_readAll (rmd 8) (va_Pc [.ref (G.2.2 172)] (Pre G z)) (va_Qv (fun u => u = Rz) (Pre G) (AW G)) 0 0 (AW G) := by
  refine Met.ofW (cc := cX12_readAll) (maxL := 1) (ret := none) (by decide) rfl ?_
  intro p e s m args below meth c s₁ B hml hv
  obtain ⟨rfl, hP, hK⟩ := hv
  have C : CX p s m ([.ref (G.2.2 172)] : List Value).toArray meth c cX12_readAll 1 wsX12_readAll RX12 none G := ⟨B.exec, B.bytes, hml, findClass_of_methodNamed B.named, atoms_spec (ws := wsX12_readAll) B.pre, B.returns, B.notSynchronized, hK, hG⟩
  obtain ⟨hx, hb, -, hown, hts, hr, hlocks, -, -⟩ := id C
  have hS : va_S (AW G) s.heap s.heap [] := va_S.rf
  have hl := lv_entry [.ref (G.2.2 172)] (n := 1) (Nat.le_of_ble_eq_true rfl)
  rw [lg_entry_eq]
  generalize (lg_sl [.ref (G.2.2 172)] ++ List.replicate (1 - (lg_sl [.ref (G.2.2 172)]).length) Slot.unset).toArray = ls at hl ⊢
  have hl : lv_has ls 1 [(0, .ref (G.2.2 172))] := hl
  unfold fn_X12_readAll at h
  refine lv_aload_n hx hb dX12_readAll_0 rfl (lv_at hl 0 rfl) ?_
  refine lv_aload_n hx hb dX12_readAll_1 rfl (lv_at hl 0 rfl) ?_
  refine ge_12_1 hx hb hts in_X12_readAll_X12 hown hK hP k_172 (hts _ (List.mem_of_getElem? (i := 1) rfl)) dX12_readAll_2 ?_
  obtain ⟨z1, e_z1, h⟩ := nm_s h
  refine pu_12_5 hx hb hts in_X12_readAll_X12 hown hK hG hP hS k_172 (hts _ (List.mem_of_getElem? (i := 2) rfl)) dX12_readAll_5 (fun H locs hP hS => ?_)
  rw [← e_z1] at hP
  refine lv_aload_n hx hb dX12_readAll_8 rfl (lv_at hl 0 rfl) ?_
  refine lv_iconst (v := 0) hx hb dX12_readAll_9 (by decide) ?_
  obtain ⟨z2, e_z2, h⟩ := nm_s h
  refine pu_12_1 hx hb hts in_X12_readAll_X12 hown hK hG hP hS k_172 (hts _ (List.mem_of_getElem? (i := 1) rfl)) dX12_readAll_10 (fun H locs hP hS => ?_)
  rw [← e_z2] at hP
  refine lv_aload_n hx hb dX12_readAll_13 rfl (lv_at hl 0 rfl) ?_
  refine lv_iconst (v := 0) hx hb dX12_readAll_14 (by decide) ?_
  obtain ⟨z3, e_z3, h⟩ := nm_s h
  refine pu_12_4 hx hb hts in_X12_readAll_X12 hown hK hG hP hS k_172 (hts _ (List.mem_of_getElem? (i := 3) rfl)) dX12_readAll_15 (fun H locs hP hS => ?_)
  rw [← e_z3] at hP
  refine lv_aload_n hx hb dX12_readAll_18 rfl (lv_at hl 0 rfl) ?_
  refine lv_iconst (v := 0) hx hb dX12_readAll_19 (by decide) ?_
  obtain ⟨z4, e_z4, h⟩ := nm_s h
  refine pu_12_2 hx hb hts in_X12_readAll_X12 hown hK hG hP hS k_172 (hts _ (List.mem_of_getElem? (i := 4) rfl)) dX12_readAll_20 (fun H locs hP hS => ?_)
  rw [← e_z4] at hP
  refine lv_aload_n hx hb dX12_readAll_23 rfl (lv_at hl 0 rfl) ?_
  refine lv_iconst (v := (-1)) hx hb dX12_readAll_24 (by decide) ?_
  obtain ⟨z5, e_z5, h⟩ := nm_s h
  refine pu_12_3 hx hb hts in_X12_readAll_X12 hown hK hG hP hS k_172 (hts _ (List.mem_of_getElem? (i := 5) rfl)) dX12_readAll_25 (fun H locs hP hS => ?_)
  rw [← e_z5] at hP
  refine lv_aload_n hx hb dX12_readAll_28 rfl (lv_at hl 0 rfl) ?_
  refine lv_iconst (v := 0) hx hb dX12_readAll_29 (by decide) ?_
  obtain ⟨z6, e_z6, h⟩ := nm_s h
  refine pu_12_39 hx hb hts in_X12_readAll_X12 hown hK hG hP hS k_172 (hts _ (List.mem_of_getElem? (i := 6) rfl)) dX12_readAll_30 (fun H locs hP hS => ?_)
  rw [← e_z6] at hP
  refine lv_aload_n hx hb dX12_readAll_33 rfl (lv_at hl 0 rfl) ?_
  refine lv_iconst (v := 0) hx hb dX12_readAll_34 (by decide) ?_
  obtain ⟨z7, e_z7, h⟩ := nm_s h
  refine pu_12_40 hx hb hts in_X12_readAll_X12 hown hK hG hP hS k_172 (hts _ (List.mem_of_getElem? (i := 7) rfl)) dX12_readAll_35 (fun H locs hP hS => ?_)
  rw [← e_z7] at hP
  refine lv_aload_n hx hb dX12_readAll_38 rfl (lv_at hl 0 rfl) ?_
  refine lv_iconst (v := 1) hx hb dX12_readAll_39 (by decide) ?_
  obtain ⟨z8, e_z8, h⟩ := nm_s h
  refine pu_12_41 hx hb hts in_X12_readAll_X12 hown hK hG hP hS k_172 (hts _ (List.mem_of_getElem? (i := 8) rfl)) dX12_readAll_40 (fun H locs hP hS => ?_)
  rw [← e_z8] at hP
  refine lv_aload_n hx hb dX12_readAll_43 rfl (lv_at hl 0 rfl) ?_
  refine lv_iconst (v := 0) hx hb dX12_readAll_44 (by decide) ?_
  obtain ⟨z9, e_z9, h⟩ := nm_s h
  refine pu_12_42 hx hb hts in_X12_readAll_X12 hown hK hG hP hS k_172 (hts _ (List.mem_of_getElem? (i := 9) rfl)) dX12_readAll_45 (fun H locs hP hS => ?_)
  rw [← e_z9] at hP
  refine lv_aload_n hx hb dX12_readAll_48 rfl (lv_at hl 0 rfl) ?_
  refine lv_iconst (v := 0) hx hb dX12_readAll_49 (by decide) ?_
  obtain ⟨z10, e_z10, h⟩ := nm_s h
  refine pu_12_46 hx hb hts in_X12_readAll_X12 hown hK hG hP hS k_172 (hts _ (List.mem_of_getElem? (i := 10) rfl)) rfl dX12_readAll_50 (fun H locs hP hS => ?_)
  rw [← e_z10] at hP
  refine lv_aload_n hx hb dX12_readAll_53 rfl (lv_at hl 0 rfl) ?_
  refine lv_iconst (v := 0) hx hb dX12_readAll_54 (by decide) ?_
  obtain ⟨z11, e_z11, h⟩ := nm_s h
  refine pu_12_47 hx hb hts in_X12_readAll_X12 hown hK hG hP hS k_172 (hts _ (List.mem_of_getElem? (i := 11) rfl)) rfl dX12_readAll_55 (fun H locs hP hS => ?_)
  rw [← e_z11] at hP
  refine lv_aload_n hx hb dX12_readAll_58 rfl (lv_at hl 0 rfl) ?_
  refine ge_12_19 hx hb hts in_X12_readAll_X12 hown hK hP k_172 (hts _ (List.mem_of_getElem? (i := 12) rfl)) dX12_readAll_59 ?_
  refine lv_iconst (v := 0) hx hb dX12_readAll_62 (by decide) ?_
  refine lv_iconst (v := 0) hx hb dX12_readAll_63 (by decide) ?_
  obtain ⟨z12, e_z12, h⟩ := nm_s h
  refine xs_16 hx hb hK hG hP hS k_183 l_183 (ix_in (by decide)) rfl dX12_readAll_64 (fun H locs hP hS => ?_)
  rw [← e_z12] at hP
  refine lv_aload_n hx hb dX12_readAll_65 rfl (lv_at hl 0 rfl) ?_
  refine ge_12_19 hx hb hts in_X12_readAll_X12 hown hK hP k_172 (hts _ (List.mem_of_getElem? (i := 12) rfl)) dX12_readAll_66 ?_
  refine lv_iconst (v := 1) hx hb dX12_readAll_69 (by decide) ?_
  refine lv_iconst (v := 0) hx hb dX12_readAll_70 (by decide) ?_
  obtain ⟨z13, e_z13, h⟩ := nm_s h
  refine xs_16 hx hb hK hG hP hS k_183 l_183 (ix_in (by decide)) rfl dX12_readAll_71 (fun H locs hP hS => ?_)
  rw [← e_z13] at hP
  refine lv_aload_n hx hb dX12_readAll_72 rfl (lv_at hl 0 rfl) ?_
  refine lv_iconst (v := 0) hx hb dX12_readAll_73 (by decide) ?_
  obtain ⟨z14, e_z14, h⟩ := nm_s h
  refine pu_12_22 hx hb hts in_X12_readAll_X12 hown hK hG hP hS k_172 (hts _ (List.mem_of_getElem? (i := 13) rfl)) dX12_readAll_74 (fun H locs hP hS => ?_)
  rw [← e_z14] at hP
  refine lv_aload_n hx hb dX12_readAll_77 rfl (lv_at hl 0 rfl) ?_
  obtain ⟨z16, h15, h⟩ := bv_s h
  refine x_Vv (Rz := z16) (As := []) (rest := []) ⟨hx, hb, hml, hown, hts⟩ hK hP hS (kd_lt k_172 (by decide)) (cell_12 k_172) rfl (m_X12_token hG   h15) (cwV 0 hts gX12_readAll_X12_token rfl rfl rfl (by decide +kernel) (rmd_ok (by decide) (by decide))) rfl hl.1 rfl (Nat.le_of_ble_eq_true rfl) dX12_readAll_78 ⟨Nat.le_refl _, Nat.le_refl _⟩ (fun H locs hP hS => ?_)
  exact pf_X12_readAll_81 C   fu  z16  _ _ _ hP hS (lv_sub hl [0] rfl) h
theorem in_X12_cake_X12 : ∀ w ∈ wsX120, w ∈ wsX12_cake := fun _ h => (List.mem_cons_of_mem _ (List.mem_append_right _ h))
def fn_X12_cake_83 (k47 : Int32 → St → Option (Int32 × St)) : Nat → Int32 → Int32 → St → Option (Int32 × St)
  | 0, _, _, _ => none
  | n + 1, v1, v2, z => gd (ix v1 2) ((if ((320 * v1) + (z.1 180 (Int32.toNatClampNeg v1))) ≤ v2 then k47 (v1 + 1) z else gd (ix v2 640) (gd (ix v2 640) (nm (sI z 178 (Int32.toNatClampNeg v2) (z.1 175 (Int32.toNatClampNeg v2))) (fun z5 => gd (ix v2 640) (gd (ix v2 640) (nm (sI z5 179 (Int32.toNatClampNeg v2) (z5.1 176 (Int32.toNatClampNeg v2))) (fun z8 => fn_X12_cake_83  k47 n v1 (v2 + 1) z8))))))))
set_option maxHeartbeats 4000000 in
set_option maxRecDepth 100000 in
theorem pf_X12_cake_83 {p : Program} {l : Launch} {e : Env} {s : State} {m : MethodId} {args : Array Value} {below : List Frame} {meth : Method} {c : Code} {G : wG} (C : CX p s m args meth c cX12_cake 3 wsX12_cake RX12 (some .int) G) {Rz : Int32 × St} {k47 : Int32 → St → Option (Int32 × St)} (hk_47 : ∀ (v1 : Int32) (z : St)  (H : Heap) (locs : List Loc) (ls : Array Slot), WP G z H → va_S (AW G) s.heap H locs → lv_has ls 3 [(0, .ref (G.2.2 172)), (1, .int v1)] → k47 v1 z = some Rz → W p l e (rmd 9) s m args below meth c H locs 0 0 (QI below args s G Rz) (F0 m 47 ls [])) : ∀ (n : Nat) (v1 : Int32) (v2 : Int32) (z : St)  (H : Heap) (locs : List Loc) (ls : Array Slot), WP G z H → va_S (AW G) s.heap H locs → lv_has ls 3 [(0, .ref (G.2.2 172)), (1, .int v1), (2, .int v2)] → fn_X12_cake_83  k47 n v1 v2 z = some Rz → W p l e (rmd 9) s m args below meth c H locs 0 0 (QI below args s G Rz) (F0 m 83 ls []) := by
  obtain ⟨hx, hb, hml, hown, hts, hr, hlocks, hK, hG⟩ := id C
  intro n
  induction n with
  | zero => intro v1 v2 z  H locs ls hP hS hl h; cases h
  | succ n ih =>
    intro v1 v2 z  H locs ls hP hS hl h
    rw [fn_X12_cake_83] at h
    refine lv_iload_n hx hb dX12_cake_83 rfl (lv_at hl 2 rfl) ?_
    refine lv_sipush (v := 320) hx hb dX12_cake_84 (by decide) ?_
    refine lv_iload_n hx hb dX12_cake_87 rfl (lv_at hl 1 rfl) ?_
    refine lv_imul hx hb dX12_cake_88 ?_
    refine lv_aload_n hx hb dX12_cake_89 rfl (lv_at hl 0 rfl) ?_
    refine ge_12_16 hx hb hts in_X12_cake_X12 hown hK hP k_172 (hts _ (List.mem_of_getElem? (i := 10) rfl)) dX12_cake_90 ?_
    refine lv_iload_n hx hb dX12_cake_93 rfl (lv_at hl 1 rfl) ?_
    obtain ⟨g1, h⟩ := gd_s h
    refine xl_14 hx hb hK hP k_180 l_180 (ix_in g1) dX12_cake_94 ?_
    refine lv_iadd hx hb dX12_cake_95 ?_
    refine lv_icmp_ge (tgt := 129) hx hb dX12_cake_96 (by decide) (fun c2 => ?_) (fun c2 => ?_)
    · rw [if_pos c2] at h
      refine lv_iinc (v := (v1 + 1)) (lv' := [(1, .int (v1 + 1)), (0, .ref (G.2.2 172)), (2, .int v2)]) hx hb dX12_cake_129 hl (k := 1) rfl rfl (by decide) rfl (fun ls hl => ?_)
      refine lv_goto (tgt := 47) hx hb dX12_cake_132 (by decide) ?_
      exact hk_47 (v1 + 1) z  _ _ _ hP hS (lv_sub hl [1, 0] rfl) h
    · rw [if_neg c2] at h
      refine lv_aload_n hx hb dX12_cake_99 rfl (lv_at hl 0 rfl) ?_
      refine ge_12_14 hx hb hts in_X12_cake_X12 hown hK hP k_172 (hts _ (List.mem_of_getElem? (i := 13) rfl)) dX12_cake_100 ?_
      refine lv_iload_n hx hb dX12_cake_103 rfl (lv_at hl 2 rfl) ?_
      refine lv_aload_n hx hb dX12_cake_104 rfl (lv_at hl 0 rfl) ?_
      refine ge_12_11 hx hb hts in_X12_cake_X12 hown hK hP k_172 (hts _ (List.mem_of_getElem? (i := 14) rfl)) dX12_cake_105 ?_
      refine lv_iload_n hx hb dX12_cake_108 rfl (lv_at hl 2 rfl) ?_
      obtain ⟨g3, h⟩ := gd_s h
      refine xl_14 hx hb hK hP k_175 l_175 (ix_in g3) dX12_cake_109 ?_
      obtain ⟨g4, h⟩ := gd_s h
      obtain ⟨z5, e_z5, h⟩ := nm_s h
      refine xs_14 hx hb hK hG hP hS k_178 l_178 (ix_in g4) dX12_cake_110 (fun H locs hP hS => ?_)
      rw [← e_z5] at hP
      refine lv_aload_n hx hb dX12_cake_111 rfl (lv_at hl 0 rfl) ?_
      refine ge_12_15 hx hb hts in_X12_cake_X12 hown hK hP k_172 (hts _ (List.mem_of_getElem? (i := 15) rfl)) dX12_cake_112 ?_
      refine lv_iload_n hx hb dX12_cake_115 rfl (lv_at hl 2 rfl) ?_
      refine lv_aload_n hx hb dX12_cake_116 rfl (lv_at hl 0 rfl) ?_
      refine ge_12_12 hx hb hts in_X12_cake_X12 hown hK hP k_172 (hts _ (List.mem_of_getElem? (i := 16) rfl)) dX12_cake_117 ?_
      refine lv_iload_n hx hb dX12_cake_120 rfl (lv_at hl 2 rfl) ?_
      obtain ⟨g6, h⟩ := gd_s h
      refine xl_14 hx hb hK hP k_176 l_176 (ix_in g6) dX12_cake_121 ?_
      obtain ⟨g7, h⟩ := gd_s h
      obtain ⟨z8, e_z8, h⟩ := nm_s h
      refine xs_14 hx hb hK hG hP hS k_179 l_179 (ix_in g7) dX12_cake_122 (fun H locs hP hS => ?_)
      rw [← e_z8] at hP
      refine lv_iinc (v := (v2 + 1)) (lv' := [(2, .int (v2 + 1)), (0, .ref (G.2.2 172)), (1, .int v1)]) hx hb dX12_cake_123 hl (k := 2) rfl rfl (by decide) rfl (fun ls hl => ?_)
      refine lv_goto (tgt := 83) hx hb dX12_cake_126 (by decide) ?_
      exact ih v1 (v2 + 1) z8 _ _ _ hP hS (lv_sub hl [1, 2, 0] rfl) h
def fn_X12_cake_76 (k47 : Int32 → St → Option (Int32 × St)) (v1 : Int32) (tp0 : Nat) (tv1 : Int32) (tv2 : Int32) (z : St) : Option (Int32 × St) := gd (ix tv1 (ln tp0)) (nm (sI z tp0 (Int32.toNatClampNeg tv1) tv2) (fun z2 => nm (320 * v1) (fun v2_3 => fn_X12_cake_83  k47 fu v1 v2_3 z2)))
set_option maxHeartbeats 4000000 in
set_option maxRecDepth 100000 in
theorem pf_X12_cake_76 {p : Program} {l : Launch} {e : Env} {s : State} {m : MethodId} {args : Array Value} {below : List Frame} {meth : Method} {c : Code} {G : wG} (C : CX p s m args meth c cX12_cake 3 wsX12_cake RX12 (some .int) G) {Rz : Int32 × St} {k47 : Int32 → St → Option (Int32 × St)} (hk_47 : ∀ (v1 : Int32) (z : St)  (H : Heap) (locs : List Loc) (ls : Array Slot), WP G z H → va_S (AW G) s.heap H locs → lv_has ls 3 [(0, .ref (G.2.2 172)), (1, .int v1)] → k47 v1 z = some Rz → W p l e (rmd 9) s m args below meth c H locs 0 0 (QI below args s G Rz) (F0 m 47 ls [])) (v1 : Int32) (tp0 : Nat) (tv1 : Int32) (tv2 : Int32) (z : St) (hkt0 : kd tp0 = 14) {H : Heap} {locs : List Loc} {ls : Array Slot} (hP : WP G z H) (hS : va_S (AW G) s.heap H locs) (hl : lv_has ls 3 [(0, .ref (G.2.2 172)), (1, .int v1)]) (h : fn_X12_cake_76  k47 v1 tp0 tv1 tv2 z = some Rz) : W p l e (rmd 9) s m args below meth c H locs 0 0 (QI below args s G Rz) (F0 m 76 ls [.int tv2, .int tv1, .ref (G.2.2 tp0)]) := by
  obtain ⟨hx, hb, hml, hown, hts, hr, hlocks, hK, hG⟩ := id C
  unfold fn_X12_cake_76 at h
  obtain ⟨g1, h⟩ := gd_s h
  obtain ⟨z2, e_z2, h⟩ := nm_s h
  refine xs_14 hx hb hK hG hP hS hkt0 rfl (ix_in g1) dX12_cake_76 (fun H locs hP hS => ?_)
  rw [← e_z2] at hP
  refine lv_sipush (v := 320) hx hb dX12_cake_77 (by decide) ?_
  refine lv_iload_n hx hb dX12_cake_80 rfl (lv_at hl 1 rfl) ?_
  refine lv_imul hx hb dX12_cake_81 ?_
  obtain ⟨v2_3, e_v2_3, h⟩ := nm_s h
  refine x_top e_v2_3 ?_
  refine lv_istore_n (lv' := [(2, .int v2_3), (0, .ref (G.2.2 172)), (1, .int v1)]) hx hb dX12_cake_82 rfl hl (by decide) rfl (fun ls hl => ?_)
  exact pf_X12_cake_83 C  hk_47 fu v1 v2_3 z2  _ _ _ hP hS (lv_sub hl [1, 2, 0] rfl) h
def fn_X12_cake_364 : Nat → Int32 → St → Option (Int32 × St)
  | 0, _, _ => none
  | n + 1, v1, z => (if 3 ≤ v1 then some ((z.1 172 43), z) else gd (ix v1 3) (nm (sI z 211 (Int32.toNatClampNeg v1) 0) (fun z3 => fn_X12_cake_364   n (v1 + 1) z3)))
set_option maxHeartbeats 4000000 in
set_option maxRecDepth 100000 in
theorem pf_X12_cake_364 {p : Program} {l : Launch} {e : Env} {s : State} {m : MethodId} {args : Array Value} {below : List Frame} {meth : Method} {c : Code} {G : wG} (C : CX p s m args meth c cX12_cake 3 wsX12_cake RX12 (some .int) G) {Rz : Int32 × St} : ∀ (n : Nat) (v1 : Int32) (z : St)  (H : Heap) (locs : List Loc) (ls : Array Slot), WP G z H → va_S (AW G) s.heap H locs → lv_has ls 3 [(0, .ref (G.2.2 172)), (1, .int v1)] → fn_X12_cake_364   n v1 z = some Rz → W p l e (rmd 9) s m args below meth c H locs 0 0 (QI below args s G Rz) (F0 m 364 ls []) := by
  obtain ⟨hx, hb, hml, hown, hts, hr, hlocks, hK, hG⟩ := id C
  intro n
  induction n with
  | zero => intro v1 z  H locs ls hP hS hl h; cases h
  | succ n ih =>
    intro v1 z  H locs ls hP hS hl h
    rw [fn_X12_cake_364] at h
    refine lv_iload_n hx hb dX12_cake_364 rfl (lv_at hl 1 rfl) ?_
    refine lv_iconst (v := 3) hx hb dX12_cake_365 (by decide) ?_
    refine lv_icmp_ge (tgt := 382) hx hb dX12_cake_366 (by decide) (fun c1 => ?_) (fun c1 => ?_)
    · rw [if_pos c1] at h
      refine lv_aload_n hx hb dX12_cake_382 rfl (lv_at hl 0 rfl) ?_
      refine ge_12_43 hx hb hts in_X12_cake_X12 hown hK hP k_172 (hts _ (List.mem_of_getElem? (i := 3) rfl)) dX12_cake_383 ?_
      exact x_iret hx hb hr hlocks hK hP hS h dX12_cake_386
    · rw [if_neg c1] at h
      refine lv_aload_n hx hb dX12_cake_369 rfl (lv_at hl 0 rfl) ?_
      refine ge_12_73 hx hb hts in_X12_cake_X12 hown hK hP k_172 (hts _ (List.mem_of_getElem? (i := 35) rfl)) dX12_cake_370 ?_
      refine lv_iload_n hx hb dX12_cake_373 rfl (lv_at hl 1 rfl) ?_
      refine lv_iconst (v := 0) hx hb dX12_cake_374 (by decide) ?_
      obtain ⟨g2, h⟩ := gd_s h
      obtain ⟨z3, e_z3, h⟩ := nm_s h
      refine xs_16 hx hb hK hG hP hS k_211 l_211 (ix_in g2) rfl dX12_cake_375 (fun H locs hP hS => ?_)
      rw [← e_z3] at hP
      refine lv_iinc (v := (v1 + 1)) (lv' := [(1, .int (v1 + 1)), (0, .ref (G.2.2 172))]) hx hb dX12_cake_376 hl (k := 1) rfl rfl (by decide) rfl (fun ls hl => ?_)
      refine lv_goto (tgt := 364) hx hb dX12_cake_379 (by decide) ?_
      exact ih (v1 + 1) z3 _ _ _ hP hS (lv_sub hl [1, 0] rfl) h
def fn_X12_cake_268 : Nat → Int32 → St → Option (Int32 × St)
  | 0, _, _ => none
  | n + 1, v1, z => (if (z.1 172 44) ≤ v1 then nm (sI z 197 (Int32.toNatClampNeg 168) (z.1 172 43)) (fun z2 => nm (sI z2 197 (Int32.toNatClampNeg 170) (z2.1 172 42)) (fun z3 => nm (sI z3 172 51 0) (fun z4 => nm (sI z4 172 52 0) (fun z5 => nm (sI z5 172 71 0) (fun z6 => nm (sI z6 172 65 0) (fun z7 => fn_X12_cake_364   fu 0 z7)))))) else gd (ix v1 6) (gd (ix v1 6) (nm (sI z 194 (Int32.toNatClampNeg v1) (z.1 191 (Int32.toNatClampNeg v1))) (fun z10 => gd (ix v1 6) (gd (ix v1 6) (nm (sI z10 195 (Int32.toNatClampNeg v1) (z10.1 192 (Int32.toNatClampNeg v1))) (fun z13 => gd (ix v1 6) (gd (ix v1 6) (nm (sI z13 196 (Int32.toNatClampNeg v1) (z13.1 193 (Int32.toNatClampNeg v1))) (fun z16 => fn_X12_cake_268   n (v1 + 1) z16))))))))))
set_option maxHeartbeats 4000000 in
set_option maxRecDepth 100000 in
theorem pf_X12_cake_268 {p : Program} {l : Launch} {e : Env} {s : State} {m : MethodId} {args : Array Value} {below : List Frame} {meth : Method} {c : Code} {G : wG} (C : CX p s m args meth c cX12_cake 3 wsX12_cake RX12 (some .int) G) {Rz : Int32 × St} : ∀ (n : Nat) (v1 : Int32) (z : St)  (H : Heap) (locs : List Loc) (ls : Array Slot), WP G z H → va_S (AW G) s.heap H locs → lv_has ls 3 [(0, .ref (G.2.2 172)), (1, .int v1)] → fn_X12_cake_268   n v1 z = some Rz → W p l e (rmd 9) s m args below meth c H locs 0 0 (QI below args s G Rz) (F0 m 268 ls []) := by
  obtain ⟨hx, hb, hml, hown, hts, hr, hlocks, hK, hG⟩ := id C
  intro n
  induction n with
  | zero => intro v1 z  H locs ls hP hS hl h; cases h
  | succ n ih =>
    intro v1 z  H locs ls hP hS hl h
    rw [fn_X12_cake_268] at h
    refine lv_iload_n hx hb dX12_cake_268 rfl (lv_at hl 1 rfl) ?_
    refine lv_aload_n hx hb dX12_cake_269 rfl (lv_at hl 0 rfl) ?_
    refine ge_12_44 hx hb hts in_X12_cake_X12 hown hK hP k_172 (hts _ (List.mem_of_getElem? (i := 5) rfl)) dX12_cake_270 ?_
    refine lv_icmp_ge (tgt := 318) hx hb dX12_cake_273 (by decide) (fun c1 => ?_) (fun c1 => ?_)
    · rw [if_pos c1] at h
      refine lv_aload_n hx hb dX12_cake_318 rfl (lv_at hl 0 rfl) ?_
      refine ge_12_48 hx hb hts in_X12_cake_X12 hown hK hP k_172 (hts _ (List.mem_of_getElem? (i := 17) rfl)) dX12_cake_319 ?_
      refine lv_sipush (v := 168) hx hb dX12_cake_322 (by decide) ?_
      refine lv_aload_n hx hb dX12_cake_325 rfl (lv_at hl 0 rfl) ?_
      refine ge_12_43 hx hb hts in_X12_cake_X12 hown hK hP k_172 (hts _ (List.mem_of_getElem? (i := 3) rfl)) dX12_cake_326 ?_
      obtain ⟨z2, e_z2, h⟩ := nm_s h
      refine xs_14 hx hb hK hG hP hS k_197 l_197 (ix_in (by decide)) dX12_cake_329 (fun H locs hP hS => ?_)
      rw [← e_z2] at hP
      refine lv_aload_n hx hb dX12_cake_330 rfl (lv_at hl 0 rfl) ?_
      refine ge_12_48 hx hb hts in_X12_cake_X12 hown hK hP k_172 (hts _ (List.mem_of_getElem? (i := 17) rfl)) dX12_cake_331 ?_
      refine lv_sipush (v := 170) hx hb dX12_cake_334 (by decide) ?_
      refine lv_aload_n hx hb dX12_cake_337 rfl (lv_at hl 0 rfl) ?_
      refine ge_12_42 hx hb hts in_X12_cake_X12 hown hK hP k_172 (hts _ (List.mem_of_getElem? (i := 30) rfl)) dX12_cake_338 ?_
      obtain ⟨z3, e_z3, h⟩ := nm_s h
      refine xs_14 hx hb hK hG hP hS k_197 l_197 (ix_in (by decide)) dX12_cake_341 (fun H locs hP hS => ?_)
      rw [← e_z3] at hP
      refine lv_aload_n hx hb dX12_cake_342 rfl (lv_at hl 0 rfl) ?_
      refine lv_iconst (v := 0) hx hb dX12_cake_343 (by decide) ?_
      obtain ⟨z4, e_z4, h⟩ := nm_s h
      refine pu_12_51 hx hb hts in_X12_cake_X12 hown hK hG hP hS k_172 (hts _ (List.mem_of_getElem? (i := 31) rfl)) dX12_cake_344 (fun H locs hP hS => ?_)
      rw [← e_z4] at hP
      refine lv_aload_n hx hb dX12_cake_347 rfl (lv_at hl 0 rfl) ?_
      refine lv_iconst (v := 0) hx hb dX12_cake_348 (by decide) ?_
      obtain ⟨z5, e_z5, h⟩ := nm_s h
      refine pu_12_52 hx hb hts in_X12_cake_X12 hown hK hG hP hS k_172 (hts _ (List.mem_of_getElem? (i := 32) rfl)) dX12_cake_349 (fun H locs hP hS => ?_)
      rw [← e_z5] at hP
      refine lv_aload_n hx hb dX12_cake_352 rfl (lv_at hl 0 rfl) ?_
      refine lv_iconst (v := 0) hx hb dX12_cake_353 (by decide) ?_
      obtain ⟨z6, e_z6, h⟩ := nm_s h
      refine pu_12_71 hx hb hts in_X12_cake_X12 hown hK hG hP hS k_172 (hts _ (List.mem_of_getElem? (i := 33) rfl)) dX12_cake_354 (fun H locs hP hS => ?_)
      rw [← e_z6] at hP
      refine lv_aload_n hx hb dX12_cake_357 rfl (lv_at hl 0 rfl) ?_
      refine lv_iconst (v := 0) hx hb dX12_cake_358 (by decide) ?_
      obtain ⟨z7, e_z7, h⟩ := nm_s h
      refine pu_12_65 hx hb hts in_X12_cake_X12 hown hK hG hP hS k_172 (hts _ (List.mem_of_getElem? (i := 34) rfl)) dX12_cake_359 (fun H locs hP hS => ?_)
      rw [← e_z7] at hP
      refine lv_iconst (v := 0) hx hb dX12_cake_362 (by decide) ?_
      refine lv_istore_n (lv' := [(1, .int 0), (0, .ref (G.2.2 172))]) hx hb dX12_cake_363 rfl hl (by decide) rfl (fun ls hl => ?_)
      exact pf_X12_cake_364 C   fu 0 z7  _ _ _ hP hS (lv_sub hl [1, 0] rfl) h
    · rw [if_neg c1] at h
      refine lv_aload_n hx hb dX12_cake_276 rfl (lv_at hl 0 rfl) ?_
      refine ge_12_36 hx hb hts in_X12_cake_X12 hown hK hP k_172 (hts _ (List.mem_of_getElem? (i := 24) rfl)) dX12_cake_277 ?_
      refine lv_iload_n hx hb dX12_cake_280 rfl (lv_at hl 1 rfl) ?_
      refine lv_aload_n hx hb dX12_cake_281 rfl (lv_at hl 0 rfl) ?_
      refine ge_12_33 hx hb hts in_X12_cake_X12 hown hK hP k_172 (hts _ (List.mem_of_getElem? (i := 25) rfl)) dX12_cake_282 ?_
      refine lv_iload_n hx hb dX12_cake_285 rfl (lv_at hl 1 rfl) ?_
      obtain ⟨g8, h⟩ := gd_s h
      refine xl_14 hx hb hK hP k_191 l_191 (ix_in g8) dX12_cake_286 ?_
      obtain ⟨g9, h⟩ := gd_s h
      obtain ⟨z10, e_z10, h⟩ := nm_s h
      refine xs_14 hx hb hK hG hP hS k_194 l_194 (ix_in g9) dX12_cake_287 (fun H locs hP hS => ?_)
      rw [← e_z10] at hP
      refine lv_aload_n hx hb dX12_cake_288 rfl (lv_at hl 0 rfl) ?_
      refine ge_12_37 hx hb hts in_X12_cake_X12 hown hK hP k_172 (hts _ (List.mem_of_getElem? (i := 26) rfl)) dX12_cake_289 ?_
      refine lv_iload_n hx hb dX12_cake_292 rfl (lv_at hl 1 rfl) ?_
      refine lv_aload_n hx hb dX12_cake_293 rfl (lv_at hl 0 rfl) ?_
      refine ge_12_34 hx hb hts in_X12_cake_X12 hown hK hP k_172 (hts _ (List.mem_of_getElem? (i := 27) rfl)) dX12_cake_294 ?_
      refine lv_iload_n hx hb dX12_cake_297 rfl (lv_at hl 1 rfl) ?_
      obtain ⟨g11, h⟩ := gd_s h
      refine xl_14 hx hb hK hP k_192 l_192 (ix_in g11) dX12_cake_298 ?_
      obtain ⟨g12, h⟩ := gd_s h
      obtain ⟨z13, e_z13, h⟩ := nm_s h
      refine xs_14 hx hb hK hG hP hS k_195 l_195 (ix_in g12) dX12_cake_299 (fun H locs hP hS => ?_)
      rw [← e_z13] at hP
      refine lv_aload_n hx hb dX12_cake_300 rfl (lv_at hl 0 rfl) ?_
      refine ge_12_38 hx hb hts in_X12_cake_X12 hown hK hP k_172 (hts _ (List.mem_of_getElem? (i := 28) rfl)) dX12_cake_301 ?_
      refine lv_iload_n hx hb dX12_cake_304 rfl (lv_at hl 1 rfl) ?_
      refine lv_aload_n hx hb dX12_cake_305 rfl (lv_at hl 0 rfl) ?_
      refine ge_12_35 hx hb hts in_X12_cake_X12 hown hK hP k_172 (hts _ (List.mem_of_getElem? (i := 29) rfl)) dX12_cake_306 ?_
      refine lv_iload_n hx hb dX12_cake_309 rfl (lv_at hl 1 rfl) ?_
      obtain ⟨g14, h⟩ := gd_s h
      refine xl_14 hx hb hK hP k_193 l_193 (ix_in g14) dX12_cake_310 ?_
      obtain ⟨g15, h⟩ := gd_s h
      obtain ⟨z16, e_z16, h⟩ := nm_s h
      refine xs_14 hx hb hK hG hP hS k_196 l_196 (ix_in g15) dX12_cake_311 (fun H locs hP hS => ?_)
      rw [← e_z16] at hP
      refine lv_iinc (v := (v1 + 1)) (lv' := [(1, .int (v1 + 1)), (0, .ref (G.2.2 172))]) hx hb dX12_cake_312 hl (k := 1) rfl rfl (by decide) rfl (fun ls hl => ?_)
      refine lv_goto (tgt := 268) hx hb dX12_cake_315 (by decide) ?_
      exact ih (v1 + 1) z16 _ _ _ hP hS (lv_sub hl [1, 0] rfl) h
def fn_X12_cake_159 : Nat → Int32 → St → Option (Int32 × St)
  | 0, _, _ => none
  | n + 1, v1, z => (if (z.1 172 43) ≤ v1 then fn_X12_cake_268   fu 0 z else gd (ix v1 3) (gd (ix v1 3) (nm (sI z 188 (Int32.toNatClampNeg v1) (z.1 185 (Int32.toNatClampNeg v1))) (fun z4 => gd (ix v1 3) (gd (ix v1 3) (nm (sI z4 189 (Int32.toNatClampNeg v1) (z4.1 186 (Int32.toNatClampNeg v1))) (fun z7 => gd (ix v1 3) (gd (ix v1 3) (nm (sI z7 190 (Int32.toNatClampNeg v1) (z7.1 187 (Int32.toNatClampNeg v1))) (fun z10 => gd (ix (7 * v1) 171) (nm (sI z10 197 (Int32.toNatClampNeg (7 * v1)) v1) (fun z12 => gd (ix v1 3) (gd (ix ((7 * v1) + 3) 171) (nm (sI z12 197 (Int32.toNatClampNeg ((7 * v1) + 3)) (z12.1 188 (Int32.toNatClampNeg v1))) (fun z15 => gd (ix v1 3) (gd (ix ((7 * v1) + 4) 171) (nm (sI z15 197 (Int32.toNatClampNeg ((7 * v1) + 4)) (z15.1 189 (Int32.toNatClampNeg v1))) (fun z18 => gd (ix ((7 * v1) + 6) 171) (nm (sI z18 197 (Int32.toNatClampNeg ((7 * v1) + 6)) (-1)) (fun z20 => fn_X12_cake_159   n (v1 + 1) z20))))))))))))))))))))
set_option maxHeartbeats 4000000 in
set_option maxRecDepth 100000 in
theorem pf_X12_cake_159 {p : Program} {l : Launch} {e : Env} {s : State} {m : MethodId} {args : Array Value} {below : List Frame} {meth : Method} {c : Code} {G : wG} (C : CX p s m args meth c cX12_cake 3 wsX12_cake RX12 (some .int) G) {Rz : Int32 × St} : ∀ (n : Nat) (v1 : Int32) (z : St)  (H : Heap) (locs : List Loc) (ls : Array Slot), WP G z H → va_S (AW G) s.heap H locs → lv_has ls 3 [(0, .ref (G.2.2 172)), (1, .int v1)] → fn_X12_cake_159   n v1 z = some Rz → W p l e (rmd 9) s m args below meth c H locs 0 0 (QI below args s G Rz) (F0 m 159 ls []) := by
  obtain ⟨hx, hb, hml, hown, hts, hr, hlocks, hK, hG⟩ := id C
  intro n
  induction n with
  | zero => intro v1 z  H locs ls hP hS hl h; cases h
  | succ n ih =>
    intro v1 z  H locs ls hP hS hl h
    rw [fn_X12_cake_159] at h
    refine lv_iload_n hx hb dX12_cake_159 rfl (lv_at hl 1 rfl) ?_
    refine lv_aload_n hx hb dX12_cake_160 rfl (lv_at hl 0 rfl) ?_
    refine ge_12_43 hx hb hts in_X12_cake_X12 hown hK hP k_172 (hts _ (List.mem_of_getElem? (i := 3) rfl)) dX12_cake_161 ?_
    refine lv_icmp_ge (tgt := 266) hx hb dX12_cake_164 (by decide) (fun c1 => ?_) (fun c1 => ?_)
    · rw [if_pos c1] at h
      refine lv_iconst (v := 0) hx hb dX12_cake_266 (by decide) ?_
      refine lv_istore_n (lv' := [(1, .int 0), (0, .ref (G.2.2 172))]) hx hb dX12_cake_267 rfl hl (by decide) rfl (fun ls hl => ?_)
      exact pf_X12_cake_268 C   fu 0 z  _ _ _ hP hS (lv_sub hl [1, 0] rfl) h
    · rw [if_neg c1] at h
      refine lv_aload_n hx hb dX12_cake_167 rfl (lv_at hl 0 rfl) ?_
      refine ge_12_30 hx hb hts in_X12_cake_X12 hown hK hP k_172 (hts _ (List.mem_of_getElem? (i := 18) rfl)) dX12_cake_168 ?_
      refine lv_iload_n hx hb dX12_cake_171 rfl (lv_at hl 1 rfl) ?_
      refine lv_aload_n hx hb dX12_cake_172 rfl (lv_at hl 0 rfl) ?_
      refine ge_12_27 hx hb hts in_X12_cake_X12 hown hK hP k_172 (hts _ (List.mem_of_getElem? (i := 19) rfl)) dX12_cake_173 ?_
      refine lv_iload_n hx hb dX12_cake_176 rfl (lv_at hl 1 rfl) ?_
      obtain ⟨g2, h⟩ := gd_s h
      refine xl_14 hx hb hK hP k_185 l_185 (ix_in g2) dX12_cake_177 ?_
      obtain ⟨g3, h⟩ := gd_s h
      obtain ⟨z4, e_z4, h⟩ := nm_s h
      refine xs_14 hx hb hK hG hP hS k_188 l_188 (ix_in g3) dX12_cake_178 (fun H locs hP hS => ?_)
      rw [← e_z4] at hP
      refine lv_aload_n hx hb dX12_cake_179 rfl (lv_at hl 0 rfl) ?_
      refine ge_12_31 hx hb hts in_X12_cake_X12 hown hK hP k_172 (hts _ (List.mem_of_getElem? (i := 20) rfl)) dX12_cake_180 ?_
      refine lv_iload_n hx hb dX12_cake_183 rfl (lv_at hl 1 rfl) ?_
      refine lv_aload_n hx hb dX12_cake_184 rfl (lv_at hl 0 rfl) ?_
      refine ge_12_28 hx hb hts in_X12_cake_X12 hown hK hP k_172 (hts _ (List.mem_of_getElem? (i := 21) rfl)) dX12_cake_185 ?_
      refine lv_iload_n hx hb dX12_cake_188 rfl (lv_at hl 1 rfl) ?_
      obtain ⟨g5, h⟩ := gd_s h
      refine xl_14 hx hb hK hP k_186 l_186 (ix_in g5) dX12_cake_189 ?_
      obtain ⟨g6, h⟩ := gd_s h
      obtain ⟨z7, e_z7, h⟩ := nm_s h
      refine xs_14 hx hb hK hG hP hS k_189 l_189 (ix_in g6) dX12_cake_190 (fun H locs hP hS => ?_)
      rw [← e_z7] at hP
      refine lv_aload_n hx hb dX12_cake_191 rfl (lv_at hl 0 rfl) ?_
      refine ge_12_32 hx hb hts in_X12_cake_X12 hown hK hP k_172 (hts _ (List.mem_of_getElem? (i := 22) rfl)) dX12_cake_192 ?_
      refine lv_iload_n hx hb dX12_cake_195 rfl (lv_at hl 1 rfl) ?_
      refine lv_aload_n hx hb dX12_cake_196 rfl (lv_at hl 0 rfl) ?_
      refine ge_12_29 hx hb hts in_X12_cake_X12 hown hK hP k_172 (hts _ (List.mem_of_getElem? (i := 23) rfl)) dX12_cake_197 ?_
      refine lv_iload_n hx hb dX12_cake_200 rfl (lv_at hl 1 rfl) ?_
      obtain ⟨g8, h⟩ := gd_s h
      refine xl_14 hx hb hK hP k_187 l_187 (ix_in g8) dX12_cake_201 ?_
      obtain ⟨g9, h⟩ := gd_s h
      obtain ⟨z10, e_z10, h⟩ := nm_s h
      refine xs_14 hx hb hK hG hP hS k_190 l_190 (ix_in g9) dX12_cake_202 (fun H locs hP hS => ?_)
      rw [← e_z10] at hP
      refine lv_aload_n hx hb dX12_cake_203 rfl (lv_at hl 0 rfl) ?_
      refine ge_12_48 hx hb hts in_X12_cake_X12 hown hK hP k_172 (hts _ (List.mem_of_getElem? (i := 17) rfl)) dX12_cake_204 ?_
      refine lv_bipush (v := 7) hx hb dX12_cake_207 (by decide) ?_
      refine lv_iload_n hx hb dX12_cake_209 rfl (lv_at hl 1 rfl) ?_
      refine lv_imul hx hb dX12_cake_210 ?_
      refine lv_iload_n hx hb dX12_cake_211 rfl (lv_at hl 1 rfl) ?_
      obtain ⟨g11, h⟩ := gd_s h
      obtain ⟨z12, e_z12, h⟩ := nm_s h
      refine xs_14 hx hb hK hG hP hS k_197 l_197 (ix_in g11) dX12_cake_212 (fun H locs hP hS => ?_)
      rw [← e_z12] at hP
      refine lv_aload_n hx hb dX12_cake_213 rfl (lv_at hl 0 rfl) ?_
      refine ge_12_48 hx hb hts in_X12_cake_X12 hown hK hP k_172 (hts _ (List.mem_of_getElem? (i := 17) rfl)) dX12_cake_214 ?_
      refine lv_bipush (v := 7) hx hb dX12_cake_217 (by decide) ?_
      refine lv_iload_n hx hb dX12_cake_219 rfl (lv_at hl 1 rfl) ?_
      refine lv_imul hx hb dX12_cake_220 ?_
      refine lv_iconst (v := 3) hx hb dX12_cake_221 (by decide) ?_
      refine lv_iadd hx hb dX12_cake_222 ?_
      refine lv_aload_n hx hb dX12_cake_223 rfl (lv_at hl 0 rfl) ?_
      refine ge_12_30 hx hb hts in_X12_cake_X12 hown hK hP k_172 (hts _ (List.mem_of_getElem? (i := 18) rfl)) dX12_cake_224 ?_
      refine lv_iload_n hx hb dX12_cake_227 rfl (lv_at hl 1 rfl) ?_
      obtain ⟨g13, h⟩ := gd_s h
      refine xl_14 hx hb hK hP k_188 l_188 (ix_in g13) dX12_cake_228 ?_
      obtain ⟨g14, h⟩ := gd_s h
      obtain ⟨z15, e_z15, h⟩ := nm_s h
      refine xs_14 hx hb hK hG hP hS k_197 l_197 (ix_in g14) dX12_cake_229 (fun H locs hP hS => ?_)
      rw [← e_z15] at hP
      refine lv_aload_n hx hb dX12_cake_230 rfl (lv_at hl 0 rfl) ?_
      refine ge_12_48 hx hb hts in_X12_cake_X12 hown hK hP k_172 (hts _ (List.mem_of_getElem? (i := 17) rfl)) dX12_cake_231 ?_
      refine lv_bipush (v := 7) hx hb dX12_cake_234 (by decide) ?_
      refine lv_iload_n hx hb dX12_cake_236 rfl (lv_at hl 1 rfl) ?_
      refine lv_imul hx hb dX12_cake_237 ?_
      refine lv_iconst (v := 4) hx hb dX12_cake_238 (by decide) ?_
      refine lv_iadd hx hb dX12_cake_239 ?_
      refine lv_aload_n hx hb dX12_cake_240 rfl (lv_at hl 0 rfl) ?_
      refine ge_12_31 hx hb hts in_X12_cake_X12 hown hK hP k_172 (hts _ (List.mem_of_getElem? (i := 20) rfl)) dX12_cake_241 ?_
      refine lv_iload_n hx hb dX12_cake_244 rfl (lv_at hl 1 rfl) ?_
      obtain ⟨g16, h⟩ := gd_s h
      refine xl_14 hx hb hK hP k_189 l_189 (ix_in g16) dX12_cake_245 ?_
      obtain ⟨g17, h⟩ := gd_s h
      obtain ⟨z18, e_z18, h⟩ := nm_s h
      refine xs_14 hx hb hK hG hP hS k_197 l_197 (ix_in g17) dX12_cake_246 (fun H locs hP hS => ?_)
      rw [← e_z18] at hP
      refine lv_aload_n hx hb dX12_cake_247 rfl (lv_at hl 0 rfl) ?_
      refine ge_12_48 hx hb hts in_X12_cake_X12 hown hK hP k_172 (hts _ (List.mem_of_getElem? (i := 17) rfl)) dX12_cake_248 ?_
      refine lv_bipush (v := 7) hx hb dX12_cake_251 (by decide) ?_
      refine lv_iload_n hx hb dX12_cake_253 rfl (lv_at hl 1 rfl) ?_
      refine lv_imul hx hb dX12_cake_254 ?_
      refine lv_bipush (v := 6) hx hb dX12_cake_255 (by decide) ?_
      refine lv_iadd hx hb dX12_cake_257 ?_
      refine lv_iconst (v := (-1)) hx hb dX12_cake_258 (by decide) ?_
      obtain ⟨g19, h⟩ := gd_s h
      obtain ⟨z20, e_z20, h⟩ := nm_s h
      refine xs_14 hx hb hK hG hP hS k_197 l_197 (ix_in g19) dX12_cake_259 (fun H locs hP hS => ?_)
      rw [← e_z20] at hP
      refine lv_iinc (v := (v1 + 1)) (lv' := [(1, .int (v1 + 1)), (0, .ref (G.2.2 172))]) hx hb dX12_cake_260 hl (k := 1) rfl rfl (by decide) rfl (fun ls hl => ?_)
      refine lv_goto (tgt := 159) hx hb dX12_cake_263 (by decide) ?_
      exact ih (v1 + 1) z20 _ _ _ hP hS (lv_sub hl [1, 0] rfl) h
def fn_X12_cake_137 : Nat → Int32 → St → Option (Int32 × St)
  | 0, _, _ => none
  | n + 1, v1, z => (if 171 ≤ v1 then fn_X12_cake_159   fu 0 z else gd (ix v1 171) (nm (sI z 197 (Int32.toNatClampNeg v1) 0) (fun z3 => fn_X12_cake_137   n (v1 + 1) z3)))
set_option maxHeartbeats 4000000 in
set_option maxRecDepth 100000 in
theorem pf_X12_cake_137 {p : Program} {l : Launch} {e : Env} {s : State} {m : MethodId} {args : Array Value} {below : List Frame} {meth : Method} {c : Code} {G : wG} (C : CX p s m args meth c cX12_cake 3 wsX12_cake RX12 (some .int) G) {Rz : Int32 × St} : ∀ (n : Nat) (v1 : Int32) (z : St)  (H : Heap) (locs : List Loc) (ls : Array Slot), WP G z H → va_S (AW G) s.heap H locs → lv_has ls 3 [(0, .ref (G.2.2 172)), (1, .int v1)] → fn_X12_cake_137   n v1 z = some Rz → W p l e (rmd 9) s m args below meth c H locs 0 0 (QI below args s G Rz) (F0 m 137 ls []) := by
  obtain ⟨hx, hb, hml, hown, hts, hr, hlocks, hK, hG⟩ := id C
  intro n
  induction n with
  | zero => intro v1 z  H locs ls hP hS hl h; cases h
  | succ n ih =>
    intro v1 z  H locs ls hP hS hl h
    rw [fn_X12_cake_137] at h
    refine lv_iload_n hx hb dX12_cake_137 rfl (lv_at hl 1 rfl) ?_
    refine lv_sipush (v := 171) hx hb dX12_cake_138 (by decide) ?_
    refine lv_icmp_ge (tgt := 157) hx hb dX12_cake_141 (by decide) (fun c1 => ?_) (fun c1 => ?_)
    · rw [if_pos c1] at h
      refine lv_iconst (v := 0) hx hb dX12_cake_157 (by decide) ?_
      refine lv_istore_n (lv' := [(1, .int 0), (0, .ref (G.2.2 172))]) hx hb dX12_cake_158 rfl hl (by decide) rfl (fun ls hl => ?_)
      exact pf_X12_cake_159 C   fu 0 z  _ _ _ hP hS (lv_sub hl [1, 0] rfl) h
    · rw [if_neg c1] at h
      refine lv_aload_n hx hb dX12_cake_144 rfl (lv_at hl 0 rfl) ?_
      refine ge_12_48 hx hb hts in_X12_cake_X12 hown hK hP k_172 (hts _ (List.mem_of_getElem? (i := 17) rfl)) dX12_cake_145 ?_
      refine lv_iload_n hx hb dX12_cake_148 rfl (lv_at hl 1 rfl) ?_
      refine lv_iconst (v := 0) hx hb dX12_cake_149 (by decide) ?_
      obtain ⟨g2, h⟩ := gd_s h
      obtain ⟨z3, e_z3, h⟩ := nm_s h
      refine xs_14 hx hb hK hG hP hS k_197 l_197 (ix_in g2) dX12_cake_150 (fun H locs hP hS => ?_)
      rw [← e_z3] at hP
      refine lv_iinc (v := (v1 + 1)) (lv' := [(1, .int (v1 + 1)), (0, .ref (G.2.2 172))]) hx hb dX12_cake_151 hl (k := 1) rfl rfl (by decide) rfl (fun ls hl => ?_)
      refine lv_goto (tgt := 137) hx hb dX12_cake_154 (by decide) ?_
      exact ih (v1 + 1) z3 _ _ _ hP hS (lv_sub hl [1, 0] rfl) h
def fn_X12_cake_47 : Nat → Int32 → St → Option (Int32 × St)
  | 0, _, _ => none
  | n + 1, v1, z => (if 2 ≤ v1 then fn_X12_cake_137   fu 0 z else gd (ix v1 2) ((if (z.1 183 (Int32.toNatClampNeg v1)) = 0 then fn_X12_cake_76  (fn_X12_cake_47   n) v1 180 v1 0 z else gd (ix v1 2) (fn_X12_cake_76  (fn_X12_cake_47   n) v1 180 v1 (z.1 177 (Int32.toNatClampNeg v1)) z))))
set_option maxHeartbeats 4000000 in
set_option maxRecDepth 100000 in
theorem pf_X12_cake_47 {p : Program} {l : Launch} {e : Env} {s : State} {m : MethodId} {args : Array Value} {below : List Frame} {meth : Method} {c : Code} {G : wG} (C : CX p s m args meth c cX12_cake 3 wsX12_cake RX12 (some .int) G) {Rz : Int32 × St} : ∀ (n : Nat) (v1 : Int32) (z : St)  (H : Heap) (locs : List Loc) (ls : Array Slot), WP G z H → va_S (AW G) s.heap H locs → lv_has ls 3 [(0, .ref (G.2.2 172)), (1, .int v1)] → fn_X12_cake_47   n v1 z = some Rz → W p l e (rmd 9) s m args below meth c H locs 0 0 (QI below args s G Rz) (F0 m 47 ls []) := by
  obtain ⟨hx, hb, hml, hown, hts, hr, hlocks, hK, hG⟩ := id C
  intro n
  induction n with
  | zero => intro v1 z  H locs ls hP hS hl h; cases h
  | succ n ih =>
    intro v1 z  H locs ls hP hS hl h
    rw [fn_X12_cake_47] at h
    refine lv_iload_n hx hb dX12_cake_47 rfl (lv_at hl 1 rfl) ?_
    refine lv_iconst (v := 2) hx hb dX12_cake_48 (by decide) ?_
    refine lv_icmp_ge (tgt := 135) hx hb dX12_cake_49 (by decide) (fun c1 => ?_) (fun c1 => ?_)
    · rw [if_pos c1] at h
      refine lv_iconst (v := 0) hx hb dX12_cake_135 (by decide) ?_
      refine lv_istore_n (lv' := [(1, .int 0), (0, .ref (G.2.2 172))]) hx hb dX12_cake_136 rfl hl (by decide) rfl (fun ls hl => ?_)
      exact pf_X12_cake_137 C   fu 0 z  _ _ _ hP hS (lv_sub hl [1, 0] rfl) h
    · rw [if_neg c1] at h
      refine lv_aload_n hx hb dX12_cake_52 rfl (lv_at hl 0 rfl) ?_
      refine ge_12_16 hx hb hts in_X12_cake_X12 hown hK hP k_172 (hts _ (List.mem_of_getElem? (i := 10) rfl)) dX12_cake_53 ?_
      refine lv_iload_n hx hb dX12_cake_56 rfl (lv_at hl 1 rfl) ?_
      refine lv_aload_n hx hb dX12_cake_57 rfl (lv_at hl 0 rfl) ?_
      refine ge_12_19 hx hb hts in_X12_cake_X12 hown hK hP k_172 (hts _ (List.mem_of_getElem? (i := 11) rfl)) dX12_cake_58 ?_
      refine lv_iload_n hx hb dX12_cake_61 rfl (lv_at hl 1 rfl) ?_
      obtain ⟨g2, h⟩ := gd_s h
      refine xl_16 hx hb hK hP k_183 l_183 (ix_in g2) dX12_cake_62 ?_
      refine lv_if_eq (tgt := 75) hx hb dX12_cake_63 (by decide) (fun c3 => ?_) (fun c3 => ?_)
      · rw [if_pos c3] at h
        refine lv_iconst (v := 0) hx hb dX12_cake_75 (by decide) ?_
        exact pf_X12_cake_76 C  ih v1 180 v1 0 z k_180 hP hS (lv_sub hl [0, 1] rfl) h
      · rw [if_neg c3] at h
        refine lv_aload_n hx hb dX12_cake_66 rfl (lv_at hl 0 rfl) ?_
        refine ge_12_13 hx hb hts in_X12_cake_X12 hown hK hP k_172 (hts _ (List.mem_of_getElem? (i := 12) rfl)) dX12_cake_67 ?_
        refine lv_iload_n hx hb dX12_cake_70 rfl (lv_at hl 1 rfl) ?_
        obtain ⟨g4, h⟩ := gd_s h
        refine xl_14 hx hb hK hP k_177 l_177 (ix_in g4) dX12_cake_71 ?_
        refine lv_goto (tgt := 76) hx hb dX12_cake_72 (by decide) ?_
        exact pf_X12_cake_76 C  ih v1 180 v1 (z.1 177 (Int32.toNatClampNeg v1)) z k_180 hP hS (lv_sub hl [0, 1] rfl) h
def fn_X12_cake  (z : St) : Option (Int32 × St) := bv (fn_X12_readAll   z) (fun z2 => (if (z2.1 172 2) ≤ 0 then nm (sI z2 172 43 (z2.1 172 39)) (fun z4 => nm (sI z4 172 44 (z4.1 172 40)) (fun z5 => nm (sI z5 172 45 (z5.1 172 41)) (fun z6 => nm (sI z6 172 23 (z6.1 172 22)) (fun z7 => fn_X12_cake_47   fu 0 z7)))) else some ((-1), z2)))
set_option maxHeartbeats 4000000 in
set_option maxRecDepth 100000 in
theorem m_X12_cake {l : Launch} {G : wG} (hG : Ok G)  {z : St} {Rz : Int32 × St}  (h : fn_X12_cake   z = some Rz) : Met l yX12_cake wsX12_cake (rmd 9) (va_Pc [.ref (G.2.2 172)] (Pre G z)) (va_Qi (fun r u => (r, u) = Rz) (Pre G) (AW G)) 0 0 (AW G) := by
  refine Met.ofW (cc := cX12_cake) (maxL := 3) (ret := (some .int)) (by decide) rfl ?_
  intro p e s m args below meth c s₁ B hml hv
  obtain ⟨rfl, hP, hK⟩ := hv
  have C : CX p s m ([.ref (G.2.2 172)] : List Value).toArray meth c cX12_cake 3 wsX12_cake RX12 (some .int) G := ⟨B.exec, B.bytes, hml, findClass_of_methodNamed B.named, atoms_spec (ws := wsX12_cake) B.pre, B.returns, B.notSynchronized, hK, hG⟩
  obtain ⟨hx, hb, -, hown, hts, hr, hlocks, -, -⟩ := id C
  have hS : va_S (AW G) s.heap s.heap [] := va_S.rf
  have hl := lv_entry [.ref (G.2.2 172)] (n := 3) (Nat.le_of_ble_eq_true rfl)
  rw [lg_entry_eq]
  generalize (lg_sl [.ref (G.2.2 172)] ++ List.replicate (3 - (lg_sl [.ref (G.2.2 172)]).length) Slot.unset).toArray = ls at hl ⊢
  have hl : lv_has ls 3 [(0, .ref (G.2.2 172))] := hl
  unfold fn_X12_cake at h
  refine lv_aload_n hx hb dX12_cake_0 rfl (lv_at hl 0 rfl) ?_
  obtain ⟨z2, h1, h⟩ := bv_s h
  refine x_Vv (Rz := z2) (As := []) (rest := []) ⟨hx, hb, hml, hown, hts⟩ hK hP hS (kd_lt k_172 (by decide)) (cell_12 k_172) rfl (m_X12_readAll hG   h1) (cwV 0 hts gX12_cake_X12_readAll rfl rfl rfl (by decide +kernel) (rmd_ok (by decide) (by decide))) rfl hl.1 rfl (Nat.le_of_ble_eq_true rfl) dX12_cake_1 ⟨Nat.le_refl _, Nat.le_refl _⟩ (fun H locs hP hS => ?_)
  refine lv_aload_n hx hb dX12_cake_4 rfl (lv_at hl 0 rfl) ?_
  refine ge_12_2 hx hb hts in_X12_cake_X12 hown hK hP k_172 (hts _ (List.mem_of_getElem? (i := 1) rfl)) dX12_cake_5 ?_
  refine lv_if_le (tgt := 13) hx hb dX12_cake_8 (by decide) (fun c3 => ?_) (fun c3 => ?_)
  · rw [if_pos c3] at h
    refine lv_aload_n hx hb dX12_cake_13 rfl (lv_at hl 0 rfl) ?_
    refine lv_aload_n hx hb dX12_cake_14 rfl (lv_at hl 0 rfl) ?_
    refine ge_12_39 hx hb hts in_X12_cake_X12 hown hK hP k_172 (hts _ (List.mem_of_getElem? (i := 2) rfl)) dX12_cake_15 ?_
    obtain ⟨z4, e_z4, h⟩ := nm_s h
    refine pu_12_43 hx hb hts in_X12_cake_X12 hown hK hG hP hS k_172 (hts _ (List.mem_of_getElem? (i := 3) rfl)) dX12_cake_18 (fun H locs hP hS => ?_)
    rw [← e_z4] at hP
    refine lv_aload_n hx hb dX12_cake_21 rfl (lv_at hl 0 rfl) ?_
    refine lv_aload_n hx hb dX12_cake_22 rfl (lv_at hl 0 rfl) ?_
    refine ge_12_40 hx hb hts in_X12_cake_X12 hown hK hP k_172 (hts _ (List.mem_of_getElem? (i := 4) rfl)) dX12_cake_23 ?_
    obtain ⟨z5, e_z5, h⟩ := nm_s h
    refine pu_12_44 hx hb hts in_X12_cake_X12 hown hK hG hP hS k_172 (hts _ (List.mem_of_getElem? (i := 5) rfl)) dX12_cake_26 (fun H locs hP hS => ?_)
    rw [← e_z5] at hP
    refine lv_aload_n hx hb dX12_cake_29 rfl (lv_at hl 0 rfl) ?_
    refine lv_aload_n hx hb dX12_cake_30 rfl (lv_at hl 0 rfl) ?_
    refine ge_12_41 hx hb hts in_X12_cake_X12 hown hK hP k_172 (hts _ (List.mem_of_getElem? (i := 6) rfl)) dX12_cake_31 ?_
    obtain ⟨z6, e_z6, h⟩ := nm_s h
    refine pu_12_45 hx hb hts in_X12_cake_X12 hown hK hG hP hS k_172 (hts _ (List.mem_of_getElem? (i := 7) rfl)) dX12_cake_34 (fun H locs hP hS => ?_)
    rw [← e_z6] at hP
    refine lv_aload_n hx hb dX12_cake_37 rfl (lv_at hl 0 rfl) ?_
    refine lv_aload_n hx hb dX12_cake_38 rfl (lv_at hl 0 rfl) ?_
    refine ge_12_22 hx hb hts in_X12_cake_X12 hown hK hP k_172 (hts _ (List.mem_of_getElem? (i := 8) rfl)) dX12_cake_39 ?_
    obtain ⟨z7, e_z7, h⟩ := nm_s h
    refine pu_12_23 hx hb hts in_X12_cake_X12 hown hK hG hP hS k_172 (hts _ (List.mem_of_getElem? (i := 9) rfl)) dX12_cake_42 (fun H locs hP hS => ?_)
    rw [← e_z7] at hP
    refine lv_iconst (v := 0) hx hb dX12_cake_45 (by decide) ?_
    refine lv_istore_n (lv' := [(1, .int 0), (0, .ref (G.2.2 172))]) hx hb dX12_cake_46 rfl hl (by decide) rfl (fun ls hl => ?_)
    exact pf_X12_cake_47 C   fu 0 z7  _ _ _ hP hS (lv_sub hl [1, 0] rfl) h
  · rw [if_neg c3] at h
    refine lv_iconst (v := (-1)) hx hb dX12_cake_11 (by decide) ?_
    exact x_iret hx hb hr hlocks hK hP hS h dX12_cake_12
theorem in_X12_fault_X12 : ∀ w ∈ wsX120, w ∈ wsX12_fault := fun _ h => (List.mem_cons_of_mem _ (List.mem_append_right _ h))
def fn_X12_fault (v1 : Int32) (z : St) : Option (Int32 × St) := (if v1 = 0 then some ((z.1 172 2), z) else (if v1 = 1 then some ((z.1 172 3), z) else some ((-1), z)))
set_option maxHeartbeats 4000000 in
set_option maxRecDepth 100000 in
theorem m_X12_fault {l : Launch} {G : wG} (hG : Ok G) {v1 : Int32} {z : St} {Rz : Int32 × St}  (h : fn_X12_fault  v1 z = some Rz) : Met l yX12_fault wsX12_fault (rmd 1) (va_Pc [.ref (G.2.2 172), .int v1] (Pre G z)) (va_Qi (fun r u => (r, u) = Rz) (Pre G) (AW G)) 0 0 (AW G) := by
  refine Met.ofW (cc := cX12_fault) (maxL := 2) (ret := (some .int)) (by decide) rfl ?_
  intro p e s m args below meth c s₁ B hml hv
  obtain ⟨rfl, hP, hK⟩ := hv
  have C : CX p s m ([.ref (G.2.2 172), .int v1] : List Value).toArray meth c cX12_fault 2 wsX12_fault RX12 (some .int) G := ⟨B.exec, B.bytes, hml, findClass_of_methodNamed B.named, atoms_spec (ws := wsX12_fault) B.pre, B.returns, B.notSynchronized, hK, hG⟩
  obtain ⟨hx, hb, -, hown, hts, hr, hlocks, -, -⟩ := id C
  have hS : va_S (AW G) s.heap s.heap [] := va_S.rf
  have hl := lv_entry [.ref (G.2.2 172), .int v1] (n := 2) (Nat.le_of_ble_eq_true rfl)
  rw [lg_entry_eq]
  generalize (lg_sl [.ref (G.2.2 172), .int v1] ++ List.replicate (2 - (lg_sl [.ref (G.2.2 172), .int v1]).length) Slot.unset).toArray = ls at hl ⊢
  have hl : lv_has ls 2 [(0, .ref (G.2.2 172)), (1, .int v1)] := hl
  unfold fn_X12_fault at h
  refine lv_iload_n hx hb dX12_fault_0 rfl (lv_at hl 1 rfl) ?_
  refine lv_if_ne (tgt := 11) hx hb dX12_fault_1 (by decide) (fun c1 => ?_) (fun c1 => ?_)
  · rw [if_neg c1] at h
    refine lv_iload_n hx hb dX12_fault_11 rfl (lv_at hl 1 rfl) ?_
    refine lv_iconst (v := 1) hx hb dX12_fault_12 (by decide) ?_
    refine lv_icmp_ne (tgt := 23) hx hb dX12_fault_13 (by decide) (fun c2 => ?_) (fun c2 => ?_)
    · rw [if_neg c2] at h
      refine lv_iconst (v := (-1)) hx hb dX12_fault_23 (by decide) ?_
      exact x_iret hx hb hr hlocks hK hP hS h dX12_fault_24
    · rw [if_pos c2] at h
      refine lv_aload_n hx hb dX12_fault_16 rfl (lv_at hl 0 rfl) ?_
      refine ge_12_3 hx hb hts in_X12_fault_X12 hown hK hP k_172 (hts _ (List.mem_of_getElem? (i := 2) rfl)) dX12_fault_17 ?_
      refine lv_goto (tgt := 24) hx hb dX12_fault_20 (by decide) ?_
      exact x_iret hx hb hr hlocks hK hP hS h dX12_fault_24
  · rw [if_pos c1] at h
    refine lv_aload_n hx hb dX12_fault_4 rfl (lv_at hl 0 rfl) ?_
    refine ge_12_2 hx hb hts in_X12_fault_X12 hown hK hP k_172 (hts _ (List.mem_of_getElem? (i := 1) rfl)) dX12_fault_5 ?_
    refine lv_goto (tgt := 24) hx hb dX12_fault_8 (by decide) ?_
    exact x_iret hx hb hr hlocks hK hP hS h dX12_fault_24
def fn_X12_isIn (v0 : Int32) (v1 : Int32) (v2 : Int32) (z : St) : Option (Int32 × St) := (if v0 < v1 then some (0, z) else (if v2 < v0 then some (0, z) else some (1, z)))
set_option maxHeartbeats 4000000 in
set_option maxRecDepth 100000 in
theorem m_X12_isIn {l : Launch} {G : wG} (hG : Ok G) {v0 : Int32} {v1 : Int32} {v2 : Int32} {z : St} {Rz : Int32 × St}  (h : fn_X12_isIn  v0 v1 v2 z = some Rz) : Met l yX12_isIn wsX12_isIn (rmd 1) (va_Pc [.int v0, .int v1, .int v2] (Pre G z)) (va_Qi (fun r u => (r, u) = Rz) (Pre G) (AW G)) 0 0 (AW G) := by
  refine Met.ofW (cc := cX12_isIn) (maxL := 3) (ret := (some .boolean)) (by decide) rfl ?_
  intro p e s m args below meth c s₁ B hml hv
  obtain ⟨rfl, hP, hK⟩ := hv
  have C : CX p s m ([.int v0, .int v1, .int v2] : List Value).toArray meth c cX12_isIn 3 wsX12_isIn RX12 (some .boolean) G := ⟨B.exec, B.bytes, hml, findClass_of_methodNamed B.named, atoms_spec (ws := wsX12_isIn) B.pre, B.returns, B.notSynchronized, hK, hG⟩
  obtain ⟨hx, hb, -, hown, hts, hr, hlocks, -, -⟩ := id C
  have hS : va_S (AW G) s.heap s.heap [] := va_S.rf
  have hl := lv_entry [.int v0, .int v1, .int v2] (n := 3) (Nat.le_of_ble_eq_true rfl)
  rw [lg_entry_eq]
  generalize (lg_sl [.int v0, .int v1, .int v2] ++ List.replicate (3 - (lg_sl [.int v0, .int v1, .int v2]).length) Slot.unset).toArray = ls at hl ⊢
  have hl : lv_has ls 3 [(0, .int v0), (1, .int v1), (2, .int v2)] := hl
  unfold fn_X12_isIn at h
  refine lv_iload_n hx hb dX12_isIn_0 rfl (lv_at hl 0 rfl) ?_
  refine lv_iload_n hx hb dX12_isIn_1 rfl (lv_at hl 1 rfl) ?_
  refine lv_icmp_lt (tgt := 14) hx hb dX12_isIn_2 (by decide) (fun c1 => ?_) (fun c1 => ?_)
  · rw [if_pos c1] at h
    refine lv_iconst (v := 0) hx hb dX12_isIn_14 (by decide) ?_
    exact x_zret hx hb hr hlocks hK hP hS rfl h dX12_isIn_15
  · rw [if_neg c1] at h
    refine lv_iload_n hx hb dX12_isIn_5 rfl (lv_at hl 0 rfl) ?_
    refine lv_iload_n hx hb dX12_isIn_6 rfl (lv_at hl 2 rfl) ?_
    refine lv_icmp_gt (tgt := 14) hx hb dX12_isIn_7 (by decide) (fun c2 => ?_) (fun c2 => ?_)
    · rw [if_pos c2] at h
      refine lv_iconst (v := 0) hx hb dX12_isIn_14 (by decide) ?_
      exact x_zret hx hb hr hlocks hK hP hS rfl h dX12_isIn_15
    · rw [if_neg c2] at h
      refine lv_iconst (v := 1) hx hb dX12_isIn_10 (by decide) ?_
      refine lv_goto (tgt := 15) hx hb dX12_isIn_11 (by decide) ?_
      exact x_zret hx hb hr hlocks hK hP hS rfl h dX12_isIn_15
theorem in_X12_isTier_X12 : ∀ w ∈ wsX120, w ∈ wsX12_isTier := fun _ h => (List.mem_cons_of_mem _ (List.mem_append_right _ h))
def fn_X12_isTier (v1 : Int32) (z : St) : Option (Int32 × St) := bd (fn_X12_isIn  v1 0 ((z.1 172 43) - 1) z) (fun r2 z3 => gd (zok r2) (some (r2, z3)))
set_option maxHeartbeats 4000000 in
set_option maxRecDepth 100000 in
theorem m_X12_isTier {l : Launch} {G : wG} (hG : Ok G) {v1 : Int32} {z : St} {Rz : Int32 × St}  (h : fn_X12_isTier  v1 z = some Rz) : Met l yX12_isTier wsX12_isTier (rmd 2) (va_Pc [.ref (G.2.2 172), .int v1] (Pre G z)) (va_Qi (fun r u => (r, u) = Rz) (Pre G) (AW G)) 0 0 (AW G) := by
  refine Met.ofW (cc := cX12_isTier) (maxL := 2) (ret := (some .boolean)) (by decide) rfl ?_
  intro p e s m args below meth c s₁ B hml hv
  obtain ⟨rfl, hP, hK⟩ := hv
  have C : CX p s m ([.ref (G.2.2 172), .int v1] : List Value).toArray meth c cX12_isTier 2 wsX12_isTier RX12 (some .boolean) G := ⟨B.exec, B.bytes, hml, findClass_of_methodNamed B.named, atoms_spec (ws := wsX12_isTier) B.pre, B.returns, B.notSynchronized, hK, hG⟩
  obtain ⟨hx, hb, -, hown, hts, hr, hlocks, -, -⟩ := id C
  have hS : va_S (AW G) s.heap s.heap [] := va_S.rf
  have hl := lv_entry [.ref (G.2.2 172), .int v1] (n := 2) (Nat.le_of_ble_eq_true rfl)
  rw [lg_entry_eq]
  generalize (lg_sl [.ref (G.2.2 172), .int v1] ++ List.replicate (2 - (lg_sl [.ref (G.2.2 172), .int v1]).length) Slot.unset).toArray = ls at hl ⊢
  have hl : lv_has ls 2 [(0, .ref (G.2.2 172)), (1, .int v1)] := hl
  unfold fn_X12_isTier at h
  refine lv_iload_n hx hb dX12_isTier_0 rfl (lv_at hl 1 rfl) ?_
  refine lv_iconst (v := 0) hx hb dX12_isTier_1 (by decide) ?_
  refine lv_aload_n hx hb dX12_isTier_2 rfl (lv_at hl 0 rfl) ?_
  refine ge_12_43 hx hb hts in_X12_isTier_X12 hown hK hP k_172 (hts _ (List.mem_of_getElem? (i := 1) rfl)) dX12_isTier_3 ?_
  refine lv_iconst (v := 1) hx hb dX12_isTier_6 (by decide) ?_
  refine lv_isub hx hb dX12_isTier_7 ?_
  obtain ⟨r2, z3, h1, h⟩ := bd_s h
  refine x_Si (Rz := (r2, z3)) (As := [.int v1, .int 0, .int ((z.1 172 43) - 1)]) (rest := []) ⟨hx, hb, hml, hown, hts⟩ hK hP hS (m_X12_isIn hG   h1) (va_cwS 3 hts gX12_isTier_X12_isIn rfl rfl rfl (by decide +kernel) (rmd_ok (by decide) (by decide))) rfl hl.1 rfl (Nat.le_of_ble_eq_true rfl) dX12_isTier_8 ⟨Nat.le_refl _, Nat.le_refl _⟩ (fun H locs hP hS => ?_)
  obtain ⟨g4, h⟩ := gd_s h
  exact x_zret hx hb hr hlocks hK hP hS g4 h dX12_isTier_11
theorem in_X12_isGuest_X12 : ∀ w ∈ wsX120, w ∈ wsX12_isGuest := fun _ h => (List.mem_cons_of_mem _ (List.mem_append_right _ h))
def fn_X12_isGuest (v1 : Int32) (z : St) : Option (Int32 × St) := bd (fn_X12_isIn  v1 0 ((z.1 172 44) - 1) z) (fun r2 z3 => gd (zok r2) (some (r2, z3)))
set_option maxHeartbeats 4000000 in
set_option maxRecDepth 100000 in
theorem m_X12_isGuest {l : Launch} {G : wG} (hG : Ok G) {v1 : Int32} {z : St} {Rz : Int32 × St}  (h : fn_X12_isGuest  v1 z = some Rz) : Met l yX12_isGuest wsX12_isGuest (rmd 2) (va_Pc [.ref (G.2.2 172), .int v1] (Pre G z)) (va_Qi (fun r u => (r, u) = Rz) (Pre G) (AW G)) 0 0 (AW G) := by
  refine Met.ofW (cc := cX12_isGuest) (maxL := 2) (ret := (some .boolean)) (by decide) rfl ?_
  intro p e s m args below meth c s₁ B hml hv
  obtain ⟨rfl, hP, hK⟩ := hv
  have C : CX p s m ([.ref (G.2.2 172), .int v1] : List Value).toArray meth c cX12_isGuest 2 wsX12_isGuest RX12 (some .boolean) G := ⟨B.exec, B.bytes, hml, findClass_of_methodNamed B.named, atoms_spec (ws := wsX12_isGuest) B.pre, B.returns, B.notSynchronized, hK, hG⟩
  obtain ⟨hx, hb, -, hown, hts, hr, hlocks, -, -⟩ := id C
  have hS : va_S (AW G) s.heap s.heap [] := va_S.rf
  have hl := lv_entry [.ref (G.2.2 172), .int v1] (n := 2) (Nat.le_of_ble_eq_true rfl)
  rw [lg_entry_eq]
  generalize (lg_sl [.ref (G.2.2 172), .int v1] ++ List.replicate (2 - (lg_sl [.ref (G.2.2 172), .int v1]).length) Slot.unset).toArray = ls at hl ⊢
  have hl : lv_has ls 2 [(0, .ref (G.2.2 172)), (1, .int v1)] := hl
  unfold fn_X12_isGuest at h
  refine lv_iload_n hx hb dX12_isGuest_0 rfl (lv_at hl 1 rfl) ?_
  refine lv_iconst (v := 0) hx hb dX12_isGuest_1 (by decide) ?_
  refine lv_aload_n hx hb dX12_isGuest_2 rfl (lv_at hl 0 rfl) ?_
  refine ge_12_44 hx hb hts in_X12_isGuest_X12 hown hK hP k_172 (hts _ (List.mem_of_getElem? (i := 1) rfl)) dX12_isGuest_3 ?_
  refine lv_iconst (v := 1) hx hb dX12_isGuest_6 (by decide) ?_
  refine lv_isub hx hb dX12_isGuest_7 ?_
  obtain ⟨r2, z3, h1, h⟩ := bd_s h
  refine x_Si (Rz := (r2, z3)) (As := [.int v1, .int 0, .int ((z.1 172 44) - 1)]) (rest := []) ⟨hx, hb, hml, hown, hts⟩ hK hP hS (m_X12_isIn hG   h1) (va_cwS 3 hts gX12_isGuest_X12_isIn rfl rfl rfl (by decide +kernel) (rmd_ok (by decide) (by decide))) rfl hl.1 rfl (Nat.le_of_ble_eq_true rfl) dX12_isGuest_8 ⟨Nat.le_refl _, Nat.le_refl _⟩ (fun H locs hP hS => ?_)
  obtain ⟨g4, h⟩ := gd_s h
  exact x_zret hx hb hr hlocks hK hP hS g4 h dX12_isGuest_11
theorem in_X12_isPiece_X12 : ∀ w ∈ wsX120, w ∈ wsX12_isPiece := fun _ h => (List.mem_cons_of_mem _ (List.mem_append_right _ h))
def fn_X12_isPiece (v1 : Int32) (z : St) : Option (Int32 × St) := bd (fn_X12_isIn  v1 0 ((z.1 197 (Int32.toNatClampNeg 168)) - 1) z) (fun r2 z3 => gd (zok r2) (some (r2, z3)))
set_option maxHeartbeats 4000000 in
set_option maxRecDepth 100000 in
theorem m_X12_isPiece {l : Launch} {G : wG} (hG : Ok G) {v1 : Int32} {z : St} {Rz : Int32 × St}  (h : fn_X12_isPiece  v1 z = some Rz) : Met l yX12_isPiece wsX12_isPiece (rmd 2) (va_Pc [.ref (G.2.2 172), .int v1] (Pre G z)) (va_Qi (fun r u => (r, u) = Rz) (Pre G) (AW G)) 0 0 (AW G) := by
  refine Met.ofW (cc := cX12_isPiece) (maxL := 2) (ret := (some .boolean)) (by decide) rfl ?_
  intro p e s m args below meth c s₁ B hml hv
  obtain ⟨rfl, hP, hK⟩ := hv
  have C : CX p s m ([.ref (G.2.2 172), .int v1] : List Value).toArray meth c cX12_isPiece 2 wsX12_isPiece RX12 (some .boolean) G := ⟨B.exec, B.bytes, hml, findClass_of_methodNamed B.named, atoms_spec (ws := wsX12_isPiece) B.pre, B.returns, B.notSynchronized, hK, hG⟩
  obtain ⟨hx, hb, -, hown, hts, hr, hlocks, -, -⟩ := id C
  have hS : va_S (AW G) s.heap s.heap [] := va_S.rf
  have hl := lv_entry [.ref (G.2.2 172), .int v1] (n := 2) (Nat.le_of_ble_eq_true rfl)
  rw [lg_entry_eq]
  generalize (lg_sl [.ref (G.2.2 172), .int v1] ++ List.replicate (2 - (lg_sl [.ref (G.2.2 172), .int v1]).length) Slot.unset).toArray = ls at hl ⊢
  have hl : lv_has ls 2 [(0, .ref (G.2.2 172)), (1, .int v1)] := hl
  unfold fn_X12_isPiece at h
  refine lv_iload_n hx hb dX12_isPiece_0 rfl (lv_at hl 1 rfl) ?_
  refine lv_iconst (v := 0) hx hb dX12_isPiece_1 (by decide) ?_
  refine lv_aload_n hx hb dX12_isPiece_2 rfl (lv_at hl 0 rfl) ?_
  refine ge_12_48 hx hb hts in_X12_isPiece_X12 hown hK hP k_172 (hts _ (List.mem_of_getElem? (i := 1) rfl)) dX12_isPiece_3 ?_
  refine lv_sipush (v := 168) hx hb dX12_isPiece_6 (by decide) ?_
  refine xl_14 hx hb hK hP k_197 l_197 (ix_in (by decide)) dX12_isPiece_9 ?_
  refine lv_iconst (v := 1) hx hb dX12_isPiece_10 (by decide) ?_
  refine lv_isub hx hb dX12_isPiece_11 ?_
  obtain ⟨r2, z3, h1, h⟩ := bd_s h
  refine x_Si (Rz := (r2, z3)) (As := [.int v1, .int 0, .int ((z.1 197 (Int32.toNatClampNeg 168)) - 1)]) (rest := []) ⟨hx, hb, hml, hown, hts⟩ hK hP hS (m_X12_isIn hG   h1) (va_cwS 3 hts gX12_isPiece_X12_isIn rfl rfl rfl (by decide +kernel) (rmd_ok (by decide) (by decide))) rfl hl.1 rfl (Nat.le_of_ble_eq_true rfl) dX12_isPiece_12 ⟨Nat.le_refl _, Nat.le_refl _⟩ (fun H locs hP hS => ?_)
  obtain ⟨g4, h⟩ := gd_s h
  exact x_zret hx hb hr hlocks hK hP hS g4 h dX12_isPiece_15
theorem in_X12_load_X12 : ∀ w ∈ wsX120, w ∈ wsX12_load := fun _ h => (List.mem_cons_of_mem _ (List.mem_append_right _ h))
def fn_X12_load_2 : Nat → Int32 → St → Option (St)
  | 0, _, _ => none
  | n + 1, v1, z => (if 171 ≤ v1 then some z else gd (ix v1 171) (gd (ix v1 171) (nm (sI z 198 (Int32.toNatClampNeg v1) (z.1 197 (Int32.toNatClampNeg v1))) (fun z4 => fn_X12_load_2   n (v1 + 1) z4))))
set_option maxHeartbeats 4000000 in
set_option maxRecDepth 100000 in
theorem pf_X12_load_2 {p : Program} {l : Launch} {e : Env} {s : State} {m : MethodId} {args : Array Value} {below : List Frame} {meth : Method} {c : Code} {G : wG} (C : CX p s m args meth c cX12_load 2 wsX12_load RX12 none G) {Rz : St} : ∀ (n : Nat) (v1 : Int32) (z : St)  (H : Heap) (locs : List Loc) (ls : Array Slot), WP G z H → va_S (AW G) s.heap H locs → lv_has ls 2 [(0, .ref (G.2.2 172)), (1, .int v1)] → fn_X12_load_2   n v1 z = some Rz → W p l e (rmd 1) s m args below meth c H locs 0 0 (QV below args s G Rz) (F0 m 2 ls []) := by
  obtain ⟨hx, hb, hml, hown, hts, hr, hlocks, hK, hG⟩ := id C
  intro n
  induction n with
  | zero => intro v1 z  H locs ls hP hS hl h; cases h
  | succ n ih =>
    intro v1 z  H locs ls hP hS hl h
    rw [fn_X12_load_2] at h
    refine lv_iload_n hx hb dX12_load_2 rfl (lv_at hl 1 rfl) ?_
    refine lv_sipush (v := 171) hx hb dX12_load_3 (by decide) ?_
    refine lv_icmp_ge (tgt := 27) hx hb dX12_load_6 (by decide) (fun c1 => ?_) (fun c1 => ?_)
    · rw [if_pos c1] at h
      exact x_vret hx hb hr hlocks hK hP hS h dX12_load_27
    · rw [if_neg c1] at h
      refine lv_aload_n hx hb dX12_load_9 rfl (lv_at hl 0 rfl) ?_
      refine ge_12_49 hx hb hts in_X12_load_X12 hown hK hP k_172 (hts _ (List.mem_of_getElem? (i := 1) rfl)) dX12_load_10 ?_
      refine lv_iload_n hx hb dX12_load_13 rfl (lv_at hl 1 rfl) ?_
      refine lv_aload_n hx hb dX12_load_14 rfl (lv_at hl 0 rfl) ?_
      refine ge_12_48 hx hb hts in_X12_load_X12 hown hK hP k_172 (hts _ (List.mem_of_getElem? (i := 2) rfl)) dX12_load_15 ?_
      refine lv_iload_n hx hb dX12_load_18 rfl (lv_at hl 1 rfl) ?_
      obtain ⟨g2, h⟩ := gd_s h
      refine xl_14 hx hb hK hP k_197 l_197 (ix_in g2) dX12_load_19 ?_
      obtain ⟨g3, h⟩ := gd_s h
      obtain ⟨z4, e_z4, h⟩ := nm_s h
      refine xs_14 hx hb hK hG hP hS k_198 l_198 (ix_in g3) dX12_load_20 (fun H locs hP hS => ?_)
      rw [← e_z4] at hP
      refine lv_iinc (v := (v1 + 1)) (lv' := [(1, .int (v1 + 1)), (0, .ref (G.2.2 172))]) hx hb dX12_load_21 hl (k := 1) rfl rfl (by decide) rfl (fun ls hl => ?_)
      refine lv_goto (tgt := 2) hx hb dX12_load_24 (by decide) ?_
      exact ih (v1 + 1) z4 _ _ _ hP hS (lv_sub hl [1, 0] rfl) h
def fn_X12_load  (z : St) : Option (St) := fn_X12_load_2   fu 0 z
set_option maxHeartbeats 4000000 in
set_option maxRecDepth 100000 in
theorem m_X12_load {l : Launch} {G : wG} (hG : Ok G)  {z : St} {Rz : St}  (h : fn_X12_load   z = some Rz) : Met l yX12_load wsX12_load (rmd 1) (va_Pc [.ref (G.2.2 172)] (Pre G z)) (va_Qv (fun u => u = Rz) (Pre G) (AW G)) 0 0 (AW G) := by
  refine Met.ofW (cc := cX12_load) (maxL := 2) (ret := none) (by decide) rfl ?_
  intro p e s m args below meth c s₁ B hml hv
  obtain ⟨rfl, hP, hK⟩ := hv
  have C : CX p s m ([.ref (G.2.2 172)] : List Value).toArray meth c cX12_load 2 wsX12_load RX12 none G := ⟨B.exec, B.bytes, hml, findClass_of_methodNamed B.named, atoms_spec (ws := wsX12_load) B.pre, B.returns, B.notSynchronized, hK, hG⟩
  obtain ⟨hx, hb, -, hown, hts, hr, hlocks, -, -⟩ := id C
  have hS : va_S (AW G) s.heap s.heap [] := va_S.rf
  have hl := lv_entry [.ref (G.2.2 172)] (n := 2) (Nat.le_of_ble_eq_true rfl)
  rw [lg_entry_eq]
  generalize (lg_sl [.ref (G.2.2 172)] ++ List.replicate (2 - (lg_sl [.ref (G.2.2 172)]).length) Slot.unset).toArray = ls at hl ⊢
  have hl : lv_has ls 2 [(0, .ref (G.2.2 172))] := hl
  unfold fn_X12_load at h
  refine lv_iconst (v := 0) hx hb dX12_load_0 (by decide) ?_
  refine lv_istore_n (lv' := [(1, .int 0), (0, .ref (G.2.2 172))]) hx hb dX12_load_1 rfl hl (by decide) rfl (fun ls hl => ?_)
  exact pf_X12_load_2 C   fu 0 z  _ _ _ hP hS (lv_sub hl [1, 0] rfl) h
theorem in_X12_areaOf_X12 : ∀ w ∈ wsX120, w ∈ wsX12_areaOf := fun _ h => (List.mem_cons_of_mem _ (List.mem_append_right _ h))
def fn_X12_areaOf (v1 : Int32) (z : St) : Option (Int32 × St) := gd (ix ((7 * v1) + 3) 171) (gd (ix ((7 * v1) + 4) 171) (gd (ix (7 * v1) 171) (gd (ix (z.1 198 (Int32.toNatClampNeg (7 * v1))) 3) (some ((((z.1 198 (Int32.toNatClampNeg ((7 * v1) + 3))) * (z.1 198 (Int32.toNatClampNeg ((7 * v1) + 4)))) * (z.1 190 (Int32.toNatClampNeg (z.1 198 (Int32.toNatClampNeg (7 * v1)))))), z)))))
set_option maxHeartbeats 4000000 in
set_option maxRecDepth 100000 in
theorem m_X12_areaOf {l : Launch} {G : wG} (hG : Ok G) {v1 : Int32} {z : St} {Rz : Int32 × St}  (h : fn_X12_areaOf  v1 z = some Rz) : Met l yX12_areaOf wsX12_areaOf (rmd 1) (va_Pc [.ref (G.2.2 172), .int v1] (Pre G z)) (va_Qi (fun r u => (r, u) = Rz) (Pre G) (AW G)) 0 0 (AW G) := by
  refine Met.ofW (cc := cX12_areaOf) (maxL := 2) (ret := (some .int)) (by decide) rfl ?_
  intro p e s m args below meth c s₁ B hml hv
  obtain ⟨rfl, hP, hK⟩ := hv
  have C : CX p s m ([.ref (G.2.2 172), .int v1] : List Value).toArray meth c cX12_areaOf 2 wsX12_areaOf RX12 (some .int) G := ⟨B.exec, B.bytes, hml, findClass_of_methodNamed B.named, atoms_spec (ws := wsX12_areaOf) B.pre, B.returns, B.notSynchronized, hK, hG⟩
  obtain ⟨hx, hb, -, hown, hts, hr, hlocks, -, -⟩ := id C
  have hS : va_S (AW G) s.heap s.heap [] := va_S.rf
  have hl := lv_entry [.ref (G.2.2 172), .int v1] (n := 2) (Nat.le_of_ble_eq_true rfl)
  rw [lg_entry_eq]
  generalize (lg_sl [.ref (G.2.2 172), .int v1] ++ List.replicate (2 - (lg_sl [.ref (G.2.2 172), .int v1]).length) Slot.unset).toArray = ls at hl ⊢
  have hl : lv_has ls 2 [(0, .ref (G.2.2 172)), (1, .int v1)] := hl
  unfold fn_X12_areaOf at h
  refine lv_aload_n hx hb dX12_areaOf_0 rfl (lv_at hl 0 rfl) ?_
  refine ge_12_49 hx hb hts in_X12_areaOf_X12 hown hK hP k_172 (hts _ (List.mem_of_getElem? (i := 1) rfl)) dX12_areaOf_1 ?_
  refine lv_bipush (v := 7) hx hb dX12_areaOf_4 (by decide) ?_
  refine lv_iload_n hx hb dX12_areaOf_6 rfl (lv_at hl 1 rfl) ?_
  refine lv_imul hx hb dX12_areaOf_7 ?_
  refine lv_iconst (v := 3) hx hb dX12_areaOf_8 (by decide) ?_
  refine lv_iadd hx hb dX12_areaOf_9 ?_
  obtain ⟨g1, h⟩ := gd_s h
  refine xl_14 hx hb hK hP k_198 l_198 (ix_in g1) dX12_areaOf_10 ?_
  refine lv_aload_n hx hb dX12_areaOf_11 rfl (lv_at hl 0 rfl) ?_
  refine ge_12_49 hx hb hts in_X12_areaOf_X12 hown hK hP k_172 (hts _ (List.mem_of_getElem? (i := 1) rfl)) dX12_areaOf_12 ?_
  refine lv_bipush (v := 7) hx hb dX12_areaOf_15 (by decide) ?_
  refine lv_iload_n hx hb dX12_areaOf_17 rfl (lv_at hl 1 rfl) ?_
  refine lv_imul hx hb dX12_areaOf_18 ?_
  refine lv_iconst (v := 4) hx hb dX12_areaOf_19 (by decide) ?_
  refine lv_iadd hx hb dX12_areaOf_20 ?_
  obtain ⟨g2, h⟩ := gd_s h
  refine xl_14 hx hb hK hP k_198 l_198 (ix_in g2) dX12_areaOf_21 ?_
  refine lv_imul hx hb dX12_areaOf_22 ?_
  refine lv_aload_n hx hb dX12_areaOf_23 rfl (lv_at hl 0 rfl) ?_
  refine ge_12_32 hx hb hts in_X12_areaOf_X12 hown hK hP k_172 (hts _ (List.mem_of_getElem? (i := 2) rfl)) dX12_areaOf_24 ?_
  refine lv_aload_n hx hb dX12_areaOf_27 rfl (lv_at hl 0 rfl) ?_
  refine ge_12_49 hx hb hts in_X12_areaOf_X12 hown hK hP k_172 (hts _ (List.mem_of_getElem? (i := 1) rfl)) dX12_areaOf_28 ?_
  refine lv_bipush (v := 7) hx hb dX12_areaOf_31 (by decide) ?_
  refine lv_iload_n hx hb dX12_areaOf_33 rfl (lv_at hl 1 rfl) ?_
  refine lv_imul hx hb dX12_areaOf_34 ?_
  obtain ⟨g3, h⟩ := gd_s h
  refine xl_14 hx hb hK hP k_198 l_198 (ix_in g3) dX12_areaOf_35 ?_
  obtain ⟨g4, h⟩ := gd_s h
  refine xl_14 hx hb hK hP k_190 l_190 (ix_in g4) dX12_areaOf_36 ?_
  refine lv_imul hx hb dX12_areaOf_37 ?_
  exact x_iret hx hb hr hlocks hK hP hS h dX12_areaOf_38
theorem in_X12_icingOf_X12 : ∀ w ∈ wsX120, w ∈ wsX12_icingOf := fun _ h => (List.mem_cons_of_mem _ (List.mem_append_right _ h))
def fn_X12_icingOf_132 (tv0 : Int32) (tv1 : Int32) (tv2 : Int32) (tv3 : Int32) (z : St) : Option (Int32 × St) := bd (fn_X12_truth  tv3 z) (fun r2 z3 => some ((tv0 + (tv1 * (tv2 + r2))), z3))
set_option maxHeartbeats 4000000 in
set_option maxRecDepth 100000 in
theorem pf_X12_icingOf_132 {p : Program} {l : Launch} {e : Env} {s : State} {m : MethodId} {args : Array Value} {below : List Frame} {meth : Method} {c : Code} {G : wG} (C : CX p s m args meth c cX12_icingOf 7 wsX12_icingOf RX12 (some .int) G) {Rz : Int32 × St} (tv0 : Int32) (tv1 : Int32) (tv2 : Int32) (tv3 : Int32) (z : St)  {H : Heap} {locs : List Loc} {ls : Array Slot} (hP : WP G z H) (hS : va_S (AW G) s.heap H locs) (hl : lv_has ls 7 []) (h : fn_X12_icingOf_132   tv0 tv1 tv2 tv3 z = some Rz) : W p l e (rmd 2) s m args below meth c H locs 0 0 (QI below args s G Rz) (F0 m 132 ls [.int tv3, .int tv2, .int tv1, .int tv0]) := by
  obtain ⟨hx, hb, hml, hown, hts, hr, hlocks, hK, hG⟩ := id C
  unfold fn_X12_icingOf_132 at h
  obtain ⟨r2, z3, h1, h⟩ := bd_s h
  refine x_Si (Rz := (r2, z3)) (As := [.int tv3]) (rest := [.int tv2, .int tv1, .int tv0]) ⟨hx, hb, hml, hown, hts⟩ hK hP hS (m_X12_truth hG   h1) (va_cwS 1 hts gX12_icingOf_X12_truth rfl rfl rfl (by decide +kernel) (rmd_ok (by decide) (by decide))) rfl hl.1 rfl (Nat.le_of_ble_eq_true rfl) dX12_icingOf_132 ⟨Nat.le_refl _, Nat.le_refl _⟩ (fun H locs hP hS => ?_)
  refine lv_iadd hx hb dX12_icingOf_135 ?_
  refine lv_imul hx hb dX12_icingOf_136 ?_
  refine lv_iadd hx hb dX12_icingOf_137 ?_
  exact x_iret hx hb hr hlocks hK hP hS h dX12_icingOf_138
def fn_X12_icingOf_111 (v2 : Int32) (v3 : Int32) (v5 : Int32) (tv0 : Int32) (tv1 : Int32) (tv2 : Int32) (z : St) : Option (Int32 × St) := bd (fn_X12_truth  tv2 z) (fun r2 z3 => gd (ix v2 3) ((if (v3 + v5) = (z3.1 188 (Int32.toNatClampNeg v2)) then fn_X12_icingOf_132   tv0 tv1 r2 1 z3 else fn_X12_icingOf_132   tv0 tv1 r2 0 z3)))
set_option maxHeartbeats 4000000 in
set_option maxRecDepth 100000 in
theorem pf_X12_icingOf_111 {p : Program} {l : Launch} {e : Env} {s : State} {m : MethodId} {args : Array Value} {below : List Frame} {meth : Method} {c : Code} {G : wG} (C : CX p s m args meth c cX12_icingOf 7 wsX12_icingOf RX12 (some .int) G) {Rz : Int32 × St} (v2 : Int32) (v3 : Int32) (v5 : Int32) (tv0 : Int32) (tv1 : Int32) (tv2 : Int32) (z : St)  {H : Heap} {locs : List Loc} {ls : Array Slot} (hP : WP G z H) (hS : va_S (AW G) s.heap H locs) (hl : lv_has ls 7 [(0, .ref (G.2.2 172)), (2, .int v2), (3, .int v3), (5, .int v5)]) (h : fn_X12_icingOf_111   v2 v3 v5 tv0 tv1 tv2 z = some Rz) : W p l e (rmd 2) s m args below meth c H locs 0 0 (QI below args s G Rz) (F0 m 111 ls [.int tv2, .int tv1, .int tv0]) := by
  obtain ⟨hx, hb, hml, hown, hts, hr, hlocks, hK, hG⟩ := id C
  unfold fn_X12_icingOf_111 at h
  obtain ⟨r2, z3, h1, h⟩ := bd_s h
  refine x_Si (Rz := (r2, z3)) (As := [.int tv2]) (rest := [.int tv1, .int tv0]) ⟨hx, hb, hml, hown, hts⟩ hK hP hS (m_X12_truth hG   h1) (va_cwS 1 hts gX12_icingOf_X12_truth rfl rfl rfl (by decide +kernel) (rmd_ok (by decide) (by decide))) rfl hl.1 rfl (Nat.le_of_ble_eq_true rfl) dX12_icingOf_111 ⟨Nat.le_refl _, Nat.le_refl _⟩ (fun H locs hP hS => ?_)
  refine lv_iload_n hx hb dX12_icingOf_114 rfl (lv_at hl 2 rfl) ?_
  refine lv_iload hx hb dX12_icingOf_115 (lv_at hl 3 rfl) ?_
  refine lv_iadd hx hb dX12_icingOf_117 ?_
  refine lv_aload_n hx hb dX12_icingOf_118 rfl (lv_at hl 0 rfl) ?_
  refine ge_12_30 hx hb hts in_X12_icingOf_X12 hown hK hP k_172 (hts _ (List.mem_of_getElem? (i := 3) rfl)) dX12_icingOf_119 ?_
  refine lv_iload_n hx hb dX12_icingOf_122 rfl (lv_at hl 1 rfl) ?_
  obtain ⟨g4, h⟩ := gd_s h
  refine xl_14 hx hb hK hP k_188 l_188 (ix_in g4) dX12_icingOf_123 ?_
  refine lv_icmp_ne (tgt := 131) hx hb dX12_icingOf_124 (by decide) (fun c5 => ?_) (fun c5 => ?_)
  · rw [if_neg c5] at h
    refine lv_iconst (v := 0) hx hb dX12_icingOf_131 (by decide) ?_
    exact pf_X12_icingOf_132 C   tv0 tv1 r2 0 z3  hP hS (lv_sub hl [] rfl) h
  · rw [if_pos c5] at h
    refine lv_iconst (v := 1) hx hb dX12_icingOf_127 (by decide) ?_
    refine lv_goto (tgt := 132) hx hb dX12_icingOf_128 (by decide) ?_
    exact pf_X12_icingOf_132 C   tv0 tv1 r2 1 z3  hP hS (lv_sub hl [] rfl) h
def fn_X12_icingOf_95 (v2 : Int32) (v3 : Int32) (v5 : Int32) (v6 : Int32) (tv0 : Int32) (tv1 : Int32) (tv2 : Int32) (z : St) : Option (Int32 × St) := bd (fn_X12_truth  tv2 z) (fun r2 z3 => (if v3 = 0 then fn_X12_icingOf_111   v2 v3 v5 (tv0 * (tv1 + r2)) v6 1 z3 else fn_X12_icingOf_111   v2 v3 v5 (tv0 * (tv1 + r2)) v6 0 z3))
set_option maxHeartbeats 4000000 in
set_option maxRecDepth 100000 in
theorem pf_X12_icingOf_95 {p : Program} {l : Launch} {e : Env} {s : State} {m : MethodId} {args : Array Value} {below : List Frame} {meth : Method} {c : Code} {G : wG} (C : CX p s m args meth c cX12_icingOf 7 wsX12_icingOf RX12 (some .int) G) {Rz : Int32 × St} (v2 : Int32) (v3 : Int32) (v5 : Int32) (v6 : Int32) (tv0 : Int32) (tv1 : Int32) (tv2 : Int32) (z : St)  {H : Heap} {locs : List Loc} {ls : Array Slot} (hP : WP G z H) (hS : va_S (AW G) s.heap H locs) (hl : lv_has ls 7 [(0, .ref (G.2.2 172)), (2, .int v2), (3, .int v3), (5, .int v5), (6, .int v6)]) (h : fn_X12_icingOf_95   v2 v3 v5 v6 tv0 tv1 tv2 z = some Rz) : W p l e (rmd 2) s m args below meth c H locs 0 0 (QI below args s G Rz) (F0 m 95 ls [.int tv2, .int tv1, .int tv0]) := by
  obtain ⟨hx, hb, hml, hown, hts, hr, hlocks, hK, hG⟩ := id C
  unfold fn_X12_icingOf_95 at h
  obtain ⟨r2, z3, h1, h⟩ := bd_s h
  refine x_Si (Rz := (r2, z3)) (As := [.int tv2]) (rest := [.int tv1, .int tv0]) ⟨hx, hb, hml, hown, hts⟩ hK hP hS (m_X12_truth hG   h1) (va_cwS 1 hts gX12_icingOf_X12_truth rfl rfl rfl (by decide +kernel) (rmd_ok (by decide) (by decide))) rfl hl.1 rfl (Nat.le_of_ble_eq_true rfl) dX12_icingOf_95 ⟨Nat.le_refl _, Nat.le_refl _⟩ (fun H locs hP hS => ?_)
  refine lv_iadd hx hb dX12_icingOf_98 ?_
  refine lv_imul hx hb dX12_icingOf_99 ?_
  refine lv_iload hx hb dX12_icingOf_100 (lv_at hl 4 rfl) ?_
  refine lv_iload_n hx hb dX12_icingOf_102 rfl (lv_at hl 2 rfl) ?_
  refine lv_if_ne (tgt := 110) hx hb dX12_icingOf_103 (by decide) (fun c4 => ?_) (fun c4 => ?_)
  · rw [if_neg c4] at h
    refine lv_iconst (v := 0) hx hb dX12_icingOf_110 (by decide) ?_
    exact pf_X12_icingOf_111 C   v2 v3 v5 (tv0 * (tv1 + r2)) v6 0 z3  hP hS (lv_sub hl [0, 1, 2, 3] rfl) h
  · rw [if_pos c4] at h
    refine lv_iconst (v := 1) hx hb dX12_icingOf_106 (by decide) ?_
    refine lv_goto (tgt := 111) hx hb dX12_icingOf_107 (by decide) ?_
    exact pf_X12_icingOf_111 C   v2 v3 v5 (tv0 * (tv1 + r2)) v6 1 z3  hP hS (lv_sub hl [0, 1, 2, 3] rfl) h
def fn_X12_icingOf_73 (v2 : Int32) (v3 : Int32) (v4 : Int32) (v5 : Int32) (v6 : Int32) (tv0 : Int32) (tv1 : Int32) (z : St) : Option (Int32 × St) := bd (fn_X12_truth  tv1 z) (fun r2 z3 => gd (ix v2 3) ((if (v4 + v6) = (z3.1 189 (Int32.toNatClampNeg v2)) then fn_X12_icingOf_95   v2 v3 v5 v6 tv0 r2 1 z3 else fn_X12_icingOf_95   v2 v3 v5 v6 tv0 r2 0 z3)))
set_option maxHeartbeats 4000000 in
set_option maxRecDepth 100000 in
theorem pf_X12_icingOf_73 {p : Program} {l : Launch} {e : Env} {s : State} {m : MethodId} {args : Array Value} {below : List Frame} {meth : Method} {c : Code} {G : wG} (C : CX p s m args meth c cX12_icingOf 7 wsX12_icingOf RX12 (some .int) G) {Rz : Int32 × St} (v2 : Int32) (v3 : Int32) (v4 : Int32) (v5 : Int32) (v6 : Int32) (tv0 : Int32) (tv1 : Int32) (z : St)  {H : Heap} {locs : List Loc} {ls : Array Slot} (hP : WP G z H) (hS : va_S (AW G) s.heap H locs) (hl : lv_has ls 7 [(0, .ref (G.2.2 172)), (2, .int v2), (3, .int v3), (4, .int v4), (5, .int v5), (6, .int v6)]) (h : fn_X12_icingOf_73   v2 v3 v4 v5 v6 tv0 tv1 z = some Rz) : W p l e (rmd 2) s m args below meth c H locs 0 0 (QI below args s G Rz) (F0 m 73 ls [.int tv1, .int tv0]) := by
  obtain ⟨hx, hb, hml, hown, hts, hr, hlocks, hK, hG⟩ := id C
  unfold fn_X12_icingOf_73 at h
  obtain ⟨r2, z3, h1, h⟩ := bd_s h
  refine x_Si (Rz := (r2, z3)) (As := [.int tv1]) (rest := [.int tv0]) ⟨hx, hb, hml, hown, hts⟩ hK hP hS (m_X12_truth hG   h1) (va_cwS 1 hts gX12_icingOf_X12_truth rfl rfl rfl (by decide +kernel) (rmd_ok (by decide) (by decide))) rfl hl.1 rfl (Nat.le_of_ble_eq_true rfl) dX12_icingOf_73 ⟨Nat.le_refl _, Nat.le_refl _⟩ (fun H locs hP hS => ?_)
  refine lv_iload hx hb dX12_icingOf_76 (lv_at hl 3 rfl) ?_
  refine lv_iload hx hb dX12_icingOf_78 (lv_at hl 5 rfl) ?_
  refine lv_iadd hx hb dX12_icingOf_80 ?_
  refine lv_aload_n hx hb dX12_icingOf_81 rfl (lv_at hl 0 rfl) ?_
  refine ge_12_31 hx hb hts in_X12_icingOf_X12 hown hK hP k_172 (hts _ (List.mem_of_getElem? (i := 2) rfl)) dX12_icingOf_82 ?_
  refine lv_iload_n hx hb dX12_icingOf_85 rfl (lv_at hl 1 rfl) ?_
  obtain ⟨g4, h⟩ := gd_s h
  refine xl_14 hx hb hK hP k_189 l_189 (ix_in g4) dX12_icingOf_86 ?_
  refine lv_icmp_ne (tgt := 94) hx hb dX12_icingOf_87 (by decide) (fun c5 => ?_) (fun c5 => ?_)
  · rw [if_neg c5] at h
    refine lv_iconst (v := 0) hx hb dX12_icingOf_94 (by decide) ?_
    exact pf_X12_icingOf_95 C   v2 v3 v5 v6 tv0 r2 0 z3  hP hS (lv_sub hl [0, 1, 2, 4, 5] rfl) h
  · rw [if_pos c5] at h
    refine lv_iconst (v := 1) hx hb dX12_icingOf_90 (by decide) ?_
    refine lv_goto (tgt := 95) hx hb dX12_icingOf_91 (by decide) ?_
    exact pf_X12_icingOf_95 C   v2 v3 v5 v6 tv0 r2 1 z3  hP hS (lv_sub hl [0, 1, 2, 4, 5] rfl) h
def fn_X12_icingOf (v1 : Int32) (z : St) : Option (Int32 × St) := gd (ix (7 * v1) 171) (nm (z.1 198 (Int32.toNatClampNeg (7 * v1))) (fun v2_2 => gd (ix ((7 * v1) + 1) 171) (nm (z.1 198 (Int32.toNatClampNeg ((7 * v1) + 1))) (fun v3_4 => gd (ix ((7 * v1) + 2) 171) (nm (z.1 198 (Int32.toNatClampNeg ((7 * v1) + 2))) (fun v4_6 => gd (ix ((7 * v1) + 3) 171) (nm (z.1 198 (Int32.toNatClampNeg ((7 * v1) + 3))) (fun v5_8 => gd (ix ((7 * v1) + 4) 171) (nm (z.1 198 (Int32.toNatClampNeg ((7 * v1) + 4))) (fun v6_10 => (if v4_6 = 0 then fn_X12_icingOf_73   v2_2 v3_4 v4_6 v5_8 v6_10 v5_8 1 z else fn_X12_icingOf_73   v2_2 v3_4 v4_6 v5_8 v6_10 v5_8 0 z)))))))))))
set_option maxHeartbeats 4000000 in
set_option maxRecDepth 100000 in
theorem m_X12_icingOf {l : Launch} {G : wG} (hG : Ok G) {v1 : Int32} {z : St} {Rz : Int32 × St}  (h : fn_X12_icingOf  v1 z = some Rz) : Met l yX12_icingOf wsX12_icingOf (rmd 2) (va_Pc [.ref (G.2.2 172), .int v1] (Pre G z)) (va_Qi (fun r u => (r, u) = Rz) (Pre G) (AW G)) 0 0 (AW G) := by
  refine Met.ofW (cc := cX12_icingOf) (maxL := 7) (ret := (some .int)) (by decide) rfl ?_
  intro p e s m args below meth c s₁ B hml hv
  obtain ⟨rfl, hP, hK⟩ := hv
  have C : CX p s m ([.ref (G.2.2 172), .int v1] : List Value).toArray meth c cX12_icingOf 7 wsX12_icingOf RX12 (some .int) G := ⟨B.exec, B.bytes, hml, findClass_of_methodNamed B.named, atoms_spec (ws := wsX12_icingOf) B.pre, B.returns, B.notSynchronized, hK, hG⟩
  obtain ⟨hx, hb, -, hown, hts, hr, hlocks, -, -⟩ := id C
  have hS : va_S (AW G) s.heap s.heap [] := va_S.rf
  have hl := lv_entry [.ref (G.2.2 172), .int v1] (n := 7) (Nat.le_of_ble_eq_true rfl)
  rw [lg_entry_eq]
  generalize (lg_sl [.ref (G.2.2 172), .int v1] ++ List.replicate (7 - (lg_sl [.ref (G.2.2 172), .int v1]).length) Slot.unset).toArray = ls at hl ⊢
  have hl : lv_has ls 7 [(0, .ref (G.2.2 172)), (1, .int v1)] := hl
  unfold fn_X12_icingOf at h
  refine lv_aload_n hx hb dX12_icingOf_0 rfl (lv_at hl 0 rfl) ?_
  refine ge_12_49 hx hb hts in_X12_icingOf_X12 hown hK hP k_172 (hts _ (List.mem_of_getElem? (i := 1) rfl)) dX12_icingOf_1 ?_
  refine lv_bipush (v := 7) hx hb dX12_icingOf_4 (by decide) ?_
  refine lv_iload_n hx hb dX12_icingOf_6 rfl (lv_at hl 1 rfl) ?_
  refine lv_imul hx hb dX12_icingOf_7 ?_
  obtain ⟨g1, h⟩ := gd_s h
  refine xl_14 hx hb hK hP k_198 l_198 (ix_in g1) dX12_icingOf_8 ?_
  obtain ⟨v2_2, e_v2_2, h⟩ := nm_s h
  refine x_top e_v2_2 ?_
  refine lv_istore_n (lv' := [(2, .int v2_2), (0, .ref (G.2.2 172)), (1, .int v1)]) hx hb dX12_icingOf_9 rfl hl (by decide) rfl (fun ls hl => ?_)
  refine lv_aload_n hx hb dX12_icingOf_10 rfl (lv_at hl 1 rfl) ?_
  refine ge_12_49 hx hb hts in_X12_icingOf_X12 hown hK hP k_172 (hts _ (List.mem_of_getElem? (i := 1) rfl)) dX12_icingOf_11 ?_
  refine lv_bipush (v := 7) hx hb dX12_icingOf_14 (by decide) ?_
  refine lv_iload_n hx hb dX12_icingOf_16 rfl (lv_at hl 2 rfl) ?_
  refine lv_imul hx hb dX12_icingOf_17 ?_
  refine lv_iconst (v := 1) hx hb dX12_icingOf_18 (by decide) ?_
  refine lv_iadd hx hb dX12_icingOf_19 ?_
  obtain ⟨g3, h⟩ := gd_s h
  refine xl_14 hx hb hK hP k_198 l_198 (ix_in g3) dX12_icingOf_20 ?_
  obtain ⟨v3_4, e_v3_4, h⟩ := nm_s h
  refine x_top e_v3_4 ?_
  refine lv_istore_n (lv' := [(3, .int v3_4), (2, .int v2_2), (0, .ref (G.2.2 172)), (1, .int v1)]) hx hb dX12_icingOf_21 rfl hl (by decide) rfl (fun ls hl => ?_)
  refine lv_aload_n hx hb dX12_icingOf_22 rfl (lv_at hl 2 rfl) ?_
  refine ge_12_49 hx hb hts in_X12_icingOf_X12 hown hK hP k_172 (hts _ (List.mem_of_getElem? (i := 1) rfl)) dX12_icingOf_23 ?_
  refine lv_bipush (v := 7) hx hb dX12_icingOf_26 (by decide) ?_
  refine lv_iload_n hx hb dX12_icingOf_28 rfl (lv_at hl 3 rfl) ?_
  refine lv_imul hx hb dX12_icingOf_29 ?_
  refine lv_iconst (v := 2) hx hb dX12_icingOf_30 (by decide) ?_
  refine lv_iadd hx hb dX12_icingOf_31 ?_
  obtain ⟨g5, h⟩ := gd_s h
  refine xl_14 hx hb hK hP k_198 l_198 (ix_in g5) dX12_icingOf_32 ?_
  obtain ⟨v4_6, e_v4_6, h⟩ := nm_s h
  refine x_top e_v4_6 ?_
  refine lv_istore (lv' := [(4, .int v4_6), (3, .int v3_4), (2, .int v2_2), (0, .ref (G.2.2 172)), (1, .int v1)]) hx hb dX12_icingOf_33 hl (by decide) rfl (fun ls hl => ?_)
  refine lv_aload_n hx hb dX12_icingOf_35 rfl (lv_at hl 3 rfl) ?_
  refine ge_12_49 hx hb hts in_X12_icingOf_X12 hown hK hP k_172 (hts _ (List.mem_of_getElem? (i := 1) rfl)) dX12_icingOf_36 ?_
  refine lv_bipush (v := 7) hx hb dX12_icingOf_39 (by decide) ?_
  refine lv_iload_n hx hb dX12_icingOf_41 rfl (lv_at hl 4 rfl) ?_
  refine lv_imul hx hb dX12_icingOf_42 ?_
  refine lv_iconst (v := 3) hx hb dX12_icingOf_43 (by decide) ?_
  refine lv_iadd hx hb dX12_icingOf_44 ?_
  obtain ⟨g7, h⟩ := gd_s h
  refine xl_14 hx hb hK hP k_198 l_198 (ix_in g7) dX12_icingOf_45 ?_
  obtain ⟨v5_8, e_v5_8, h⟩ := nm_s h
  refine x_top e_v5_8 ?_
  refine lv_istore (lv' := [(5, .int v5_8), (4, .int v4_6), (3, .int v3_4), (2, .int v2_2), (0, .ref (G.2.2 172)), (1, .int v1)]) hx hb dX12_icingOf_46 hl (by decide) rfl (fun ls hl => ?_)
  refine lv_aload_n hx hb dX12_icingOf_48 rfl (lv_at hl 4 rfl) ?_
  refine ge_12_49 hx hb hts in_X12_icingOf_X12 hown hK hP k_172 (hts _ (List.mem_of_getElem? (i := 1) rfl)) dX12_icingOf_49 ?_
  refine lv_bipush (v := 7) hx hb dX12_icingOf_52 (by decide) ?_
  refine lv_iload_n hx hb dX12_icingOf_54 rfl (lv_at hl 5 rfl) ?_
  refine lv_imul hx hb dX12_icingOf_55 ?_
  refine lv_iconst (v := 4) hx hb dX12_icingOf_56 (by decide) ?_
  refine lv_iadd hx hb dX12_icingOf_57 ?_
  obtain ⟨g9, h⟩ := gd_s h
  refine xl_14 hx hb hK hP k_198 l_198 (ix_in g9) dX12_icingOf_58 ?_
  obtain ⟨v6_10, e_v6_10, h⟩ := nm_s h
  refine x_top e_v6_10 ?_
  refine lv_istore (lv' := [(6, .int v6_10), (5, .int v5_8), (4, .int v4_6), (3, .int v3_4), (2, .int v2_2), (0, .ref (G.2.2 172)), (1, .int v1)]) hx hb dX12_icingOf_59 hl (by decide) rfl (fun ls hl => ?_)
  refine lv_iload hx hb dX12_icingOf_61 (lv_at hl 1 rfl) ?_
  refine lv_iload hx hb dX12_icingOf_63 (lv_at hl 2 rfl) ?_
  refine lv_if_ne (tgt := 72) hx hb dX12_icingOf_65 (by decide) (fun c11 => ?_) (fun c11 => ?_)
  · rw [if_neg c11] at h
    refine lv_iconst (v := 0) hx hb dX12_icingOf_72 (by decide) ?_
    exact pf_X12_icingOf_73 C   v2_2 v3_4 v4_6 v5_8 v6_10 v5_8 0 z  hP hS (lv_sub hl [5, 4, 3, 2, 1, 0] rfl) h
  · rw [if_pos c11] at h
    refine lv_iconst (v := 1) hx hb dX12_icingOf_68 (by decide) ?_
    refine lv_goto (tgt := 73) hx hb dX12_icingOf_69 (by decide) ?_
    exact pf_X12_icingOf_73 C   v2_2 v3_4 v4_6 v5_8 v6_10 v5_8 1 z  hP hS (lv_sub hl [5, 4, 3, 2, 1, 0] rfl) h
theorem in_X12_askOf_X12 : ∀ w ∈ wsX120, w ∈ wsX12_askOf := fun _ h => (List.mem_cons_of_mem _ (List.mem_append_right _ h))
def fn_X12_askOf (v1 : Int32) (v2 : Int32) (v3 : Int32) (z : St) : Option (St) := bd (fn_X12_areaOf  v1 z) (fun r2 z3 => nm (sI z3 184 (Int32.toNatClampNeg 0) r2) (fun z4 => bd (fn_X12_icingOf  v1 z4) (fun r6 z7 => nm (sI z7 184 (Int32.toNatClampNeg 1) r6) (fun z8 => nm (sI z8 184 (Int32.toNatClampNeg 2) v2) (fun z9 => gd (ix ((7 * v1) + 5) 171) (nm (sI z9 184 (Int32.toNatClampNeg 3) (z9.1 198 (Int32.toNatClampNeg ((7 * v1) + 5)))) (fun z11 => nm (sI z11 184 (Int32.toNatClampNeg 4) v3) (fun z12 => nm (sI z12 184 (Int32.toNatClampNeg 5) (z12.1 198 (Int32.toNatClampNeg 169))) (fun z13 => some z13)))))))))
set_option maxHeartbeats 4000000 in
set_option maxRecDepth 100000 in
theorem m_X12_askOf {l : Launch} {G : wG} (hG : Ok G) {v1 : Int32} {v2 : Int32} {v3 : Int32} {z : St} {Rz : St}  (h : fn_X12_askOf  v1 v2 v3 z = some Rz) : Met l yX12_askOf wsX12_askOf (rmd 3) (va_Pc [.ref (G.2.2 172), .int v1, .int v2, .int v3] (Pre G z)) (va_Qv (fun u => u = Rz) (Pre G) (AW G)) 0 0 (AW G) := by
  refine Met.ofW (cc := cX12_askOf) (maxL := 4) (ret := none) (by decide) rfl ?_
  intro p e s m args below meth c s₁ B hml hv
  obtain ⟨rfl, hP, hK⟩ := hv
  have C : CX p s m ([.ref (G.2.2 172), .int v1, .int v2, .int v3] : List Value).toArray meth c cX12_askOf 4 wsX12_askOf RX12 none G := ⟨B.exec, B.bytes, hml, findClass_of_methodNamed B.named, atoms_spec (ws := wsX12_askOf) B.pre, B.returns, B.notSynchronized, hK, hG⟩
  obtain ⟨hx, hb, -, hown, hts, hr, hlocks, -, -⟩ := id C
  have hS : va_S (AW G) s.heap s.heap [] := va_S.rf
  have hl := lv_entry [.ref (G.2.2 172), .int v1, .int v2, .int v3] (n := 4) (Nat.le_of_ble_eq_true rfl)
  rw [lg_entry_eq]
  generalize (lg_sl [.ref (G.2.2 172), .int v1, .int v2, .int v3] ++ List.replicate (4 - (lg_sl [.ref (G.2.2 172), .int v1, .int v2, .int v3]).length) Slot.unset).toArray = ls at hl ⊢
  have hl : lv_has ls 4 [(0, .ref (G.2.2 172)), (1, .int v1), (2, .int v2), (3, .int v3)] := hl
  unfold fn_X12_askOf at h
  refine lv_aload_n hx hb dX12_askOf_0 rfl (lv_at hl 0 rfl) ?_
  refine ge_12_26 hx hb hts in_X12_askOf_X12 hown hK hP k_172 (hts _ (List.mem_of_getElem? (i := 1) rfl)) dX12_askOf_1 ?_
  refine lv_iconst (v := 0) hx hb dX12_askOf_4 (by decide) ?_
  refine lv_aload_n hx hb dX12_askOf_5 rfl (lv_at hl 0 rfl) ?_
  refine lv_iload_n hx hb dX12_askOf_6 rfl (lv_at hl 1 rfl) ?_
  obtain ⟨r2, z3, h1, h⟩ := bd_s h
  refine x_Vi (Rz := (r2, z3)) (As := [.int v1]) (rest := [.int 0, .ref (G.2.2 184)]) ⟨hx, hb, hml, hown, hts⟩ hK hP hS (kd_lt k_172 (by decide)) (cell_12 k_172) rfl (m_X12_areaOf hG   h1) (cwV 1 hts gX12_askOf_X12_areaOf rfl rfl rfl (by decide +kernel) (rmd_ok (by decide) (by decide))) rfl hl.1 rfl (Nat.le_of_ble_eq_true rfl) dX12_askOf_7 ⟨Nat.le_refl _, Nat.le_refl _⟩ (fun H locs hP hS => ?_)
  obtain ⟨z4, e_z4, h⟩ := nm_s h
  refine xs_14 hx hb hK hG hP hS k_184 l_184 (ix_in (by decide)) dX12_askOf_10 (fun H locs hP hS => ?_)
  rw [← e_z4] at hP
  refine lv_aload_n hx hb dX12_askOf_11 rfl (lv_at hl 0 rfl) ?_
  refine ge_12_26 hx hb hts in_X12_askOf_X12 hown hK hP k_172 (hts _ (List.mem_of_getElem? (i := 1) rfl)) dX12_askOf_12 ?_
  refine lv_iconst (v := 1) hx hb dX12_askOf_15 (by decide) ?_
  refine lv_aload_n hx hb dX12_askOf_16 rfl (lv_at hl 0 rfl) ?_
  refine lv_iload_n hx hb dX12_askOf_17 rfl (lv_at hl 1 rfl) ?_
  obtain ⟨r6, z7, h5, h⟩ := bd_s h
  refine x_Vi (Rz := (r6, z7)) (As := [.int v1]) (rest := [.int 1, .ref (G.2.2 184)]) ⟨hx, hb, hml, hown, hts⟩ hK hP hS (kd_lt k_172 (by decide)) (cell_12 k_172) rfl (m_X12_icingOf hG   h5) (cwV 1 hts gX12_askOf_X12_icingOf rfl rfl rfl (by decide +kernel) (rmd_ok (by decide) (by decide))) rfl hl.1 rfl (Nat.le_of_ble_eq_true rfl) dX12_askOf_18 ⟨Nat.le_refl _, Nat.le_refl _⟩ (fun H locs hP hS => ?_)
  obtain ⟨z8, e_z8, h⟩ := nm_s h
  refine xs_14 hx hb hK hG hP hS k_184 l_184 (ix_in (by decide)) dX12_askOf_21 (fun H locs hP hS => ?_)
  rw [← e_z8] at hP
  refine lv_aload_n hx hb dX12_askOf_22 rfl (lv_at hl 0 rfl) ?_
  refine ge_12_26 hx hb hts in_X12_askOf_X12 hown hK hP k_172 (hts _ (List.mem_of_getElem? (i := 1) rfl)) dX12_askOf_23 ?_
  refine lv_iconst (v := 2) hx hb dX12_askOf_26 (by decide) ?_
  refine lv_iload_n hx hb dX12_askOf_27 rfl (lv_at hl 2 rfl) ?_
  obtain ⟨z9, e_z9, h⟩ := nm_s h
  refine xs_14 hx hb hK hG hP hS k_184 l_184 (ix_in (by decide)) dX12_askOf_28 (fun H locs hP hS => ?_)
  rw [← e_z9] at hP
  refine lv_aload_n hx hb dX12_askOf_29 rfl (lv_at hl 0 rfl) ?_
  refine ge_12_26 hx hb hts in_X12_askOf_X12 hown hK hP k_172 (hts _ (List.mem_of_getElem? (i := 1) rfl)) dX12_askOf_30 ?_
  refine lv_iconst (v := 3) hx hb dX12_askOf_33 (by decide) ?_
  refine lv_aload_n hx hb dX12_askOf_34 rfl (lv_at hl 0 rfl) ?_
  refine ge_12_49 hx hb hts in_X12_askOf_X12 hown hK hP k_172 (hts _ (List.mem_of_getElem? (i := 2) rfl)) dX12_askOf_35 ?_
  refine lv_bipush (v := 7) hx hb dX12_askOf_38 (by decide) ?_
  refine lv_iload_n hx hb dX12_askOf_40 rfl (lv_at hl 1 rfl) ?_
  refine lv_imul hx hb dX12_askOf_41 ?_
  refine lv_iconst (v := 5) hx hb dX12_askOf_42 (by decide) ?_
  refine lv_iadd hx hb dX12_askOf_43 ?_
  obtain ⟨g10, h⟩ := gd_s h
  refine xl_14 hx hb hK hP k_198 l_198 (ix_in g10) dX12_askOf_44 ?_
  obtain ⟨z11, e_z11, h⟩ := nm_s h
  refine xs_14 hx hb hK hG hP hS k_184 l_184 (ix_in (by decide)) dX12_askOf_45 (fun H locs hP hS => ?_)
  rw [← e_z11] at hP
  refine lv_aload_n hx hb dX12_askOf_46 rfl (lv_at hl 0 rfl) ?_
  refine ge_12_26 hx hb hts in_X12_askOf_X12 hown hK hP k_172 (hts _ (List.mem_of_getElem? (i := 1) rfl)) dX12_askOf_47 ?_
  refine lv_iconst (v := 4) hx hb dX12_askOf_50 (by decide) ?_
  refine lv_iload_n hx hb dX12_askOf_51 rfl (lv_at hl 3 rfl) ?_
  obtain ⟨z12, e_z12, h⟩ := nm_s h
  refine xs_14 hx hb hK hG hP hS k_184 l_184 (ix_in (by decide)) dX12_askOf_52 (fun H locs hP hS => ?_)
  rw [← e_z12] at hP
  refine lv_aload_n hx hb dX12_askOf_53 rfl (lv_at hl 0 rfl) ?_
  refine ge_12_26 hx hb hts in_X12_askOf_X12 hown hK hP k_172 (hts _ (List.mem_of_getElem? (i := 1) rfl)) dX12_askOf_54 ?_
  refine lv_iconst (v := 5) hx hb dX12_askOf_57 (by decide) ?_
  refine lv_aload_n hx hb dX12_askOf_58 rfl (lv_at hl 0 rfl) ?_
  refine ge_12_49 hx hb hts in_X12_askOf_X12 hown hK hP k_172 (hts _ (List.mem_of_getElem? (i := 2) rfl)) dX12_askOf_59 ?_
  refine lv_sipush (v := 169) hx hb dX12_askOf_62 (by decide) ?_
  refine xl_14 hx hb hK hP k_198 l_198 (ix_in (by decide)) dX12_askOf_65 ?_
  obtain ⟨z13, e_z13, h⟩ := nm_s h
  refine xs_14 hx hb hK hG hP hS k_184 l_184 (ix_in (by decide)) dX12_askOf_66 (fun H locs hP hS => ?_)
  rw [← e_z13] at hP
  exact x_vret hx hb hr hlocks hK hP hS h dX12_askOf_67
theorem in_X12_worthOf_X12 : ∀ w ∈ wsX120, w ∈ wsX12_worthOf := fun _ h => (List.mem_cons_of_mem _ (List.mem_append_right _ h))
def fn_X12_worthOf (v1 : Int32) (v2 : Int32) (z : St) : Option (Int32 × St) := gd (ix v1 6) (bv (fn_X12_askOf  v2 (z.1 195 (Int32.toNatClampNeg v1)) 0 z) (fun z3 => bd (fn_X12_worked  0 (z3.1 184 (Int32.toNatClampNeg 0)) z3) (fun r5 z6 => some (r5, z6))))
set_option maxHeartbeats 4000000 in
set_option maxRecDepth 100000 in
theorem m_X12_worthOf {l : Launch} {G : wG} (hG : Ok G) {v1 : Int32} {v2 : Int32} {z : St} {Rz : Int32 × St}  (h : fn_X12_worthOf  v1 v2 z = some Rz) : Met l yX12_worthOf wsX12_worthOf (rmd 4) (va_Pc [.ref (G.2.2 172), .int v1, .int v2] (Pre G z)) (va_Qi (fun r u => (r, u) = Rz) (Pre G) (AW G)) 0 0 (AW G) := by
  refine Met.ofW (cc := cX12_worthOf) (maxL := 3) (ret := (some .int)) (by decide) rfl ?_
  intro p e s m args below meth c s₁ B hml hv
  obtain ⟨rfl, hP, hK⟩ := hv
  have C : CX p s m ([.ref (G.2.2 172), .int v1, .int v2] : List Value).toArray meth c cX12_worthOf 3 wsX12_worthOf RX12 (some .int) G := ⟨B.exec, B.bytes, hml, findClass_of_methodNamed B.named, atoms_spec (ws := wsX12_worthOf) B.pre, B.returns, B.notSynchronized, hK, hG⟩
  obtain ⟨hx, hb, -, hown, hts, hr, hlocks, -, -⟩ := id C
  have hS : va_S (AW G) s.heap s.heap [] := va_S.rf
  have hl := lv_entry [.ref (G.2.2 172), .int v1, .int v2] (n := 3) (Nat.le_of_ble_eq_true rfl)
  rw [lg_entry_eq]
  generalize (lg_sl [.ref (G.2.2 172), .int v1, .int v2] ++ List.replicate (3 - (lg_sl [.ref (G.2.2 172), .int v1, .int v2]).length) Slot.unset).toArray = ls at hl ⊢
  have hl : lv_has ls 3 [(0, .ref (G.2.2 172)), (1, .int v1), (2, .int v2)] := hl
  unfold fn_X12_worthOf at h
  refine lv_aload_n hx hb dX12_worthOf_0 rfl (lv_at hl 0 rfl) ?_
  refine lv_iload_n hx hb dX12_worthOf_1 rfl (lv_at hl 2 rfl) ?_
  refine lv_aload_n hx hb dX12_worthOf_2 rfl (lv_at hl 0 rfl) ?_
  refine ge_12_37 hx hb hts in_X12_worthOf_X12 hown hK hP k_172 (hts _ (List.mem_of_getElem? (i := 1) rfl)) dX12_worthOf_3 ?_
  refine lv_iload_n hx hb dX12_worthOf_6 rfl (lv_at hl 1 rfl) ?_
  obtain ⟨g1, h⟩ := gd_s h
  refine xl_14 hx hb hK hP k_195 l_195 (ix_in g1) dX12_worthOf_7 ?_
  refine lv_iconst (v := 0) hx hb dX12_worthOf_8 (by decide) ?_
  obtain ⟨z3, h2, h⟩ := bv_s h
  refine x_Vv (Rz := z3) (As := [.int v2, .int (z.1 195 (Int32.toNatClampNeg v1)), .int 0]) (rest := []) ⟨hx, hb, hml, hown, hts⟩ hK hP hS (kd_lt k_172 (by decide)) (cell_12 k_172) rfl (m_X12_askOf hG   h2) (cwV 3 hts gX12_worthOf_X12_askOf rfl rfl rfl (by decide +kernel) (rmd_ok (by decide) (by decide))) rfl hl.1 rfl (Nat.le_of_ble_eq_true rfl) dX12_worthOf_9 ⟨Nat.le_refl _, Nat.le_refl _⟩ (fun H locs hP hS => ?_)
  refine lv_aload_n hx hb dX12_worthOf_12 rfl (lv_at hl 0 rfl) ?_
  refine lv_iconst (v := 0) hx hb dX12_worthOf_13 (by decide) ?_
  refine lv_aload_n hx hb dX12_worthOf_14 rfl (lv_at hl 0 rfl) ?_
  refine ge_12_26 hx hb hts in_X12_worthOf_X12 hown hK hP k_172 (hts _ (List.mem_of_getElem? (i := 2) rfl)) dX12_worthOf_15 ?_
  refine lv_iconst (v := 0) hx hb dX12_worthOf_18 (by decide) ?_
  refine xl_14 hx hb hK hP k_184 l_184 (ix_in (by decide)) dX12_worthOf_19 ?_
  obtain ⟨r5, z6, h4, h⟩ := bd_s h
  refine x_Vi (Rz := (r5, z6)) (As := [.int 0, .int (z3.1 184 (Int32.toNatClampNeg 0))]) (rest := []) ⟨hx, hb, hml, hown, hts⟩ hK hP hS (kd_lt k_172 (by decide)) (cell_12 k_172) rfl (m_X12_worked hG   h4) (cwV 2 hts gX12_worthOf_X12_worked rfl rfl rfl (by decide +kernel) (rmd_ok (by decide) (by decide))) rfl hl.1 rfl (Nat.le_of_ble_eq_true rfl) dX12_worthOf_20 ⟨Nat.le_refl _, Nat.le_refl _⟩ (fun H locs hP hS => ?_)
  exact x_iret hx hb hr hlocks hK hP hS h dX12_worthOf_23
theorem in_X12_isFree_X12 : ∀ w ∈ wsX120, w ∈ wsX12_isFree := fun _ h => (List.mem_cons_of_mem _ (List.mem_append_right _ h))
def fn_X12_isFree (v1 : Int32) (z : St) : Option (Int32 × St) := gd (ix ((7 * v1) + 6) 171) ((if (z.1 198 (Int32.toNatClampNeg ((7 * v1) + 6))) = (-1) then some (1, z) else some (0, z)))
set_option maxHeartbeats 4000000 in
set_option maxRecDepth 100000 in
theorem m_X12_isFree {l : Launch} {G : wG} (hG : Ok G) {v1 : Int32} {z : St} {Rz : Int32 × St}  (h : fn_X12_isFree  v1 z = some Rz) : Met l yX12_isFree wsX12_isFree (rmd 1) (va_Pc [.ref (G.2.2 172), .int v1] (Pre G z)) (va_Qi (fun r u => (r, u) = Rz) (Pre G) (AW G)) 0 0 (AW G) := by
  refine Met.ofW (cc := cX12_isFree) (maxL := 2) (ret := (some .boolean)) (by decide) rfl ?_
  intro p e s m args below meth c s₁ B hml hv
  obtain ⟨rfl, hP, hK⟩ := hv
  have C : CX p s m ([.ref (G.2.2 172), .int v1] : List Value).toArray meth c cX12_isFree 2 wsX12_isFree RX12 (some .boolean) G := ⟨B.exec, B.bytes, hml, findClass_of_methodNamed B.named, atoms_spec (ws := wsX12_isFree) B.pre, B.returns, B.notSynchronized, hK, hG⟩
  obtain ⟨hx, hb, -, hown, hts, hr, hlocks, -, -⟩ := id C
  have hS : va_S (AW G) s.heap s.heap [] := va_S.rf
  have hl := lv_entry [.ref (G.2.2 172), .int v1] (n := 2) (Nat.le_of_ble_eq_true rfl)
  rw [lg_entry_eq]
  generalize (lg_sl [.ref (G.2.2 172), .int v1] ++ List.replicate (2 - (lg_sl [.ref (G.2.2 172), .int v1]).length) Slot.unset).toArray = ls at hl ⊢
  have hl : lv_has ls 2 [(0, .ref (G.2.2 172)), (1, .int v1)] := hl
  unfold fn_X12_isFree at h
  refine lv_aload_n hx hb dX12_isFree_0 rfl (lv_at hl 0 rfl) ?_
  refine ge_12_49 hx hb hts in_X12_isFree_X12 hown hK hP k_172 (hts _ (List.mem_of_getElem? (i := 1) rfl)) dX12_isFree_1 ?_
  refine lv_bipush (v := 7) hx hb dX12_isFree_4 (by decide) ?_
  refine lv_iload_n hx hb dX12_isFree_6 rfl (lv_at hl 1 rfl) ?_
  refine lv_imul hx hb dX12_isFree_7 ?_
  refine lv_bipush (v := 6) hx hb dX12_isFree_8 (by decide) ?_
  refine lv_iadd hx hb dX12_isFree_10 ?_
  obtain ⟨g1, h⟩ := gd_s h
  refine xl_14 hx hb hK hP k_198 l_198 (ix_in g1) dX12_isFree_11 ?_
  refine lv_iconst (v := (-1)) hx hb dX12_isFree_12 (by decide) ?_
  refine lv_icmp_ne (tgt := 20) hx hb dX12_isFree_13 (by decide) (fun c2 => ?_) (fun c2 => ?_)
  · rw [if_neg c2] at h
    refine lv_iconst (v := 0) hx hb dX12_isFree_20 (by decide) ?_
    exact x_zret hx hb hr hlocks hK hP hS rfl h dX12_isFree_21
  · rw [if_pos c2] at h
    refine lv_iconst (v := 1) hx hb dX12_isFree_16 (by decide) ?_
    refine lv_goto (tgt := 21) hx hb dX12_isFree_17 (by decide) ?_
    exact x_zret hx hb hr hlocks hK hP hS rfl h dX12_isFree_21
theorem in_X12_pieceOf_X12 : ∀ w ∈ wsX120, w ∈ wsX12_pieceOf := fun _ h => (List.mem_cons_of_mem _ (List.mem_append_right _ h))
def fn_X12_pieceOf_34 (k4 : Int32 → Int32 → Int32 → St → Option (Int32 × St)) (v1 : Int32) (v2 : Int32) (v3 : Int32) (z : St) : Option (Int32 × St) := k4 v1 v2 (v3 + 1) z
set_option maxHeartbeats 4000000 in
set_option maxRecDepth 100000 in
theorem pf_X12_pieceOf_34 {p : Program} {l : Launch} {e : Env} {s : State} {m : MethodId} {args : Array Value} {below : List Frame} {meth : Method} {c : Code} {G : wG} (C : CX p s m args meth c cX12_pieceOf 4 wsX12_pieceOf RX12 (some .int) G) {Rz : Int32 × St} {k4 : Int32 → Int32 → Int32 → St → Option (Int32 × St)} (hk_4 : ∀ (v1 : Int32) (v2 : Int32) (v3 : Int32) (z : St)  (H : Heap) (locs : List Loc) (ls : Array Slot), WP G z H → va_S (AW G) s.heap H locs → lv_has ls 4 [(0, .ref (G.2.2 172)), (1, .int v1), (2, .int v2), (3, .int v3)] → k4 v1 v2 v3 z = some Rz → W p l e (rmd 1) s m args below meth c H locs 0 0 (QI below args s G Rz) (F0 m 4 ls [])) (v1 : Int32) (v2 : Int32) (v3 : Int32) (z : St)  {H : Heap} {locs : List Loc} {ls : Array Slot} (hP : WP G z H) (hS : va_S (AW G) s.heap H locs) (hl : lv_has ls 4 [(0, .ref (G.2.2 172)), (1, .int v1), (2, .int v2), (3, .int v3)]) (h : fn_X12_pieceOf_34  k4 v1 v2 v3 z = some Rz) : W p l e (rmd 1) s m args below meth c H locs 0 0 (QI below args s G Rz) (F0 m 34 ls []) := by
  obtain ⟨hx, hb, hml, hown, hts, hr, hlocks, hK, hG⟩ := id C
  unfold fn_X12_pieceOf_34 at h
  refine lv_iinc (v := (v3 + 1)) (lv' := [(3, .int (v3 + 1)), (0, .ref (G.2.2 172)), (1, .int v1), (2, .int v2)]) hx hb dX12_pieceOf_34 hl (k := 3) rfl rfl (by decide) rfl (fun ls hl => ?_)
  refine lv_goto (tgt := 4) hx hb dX12_pieceOf_37 (by decide) ?_
  exact hk_4 v1 v2 (v3 + 1) z  _ _ _ hP hS (lv_sub hl [1, 2, 3, 0] rfl) h
def fn_X12_pieceOf_4 : Nat → Int32 → Int32 → Int32 → St → Option (Int32 × St)
  | 0, _, _, _, _ => none
  | n + 1, v1, v2, v3, z => (if (z.1 198 (Int32.toNatClampNeg 168)) ≤ v3 then some (v2, z) else gd (ix ((7 * v3) + 6) 171) ((if (z.1 198 (Int32.toNatClampNeg ((7 * v3) + 6))) = v1 then fn_X12_pieceOf_34  (fn_X12_pieceOf_4   n) v1 v3 v3 z else fn_X12_pieceOf_34  (fn_X12_pieceOf_4   n) v1 v2 v3 z)))
set_option maxHeartbeats 4000000 in
set_option maxRecDepth 100000 in
theorem pf_X12_pieceOf_4 {p : Program} {l : Launch} {e : Env} {s : State} {m : MethodId} {args : Array Value} {below : List Frame} {meth : Method} {c : Code} {G : wG} (C : CX p s m args meth c cX12_pieceOf 4 wsX12_pieceOf RX12 (some .int) G) {Rz : Int32 × St} : ∀ (n : Nat) (v1 : Int32) (v2 : Int32) (v3 : Int32) (z : St)  (H : Heap) (locs : List Loc) (ls : Array Slot), WP G z H → va_S (AW G) s.heap H locs → lv_has ls 4 [(0, .ref (G.2.2 172)), (1, .int v1), (2, .int v2), (3, .int v3)] → fn_X12_pieceOf_4   n v1 v2 v3 z = some Rz → W p l e (rmd 1) s m args below meth c H locs 0 0 (QI below args s G Rz) (F0 m 4 ls []) := by
  obtain ⟨hx, hb, hml, hown, hts, hr, hlocks, hK, hG⟩ := id C
  intro n
  induction n with
  | zero => intro v1 v2 v3 z  H locs ls hP hS hl h; cases h
  | succ n ih =>
    intro v1 v2 v3 z  H locs ls hP hS hl h
    rw [fn_X12_pieceOf_4] at h
    refine lv_iload_n hx hb dX12_pieceOf_4 rfl (lv_at hl 3 rfl) ?_
    refine lv_aload_n hx hb dX12_pieceOf_5 rfl (lv_at hl 0 rfl) ?_
    refine ge_12_49 hx hb hts in_X12_pieceOf_X12 hown hK hP k_172 (hts _ (List.mem_of_getElem? (i := 1) rfl)) dX12_pieceOf_6 ?_
    refine lv_sipush (v := 168) hx hb dX12_pieceOf_9 (by decide) ?_
    refine xl_14 hx hb hK hP k_198 l_198 (ix_in (by decide)) dX12_pieceOf_12 ?_
    refine lv_icmp_ge (tgt := 40) hx hb dX12_pieceOf_13 (by decide) (fun c1 => ?_) (fun c1 => ?_)
    · rw [if_pos c1] at h
      refine lv_iload_n hx hb dX12_pieceOf_40 rfl (lv_at hl 2 rfl) ?_
      exact x_iret hx hb hr hlocks hK hP hS h dX12_pieceOf_41
    · rw [if_neg c1] at h
      refine lv_aload_n hx hb dX12_pieceOf_16 rfl (lv_at hl 0 rfl) ?_
      refine ge_12_49 hx hb hts in_X12_pieceOf_X12 hown hK hP k_172 (hts _ (List.mem_of_getElem? (i := 1) rfl)) dX12_pieceOf_17 ?_
      refine lv_bipush (v := 7) hx hb dX12_pieceOf_20 (by decide) ?_
      refine lv_iload_n hx hb dX12_pieceOf_22 rfl (lv_at hl 3 rfl) ?_
      refine lv_imul hx hb dX12_pieceOf_23 ?_
      refine lv_bipush (v := 6) hx hb dX12_pieceOf_24 (by decide) ?_
      refine lv_iadd hx hb dX12_pieceOf_26 ?_
      obtain ⟨g2, h⟩ := gd_s h
      refine xl_14 hx hb hK hP k_198 l_198 (ix_in g2) dX12_pieceOf_27 ?_
      refine lv_iload_n hx hb dX12_pieceOf_28 rfl (lv_at hl 1 rfl) ?_
      refine lv_icmp_ne (tgt := 34) hx hb dX12_pieceOf_29 (by decide) (fun c3 => ?_) (fun c3 => ?_)
      · rw [if_neg c3] at h
        exact pf_X12_pieceOf_34 C  ih v1 v2 v3 z  hP hS (lv_sub hl [0, 1, 2, 3] rfl) h
      · rw [if_pos c3] at h
        refine lv_iload_n hx hb dX12_pieceOf_32 rfl (lv_at hl 3 rfl) ?_
        refine lv_istore_n (lv' := [(2, .int v3), (0, .ref (G.2.2 172)), (1, .int v1), (3, .int v3)]) hx hb dX12_pieceOf_33 rfl hl (by decide) rfl (fun ls hl => ?_)
        exact pf_X12_pieceOf_34 C  ih v1 v3 v3 z  hP hS (lv_sub hl [1, 2, 0, 3] rfl) h
def fn_X12_pieceOf (v1 : Int32) (z : St) : Option (Int32 × St) := fn_X12_pieceOf_4   fu v1 (-1) 0 z
set_option maxHeartbeats 4000000 in
set_option maxRecDepth 100000 in
theorem m_X12_pieceOf {l : Launch} {G : wG} (hG : Ok G) {v1 : Int32} {z : St} {Rz : Int32 × St}  (h : fn_X12_pieceOf  v1 z = some Rz) : Met l yX12_pieceOf wsX12_pieceOf (rmd 1) (va_Pc [.ref (G.2.2 172), .int v1] (Pre G z)) (va_Qi (fun r u => (r, u) = Rz) (Pre G) (AW G)) 0 0 (AW G) := by
  refine Met.ofW (cc := cX12_pieceOf) (maxL := 4) (ret := (some .int)) (by decide) rfl ?_
  intro p e s m args below meth c s₁ B hml hv
  obtain ⟨rfl, hP, hK⟩ := hv
  have C : CX p s m ([.ref (G.2.2 172), .int v1] : List Value).toArray meth c cX12_pieceOf 4 wsX12_pieceOf RX12 (some .int) G := ⟨B.exec, B.bytes, hml, findClass_of_methodNamed B.named, atoms_spec (ws := wsX12_pieceOf) B.pre, B.returns, B.notSynchronized, hK, hG⟩
  obtain ⟨hx, hb, -, hown, hts, hr, hlocks, -, -⟩ := id C
  have hS : va_S (AW G) s.heap s.heap [] := va_S.rf
  have hl := lv_entry [.ref (G.2.2 172), .int v1] (n := 4) (Nat.le_of_ble_eq_true rfl)
  rw [lg_entry_eq]
  generalize (lg_sl [.ref (G.2.2 172), .int v1] ++ List.replicate (4 - (lg_sl [.ref (G.2.2 172), .int v1]).length) Slot.unset).toArray = ls at hl ⊢
  have hl : lv_has ls 4 [(0, .ref (G.2.2 172)), (1, .int v1)] := hl
  unfold fn_X12_pieceOf at h
  refine lv_iconst (v := (-1)) hx hb dX12_pieceOf_0 (by decide) ?_
  refine lv_istore_n (lv' := [(2, .int (-1)), (0, .ref (G.2.2 172)), (1, .int v1)]) hx hb dX12_pieceOf_1 rfl hl (by decide) rfl (fun ls hl => ?_)
  refine lv_iconst (v := 0) hx hb dX12_pieceOf_2 (by decide) ?_
  refine lv_istore_n (lv' := [(3, .int 0), (2, .int (-1)), (0, .ref (G.2.2 172)), (1, .int v1)]) hx hb dX12_pieceOf_3 rfl hl (by decide) rfl (fun ls hl => ?_)
  exact pf_X12_pieceOf_4 C   fu v1 (-1) 0 z  _ _ _ hP hS (lv_sub hl [2, 3, 1, 0] rfl) h
theorem in_X12_canCut_X12 : ∀ w ∈ wsX120, w ∈ wsX12_canCut := fun _ h => (List.mem_cons_of_mem _ (List.mem_append_right _ h))
def fn_X12_canCut_65 (tv0 : Int32) (tv1 : Int32) (tp2 : Nat) (tv3 : Int32) (tv4 : Int32) (z : St) : Option (Int32 × St) := gd (ix (tv3 + tv4) (ln tp2)) (bd (fn_X12_isIn  tv0 tv1 ((z.1 tp2 (Int32.toNatClampNeg (tv3 + tv4))) - 1) z) (fun r3 z4 => (if r3 = 0 then some (0, z4) else some (1, z4))))
set_option maxHeartbeats 4000000 in
set_option maxRecDepth 100000 in
theorem pf_X12_canCut_65 {p : Program} {l : Launch} {e : Env} {s : State} {m : MethodId} {args : Array Value} {below : List Frame} {meth : Method} {c : Code} {G : wG} (C : CX p s m args meth c cX12_canCut 4 wsX12_canCut RX12 (some .boolean) G) {Rz : Int32 × St} (tv0 : Int32) (tv1 : Int32) (tp2 : Nat) (tv3 : Int32) (tv4 : Int32) (z : St) (hkt2 : kd tp2 = 14) {H : Heap} {locs : List Loc} {ls : Array Slot} (hP : WP G z H) (hS : va_S (AW G) s.heap H locs) (hl : lv_has ls 4 []) (h : fn_X12_canCut_65   tv0 tv1 tp2 tv3 tv4 z = some Rz) : W p l e (rmd 2) s m args below meth c H locs 0 0 (QI below args s G Rz) (F0 m 65 ls [.int tv4, .int tv3, .ref (G.2.2 tp2), .int tv1, .int tv0]) := by
  obtain ⟨hx, hb, hml, hown, hts, hr, hlocks, hK, hG⟩ := id C
  unfold fn_X12_canCut_65 at h
  refine lv_iadd hx hb dX12_canCut_65 ?_
  obtain ⟨g1, h⟩ := gd_s h
  refine xl_14 hx hb hK hP hkt2 rfl (ix_in g1) dX12_canCut_66 ?_
  refine lv_iconst (v := 1) hx hb dX12_canCut_67 (by decide) ?_
  refine lv_isub hx hb dX12_canCut_68 ?_
  obtain ⟨r3, z4, h2, h⟩ := bd_s h
  refine x_Si (Rz := (r3, z4)) (As := [.int tv0, .int tv1, .int ((z.1 tp2 (Int32.toNatClampNeg (tv3 + tv4))) - 1)]) (rest := []) ⟨hx, hb, hml, hown, hts⟩ hK hP hS (m_X12_isIn hG   h2) (va_cwS 3 hts gX12_canCut_X12_isIn rfl rfl rfl (by decide +kernel) (rmd_ok (by decide) (by decide))) rfl hl.1 rfl (Nat.le_of_ble_eq_true rfl) dX12_canCut_69 ⟨Nat.le_refl _, Nat.le_refl _⟩ (fun H locs hP hS => ?_)
  refine lv_if_eq (tgt := 79) hx hb dX12_canCut_72 (by decide) (fun c5 => ?_) (fun c5 => ?_)
  · rw [if_pos c5] at h
    refine lv_iconst (v := 0) hx hb dX12_canCut_79 (by decide) ?_
    exact x_zret hx hb hr hlocks hK hP hS rfl h dX12_canCut_80
  · rw [if_neg c5] at h
    refine lv_iconst (v := 1) hx hb dX12_canCut_75 (by decide) ?_
    refine lv_goto (tgt := 80) hx hb dX12_canCut_76 (by decide) ?_
    exact x_zret hx hb hr hlocks hK hP hS rfl h dX12_canCut_80
def fn_X12_canCut (v1 : Int32) (v2 : Int32) (v3 : Int32) (z : St) : Option (Int32 × St) := (if v1 < 0 then some (0, z) else (if (z.1 198 (Int32.toNatClampNeg 168)) ≤ v1 then some (0, z) else (if 24 ≤ (z.1 198 (Int32.toNatClampNeg 168)) then some (0, z) else bd (fn_X12_isIn  v2 0 1 z) (fun r5 z6 => (if r5 = 0 then some (0, z6) else bd (fn_X12_isFree  v1 z6) (fun r9 z10 => (if r9 = 0 then some (0, z10) else (if v2 = 0 then fn_X12_canCut_65   v3 1 198 (7 * v1) 3 z10 else fn_X12_canCut_65   v3 1 198 (7 * v1) 4 z10))))))))
set_option maxHeartbeats 4000000 in
set_option maxRecDepth 100000 in
theorem m_X12_canCut {l : Launch} {G : wG} (hG : Ok G) {v1 : Int32} {v2 : Int32} {v3 : Int32} {z : St} {Rz : Int32 × St}  (h : fn_X12_canCut  v1 v2 v3 z = some Rz) : Met l yX12_canCut wsX12_canCut (rmd 2) (va_Pc [.ref (G.2.2 172), .int v1, .int v2, .int v3] (Pre G z)) (va_Qi (fun r u => (r, u) = Rz) (Pre G) (AW G)) 0 0 (AW G) := by
  refine Met.ofW (cc := cX12_canCut) (maxL := 4) (ret := (some .boolean)) (by decide) rfl ?_
  intro p e s m args below meth c s₁ B hml hv
  obtain ⟨rfl, hP, hK⟩ := hv
  have C : CX p s m ([.ref (G.2.2 172), .int v1, .int v2, .int v3] : List Value).toArray meth c cX12_canCut 4 wsX12_canCut RX12 (some .boolean) G := ⟨B.exec, B.bytes, hml, findClass_of_methodNamed B.named, atoms_spec (ws := wsX12_canCut) B.pre, B.returns, B.notSynchronized, hK, hG⟩
  obtain ⟨hx, hb, -, hown, hts, hr, hlocks, -, -⟩ := id C
  have hS : va_S (AW G) s.heap s.heap [] := va_S.rf
  have hl := lv_entry [.ref (G.2.2 172), .int v1, .int v2, .int v3] (n := 4) (Nat.le_of_ble_eq_true rfl)
  rw [lg_entry_eq]
  generalize (lg_sl [.ref (G.2.2 172), .int v1, .int v2, .int v3] ++ List.replicate (4 - (lg_sl [.ref (G.2.2 172), .int v1, .int v2, .int v3]).length) Slot.unset).toArray = ls at hl ⊢
  have hl : lv_has ls 4 [(0, .ref (G.2.2 172)), (1, .int v1), (2, .int v2), (3, .int v3)] := hl
  unfold fn_X12_canCut at h
  refine lv_iload_n hx hb dX12_canCut_0 rfl (lv_at hl 1 rfl) ?_
  refine lv_if_lt (tgt := 79) hx hb dX12_canCut_1 (by decide) (fun c1 => ?_) (fun c1 => ?_)
  · rw [if_pos c1] at h
    refine lv_iconst (v := 0) hx hb dX12_canCut_79 (by decide) ?_
    exact x_zret hx hb hr hlocks hK hP hS rfl h dX12_canCut_80
  · rw [if_neg c1] at h
    refine lv_iload_n hx hb dX12_canCut_4 rfl (lv_at hl 1 rfl) ?_
    refine lv_aload_n hx hb dX12_canCut_5 rfl (lv_at hl 0 rfl) ?_
    refine ge_12_49 hx hb hts in_X12_canCut_X12 hown hK hP k_172 (hts _ (List.mem_of_getElem? (i := 1) rfl)) dX12_canCut_6 ?_
    refine lv_sipush (v := 168) hx hb dX12_canCut_9 (by decide) ?_
    refine xl_14 hx hb hK hP k_198 l_198 (ix_in (by decide)) dX12_canCut_12 ?_
    refine lv_icmp_ge (tgt := 79) hx hb dX12_canCut_13 (by decide) (fun c2 => ?_) (fun c2 => ?_)
    · rw [if_pos c2] at h
      refine lv_iconst (v := 0) hx hb dX12_canCut_79 (by decide) ?_
      exact x_zret hx hb hr hlocks hK hP hS rfl h dX12_canCut_80
    · rw [if_neg c2] at h
      refine lv_aload_n hx hb dX12_canCut_16 rfl (lv_at hl 0 rfl) ?_
      refine ge_12_49 hx hb hts in_X12_canCut_X12 hown hK hP k_172 (hts _ (List.mem_of_getElem? (i := 1) rfl)) dX12_canCut_17 ?_
      refine lv_sipush (v := 168) hx hb dX12_canCut_20 (by decide) ?_
      refine xl_14 hx hb hK hP k_198 l_198 (ix_in (by decide)) dX12_canCut_23 ?_
      refine lv_bipush (v := 24) hx hb dX12_canCut_24 (by decide) ?_
      refine lv_icmp_ge (tgt := 79) hx hb dX12_canCut_26 (by decide) (fun c3 => ?_) (fun c3 => ?_)
      · rw [if_pos c3] at h
        refine lv_iconst (v := 0) hx hb dX12_canCut_79 (by decide) ?_
        exact x_zret hx hb hr hlocks hK hP hS rfl h dX12_canCut_80
      · rw [if_neg c3] at h
        refine lv_iload_n hx hb dX12_canCut_29 rfl (lv_at hl 2 rfl) ?_
        refine lv_iconst (v := 0) hx hb dX12_canCut_30 (by decide) ?_
        refine lv_iconst (v := 1) hx hb dX12_canCut_31 (by decide) ?_
        obtain ⟨r5, z6, h4, h⟩ := bd_s h
        refine x_Si (Rz := (r5, z6)) (As := [.int v2, .int 0, .int 1]) (rest := []) ⟨hx, hb, hml, hown, hts⟩ hK hP hS (m_X12_isIn hG   h4) (va_cwS 3 hts gX12_canCut_X12_isIn rfl rfl rfl (by decide +kernel) (rmd_ok (by decide) (by decide))) rfl hl.1 rfl (Nat.le_of_ble_eq_true rfl) dX12_canCut_32 ⟨Nat.le_refl _, Nat.le_refl _⟩ (fun H locs hP hS => ?_)
        refine lv_if_eq (tgt := 79) hx hb dX12_canCut_35 (by decide) (fun c7 => ?_) (fun c7 => ?_)
        · rw [if_pos c7] at h
          refine lv_iconst (v := 0) hx hb dX12_canCut_79 (by decide) ?_
          exact x_zret hx hb hr hlocks hK hP hS rfl h dX12_canCut_80
        · rw [if_neg c7] at h
          refine lv_aload_n hx hb dX12_canCut_38 rfl (lv_at hl 0 rfl) ?_
          refine lv_iload_n hx hb dX12_canCut_39 rfl (lv_at hl 1 rfl) ?_
          obtain ⟨r9, z10, h8, h⟩ := bd_s h
          refine x_Vi (Rz := (r9, z10)) (As := [.int v1]) (rest := []) ⟨hx, hb, hml, hown, hts⟩ hK hP hS (kd_lt k_172 (by decide)) (cell_12 k_172) rfl (m_X12_isFree hG   h8) (cwV 1 hts gX12_canCut_X12_isFree rfl rfl rfl (by decide +kernel) (rmd_ok (by decide) (by decide))) rfl hl.1 rfl (Nat.le_of_ble_eq_true rfl) dX12_canCut_40 ⟨Nat.le_refl _, Nat.le_refl _⟩ (fun H locs hP hS => ?_)
          refine lv_if_eq (tgt := 79) hx hb dX12_canCut_43 (by decide) (fun c11 => ?_) (fun c11 => ?_)
          · rw [if_pos c11] at h
            refine lv_iconst (v := 0) hx hb dX12_canCut_79 (by decide) ?_
            exact x_zret hx hb hr hlocks hK hP hS rfl h dX12_canCut_80
          · rw [if_neg c11] at h
            refine lv_iload_n hx hb dX12_canCut_46 rfl (lv_at hl 3 rfl) ?_
            refine lv_iconst (v := 1) hx hb dX12_canCut_47 (by decide) ?_
            refine lv_aload_n hx hb dX12_canCut_48 rfl (lv_at hl 0 rfl) ?_
            refine ge_12_49 hx hb hts in_X12_canCut_X12 hown hK hP k_172 (hts _ (List.mem_of_getElem? (i := 1) rfl)) dX12_canCut_49 ?_
            refine lv_bipush (v := 7) hx hb dX12_canCut_52 (by decide) ?_
            refine lv_iload_n hx hb dX12_canCut_54 rfl (lv_at hl 1 rfl) ?_
            refine lv_imul hx hb dX12_canCut_55 ?_
            refine lv_iload_n hx hb dX12_canCut_56 rfl (lv_at hl 2 rfl) ?_
            refine lv_if_ne (tgt := 64) hx hb dX12_canCut_57 (by decide) (fun c12 => ?_) (fun c12 => ?_)
            · rw [if_neg c12] at h
              refine lv_iconst (v := 4) hx hb dX12_canCut_64 (by decide) ?_
              exact pf_X12_canCut_65 C   v3 1 198 (7 * v1) 4 z10 k_198 hP hS (lv_sub hl [] rfl) h
            · rw [if_pos c12] at h
              refine lv_iconst (v := 3) hx hb dX12_canCut_60 (by decide) ?_
              refine lv_goto (tgt := 65) hx hb dX12_canCut_61 (by decide) ?_
              exact pf_X12_canCut_65 C   v3 1 198 (7 * v1) 3 z10 k_198 hP hS (lv_sub hl [] rfl) h
theorem in_X12_goCut_X12 : ∀ w ∈ wsX120, w ∈ wsX12_goCut := fun _ h => (List.mem_cons_of_mem _ (List.mem_append_right _ h))
def fn_X12_goCut_71 (v1 : Int32) (v3 : Int32) (v4 : Int32) (v5 : Int32) (tv0 : Int32) (z : St) : Option (Int32 × St) := gd (ix ((7 * v4) + tv0) 171) (gd (ix ((7 * v4) + tv0) 171) (nm (sI z 198 (Int32.toNatClampNeg ((7 * v4) + tv0)) ((z.1 198 (Int32.toNatClampNeg ((7 * v4) + tv0))) + v3)) (fun z3 => gd (ix ((7 * v4) + v5) 171) (gd (ix ((7 * v4) + v5) 171) (nm (sI z3 198 (Int32.toNatClampNeg ((7 * v4) + v5)) ((z3.1 198 (Int32.toNatClampNeg ((7 * v4) + v5))) - v3)) (fun z6 => gd (ix ((7 * v1) + v5) 171) (nm (sI z6 198 (Int32.toNatClampNeg ((7 * v1) + v5)) v3) (fun z8 => nm (sI z8 198 (Int32.toNatClampNeg 168) ((z8.1 198 (Int32.toNatClampNeg 168)) + 1)) (fun z9 => some (v4, z9))))))))))
set_option maxHeartbeats 4000000 in
set_option maxRecDepth 100000 in
theorem pf_X12_goCut_71 {p : Program} {l : Launch} {e : Env} {s : State} {m : MethodId} {args : Array Value} {below : List Frame} {meth : Method} {c : Code} {G : wG} (C : CX p s m args meth c cX12_goCut 7 wsX12_goCut RX12 (some .int) G) {Rz : Int32 × St} (v1 : Int32) (v3 : Int32) (v4 : Int32) (v5 : Int32) (tv0 : Int32) (z : St)  {H : Heap} {locs : List Loc} {ls : Array Slot} (hP : WP G z H) (hS : va_S (AW G) s.heap H locs) (hl : lv_has ls 7 [(0, .ref (G.2.2 172)), (1, .int v1), (3, .int v3), (4, .int v4), (5, .int v5)]) (h : fn_X12_goCut_71   v1 v3 v4 v5 tv0 z = some Rz) : W p l e (rmd 1) s m args below meth c H locs 0 0 (QI below args s G Rz) (F0 m 71 ls [.int tv0]) := by
  obtain ⟨hx, hb, hml, hown, hts, hr, hlocks, hK, hG⟩ := id C
  unfold fn_X12_goCut_71 at h
  refine lv_istore (lv' := [(6, .int tv0), (0, .ref (G.2.2 172)), (1, .int v1), (3, .int v3), (4, .int v4), (5, .int v5)]) hx hb dX12_goCut_71 hl (by decide) rfl (fun ls hl => ?_)
  refine lv_aload_n hx hb dX12_goCut_73 rfl (lv_at hl 1 rfl) ?_
  refine ge_12_49 hx hb hts in_X12_goCut_X12 hown hK hP k_172 (hts _ (List.mem_of_getElem? (i := 1) rfl)) dX12_goCut_74 ?_
  refine lv_bipush (v := 7) hx hb dX12_goCut_77 (by decide) ?_
  refine lv_iload hx hb dX12_goCut_79 (lv_at hl 4 rfl) ?_
  refine lv_imul hx hb dX12_goCut_81 ?_
  refine lv_iload hx hb dX12_goCut_82 (lv_at hl 0 rfl) ?_
  refine lv_iadd hx hb dX12_goCut_84 ?_
  refine lv_dup2_11 hx hb dX12_goCut_85 rfl rfl ?_
  obtain ⟨g1, h⟩ := gd_s h
  refine xl_14 hx hb hK hP k_198 l_198 (ix_in g1) dX12_goCut_86 ?_
  refine lv_iload_n hx hb dX12_goCut_87 rfl (lv_at hl 3 rfl) ?_
  refine lv_iadd hx hb dX12_goCut_88 ?_
  obtain ⟨g2, h⟩ := gd_s h
  obtain ⟨z3, e_z3, h⟩ := nm_s h
  refine xs_14 hx hb hK hG hP hS k_198 l_198 (ix_in g2) dX12_goCut_89 (fun H locs hP hS => ?_)
  rw [← e_z3] at hP
  refine lv_aload_n hx hb dX12_goCut_90 rfl (lv_at hl 1 rfl) ?_
  refine ge_12_49 hx hb hts in_X12_goCut_X12 hown hK hP k_172 (hts _ (List.mem_of_getElem? (i := 1) rfl)) dX12_goCut_91 ?_
  refine lv_bipush (v := 7) hx hb dX12_goCut_94 (by decide) ?_
  refine lv_iload hx hb dX12_goCut_96 (lv_at hl 4 rfl) ?_
  refine lv_imul hx hb dX12_goCut_98 ?_
  refine lv_iload hx hb dX12_goCut_99 (lv_at hl 5 rfl) ?_
  refine lv_iadd hx hb dX12_goCut_101 ?_
  refine lv_dup2_11 hx hb dX12_goCut_102 rfl rfl ?_
  obtain ⟨g4, h⟩ := gd_s h
  refine xl_14 hx hb hK hP k_198 l_198 (ix_in g4) dX12_goCut_103 ?_
  refine lv_iload_n hx hb dX12_goCut_104 rfl (lv_at hl 3 rfl) ?_
  refine lv_isub hx hb dX12_goCut_105 ?_
  obtain ⟨g5, h⟩ := gd_s h
  obtain ⟨z6, e_z6, h⟩ := nm_s h
  refine xs_14 hx hb hK hG hP hS k_198 l_198 (ix_in g5) dX12_goCut_106 (fun H locs hP hS => ?_)
  rw [← e_z6] at hP
  refine lv_aload_n hx hb dX12_goCut_107 rfl (lv_at hl 1 rfl) ?_
  refine ge_12_49 hx hb hts in_X12_goCut_X12 hown hK hP k_172 (hts _ (List.mem_of_getElem? (i := 1) rfl)) dX12_goCut_108 ?_
  refine lv_bipush (v := 7) hx hb dX12_goCut_111 (by decide) ?_
  refine lv_iload_n hx hb dX12_goCut_113 rfl (lv_at hl 2 rfl) ?_
  refine lv_imul hx hb dX12_goCut_114 ?_
  refine lv_iload hx hb dX12_goCut_115 (lv_at hl 5 rfl) ?_
  refine lv_iadd hx hb dX12_goCut_117 ?_
  refine lv_iload_n hx hb dX12_goCut_118 rfl (lv_at hl 3 rfl) ?_
  obtain ⟨g7, h⟩ := gd_s h
  obtain ⟨z8, e_z8, h⟩ := nm_s h
  refine xs_14 hx hb hK hG hP hS k_198 l_198 (ix_in g7) dX12_goCut_119 (fun H locs hP hS => ?_)
  rw [← e_z8] at hP
  refine lv_aload_n hx hb dX12_goCut_120 rfl (lv_at hl 1 rfl) ?_
  refine ge_12_49 hx hb hts in_X12_goCut_X12 hown hK hP k_172 (hts _ (List.mem_of_getElem? (i := 1) rfl)) dX12_goCut_121 ?_
  refine lv_sipush (v := 168) hx hb dX12_goCut_124 (by decide) ?_
  refine lv_dup2_11 hx hb dX12_goCut_127 rfl rfl ?_
  refine xl_14 hx hb hK hP k_198 l_198 (ix_in (by decide)) dX12_goCut_128 ?_
  refine lv_iconst (v := 1) hx hb dX12_goCut_129 (by decide) ?_
  refine lv_iadd hx hb dX12_goCut_130 ?_
  obtain ⟨z9, e_z9, h⟩ := nm_s h
  refine xs_14 hx hb hK hG hP hS k_198 l_198 (ix_in (by decide)) dX12_goCut_131 (fun H locs hP hS => ?_)
  rw [← e_z9] at hP
  refine lv_iload hx hb dX12_goCut_132 (lv_at hl 4 rfl) ?_
  exact x_iret hx hb hr hlocks hK hP hS h dX12_goCut_134
def fn_X12_goCut_60 (v1 : Int32) (v2 : Int32) (v3 : Int32) (v4 : Int32) (tv0 : Int32) (z : St) : Option (Int32 × St) := (if v2 = 0 then fn_X12_goCut_71   v1 v3 v4 tv0 1 z else fn_X12_goCut_71   v1 v3 v4 tv0 2 z)
set_option maxHeartbeats 4000000 in
set_option maxRecDepth 100000 in
theorem pf_X12_goCut_60 {p : Program} {l : Launch} {e : Env} {s : State} {m : MethodId} {args : Array Value} {below : List Frame} {meth : Method} {c : Code} {G : wG} (C : CX p s m args meth c cX12_goCut 7 wsX12_goCut RX12 (some .int) G) {Rz : Int32 × St} (v1 : Int32) (v2 : Int32) (v3 : Int32) (v4 : Int32) (tv0 : Int32) (z : St)  {H : Heap} {locs : List Loc} {ls : Array Slot} (hP : WP G z H) (hS : va_S (AW G) s.heap H locs) (hl : lv_has ls 7 [(0, .ref (G.2.2 172)), (1, .int v1), (2, .int v2), (3, .int v3), (4, .int v4)]) (h : fn_X12_goCut_60   v1 v2 v3 v4 tv0 z = some Rz) : W p l e (rmd 1) s m args below meth c H locs 0 0 (QI below args s G Rz) (F0 m 60 ls [.int tv0]) := by
  obtain ⟨hx, hb, hml, hown, hts, hr, hlocks, hK, hG⟩ := id C
  unfold fn_X12_goCut_60 at h
  refine lv_istore (lv' := [(5, .int tv0), (0, .ref (G.2.2 172)), (1, .int v1), (2, .int v2), (3, .int v3), (4, .int v4)]) hx hb dX12_goCut_60 hl (by decide) rfl (fun ls hl => ?_)
  refine lv_iload_n hx hb dX12_goCut_62 rfl (lv_at hl 3 rfl) ?_
  refine lv_if_ne (tgt := 70) hx hb dX12_goCut_63 (by decide) (fun c1 => ?_) (fun c1 => ?_)
  · rw [if_neg c1] at h
    refine lv_iconst (v := 2) hx hb dX12_goCut_70 (by decide) ?_
    exact pf_X12_goCut_71 C   v1 v3 v4 tv0 2 z  hP hS (lv_sub hl [1, 2, 4, 5, 0] rfl) h
  · rw [if_pos c1] at h
    refine lv_iconst (v := 1) hx hb dX12_goCut_66 (by decide) ?_
    refine lv_goto (tgt := 71) hx hb dX12_goCut_67 (by decide) ?_
    exact pf_X12_goCut_71 C   v1 v3 v4 tv0 1 z  hP hS (lv_sub hl [1, 2, 4, 5, 0] rfl) h
def fn_X12_goCut_13 : Nat → Int32 → Int32 → Int32 → Int32 → Int32 → St → Option (Int32 × St)
  | 0, _, _, _, _, _, _ => none
  | n + 1, v1, v2, v3, v4, v5, z => (if 7 ≤ v5 then (if v2 = 0 then fn_X12_goCut_60   v1 v2 v3 v4 3 z else fn_X12_goCut_60   v1 v2 v3 v4 4 z) else gd (ix ((7 * v1) + v5) 171) (gd (ix ((7 * v4) + v5) 171) (nm (sI z 198 (Int32.toNatClampNeg ((7 * v4) + v5)) (z.1 198 (Int32.toNatClampNeg ((7 * v1) + v5)))) (fun z5 => fn_X12_goCut_13   n v1 v2 v3 v4 (v5 + 1) z5))))
set_option maxHeartbeats 4000000 in
set_option maxRecDepth 100000 in
theorem pf_X12_goCut_13 {p : Program} {l : Launch} {e : Env} {s : State} {m : MethodId} {args : Array Value} {below : List Frame} {meth : Method} {c : Code} {G : wG} (C : CX p s m args meth c cX12_goCut 7 wsX12_goCut RX12 (some .int) G) {Rz : Int32 × St} : ∀ (n : Nat) (v1 : Int32) (v2 : Int32) (v3 : Int32) (v4 : Int32) (v5 : Int32) (z : St)  (H : Heap) (locs : List Loc) (ls : Array Slot), WP G z H → va_S (AW G) s.heap H locs → lv_has ls 7 [(0, .ref (G.2.2 172)), (1, .int v1), (2, .int v2), (3, .int v3), (4, .int v4), (5, .int v5)] → fn_X12_goCut_13   n v1 v2 v3 v4 v5 z = some Rz → W p l e (rmd 1) s m args below meth c H locs 0 0 (QI below args s G Rz) (F0 m 13 ls []) := by
  obtain ⟨hx, hb, hml, hown, hts, hr, hlocks, hK, hG⟩ := id C
  intro n
  induction n with
  | zero => intro v1 v2 v3 v4 v5 z  H locs ls hP hS hl h; cases h
  | succ n ih =>
    intro v1 v2 v3 v4 v5 z  H locs ls hP hS hl h
    rw [fn_X12_goCut_13] at h
    refine lv_iload hx hb dX12_goCut_13 (lv_at hl 5 rfl) ?_
    refine lv_bipush (v := 7) hx hb dX12_goCut_15 (by decide) ?_
    refine lv_icmp_ge (tgt := 51) hx hb dX12_goCut_17 (by decide) (fun c1 => ?_) (fun c1 => ?_)
    · rw [if_pos c1] at h
      refine lv_iload_n hx hb dX12_goCut_51 rfl (lv_at hl 2 rfl) ?_
      refine lv_if_ne (tgt := 59) hx hb dX12_goCut_52 (by decide) (fun c2 => ?_) (fun c2 => ?_)
      · rw [if_neg c2] at h
        refine lv_iconst (v := 4) hx hb dX12_goCut_59 (by decide) ?_
        exact pf_X12_goCut_60 C   v1 v2 v3 v4 4 z  hP hS (lv_sub hl [0, 1, 2, 3, 4] rfl) h
      · rw [if_pos c2] at h
        refine lv_iconst (v := 3) hx hb dX12_goCut_55 (by decide) ?_
        refine lv_goto (tgt := 60) hx hb dX12_goCut_56 (by decide) ?_
        exact pf_X12_goCut_60 C   v1 v2 v3 v4 3 z  hP hS (lv_sub hl [0, 1, 2, 3, 4] rfl) h
    · rw [if_neg c1] at h
      refine lv_aload_n hx hb dX12_goCut_20 rfl (lv_at hl 0 rfl) ?_
      refine ge_12_49 hx hb hts in_X12_goCut_X12 hown hK hP k_172 (hts _ (List.mem_of_getElem? (i := 1) rfl)) dX12_goCut_21 ?_
      refine lv_bipush (v := 7) hx hb dX12_goCut_24 (by decide) ?_
      refine lv_iload hx hb dX12_goCut_26 (lv_at hl 4 rfl) ?_
      refine lv_imul hx hb dX12_goCut_28 ?_
      refine lv_iload hx hb dX12_goCut_29 (lv_at hl 5 rfl) ?_
      refine lv_iadd hx hb dX12_goCut_31 ?_
      refine lv_aload_n hx hb dX12_goCut_32 rfl (lv_at hl 0 rfl) ?_
      refine ge_12_49 hx hb hts in_X12_goCut_X12 hown hK hP k_172 (hts _ (List.mem_of_getElem? (i := 1) rfl)) dX12_goCut_33 ?_
      refine lv_bipush (v := 7) hx hb dX12_goCut_36 (by decide) ?_
      refine lv_iload_n hx hb dX12_goCut_38 rfl (lv_at hl 1 rfl) ?_
      refine lv_imul hx hb dX12_goCut_39 ?_
      refine lv_iload hx hb dX12_goCut_40 (lv_at hl 5 rfl) ?_
      refine lv_iadd hx hb dX12_goCut_42 ?_
      obtain ⟨g3, h⟩ := gd_s h
      refine xl_14 hx hb hK hP k_198 l_198 (ix_in g3) dX12_goCut_43 ?_
      obtain ⟨g4, h⟩ := gd_s h
      obtain ⟨z5, e_z5, h⟩ := nm_s h
      refine xs_14 hx hb hK hG hP hS k_198 l_198 (ix_in g4) dX12_goCut_44 (fun H locs hP hS => ?_)
      rw [← e_z5] at hP
      refine lv_iinc (v := (v5 + 1)) (lv' := [(5, .int (v5 + 1)), (0, .ref (G.2.2 172)), (1, .int v1), (2, .int v2), (3, .int v3), (4, .int v4)]) hx hb dX12_goCut_45 hl (k := 5) rfl rfl (by decide) rfl (fun ls hl => ?_)
      refine lv_goto (tgt := 13) hx hb dX12_goCut_48 (by decide) ?_
      exact ih v1 v2 v3 v4 (v5 + 1) z5 _ _ _ hP hS (lv_sub hl [1, 2, 3, 4, 5, 0] rfl) h
def fn_X12_goCut (v1 : Int32) (v2 : Int32) (v3 : Int32) (z : St) : Option (Int32 × St) := nm (z.1 198 (Int32.toNatClampNeg 168)) (fun v4_1 => fn_X12_goCut_13   fu v1 v2 v3 v4_1 0 z)
set_option maxHeartbeats 4000000 in
set_option maxRecDepth 100000 in
theorem m_X12_goCut {l : Launch} {G : wG} (hG : Ok G) {v1 : Int32} {v2 : Int32} {v3 : Int32} {z : St} {Rz : Int32 × St}  (h : fn_X12_goCut  v1 v2 v3 z = some Rz) : Met l yX12_goCut wsX12_goCut (rmd 1) (va_Pc [.ref (G.2.2 172), .int v1, .int v2, .int v3] (Pre G z)) (va_Qi (fun r u => (r, u) = Rz) (Pre G) (AW G)) 0 0 (AW G) := by
  refine Met.ofW (cc := cX12_goCut) (maxL := 7) (ret := (some .int)) (by decide) rfl ?_
  intro p e s m args below meth c s₁ B hml hv
  obtain ⟨rfl, hP, hK⟩ := hv
  have C : CX p s m ([.ref (G.2.2 172), .int v1, .int v2, .int v3] : List Value).toArray meth c cX12_goCut 7 wsX12_goCut RX12 (some .int) G := ⟨B.exec, B.bytes, hml, findClass_of_methodNamed B.named, atoms_spec (ws := wsX12_goCut) B.pre, B.returns, B.notSynchronized, hK, hG⟩
  obtain ⟨hx, hb, -, hown, hts, hr, hlocks, -, -⟩ := id C
  have hS : va_S (AW G) s.heap s.heap [] := va_S.rf
  have hl := lv_entry [.ref (G.2.2 172), .int v1, .int v2, .int v3] (n := 7) (Nat.le_of_ble_eq_true rfl)
  rw [lg_entry_eq]
  generalize (lg_sl [.ref (G.2.2 172), .int v1, .int v2, .int v3] ++ List.replicate (7 - (lg_sl [.ref (G.2.2 172), .int v1, .int v2, .int v3]).length) Slot.unset).toArray = ls at hl ⊢
  have hl : lv_has ls 7 [(0, .ref (G.2.2 172)), (1, .int v1), (2, .int v2), (3, .int v3)] := hl
  unfold fn_X12_goCut at h
  refine lv_aload_n hx hb dX12_goCut_0 rfl (lv_at hl 0 rfl) ?_
  refine ge_12_49 hx hb hts in_X12_goCut_X12 hown hK hP k_172 (hts _ (List.mem_of_getElem? (i := 1) rfl)) dX12_goCut_1 ?_
  refine lv_sipush (v := 168) hx hb dX12_goCut_4 (by decide) ?_
  refine xl_14 hx hb hK hP k_198 l_198 (ix_in (by decide)) dX12_goCut_7 ?_
  obtain ⟨v4_1, e_v4_1, h⟩ := nm_s h
  refine x_top e_v4_1 ?_
  refine lv_istore (lv' := [(4, .int v4_1), (0, .ref (G.2.2 172)), (1, .int v1), (2, .int v2), (3, .int v3)]) hx hb dX12_goCut_8 hl (by decide) rfl (fun ls hl => ?_)
  refine lv_iconst (v := 0) hx hb dX12_goCut_10 (by decide) ?_
  refine lv_istore (lv' := [(5, .int 0), (4, .int v4_1), (0, .ref (G.2.2 172)), (1, .int v1), (2, .int v2), (3, .int v3)]) hx hb dX12_goCut_11 hl (by decide) rfl (fun ls hl => ?_)
  exact pf_X12_goCut_13 C   fu v1 v2 v3 v4_1 0 z  _ _ _ hP hS (lv_sub hl [2, 3, 4, 5, 1, 0] rfl) h
theorem in_X12_slipOf_X12 : ∀ w ∈ wsX120, w ∈ wsX12_slipOf := fun _ h => (List.mem_cons_of_mem _ (List.mem_append_right _ h))
def fn_X12_slipOf_20 (tv1 : Int32) (tv2 : Int32) (tp3 : Nat) (tv4 : Int32) (tv5 : Int32) (z : St) : Option (Int32 × St) := gd (ix (tv4 + tv5) (ln tp3)) (bv (fn_X12_askOf  tv1 tv2 (z.1 tp3 (Int32.toNatClampNeg (tv4 + tv5))) z) (fun z3 => bd (fn_X12_worked  1 0 z3) (fun r5 z6 => (if 0 ≤ r5 then (if r5 ≤ 100 then some (r5, z6) else some (100, z6)) else some (0, z6)))))
set_option maxHeartbeats 4000000 in
set_option maxRecDepth 100000 in
theorem pf_X12_slipOf_20 {p : Program} {l : Launch} {e : Env} {s : State} {m : MethodId} {args : Array Value} {below : List Frame} {meth : Method} {c : Code} {G : wG} (C : CX p s m args meth c cX12_slipOf 4 wsX12_slipOf RX12 (some .int) G) {Rz : Int32 × St} (tv1 : Int32) (tv2 : Int32) (tp3 : Nat) (tv4 : Int32) (tv5 : Int32) (z : St) (hkt3 : kd tp3 = 14) {H : Heap} {locs : List Loc} {ls : Array Slot} (hP : WP G z H) (hS : va_S (AW G) s.heap H locs) (hl : lv_has ls 4 [(0, .ref (G.2.2 172))]) (h : fn_X12_slipOf_20   tv1 tv2 tp3 tv4 tv5 z = some Rz) : W p l e (rmd 4) s m args below meth c H locs 0 0 (QI below args s G Rz) (F0 m 20 ls [.int tv5, .int tv4, .ref (G.2.2 tp3), .int tv2, .int tv1, .ref (G.2.2 172)]) := by
  obtain ⟨hx, hb, hml, hown, hts, hr, hlocks, hK, hG⟩ := id C
  unfold fn_X12_slipOf_20 at h
  refine lv_iadd hx hb dX12_slipOf_20 ?_
  obtain ⟨g1, h⟩ := gd_s h
  refine xl_14 hx hb hK hP hkt3 rfl (ix_in g1) dX12_slipOf_21 ?_
  obtain ⟨z3, h2, h⟩ := bv_s h
  refine x_Vv (Rz := z3) (As := [.int tv1, .int tv2, .int (z.1 tp3 (Int32.toNatClampNeg (tv4 + tv5)))]) (rest := []) ⟨hx, hb, hml, hown, hts⟩ hK hP hS (kd_lt k_172 (by decide)) (cell_12 k_172) rfl (m_X12_askOf hG   h2) (cwV 3 hts gX12_slipOf_X12_askOf rfl rfl rfl (by decide +kernel) (rmd_ok (by decide) (by decide))) rfl hl.1 rfl (Nat.le_of_ble_eq_true rfl) dX12_slipOf_22 ⟨Nat.le_refl _, Nat.le_refl _⟩ (fun H locs hP hS => ?_)
  refine lv_aload_n hx hb dX12_slipOf_25 rfl (lv_at hl 0 rfl) ?_
  refine lv_iconst (v := 1) hx hb dX12_slipOf_26 (by decide) ?_
  refine lv_iconst (v := 0) hx hb dX12_slipOf_27 (by decide) ?_
  obtain ⟨r5, z6, h4, h⟩ := bd_s h
  refine x_Vi (Rz := (r5, z6)) (As := [.int 1, .int 0]) (rest := []) ⟨hx, hb, hml, hown, hts⟩ hK hP hS (kd_lt k_172 (by decide)) (cell_12 k_172) rfl (m_X12_worked hG   h4) (cwV 2 hts gX12_slipOf_X12_worked rfl rfl rfl (by decide +kernel) (rmd_ok (by decide) (by decide))) rfl hl.1 rfl (Nat.le_of_ble_eq_true rfl) dX12_slipOf_28 ⟨Nat.le_refl _, Nat.le_refl _⟩ (fun H locs hP hS => ?_)
  refine lv_istore_n (lv' := [(3, .int r5), (0, .ref (G.2.2 172))]) hx hb dX12_slipOf_31 rfl hl (by decide) rfl (fun ls hl => ?_)
  refine lv_iload_n hx hb dX12_slipOf_32 rfl (lv_at hl 0 rfl) ?_
  refine lv_if_ge (tgt := 40) hx hb dX12_slipOf_33 (by decide) (fun c7 => ?_) (fun c7 => ?_)
  · rw [if_pos c7] at h
    refine lv_iload_n hx hb dX12_slipOf_40 rfl (lv_at hl 0 rfl) ?_
    refine lv_bipush (v := 100) hx hb dX12_slipOf_41 (by decide) ?_
    refine lv_icmp_le (tgt := 51) hx hb dX12_slipOf_43 (by decide) (fun c8 => ?_) (fun c8 => ?_)
    · rw [if_pos c8] at h
      refine lv_iload_n hx hb dX12_slipOf_51 rfl (lv_at hl 0 rfl) ?_
      exact x_iret hx hb hr hlocks hK hP hS h dX12_slipOf_52
    · rw [if_neg c8] at h
      refine lv_bipush (v := 100) hx hb dX12_slipOf_46 (by decide) ?_
      refine lv_goto (tgt := 52) hx hb dX12_slipOf_48 (by decide) ?_
      exact x_iret hx hb hr hlocks hK hP hS h dX12_slipOf_52
  · rw [if_neg c7] at h
    refine lv_iconst (v := 0) hx hb dX12_slipOf_36 (by decide) ?_
    refine lv_goto (tgt := 52) hx hb dX12_slipOf_37 (by decide) ?_
    exact x_iret hx hb hr hlocks hK hP hS h dX12_slipOf_52
def fn_X12_slipOf (v1 : Int32) (v2 : Int32) (z : St) : Option (Int32 × St) := (if v2 = 0 then fn_X12_slipOf_20   v1 0 198 (7 * v1) 4 z else fn_X12_slipOf_20   v1 0 198 (7 * v1) 3 z)
set_option maxHeartbeats 4000000 in
set_option maxRecDepth 100000 in
theorem m_X12_slipOf {l : Launch} {G : wG} (hG : Ok G) {v1 : Int32} {v2 : Int32} {z : St} {Rz : Int32 × St}  (h : fn_X12_slipOf  v1 v2 z = some Rz) : Met l yX12_slipOf wsX12_slipOf (rmd 4) (va_Pc [.ref (G.2.2 172), .int v1, .int v2] (Pre G z)) (va_Qi (fun r u => (r, u) = Rz) (Pre G) (AW G)) 0 0 (AW G) := by
  refine Met.ofW (cc := cX12_slipOf) (maxL := 4) (ret := (some .int)) (by decide) rfl ?_
  intro p e s m args below meth c s₁ B hml hv
  obtain ⟨rfl, hP, hK⟩ := hv
  have C : CX p s m ([.ref (G.2.2 172), .int v1, .int v2] : List Value).toArray meth c cX12_slipOf 4 wsX12_slipOf RX12 (some .int) G := ⟨B.exec, B.bytes, hml, findClass_of_methodNamed B.named, atoms_spec (ws := wsX12_slipOf) B.pre, B.returns, B.notSynchronized, hK, hG⟩
  obtain ⟨hx, hb, -, hown, hts, hr, hlocks, -, -⟩ := id C
  have hS : va_S (AW G) s.heap s.heap [] := va_S.rf
  have hl := lv_entry [.ref (G.2.2 172), .int v1, .int v2] (n := 4) (Nat.le_of_ble_eq_true rfl)
  rw [lg_entry_eq]
  generalize (lg_sl [.ref (G.2.2 172), .int v1, .int v2] ++ List.replicate (4 - (lg_sl [.ref (G.2.2 172), .int v1, .int v2]).length) Slot.unset).toArray = ls at hl ⊢
  have hl : lv_has ls 4 [(0, .ref (G.2.2 172)), (1, .int v1), (2, .int v2)] := hl
  unfold fn_X12_slipOf at h
  refine lv_aload_n hx hb dX12_slipOf_0 rfl (lv_at hl 0 rfl) ?_
  refine lv_iload_n hx hb dX12_slipOf_1 rfl (lv_at hl 1 rfl) ?_
  refine lv_iconst (v := 0) hx hb dX12_slipOf_2 (by decide) ?_
  refine lv_aload_n hx hb dX12_slipOf_3 rfl (lv_at hl 0 rfl) ?_
  refine ge_12_49 hx hb hts in_X12_slipOf_X12 hown hK hP k_172 (hts _ (List.mem_of_getElem? (i := 1) rfl)) dX12_slipOf_4 ?_
  refine lv_bipush (v := 7) hx hb dX12_slipOf_7 (by decide) ?_
  refine lv_iload_n hx hb dX12_slipOf_9 rfl (lv_at hl 1 rfl) ?_
  refine lv_imul hx hb dX12_slipOf_10 ?_
  refine lv_iload_n hx hb dX12_slipOf_11 rfl (lv_at hl 2 rfl) ?_
  refine lv_if_ne (tgt := 19) hx hb dX12_slipOf_12 (by decide) (fun c1 => ?_) (fun c1 => ?_)
  · rw [if_neg c1] at h
    refine lv_iconst (v := 3) hx hb dX12_slipOf_19 (by decide) ?_
    exact pf_X12_slipOf_20 C   v1 0 198 (7 * v1) 3 z k_198 hP hS (lv_sub hl [0] rfl) h
  · rw [if_pos c1] at h
    refine lv_iconst (v := 4) hx hb dX12_slipOf_15 (by decide) ?_
    refine lv_goto (tgt := 20) hx hb dX12_slipOf_16 (by decide) ?_
    exact pf_X12_slipOf_20 C   v1 0 198 (7 * v1) 4 z k_198 hP hS (lv_sub hl [0] rfl) h
