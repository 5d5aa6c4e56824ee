set_option maxRecDepth 20000 in
theorem ggX11_init_X7_init : GoodIn wsX11_init wsX7_init := goodIn_r _ [48, 49, 2, 3, 50, 51, 44, 52, 53, 54, 55, 56, 57, 58, 59, 60, 61, 62, 63, 64, 65, 66, 67, 68, 69, 70, 71, 72, 73, 74, 75, 76, 77, 78, 79, 80, 81, 232, 233, 234, 235, 236, 237, 238, 239, 240, 241, 242, 243, 244, 245, 246, 247, 329, 330, 331, 332, 333] (by decide +kernel) (by decide +kernel)
set_option maxRecDepth 20000 in
theorem gX11_init_X7_init : GoodIn wsX11_init (wsX7_init) := ggX11_init_X7_init
set_option maxRecDepth 20000 in
theorem ggX11_init_X6_init : GoodIn wsX11_init wsX6_init := goodIn_r _ [84, 85, 2, 3, 86, 87, 50, 88, 89, 90, 91, 92, 93, 94, 95, 96, 97, 98, 99, 100, 101, 102, 103, 104, 105, 106, 107, 108, 109, 110, 111, 112, 113, 114, 115, 116, 117, 118, 119, 120, 121, 122, 123, 124, 125, 126, 127, 128, 129, 130, 131, 132, 133, 134, 135, 136, 137, 138, 139, 140, 13, 141, 142, 248, 249, 250, 251, 252, 253, 254, 255, 256, 257, 258, 259, 260] (by decide +kernel) (by decide +kernel)
set_option maxRecDepth 20000 in
theorem gX11_init_X6_init : GoodIn wsX11_init (wsX6_init) := ggX11_init_X6_init
set_option maxRecDepth 20000 in
theorem ggX11_init_X1_init : GoodIn wsX11_init wsX1_init := goodIn_r _ [145, 146, 2, 3, 147, 148, 149, 150, 44, 151, 152, 153, 154, 155, 156, 261, 262, 263, 264, 265, 266, 334, 335, 336, 337, 338, 339, 340] (by decide +kernel) (by decide +kernel)
set_option maxRecDepth 20000 in
theorem gX11_init_X1_init : GoodIn wsX11_init (wsX1_init) := ggX11_init_X1_init
set_option maxRecDepth 20000 in
theorem ggX11_init_X10_init : GoodIn wsX11_init wsX10_init := goodIn_r _ [159, 160, 2, 3, 161, 162, 44, 163, 164, 267, 268, 269, 270, 271, 272, 273] (by decide +kernel) (by decide +kernel)
set_option maxRecDepth 20000 in
theorem gX11_init_X10_init : GoodIn wsX11_init (wsX10_init) := ggX11_init_X10_init
set_option maxRecDepth 20000 in
theorem ggX11_init_X0_init : GoodIn wsX11_init wsX0_init := goodIn_r _ [167, 168, 2, 3, 169, 170, 171, 44, 172, 173, 174, 175, 176, 177, 274, 275, 276, 277, 278, 279, 280, 281, 282, 283, 284] (by decide +kernel) (by decide +kernel)
set_option maxRecDepth 20000 in
theorem gX11_init_X0_init : GoodIn wsX11_init (wsX0_init) := ggX11_init_X0_init
set_option maxRecDepth 20000 in
theorem ggX11_init_X8_init : GoodIn wsX11_init wsX8_init := goodIn_r _ [180, 181, 2, 3, 182, 183, 44, 184, 185, 285, 286, 287, 288, 289, 290, 291, 292, 293] (by decide +kernel) (by decide +kernel)
set_option maxRecDepth 20000 in
theorem gX11_init_X8_init : GoodIn wsX11_init (wsX8_init) := ggX11_init_X8_init
set_option maxRecDepth 20000 in
theorem ggX11_init_X5_init : GoodIn wsX11_init wsX5_init := goodIn_r _ [188, 189, 2, 3, 190, 191, 192, 193, 149, 150, 194, 195, 44, 196, 197, 198, 153, 154, 155, 156, 294, 295, 296, 297, 298, 299, 300, 301, 302, 303, 304, 305, 306, 307, 308, 309, 334, 335, 336, 337, 338, 339, 340] (by decide +kernel) (by decide +kernel)
set_option maxRecDepth 20000 in
theorem gX11_init_X5_init : GoodIn wsX11_init (wsX5_init) := ggX11_init_X5_init
set_option maxRecDepth 20000 in
theorem ggX11_init_X3_init : GoodIn wsX11_init wsX3_init := goodIn_r _ [200, 201, 2, 3] (by decide +kernel) (by decide +kernel)
set_option maxRecDepth 20000 in
theorem gX11_init_X3_init_n77 : GoodIn wsX11_init (wsX3_init) := ggX11_init_X3_init
set_option maxRecDepth 20000 in
theorem ggX11_init_X4_init : GoodIn wsX11_init wsX4_init := goodIn_r _ [204, 205, 2, 3, 206, 207, 44, 208, 209, 210, 211, 212, 213, 214, 215, 50, 216, 314, 315, 316, 317, 318, 319, 320, 321, 322, 323, 324, 325, 326, 327, 328] (by decide +kernel) (by decide +kernel)
set_option maxRecDepth 20000 in
theorem gX11_init_X4_init : GoodIn wsX11_init (wsX4_init) := ggX11_init_X4_init
theorem dX11_init_0 : decode cX11_init 0 = .ok (.aload_n 0, 1) := by decide +kernel
theorem dX11_init_1 : decode cX11_init 1 = .ok (.invokespecial 1, 3) := by decide +kernel
theorem dX11_init_4 : decode cX11_init 4 = .ok (.aload_n 0, 1) := by decide +kernel
theorem dX11_init_5 : decode cX11_init 5 = .ok (.sipush 1600, 3) := by decide +kernel
theorem dX11_init_8 : decode cX11_init 8 = .ok (.newarray .byte, 2) := by decide +kernel
theorem dX11_init_10 : decode cX11_init 10 = .ok (.putfield 9, 3) := by decide +kernel
theorem dX11_init_13 : decode cX11_init 13 = .ok (.aload_n 0, 1) := by decide +kernel
theorem dX11_init_14 : decode cX11_init 14 = .ok (.new 13, 3) := by decide +kernel
theorem dX11_init_17 : decode cX11_init 17 = .ok (.dup, 1) := by decide +kernel
theorem dX11_init_18 : decode cX11_init 18 = .ok (.invokespecial 15, 3) := by decide +kernel
theorem dX11_init_21 : decode cX11_init 21 = .ok (.putfield 16, 3) := by decide +kernel
theorem dX11_init_24 : decode cX11_init 24 = .ok (.aload_n 0, 1) := by decide +kernel
theorem dX11_init_25 : decode cX11_init 25 = .ok (.new 13, 3) := by decide +kernel
theorem dX11_init_28 : decode cX11_init 28 = .ok (.dup, 1) := by decide +kernel
theorem dX11_init_29 : decode cX11_init 29 = .ok (.invokespecial 15, 3) := by decide +kernel
theorem dX11_init_32 : decode cX11_init 32 = .ok (.putfield 20, 3) := by decide +kernel
theorem dX11_init_35 : decode cX11_init 35 = .ok (.aload_n 0, 1) := by decide +kernel
theorem dX11_init_36 : decode cX11_init 36 = .ok (.new 23, 3) := by decide +kernel
theorem dX11_init_39 : decode cX11_init 39 = .ok (.dup, 1) := by decide +kernel
theorem dX11_init_40 : decode cX11_init 40 = .ok (.aload_n 0, 1) := by decide +kernel
theorem dX11_init_41 : decode cX11_init 41 = .ok (.getfield 9, 3) := by decide +kernel
theorem dX11_init_44 : decode cX11_init 44 = .ok (.aload_n 0, 1) := by decide +kernel
theorem dX11_init_45 : decode cX11_init 45 = .ok (.getfield 20, 3) := by decide +kernel
theorem dX11_init_48 : decode cX11_init 48 = .ok (.invokespecial 25, 3) := by decide +kernel
theorem dX11_init_51 : decode cX11_init 51 = .ok (.putfield 28, 3) := by decide +kernel
theorem dX11_init_54 : decode cX11_init 54 = .ok (.aload_n 0, 1) := by decide +kernel
theorem dX11_init_55 : decode cX11_init 55 = .ok (.new 32, 3) := by decide +kernel
theorem dX11_init_58 : decode cX11_init 58 = .ok (.dup, 1) := by decide +kernel
theorem dX11_init_59 : decode cX11_init 59 = .ok (.invokespecial 34, 3) := by decide +kernel
theorem dX11_init_62 : decode cX11_init 62 = .ok (.putfield 35, 3) := by decide +kernel
theorem dX11_init_65 : decode cX11_init 65 = .ok (.aload_n 0, 1) := by decide +kernel
theorem dX11_init_66 : decode cX11_init 66 = .ok (.iconst 3, 1) := by decide +kernel
theorem dX11_init_67 : decode cX11_init 67 = .ok (.anewarray 32, 3) := by decide +kernel
theorem dX11_init_70 : decode cX11_init 70 = .ok (.putfield 39, 3) := by decide +kernel
theorem dX11_init_73 : decode cX11_init 73 = .ok (.iconst 0, 1) := by decide +kernel
theorem dX11_init_74 : decode cX11_init 74 = .ok (.istore_n 1, 1) := by decide +kernel
theorem dX11_init_75 : decode cX11_init 75 = .ok (.iload_n 1, 1) := by decide +kernel
theorem dX11_init_76 : decode cX11_init 76 = .ok (.iconst 3, 1) := by decide +kernel
theorem dX11_init_77 : decode cX11_init 77 = .ok (.if_icmp .ge 22, 3) := by decide +kernel
theorem dX11_init_80 : decode cX11_init 80 = .ok (.aload_n 0, 1) := by decide +kernel
theorem dX11_init_81 : decode cX11_init 81 = .ok (.getfield 39, 3) := by decide +kernel
theorem dX11_init_84 : decode cX11_init 84 = .ok (.iload_n 1, 1) := by decide +kernel
theorem dX11_init_85 : decode cX11_init 85 = .ok (.new 32, 3) := by decide +kernel
theorem dX11_init_88 : decode cX11_init 88 = .ok (.dup, 1) := by decide +kernel
theorem dX11_init_89 : decode cX11_init 89 = .ok (.invokespecial 34, 3) := by decide +kernel
theorem dX11_init_92 : decode cX11_init 92 = .ok (.aastore, 1) := by decide +kernel
theorem dX11_init_93 : decode cX11_init 93 = .ok (.iinc 1 1, 3) := by decide +kernel
theorem dX11_init_96 : decode cX11_init 96 = .ok (.goto (-21), 3) := by decide +kernel
theorem dX11_init_99 : decode cX11_init 99 = .ok (.aload_n 0, 1) := by decide +kernel
theorem dX11_init_100 : decode cX11_init 100 = .ok (.new 43, 3) := by decide +kernel
theorem dX11_init_103 : decode cX11_init 103 = .ok (.dup, 1) := by decide +kernel
theorem dX11_init_104 : decode cX11_init 104 = .ok (.aload_n 0, 1) := by decide +kernel
theorem dX11_init_105 : decode cX11_init 105 = .ok (.getfield 16, 3) := by decide +kernel
theorem dX11_init_108 : decode cX11_init 108 = .ok (.aload_n 0, 1) := by decide +kernel
theorem dX11_init_109 : decode cX11_init 109 = .ok (.getfield 35, 3) := by decide +kernel
theorem dX11_init_112 : decode cX11_init 112 = .ok (.invokespecial 45, 3) := by decide +kernel
theorem dX11_init_115 : decode cX11_init 115 = .ok (.putfield 48, 3) := by decide +kernel
theorem dX11_init_118 : decode cX11_init 118 = .ok (.aload_n 0, 1) := by decide +kernel
theorem dX11_init_119 : decode cX11_init 119 = .ok (.new 52, 3) := by decide +kernel
theorem dX11_init_122 : decode cX11_init 122 = .ok (.dup, 1) := by decide +kernel
theorem dX11_init_123 : decode cX11_init 123 = .ok (.aload_n 0, 1) := by decide +kernel
theorem dX11_init_124 : decode cX11_init 124 = .ok (.getfield 16, 3) := by decide +kernel
theorem dX11_init_127 : decode cX11_init 127 = .ok (.aload_n 0, 1) := by decide +kernel
theorem dX11_init_128 : decode cX11_init 128 = .ok (.getfield 35, 3) := by decide +kernel
theorem dX11_init_131 : decode cX11_init 131 = .ok (.aload_n 0, 1) := by decide +kernel
theorem dX11_init_132 : decode cX11_init 132 = .ok (.getfield 48, 3) := by decide +kernel
theorem dX11_init_135 : decode cX11_init 135 = .ok (.invokespecial 54, 3) := by decide +kernel
theorem dX11_init_138 : decode cX11_init 138 = .ok (.putfield 57, 3) := by decide +kernel
theorem dX11_init_141 : decode cX11_init 141 = .ok (.aload_n 0, 1) := by decide +kernel
theorem dX11_init_142 : decode cX11_init 142 = .ok (.new 61, 3) := by decide +kernel
theorem dX11_init_145 : decode cX11_init 145 = .ok (.dup, 1) := by decide +kernel
theorem dX11_init_146 : decode cX11_init 146 = .ok (.aload_n 0, 1) := by decide +kernel
theorem dX11_init_147 : decode cX11_init 147 = .ok (.getfield 16, 3) := by decide +kernel
theorem dX11_init_150 : decode cX11_init 150 = .ok (.aload_n 0, 1) := by decide +kernel
theorem dX11_init_151 : decode cX11_init 151 = .ok (.getfield 35, 3) := by decide +kernel
theorem dX11_init_154 : decode cX11_init 154 = .ok (.invokespecial 63, 3) := by decide +kernel
theorem dX11_init_157 : decode cX11_init 157 = .ok (.putfield 64, 3) := by decide +kernel
theorem dX11_init_160 : decode cX11_init 160 = .ok (.aload_n 0, 1) := by decide +kernel
theorem dX11_init_161 : decode cX11_init 161 = .ok (.new 68, 3) := by decide +kernel
theorem dX11_init_164 : decode cX11_init 164 = .ok (.dup, 1) := by decide +kernel
theorem dX11_init_165 : decode cX11_init 165 = .ok (.aload_n 0, 1) := by decide +kernel
theorem dX11_init_166 : decode cX11_init 166 = .ok (.getfield 16, 3) := by decide +kernel
theorem dX11_init_169 : decode cX11_init 169 = .ok (.aload_n 0, 1) := by decide +kernel
theorem dX11_init_170 : decode cX11_init 170 = .ok (.getfield 35, 3) := by decide +kernel
theorem dX11_init_173 : decode cX11_init 173 = .ok (.aload_n 0, 1) := by decide +kernel
theorem dX11_init_174 : decode cX11_init 174 = .ok (.getfield 48, 3) := by decide +kernel
theorem dX11_init_177 : decode cX11_init 177 = .ok (.invokespecial 70, 3) := by decide +kernel
theorem dX11_init_180 : decode cX11_init 180 = .ok (.putfield 71, 3) := by decide +kernel
theorem dX11_init_183 : decode cX11_init 183 = .ok (.aload_n 0, 1) := by decide +kernel
theorem dX11_init_184 : decode cX11_init 184 = .ok (.new 75, 3) := by decide +kernel
theorem dX11_init_187 : decode cX11_init 187 = .ok (.dup, 1) := by decide +kernel
theorem dX11_init_188 : decode cX11_init 188 = .ok (.invokespecial 77, 3) := by decide +kernel
theorem dX11_init_191 : decode cX11_init 191 = .ok (.putfield 78, 3) := by decide +kernel
theorem dX11_init_194 : decode cX11_init 194 = .ok (.aload_n 0, 1) := by decide +kernel
theorem dX11_init_195 : decode cX11_init 195 = .ok (.new 82, 3) := by decide +kernel
theorem dX11_init_198 : decode cX11_init 198 = .ok (.dup, 1) := by decide +kernel
theorem dX11_init_199 : decode cX11_init 199 = .ok (.aload_n 0, 1) := by decide +kernel
theorem dX11_init_200 : decode cX11_init 200 = .ok (.getfield 16, 3) := by decide +kernel
theorem dX11_init_203 : decode cX11_init 203 = .ok (.aload_n 0, 1) := by decide +kernel
theorem dX11_init_204 : decode cX11_init 204 = .ok (.getfield 78, 3) := by decide +kernel
theorem dX11_init_207 : decode cX11_init 207 = .ok (.invokespecial 84, 3) := by decide +kernel
theorem dX11_init_210 : decode cX11_init 210 = .ok (.putfield 87, 3) := by decide +kernel
theorem dX11_init_213 : decode cX11_init 213 = .ok (.aload_n 0, 1) := by decide +kernel
theorem dX11_init_214 : decode cX11_init 214 = .ok (.bipush 6, 2) := by decide +kernel
theorem dX11_init_216 : decode cX11_init 216 = .ok (.newarray .int, 2) := by decide +kernel
theorem dX11_init_218 : decode cX11_init 218 = .ok (.putfield 91, 3) := by decide +kernel
theorem dX11_init_221 : decode cX11_init 221 = .ok (.return_, 1) := by decide +kernel
set_option maxRecDepth 20000 in
theorem ggX11_feed_X11_putOnTape : GoodIn wsX11_feed wsX11_putOnTape := goodIn_r _ [6, 1, 7, 8, 9, 10, 11, 12, 13, 14, 15, 16, 17, 18, 19, 20, 21, 22] (by decide +kernel) (by decide +kernel)
set_option maxRecDepth 20000 in
theorem gX11_feed_X11_putOnTape : GoodIn wsX11_feed (wsV RX11 99 RX11 yX11_putOnTape wsX11_putOnTape) := goodIn_app (goodIn_of _ (by decide +kernel)) ggX11_feed_X11_putOnTape
theorem dX11_feed_0 : decode cX11_feed 0 = .ok (.aload_n 0, 1) := by decide +kernel
theorem dX11_feed_1 : decode cX11_feed 1 = .ok (.getfield 95, 3) := by decide +kernel
theorem dX11_feed_4 : decode cX11_feed 4 = .ok (.sipush 1580, 3) := by decide +kernel
theorem dX11_feed_7 : decode cX11_feed 7 = .ok (.if_icmp .le 5, 3) := by decide +kernel
theorem dX11_feed_10 : decode cX11_feed 10 = .ok (.iconst (-1), 1) := by decide +kernel
theorem dX11_feed_11 : decode cX11_feed 11 = .ok (.ireturn, 1) := by decide +kernel
theorem dX11_feed_12 : decode cX11_feed 12 = .ok (.aload_n 0, 1) := by decide +kernel
theorem dX11_feed_13 : decode cX11_feed 13 = .ok (.iload_n 1, 1) := by decide +kernel
theorem dX11_feed_14 : decode cX11_feed 14 = .ok (.invokevirtual 99, 3) := by decide +kernel
theorem dX11_feed_17 : decode cX11_feed 17 = .ok (.aload_n 0, 1) := by decide +kernel
theorem dX11_feed_18 : decode cX11_feed 18 = .ok (.iload_n 2, 1) := by decide +kernel
theorem dX11_feed_19 : decode cX11_feed 19 = .ok (.invokevirtual 99, 3) := by decide +kernel
theorem dX11_feed_22 : decode cX11_feed 22 = .ok (.aload_n 0, 1) := by decide +kernel
theorem dX11_feed_23 : decode cX11_feed 23 = .ok (.iload_n 3, 1) := by decide +kernel
theorem dX11_feed_24 : decode cX11_feed 24 = .ok (.invokevirtual 99, 3) := by decide +kernel
theorem dX11_feed_27 : decode cX11_feed 27 = .ok (.aload_n 0, 1) := by decide +kernel
theorem dX11_feed_28 : decode cX11_feed 28 = .ok (.iload 4, 2) := by decide +kernel
theorem dX11_feed_30 : decode cX11_feed 30 = .ok (.invokevirtual 99, 3) := by decide +kernel
theorem dX11_feed_33 : decode cX11_feed 33 = .ok (.aload_n 0, 1) := by decide +kernel
theorem dX11_feed_34 : decode cX11_feed 34 = .ok (.iload 5, 2) := by decide +kernel
theorem dX11_feed_36 : decode cX11_feed 36 = .ok (.invokevirtual 99, 3) := by decide +kernel
theorem dX11_feed_39 : decode cX11_feed 39 = .ok (.aload_n 0, 1) := by decide +kernel
theorem dX11_feed_40 : decode cX11_feed 40 = .ok (.getfield 95, 3) := by decide +kernel
theorem dX11_feed_43 : decode cX11_feed 43 = .ok (.ireturn, 1) := by decide +kernel
theorem dX11_putOnTape_0 : decode cX11_putOnTape 0 = .ok (.bipush 24, 2) := by decide +kernel
theorem dX11_putOnTape_2 : decode cX11_putOnTape 2 = .ok (.istore_n 2, 1) := by decide +kernel
theorem dX11_putOnTape_3 : decode cX11_putOnTape 3 = .ok (.iload_n 2, 1) := by decide +kernel
theorem dX11_putOnTape_4 : decode cX11_putOnTape 4 = .ok (.ifCond .lt 44, 3) := by decide +kernel
theorem dX11_putOnTape_7 : decode cX11_putOnTape 7 = .ok (.aload_n 0, 1) := by decide +kernel
theorem dX11_putOnTape_8 : decode cX11_putOnTape 8 = .ok (.getfield 95, 3) := by decide +kernel
theorem dX11_putOnTape_11 : decode cX11_putOnTape 11 = .ok (.aload_n 0, 1) := by decide +kernel
theorem dX11_putOnTape_12 : decode cX11_putOnTape 12 = .ok (.getfield 9, 3) := by decide +kernel
theorem dX11_putOnTape_15 : decode cX11_putOnTape 15 = .ok (.arraylength, 1) := by decide +kernel
theorem dX11_putOnTape_16 : decode cX11_putOnTape 16 = .ok (.if_icmp .ge 26, 3) := by decide +kernel
theorem dX11_putOnTape_19 : decode cX11_putOnTape 19 = .ok (.aload_n 0, 1) := by decide +kernel
theorem dX11_putOnTape_20 : decode cX11_putOnTape 20 = .ok (.getfield 9, 3) := by decide +kernel
theorem dX11_putOnTape_23 : decode cX11_putOnTape 23 = .ok (.aload_n 0, 1) := by decide +kernel
theorem dX11_putOnTape_24 : decode cX11_putOnTape 24 = .ok (.getfield 95, 3) := by decide +kernel
theorem dX11_putOnTape_27 : decode cX11_putOnTape 27 = .ok (.iload_n 1, 1) := by decide +kernel
theorem dX11_putOnTape_28 : decode cX11_putOnTape 28 = .ok (.iload_n 2, 1) := by decide +kernel
theorem dX11_putOnTape_29 : decode cX11_putOnTape 29 = .ok (.ishr, 1) := by decide +kernel
theorem dX11_putOnTape_30 : decode cX11_putOnTape 30 = .ok (.i2b, 1) := by decide +kernel
theorem dX11_putOnTape_31 : decode cX11_putOnTape 31 = .ok (.bastore, 1) := by decide +kernel
theorem dX11_putOnTape_32 : decode cX11_putOnTape 32 = .ok (.aload_n 0, 1) := by decide +kernel
theorem dX11_putOnTape_33 : decode cX11_putOnTape 33 = .ok (.dup, 1) := by decide +kernel
theorem dX11_putOnTape_34 : decode cX11_putOnTape 34 = .ok (.getfield 95, 3) := by decide +kernel
theorem dX11_putOnTape_37 : decode cX11_putOnTape 37 = .ok (.iconst 1, 1) := by decide +kernel
theorem dX11_putOnTape_38 : decode cX11_putOnTape 38 = .ok (.iadd, 1) := by decide +kernel
theorem dX11_putOnTape_39 : decode cX11_putOnTape 39 = .ok (.putfield 95, 3) := by decide +kernel
theorem dX11_putOnTape_42 : decode cX11_putOnTape 42 = .ok (.iinc 2 (-8), 3) := by decide +kernel
theorem dX11_putOnTape_45 : decode cX11_putOnTape 45 = .ok (.goto (-42), 3) := by decide +kernel
theorem dX11_putOnTape_48 : decode cX11_putOnTape 48 = .ok (.return_, 1) := by decide +kernel
theorem dX11_end_0 : decode cX11_end 0 = .ok (.iload_n 1, 1) := by decide +kernel
theorem dX11_end_1 : decode cX11_end 1 = .ok (.ifCond .lt 11, 3) := by decide +kernel
theorem dX11_end_4 : decode cX11_end 4 = .ok (.iload_n 1, 1) := by decide +kernel
theorem dX11_end_5 : decode cX11_end 5 = .ok (.aload_n 0, 1) := by decide +kernel
theorem dX11_end_6 : decode cX11_end 6 = .ok (.getfield 95, 3) := by decide +kernel
theorem dX11_end_9 : decode cX11_end 9 = .ok (.if_icmp .le 5, 3) := by decide +kernel
theorem dX11_end_12 : decode cX11_end 12 = .ok (.iconst (-1), 1) := by decide +kernel
theorem dX11_end_13 : decode cX11_end 13 = .ok (.ireturn, 1) := by decide +kernel
theorem dX11_end_14 : decode cX11_end 14 = .ok (.aload_n 0, 1) := by decide +kernel
theorem dX11_end_15 : decode cX11_end 15 = .ok (.iload_n 1, 1) := by decide +kernel
theorem dX11_end_16 : decode cX11_end 16 = .ok (.putfield 95, 3) := by decide +kernel
theorem dX11_end_19 : decode cX11_end 19 = .ok (.iload_n 1, 1) := by decide +kernel
theorem dX11_end_20 : decode cX11_end 20 = .ok (.ireturn, 1) := by decide +kernel
set_option maxRecDepth 20000 in
theorem ggX11_cake_X6_readAll : GoodIn wsX11_cake wsX6_readAll := goodIn_r _ [16, 17, 18, 19, 20, 21, 22, 23, 24, 25, 26, 27, 28, 29, 30, 31, 32, 33, 34, 35, 36, 37, 38, 39, 40, 41, 42, 43, 44, 45, 46, 47, 48, 49, 50, 51, 52, 53, 54, 55, 56, 15, 57, 58, 59, 60, 61, 62, 63, 64, 65, 66, 67, 68, 69, 70, 71, 72, 73, 74, 75, 76, 77, 78, 79, 80, 81, 82, 83, 84, 85, 86, 87, 88, 89, 90, 91, 92, 93, 94, 95, 96, 97, 98, 99, 100, 101, 102, 103, 104, 105, 106, 107, 108, 109, 110, 111, 112, 113, 114, 115, 116, 117, 118, 119, 120, 121, 122, 123, 124, 125, 126, 127, 128, 129, 130, 131, 132, 133, 134, 135, 136, 137, 138, 139, 140, 141, 142, 143, 144, 145, 146, 147, 148, 149, 150, 151, 152, 153, 154, 155, 156, 157, 158, 159, 160, 161, 162, 163, 164, 165, 166, 167, 168, 169, 170, 171, 172, 173, 174, 175, 176, 177, 178, 179, 180, 181, 182, 183, 184, 185, 186, 187, 188, 189, 190, 191, 192, 193, 194, 195, 196, 197, 198, 199, 200, 201, 202, 203, 204, 205, 206, 207, 208, 209, 210, 211, 212, 213, 298, 299, 300, 301, 302, 303, 304, 305, 306, 307, 308, 309, 310, 282, 283, 284, 285, 286, 287, 288, 289, 290, 291, 292, 293, 294, 295, 296, 297, 311, 312, 313, 314, 315] (by decide +kernel) (by decide +kernel)
set_option maxRecDepth 20000 in
theorem gX11_cake_X6_readAll : GoodIn wsX11_cake (wsV RX11 103 RX6 yX6_readAll wsX6_readAll) := goodIn_app (goodIn_of _ (by decide +kernel)) ggX11_cake_X6_readAll
set_option maxRecDepth 20000 in
theorem ggX11_cake_X7_takeFrom : GoodIn wsX11_cake wsX7_takeFrom := goodIn_r _ [217, 33, 140, 141, 142, 34, 153, 154, 155, 35, 36, 37, 39, 218, 219, 220, 44, 221, 46, 53, 47, 48, 282, 283, 284, 285, 286, 287, 288, 289, 290, 291, 292, 293, 294, 295, 296, 297, 311, 312, 313, 314, 315] (by decide +kernel) (by decide +kernel)
set_option maxRecDepth 20000 in
theorem gX11_cake_X7_takeFrom : GoodIn wsX11_cake (wsV RX11 107 RX7 yX7_takeFrom wsX7_takeFrom) := goodIn_app (goodIn_of _ (by decide +kernel)) ggX11_cake_X7_takeFrom
set_option maxRecDepth 20000 in
theorem ggX11_cake_X1_lay : GoodIn wsX11_cake wsX1_lay := goodIn_r _ [226, 227, 228, 229, 230, 231, 232, 233, 234, 235, 236, 237, 238, 239, 240, 241, 242, 243, 244, 245, 246, 247, 282, 283, 284, 285, 286, 287, 288, 289, 290, 291, 292, 293, 294, 295, 296, 297, 276, 277, 278, 279, 280, 281, 316, 317, 318, 319, 320, 321, 322] (by decide +kernel) (by decide +kernel)
set_option maxRecDepth 20000 in
theorem gX11_cake_X1_lay : GoodIn wsX11_cake (wsV RX11 111 RX1 yX1_lay wsX1_lay) := goodIn_app (goodIn_of _ (by decide +kernel)) ggX11_cake_X1_lay
set_option maxRecDepth 20000 in
theorem ggX11_cake_X0_forget : GoodIn wsX11_cake wsX0_forget := goodIn_r _ [252, 253, 254, 323, 324, 325, 326, 327, 328, 329, 330, 331, 332, 333] (by decide +kernel) (by decide +kernel)
set_option maxRecDepth 20000 in
theorem gX11_cake_X0_forget : GoodIn wsX11_cake (wsV RX11 118 RX0 yX0_forget wsX0_forget) := goodIn_app (goodIn_of _ (by decide +kernel)) ggX11_cake_X0_forget
set_option maxRecDepth 20000 in
theorem ggX11_cake_X4_forget : GoodIn wsX11_cake wsX4_forget := goodIn_r _ [259, 260, 334, 335, 336, 337, 338, 339, 340, 341, 342, 343, 344, 345, 346, 347, 348] (by decide +kernel) (by decide +kernel)
set_option maxRecDepth 20000 in
theorem gX11_cake_X4_forget : GoodIn wsX11_cake (wsV RX11 121 RX4 yX4_forget wsX4_forget) := goodIn_app (goodIn_of _ (by decide +kernel)) ggX11_cake_X4_forget
theorem dX11_cake_0 : decode cX11_cake 0 = .ok (.aload_n 0, 1) := by decide +kernel
theorem dX11_cake_1 : decode cX11_cake 1 = .ok (.getfield 28, 3) := by decide +kernel
theorem dX11_cake_4 : decode cX11_cake 4 = .ok (.aload_n 0, 1) := by decide +kernel
theorem dX11_cake_5 : decode cX11_cake 5 = .ok (.getfield 95, 3) := by decide +kernel
theorem dX11_cake_8 : decode cX11_cake 8 = .ok (.invokevirtual 103, 3) := by decide +kernel
theorem dX11_cake_11 : decode cX11_cake 11 = .ok (.istore_n 1, 1) := by decide +kernel
theorem dX11_cake_12 : decode cX11_cake 12 = .ok (.aload_n 0, 1) := by decide +kernel
theorem dX11_cake_13 : decode cX11_cake 13 = .ok (.iconst 0, 1) := by decide +kernel
theorem dX11_cake_14 : decode cX11_cake 14 = .ok (.putfield 95, 3) := by decide +kernel
theorem dX11_cake_17 : decode cX11_cake 17 = .ok (.iload_n 1, 1) := by decide +kernel
theorem dX11_cake_18 : decode cX11_cake 18 = .ok (.ifCond .ne 5, 3) := by decide +kernel
theorem dX11_cake_21 : decode cX11_cake 21 = .ok (.iconst (-1), 1) := by decide +kernel
theorem dX11_cake_22 : decode cX11_cake 22 = .ok (.ireturn, 1) := by decide +kernel
theorem dX11_cake_23 : decode cX11_cake 23 = .ok (.aload_n 0, 1) := by decide +kernel
theorem dX11_cake_24 : decode cX11_cake 24 = .ok (.getfield 16, 3) := by decide +kernel
theorem dX11_cake_27 : decode cX11_cake 27 = .ok (.aload_n 0, 1) := by decide +kernel
theorem dX11_cake_28 : decode cX11_cake 28 = .ok (.getfield 20, 3) := by decide +kernel
theorem dX11_cake_31 : decode cX11_cake 31 = .ok (.invokevirtual 107, 3) := by decide +kernel
theorem dX11_cake_34 : decode cX11_cake 34 = .ok (.aload_n 0, 1) := by decide +kernel
theorem dX11_cake_35 : decode cX11_cake 35 = .ok (.getfield 35, 3) := by decide +kernel
theorem dX11_cake_38 : decode cX11_cake 38 = .ok (.aload_n 0, 1) := by decide +kernel
theorem dX11_cake_39 : decode cX11_cake 39 = .ok (.getfield 16, 3) := by decide +kernel
theorem dX11_cake_42 : decode cX11_cake 42 = .ok (.invokevirtual 111, 3) := by decide +kernel
theorem dX11_cake_45 : decode cX11_cake 45 = .ok (.iconst 0, 1) := by decide +kernel
theorem dX11_cake_46 : decode cX11_cake 46 = .ok (.istore_n 2, 1) := by decide +kernel
theorem dX11_cake_47 : decode cX11_cake 47 = .ok (.iload_n 2, 1) := by decide +kernel
theorem dX11_cake_48 : decode cX11_cake 48 = .ok (.aload_n 0, 1) := by decide +kernel
theorem dX11_cake_49 : decode cX11_cake 49 = .ok (.getfield 39, 3) := by decide +kernel
theorem dX11_cake_52 : decode cX11_cake 52 = .ok (.arraylength, 1) := by decide +kernel
theorem dX11_cake_53 : decode cX11_cake 53 = .ok (.if_icmp .ge 19, 3) := by decide +kernel
theorem dX11_cake_56 : decode cX11_cake 56 = .ok (.aload_n 0, 1) := by decide +kernel
theorem dX11_cake_57 : decode cX11_cake 57 = .ok (.getfield 39, 3) := by decide +kernel
theorem dX11_cake_60 : decode cX11_cake 60 = .ok (.iload_n 2, 1) := by decide +kernel
theorem dX11_cake_61 : decode cX11_cake 61 = .ok (.aaload, 1) := by decide +kernel
theorem dX11_cake_62 : decode cX11_cake 62 = .ok (.iconst 0, 1) := by decide +kernel
theorem dX11_cake_63 : decode cX11_cake 63 = .ok (.putfield 114, 3) := by decide +kernel
theorem dX11_cake_66 : decode cX11_cake 66 = .ok (.iinc 2 1, 3) := by decide +kernel
theorem dX11_cake_69 : decode cX11_cake 69 = .ok (.goto (-22), 3) := by decide +kernel
theorem dX11_cake_72 : decode cX11_cake 72 = .ok (.aload_n 0, 1) := by decide +kernel
theorem dX11_cake_73 : decode cX11_cake 73 = .ok (.getfield 57, 3) := by decide +kernel
theorem dX11_cake_76 : decode cX11_cake 76 = .ok (.invokevirtual 118, 3) := by decide +kernel
theorem dX11_cake_79 : decode cX11_cake 79 = .ok (.aload_n 0, 1) := by decide +kernel
theorem dX11_cake_80 : decode cX11_cake 80 = .ok (.getfield 87, 3) := by decide +kernel
theorem dX11_cake_83 : decode cX11_cake 83 = .ok (.invokevirtual 121, 3) := by decide +kernel
theorem dX11_cake_86 : decode cX11_cake 86 = .ok (.aload_n 0, 1) := by decide +kernel
theorem dX11_cake_87 : decode cX11_cake 87 = .ok (.iconst 0, 1) := by decide +kernel
theorem dX11_cake_88 : decode cX11_cake 88 = .ok (.putfield 122, 3) := by decide +kernel
theorem dX11_cake_91 : decode cX11_cake 91 = .ok (.aload_n 0, 1) := by decide +kernel
theorem dX11_cake_92 : decode cX11_cake 92 = .ok (.getfield 16, 3) := by decide +kernel
theorem dX11_cake_95 : decode cX11_cake 95 = .ok (.getfield 125, 3) := by decide +kernel
theorem dX11_cake_98 : decode cX11_cake 98 = .ok (.ireturn, 1) := by decide +kernel
theorem dX11_fault_0 : decode cX11_fault 0 = .ok (.iload_n 1, 1) := by decide +kernel
theorem dX11_fault_1 : decode cX11_fault 1 = .ok (.lookupswitch 43 #[(0, 27), (1, 35)], 27) := by decide +kernel
theorem dX11_fault_28 : decode cX11_fault 28 = .ok (.aload_n 0, 1) := by decide +kernel
theorem dX11_fault_29 : decode cX11_fault 29 = .ok (.getfield 28, 3) := by decide +kernel
theorem dX11_fault_32 : decode cX11_fault 32 = .ok (.getfield 128, 3) := by decide +kernel
theorem dX11_fault_35 : decode cX11_fault 35 = .ok (.ireturn, 1) := by decide +kernel
theorem dX11_fault_36 : decode cX11_fault 36 = .ok (.aload_n 0, 1) := by decide +kernel
theorem dX11_fault_37 : decode cX11_fault 37 = .ok (.getfield 28, 3) := by decide +kernel
theorem dX11_fault_40 : decode cX11_fault 40 = .ok (.getfield 131, 3) := by decide +kernel
theorem dX11_fault_43 : decode cX11_fault 43 = .ok (.ireturn, 1) := by decide +kernel
theorem dX11_fault_44 : decode cX11_fault 44 = .ok (.iconst (-1), 1) := by decide +kernel
theorem dX11_fault_45 : decode cX11_fault 45 = .ok (.ireturn, 1) := by decide +kernel
set_option maxRecDepth 20000 in
theorem ggX11_piece_X1_isPiece : GoodIn wsX11_piece wsX1_isPiece := goodIn_r _ [15, 16, 54, 55, 56, 57, 58, 59] (by decide +kernel) (by decide +kernel)
set_option maxRecDepth 20000 in
theorem gX11_piece_X1_isPiece : GoodIn wsX11_piece (wsV RX11 134 RX1 yX1_isPiece wsX1_isPiece) := goodIn_app (goodIn_of _ (by decide +kernel)) ggX11_piece_X1_isPiece
set_option maxRecDepth 20000 in
theorem ggX11_piece_X7_areaOf : GoodIn wsX11_piece wsX7_areaOf := goodIn_r _ [21, 22, 23, 24, 25, 26, 27, 28, 20, 29, 30, 60, 61, 62, 63, 64, 65, 66, 67, 68, 69, 70, 71, 72, 73, 74, 75, 76, 77, 78, 79, 80, 81, 82] (by decide +kernel) (by decide +kernel)
set_option maxRecDepth 20000 in
theorem gX11_piece_X7_areaOf : GoodIn wsX11_piece (wsV RX11 158 RX7 yX7_areaOf wsX7_areaOf) := goodIn_app (goodIn_of _ (by decide +kernel)) ggX11_piece_X7_areaOf
set_option maxRecDepth 20000 in
theorem ggX11_piece_X7_icingOf : GoodIn wsX11_piece wsX7_icingOf := goodIn_r _ [34, 22, 35, 24, 23, 36, 37, 38, 26, 27, 28, 20, 29, 30, 60, 61, 62, 63, 64, 65, 66, 67, 68, 69, 70, 71, 72, 73, 74, 75, 76, 77, 78, 79, 80, 81, 82] (by decide +kernel) (by decide +kernel)
set_option maxRecDepth 20000 in
theorem gX11_piece_X7_icingOf : GoodIn wsX11_piece (wsV RX11 162 RX7 yX7_icingOf wsX7_icingOf) := goodIn_app (goodIn_of _ (by decide +kernel)) ggX11_piece_X7_icingOf
theorem dX11_piece_0 : decode cX11_piece 0 = .ok (.aload_n 0, 1) := by decide +kernel
theorem dX11_piece_1 : decode cX11_piece 1 = .ok (.getfield 35, 3) := by decide +kernel
theorem dX11_piece_4 : decode cX11_piece 4 = .ok (.iload_n 1, 1) := by decide +kernel
theorem dX11_piece_5 : decode cX11_piece 5 = .ok (.invokevirtual 134, 3) := by decide +kernel
theorem dX11_piece_8 : decode cX11_piece 8 = .ok (.ifCond .ne 6, 3) := by decide +kernel
theorem dX11_piece_11 : decode cX11_piece 11 = .ok (.bipush (-2), 2) := by decide +kernel
theorem dX11_piece_13 : decode cX11_piece 13 = .ok (.ireturn, 1) := by decide +kernel
theorem dX11_piece_14 : decode cX11_piece 14 = .ok (.aload_n 0, 1) := by decide +kernel
theorem dX11_piece_15 : decode cX11_piece 15 = .ok (.getfield 35, 3) := by decide +kernel
theorem dX11_piece_18 : decode cX11_piece 18 = .ok (.getfield 137, 3) := by decide +kernel
theorem dX11_piece_21 : decode cX11_piece 21 = .ok (.iload_n 1, 1) := by decide +kernel
theorem dX11_piece_22 : decode cX11_piece 22 = .ok (.aaload, 1) := by decide +kernel
theorem dX11_piece_23 : decode cX11_piece 23 = .ok (.astore_n 3, 1) := by decide +kernel
theorem dX11_piece_24 : decode cX11_piece 24 = .ok (.iload_n 2, 1) := by decide +kernel
theorem dX11_piece_25 : decode cX11_piece 25 = .ok (.tableswitch 112 0 8 #[51, 56, 61, 66, 71, 76, 85, 94, 107], 51) := by decide +kernel
theorem dX11_piece_76 : decode cX11_piece 76 = .ok (.aload_n 3, 1) := by decide +kernel
theorem dX11_piece_77 : decode cX11_piece 77 = .ok (.getfield 141, 3) := by decide +kernel
theorem dX11_piece_80 : decode cX11_piece 80 = .ok (.ireturn, 1) := by decide +kernel
theorem dX11_piece_81 : decode cX11_piece 81 = .ok (.aload_n 3, 1) := by decide +kernel
theorem dX11_piece_82 : decode cX11_piece 82 = .ok (.getfield 146, 3) := by decide +kernel
theorem dX11_piece_85 : decode cX11_piece 85 = .ok (.ireturn, 1) := by decide +kernel
theorem dX11_piece_86 : decode cX11_piece 86 = .ok (.aload_n 3, 1) := by decide +kernel
theorem dX11_piece_87 : decode cX11_piece 87 = .ok (.getfield 149, 3) := by decide +kernel
theorem dX11_piece_90 : decode cX11_piece 90 = .ok (.ireturn, 1) := by decide +kernel
theorem dX11_piece_91 : decode cX11_piece 91 = .ok (.aload_n 3, 1) := by decide +kernel
theorem dX11_piece_92 : decode cX11_piece 92 = .ok (.getfield 152, 3) := by decide +kernel
theorem dX11_piece_95 : decode cX11_piece 95 = .ok (.ireturn, 1) := by decide +kernel
theorem dX11_piece_96 : decode cX11_piece 96 = .ok (.aload_n 3, 1) := by decide +kernel
theorem dX11_piece_97 : decode cX11_piece 97 = .ok (.getfield 155, 3) := by decide +kernel
theorem dX11_piece_100 : decode cX11_piece 100 = .ok (.ireturn, 1) := by decide +kernel
theorem dX11_piece_101 : decode cX11_piece 101 = .ok (.aload_n 0, 1) := by decide +kernel
theorem dX11_piece_102 : decode cX11_piece 102 = .ok (.getfield 16, 3) := by decide +kernel
theorem dX11_piece_105 : decode cX11_piece 105 = .ok (.aload_n 3, 1) := by decide +kernel
theorem dX11_piece_106 : decode cX11_piece 106 = .ok (.invokevirtual 158, 3) := by decide +kernel
theorem dX11_piece_109 : decode cX11_piece 109 = .ok (.ireturn, 1) := by decide +kernel
theorem dX11_piece_110 : decode cX11_piece 110 = .ok (.aload_n 0, 1) := by decide +kernel
theorem dX11_piece_111 : decode cX11_piece 111 = .ok (.getfield 16, 3) := by decide +kernel
theorem dX11_piece_114 : decode cX11_piece 114 = .ok (.aload_n 3, 1) := by decide +kernel
theorem dX11_piece_115 : decode cX11_piece 115 = .ok (.invokevirtual 162, 3) := by decide +kernel
theorem dX11_piece_118 : decode cX11_piece 118 = .ok (.ireturn, 1) := by decide +kernel
theorem dX11_piece_119 : decode cX11_piece 119 = .ok (.aload_n 3, 1) := by decide +kernel
theorem dX11_piece_120 : decode cX11_piece 120 = .ok (.getfield 165, 3) := by decide +kernel
theorem dX11_piece_123 : decode cX11_piece 123 = .ok (.ifCond .eq 7, 3) := by decide +kernel
theorem dX11_piece_126 : decode cX11_piece 126 = .ok (.iconst 1, 1) := by decide +kernel
theorem dX11_piece_127 : decode cX11_piece 127 = .ok (.goto 4, 3) := by decide +kernel
theorem dX11_piece_130 : decode cX11_piece 130 = .ok (.iconst 0, 1) := by decide +kernel
theorem dX11_piece_131 : decode cX11_piece 131 = .ok (.ireturn, 1) := by decide +kernel
theorem dX11_piece_132 : decode cX11_piece 132 = .ok (.aload_n 3, 1) := by decide +kernel
theorem dX11_piece_133 : decode cX11_piece 133 = .ok (.getfield 168, 3) := by decide +kernel
theorem dX11_piece_136 : decode cX11_piece 136 = .ok (.ireturn, 1) := by decide +kernel
theorem dX11_piece_137 : decode cX11_piece 137 = .ok (.bipush (-2), 2) := by decide +kernel
theorem dX11_piece_139 : decode cX11_piece 139 = .ok (.ireturn, 1) := by decide +kernel
set_option maxRecDepth 20000 in
theorem ggX11_guest_X7_isGuest : GoodIn wsX11_guest wsX7_isGuest := goodIn_r _ [12, 13, 92, 93, 94, 95, 96, 97, 98, 99, 100, 101, 102, 103, 104, 105, 106, 107] (by decide +kernel) (by decide +kernel)
set_option maxRecDepth 20000 in
theorem gX11_guest_X7_isGuest : GoodIn wsX11_guest (wsV RX11 171 RX7 yX7_isGuest wsX7_isGuest) := goodIn_app (goodIn_of _ (by decide +kernel)) ggX11_guest_X7_isGuest
set_option maxRecDepth 20000 in
theorem ggX11_guest_X10_ofPiece : GoodIn wsX11_guest wsX10_ofPiece := goodIn_r _ [18, 19, 20, 21, 22, 23, 24, 25, 26, 27, 28, 29, 17, 30, 31, 32, 33, 34, 35, 36, 37, 38, 39, 40, 41, 42, 43, 11, 44, 45, 46, 47, 48, 49, 50, 51, 52, 53, 54, 55, 56, 57, 58, 59, 60, 61, 62, 9, 10, 12, 13, 63, 64, 65, 66, 67, 68, 69, 70, 71, 72, 73, 74, 75, 76, 114, 115, 116, 117, 118, 119, 120, 108, 109, 110, 111, 112, 113, 92, 93, 94, 95, 96, 97, 98, 99, 100, 101, 102, 103, 104, 105, 106, 107, 121, 122, 123, 124, 125, 126, 127, 128, 129, 130, 131, 132] (by decide +kernel) (by decide +kernel)
set_option maxRecDepth 20000 in
theorem gX11_guest_X10_ofPiece : GoodIn wsX11_guest (wsV RX11 186 RX10 yX10_ofPiece wsX10_ofPiece) := goodIn_app (goodIn_of _ (by decide +kernel)) ggX11_guest_X10_ofPiece
theorem dX11_guest_0 : decode cX11_guest 0 = .ok (.aload_n 0, 1) := by decide +kernel
theorem dX11_guest_1 : decode cX11_guest 1 = .ok (.getfield 16, 3) := by decide +kernel
theorem dX11_guest_4 : decode cX11_guest 4 = .ok (.iload_n 1, 1) := by decide +kernel
theorem dX11_guest_5 : decode cX11_guest 5 = .ok (.invokevirtual 171, 3) := by decide +kernel
theorem dX11_guest_8 : decode cX11_guest 8 = .ok (.ifCond .ne 6, 3) := by decide +kernel
theorem dX11_guest_11 : decode cX11_guest 11 = .ok (.bipush (-2), 2) := by decide +kernel
theorem dX11_guest_13 : decode cX11_guest 13 = .ok (.ireturn, 1) := by decide +kernel
theorem dX11_guest_14 : decode cX11_guest 14 = .ok (.iload_n 2, 1) := by decide +kernel
theorem dX11_guest_15 : decode cX11_guest 15 = .ok (.tableswitch 92 0 4 #[33, 43, 53, 63, 73], 33) := by decide +kernel
theorem dX11_guest_48 : decode cX11_guest 48 = .ok (.aload_n 0, 1) := by decide +kernel
theorem dX11_guest_49 : decode cX11_guest 49 = .ok (.getfield 16, 3) := by decide +kernel
theorem dX11_guest_52 : decode cX11_guest 52 = .ok (.getfield 174, 3) := by decide +kernel
theorem dX11_guest_55 : decode cX11_guest 55 = .ok (.iload_n 1, 1) := by decide +kernel
theorem dX11_guest_56 : decode cX11_guest 56 = .ok (.iaload, 1) := by decide +kernel
theorem dX11_guest_57 : decode cX11_guest 57 = .ok (.ireturn, 1) := by decide +kernel
theorem dX11_guest_58 : decode cX11_guest 58 = .ok (.aload_n 0, 1) := by decide +kernel
theorem dX11_guest_59 : decode cX11_guest 59 = .ok (.getfield 16, 3) := by decide +kernel
theorem dX11_guest_62 : decode cX11_guest 62 = .ok (.getfield 177, 3) := by decide +kernel
theorem dX11_guest_65 : decode cX11_guest 65 = .ok (.iload_n 1, 1) := by decide +kernel
theorem dX11_guest_66 : decode cX11_guest 66 = .ok (.iaload, 1) := by decide +kernel
theorem dX11_guest_67 : decode cX11_guest 67 = .ok (.ireturn, 1) := by decide +kernel
theorem dX11_guest_68 : decode cX11_guest 68 = .ok (.aload_n 0, 1) := by decide +kernel
theorem dX11_guest_69 : decode cX11_guest 69 = .ok (.getfield 16, 3) := by decide +kernel
theorem dX11_guest_72 : decode cX11_guest 72 = .ok (.getfield 180, 3) := by decide +kernel
theorem dX11_guest_75 : decode cX11_guest 75 = .ok (.iload_n 1, 1) := by decide +kernel
theorem dX11_guest_76 : decode cX11_guest 76 = .ok (.iaload, 1) := by decide +kernel
theorem dX11_guest_77 : decode cX11_guest 77 = .ok (.ireturn, 1) := by decide +kernel
theorem dX11_guest_78 : decode cX11_guest 78 = .ok (.aload_n 0, 1) := by decide +kernel
theorem dX11_guest_79 : decode cX11_guest 79 = .ok (.getfield 35, 3) := by decide +kernel
theorem dX11_guest_82 : decode cX11_guest 82 = .ok (.getfield 183, 3) := by decide +kernel
theorem dX11_guest_85 : decode cX11_guest 85 = .ok (.iload_n 1, 1) := by decide +kernel
theorem dX11_guest_86 : decode cX11_guest 86 = .ok (.iaload, 1) := by decide +kernel
theorem dX11_guest_87 : decode cX11_guest 87 = .ok (.ireturn, 1) := by decide +kernel
theorem dX11_guest_88 : decode cX11_guest 88 = .ok (.aload_n 0, 1) := by decide +kernel
theorem dX11_guest_89 : decode cX11_guest 89 = .ok (.getfield 48, 3) := by decide +kernel
theorem dX11_guest_92 : decode cX11_guest 92 = .ok (.iload_n 1, 1) := by decide +kernel
theorem dX11_guest_93 : decode cX11_guest 93 = .ok (.aload_n 0, 1) := by decide +kernel
theorem dX11_guest_94 : decode cX11_guest 94 = .ok (.getfield 35, 3) := by decide +kernel
theorem dX11_guest_97 : decode cX11_guest 97 = .ok (.getfield 183, 3) := by decide +kernel
theorem dX11_guest_100 : decode cX11_guest 100 = .ok (.iload_n 1, 1) := by decide +kernel
theorem dX11_guest_101 : decode cX11_guest 101 = .ok (.iaload, 1) := by decide +kernel
theorem dX11_guest_102 : decode cX11_guest 102 = .ok (.iconst 0, 1) := by decide +kernel
theorem dX11_guest_103 : decode cX11_guest 103 = .ok (.invokevirtual 186, 3) := by decide +kernel
theorem dX11_guest_106 : decode cX11_guest 106 = .ok (.ireturn, 1) := by decide +kernel
theorem dX11_guest_107 : decode cX11_guest 107 = .ok (.bipush (-2), 2) := by decide +kernel
theorem dX11_guest_109 : decode cX11_guest 109 = .ok (.ireturn, 1) := by decide +kernel
set_option maxRecDepth 20000 in
theorem ggX11_worth_X7_isGuest : GoodIn wsX11_worth wsX7_isGuest := goodIn_r _ [8, 9, 88, 89, 90, 91, 92, 93, 94, 95, 96, 97, 98, 99, 100, 101, 102, 103] (by decide +kernel) (by decide +kernel)
set_option maxRecDepth 20000 in
theorem gX11_worth_X7_isGuest : GoodIn wsX11_worth (wsV RX11 171 RX7 yX7_isGuest wsX7_isGuest) := goodIn_app (goodIn_of _ (by decide +kernel)) ggX11_worth_X7_isGuest
set_option maxRecDepth 20000 in
theorem ggX11_worth_X10_ofPiece : GoodIn wsX11_worth wsX10_ofPiece := goodIn_r _ [14, 15, 16, 17, 18, 19, 20, 21, 22, 23, 24, 25, 13, 26, 27, 28, 29, 30, 31, 32, 33, 34, 35, 36, 37, 38, 39, 7, 40, 41, 42, 43, 44, 45, 46, 47, 48, 49, 50, 51, 52, 53, 54, 55, 56, 57, 58, 5, 6, 8, 9, 59, 60, 61, 62, 63, 64, 65, 66, 67, 68, 69, 70, 71, 72, 104, 105, 106, 107, 108, 109, 110, 111, 112, 113, 114, 115, 116, 88, 89, 90, 91, 92, 93, 94, 95, 96, 97, 98, 99, 100, 101, 102, 103, 117, 118, 119, 120, 121, 122, 123, 124, 125, 126, 127, 128] (by decide +kernel) (by decide +kernel)
set_option maxRecDepth 20000 in
theorem gX11_worth_X10_ofPiece : GoodIn wsX11_worth (wsV RX11 186 RX10 yX10_ofPiece wsX10_ofPiece) := goodIn_app (goodIn_of _ (by decide +kernel)) ggX11_worth_X10_ofPiece
theorem dX11_worth_0 : decode cX11_worth 0 = .ok (.aload_n 0, 1) := by decide +kernel
theorem dX11_worth_1 : decode cX11_worth 1 = .ok (.getfield 16, 3) := by decide +kernel
theorem dX11_worth_4 : decode cX11_worth 4 = .ok (.iload_n 1, 1) := by decide +kernel
theorem dX11_worth_5 : decode cX11_worth 5 = .ok (.invokevirtual 171, 3) := by decide +kernel
theorem dX11_worth_8 : decode cX11_worth 8 = .ok (.ifCond .ne 6, 3) := by decide +kernel
theorem dX11_worth_11 : decode cX11_worth 11 = .ok (.ldc 190, 2) := by decide +kernel
theorem dX11_worth_13 : decode cX11_worth 13 = .ok (.ireturn, 1) := by decide +kernel
theorem dX11_worth_14 : decode cX11_worth 14 = .ok (.aload_n 0, 1) := by decide +kernel
theorem dX11_worth_15 : decode cX11_worth 15 = .ok (.getfield 48, 3) := by decide +kernel
theorem dX11_worth_18 : decode cX11_worth 18 = .ok (.iload_n 1, 1) := by decide +kernel
theorem dX11_worth_19 : decode cX11_worth 19 = .ok (.iload_n 2, 1) := by decide +kernel
theorem dX11_worth_20 : decode cX11_worth 20 = .ok (.ldc 190, 2) := by decide +kernel
theorem dX11_worth_22 : decode cX11_worth 22 = .ok (.invokevirtual 186, 3) := by decide +kernel
theorem dX11_worth_25 : decode cX11_worth 25 = .ok (.ireturn, 1) := by decide +kernel
set_option maxRecDepth 20000 in
theorem ggX11_slip_X1_canSplit : GoodIn wsX11_slip wsX1_canSplit := goodIn_r _ [14, 15, 16, 17, 18, 13, 19, 20, 21, 22, 23, 24, 25, 26, 27, 28, 29, 30, 31, 32, 105, 106, 107, 108, 109, 110, 111, 112, 113, 114, 115, 116, 117] (by decide +kernel) (by decide +kernel)
set_option maxRecDepth 20000 in
theorem gX11_slip_X1_canSplit : GoodIn wsX11_slip (wsV RX11 191 RX1 yX1_canSplit wsX1_canSplit) := goodIn_app (goodIn_of _ (by decide +kernel)) ggX11_slip_X1_canSplit
set_option maxRecDepth 20000 in
theorem ggX11_slip_X10_slipOf : GoodIn wsX11_slip wsX10_slipOf := goodIn_r _ [37, 38, 39, 40, 41, 42, 43, 22, 23, 13, 24, 25, 44, 45, 46, 36, 47, 48, 49, 50, 51, 52, 53, 54, 55, 56, 57, 58, 59, 60, 61, 62, 63, 64, 65, 66, 67, 68, 69, 70, 71, 72, 73, 74, 29, 75, 32, 31, 76, 77, 78, 79, 80, 81, 82, 83, 84, 85, 86, 87, 88, 89, 118, 119, 120, 121, 122, 123, 124, 105, 106, 107, 108, 109, 110, 125, 126, 127, 128, 129, 130, 131, 132, 133, 134, 135, 136, 137, 138, 139, 140, 111, 112, 113, 114, 115, 116, 117, 141, 142, 143, 144, 145] (by decide +kernel) (by decide +kernel)
set_option maxRecDepth 20000 in
theorem gX11_slip_X10_slipOf : GoodIn wsX11_slip (wsV RX11 195 RX10 yX10_slipOf wsX10_slipOf) := goodIn_app (goodIn_of _ (by decide +kernel)) ggX11_slip_X10_slipOf
theorem dX11_slip_0 : decode cX11_slip 0 = .ok (.aload_n 0, 1) := by decide +kernel
theorem dX11_slip_1 : decode cX11_slip 1 = .ok (.getfield 35, 3) := by decide +kernel
theorem dX11_slip_4 : decode cX11_slip 4 = .ok (.iload_n 1, 1) := by decide +kernel
theorem dX11_slip_5 : decode cX11_slip 5 = .ok (.iload_n 2, 1) := by decide +kernel
theorem dX11_slip_6 : decode cX11_slip 6 = .ok (.iload_n 3, 1) := by decide +kernel
theorem dX11_slip_7 : decode cX11_slip 7 = .ok (.invokevirtual 191, 3) := by decide +kernel
theorem dX11_slip_10 : decode cX11_slip 10 = .ok (.ifCond .ne 5, 3) := by decide +kernel
theorem dX11_slip_13 : decode cX11_slip 13 = .ok (.iconst (-1), 1) := by decide +kernel
theorem dX11_slip_14 : decode cX11_slip 14 = .ok (.ireturn, 1) := by decide +kernel
theorem dX11_slip_15 : decode cX11_slip 15 = .ok (.iconst 0, 1) := by decide +kernel
theorem dX11_slip_16 : decode cX11_slip 16 = .ok (.bipush 100, 2) := by decide +kernel
theorem dX11_slip_18 : decode cX11_slip 18 = .ok (.aload_n 0, 1) := by decide +kernel
theorem dX11_slip_19 : decode cX11_slip 19 = .ok (.getfield 48, 3) := by decide +kernel
theorem dX11_slip_22 : decode cX11_slip 22 = .ok (.iload_n 1, 1) := by decide +kernel
theorem dX11_slip_23 : decode cX11_slip 23 = .ok (.iload_n 2, 1) := by decide +kernel
theorem dX11_slip_24 : decode cX11_slip 24 = .ok (.invokevirtual 195, 3) := by decide +kernel
theorem dX11_slip_27 : decode cX11_slip 27 = .ok (.invokestatic 199, 3) := by decide +kernel
theorem dX11_slip_30 : decode cX11_slip 30 = .ok (.invokestatic 204, 3) := by decide +kernel
theorem dX11_slip_33 : decode cX11_slip 33 = .ok (.ireturn, 1) := by decide +kernel
set_option maxRecDepth 20000 in
theorem ggX11_cut_X1_canSplit : GoodIn wsX11_cut wsX1_canSplit := goodIn_r _ [8, 9, 10, 11, 12, 7, 13, 14, 15, 16, 17, 18, 19, 20, 21, 22, 23, 24, 25, 26, 165, 166, 167, 168, 169, 170, 171, 172, 173, 174, 175, 176, 177] (by decide +kernel) (by decide +kernel)
set_option maxRecDepth 20000 in
theorem gX11_cut_X1_canSplit : GoodIn wsX11_cut (wsV RX11 191 RX1 yX1_canSplit wsX1_canSplit) := goodIn_app (goodIn_of _ (by decide +kernel)) ggX11_cut_X1_canSplit
set_option maxRecDepth 20000 in
theorem ggX11_cut_X0_perform : GoodIn wsX11_cut wsX0_perform := goodIn_r _ [31, 32, 33, 34, 35, 36, 37, 38, 39, 40, 41, 42, 43, 44, 45, 30, 46, 47, 48, 49, 50, 51, 52, 53, 54, 55, 56, 57, 58, 59, 60, 61, 62, 63, 64, 16, 17, 7, 18, 19, 65, 66, 67, 68, 69, 70, 71, 72, 73, 74, 75, 76, 77, 78, 79, 80, 81, 82, 83, 84, 85, 86, 87, 88, 89, 90, 91, 92, 93, 94, 95, 23, 96, 26, 25, 97, 98, 99, 100, 101, 102, 103, 104, 105, 106, 107, 108, 109, 110, 111, 112, 113, 114, 9, 115, 116, 117, 118, 5, 6, 8, 10, 11, 12, 13, 14, 15, 20, 21, 22, 24, 119, 120, 121, 122, 123, 124, 125, 126, 127, 128, 129, 130, 131, 132, 133, 134, 135, 136, 137, 138, 139, 140, 141, 142, 143, 144, 145, 146, 147, 148, 149, 178, 179, 180, 181, 182, 183, 184, 185, 186, 187, 188, 165, 166, 167, 168, 169, 170, 189, 190, 191, 192, 193, 194, 195, 196, 197, 198, 199, 200, 201, 202, 203, 204, 205, 206, 207, 208, 209, 210, 211, 171, 172, 173, 174, 175, 176, 177, 212, 213, 214, 215, 216] (by decide +kernel) (by decide +kernel)
set_option maxRecDepth 20000 in
theorem gX11_cut_X0_perform : GoodIn wsX11_cut (wsV RX11 210 RX0 yX0_perform wsX0_perform) := goodIn_app (goodIn_of _ (by decide +kernel)) ggX11_cut_X0_perform
theorem dX11_cut_0 : decode cX11_cut 0 = .ok (.aload_n 0, 1) := by decide +kernel
theorem dX11_cut_1 : decode cX11_cut 1 = .ok (.getfield 35, 3) := by decide +kernel
theorem dX11_cut_4 : decode cX11_cut 4 = .ok (.iload_n 1, 1) := by decide +kernel
theorem dX11_cut_5 : decode cX11_cut 5 = .ok (.iload_n 2, 1) := by decide +kernel
theorem dX11_cut_6 : decode cX11_cut 6 = .ok (.iload_n 3, 1) := by decide +kernel
theorem dX11_cut_7 : decode cX11_cut 7 = .ok (.invokevirtual 191, 3) := by decide +kernel
theorem dX11_cut_10 : decode cX11_cut 10 = .ok (.ifCond .eq 15, 3) := by decide +kernel
theorem dX11_cut_13 : decode cX11_cut 13 = .ok (.aload_n 0, 1) := by decide +kernel
theorem dX11_cut_14 : decode cX11_cut 14 = .ok (.getfield 35, 3) := by decide +kernel
theorem dX11_cut_17 : decode cX11_cut 17 = .ok (.getfield 207, 3) := by decide +kernel
theorem dX11_cut_20 : decode cX11_cut 20 = .ok (.bipush 24, 2) := by decide +kernel
theorem dX11_cut_22 : decode cX11_cut 22 = .ok (.if_icmp .lt 5, 3) := by decide +kernel
theorem dX11_cut_25 : decode cX11_cut 25 = .ok (.iconst (-1), 1) := by decide +kernel
theorem dX11_cut_26 : decode cX11_cut 26 = .ok (.ireturn, 1) := by decide +kernel
theorem dX11_cut_27 : decode cX11_cut 27 = .ok (.aload_n 0, 1) := by decide +kernel
theorem dX11_cut_28 : decode cX11_cut 28 = .ok (.getfield 57, 3) := by decide +kernel
theorem dX11_cut_31 : decode cX11_cut 31 = .ok (.iconst 0, 1) := by decide +kernel
theorem dX11_cut_32 : decode cX11_cut 32 = .ok (.iload_n 1, 1) := by decide +kernel
theorem dX11_cut_33 : decode cX11_cut 33 = .ok (.iload_n 2, 1) := by decide +kernel
theorem dX11_cut_34 : decode cX11_cut 34 = .ok (.iload_n 3, 1) := by decide +kernel
theorem dX11_cut_35 : decode cX11_cut 35 = .ok (.invokevirtual 210, 3) := by decide +kernel
theorem dX11_cut_38 : decode cX11_cut 38 = .ok (.aload_n 0, 1) := by decide +kernel
theorem dX11_cut_39 : decode cX11_cut 39 = .ok (.getfield 35, 3) := by decide +kernel
theorem dX11_cut_42 : decode cX11_cut 42 = .ok (.getfield 207, 3) := by decide +kernel
theorem dX11_cut_45 : decode cX11_cut 45 = .ok (.iconst 1, 1) := by decide +kernel
theorem dX11_cut_46 : decode cX11_cut 46 = .ok (.isub, 1) := by decide +kernel
theorem dX11_cut_47 : decode cX11_cut 47 = .ok (.ireturn, 1) := by decide +kernel
set_option maxRecDepth 20000 in
theorem ggX11_give_X7_isGuest : GoodIn wsX11_give wsX7_isGuest := goodIn_r _ [9, 10, 181, 182, 183, 184, 185, 186, 187, 188, 189, 190, 191, 192, 193, 194, 195, 196] (by decide +kernel) (by decide +kernel)
set_option maxRecDepth 20000 in
theorem gX11_give_X7_isGuest : GoodIn wsX11_give (wsV RX11 171 RX7 yX7_isGuest wsX7_isGuest) := goodIn_app (goodIn_of _ (by decide +kernel)) ggX11_give_X7_isGuest
set_option maxRecDepth 20000 in
theorem ggX11_give_X1_isFree : GoodIn wsX11_give wsX1_isFree := goodIn_r _ [15, 16, 17, 18, 19, 20, 14, 21, 22, 175, 176, 177, 178, 179, 180, 197, 198, 199, 200, 201, 202, 203] (by decide +kernel) (by decide +kernel)
set_option maxRecDepth 20000 in
theorem gX11_give_X1_isFree : GoodIn wsX11_give (wsV RX11 214 RX1 yX1_isFree wsX1_isFree) := goodIn_app (goodIn_of _ (by decide +kernel)) ggX11_give_X1_isFree
set_option maxRecDepth 20000 in
theorem ggX11_give_X0_perform : GoodIn wsX11_give wsX0_perform := goodIn_r _ [27, 28, 29, 30, 31, 32, 33, 34, 35, 36, 37, 38, 39, 40, 41, 26, 42, 43, 44, 45, 46, 47, 48, 49, 50, 51, 52, 53, 54, 55, 56, 57, 58, 59, 60, 19, 20, 14, 21, 22, 61, 62, 63, 64, 65, 66, 67, 68, 69, 8, 70, 71, 72, 73, 74, 75, 76, 77, 78, 79, 80, 81, 82, 83, 84, 85, 86, 87, 88, 89, 90, 91, 92, 93, 94, 95, 96, 97, 98, 99, 100, 101, 102, 103, 104, 105, 106, 107, 108, 109, 110, 111, 112, 16, 113, 114, 115, 116, 117, 118, 119, 120, 12, 13, 15, 17, 18, 121, 122, 123, 124, 125, 126, 127, 128, 129, 130, 131, 132, 133, 134, 135, 136, 137, 138, 139, 140, 141, 142, 143, 144, 145, 146, 147, 148, 149, 150, 151, 152, 153, 154, 155, 204, 205, 206, 207, 208, 209, 210, 211, 212, 213, 214, 175, 176, 177, 178, 179, 180, 181, 182, 183, 184, 185, 186, 187, 188, 189, 190, 191, 192, 193, 194, 195, 196, 215, 216, 217, 218, 219, 220, 221, 197, 198, 199, 200, 201, 202, 203, 222, 223, 224, 225, 226] (by decide +kernel) (by decide +kernel)
set_option maxRecDepth 20000 in
theorem gX11_give_X0_perform : GoodIn wsX11_give (wsV RX11 210 RX0 yX0_perform wsX0_perform) := goodIn_app (goodIn_of _ (by decide +kernel)) ggX11_give_X0_perform
set_option maxRecDepth 20000 in
theorem ggX11_give_X1_platesFilled : GoodIn wsX11_give wsX1_platesFilled := goodIn_r _ [159, 146, 175, 176, 177, 178, 179, 180] (by decide +kernel) (by decide +kernel)
set_option maxRecDepth 20000 in
theorem gX11_give_X1_platesFilled : GoodIn wsX11_give (wsV RX11 217 RX1 yX1_platesFilled wsX1_platesFilled) := goodIn_app (goodIn_of _ (by decide +kernel)) ggX11_give_X1_platesFilled
theorem dX11_give_0 : decode cX11_give 0 = .ok (.aload_n 0, 1) := by decide +kernel
theorem dX11_give_1 : decode cX11_give 1 = .ok (.getfield 16, 3) := by decide +kernel
theorem dX11_give_4 : decode cX11_give 4 = .ok (.iload_n 2, 1) := by decide +kernel
theorem dX11_give_5 : decode cX11_give 5 = .ok (.invokevirtual 171, 3) := by decide +kernel
theorem dX11_give_8 : decode cX11_give 8 = .ok (.ifCond .eq 27, 3) := by decide +kernel
theorem dX11_give_11 : decode cX11_give 11 = .ok (.aload_n 0, 1) := by decide +kernel
theorem dX11_give_12 : decode cX11_give 12 = .ok (.getfield 35, 3) := by decide +kernel
theorem dX11_give_15 : decode cX11_give 15 = .ok (.iload_n 1, 1) := by decide +kernel
theorem dX11_give_16 : decode cX11_give 16 = .ok (.invokevirtual 214, 3) := by decide +kernel
theorem dX11_give_19 : decode cX11_give 19 = .ok (.ifCond .eq 16, 3) := by decide +kernel
theorem dX11_give_22 : decode cX11_give 22 = .ok (.aload_n 0, 1) := by decide +kernel
theorem dX11_give_23 : decode cX11_give 23 = .ok (.getfield 35, 3) := by decide +kernel
theorem dX11_give_26 : decode cX11_give 26 = .ok (.getfield 183, 3) := by decide +kernel
theorem dX11_give_29 : decode cX11_give 29 = .ok (.iload_n 2, 1) := by decide +kernel
theorem dX11_give_30 : decode cX11_give 30 = .ok (.iaload, 1) := by decide +kernel
theorem dX11_give_31 : decode cX11_give 31 = .ok (.iconst (-1), 1) := by decide +kernel
theorem dX11_give_32 : decode cX11_give 32 = .ok (.if_icmp .eq 5, 3) := by decide +kernel
theorem dX11_give_35 : decode cX11_give 35 = .ok (.iconst (-1), 1) := by decide +kernel
theorem dX11_give_36 : decode cX11_give 36 = .ok (.ireturn, 1) := by decide +kernel
theorem dX11_give_37 : decode cX11_give 37 = .ok (.aload_n 0, 1) := by decide +kernel
theorem dX11_give_38 : decode cX11_give 38 = .ok (.getfield 57, 3) := by decide +kernel
theorem dX11_give_41 : decode cX11_give 41 = .ok (.iconst 1, 1) := by decide +kernel
theorem dX11_give_42 : decode cX11_give 42 = .ok (.iload_n 1, 1) := by decide +kernel
theorem dX11_give_43 : decode cX11_give 43 = .ok (.iload_n 2, 1) := by decide +kernel
theorem dX11_give_44 : decode cX11_give 44 = .ok (.iconst 0, 1) := by decide +kernel
theorem dX11_give_45 : decode cX11_give 45 = .ok (.invokevirtual 210, 3) := by decide +kernel
theorem dX11_give_48 : decode cX11_give 48 = .ok (.aload_n 0, 1) := by decide +kernel
theorem dX11_give_49 : decode cX11_give 49 = .ok (.getfield 35, 3) := by decide +kernel
theorem dX11_give_52 : decode cX11_give 52 = .ok (.invokevirtual 217, 3) := by decide +kernel
theorem dX11_give_55 : decode cX11_give 55 = .ok (.ireturn, 1) := by decide +kernel
set_option maxRecDepth 20000 in
theorem ggX11_back_X7_isGuest : GoodIn wsX11_back wsX7_isGuest := goodIn_r _ [9, 10, 176, 177, 178, 179, 180, 181, 182, 183, 184, 185, 186, 187, 188, 189, 190, 191] (by decide +kernel) (by decide +kernel)
set_option maxRecDepth 20000 in
theorem gX11_back_X7_isGuest : GoodIn wsX11_back (wsV RX11 171 RX7 yX7_isGuest wsX7_isGuest) := goodIn_app (goodIn_of _ (by decide +kernel)) ggX11_back_X7_isGuest
set_option maxRecDepth 20000 in
theorem ggX11_back_X0_perform : GoodIn wsX11_back wsX0_perform := goodIn_r _ [15, 16, 17, 18, 19, 20, 21, 22, 23, 24, 25, 26, 27, 28, 29, 14, 30, 31, 32, 33, 34, 35, 36, 37, 38, 39, 40, 41, 42, 43, 44, 45, 46, 47, 48, 49, 50, 51, 52, 53, 54, 55, 56, 57, 58, 59, 60, 61, 62, 8, 63, 64, 65, 66, 67, 68, 69, 70, 71, 72, 73, 74, 75, 76, 77, 78, 79, 80, 81, 82, 83, 84, 85, 86, 87, 88, 89, 90, 91, 92, 93, 94, 95, 96, 97, 98, 99, 100, 101, 102, 103, 104, 105, 106, 107, 108, 109, 110, 111, 112, 113, 114, 115, 116, 117, 118, 119, 120, 121, 122, 123, 124, 125, 126, 127, 128, 129, 130, 131, 132, 133, 134, 135, 136, 137, 138, 139, 140, 141, 142, 143, 144, 145, 146, 147, 148, 149, 150, 151, 152, 153, 154, 192, 193, 194, 195, 196, 197, 198, 199, 200, 201, 202, 170, 171, 172, 173, 174, 175, 176, 177, 178, 179, 180, 181, 182, 183, 184, 185, 186, 187, 188, 189, 190, 191, 203, 204, 205, 206, 207, 208, 209, 210, 211, 212, 213, 214, 215, 216, 217, 218, 219, 220, 221] (by decide +kernel) (by decide +kernel)
set_option maxRecDepth 20000 in
theorem gX11_back_X0_perform : GoodIn wsX11_back (wsV RX11 210 RX0 yX0_perform wsX0_perform) := goodIn_app (goodIn_of _ (by decide +kernel)) ggX11_back_X0_perform
theorem dX11_back_0 : decode cX11_back 0 = .ok (.aload_n 0, 1) := by decide +kernel
theorem dX11_back_1 : decode cX11_back 1 = .ok (.getfield 16, 3) := by decide +kernel
theorem dX11_back_4 : decode cX11_back 4 = .ok (.iload_n 1, 1) := by decide +kernel
theorem dX11_back_5 : decode cX11_back 5 = .ok (.invokevirtual 171, 3) := by decide +kernel
theorem dX11_back_8 : decode cX11_back 8 = .ok (.ifCond .eq 16, 3) := by decide +kernel
theorem dX11_back_11 : decode cX11_back 11 = .ok (.aload_n 0, 1) := by decide +kernel
theorem dX11_back_12 : decode cX11_back 12 = .ok (.getfield 35, 3) := by decide +kernel
theorem dX11_back_15 : decode cX11_back 15 = .ok (.getfield 183, 3) := by decide +kernel
theorem dX11_back_18 : decode cX11_back 18 = .ok (.iload_n 1, 1) := by decide +kernel
theorem dX11_back_19 : decode cX11_back 19 = .ok (.iaload, 1) := by decide +kernel
theorem dX11_back_20 : decode cX11_back 20 = .ok (.iconst (-1), 1) := by decide +kernel
theorem dX11_back_21 : decode cX11_back 21 = .ok (.if_icmp .ne 5, 3) := by decide +kernel
theorem dX11_back_24 : decode cX11_back 24 = .ok (.iconst (-1), 1) := by decide +kernel
theorem dX11_back_25 : decode cX11_back 25 = .ok (.ireturn, 1) := by decide +kernel
theorem dX11_back_26 : decode cX11_back 26 = .ok (.aload_n 0, 1) := by decide +kernel
theorem dX11_back_27 : decode cX11_back 27 = .ok (.getfield 35, 3) := by decide +kernel
theorem dX11_back_30 : decode cX11_back 30 = .ok (.getfield 183, 3) := by decide +kernel
theorem dX11_back_33 : decode cX11_back 33 = .ok (.iload_n 1, 1) := by decide +kernel
theorem dX11_back_34 : decode cX11_back 34 = .ok (.iaload, 1) := by decide +kernel
theorem dX11_back_35 : decode cX11_back 35 = .ok (.istore_n 2, 1) := by decide +kernel
theorem dX11_back_36 : decode cX11_back 36 = .ok (.aload_n 0, 1) := by decide +kernel
theorem dX11_back_37 : decode cX11_back 37 = .ok (.getfield 57, 3) := by decide +kernel
theorem dX11_back_40 : decode cX11_back 40 = .ok (.iconst 2, 1) := by decide +kernel
theorem dX11_back_41 : decode cX11_back 41 = .ok (.iload_n 2, 1) := by decide +kernel
theorem dX11_back_42 : decode cX11_back 42 = .ok (.iload_n 1, 1) := by decide +kernel
theorem dX11_back_43 : decode cX11_back 43 = .ok (.iconst 0, 1) := by decide +kernel
theorem dX11_back_44 : decode cX11_back 44 = .ok (.invokevirtual 210, 3) := by decide +kernel
theorem dX11_back_47 : decode cX11_back 47 = .ok (.iload_n 2, 1) := by decide +kernel
theorem dX11_back_48 : decode cX11_back 48 = .ok (.ireturn, 1) := by decide +kernel
set_option maxRecDepth 20000 in
theorem ggX11_exchange_X7_isGuest : GoodIn wsX11_exchange wsX7_isGuest := goodIn_r _ [9, 10, 176, 177, 178, 179, 180, 181, 182, 183, 184, 185, 186, 187, 188, 189, 190, 191] (by decide +kernel) (by decide +kernel)
set_option maxRecDepth 20000 in
theorem gX11_exchange_X7_isGuest : GoodIn wsX11_exchange (wsV RX11 171 RX7 yX7_isGuest wsX7_isGuest) := goodIn_app (goodIn_of _ (by decide +kernel)) ggX11_exchange_X7_isGuest
set_option maxRecDepth 20000 in
theorem ggX11_exchange_X0_perform : GoodIn wsX11_exchange wsX0_perform := goodIn_r _ [15, 16, 17, 18, 19, 20, 21, 22, 23, 24, 25, 26, 27, 28, 29, 14, 30, 31, 32, 33, 34, 35, 36, 37, 38, 39, 40, 41, 42, 43, 44, 45, 46, 47, 48, 49, 50, 51, 52, 53, 54, 55, 56, 57, 58, 59, 60, 61, 62, 8, 63, 64, 65, 66, 67, 68, 69, 70, 71, 72, 73, 74, 75, 76, 77, 78, 79, 80, 81, 82, 83, 84, 85, 86, 87, 88, 89, 90, 91, 92, 93, 94, 95, 96, 97, 98, 99, 100, 101, 102, 103, 104, 105, 106, 107, 108, 109, 110, 111, 112, 113, 114, 115, 116, 117, 118, 119, 120, 121, 122, 123, 124, 125, 126, 127, 128, 129, 130, 131, 132, 133, 134, 135, 136, 137, 138, 139, 140, 141, 142, 143, 144, 145, 146, 147, 148, 149, 150, 151, 152, 153, 154, 192, 193, 194, 195, 196, 197, 198, 199, 200, 201, 202, 170, 171, 172, 173, 174, 175, 176, 177, 178, 179, 180, 181, 182, 183, 184, 185, 186, 187, 188, 189, 190, 191, 203, 204, 205, 206, 207, 208, 209, 210, 211, 212, 213, 214, 215, 216, 217, 218, 219, 220, 221] (by decide +kernel) (by decide +kernel)
set_option maxRecDepth 20000 in
theorem gX11_exchange_X0_perform : GoodIn wsX11_exchange (wsV RX11 210 RX0 yX0_perform wsX0_perform) := goodIn_app (goodIn_of _ (by decide +kernel)) ggX11_exchange_X0_perform
theorem dX11_exchange_0 : decode cX11_exchange 0 = .ok (.aload_n 0, 1) := by decide +kernel
theorem dX11_exchange_1 : decode cX11_exchange 1 = .ok (.getfield 16, 3) := by decide +kernel
theorem dX11_exchange_4 : decode cX11_exchange 4 = .ok (.iload_n 1, 1) := by decide +kernel
theorem dX11_exchange_5 : decode cX11_exchange 5 = .ok (.invokevirtual 171, 3) := by decide +kernel
theorem dX11_exchange_8 : decode cX11_exchange 8 = .ok (.ifCond .eq 19, 3) := by decide +kernel
theorem dX11_exchange_11 : decode cX11_exchange 11 = .ok (.aload_n 0, 1) := by decide +kernel
theorem dX11_exchange_12 : decode cX11_exchange 12 = .ok (.getfield 16, 3) := by decide +kernel
theorem dX11_exchange_15 : decode cX11_exchange 15 = .ok (.iload_n 2, 1) := by decide +kernel
theorem dX11_exchange_16 : decode cX11_exchange 16 = .ok (.invokevirtual 171, 3) := by decide +kernel
theorem dX11_exchange_19 : decode cX11_exchange 19 = .ok (.ifCond .eq 8, 3) := by decide +kernel
theorem dX11_exchange_22 : decode cX11_exchange 22 = .ok (.iload_n 1, 1) := by decide +kernel
theorem dX11_exchange_23 : decode cX11_exchange 23 = .ok (.iload_n 2, 1) := by decide +kernel
theorem dX11_exchange_24 : decode cX11_exchange 24 = .ok (.if_icmp .ne 5, 3) := by decide +kernel
theorem dX11_exchange_27 : decode cX11_exchange 27 = .ok (.iconst (-1), 1) := by decide +kernel
theorem dX11_exchange_28 : decode cX11_exchange 28 = .ok (.ireturn, 1) := by decide +kernel
theorem dX11_exchange_29 : decode cX11_exchange 29 = .ok (.aload_n 0, 1) := by decide +kernel
theorem dX11_exchange_30 : decode cX11_exchange 30 = .ok (.getfield 35, 3) := by decide +kernel
theorem dX11_exchange_33 : decode cX11_exchange 33 = .ok (.getfield 183, 3) := by decide +kernel
theorem dX11_exchange_36 : decode cX11_exchange 36 = .ok (.iload_n 1, 1) := by decide +kernel
theorem dX11_exchange_37 : decode cX11_exchange 37 = .ok (.iaload, 1) := by decide +kernel
theorem dX11_exchange_38 : decode cX11_exchange 38 = .ok (.iconst (-1), 1) := by decide +kernel
theorem dX11_exchange_39 : decode cX11_exchange 39 = .ok (.if_icmp .eq 16, 3) := by decide +kernel
theorem dX11_exchange_42 : decode cX11_exchange 42 = .ok (.aload_n 0, 1) := by decide +kernel
theorem dX11_exchange_43 : decode cX11_exchange 43 = .ok (.getfield 35, 3) := by decide +kernel
theorem dX11_exchange_46 : decode cX11_exchange 46 = .ok (.getfield 183, 3) := by decide +kernel
theorem dX11_exchange_49 : decode cX11_exchange 49 = .ok (.iload_n 2, 1) := by decide +kernel
theorem dX11_exchange_50 : decode cX11_exchange 50 = .ok (.iaload, 1) := by decide +kernel
theorem dX11_exchange_51 : decode cX11_exchange 51 = .ok (.iconst (-1), 1) := by decide +kernel
theorem dX11_exchange_52 : decode cX11_exchange 52 = .ok (.if_icmp .ne 5, 3) := by decide +kernel
theorem dX11_exchange_55 : decode cX11_exchange 55 = .ok (.iconst (-1), 1) := by decide +kernel
theorem dX11_exchange_56 : decode cX11_exchange 56 = .ok (.ireturn, 1) := by decide +kernel
theorem dX11_exchange_57 : decode cX11_exchange 57 = .ok (.aload_n 0, 1) := by decide +kernel
theorem dX11_exchange_58 : decode cX11_exchange 58 = .ok (.getfield 57, 3) := by decide +kernel
theorem dX11_exchange_61 : decode cX11_exchange 61 = .ok (.iconst 3, 1) := by decide +kernel
theorem dX11_exchange_62 : decode cX11_exchange 62 = .ok (.iload_n 1, 1) := by decide +kernel
theorem dX11_exchange_63 : decode cX11_exchange 63 = .ok (.iload_n 2, 1) := by decide +kernel
theorem dX11_exchange_64 : decode cX11_exchange 64 = .ok (.iconst 0, 1) := by decide +kernel
theorem dX11_exchange_65 : decode cX11_exchange 65 = .ok (.invokevirtual 210, 3) := by decide +kernel
theorem dX11_exchange_68 : decode cX11_exchange 68 = .ok (.aload_n 0, 1) := by decide +kernel
theorem dX11_exchange_69 : decode cX11_exchange 69 = .ok (.getfield 35, 3) := by decide +kernel
theorem dX11_exchange_72 : decode cX11_exchange 72 = .ok (.getfield 183, 3) := by decide +kernel
theorem dX11_exchange_75 : decode cX11_exchange 75 = .ok (.iload_n 1, 1) := by decide +kernel
theorem dX11_exchange_76 : decode cX11_exchange 76 = .ok (.iaload, 1) := by decide +kernel
theorem dX11_exchange_77 : decode cX11_exchange 77 = .ok (.ireturn, 1) := by decide +kernel
set_option maxRecDepth 20000 in
theorem ggX11_undo_X0_takeBack : GoodIn wsX11_undo wsX0_takeBack := goodIn_r _ [6, 7, 8, 9, 10, 5, 11, 12, 13, 14, 15, 16, 17, 18, 19, 20, 21, 22, 23, 24, 25, 26, 27, 28, 29, 30, 31, 32, 33, 34, 35, 36, 37, 38, 39, 40, 41, 42, 43, 44, 45, 46, 47, 48, 49, 50, 51, 52, 53, 54, 55, 56, 72, 73, 74, 75, 76, 77, 78, 79, 80, 81, 82, 83, 84, 85, 86, 87, 88, 89, 90, 91, 92, 93, 94, 95] (by decide +kernel) (by decide +kernel)
set_option maxRecDepth 20000 in
theorem gX11_undo_X0_takeBack : GoodIn wsX11_undo (wsV RX11 221 RX0 yX0_takeBack wsX0_takeBack) := goodIn_app (goodIn_of _ (by decide +kernel)) ggX11_undo_X0_takeBack
theorem dX11_undo_0 : decode cX11_undo 0 = .ok (.aload_n 0, 1) := by decide +kernel
theorem dX11_undo_1 : decode cX11_undo 1 = .ok (.getfield 57, 3) := by decide +kernel
theorem dX11_undo_4 : decode cX11_undo 4 = .ok (.invokevirtual 221, 3) := by decide +kernel
theorem dX11_undo_7 : decode cX11_undo 7 = .ok (.ireturn, 1) := by decide +kernel
set_option maxRecDepth 20000 in
theorem ggX11_redo_X0_doAgain : GoodIn wsX11_redo wsX0_doAgain := goodIn_r _ [6, 7, 8, 9, 10, 11, 5, 12, 13, 14, 15, 16, 17, 18, 19, 20, 21, 22, 23, 24, 25, 26, 27, 28, 29, 30, 31, 32, 33, 34, 35, 36, 37, 38, 39, 40, 41, 42, 43, 44, 45, 46, 47, 48, 49, 50, 51, 52, 53, 54, 55, 56, 57, 58, 59, 60, 61, 62, 63, 64, 65, 66, 67, 68, 69, 70, 71, 72, 73, 74, 75, 76, 77, 78, 79, 80, 81, 82, 83, 84, 85, 86, 87, 88, 89, 90, 91, 92, 93, 94, 95, 96, 97, 98, 99, 100, 101, 102, 103, 104, 105, 106, 107, 108, 109, 110, 111, 112, 113, 114, 115, 116, 117, 118, 119, 120, 121, 122, 123, 124, 125, 126, 127, 128, 129, 130, 131, 132, 133, 134, 135, 136, 137, 138, 154, 155, 156, 157, 158, 159, 160, 161, 162, 163, 164, 165, 166, 167, 168, 169, 170, 171, 172, 173, 174, 175, 176, 177, 178, 179, 180, 181, 182, 183, 184, 185, 186, 187, 188, 189, 190, 191, 192, 193, 194, 195, 196, 197, 198, 199, 200, 201, 202, 203, 204, 205] (by decide +kernel) (by decide +kernel)
set_option maxRecDepth 20000 in
theorem gX11_redo_X0_doAgain : GoodIn wsX11_redo (wsV RX11 225 RX0 yX0_doAgain wsX0_doAgain) := goodIn_app (goodIn_of _ (by decide +kernel)) ggX11_redo_X0_doAgain
theorem dX11_redo_0 : decode cX11_redo 0 = .ok (.aload_n 0, 1) := by decide +kernel
theorem dX11_redo_1 : decode cX11_redo 1 = .ok (.getfield 57, 3) := by decide +kernel
theorem dX11_redo_4 : decode cX11_redo 4 = .ok (.invokevirtual 225, 3) := by decide +kernel
theorem dX11_redo_7 : decode cX11_redo 7 = .ok (.ireturn, 1) := by decide +kernel
set_option maxRecDepth 20000 in
theorem ggX11_feeds_X7_isGuest : GoodIn wsX11_feeds wsX7_isGuest := goodIn_r _ [7, 8, 60, 61, 62, 63, 64, 65, 66, 67, 68, 69, 70, 71, 72, 73, 74, 75] (by decide +kernel) (by decide +kernel)
set_option maxRecDepth 20000 in
theorem gX11_feeds_X7_isGuest : GoodIn wsX11_feeds (wsV RX11 171 RX7 yX7_isGuest wsX7_isGuest) := goodIn_app (goodIn_of _ (by decide +kernel)) ggX11_feeds_X7_isGuest
set_option maxRecDepth 20000 in
theorem ggX11_feeds_X8_feeders : GoodIn wsX11_feeds wsX8_feeders := goodIn_r _ [13, 14, 15, 16, 17, 18, 19, 4, 5, 6, 7, 8, 20, 21, 22, 23, 24, 25, 26, 27, 28, 29, 30, 31, 32, 33, 34, 35, 36, 37, 38, 39, 40, 41, 42, 43, 44, 76, 77, 78, 79, 80, 81, 82, 83, 84, 85, 86, 87, 88, 89, 90, 60, 61, 62, 63, 64, 65, 66, 67, 68, 69, 70, 71, 72, 73, 74, 75, 91, 92, 93, 94, 95, 96, 97] (by decide +kernel) (by decide +kernel)
set_option maxRecDepth 20000 in
theorem gX11_feeds_X8_feeders : GoodIn wsX11_feeds (wsV RX11 228 RX8 yX8_feeders wsX8_feeders) := goodIn_app (goodIn_of _ (by decide +kernel)) ggX11_feeds_X8_feeders
theorem dX11_feeds_0 : decode cX11_feeds 0 = .ok (.aload_n 0, 1) := by decide +kernel
theorem dX11_feeds_1 : decode cX11_feeds 1 = .ok (.getfield 16, 3) := by decide +kernel
theorem dX11_feeds_4 : decode cX11_feeds 4 = .ok (.iload_n 1, 1) := by decide +kernel
theorem dX11_feeds_5 : decode cX11_feeds 5 = .ok (.invokevirtual 171, 3) := by decide +kernel
theorem dX11_feeds_8 : decode cX11_feeds 8 = .ok (.ifCond .ne 5, 3) := by decide +kernel
theorem dX11_feeds_11 : decode cX11_feeds 11 = .ok (.iconst (-1), 1) := by decide +kernel
theorem dX11_feeds_12 : decode cX11_feeds 12 = .ok (.ireturn, 1) := by decide +kernel
theorem dX11_feeds_13 : decode cX11_feeds 13 = .ok (.aload_n 0, 1) := by decide +kernel
theorem dX11_feeds_14 : decode cX11_feeds 14 = .ok (.getfield 64, 3) := by decide +kernel
theorem dX11_feeds_17 : decode cX11_feeds 17 = .ok (.iload_n 1, 1) := by decide +kernel
theorem dX11_feeds_18 : decode cX11_feeds 18 = .ok (.invokevirtual 228, 3) := by decide +kernel
theorem dX11_feeds_21 : decode cX11_feeds 21 = .ok (.ireturn, 1) := by decide +kernel
set_option maxRecDepth 20000 in
theorem ggX11_served_X8_servedIf : GoodIn wsX11_served wsX8_servedIf := goodIn_r _ [6, 7, 8, 9, 5, 10, 11, 12, 13, 14, 15, 16, 17, 18, 19, 20, 21, 22, 23, 24, 25, 26, 27, 28, 29, 30, 31, 32, 33, 34, 35, 36, 37, 38, 39, 40, 41, 42, 43, 44, 45, 46, 47, 48, 49, 50, 51, 52, 53, 54, 55, 56, 57, 58, 59, 60, 61, 62, 78, 79, 80, 81, 82, 83, 84, 85, 86, 87, 88, 89, 90, 91, 92, 93, 94, 95, 96, 97, 98, 99, 100, 101, 102, 103, 104, 105, 106, 107, 108, 109, 110, 111, 112, 113, 114, 115] (by decide +kernel) (by decide +kernel)
set_option maxRecDepth 20000 in
theorem gX11_served_X8_servedIf : GoodIn wsX11_served (wsV RX11 232 RX8 yX8_servedIf wsX8_servedIf) := goodIn_app (goodIn_of _ (by decide +kernel)) ggX11_served_X8_servedIf
theorem dX11_served_0 : decode cX11_served 0 = .ok (.aload_n 0, 1) := by decide +kernel
theorem dX11_served_1 : decode cX11_served 1 = .ok (.getfield 64, 3) := by decide +kernel
theorem dX11_served_4 : decode cX11_served 4 = .ok (.iconst 0, 1) := by decide +kernel
theorem dX11_served_5 : decode cX11_served 5 = .ok (.invokevirtual 232, 3) := by decide +kernel
theorem dX11_served_8 : decode cX11_served 8 = .ok (.ireturn, 1) := by decide +kernel
set_option maxRecDepth 20000 in
theorem ggX11_next_X8_findCut : GoodIn wsX11_next wsX8_findCut := goodIn_r _ [12, 13, 14, 15, 16, 17, 18, 19, 20, 11, 21, 22, 23, 24, 25, 26, 27, 28, 29, 30, 31, 32, 33, 34, 35, 36, 37, 38, 39, 40, 41, 42, 43, 44, 45, 46, 47, 48, 49, 50, 51, 52, 53, 54, 55, 56, 57, 58, 59, 60, 61, 62, 63, 64, 65, 66, 67, 68, 69, 70, 71, 72, 73, 74, 75, 76, 77, 78, 79, 80, 81, 82, 83, 105, 106, 107, 108, 109, 110, 111, 112, 113, 99, 100, 101, 102, 103, 104, 114, 115, 116, 117, 118, 119, 120, 121, 122, 123, 124, 125, 126, 127, 128, 129, 130, 131, 132, 133, 134, 135, 136] (by decide +kernel) (by decide +kernel)
set_option maxRecDepth 20000 in
theorem gX11_next_X8_findCut : GoodIn wsX11_next (wsV RX11 235 RX8 yX8_findCut wsX8_findCut) := goodIn_app (goodIn_of _ (by decide +kernel)) ggX11_next_X8_findCut
theorem dX11_next_0 : decode cX11_next 0 = .ok (.aload_n 0, 1) := by decide +kernel
theorem dX11_next_1 : decode cX11_next 1 = .ok (.getfield 35, 3) := by decide +kernel
theorem dX11_next_4 : decode cX11_next 4 = .ok (.getfield 207, 3) := by decide +kernel
theorem dX11_next_7 : decode cX11_next 7 = .ok (.bipush 24, 2) := by decide +kernel
theorem dX11_next_9 : decode cX11_next 9 = .ok (.if_icmp .ge 13, 3) := by decide +kernel
theorem dX11_next_12 : decode cX11_next 12 = .ok (.aload_n 0, 1) := by decide +kernel
theorem dX11_next_13 : decode cX11_next 13 = .ok (.getfield 64, 3) := by decide +kernel
theorem dX11_next_16 : decode cX11_next 16 = .ok (.invokevirtual 235, 3) := by decide +kernel
theorem dX11_next_19 : decode cX11_next 19 = .ok (.ifCond .ne 5, 3) := by decide +kernel
theorem dX11_next_22 : decode cX11_next 22 = .ok (.iconst (-1), 1) := by decide +kernel
theorem dX11_next_23 : decode cX11_next 23 = .ok (.ireturn, 1) := by decide +kernel
theorem dX11_next_24 : decode cX11_next 24 = .ok (.iload_n 1, 1) := by decide +kernel
theorem dX11_next_25 : decode cX11_next 25 = .ok (.tableswitch 63 0 3 #[31, 39, 47, 55], 31) := by decide +kernel
theorem dX11_next_56 : decode cX11_next 56 = .ok (.aload_n 0, 1) := by decide +kernel
theorem dX11_next_57 : decode cX11_next 57 = .ok (.getfield 64, 3) := by decide +kernel
theorem dX11_next_60 : decode cX11_next 60 = .ok (.getfield 238, 3) := by decide +kernel
theorem dX11_next_63 : decode cX11_next 63 = .ok (.ireturn, 1) := by decide +kernel
theorem dX11_next_64 : decode cX11_next 64 = .ok (.aload_n 0, 1) := by decide +kernel
theorem dX11_next_65 : decode cX11_next 65 = .ok (.getfield 64, 3) := by decide +kernel
theorem dX11_next_68 : decode cX11_next 68 = .ok (.getfield 241, 3) := by decide +kernel
theorem dX11_next_71 : decode cX11_next 71 = .ok (.ireturn, 1) := by decide +kernel
theorem dX11_next_72 : decode cX11_next 72 = .ok (.aload_n 0, 1) := by decide +kernel
theorem dX11_next_73 : decode cX11_next 73 = .ok (.getfield 64, 3) := by decide +kernel
theorem dX11_next_76 : decode cX11_next 76 = .ok (.getfield 244, 3) := by decide +kernel
theorem dX11_next_79 : decode cX11_next 79 = .ok (.ireturn, 1) := by decide +kernel
theorem dX11_next_80 : decode cX11_next 80 = .ok (.aload_n 0, 1) := by decide +kernel
theorem dX11_next_81 : decode cX11_next 81 = .ok (.getfield 64, 3) := by decide +kernel
theorem dX11_next_84 : decode cX11_next 84 = .ok (.getfield 247, 3) := by decide +kernel
theorem dX11_next_87 : decode cX11_next 87 = .ok (.ireturn, 1) := by decide +kernel
theorem dX11_next_88 : decode cX11_next 88 = .ok (.iconst (-1), 1) := by decide +kernel
theorem dX11_next_89 : decode cX11_next 89 = .ok (.ireturn, 1) := by decide +kernel
set_option maxRecDepth 20000 in
theorem ggX11_room_X7_isGuest : GoodIn wsX11_room wsX7_isGuest := goodIn_r _ [9, 10, 97, 98, 99, 100, 101, 102, 103, 104, 105, 106, 107, 108, 109, 110, 111, 112] (by decide +kernel) (by decide +kernel)
set_option maxRecDepth 20000 in
theorem gX11_room_X7_isGuest : GoodIn wsX11_room (wsV RX11 171 RX7 yX7_isGuest wsX7_isGuest) := goodIn_app (goodIn_of _ (by decide +kernel)) ggX11_room_X7_isGuest
set_option maxRecDepth 20000 in
theorem ggX11_room_X8_roomOf : GoodIn wsX11_room wsX8_roomOf := goodIn_r _ [15, 16, 17, 18, 19, 20, 21, 6, 7, 8, 9, 10, 22, 23, 24, 14, 25, 26, 27, 28, 29, 30, 31, 32, 33, 34, 35, 36, 37, 38, 39, 40, 41, 42, 43, 44, 45, 46, 47, 48, 49, 50, 51, 52, 53, 54, 55, 56, 57, 58, 59, 60, 61, 62, 63, 64, 65, 66, 67, 68, 69, 70, 71, 72, 73, 74, 75, 113, 114, 115, 116, 117, 118, 119, 120, 121, 97, 98, 99, 100, 101, 102, 103, 104, 105, 106, 107, 108, 109, 110, 111, 112, 91, 92, 93, 94, 95, 96, 122, 123, 124, 125, 126, 127, 128] (by decide +kernel) (by decide +kernel)
set_option maxRecDepth 20000 in
theorem gX11_room_X8_roomOf : GoodIn wsX11_room (wsV RX11 250 RX8 yX8_roomOf wsX8_roomOf) := goodIn_app (goodIn_of _ (by decide +kernel)) ggX11_room_X8_roomOf
theorem dX11_room_0 : decode cX11_room 0 = .ok (.aload_n 0, 1) := by decide +kernel
theorem dX11_room_1 : decode cX11_room 1 = .ok (.getfield 16, 3) := by decide +kernel
theorem dX11_room_4 : decode cX11_room 4 = .ok (.iload_n 1, 1) := by decide +kernel
theorem dX11_room_5 : decode cX11_room 5 = .ok (.invokevirtual 171, 3) := by decide +kernel
theorem dX11_room_8 : decode cX11_room 8 = .ok (.ifCond .eq 16, 3) := by decide +kernel
theorem dX11_room_11 : decode cX11_room 11 = .ok (.aload_n 0, 1) := by decide +kernel
theorem dX11_room_12 : decode cX11_room 12 = .ok (.getfield 35, 3) := by decide +kernel
theorem dX11_room_15 : decode cX11_room 15 = .ok (.getfield 183, 3) := by decide +kernel
theorem dX11_room_18 : decode cX11_room 18 = .ok (.iload_n 1, 1) := by decide +kernel
theorem dX11_room_19 : decode cX11_room 19 = .ok (.iaload, 1) := by decide +kernel
theorem dX11_room_20 : decode cX11_room 20 = .ok (.iconst (-1), 1) := by decide +kernel
theorem dX11_room_21 : decode cX11_room 21 = .ok (.if_icmp .eq 5, 3) := by decide +kernel
theorem dX11_room_24 : decode cX11_room 24 = .ok (.iconst (-1), 1) := by decide +kernel
theorem dX11_room_25 : decode cX11_room 25 = .ok (.ireturn, 1) := by decide +kernel
theorem dX11_room_26 : decode cX11_room 26 = .ok (.aload_n 0, 1) := by decide +kernel
theorem dX11_room_27 : decode cX11_room 27 = .ok (.getfield 64, 3) := by decide +kernel
theorem dX11_room_30 : decode cX11_room 30 = .ok (.iload_n 1, 1) := by decide +kernel
theorem dX11_room_31 : decode cX11_room 31 = .ok (.invokevirtual 250, 3) := by decide +kernel
theorem dX11_room_34 : decode cX11_room 34 = .ok (.ireturn, 1) := by decide +kernel
set_option maxRecDepth 20000 in
theorem ggX11_hungry_X8_feeders : GoodIn wsX11_hungry wsX8_feeders := goodIn_r _ [10, 11, 12, 13, 14, 15, 16, 17, 18, 19, 20, 21, 22, 23, 24, 25, 26, 27, 28, 29, 30, 31, 32, 33, 34, 35, 36, 37, 38, 39, 40, 41, 42, 43, 44, 45, 46, 84, 85, 86, 87, 88, 89, 90, 91, 92, 78, 79, 80, 81, 82, 83, 62, 63, 64, 65, 66, 67, 68, 69, 70, 71, 72, 73, 74, 75, 76, 77, 93, 94, 95, 96, 97, 98, 99] (by decide +kernel) (by decide +kernel)
set_option maxRecDepth 20000 in
theorem gX11_hungry_X8_feeders : GoodIn wsX11_hungry (wsV RX11 228 RX8 yX8_feeders wsX8_feeders) := goodIn_app (goodIn_of _ (by decide +kernel)) ggX11_hungry_X8_feeders
theorem dX11_hungry_0 : decode cX11_hungry 0 = .ok (.iconst 0, 1) := by decide +kernel
theorem dX11_hungry_1 : decode cX11_hungry 1 = .ok (.istore_n 1, 1) := by decide +kernel
theorem dX11_hungry_2 : decode cX11_hungry 2 = .ok (.iconst 0, 1) := by decide +kernel
theorem dX11_hungry_3 : decode cX11_hungry 3 = .ok (.istore_n 2, 1) := by decide +kernel
theorem dX11_hungry_4 : decode cX11_hungry 4 = .ok (.iload_n 2, 1) := by decide +kernel
theorem dX11_hungry_5 : decode cX11_hungry 5 = .ok (.aload_n 0, 1) := by decide +kernel
theorem dX11_hungry_6 : decode cX11_hungry 6 = .ok (.getfield 16, 3) := by decide +kernel
theorem dX11_hungry_9 : decode cX11_hungry 9 = .ok (.getfield 253, 3) := by decide +kernel
theorem dX11_hungry_12 : decode cX11_hungry 12 = .ok (.if_icmp .ge 39, 3) := by decide +kernel
theorem dX11_hungry_15 : decode cX11_hungry 15 = .ok (.aload_n 0, 1) := by decide +kernel
theorem dX11_hungry_16 : decode cX11_hungry 16 = .ok (.getfield 35, 3) := by decide +kernel
theorem dX11_hungry_19 : decode cX11_hungry 19 = .ok (.getfield 183, 3) := by decide +kernel
theorem dX11_hungry_22 : decode cX11_hungry 22 = .ok (.iload_n 2, 1) := by decide +kernel
theorem dX11_hungry_23 : decode cX11_hungry 23 = .ok (.iaload, 1) := by decide +kernel
theorem dX11_hungry_24 : decode cX11_hungry 24 = .ok (.iconst (-1), 1) := by decide +kernel
theorem dX11_hungry_25 : decode cX11_hungry 25 = .ok (.if_icmp .ne 20, 3) := by decide +kernel
theorem dX11_hungry_28 : decode cX11_hungry 28 = .ok (.aload_n 0, 1) := by decide +kernel
theorem dX11_hungry_29 : decode cX11_hungry 29 = .ok (.getfield 64, 3) := by decide +kernel
theorem dX11_hungry_32 : decode cX11_hungry 32 = .ok (.iload_n 2, 1) := by decide +kernel
theorem dX11_hungry_33 : decode cX11_hungry 33 = .ok (.invokevirtual 228, 3) := by decide +kernel
theorem dX11_hungry_36 : decode cX11_hungry 36 = .ok (.ifCond .ne 9, 3) := by decide +kernel
theorem dX11_hungry_39 : decode cX11_hungry 39 = .ok (.iload_n 1, 1) := by decide +kernel
theorem dX11_hungry_40 : decode cX11_hungry 40 = .ok (.iconst 1, 1) := by decide +kernel
theorem dX11_hungry_41 : decode cX11_hungry 41 = .ok (.iload_n 2, 1) := by decide +kernel
theorem dX11_hungry_42 : decode cX11_hungry 42 = .ok (.ishl, 1) := by decide +kernel
theorem dX11_hungry_43 : decode cX11_hungry 43 = .ok (.ior, 1) := by decide +kernel
theorem dX11_hungry_44 : decode cX11_hungry 44 = .ok (.istore_n 1, 1) := by decide +kernel
theorem dX11_hungry_45 : decode cX11_hungry 45 = .ok (.iinc 2 1, 3) := by decide +kernel
theorem dX11_hungry_48 : decode cX11_hungry 48 = .ok (.goto (-44), 3) := by decide +kernel
theorem dX11_hungry_51 : decode cX11_hungry 51 = .ok (.iload_n 1, 1) := by decide +kernel
theorem dX11_hungry_52 : decode cX11_hungry 52 = .ok (.ireturn, 1) := by decide +kernel
set_option maxRecDepth 20000 in
theorem ggX11_law_X8_servedIf : GoodIn wsX11_law wsX8_servedIf := goodIn_r _ [6, 7, 8, 9, 5, 10, 11, 12, 13, 14, 15, 16, 17, 18, 19, 20, 21, 22, 23, 24, 25, 26, 27, 28, 29, 30, 31, 32, 33, 34, 35, 36, 37, 38, 39, 40, 41, 42, 43, 44, 45, 46, 47, 48, 49, 50, 51, 52, 53, 54, 55, 56, 57, 58, 59, 60, 61, 62, 78, 79, 80, 81, 82, 83, 84, 85, 86, 87, 88, 89, 90, 91, 92, 93, 94, 95, 96, 97, 98, 99, 100, 101, 102, 103, 104, 105, 106, 107, 108, 109, 110, 111, 112, 113, 114, 115] (by decide +kernel) (by decide +kernel)
set_option maxRecDepth 20000 in
theorem gX11_law_X8_servedIf : GoodIn wsX11_law (wsV RX11 232 RX8 yX8_servedIf wsX8_servedIf) := goodIn_app (goodIn_of _ (by decide +kernel)) ggX11_law_X8_servedIf
theorem dX11_law_0 : decode cX11_law 0 = .ok (.iload_n 1, 1) := by decide +kernel
theorem dX11_law_1 : decode cX11_law 1 = .ok (.bipush (-99), 2) := by decide +kernel
theorem dX11_law_3 : decode cX11_law 3 = .ok (.if_icmp .lt 9, 3) := by decide +kernel
theorem dX11_law_6 : decode cX11_law 6 = .ok (.iload_n 1, 1) := by decide +kernel
theorem dX11_law_7 : decode cX11_law 7 = .ok (.bipush 99, 2) := by decide +kernel
theorem dX11_law_9 : decode cX11_law 9 = .ok (.if_icmp .le 5, 3) := by decide +kernel
theorem dX11_law_12 : decode cX11_law 12 = .ok (.iconst (-1), 1) := by decide +kernel
theorem dX11_law_13 : decode cX11_law 13 = .ok (.ireturn, 1) := by decide +kernel
theorem dX11_law_14 : decode cX11_law 14 = .ok (.aload_n 0, 1) := by decide +kernel
theorem dX11_law_15 : decode cX11_law 15 = .ok (.getfield 64, 3) := by decide +kernel
theorem dX11_law_18 : decode cX11_law 18 = .ok (.iload_n 1, 1) := by decide +kernel
theorem dX11_law_19 : decode cX11_law 19 = .ok (.invokevirtual 232, 3) := by decide +kernel
theorem dX11_law_22 : decode cX11_law 22 = .ok (.ireturn, 1) := by decide +kernel
set_option maxRecDepth 20000 in
theorem ggX11_envies_X7_isGuest : GoodIn wsX11_envies wsX7_isGuest := goodIn_r _ [7, 8, 93, 94, 95, 96, 97, 98, 99, 100, 101, 102, 103, 104, 105, 106, 107, 108] (by decide +kernel) (by decide +kernel)
set_option maxRecDepth 20000 in
theorem gX11_envies_X7_isGuest : GoodIn wsX11_envies (wsV RX11 171 RX7 yX7_isGuest wsX7_isGuest) := goodIn_app (goodIn_of _ (by decide +kernel)) ggX11_envies_X7_isGuest
set_option maxRecDepth 20000 in
theorem ggX11_envies_X10_enviedBy : GoodIn wsX11_envies wsX10_enviedBy := goodIn_r _ [13, 14, 15, 16, 17, 18, 4, 5, 6, 7, 8, 19, 20, 21, 12, 22, 23, 24, 25, 26, 27, 28, 29, 30, 31, 32, 33, 34, 35, 36, 37, 38, 39, 40, 41, 42, 43, 44, 45, 46, 47, 48, 49, 50, 51, 52, 53, 54, 55, 56, 57, 58, 59, 60, 61, 62, 63, 64, 65, 66, 67, 68, 69, 70, 71, 72, 73, 74, 75, 76, 77, 109, 110, 111, 112, 113, 114, 115, 116, 117, 118, 119, 120, 121, 93, 94, 95, 96, 97, 98, 99, 100, 101, 102, 103, 104, 105, 106, 107, 108, 122, 123, 124, 125, 126, 127, 128, 129, 130, 131, 132, 133] (by decide +kernel) (by decide +kernel)
set_option maxRecDepth 20000 in
theorem gX11_envies_X10_enviedBy : GoodIn wsX11_envies (wsV RX11 256 RX10 yX10_enviedBy wsX10_enviedBy) := goodIn_app (goodIn_of _ (by decide +kernel)) ggX11_envies_X10_enviedBy
theorem dX11_envies_0 : decode cX11_envies 0 = .ok (.aload_n 0, 1) := by decide +kernel
theorem dX11_envies_1 : decode cX11_envies 1 = .ok (.getfield 16, 3) := by decide +kernel
theorem dX11_envies_4 : decode cX11_envies 4 = .ok (.iload_n 1, 1) := by decide +kernel
theorem dX11_envies_5 : decode cX11_envies 5 = .ok (.invokevirtual 171, 3) := by decide +kernel
theorem dX11_envies_8 : decode cX11_envies 8 = .ok (.ifCond .ne 5, 3) := by decide +kernel
theorem dX11_envies_11 : decode cX11_envies 11 = .ok (.iconst (-1), 1) := by decide +kernel
theorem dX11_envies_12 : decode cX11_envies 12 = .ok (.ireturn, 1) := by decide +kernel
theorem dX11_envies_13 : decode cX11_envies 13 = .ok (.aload_n 0, 1) := by decide +kernel
theorem dX11_envies_14 : decode cX11_envies 14 = .ok (.getfield 48, 3) := by decide +kernel
theorem dX11_envies_17 : decode cX11_envies 17 = .ok (.iload_n 1, 1) := by decide +kernel
theorem dX11_envies_18 : decode cX11_envies 18 = .ok (.invokevirtual 256, 3) := by decide +kernel
theorem dX11_envies_21 : decode cX11_envies 21 = .ok (.ireturn, 1) := by decide +kernel
set_option maxRecDepth 20000 in
theorem ggX11_quarrel_X10_enviedBy : GoodIn wsX11_quarrel wsX10_enviedBy := goodIn_r _ [8, 9, 10, 11, 12, 13, 14, 15, 16, 17, 18, 19, 20, 21, 7, 22, 23, 24, 25, 26, 27, 28, 29, 30, 31, 32, 33, 34, 35, 36, 37, 38, 39, 40, 41, 42, 43, 44, 45, 46, 47, 48, 49, 50, 51, 52, 53, 54, 55, 56, 57, 58, 59, 60, 61, 62, 63, 64, 65, 66, 67, 68, 69, 70, 71, 72, 73, 74, 75, 76, 77, 116, 117, 118, 119, 120, 121, 122, 123, 124, 125, 126, 127, 128, 100, 101, 102, 103, 104, 105, 106, 107, 108, 109, 110, 111, 112, 113, 114, 115, 129, 130, 131, 132, 133, 134, 135, 136, 137, 138, 139, 140] (by decide +kernel) (by decide +kernel)
set_option maxRecDepth 20000 in
theorem gX11_quarrel_X10_enviedBy : GoodIn wsX11_quarrel (wsV RX11 256 RX10 yX10_enviedBy wsX10_enviedBy) := goodIn_app (goodIn_of _ (by decide +kernel)) ggX11_quarrel_X10_enviedBy
set_option maxRecDepth 20000 in
theorem ggX11_quarrel_J6_bitCount_0f7a4 : GoodIn wsX11_quarrel wsJ6_bitCount_0f7a4 := goodIn_r _ [81, 82, 83, 84] (by decide +kernel) (by decide +kernel)
set_option maxRecDepth 20000 in
theorem gX11_quarrel_J6_bitCount_0f7a4 : GoodIn wsX11_quarrel (va_wsS RX11 259 yJ6_bitCount_0f7a4 wsJ6_bitCount_0f7a4) := goodIn_app (goodIn_of _ (by decide +kernel)) ggX11_quarrel_J6_bitCount_0f7a4
theorem dX11_quarrel_0 : decode cX11_quarrel 0 = .ok (.iconst 0, 1) := by decide +kernel
theorem dX11_quarrel_1 : decode cX11_quarrel 1 = .ok (.istore_n 1, 1) := by decide +kernel
theorem dX11_quarrel_2 : decode cX11_quarrel 2 = .ok (.iconst 0, 1) := by decide +kernel
theorem dX11_quarrel_3 : decode cX11_quarrel 3 = .ok (.istore_n 2, 1) := by decide +kernel
theorem dX11_quarrel_4 : decode cX11_quarrel 4 = .ok (.iload_n 2, 1) := by decide +kernel
theorem dX11_quarrel_5 : decode cX11_quarrel 5 = .ok (.aload_n 0, 1) := by decide +kernel
theorem dX11_quarrel_6 : decode cX11_quarrel 6 = .ok (.getfield 16, 3) := by decide +kernel
theorem dX11_quarrel_9 : decode cX11_quarrel 9 = .ok (.getfield 253, 3) := by decide +kernel
theorem dX11_quarrel_12 : decode cX11_quarrel 12 = .ok (.if_icmp .ge 23, 3) := by decide +kernel
theorem dX11_quarrel_15 : decode cX11_quarrel 15 = .ok (.iload_n 1, 1) := by decide +kernel
theorem dX11_quarrel_16 : decode cX11_quarrel 16 = .ok (.aload_n 0, 1) := by decide +kernel
theorem dX11_quarrel_17 : decode cX11_quarrel 17 = .ok (.getfield 48, 3) := by decide +kernel
theorem dX11_quarrel_20 : decode cX11_quarrel 20 = .ok (.iload_n 2, 1) := by decide +kernel
theorem dX11_quarrel_21 : decode cX11_quarrel 21 = .ok (.invokevirtual 256, 3) := by decide +kernel
theorem dX11_quarrel_24 : decode cX11_quarrel 24 = .ok (.invokestatic 259, 3) := by decide +kernel
theorem dX11_quarrel_27 : decode cX11_quarrel 27 = .ok (.iadd, 1) := by decide +kernel
theorem dX11_quarrel_28 : decode cX11_quarrel 28 = .ok (.istore_n 1, 1) := by decide +kernel
theorem dX11_quarrel_29 : decode cX11_quarrel 29 = .ok (.iinc 2 1, 3) := by decide +kernel
theorem dX11_quarrel_32 : decode cX11_quarrel 32 = .ok (.goto (-28), 3) := by decide +kernel
theorem dX11_quarrel_35 : decode cX11_quarrel 35 = .ok (.iload_n 1, 1) := by decide +kernel
theorem dX11_quarrel_36 : decode cX11_quarrel 36 = .ok (.ireturn, 1) := by decide +kernel
set_option maxRecDepth 20000 in
theorem ggX11_calm_X10_findCalm : GoodIn wsX11_calm wsX10_findCalm := goodIn_r _ [9, 10, 11, 12, 13, 14, 15, 16, 17, 18, 19, 20, 8, 21, 22, 23, 24, 25, 26, 27, 28, 29, 30, 31, 32, 33, 34, 35, 36, 37, 38, 39, 40, 41, 42, 43, 44, 45, 46, 47, 48, 49, 50, 51, 52, 53, 54, 55, 56, 57, 58, 59, 60, 61, 62, 63, 64, 65, 66, 67, 68, 69, 70, 71, 72, 73, 74, 75, 76, 77, 78, 79, 80, 81, 82, 83, 84, 85, 86, 87, 88, 89, 105, 106, 107, 108, 109, 110, 111, 112, 113, 114, 115, 116, 117, 118, 119, 120, 121, 122, 123, 124, 125, 126, 127, 128, 129, 130, 131, 132, 133, 134, 135, 136, 137, 138, 139, 140, 141, 142, 143, 144, 145] (by decide +kernel) (by decide +kernel)
set_option maxRecDepth 20000 in
theorem gX11_calm_X10_findCalm : GoodIn wsX11_calm (wsV RX11 264 RX10 yX10_findCalm wsX10_findCalm) := goodIn_app (goodIn_of _ (by decide +kernel)) ggX11_calm_X10_findCalm
theorem dX11_calm_0 : decode cX11_calm 0 = .ok (.aload_n 0, 1) := by decide +kernel
theorem dX11_calm_1 : decode cX11_calm 1 = .ok (.getfield 48, 3) := by decide +kernel
theorem dX11_calm_4 : decode cX11_calm 4 = .ok (.invokevirtual 264, 3) := by decide +kernel
theorem dX11_calm_7 : decode cX11_calm 7 = .ok (.ifCond .ne 5, 3) := by decide +kernel
theorem dX11_calm_10 : decode cX11_calm 10 = .ok (.iconst (-1), 1) := by decide +kernel
theorem dX11_calm_11 : decode cX11_calm 11 = .ok (.ireturn, 1) := by decide +kernel
theorem dX11_calm_12 : decode cX11_calm 12 = .ok (.iload_n 1, 1) := by decide +kernel
theorem dX11_calm_13 : decode cX11_calm 13 = .ok (.tableswitch 51 0 2 #[27, 35, 43], 27) := by decide +kernel
theorem dX11_calm_40 : decode cX11_calm 40 = .ok (.aload_n 0, 1) := by decide +kernel
theorem dX11_calm_41 : decode cX11_calm 41 = .ok (.getfield 48, 3) := by decide +kernel
theorem dX11_calm_44 : decode cX11_calm 44 = .ok (.getfield 267, 3) := by decide +kernel
theorem dX11_calm_47 : decode cX11_calm 47 = .ok (.ireturn, 1) := by decide +kernel
theorem dX11_calm_48 : decode cX11_calm 48 = .ok (.aload_n 0, 1) := by decide +kernel
theorem dX11_calm_49 : decode cX11_calm 49 = .ok (.getfield 48, 3) := by decide +kernel
theorem dX11_calm_52 : decode cX11_calm 52 = .ok (.getfield 270, 3) := by decide +kernel
theorem dX11_calm_55 : decode cX11_calm 55 = .ok (.ireturn, 1) := by decide +kernel
theorem dX11_calm_56 : decode cX11_calm 56 = .ok (.aload_n 0, 1) := by decide +kernel
theorem dX11_calm_57 : decode cX11_calm 57 = .ok (.getfield 48, 3) := by decide +kernel
theorem dX11_calm_60 : decode cX11_calm 60 = .ok (.getfield 273, 3) := by decide +kernel
theorem dX11_calm_63 : decode cX11_calm 63 = .ok (.ireturn, 1) := by decide +kernel
theorem dX11_calm_64 : decode cX11_calm 64 = .ok (.iconst (-1), 1) := by decide +kernel
theorem dX11_calm_65 : decode cX11_calm 65 = .ok (.ireturn, 1) := by decide +kernel
set_option maxRecDepth 20000 in
theorem ggX11_halve_X11_canHalve : GoodIn wsX11_halve wsX11_canHalve := goodIn_r _ [9, 10, 11, 12, 13, 14, 15, 16, 17, 18, 19, 20, 21, 22, 23, 24, 25, 26, 27, 28, 29, 121, 122, 123, 124, 125, 126, 127, 128, 129, 130, 131, 132, 133, 134, 135, 152, 153, 154, 155, 156, 157, 158, 159, 160, 161, 162, 163, 164, 165, 166, 167, 168, 169, 170, 171, 172, 173, 174, 175, 176, 177, 178, 179, 180] (by decide +kernel) (by decide +kernel)
set_option maxRecDepth 20000 in
theorem gX11_halve_X11_canHalve : GoodIn wsX11_halve (wsV RX11 276 RX11 yX11_canHalve wsX11_canHalve) := goodIn_app (goodIn_of _ (by decide +kernel)) ggX11_halve_X11_canHalve
set_option maxRecDepth 20000 in
theorem ggX11_halve_X5_findHalves : GoodIn wsX11_halve wsX5_findHalves := goodIn_r _ [34, 35, 36, 37, 38, 39, 40, 41, 42, 43, 44, 19, 20, 21, 22, 23, 24, 25, 26, 27, 28, 29, 45, 46, 47, 48, 49, 50, 51, 52, 53, 54, 55, 56, 57, 58, 59, 60, 61, 62, 63, 64, 65, 66, 67, 68, 69, 70, 71, 72, 73, 74, 75, 76, 77, 78, 79, 80, 81, 82, 83, 84, 85, 86, 87, 15, 88, 89, 90, 91, 92, 93, 94, 95, 96, 97, 98, 99, 100, 101, 102, 103, 104, 105, 106, 13, 14, 16, 17, 107, 108, 109, 110, 111, 112, 113, 114, 115, 116, 117, 118, 119, 120, 136, 137, 138, 139, 140, 141, 142, 143, 144, 145, 146, 147, 148, 149, 150, 151, 168, 169, 170, 171, 172, 173, 174, 175, 176, 177, 178, 179, 180, 181, 182, 183, 184, 185, 186, 187, 152, 153, 154, 155, 156, 157, 158, 159, 160, 161, 162, 163, 164, 165, 166, 167, 188, 189, 190, 191, 192] (by decide +kernel) (by decide +kernel)
set_option maxRecDepth 20000 in
theorem gX11_halve_X5_findHalves : GoodIn wsX11_halve (wsV RX11 279 RX5 yX5_findHalves wsX5_findHalves) := goodIn_app (goodIn_of _ (by decide +kernel)) ggX11_halve_X5_findHalves
theorem dX11_halve_0 : decode cX11_halve 0 = .ok (.aload_n 0, 1) := by decide +kernel
theorem dX11_halve_1 : decode cX11_halve 1 = .ok (.iload_n 1, 1) := by decide +kernel
theorem dX11_halve_2 : decode cX11_halve 2 = .ok (.iload_n 2, 1) := by decide +kernel
theorem dX11_halve_3 : decode cX11_halve 3 = .ok (.iload_n 3, 1) := by decide +kernel
theorem dX11_halve_4 : decode cX11_halve 4 = .ok (.invokevirtual 276, 3) := by decide +kernel
theorem dX11_halve_7 : decode cX11_halve 7 = .ok (.ifCond .eq 16, 3) := by decide +kernel
theorem dX11_halve_10 : decode cX11_halve 10 = .ok (.aload_n 0, 1) := by decide +kernel
theorem dX11_halve_11 : decode cX11_halve 11 = .ok (.getfield 71, 3) := by decide +kernel
theorem dX11_halve_14 : decode cX11_halve 14 = .ok (.iload_n 1, 1) := by decide +kernel
theorem dX11_halve_15 : decode cX11_halve 15 = .ok (.iload_n 2, 1) := by decide +kernel
theorem dX11_halve_16 : decode cX11_halve 16 = .ok (.iload_n 3, 1) := by decide +kernel
theorem dX11_halve_17 : decode cX11_halve 17 = .ok (.invokevirtual 279, 3) := by decide +kernel
theorem dX11_halve_20 : decode cX11_halve 20 = .ok (.ifCond .ne 5, 3) := by decide +kernel
theorem dX11_halve_23 : decode cX11_halve 23 = .ok (.iconst (-1), 1) := by decide +kernel
theorem dX11_halve_24 : decode cX11_halve 24 = .ok (.ireturn, 1) := by decide +kernel
theorem dX11_halve_25 : decode cX11_halve 25 = .ok (.iload 4, 2) := by decide +kernel
theorem dX11_halve_27 : decode cX11_halve 27 = .ok (.tableswitch 49 0 2 #[25, 33, 41], 25) := by decide +kernel
theorem dX11_halve_52 : decode cX11_halve 52 = .ok (.aload_n 0, 1) := by decide +kernel
theorem dX11_halve_53 : decode cX11_halve 53 = .ok (.getfield 71, 3) := by decide +kernel
theorem dX11_halve_56 : decode cX11_halve 56 = .ok (.getfield 282, 3) := by decide +kernel
theorem dX11_halve_59 : decode cX11_halve 59 = .ok (.ireturn, 1) := by decide +kernel
theorem dX11_halve_60 : decode cX11_halve 60 = .ok (.aload_n 0, 1) := by decide +kernel
theorem dX11_halve_61 : decode cX11_halve 61 = .ok (.getfield 71, 3) := by decide +kernel
theorem dX11_halve_64 : decode cX11_halve 64 = .ok (.getfield 285, 3) := by decide +kernel
theorem dX11_halve_67 : decode cX11_halve 67 = .ok (.ireturn, 1) := by decide +kernel
theorem dX11_halve_68 : decode cX11_halve 68 = .ok (.aload_n 0, 1) := by decide +kernel
theorem dX11_halve_69 : decode cX11_halve 69 = .ok (.getfield 71, 3) := by decide +kernel
theorem dX11_halve_72 : decode cX11_halve 72 = .ok (.getfield 288, 3) := by decide +kernel
theorem dX11_halve_75 : decode cX11_halve 75 = .ok (.ireturn, 1) := by decide +kernel
theorem dX11_halve_76 : decode cX11_halve 76 = .ok (.iconst (-1), 1) := by decide +kernel
theorem dX11_halve_77 : decode cX11_halve 77 = .ok (.ireturn, 1) := by decide +kernel
set_option maxRecDepth 20000 in
theorem ggX11_share_X11_canHalve : GoodIn wsX11_share wsX11_canHalve := goodIn_r _ [8, 9, 10, 11, 12, 13, 14, 15, 16, 17, 18, 19, 20, 21, 22, 23, 24, 25, 26, 27, 28, 120, 121, 122, 123, 124, 125, 126, 127, 128, 129, 130, 131, 132, 133, 134, 151, 152, 153, 154, 155, 156, 157, 158, 159, 160, 161, 162, 163, 164, 165, 166, 167, 168, 169, 170, 171, 172, 173, 174, 175, 176, 177, 178, 179] (by decide +kernel) (by decide +kernel)
set_option maxRecDepth 20000 in
theorem gX11_share_X11_canHalve : GoodIn wsX11_share (wsV RX11 276 RX11 yX11_canHalve wsX11_canHalve) := goodIn_app (goodIn_of _ (by decide +kernel)) ggX11_share_X11_canHalve
set_option maxRecDepth 20000 in
theorem ggX11_share_X5_findHalves : GoodIn wsX11_share wsX5_findHalves := goodIn_r _ [33, 34, 35, 36, 37, 38, 39, 40, 41, 42, 43, 18, 19, 20, 21, 22, 23, 24, 25, 26, 27, 28, 44, 45, 46, 47, 48, 49, 50, 51, 52, 53, 54, 55, 56, 57, 58, 59, 60, 61, 62, 63, 64, 65, 66, 67, 68, 69, 70, 71, 72, 73, 74, 75, 76, 77, 78, 79, 80, 81, 82, 83, 84, 85, 86, 14, 87, 88, 89, 90, 91, 92, 93, 94, 95, 96, 97, 98, 99, 100, 101, 102, 103, 104, 105, 12, 13, 15, 16, 106, 107, 108, 109, 110, 111, 112, 113, 114, 115, 116, 117, 118, 119, 135, 136, 137, 138, 139, 140, 141, 142, 143, 144, 145, 146, 147, 148, 149, 150, 167, 168, 169, 170, 171, 172, 173, 174, 175, 176, 177, 178, 179, 180, 181, 182, 183, 184, 185, 186, 151, 152, 153, 154, 155, 156, 157, 158, 159, 160, 161, 162, 163, 164, 165, 166, 187, 188, 189, 190, 191] (by decide +kernel) (by decide +kernel)
set_option maxRecDepth 20000 in
theorem gX11_share_X5_findHalves : GoodIn wsX11_share (wsV RX11 279 RX5 yX5_findHalves wsX5_findHalves) := goodIn_app (goodIn_of _ (by decide +kernel)) ggX11_share_X5_findHalves
theorem dX11_share_0 : decode cX11_share 0 = .ok (.aload_n 0, 1) := by decide +kernel
theorem dX11_share_1 : decode cX11_share 1 = .ok (.iload_n 1, 1) := by decide +kernel
theorem dX11_share_2 : decode cX11_share 2 = .ok (.iload_n 2, 1) := by decide +kernel
theorem dX11_share_3 : decode cX11_share 3 = .ok (.iload_n 3, 1) := by decide +kernel
theorem dX11_share_4 : decode cX11_share 4 = .ok (.invokevirtual 276, 3) := by decide +kernel
theorem dX11_share_7 : decode cX11_share 7 = .ok (.ifCond .eq 16, 3) := by decide +kernel
theorem dX11_share_10 : decode cX11_share 10 = .ok (.aload_n 0, 1) := by decide +kernel
theorem dX11_share_11 : decode cX11_share 11 = .ok (.getfield 71, 3) := by decide +kernel
theorem dX11_share_14 : decode cX11_share 14 = .ok (.iload_n 1, 1) := by decide +kernel
theorem dX11_share_15 : decode cX11_share 15 = .ok (.iload_n 2, 1) := by decide +kernel
theorem dX11_share_16 : decode cX11_share 16 = .ok (.iload_n 3, 1) := by decide +kernel
theorem dX11_share_17 : decode cX11_share 17 = .ok (.invokevirtual 279, 3) := by decide +kernel
theorem dX11_share_20 : decode cX11_share 20 = .ok (.ifCond .ne 6, 3) := by decide +kernel
theorem dX11_share_23 : decode cX11_share 23 = .ok (.ldc 190, 2) := by decide +kernel
theorem dX11_share_25 : decode cX11_share 25 = .ok (.ireturn, 1) := by decide +kernel
theorem dX11_share_26 : decode cX11_share 26 = .ok (.aload_n 0, 1) := by decide +kernel
theorem dX11_share_27 : decode cX11_share 27 = .ok (.getfield 71, 3) := by decide +kernel
theorem dX11_share_30 : decode cX11_share 30 = .ok (.getfield 291, 3) := by decide +kernel
theorem dX11_share_33 : decode cX11_share 33 = .ok (.ireturn, 1) := by decide +kernel
set_option maxRecDepth 20000 in
theorem ggX11_canHalve_X7_isGuest : GoodIn wsX11_canHalve wsX7_isGuest := goodIn_r _ [7, 8, 36, 37, 38, 39, 40, 41, 42, 43, 44, 45, 46, 47, 48, 49, 50, 51] (by decide +kernel) (by decide +kernel)
set_option maxRecDepth 20000 in
theorem gX11_canHalve_X7_isGuest : GoodIn wsX11_canHalve (wsV RX11 171 RX7 yX7_isGuest wsX7_isGuest) := goodIn_app (goodIn_of _ (by decide +kernel)) ggX11_canHalve_X7_isGuest
set_option maxRecDepth 20000 in
theorem ggX11_canHalve_X1_isFree : GoodIn wsX11_canHalve wsX1_isFree := goodIn_r _ [13, 14, 15, 16, 17, 18, 12, 19, 20, 52, 53, 54, 55, 56, 57, 58, 59, 60, 61, 62, 63, 64] (by decide +kernel) (by decide +kernel)
set_option maxRecDepth 20000 in
theorem gX11_canHalve_X1_isFree : GoodIn wsX11_canHalve (wsV RX11 214 RX1 yX1_isFree wsX1_isFree) := goodIn_app (goodIn_of _ (by decide +kernel)) ggX11_canHalve_X1_isFree
theorem dX11_canHalve_0 : decode cX11_canHalve 0 = .ok (.aload_n 0, 1) := by decide +kernel
theorem dX11_canHalve_1 : decode cX11_canHalve 1 = .ok (.getfield 16, 3) := by decide +kernel
theorem dX11_canHalve_4 : decode cX11_canHalve 4 = .ok (.iload_n 2, 1) := by decide +kernel
theorem dX11_canHalve_5 : decode cX11_canHalve 5 = .ok (.invokevirtual 171, 3) := by decide +kernel
theorem dX11_canHalve_8 : decode cX11_canHalve 8 = .ok (.ifCond .eq 34, 3) := by decide +kernel
theorem dX11_canHalve_11 : decode cX11_canHalve 11 = .ok (.aload_n 0, 1) := by decide +kernel
theorem dX11_canHalve_12 : decode cX11_canHalve 12 = .ok (.getfield 16, 3) := by decide +kernel
theorem dX11_canHalve_15 : decode cX11_canHalve 15 = .ok (.iload_n 3, 1) := by decide +kernel
theorem dX11_canHalve_16 : decode cX11_canHalve 16 = .ok (.invokevirtual 171, 3) := by decide +kernel
theorem dX11_canHalve_19 : decode cX11_canHalve 19 = .ok (.ifCond .eq 23, 3) := by decide +kernel
theorem dX11_canHalve_22 : decode cX11_canHalve 22 = .ok (.iload_n 2, 1) := by decide +kernel
theorem dX11_canHalve_23 : decode cX11_canHalve 23 = .ok (.iload_n 3, 1) := by decide +kernel
theorem dX11_canHalve_24 : decode cX11_canHalve 24 = .ok (.if_icmp .eq 18, 3) := by decide +kernel
theorem dX11_canHalve_27 : decode cX11_canHalve 27 = .ok (.aload_n 0, 1) := by decide +kernel
theorem dX11_canHalve_28 : decode cX11_canHalve 28 = .ok (.getfield 35, 3) := by decide +kernel
theorem dX11_canHalve_31 : decode cX11_canHalve 31 = .ok (.iload_n 1, 1) := by decide +kernel
theorem dX11_canHalve_32 : decode cX11_canHalve 32 = .ok (.invokevirtual 214, 3) := by decide +kernel
theorem dX11_canHalve_35 : decode cX11_canHalve 35 = .ok (.ifCond .eq 7, 3) := by decide +kernel
theorem dX11_canHalve_38 : decode cX11_canHalve 38 = .ok (.iconst 1, 1) := by decide +kernel
theorem dX11_canHalve_39 : decode cX11_canHalve 39 = .ok (.goto 4, 3) := by decide +kernel
theorem dX11_canHalve_42 : decode cX11_canHalve 42 = .ok (.iconst 0, 1) := by decide +kernel
theorem dX11_canHalve_43 : decode cX11_canHalve 43 = .ok (.ireturn, 1) := by decide +kernel
set_option maxRecDepth 20000 in
theorem ggX11_picks_X5_pickByNumber : GoodIn wsX11_picks wsX5_pickByNumber := goodIn_r _ [10, 11, 12, 13, 14, 15, 16, 17, 9, 18, 19, 20, 21, 22, 23, 24, 25, 26, 27, 28, 29, 30, 31, 32, 33, 34, 35, 36, 37, 38, 39, 40, 41, 42, 43, 44, 45, 46, 47, 48, 49, 50, 51, 52, 53, 54, 55, 56, 57, 58, 59, 60, 61, 62, 63, 64, 65, 66, 67, 68, 69, 70, 71, 72, 73, 74, 75, 76, 77, 78, 79, 80, 81, 82, 83, 84, 85, 86, 87, 88, 89, 90, 91, 92, 93, 94, 95, 96, 97, 98, 99, 100, 101, 102, 103, 104, 105, 106, 107, 108, 109, 110, 111, 112, 113, 145, 146, 147, 148, 149, 150, 151, 152, 153, 154, 155, 156, 157, 158, 159, 160, 129, 130, 131, 132, 133, 134, 135, 136, 137, 138, 139, 140, 141, 142, 143, 144, 161, 162, 163, 164, 165, 166, 167, 168, 169, 170, 171, 172, 173, 174, 175, 176, 177, 178, 179, 180, 181, 182, 183, 184, 185] (by decide +kernel) (by decide +kernel)
set_option maxRecDepth 20000 in
theorem gX11_picks_X5_pickByNumber : GoodIn wsX11_picks (wsV RX11 294 RX5 yX5_pickByNumber wsX5_pickByNumber) := goodIn_app (goodIn_of _ (by decide +kernel)) ggX11_picks_X5_pickByNumber
theorem dX11_picks_0 : decode cX11_picks 0 = .ok (.aload_n 0, 1) := by decide +kernel
theorem dX11_picks_1 : decode cX11_picks 1 = .ok (.aload_n 0, 1) := by decide +kernel
theorem dX11_picks_2 : decode cX11_picks 2 = .ok (.getfield 16, 3) := by decide +kernel
theorem dX11_picks_5 : decode cX11_picks 5 = .ok (.getfield 253, 3) := by decide +kernel
theorem dX11_picks_8 : decode cX11_picks 8 = .ok (.putfield 122, 3) := by decide +kernel
theorem dX11_picks_11 : decode cX11_picks 11 = .ok (.aload_n 0, 1) := by decide +kernel
theorem dX11_picks_12 : decode cX11_picks 12 = .ok (.getfield 71, 3) := by decide +kernel
theorem dX11_picks_15 : decode cX11_picks 15 = .ok (.aload_n 0, 1) := by decide +kernel
theorem dX11_picks_16 : decode cX11_picks 16 = .ok (.getfield 91, 3) := by decide +kernel
theorem dX11_picks_19 : decode cX11_picks 19 = .ok (.invokevirtual 294, 3) := by decide +kernel
theorem dX11_picks_22 : decode cX11_picks 22 = .ok (.ireturn, 1) := by decide +kernel
set_option maxRecDepth 20000 in
theorem ggX11_order_X5_findOrder : GoodIn wsX11_order wsX5_findOrder := goodIn_r _ [10, 11, 12, 13, 14, 15, 16, 17, 18, 19, 9, 20, 21, 22, 23, 24, 25, 26, 27, 28, 29, 30, 31, 32, 33, 34, 35, 36, 37, 38, 39, 40, 41, 42, 43, 44, 45, 46, 47, 48, 49, 50, 51, 52, 53, 54, 55, 56, 57, 58, 59, 60, 61, 62, 63, 64, 65, 66, 67, 68, 69, 70, 71, 72, 73, 74, 75, 76, 77, 78, 79, 80, 81, 82, 83, 84, 85, 86, 87, 88, 89, 90, 91, 92, 93, 94, 95, 96, 97, 98, 99, 100, 101, 102, 103, 104, 105, 106, 107, 108, 109, 110, 111, 112, 113, 114, 115, 116, 117, 118, 134, 135, 136, 137, 138, 139, 140, 141, 142, 143, 144, 145, 146, 147, 148, 149, 150, 151, 152, 153, 154, 155, 156, 157, 158, 159, 160, 161, 162, 163, 164, 165, 166, 167, 168, 169, 170, 171, 172, 173, 174, 175, 176, 177, 178, 179, 180, 181, 182, 183, 184, 185, 186, 187, 188, 189, 190] (by decide +kernel) (by decide +kernel)
set_option maxRecDepth 20000 in
theorem gX11_order_X5_findOrder : GoodIn wsX11_order (wsV RX11 298 RX5 yX5_findOrder wsX5_findOrder) := goodIn_app (goodIn_of _ (by decide +kernel)) ggX11_order_X5_findOrder
theorem dX11_order_0 : decode cX11_order 0 = .ok (.aload_n 0, 1) := by decide +kernel
theorem dX11_order_1 : decode cX11_order 1 = .ok (.aload_n 0, 1) := by decide +kernel
theorem dX11_order_2 : decode cX11_order 2 = .ok (.getfield 71, 3) := by decide +kernel
theorem dX11_order_5 : decode cX11_order 5 = .ok (.aload_n 0, 1) := by decide +kernel
theorem dX11_order_6 : decode cX11_order 6 = .ok (.getfield 91, 3) := by decide +kernel
theorem dX11_order_9 : decode cX11_order 9 = .ok (.invokevirtual 298, 3) := by decide +kernel
theorem dX11_order_12 : decode cX11_order 12 = .ok (.putfield 122, 3) := by decide +kernel
theorem dX11_order_15 : decode cX11_order 15 = .ok (.aload_n 0, 1) := by decide +kernel
theorem dX11_order_16 : decode cX11_order 16 = .ok (.getfield 122, 3) := by decide +kernel
theorem dX11_order_19 : decode cX11_order 19 = .ok (.ifCond .ne 8, 3) := by decide +kernel
theorem dX11_order_22 : decode cX11_order 22 = .ok (.ldc 190, 2) := by decide +kernel
theorem dX11_order_24 : decode cX11_order 24 = .ok (.goto 10, 3) := by decide +kernel
theorem dX11_order_27 : decode cX11_order 27 = .ok (.aload_n 0, 1) := by decide +kernel
theorem dX11_order_28 : decode cX11_order 28 = .ok (.getfield 71, 3) := by decide +kernel
theorem dX11_order_31 : decode cX11_order 31 = .ok (.getfield 301, 3) := by decide +kernel
theorem dX11_order_34 : decode cX11_order 34 = .ok (.ireturn, 1) := by decide +kernel
set_option maxRecDepth 20000 in
theorem ggX11_best_X7_isGuest : GoodIn wsX11_best wsX7_isGuest := goodIn_r _ [9, 10, 102, 103, 104, 105, 106, 107, 108, 109, 110, 111, 112, 113, 114, 115, 116, 117] (by decide +kernel) (by decide +kernel)
set_option maxRecDepth 20000 in
theorem gX11_best_X7_isGuest : GoodIn wsX11_best (wsV RX11 171 RX7 yX7_isGuest wsX7_isGuest) := goodIn_app (goodIn_of _ (by decide +kernel)) ggX11_best_X7_isGuest
set_option maxRecDepth 20000 in
theorem ggX11_best_X1_isFree : GoodIn wsX11_best wsX1_isFree := goodIn_r _ [15, 16, 17, 18, 19, 20, 14, 21, 22, 96, 97, 98, 99, 100, 101, 118, 119, 120, 121, 122, 123, 124] (by decide +kernel) (by decide +kernel)
set_option maxRecDepth 20000 in
theorem gX11_best_X1_isFree : GoodIn wsX11_best (wsV RX11 214 RX1 yX1_isFree wsX1_isFree) := goodIn_app (goodIn_of _ (by decide +kernel)) ggX11_best_X1_isFree
set_option maxRecDepth 20000 in
theorem ggX11_best_X10_ofPiece : GoodIn wsX11_best wsX10_ofPiece := goodIn_r _ [27, 28, 29, 30, 19, 20, 14, 21, 22, 31, 32, 33, 26, 34, 35, 36, 37, 38, 39, 40, 41, 42, 43, 44, 45, 46, 47, 8, 48, 49, 50, 51, 52, 53, 54, 55, 56, 57, 58, 59, 60, 61, 62, 63, 64, 65, 66, 6, 7, 9, 10, 67, 68, 69, 70, 71, 72, 73, 74, 75, 76, 77, 78, 79, 80, 125, 126, 127, 128, 129, 130, 131, 96, 97, 98, 99, 100, 101, 102, 103, 104, 105, 106, 107, 108, 109, 110, 111, 112, 113, 114, 115, 116, 117, 118, 119, 120, 121, 122, 123, 124, 132, 133, 134, 135, 136] (by decide +kernel) (by decide +kernel)
set_option maxRecDepth 20000 in
theorem gX11_best_X10_ofPiece : GoodIn wsX11_best (wsV RX11 186 RX10 yX10_ofPiece wsX10_ofPiece) := goodIn_app (goodIn_of _ (by decide +kernel)) ggX11_best_X10_ofPiece
theorem dX11_best_0 : decode cX11_best 0 = .ok (.aload_n 0, 1) := by decide +kernel
theorem dX11_best_1 : decode cX11_best 1 = .ok (.getfield 16, 3) := by decide +kernel
theorem dX11_best_4 : decode cX11_best 4 = .ok (.iload_n 1, 1) := by decide +kernel
theorem dX11_best_5 : decode cX11_best 5 = .ok (.invokevirtual 171, 3) := by decide +kernel
theorem dX11_best_8 : decode cX11_best 8 = .ok (.ifCond .ne 5, 3) := by decide +kernel
theorem dX11_best_11 : decode cX11_best 11 = .ok (.iconst (-1), 1) := by decide +kernel
theorem dX11_best_12 : decode cX11_best 12 = .ok (.ireturn, 1) := by decide +kernel
theorem dX11_best_13 : decode cX11_best 13 = .ok (.iconst (-1), 1) := by decide +kernel
theorem dX11_best_14 : decode cX11_best 14 = .ok (.istore_n 2, 1) := by decide +kernel
theorem dX11_best_15 : decode cX11_best 15 = .ok (.iconst 0, 1) := by decide +kernel
theorem dX11_best_16 : decode cX11_best 16 = .ok (.istore_n 3, 1) := by decide +kernel
theorem dX11_best_17 : decode cX11_best 17 = .ok (.iconst 0, 1) := by decide +kernel
theorem dX11_best_18 : decode cX11_best 18 = .ok (.istore 4, 2) := by decide +kernel
theorem dX11_best_20 : decode cX11_best 20 = .ok (.iload 4, 2) := by decide +kernel
theorem dX11_best_22 : decode cX11_best 22 = .ok (.aload_n 0, 1) := by decide +kernel
theorem dX11_best_23 : decode cX11_best 23 = .ok (.getfield 35, 3) := by decide +kernel
theorem dX11_best_26 : decode cX11_best 26 = .ok (.getfield 207, 3) := by decide +kernel
theorem dX11_best_29 : decode cX11_best 29 = .ok (.if_icmp .ge 51, 3) := by decide +kernel
theorem dX11_best_32 : decode cX11_best 32 = .ok (.aload_n 0, 1) := by decide +kernel
theorem dX11_best_33 : decode cX11_best 33 = .ok (.getfield 35, 3) := by decide +kernel
theorem dX11_best_36 : decode cX11_best 36 = .ok (.iload 4, 2) := by decide +kernel
theorem dX11_best_38 : decode cX11_best 38 = .ok (.invokevirtual 214, 3) := by decide +kernel
theorem dX11_best_41 : decode cX11_best 41 = .ok (.ifCond .eq 33, 3) := by decide +kernel
theorem dX11_best_44 : decode cX11_best 44 = .ok (.aload_n 0, 1) := by decide +kernel
theorem dX11_best_45 : decode cX11_best 45 = .ok (.getfield 48, 3) := by decide +kernel
theorem dX11_best_48 : decode cX11_best 48 = .ok (.iload_n 1, 1) := by decide +kernel
theorem dX11_best_49 : decode cX11_best 49 = .ok (.iload 4, 2) := by decide +kernel
theorem dX11_best_51 : decode cX11_best 51 = .ok (.iconst 0, 1) := by decide +kernel
theorem dX11_best_52 : decode cX11_best 52 = .ok (.invokevirtual 186, 3) := by decide +kernel
theorem dX11_best_55 : decode cX11_best 55 = .ok (.istore 5, 2) := by decide +kernel
theorem dX11_best_57 : decode cX11_best 57 = .ok (.iload_n 2, 1) := by decide +kernel
theorem dX11_best_58 : decode cX11_best 58 = .ok (.iconst (-1), 1) := by decide +kernel
theorem dX11_best_59 : decode cX11_best 59 = .ok (.if_icmp .eq 9, 3) := by decide +kernel
theorem dX11_best_62 : decode cX11_best 62 = .ok (.iload 5, 2) := by decide +kernel
theorem dX11_best_64 : decode cX11_best 64 = .ok (.iload_n 3, 1) := by decide +kernel
theorem dX11_best_65 : decode cX11_best 65 = .ok (.if_icmp .le 9, 3) := by decide +kernel
theorem dX11_best_68 : decode cX11_best 68 = .ok (.iload 4, 2) := by decide +kernel
theorem dX11_best_70 : decode cX11_best 70 = .ok (.istore_n 2, 1) := by decide +kernel
theorem dX11_best_71 : decode cX11_best 71 = .ok (.iload 5, 2) := by decide +kernel
theorem dX11_best_73 : decode cX11_best 73 = .ok (.istore_n 3, 1) := by decide +kernel
theorem dX11_best_74 : decode cX11_best 74 = .ok (.iinc 4 1, 3) := by decide +kernel
theorem dX11_best_77 : decode cX11_best 77 = .ok (.goto (-57), 3) := by decide +kernel
theorem dX11_best_80 : decode cX11_best 80 = .ok (.iload_n 2, 1) := by decide +kernel
theorem dX11_best_81 : decode cX11_best 81 = .ok (.ireturn, 1) := by decide +kernel
theorem dX11_lies_0 : decode cX11_lies 0 = .ok (.iload_n 1, 1) := by decide +kernel
theorem dX11_lies_1 : decode cX11_lies 1 = .ok (.ifCond .lt 20, 3) := by decide +kernel
theorem dX11_lies_4 : decode cX11_lies 4 = .ok (.iload_n 1, 1) := by decide +kernel
theorem dX11_lies_5 : decode cX11_lies 5 = .ok (.aload_n 0, 1) := by decide +kernel
theorem dX11_lies_6 : decode cX11_lies 6 = .ok (.getfield 122, 3) := by decide +kernel
theorem dX11_lies_9 : decode cX11_lies 9 = .ok (.if_icmp .ge 12, 3) := by decide +kernel
theorem dX11_lies_12 : decode cX11_lies 12 = .ok (.iload_n 1, 1) := by decide +kernel
theorem dX11_lies_13 : decode cX11_lies 13 = .ok (.aload_n 0, 1) := by decide +kernel
theorem dX11_lies_14 : decode cX11_lies 14 = .ok (.getfield 91, 3) := by decide +kernel
theorem dX11_lies_17 : decode cX11_lies 17 = .ok (.arraylength, 1) := by decide +kernel
theorem dX11_lies_18 : decode cX11_lies 18 = .ok (.if_icmp .lt 6, 3) := by decide +kernel
theorem dX11_lies_21 : decode cX11_lies 21 = .ok (.bipush (-2), 2) := by decide +kernel
theorem dX11_lies_23 : decode cX11_lies 23 = .ok (.ireturn, 1) := by decide +kernel
theorem dX11_lies_24 : decode cX11_lies 24 = .ok (.aload_n 0, 1) := by decide +kernel
theorem dX11_lies_25 : decode cX11_lies 25 = .ok (.getfield 91, 3) := by decide +kernel
theorem dX11_lies_28 : decode cX11_lies 28 = .ok (.iload_n 1, 1) := by decide +kernel
theorem dX11_lies_29 : decode cX11_lies 29 = .ok (.iaload, 1) := by decide +kernel
theorem dX11_lies_30 : decode cX11_lies 30 = .ok (.ireturn, 1) := by decide +kernel
set_option maxRecDepth 20000 in
theorem ggX11_grid_X11_canBeAlike : GoodIn wsX11_grid wsX11_canBeAlike := goodIn_r _ [13, 2, 14, 15, 16, 17, 18, 19, 40, 41, 42, 43, 44, 45, 46, 47, 48, 49, 50, 51, 52, 53, 54, 55, 56, 57, 58, 59, 60, 61, 62, 63, 64, 65, 66, 67, 68, 69, 70] (by decide +kernel) (by decide +kernel)
set_option maxRecDepth 20000 in
theorem gX11_grid_X11_canBeAlike : GoodIn wsX11_grid (wsV RX11 304 RX11 yX11_canBeAlike wsX11_canBeAlike) := goodIn_app (goodIn_of _ (by decide +kernel)) ggX11_grid_X11_canBeAlike
set_option maxRecDepth 20000 in
theorem ggX11_grid_X3_search : GoodIn wsX11_grid wsX3_search := goodIn_r _ [24, 25, 26, 27, 28, 29, 30, 31, 23, 32, 33, 34, 35, 36, 37, 38, 39, 71, 72, 73, 74] (by decide +kernel) (by decide +kernel)
set_option maxRecDepth 20000 in
theorem gX11_grid_X3_search : GoodIn wsX11_grid (wsV RX11 314 RX3 yX3_search wsX3_search) := goodIn_app (goodIn_of _ (by decide +kernel)) ggX11_grid_X3_search
theorem dX11_grid_0 : decode cX11_grid 0 = .ok (.aload_n 0, 1) := by decide +kernel
theorem dX11_grid_1 : decode cX11_grid 1 = .ok (.iload_n 1, 1) := by decide +kernel
theorem dX11_grid_2 : decode cX11_grid 2 = .ok (.iload_n 2, 1) := by decide +kernel
theorem dX11_grid_3 : decode cX11_grid 3 = .ok (.invokevirtual 304, 3) := by decide +kernel
theorem dX11_grid_6 : decode cX11_grid 6 = .ok (.ifCond .eq 32, 3) := by decide +kernel
theorem dX11_grid_9 : decode cX11_grid 9 = .ok (.aload_n 0, 1) := by decide +kernel
theorem dX11_grid_10 : decode cX11_grid 10 = .ok (.getfield 78, 3) := by decide +kernel
theorem dX11_grid_13 : decode cX11_grid 13 = .ok (.aload_n 0, 1) := by decide +kernel
theorem dX11_grid_14 : decode cX11_grid 14 = .ok (.getfield 16, 3) := by decide +kernel
theorem dX11_grid_17 : decode cX11_grid 17 = .ok (.getfield 308, 3) := by decide +kernel
theorem dX11_grid_20 : decode cX11_grid 20 = .ok (.iload_n 1, 1) := by decide +kernel
theorem dX11_grid_21 : decode cX11_grid 21 = .ok (.iaload, 1) := by decide +kernel
theorem dX11_grid_22 : decode cX11_grid 22 = .ok (.aload_n 0, 1) := by decide +kernel
theorem dX11_grid_23 : decode cX11_grid 23 = .ok (.getfield 16, 3) := by decide +kernel
theorem dX11_grid_26 : decode cX11_grid 26 = .ok (.getfield 311, 3) := by decide +kernel
theorem dX11_grid_29 : decode cX11_grid 29 = .ok (.iload_n 1, 1) := by decide +kernel
theorem dX11_grid_30 : decode cX11_grid 30 = .ok (.iaload, 1) := by decide +kernel
theorem dX11_grid_31 : decode cX11_grid 31 = .ok (.iload_n 2, 1) := by decide +kernel
theorem dX11_grid_32 : decode cX11_grid 32 = .ok (.invokevirtual 314, 3) := by decide +kernel
theorem dX11_grid_35 : decode cX11_grid 35 = .ok (.ifCond .ne 5, 3) := by decide +kernel
theorem dX11_grid_38 : decode cX11_grid 38 = .ok (.iconst (-1), 1) := by decide +kernel
theorem dX11_grid_39 : decode cX11_grid 39 = .ok (.ireturn, 1) := by decide +kernel
theorem dX11_grid_40 : decode cX11_grid 40 = .ok (.iload_n 3, 1) := by decide +kernel
theorem dX11_grid_41 : decode cX11_grid 41 = .ok (.tableswitch 63 0 3 #[31, 39, 47, 55], 31) := by decide +kernel
theorem dX11_grid_72 : decode cX11_grid 72 = .ok (.aload_n 0, 1) := by decide +kernel
theorem dX11_grid_73 : decode cX11_grid 73 = .ok (.getfield 78, 3) := by decide +kernel
theorem dX11_grid_76 : decode cX11_grid 76 = .ok (.getfield 317, 3) := by decide +kernel
theorem dX11_grid_79 : decode cX11_grid 79 = .ok (.ireturn, 1) := by decide +kernel
theorem dX11_grid_80 : decode cX11_grid 80 = .ok (.aload_n 0, 1) := by decide +kernel
theorem dX11_grid_81 : decode cX11_grid 81 = .ok (.getfield 78, 3) := by decide +kernel
theorem dX11_grid_84 : decode cX11_grid 84 = .ok (.getfield 320, 3) := by decide +kernel
theorem dX11_grid_87 : decode cX11_grid 87 = .ok (.ireturn, 1) := by decide +kernel
theorem dX11_grid_88 : decode cX11_grid 88 = .ok (.aload_n 0, 1) := by decide +kernel
theorem dX11_grid_89 : decode cX11_grid 89 = .ok (.getfield 78, 3) := by decide +kernel
theorem dX11_grid_92 : decode cX11_grid 92 = .ok (.getfield 323, 3) := by decide +kernel
theorem dX11_grid_95 : decode cX11_grid 95 = .ok (.ireturn, 1) := by decide +kernel
theorem dX11_grid_96 : decode cX11_grid 96 = .ok (.aload_n 0, 1) := by decide +kernel
theorem dX11_grid_97 : decode cX11_grid 97 = .ok (.getfield 78, 3) := by decide +kernel
theorem dX11_grid_100 : decode cX11_grid 100 = .ok (.getfield 326, 3) := by decide +kernel
theorem dX11_grid_103 : decode cX11_grid 103 = .ok (.ireturn, 1) := by decide +kernel
theorem dX11_grid_104 : decode cX11_grid 104 = .ok (.iconst (-1), 1) := by decide +kernel
theorem dX11_grid_105 : decode cX11_grid 105 = .ok (.ireturn, 1) := by decide +kernel
set_option maxRecDepth 20000 in
theorem ggX11_ways_X11_canBeAlike : GoodIn wsX11_ways wsX11_canBeAlike := goodIn_r _ [9, 2, 10, 11, 12, 13, 14, 15, 36, 37, 38, 39, 40, 41, 42, 43, 44, 45, 46, 47, 48, 49, 50, 51, 52, 53, 54, 55, 56, 57, 58, 59, 60, 61, 62, 63, 64, 65, 66] (by decide +kernel) (by decide +kernel)
set_option maxRecDepth 20000 in
theorem gX11_ways_X11_canBeAlike : GoodIn wsX11_ways (wsV RX11 304 RX11 yX11_canBeAlike wsX11_canBeAlike) := goodIn_app (goodIn_of _ (by decide +kernel)) ggX11_ways_X11_canBeAlike
set_option maxRecDepth 20000 in
theorem ggX11_ways_X3_search : GoodIn wsX11_ways wsX3_search := goodIn_r _ [20, 21, 22, 23, 24, 25, 26, 27, 19, 28, 29, 30, 31, 32, 33, 34, 35, 67, 68, 69, 70] (by decide +kernel) (by decide +kernel)
set_option maxRecDepth 20000 in
theorem gX11_ways_X3_search : GoodIn wsX11_ways (wsV RX11 314 RX3 yX3_search wsX3_search) := goodIn_app (goodIn_of _ (by decide +kernel)) ggX11_ways_X3_search
theorem dX11_ways_0 : decode cX11_ways 0 = .ok (.aload_n 0, 1) := by decide +kernel
theorem dX11_ways_1 : decode cX11_ways 1 = .ok (.iload_n 1, 1) := by decide +kernel
theorem dX11_ways_2 : decode cX11_ways 2 = .ok (.iload_n 2, 1) := by decide +kernel
theorem dX11_ways_3 : decode cX11_ways 3 = .ok (.invokevirtual 304, 3) := by decide +kernel
theorem dX11_ways_6 : decode cX11_ways 6 = .ok (.ifCond .ne 5, 3) := by decide +kernel
theorem dX11_ways_9 : decode cX11_ways 9 = .ok (.iconst (-1), 1) := by decide +kernel
theorem dX11_ways_10 : decode cX11_ways 10 = .ok (.ireturn, 1) := by decide +kernel
theorem dX11_ways_11 : decode cX11_ways 11 = .ok (.aload_n 0, 1) := by decide +kernel
theorem dX11_ways_12 : decode cX11_ways 12 = .ok (.getfield 78, 3) := by decide +kernel
theorem dX11_ways_15 : decode cX11_ways 15 = .ok (.aload_n 0, 1) := by decide +kernel
theorem dX11_ways_16 : decode cX11_ways 16 = .ok (.getfield 16, 3) := by decide +kernel
theorem dX11_ways_19 : decode cX11_ways 19 = .ok (.getfield 308, 3) := by decide +kernel
theorem dX11_ways_22 : decode cX11_ways 22 = .ok (.iload_n 1, 1) := by decide +kernel
theorem dX11_ways_23 : decode cX11_ways 23 = .ok (.iaload, 1) := by decide +kernel
theorem dX11_ways_24 : decode cX11_ways 24 = .ok (.aload_n 0, 1) := by decide +kernel
theorem dX11_ways_25 : decode cX11_ways 25 = .ok (.getfield 16, 3) := by decide +kernel
theorem dX11_ways_28 : decode cX11_ways 28 = .ok (.getfield 311, 3) := by decide +kernel
theorem dX11_ways_31 : decode cX11_ways 31 = .ok (.iload_n 1, 1) := by decide +kernel
theorem dX11_ways_32 : decode cX11_ways 32 = .ok (.iaload, 1) := by decide +kernel
theorem dX11_ways_33 : decode cX11_ways 33 = .ok (.iload_n 2, 1) := by decide +kernel
theorem dX11_ways_34 : decode cX11_ways 34 = .ok (.invokevirtual 314, 3) := by decide +kernel
theorem dX11_ways_37 : decode cX11_ways 37 = .ok (.ireturn, 1) := by decide +kernel
set_option maxRecDepth 20000 in
theorem ggX11_canBeAlike_X7_isTier : GoodIn wsX11_canBeAlike wsX7_isTier := goodIn_r _ [6, 7, 23, 24, 25, 26, 27, 28, 29, 30, 31, 32, 33, 34, 35, 36, 37, 38] (by decide +kernel) (by decide +kernel)
set_option maxRecDepth 20000 in
theorem gX11_canBeAlike_X7_isTier : GoodIn wsX11_canBeAlike (wsV RX11 329 RX7 yX7_isTier wsX7_isTier) := goodIn_app (goodIn_of _ (by decide +kernel)) ggX11_canBeAlike_X7_isTier
theorem dX11_canBeAlike_0 : decode cX11_canBeAlike 0 = .ok (.aload_n 0, 1) := by decide +kernel
theorem dX11_canBeAlike_1 : decode cX11_canBeAlike 1 = .ok (.getfield 16, 3) := by decide +kernel
theorem dX11_canBeAlike_4 : decode cX11_canBeAlike 4 = .ok (.iload_n 1, 1) := by decide +kernel
theorem dX11_canBeAlike_5 : decode cX11_canBeAlike 5 = .ok (.invokevirtual 329, 3) := by decide +kernel
theorem dX11_canBeAlike_8 : decode cX11_canBeAlike 8 = .ok (.ifCond .eq 18, 3) := by decide +kernel
theorem dX11_canBeAlike_11 : decode cX11_canBeAlike 11 = .ok (.iload_n 2, 1) := by decide +kernel
theorem dX11_canBeAlike_12 : decode cX11_canBeAlike 12 = .ok (.iconst 1, 1) := by decide +kernel
theorem dX11_canBeAlike_13 : decode cX11_canBeAlike 13 = .ok (.if_icmp .lt 13, 3) := by decide +kernel
theorem dX11_canBeAlike_16 : decode cX11_canBeAlike 16 = .ok (.iload_n 2, 1) := by decide +kernel
theorem dX11_canBeAlike_17 : decode cX11_canBeAlike 17 = .ok (.bipush 64, 2) := by decide +kernel
theorem dX11_canBeAlike_19 : decode cX11_canBeAlike 19 = .ok (.if_icmp .gt 7, 3) := by decide +kernel
theorem dX11_canBeAlike_22 : decode cX11_canBeAlike 22 = .ok (.iconst 1, 1) := by decide +kernel
theorem dX11_canBeAlike_23 : decode cX11_canBeAlike 23 = .ok (.goto 4, 3) := by decide +kernel
theorem dX11_canBeAlike_26 : decode cX11_canBeAlike 26 = .ok (.iconst 0, 1) := by decide +kernel
theorem dX11_canBeAlike_27 : decode cX11_canBeAlike 27 = .ok (.ireturn, 1) := by decide +kernel
set_option maxRecDepth 20000 in
theorem ggX11_most_X7_isTier : GoodIn wsX11_most wsX7_isTier := goodIn_r _ [10, 11, 47, 48, 49, 50, 51, 52, 53, 54, 55, 56, 57, 58, 59, 60, 61, 62] (by decide +kernel) (by decide +kernel)
set_option maxRecDepth 20000 in
theorem gX11_most_X7_isTier : GoodIn wsX11_most (wsV RX11 329 RX7 yX7_isTier wsX7_isTier) := goodIn_app (goodIn_of _ (by decide +kernel)) ggX11_most_X7_isTier
set_option maxRecDepth 20000 in
theorem ggX11_most_X3_search : GoodIn wsX11_most wsX3_search := goodIn_r _ [16, 17, 18, 19, 20, 21, 22, 23, 15, 24, 25, 26, 27, 28, 29, 30, 31, 63, 64, 65, 66] (by decide +kernel) (by decide +kernel)
set_option maxRecDepth 20000 in
theorem gX11_most_X3_search : GoodIn wsX11_most (wsV RX11 314 RX3 yX3_search wsX3_search) := goodIn_app (goodIn_of _ (by decide +kernel)) ggX11_most_X3_search
theorem dX11_most_0 : decode cX11_most 0 = .ok (.aload_n 0, 1) := by decide +kernel
theorem dX11_most_1 : decode cX11_most 1 = .ok (.getfield 16, 3) := by decide +kernel
theorem dX11_most_4 : decode cX11_most 4 = .ok (.iload_n 1, 1) := by decide +kernel
theorem dX11_most_5 : decode cX11_most 5 = .ok (.invokevirtual 329, 3) := by decide +kernel
theorem dX11_most_8 : decode cX11_most 8 = .ok (.ifCond .eq 15, 3) := by decide +kernel
theorem dX11_most_11 : decode cX11_most 11 = .ok (.iload_n 2, 1) := by decide +kernel
theorem dX11_most_12 : decode cX11_most 12 = .ok (.iconst 1, 1) := by decide +kernel
theorem dX11_most_13 : decode cX11_most 13 = .ok (.if_icmp .lt 10, 3) := by decide +kernel
theorem dX11_most_16 : decode cX11_most 16 = .ok (.iload_n 2, 1) := by decide +kernel
theorem dX11_most_17 : decode cX11_most 17 = .ok (.sipush 999, 3) := by decide +kernel
theorem dX11_most_20 : decode cX11_most 20 = .ok (.if_icmp .le 5, 3) := by decide +kernel
theorem dX11_most_23 : decode cX11_most 23 = .ok (.iconst (-1), 1) := by decide +kernel
theorem dX11_most_24 : decode cX11_most 24 = .ok (.ireturn, 1) := by decide +kernel
theorem dX11_most_25 : decode cX11_most 25 = .ok (.aload_n 0, 1) := by decide +kernel
theorem dX11_most_26 : decode cX11_most 26 = .ok (.getfield 16, 3) := by decide +kernel
theorem dX11_most_29 : decode cX11_most 29 = .ok (.getfield 332, 3) := by decide +kernel
theorem dX11_most_32 : decode cX11_most 32 = .ok (.iload_n 1, 1) := by decide +kernel
theorem dX11_most_33 : decode cX11_most 33 = .ok (.iaload, 1) := by decide +kernel
theorem dX11_most_34 : decode cX11_most 34 = .ok (.istore_n 3, 1) := by decide +kernel
theorem dX11_most_35 : decode cX11_most 35 = .ok (.aload_n 0, 1) := by decide +kernel
theorem dX11_most_36 : decode cX11_most 36 = .ok (.getfield 16, 3) := by decide +kernel
theorem dX11_most_39 : decode cX11_most 39 = .ok (.getfield 308, 3) := by decide +kernel
theorem dX11_most_42 : decode cX11_most 42 = .ok (.iload_n 1, 1) := by decide +kernel
theorem dX11_most_43 : decode cX11_most 43 = .ok (.iaload, 1) := by decide +kernel
theorem dX11_most_44 : decode cX11_most 44 = .ok (.aload_n 0, 1) := by decide +kernel
theorem dX11_most_45 : decode cX11_most 45 = .ok (.getfield 16, 3) := by decide +kernel
theorem dX11_most_48 : decode cX11_most 48 = .ok (.getfield 311, 3) := by decide +kernel
theorem dX11_most_51 : decode cX11_most 51 = .ok (.iload_n 1, 1) := by decide +kernel
theorem dX11_most_52 : decode cX11_most 52 = .ok (.iaload, 1) := by decide +kernel
theorem dX11_most_53 : decode cX11_most 53 = .ok (.imul, 1) := by decide +kernel
theorem dX11_most_54 : decode cX11_most 54 = .ok (.istore 4, 2) := by decide +kernel
theorem dX11_most_56 : decode cX11_most 56 = .ok (.iload 4, 2) := by decide +kernel
theorem dX11_most_58 : decode cX11_most 58 = .ok (.istore 5, 2) := by decide +kernel
theorem dX11_most_60 : decode cX11_most 60 = .ok (.iload 5, 2) := by decide +kernel
theorem dX11_most_62 : decode cX11_most 62 = .ok (.iconst 1, 1) := by decide +kernel
theorem dX11_most_63 : decode cX11_most 63 = .ok (.if_icmp .lt 65, 3) := by decide +kernel
theorem dX11_most_66 : decode cX11_most 66 = .ok (.iload 4, 2) := by decide +kernel
theorem dX11_most_68 : decode cX11_most 68 = .ok (.iload 5, 2) := by decide +kernel
theorem dX11_most_70 : decode cX11_most 70 = .ok (.idiv, 1) := by decide +kernel
theorem dX11_most_71 : decode cX11_most 71 = .ok (.iload_n 3, 1) := by decide +kernel
theorem dX11_most_72 : decode cX11_most 72 = .ok (.imul, 1) := by decide +kernel
theorem dX11_most_73 : decode cX11_most 73 = .ok (.iload_n 2, 1) := by decide +kernel
theorem dX11_most_74 : decode cX11_most 74 = .ok (.if_icmp .lt 7, 3) := by decide +kernel
theorem dX11_most_77 : decode cX11_most 77 = .ok (.iconst 1, 1) := by decide +kernel
theorem dX11_most_78 : decode cX11_most 78 = .ok (.goto 4, 3) := by decide +kernel
theorem dX11_most_81 : decode cX11_most 81 = .ok (.iconst 0, 1) := by decide +kernel
theorem dX11_most_82 : decode cX11_most 82 = .ok (.istore 6, 2) := by decide +kernel
theorem dX11_most_84 : decode cX11_most 84 = .ok (.iload 6, 2) := by decide +kernel
theorem dX11_most_86 : decode cX11_most 86 = .ok (.ifCond .eq 36, 3) := by decide +kernel
theorem dX11_most_89 : decode cX11_most 89 = .ok (.aload_n 0, 1) := by decide +kernel
theorem dX11_most_90 : decode cX11_most 90 = .ok (.getfield 78, 3) := by decide +kernel
theorem dX11_most_93 : decode cX11_most 93 = .ok (.aload_n 0, 1) := by decide +kernel
theorem dX11_most_94 : decode cX11_most 94 = .ok (.getfield 16, 3) := by decide +kernel
theorem dX11_most_97 : decode cX11_most 97 = .ok (.getfield 308, 3) := by decide +kernel
theorem dX11_most_100 : decode cX11_most 100 = .ok (.iload_n 1, 1) := by decide +kernel
theorem dX11_most_101 : decode cX11_most 101 = .ok (.iaload, 1) := by decide +kernel
theorem dX11_most_102 : decode cX11_most 102 = .ok (.aload_n 0, 1) := by decide +kernel
theorem dX11_most_103 : decode cX11_most 103 = .ok (.getfield 16, 3) := by decide +kernel
theorem dX11_most_106 : decode cX11_most 106 = .ok (.getfield 311, 3) := by decide +kernel
theorem dX11_most_109 : decode cX11_most 109 = .ok (.iload_n 1, 1) := by decide +kernel
theorem dX11_most_110 : decode cX11_most 110 = .ok (.iaload, 1) := by decide +kernel
theorem dX11_most_111 : decode cX11_most 111 = .ok (.iload 5, 2) := by decide +kernel
theorem dX11_most_113 : decode cX11_most 113 = .ok (.invokevirtual 314, 3) := by decide +kernel
theorem dX11_most_116 : decode cX11_most 116 = .ok (.ifCond .le 6, 3) := by decide +kernel
theorem dX11_most_119 : decode cX11_most 119 = .ok (.iload 5, 2) := by decide +kernel
theorem dX11_most_121 : decode cX11_most 121 = .ok (.ireturn, 1) := by decide +kernel
theorem dX11_most_122 : decode cX11_most 122 = .ok (.iinc 5 (-1), 3) := by decide +kernel
theorem dX11_most_125 : decode cX11_most 125 = .ok (.goto (-65), 3) := by decide +kernel
theorem dX11_most_128 : decode cX11_most 128 = .ok (.iconst (-1), 1) := by decide +kernel
theorem dX11_most_129 : decode cX11_most 129 = .ok (.ireturn, 1) := by decide +kernel
set_option maxRecDepth 20000 in
theorem ggX11_where_X9_holds : GoodIn wsX11_where wsX9_holds := goodIn_r _ [8, 9, 10, 11, 12, 13, 35, 36, 37, 38, 39, 40, 41] (by decide +kernel) (by decide +kernel)
set_option maxRecDepth 20000 in
theorem gX11_where_X9_holds : GoodIn wsX11_where (wsV RX11 335 RX9 yX9_holds wsX9_holds) := goodIn_app (goodIn_of _ (by decide +kernel)) ggX11_where_X9_holds
theorem dX11_where_0 : decode cX11_where 0 = .ok (.iconst 0, 1) := by decide +kernel
theorem dX11_where_1 : decode cX11_where 1 = .ok (.istore 4, 2) := by decide +kernel
theorem dX11_where_3 : decode cX11_where 3 = .ok (.iload 4, 2) := by decide +kernel
theorem dX11_where_5 : decode cX11_where 5 = .ok (.aload_n 0, 1) := by decide +kernel
theorem dX11_where_6 : decode cX11_where 6 = .ok (.getfield 35, 3) := by decide +kernel
theorem dX11_where_9 : decode cX11_where 9 = .ok (.getfield 207, 3) := by decide +kernel
theorem dX11_where_12 : decode cX11_where 12 = .ok (.if_icmp .ge 31, 3) := by decide +kernel
theorem dX11_where_15 : decode cX11_where 15 = .ok (.aload_n 0, 1) := by decide +kernel
theorem dX11_where_16 : decode cX11_where 16 = .ok (.getfield 35, 3) := by decide +kernel
theorem dX11_where_19 : decode cX11_where 19 = .ok (.getfield 137, 3) := by decide +kernel
theorem dX11_where_22 : decode cX11_where 22 = .ok (.iload 4, 2) := by decide +kernel
theorem dX11_where_24 : decode cX11_where 24 = .ok (.aaload, 1) := by decide +kernel
theorem dX11_where_25 : decode cX11_where 25 = .ok (.iload_n 1, 1) := by decide +kernel
theorem dX11_where_26 : decode cX11_where 26 = .ok (.iload_n 2, 1) := by decide +kernel
theorem dX11_where_27 : decode cX11_where 27 = .ok (.iload_n 3, 1) := by decide +kernel
theorem dX11_where_28 : decode cX11_where 28 = .ok (.invokevirtual 335, 3) := by decide +kernel
theorem dX11_where_31 : decode cX11_where 31 = .ok (.ifCond .eq 6, 3) := by decide +kernel
theorem dX11_where_34 : decode cX11_where 34 = .ok (.iload 4, 2) := by decide +kernel
theorem dX11_where_36 : decode cX11_where 36 = .ok (.ireturn, 1) := by decide +kernel
theorem dX11_where_37 : decode cX11_where 37 = .ok (.iinc 4 1, 3) := by decide +kernel
theorem dX11_where_40 : decode cX11_where 40 = .ok (.goto (-37), 3) := by decide +kernel
theorem dX11_where_43 : decode cX11_where 43 = .ok (.iconst (-1), 1) := by decide +kernel
theorem dX11_where_44 : decode cX11_where 44 = .ok (.ireturn, 1) := by decide +kernel
set_option maxRecDepth 20000 in
theorem ggX11_left_X1_isFree : GoodIn wsX11_left wsX1_isFree := goodIn_r _ [9, 10, 11, 12, 13, 14, 8, 15, 16, 46, 47, 48, 49, 50, 51, 52, 53, 54, 55, 56, 57, 58] (by decide +kernel) (by decide +kernel)
set_option maxRecDepth 20000 in
theorem gX11_left_X1_isFree : GoodIn wsX11_left (wsV RX11 214 RX1 yX1_isFree wsX1_isFree) := goodIn_app (goodIn_of _ (by decide +kernel)) ggX11_left_X1_isFree
set_option maxRecDepth 20000 in
theorem ggX11_left_X7_areaOf : GoodIn wsX11_left wsX7_areaOf := goodIn_r _ [21, 22, 23, 24, 25, 26, 27, 28, 20, 29, 30, 52, 53, 54, 55, 56, 57, 58, 59, 60, 61, 62, 63, 64, 65, 66, 67, 68, 69, 70, 71, 72, 73, 74] (by decide +kernel) (by decide +kernel)
set_option maxRecDepth 20000 in
theorem gX11_left_X7_areaOf : GoodIn wsX11_left (wsV RX11 158 RX7 yX7_areaOf wsX7_areaOf) := goodIn_app (goodIn_of _ (by decide +kernel)) ggX11_left_X7_areaOf
theorem dX11_left_0 : decode cX11_left 0 = .ok (.iconst 0, 1) := by decide +kernel
theorem dX11_left_1 : decode cX11_left 1 = .ok (.istore_n 1, 1) := by decide +kernel
theorem dX11_left_2 : decode cX11_left 2 = .ok (.iconst 0, 1) := by decide +kernel
theorem dX11_left_3 : decode cX11_left 3 = .ok (.istore_n 2, 1) := by decide +kernel
theorem dX11_left_4 : decode cX11_left 4 = .ok (.iload_n 2, 1) := by decide +kernel
theorem dX11_left_5 : decode cX11_left 5 = .ok (.aload_n 0, 1) := by decide +kernel
theorem dX11_left_6 : decode cX11_left 6 = .ok (.getfield 35, 3) := by decide +kernel
theorem dX11_left_9 : decode cX11_left 9 = .ok (.getfield 207, 3) := by decide +kernel
theorem dX11_left_12 : decode cX11_left 12 = .ok (.if_icmp .ge 39, 3) := by decide +kernel
theorem dX11_left_15 : decode cX11_left 15 = .ok (.aload_n 0, 1) := by decide +kernel
theorem dX11_left_16 : decode cX11_left 16 = .ok (.getfield 35, 3) := by decide +kernel
theorem dX11_left_19 : decode cX11_left 19 = .ok (.iload_n 2, 1) := by decide +kernel
theorem dX11_left_20 : decode cX11_left 20 = .ok (.invokevirtual 214, 3) := by decide +kernel
theorem dX11_left_23 : decode cX11_left 23 = .ok (.ifCond .eq 22, 3) := by decide +kernel
theorem dX11_left_26 : decode cX11_left 26 = .ok (.iload_n 1, 1) := by decide +kernel
theorem dX11_left_27 : decode cX11_left 27 = .ok (.aload_n 0, 1) := by decide +kernel
theorem dX11_left_28 : decode cX11_left 28 = .ok (.getfield 16, 3) := by decide +kernel
theorem dX11_left_31 : decode cX11_left 31 = .ok (.aload_n 0, 1) := by decide +kernel
theorem dX11_left_32 : decode cX11_left 32 = .ok (.getfield 35, 3) := by decide +kernel
theorem dX11_left_35 : decode cX11_left 35 = .ok (.getfield 137, 3) := by decide +kernel
theorem dX11_left_38 : decode cX11_left 38 = .ok (.iload_n 2, 1) := by decide +kernel
theorem dX11_left_39 : decode cX11_left 39 = .ok (.aaload, 1) := by decide +kernel
theorem dX11_left_40 : decode cX11_left 40 = .ok (.invokevirtual 158, 3) := by decide +kernel
theorem dX11_left_43 : decode cX11_left 43 = .ok (.iadd, 1) := by decide +kernel
theorem dX11_left_44 : decode cX11_left 44 = .ok (.istore_n 1, 1) := by decide +kernel
theorem dX11_left_45 : decode cX11_left 45 = .ok (.iinc 2 1, 3) := by decide +kernel
theorem dX11_left_48 : decode cX11_left 48 = .ok (.goto (-44), 3) := by decide +kernel
theorem dX11_left_51 : decode cX11_left 51 = .ok (.iload_n 1, 1) := by decide +kernel
theorem dX11_left_52 : decode cX11_left 52 = .ok (.ireturn, 1) := by decide +kernel
set_option maxRecDepth 20000 in
theorem ggX11_iced_X1_isFree : GoodIn wsX11_iced wsX1_isFree := goodIn_r _ [9, 10, 11, 12, 13, 14, 8, 15, 16, 49, 50, 51, 52, 53, 54, 55, 56, 57, 58, 59, 60, 61] (by decide +kernel) (by decide +kernel)
set_option maxRecDepth 20000 in
theorem gX11_iced_X1_isFree : GoodIn wsX11_iced (wsV RX11 214 RX1 yX1_isFree wsX1_isFree) := goodIn_app (goodIn_of _ (by decide +kernel)) ggX11_iced_X1_isFree
set_option maxRecDepth 20000 in
theorem ggX11_iced_X7_icingOf : GoodIn wsX11_iced wsX7_icingOf := goodIn_r _ [21, 22, 23, 24, 25, 26, 27, 28, 29, 30, 31, 20, 32, 33, 55, 56, 57, 58, 59, 60, 61, 62, 63, 64, 65, 66, 67, 68, 69, 70, 71, 72, 73, 74, 75, 76, 77] (by decide +kernel) (by decide +kernel)
set_option maxRecDepth 20000 in
theorem gX11_iced_X7_icingOf : GoodIn wsX11_iced (wsV RX11 162 RX7 yX7_icingOf wsX7_icingOf) := goodIn_app (goodIn_of _ (by decide +kernel)) ggX11_iced_X7_icingOf
theorem dX11_iced_0 : decode cX11_iced 0 = .ok (.iload_n 1, 1) := by decide +kernel
theorem dX11_iced_1 : decode cX11_iced 1 = .ok (.ifCond .lt 9, 3) := by decide +kernel
theorem dX11_iced_4 : decode cX11_iced 4 = .ok (.iload_n 1, 1) := by decide +kernel
theorem dX11_iced_5 : decode cX11_iced 5 = .ok (.bipush 32, 2) := by decide +kernel
theorem dX11_iced_7 : decode cX11_iced 7 = .ok (.if_icmp .le 5, 3) := by decide +kernel
theorem dX11_iced_10 : decode cX11_iced 10 = .ok (.iconst (-1), 1) := by decide +kernel
theorem dX11_iced_11 : decode cX11_iced 11 = .ok (.ireturn, 1) := by decide +kernel
theorem dX11_iced_12 : decode cX11_iced 12 = .ok (.iconst 0, 1) := by decide +kernel
theorem dX11_iced_13 : decode cX11_iced 13 = .ok (.istore_n 2, 1) := by decide +kernel
theorem dX11_iced_14 : decode cX11_iced 14 = .ok (.iconst 0, 1) := by decide +kernel
theorem dX11_iced_15 : decode cX11_iced 15 = .ok (.istore_n 3, 1) := by decide +kernel
theorem dX11_iced_16 : decode cX11_iced 16 = .ok (.iload_n 3, 1) := by decide +kernel
theorem dX11_iced_17 : decode cX11_iced 17 = .ok (.aload_n 0, 1) := by decide +kernel
theorem dX11_iced_18 : decode cX11_iced 18 = .ok (.getfield 35, 3) := by decide +kernel
theorem dX11_iced_21 : decode cX11_iced 21 = .ok (.getfield 207, 3) := by decide +kernel
theorem dX11_iced_24 : decode cX11_iced 24 = .ok (.if_icmp .ge 46, 3) := by decide +kernel
theorem dX11_iced_27 : decode cX11_iced 27 = .ok (.aload_n 0, 1) := by decide +kernel
theorem dX11_iced_28 : decode cX11_iced 28 = .ok (.getfield 35, 3) := by decide +kernel
theorem dX11_iced_31 : decode cX11_iced 31 = .ok (.iload_n 3, 1) := by decide +kernel
theorem dX11_iced_32 : decode cX11_iced 32 = .ok (.invokevirtual 214, 3) := by decide +kernel
theorem dX11_iced_35 : decode cX11_iced 35 = .ok (.ifCond .eq 29, 3) := by decide +kernel
theorem dX11_iced_38 : decode cX11_iced 38 = .ok (.aload_n 0, 1) := by decide +kernel
theorem dX11_iced_39 : decode cX11_iced 39 = .ok (.getfield 16, 3) := by decide +kernel
theorem dX11_iced_42 : decode cX11_iced 42 = .ok (.aload_n 0, 1) := by decide +kernel
theorem dX11_iced_43 : decode cX11_iced 43 = .ok (.getfield 35, 3) := by decide +kernel
theorem dX11_iced_46 : decode cX11_iced 46 = .ok (.getfield 137, 3) := by decide +kernel
theorem dX11_iced_49 : decode cX11_iced 49 = .ok (.iload_n 3, 1) := by decide +kernel
theorem dX11_iced_50 : decode cX11_iced 50 = .ok (.aaload, 1) := by decide +kernel
theorem dX11_iced_51 : decode cX11_iced 51 = .ok (.invokevirtual 162, 3) := by decide +kernel
theorem dX11_iced_54 : decode cX11_iced 54 = .ok (.iload_n 1, 1) := by decide +kernel
theorem dX11_iced_55 : decode cX11_iced 55 = .ok (.if_icmp .lt 9, 3) := by decide +kernel
theorem dX11_iced_58 : decode cX11_iced 58 = .ok (.iload_n 2, 1) := by decide +kernel
theorem dX11_iced_59 : decode cX11_iced 59 = .ok (.iconst 1, 1) := by decide +kernel
theorem dX11_iced_60 : decode cX11_iced 60 = .ok (.iload_n 3, 1) := by decide +kernel
theorem dX11_iced_61 : decode cX11_iced 61 = .ok (.ishl, 1) := by decide +kernel
theorem dX11_iced_62 : decode cX11_iced 62 = .ok (.ior, 1) := by decide +kernel
theorem dX11_iced_63 : decode cX11_iced 63 = .ok (.istore_n 2, 1) := by decide +kernel
theorem dX11_iced_64 : decode cX11_iced 64 = .ok (.iinc 3 1, 3) := by decide +kernel
theorem dX11_iced_67 : decode cX11_iced 67 = .ok (.goto (-51), 3) := by decide +kernel
theorem dX11_iced_70 : decode cX11_iced 70 = .ok (.iload_n 2, 1) := by decide +kernel
theorem dX11_iced_71 : decode cX11_iced 71 = .ok (.ireturn, 1) := by decide +kernel
set_option maxRecDepth 20000 in
theorem ggX11_come_J6_bitCount_0f7a4 : GoodIn wsX11_come wsJ6_bitCount_0f7a4 := goodIn_r _ [7, 8, 9, 10] (by decide +kernel) (by decide +kernel)
set_option maxRecDepth 20000 in
theorem gX11_come_J6_bitCount_0f7a4 : GoodIn wsX11_come (va_wsS RX11 259 yJ6_bitCount_0f7a4 wsJ6_bitCount_0f7a4) := goodIn_app (goodIn_of _ (by decide +kernel)) ggX11_come_J6_bitCount_0f7a4
set_option maxRecDepth 20000 in
theorem ggX11_come_X11_commonDivisor : GoodIn wsX11_come wsX11_commonDivisor := goodIn_r _ [14] (by decide +kernel) (by decide +kernel)
set_option maxRecDepth 20000 in
theorem gX11_come_X11_commonDivisor : GoodIn wsX11_come (va_wsS RX11 338 yX11_commonDivisor wsX11_commonDivisor) := goodIn_app (goodIn_of _ (by decide +kernel)) ggX11_come_X11_commonDivisor
theorem dX11_come_0 : decode cX11_come 0 = .ok (.iload_n 1, 1) := by decide +kernel
theorem dX11_come_1 : decode cX11_come 1 = .ok (.ifCond .lt 33, 3) := by decide +kernel
theorem dX11_come_4 : decode cX11_come 4 = .ok (.iload_n 1, 1) := by decide +kernel
theorem dX11_come_5 : decode cX11_come 5 = .ok (.iconst 1, 1) := by decide +kernel
theorem dX11_come_6 : decode cX11_come 6 = .ok (.aload_n 0, 1) := by decide +kernel
theorem dX11_come_7 : decode cX11_come 7 = .ok (.getfield 16, 3) := by decide +kernel
theorem dX11_come_10 : decode cX11_come 10 = .ok (.getfield 253, 3) := by decide +kernel
theorem dX11_come_13 : decode cX11_come 13 = .ok (.ishl, 1) := by decide +kernel
theorem dX11_come_14 : decode cX11_come 14 = .ok (.if_icmp .ge 20, 3) := by decide +kernel
theorem dX11_come_17 : decode cX11_come 17 = .ok (.iload_n 1, 1) := by decide +kernel
theorem dX11_come_18 : decode cX11_come 18 = .ok (.invokestatic 259, 3) := by decide +kernel
theorem dX11_come_21 : decode cX11_come 21 = .ok (.iconst 4, 1) := by decide +kernel
theorem dX11_come_22 : decode cX11_come 22 = .ok (.if_icmp .gt 12, 3) := by decide +kernel
theorem dX11_come_25 : decode cX11_come 25 = .ok (.iload_n 2, 1) := by decide +kernel
theorem dX11_come_26 : decode cX11_come 26 = .ok (.ifCond .lt 8, 3) := by decide +kernel
theorem dX11_come_29 : decode cX11_come 29 = .ok (.iload_n 2, 1) := by decide +kernel
theorem dX11_come_30 : decode cX11_come 30 = .ok (.iconst 1, 1) := by decide +kernel
theorem dX11_come_31 : decode cX11_come 31 = .ok (.if_icmp .le 5, 3) := by decide +kernel
theorem dX11_come_34 : decode cX11_come 34 = .ok (.iconst (-1), 1) := by decide +kernel
theorem dX11_come_35 : decode cX11_come 35 = .ok (.ireturn, 1) := by decide +kernel
theorem dX11_come_36 : decode cX11_come 36 = .ok (.iconst 1, 1) := by decide +kernel
theorem dX11_come_37 : decode cX11_come 37 = .ok (.istore_n 3, 1) := by decide +kernel
theorem dX11_come_38 : decode cX11_come 38 = .ok (.iconst 1, 1) := by decide +kernel
theorem dX11_come_39 : decode cX11_come 39 = .ok (.istore 4, 2) := by decide +kernel
theorem dX11_come_41 : decode cX11_come 41 = .ok (.iconst 0, 1) := by decide +kernel
theorem dX11_come_42 : decode cX11_come 42 = .ok (.istore 5, 2) := by decide +kernel
theorem dX11_come_44 : decode cX11_come 44 = .ok (.iload 5, 2) := by decide +kernel
theorem dX11_come_46 : decode cX11_come 46 = .ok (.aload_n 0, 1) := by decide +kernel
theorem dX11_come_47 : decode cX11_come 47 = .ok (.getfield 16, 3) := by decide +kernel
theorem dX11_come_50 : decode cX11_come 50 = .ok (.getfield 253, 3) := by decide +kernel
theorem dX11_come_53 : decode cX11_come 53 = .ok (.if_icmp .ge 39, 3) := by decide +kernel
theorem dX11_come_56 : decode cX11_come 56 = .ok (.iload_n 1, 1) := by decide +kernel
theorem dX11_come_57 : decode cX11_come 57 = .ok (.iload 5, 2) := by decide +kernel
theorem dX11_come_59 : decode cX11_come 59 = .ok (.ishr, 1) := by decide +kernel
theorem dX11_come_60 : decode cX11_come 60 = .ok (.iconst 1, 1) := by decide +kernel
theorem dX11_come_61 : decode cX11_come 61 = .ok (.iand, 1) := by decide +kernel
theorem dX11_come_62 : decode cX11_come 62 = .ok (.iconst 1, 1) := by decide +kernel
theorem dX11_come_63 : decode cX11_come 63 = .ok (.if_icmp .ne 23, 3) := by decide +kernel
theorem dX11_come_66 : decode cX11_come 66 = .ok (.iload_n 3, 1) := by decide +kernel
theorem dX11_come_67 : decode cX11_come 67 = .ok (.aload_n 0, 1) := by decide +kernel
theorem dX11_come_68 : decode cX11_come 68 = .ok (.getfield 16, 3) := by decide +kernel
theorem dX11_come_71 : decode cX11_come 71 = .ok (.getfield 180, 3) := by decide +kernel
theorem dX11_come_74 : decode cX11_come 74 = .ok (.iload 5, 2) := by decide +kernel
theorem dX11_come_76 : decode cX11_come 76 = .ok (.iaload, 1) := by decide +kernel
theorem dX11_come_77 : decode cX11_come 77 = .ok (.imul, 1) := by decide +kernel
theorem dX11_come_78 : decode cX11_come 78 = .ok (.istore_n 3, 1) := by decide +kernel
theorem dX11_come_79 : decode cX11_come 79 = .ok (.iload 4, 2) := by decide +kernel
theorem dX11_come_81 : decode cX11_come 81 = .ok (.bipush 100, 2) := by decide +kernel
theorem dX11_come_83 : decode cX11_come 83 = .ok (.imul, 1) := by decide +kernel
theorem dX11_come_84 : decode cX11_come 84 = .ok (.istore 4, 2) := by decide +kernel
theorem dX11_come_86 : decode cX11_come 86 = .ok (.iinc 5 1, 3) := by decide +kernel
theorem dX11_come_89 : decode cX11_come 89 = .ok (.goto (-45), 3) := by decide +kernel
theorem dX11_come_92 : decode cX11_come 92 = .ok (.iload_n 3, 1) := by decide +kernel
theorem dX11_come_93 : decode cX11_come 93 = .ok (.iload 4, 2) := by decide +kernel
theorem dX11_come_95 : decode cX11_come 95 = .ok (.invokestatic 338, 3) := by decide +kernel
theorem dX11_come_98 : decode cX11_come 98 = .ok (.istore 5, 2) := by decide +kernel
theorem dX11_come_100 : decode cX11_come 100 = .ok (.iload 5, 2) := by decide +kernel
theorem dX11_come_102 : decode cX11_come 102 = .ok (.ifCond .ne 5, 3) := by decide +kernel
theorem dX11_come_105 : decode cX11_come 105 = .ok (.iconst (-1), 1) := by decide +kernel
theorem dX11_come_106 : decode cX11_come 106 = .ok (.ireturn, 1) := by decide +kernel
theorem dX11_come_107 : decode cX11_come 107 = .ok (.iload_n 2, 1) := by decide +kernel
theorem dX11_come_108 : decode cX11_come 108 = .ok (.ifCond .ne 10, 3) := by decide +kernel
theorem dX11_come_111 : decode cX11_come 111 = .ok (.iload_n 3, 1) := by decide +kernel
theorem dX11_come_112 : decode cX11_come 112 = .ok (.iload 5, 2) := by decide +kernel
theorem dX11_come_114 : decode cX11_come 114 = .ok (.idiv, 1) := by decide +kernel
theorem dX11_come_115 : decode cX11_come 115 = .ok (.goto 8, 3) := by decide +kernel
theorem dX11_come_118 : decode cX11_come 118 = .ok (.iload 4, 2) := by decide +kernel
theorem dX11_come_120 : decode cX11_come 120 = .ok (.iload 5, 2) := by decide +kernel
theorem dX11_come_122 : decode cX11_come 122 = .ok (.idiv, 1) := by decide +kernel
theorem dX11_come_123 : decode cX11_come 123 = .ok (.ireturn, 1) := by decide +kernel
theorem dX11_commonDivisor_0 : decode cX11_commonDivisor 0 = .ok (.iload_n 0, 1) := by decide +kernel
theorem dX11_commonDivisor_1 : decode cX11_commonDivisor 1 = .ok (.istore_n 2, 1) := by decide +kernel
theorem dX11_commonDivisor_2 : decode cX11_commonDivisor 2 = .ok (.iload_n 1, 1) := by decide +kernel
theorem dX11_commonDivisor_3 : decode cX11_commonDivisor 3 = .ok (.istore_n 3, 1) := by decide +kernel
theorem dX11_commonDivisor_4 : decode cX11_commonDivisor 4 = .ok (.iconst 0, 1) := by decide +kernel
theorem dX11_commonDivisor_5 : decode cX11_commonDivisor 5 = .ok (.istore 4, 2) := by decide +kernel
theorem dX11_commonDivisor_7 : decode cX11_commonDivisor 7 = .ok (.iload 4, 2) := by decide +kernel
theorem dX11_commonDivisor_9 : decode cX11_commonDivisor 9 = .ok (.bipush 64, 2) := by decide +kernel
theorem dX11_commonDivisor_11 : decode cX11_commonDivisor 11 = .ok (.if_icmp .ge 23, 3) := by decide +kernel
theorem dX11_commonDivisor_14 : decode cX11_commonDivisor 14 = .ok (.iload_n 3, 1) := by decide +kernel
theorem dX11_commonDivisor_15 : decode cX11_commonDivisor 15 = .ok (.ifCond .eq 19, 3) := by decide +kernel
theorem dX11_commonDivisor_18 : decode cX11_commonDivisor 18 = .ok (.iload_n 2, 1) := by decide +kernel
theorem dX11_commonDivisor_19 : decode cX11_commonDivisor 19 = .ok (.iload_n 3, 1) := by decide +kernel
theorem dX11_commonDivisor_20 : decode cX11_commonDivisor 20 = .ok (.irem, 1) := by decide +kernel
theorem dX11_commonDivisor_21 : decode cX11_commonDivisor 21 = .ok (.istore 5, 2) := by decide +kernel
theorem dX11_commonDivisor_23 : decode cX11_commonDivisor 23 = .ok (.iload_n 3, 1) := by decide +kernel
theorem dX11_commonDivisor_24 : decode cX11_commonDivisor 24 = .ok (.istore_n 2, 1) := by decide +kernel
theorem dX11_commonDivisor_25 : decode cX11_commonDivisor 25 = .ok (.iload 5, 2) := by decide +kernel
theorem dX11_commonDivisor_27 : decode cX11_commonDivisor 27 = .ok (.istore_n 3, 1) := by decide +kernel
theorem dX11_commonDivisor_28 : decode cX11_commonDivisor 28 = .ok (.iinc 4 1, 3) := by decide +kernel
theorem dX11_commonDivisor_31 : decode cX11_commonDivisor 31 = .ok (.goto (-24), 3) := by decide +kernel
theorem dX11_commonDivisor_34 : decode cX11_commonDivisor 34 = .ok (.iload_n 2, 1) := by decide +kernel
theorem dX11_commonDivisor_35 : decode cX11_commonDivisor 35 = .ok (.ireturn, 1) := by decide +kernel
set_option maxRecDepth 20000 in
theorem ggX11_sized_X4_tell : GoodIn wsX11_sized wsX4_tell := goodIn_r _ [6, 7, 8, 9, 10, 11, 12, 13, 14, 15, 31, 32, 33, 34, 35, 36, 37, 38, 39, 40, 41, 42, 43, 44, 45, 46, 47, 48, 49, 50, 51, 52, 53, 54, 55, 56, 57, 58, 59, 60, 61] (by decide +kernel) (by decide +kernel)
set_option maxRecDepth 20000 in
theorem gX11_sized_X4_tell : GoodIn wsX11_sized (wsV RX11 341 RX4 yX4_tell wsX4_tell) := goodIn_app (goodIn_of _ (by decide +kernel)) ggX11_sized_X4_tell
theorem dX11_sized_0 : decode cX11_sized 0 = .ok (.iload_n 1, 1) := by decide +kernel
theorem dX11_sized_1 : decode cX11_sized 1 = .ok (.iconst 1, 1) := by decide +kernel
theorem dX11_sized_2 : decode cX11_sized 2 = .ok (.if_icmp .lt 9, 3) := by decide +kernel
theorem dX11_sized_5 : decode cX11_sized 5 = .ok (.iload_n 1, 1) := by decide +kernel
theorem dX11_sized_6 : decode cX11_sized 6 = .ok (.bipush 64, 2) := by decide +kernel
theorem dX11_sized_8 : decode cX11_sized 8 = .ok (.if_icmp .le 5, 3) := by decide +kernel
theorem dX11_sized_11 : decode cX11_sized 11 = .ok (.iconst (-1), 1) := by decide +kernel
theorem dX11_sized_12 : decode cX11_sized 12 = .ok (.ireturn, 1) := by decide +kernel
theorem dX11_sized_13 : decode cX11_sized 13 = .ok (.aload_n 0, 1) := by decide +kernel
theorem dX11_sized_14 : decode cX11_sized 14 = .ok (.getfield 87, 3) := by decide +kernel
theorem dX11_sized_17 : decode cX11_sized 17 = .ok (.iconst 0, 1) := by decide +kernel
theorem dX11_sized_18 : decode cX11_sized 18 = .ok (.iload_n 1, 1) := by decide +kernel
theorem dX11_sized_19 : decode cX11_sized 19 = .ok (.iload_n 2, 1) := by decide +kernel
theorem dX11_sized_20 : decode cX11_sized 20 = .ok (.invokevirtual 341, 3) := by decide +kernel
theorem dX11_sized_23 : decode cX11_sized 23 = .ok (.ireturn, 1) := by decide +kernel
set_option maxRecDepth 20000 in
theorem ggX11_rimmed_X4_tell : GoodIn wsX11_rimmed wsX4_tell := goodIn_r _ [6, 7, 8, 9, 10, 11, 12, 13, 14, 15, 31, 32, 33, 34, 35, 36, 37, 38, 39, 40, 41, 42, 43, 44, 45, 46, 47, 48, 49, 50, 51, 52, 53, 54, 55, 56, 57, 58, 59, 60, 61] (by decide +kernel) (by decide +kernel)
set_option maxRecDepth 20000 in
theorem gX11_rimmed_X4_tell : GoodIn wsX11_rimmed (wsV RX11 341 RX4 yX4_tell wsX4_tell) := goodIn_app (goodIn_of _ (by decide +kernel)) ggX11_rimmed_X4_tell
theorem dX11_rimmed_0 : decode cX11_rimmed 0 = .ok (.iload_n 1, 1) := by decide +kernel
theorem dX11_rimmed_1 : decode cX11_rimmed 1 = .ok (.ifCond .lt 9, 3) := by decide +kernel
theorem dX11_rimmed_4 : decode cX11_rimmed 4 = .ok (.iload_n 1, 1) := by decide +kernel
theorem dX11_rimmed_5 : decode cX11_rimmed 5 = .ok (.bipush 32, 2) := by decide +kernel
theorem dX11_rimmed_7 : decode cX11_rimmed 7 = .ok (.if_icmp .le 5, 3) := by decide +kernel
theorem dX11_rimmed_10 : decode cX11_rimmed 10 = .ok (.iconst (-1), 1) := by decide +kernel
theorem dX11_rimmed_11 : decode cX11_rimmed 11 = .ok (.ireturn, 1) := by decide +kernel
theorem dX11_rimmed_12 : decode cX11_rimmed 12 = .ok (.aload_n 0, 1) := by decide +kernel
theorem dX11_rimmed_13 : decode cX11_rimmed 13 = .ok (.getfield 87, 3) := by decide +kernel
theorem dX11_rimmed_16 : decode cX11_rimmed 16 = .ok (.iconst 1, 1) := by decide +kernel
theorem dX11_rimmed_17 : decode cX11_rimmed 17 = .ok (.iload_n 1, 1) := by decide +kernel
theorem dX11_rimmed_18 : decode cX11_rimmed 18 = .ok (.iload_n 2, 1) := by decide +kernel
theorem dX11_rimmed_19 : decode cX11_rimmed 19 = .ok (.invokevirtual 341, 3) := by decide +kernel
theorem dX11_rimmed_22 : decode cX11_rimmed 22 = .ok (.ireturn, 1) := by decide +kernel
set_option maxRecDepth 20000 in
theorem ggX11_untell_X4_takeAway : GoodIn wsX11_untell wsX4_takeAway := goodIn_r _ [6, 7, 8, 9, 25, 26, 27, 28, 29, 30, 31, 32, 33, 34, 35, 36, 37, 38, 39] (by decide +kernel) (by decide +kernel)
set_option maxRecDepth 20000 in
theorem gX11_untell_X4_takeAway : GoodIn wsX11_untell (wsV RX11 345 RX4 yX4_takeAway wsX4_takeAway) := goodIn_app (goodIn_of _ (by decide +kernel)) ggX11_untell_X4_takeAway
theorem dX11_untell_0 : decode cX11_untell 0 = .ok (.aload_n 0, 1) := by decide +kernel
theorem dX11_untell_1 : decode cX11_untell 1 = .ok (.getfield 87, 3) := by decide +kernel
theorem dX11_untell_4 : decode cX11_untell 4 = .ok (.iload_n 1, 1) := by decide +kernel
theorem dX11_untell_5 : decode cX11_untell 5 = .ok (.invokevirtual 345, 3) := by decide +kernel
theorem dX11_untell_8 : decode cX11_untell 8 = .ok (.ireturn, 1) := by decide +kernel
set_option maxRecDepth 20000 in
theorem ggX11_later_X4_goOn : GoodIn wsX11_later wsX4_goOn := goodIn_r _ [6, 7, 8, 24, 25, 26, 27, 28, 29, 30, 31, 32, 33, 34, 35, 36, 37, 38] (by decide +kernel) (by decide +kernel)
set_option maxRecDepth 20000 in
theorem gX11_later_X4_goOn : GoodIn wsX11_later (wsV RX11 348 RX4 yX4_goOn wsX4_goOn) := goodIn_app (goodIn_of _ (by decide +kernel)) ggX11_later_X4_goOn
theorem dX11_later_0 : decode cX11_later 0 = .ok (.aload_n 0, 1) := by decide +kernel
theorem dX11_later_1 : decode cX11_later 1 = .ok (.getfield 87, 3) := by decide +kernel
theorem dX11_later_4 : decode cX11_later 4 = .ok (.iload_n 1, 1) := by decide +kernel
theorem dX11_later_5 : decode cX11_later 5 = .ok (.invokevirtual 348, 3) := by decide +kernel
theorem dX11_later_8 : decode cX11_later 8 = .ok (.ireturn, 1) := by decide +kernel
set_option maxRecDepth 20000 in
theorem ggX11_fits_X4_gather : GoodIn wsX11_fits wsX4_gather := goodIn_r _ [6, 7, 8, 9, 10, 11, 12, 13, 14, 15, 16, 17, 18, 19, 20, 21, 22, 23, 24, 25, 26, 27, 28, 5, 29, 30, 31, 32, 33, 34, 35, 36, 37, 38, 39, 55, 56, 57, 58, 59, 60, 61, 62, 63, 64, 65, 66, 67, 68, 69, 70, 71, 72, 73, 74, 75, 76, 77, 78, 79, 80, 81, 82, 83, 84, 85] (by decide +kernel) (by decide +kernel)
set_option maxRecDepth 20000 in
theorem gX11_fits_X4_gather : GoodIn wsX11_fits (wsV RX11 351 RX4 yX4_gather wsX4_gather) := goodIn_app (goodIn_of _ (by decide +kernel)) ggX11_fits_X4_gather
theorem dX11_fits_0 : decode cX11_fits 0 = .ok (.aload_n 0, 1) := by decide +kernel
theorem dX11_fits_1 : decode cX11_fits 1 = .ok (.getfield 87, 3) := by decide +kernel
theorem dX11_fits_4 : decode cX11_fits 4 = .ok (.iload_n 1, 1) := by decide +kernel
theorem dX11_fits_5 : decode cX11_fits 5 = .ok (.invokevirtual 351, 3) := by decide +kernel
theorem dX11_fits_8 : decode cX11_fits 8 = .ok (.ireturn, 1) := by decide +kernel
set_option maxRecDepth 20000 in
theorem ggX11_sure_X4_gather : GoodIn wsX11_sure wsX4_gather := goodIn_r _ [8, 9, 10, 11, 12, 13, 14, 15, 16, 17, 18, 19, 20, 21, 22, 23, 24, 25, 26, 27, 28, 29, 30, 7, 31, 32, 33, 34, 35, 36, 37, 38, 39, 40, 41, 61, 62, 63, 64, 65, 66, 67, 68, 69, 70, 71, 72, 73, 74, 75, 76, 77, 78, 79, 80, 81, 82, 83, 84, 85, 86, 87, 88, 89, 90, 91] (by decide +kernel) (by decide +kernel)
set_option maxRecDepth 20000 in
theorem gX11_sure_X4_gather : GoodIn wsX11_sure (wsV RX11 351 RX4 yX4_gather wsX4_gather) := goodIn_app (goodIn_of _ (by decide +kernel)) ggX11_sure_X4_gather
set_option maxRecDepth 20000 in
theorem ggX11_sure_X4_sameInAll : GoodIn wsX11_sure wsX4_sameInAll := goodIn_r _ [45, 9, 61, 62, 63, 64, 65, 66, 67, 68, 69, 70, 71, 72, 73, 74, 75] (by decide +kernel) (by decide +kernel)
set_option maxRecDepth 20000 in
theorem gX11_sure_X4_sameInAll : GoodIn wsX11_sure (wsV RX11 360 RX4 yX4_sameInAll wsX4_sameInAll) := goodIn_app (goodIn_of _ (by decide +kernel)) ggX11_sure_X4_sameInAll
theorem dX11_sure_0 : decode cX11_sure 0 = .ok (.iload_n 1, 1) := by decide +kernel
theorem dX11_sure_1 : decode cX11_sure 1 = .ok (.ifCond .lt 19, 3) := by decide +kernel
theorem dX11_sure_4 : decode cX11_sure 4 = .ok (.iload_n 1, 1) := by decide +kernel
theorem dX11_sure_5 : decode cX11_sure 5 = .ok (.iconst 1, 1) := by decide +kernel
theorem dX11_sure_6 : decode cX11_sure 6 = .ok (.if_icmp .gt 14, 3) := by decide +kernel
theorem dX11_sure_9 : decode cX11_sure 9 = .ok (.aload_n 0, 1) := by decide +kernel
theorem dX11_sure_10 : decode cX11_sure 10 = .ok (.getfield 87, 3) := by decide +kernel
theorem dX11_sure_13 : decode cX11_sure 13 = .ok (.iload_n 2, 1) := by decide +kernel
theorem dX11_sure_14 : decode cX11_sure 14 = .ok (.invokevirtual 351, 3) := by decide +kernel
theorem dX11_sure_17 : decode cX11_sure 17 = .ok (.ifCond .ne 5, 3) := by decide +kernel
theorem dX11_sure_20 : decode cX11_sure 20 = .ok (.iconst (-1), 1) := by decide +kernel
theorem dX11_sure_21 : decode cX11_sure 21 = .ok (.ireturn, 1) := by decide +kernel
theorem dX11_sure_22 : decode cX11_sure 22 = .ok (.aload_n 0, 1) := by decide +kernel
theorem dX11_sure_23 : decode cX11_sure 23 = .ok (.getfield 87, 3) := by decide +kernel
theorem dX11_sure_26 : decode cX11_sure 26 = .ok (.iload_n 1, 1) := by decide +kernel
theorem dX11_sure_27 : decode cX11_sure 27 = .ok (.ifCond .ne 13, 3) := by decide +kernel
theorem dX11_sure_30 : decode cX11_sure 30 = .ok (.aload_n 0, 1) := by decide +kernel
theorem dX11_sure_31 : decode cX11_sure 31 = .ok (.getfield 87, 3) := by decide +kernel
theorem dX11_sure_34 : decode cX11_sure 34 = .ok (.getfield 354, 3) := by decide +kernel
theorem dX11_sure_37 : decode cX11_sure 37 = .ok (.goto 10, 3) := by decide +kernel
theorem dX11_sure_40 : decode cX11_sure 40 = .ok (.aload_n 0, 1) := by decide +kernel
theorem dX11_sure_41 : decode cX11_sure 41 = .ok (.getfield 87, 3) := by decide +kernel
theorem dX11_sure_44 : decode cX11_sure 44 = .ok (.getfield 357, 3) := by decide +kernel
theorem dX11_sure_47 : decode cX11_sure 47 = .ok (.invokevirtual 360, 3) := by decide +kernel
theorem dX11_sure_50 : decode cX11_sure 50 = .ok (.ireturn, 1) := by decide +kernel
set_option maxRecDepth 20000 in
theorem ggX11_ask_X4_gather : GoodIn wsX11_ask wsX4_gather := goodIn_r _ [8, 9, 10, 11, 12, 13, 14, 15, 16, 17, 18, 19, 20, 21, 22, 23, 24, 25, 26, 27, 28, 29, 30, 7, 31, 32, 33, 34, 35, 36, 37, 38, 39, 40, 41, 67, 68, 69, 70, 71, 72, 73, 74, 75, 76, 77, 78, 79, 80, 81, 82, 83, 84, 85, 86, 87, 88, 89, 90, 91, 92, 93, 94, 95, 96, 97] (by decide +kernel) (by decide +kernel)
set_option maxRecDepth 20000 in
theorem gX11_ask_X4_gather : GoodIn wsX11_ask (wsV RX11 351 RX4 yX4_gather wsX4_gather) := goodIn_app (goodIn_of _ (by decide +kernel)) ggX11_ask_X4_gather
set_option maxRecDepth 20000 in
theorem ggX11_ask_X4_findQuestion : GoodIn wsX11_ask wsX4_findQuestion := goodIn_r _ [45, 46, 9, 17, 47, 48, 49, 50, 51, 67, 68, 69, 70, 71, 72, 73, 74, 75, 76, 77, 78, 79, 80, 81] (by decide +kernel) (by decide +kernel)
set_option maxRecDepth 20000 in
theorem gX11_ask_X4_findQuestion : GoodIn wsX11_ask (wsV RX11 363 RX4 yX4_findQuestion wsX4_findQuestion) := goodIn_app (goodIn_of _ (by decide +kernel)) ggX11_ask_X4_findQuestion
theorem dX11_ask_0 : decode cX11_ask 0 = .ok (.iload_n 1, 1) := by decide +kernel
theorem dX11_ask_1 : decode cX11_ask 1 = .ok (.ifCond .lt 19, 3) := by decide +kernel
theorem dX11_ask_4 : decode cX11_ask 4 = .ok (.iload_n 1, 1) := by decide +kernel
theorem dX11_ask_5 : decode cX11_ask 5 = .ok (.iconst 1, 1) := by decide +kernel
theorem dX11_ask_6 : decode cX11_ask 6 = .ok (.if_icmp .gt 14, 3) := by decide +kernel
theorem dX11_ask_9 : decode cX11_ask 9 = .ok (.aload_n 0, 1) := by decide +kernel
theorem dX11_ask_10 : decode cX11_ask 10 = .ok (.getfield 87, 3) := by decide +kernel
theorem dX11_ask_13 : decode cX11_ask 13 = .ok (.iload_n 2, 1) := by decide +kernel
theorem dX11_ask_14 : decode cX11_ask 14 = .ok (.invokevirtual 351, 3) := by decide +kernel
theorem dX11_ask_17 : decode cX11_ask 17 = .ok (.ifCond .ne 5, 3) := by decide +kernel
theorem dX11_ask_20 : decode cX11_ask 20 = .ok (.iconst (-1), 1) := by decide +kernel
theorem dX11_ask_21 : decode cX11_ask 21 = .ok (.ireturn, 1) := by decide +kernel
theorem dX11_ask_22 : decode cX11_ask 22 = .ok (.aload_n 0, 1) := by decide +kernel
theorem dX11_ask_23 : decode cX11_ask 23 = .ok (.getfield 87, 3) := by decide +kernel
theorem dX11_ask_26 : decode cX11_ask 26 = .ok (.invokevirtual 363, 3) := by decide +kernel
theorem dX11_ask_29 : decode cX11_ask 29 = .ok (.iload_n 1, 1) := by decide +kernel
theorem dX11_ask_30 : decode cX11_ask 30 = .ok (.ifCond .ne 13, 3) := by decide +kernel
theorem dX11_ask_33 : decode cX11_ask 33 = .ok (.aload_n 0, 1) := by decide +kernel
theorem dX11_ask_34 : decode cX11_ask 34 = .ok (.getfield 87, 3) := by decide +kernel
theorem dX11_ask_37 : decode cX11_ask 37 = .ok (.getfield 366, 3) := by decide +kernel
theorem dX11_ask_40 : decode cX11_ask 40 = .ok (.goto 10, 3) := by decide +kernel
theorem dX11_ask_43 : decode cX11_ask 43 = .ok (.aload_n 0, 1) := by decide +kernel
theorem dX11_ask_44 : decode cX11_ask 44 = .ok (.getfield 87, 3) := by decide +kernel
theorem dX11_ask_47 : decode cX11_ask 47 = .ok (.getfield 369, 3) := by decide +kernel
theorem dX11_ask_50 : decode cX11_ask 50 = .ok (.ireturn, 1) := by decide +kernel
set_option maxRecDepth 20000 in
theorem ggX11_image_X1_takeFrom : GoodIn wsX11_image wsX1_takeFrom := goodIn_r _ [9, 10, 11, 12, 13, 14, 15, 16, 17, 18, 19, 20, 21, 22, 23, 24, 25, 26, 42, 43, 44, 45, 46, 47, 48, 49, 50, 51, 52, 53, 54] (by decide +kernel) (by decide +kernel)
set_option maxRecDepth 20000 in
theorem gX11_image_X1_takeFrom : GoodIn wsX11_image (wsV RX11 372 RX1 yX1_takeFrom wsX1_takeFrom) := goodIn_app (goodIn_of _ (by decide +kernel)) ggX11_image_X1_takeFrom
theorem dX11_image_0 : decode cX11_image 0 = .ok (.iload_n 1, 1) := by decide +kernel
theorem dX11_image_1 : decode cX11_image 1 = .ok (.ifCond .lt 12, 3) := by decide +kernel
theorem dX11_image_4 : decode cX11_image 4 = .ok (.iload_n 1, 1) := by decide +kernel
theorem dX11_image_5 : decode cX11_image 5 = .ok (.aload_n 0, 1) := by decide +kernel
theorem dX11_image_6 : decode cX11_image 6 = .ok (.getfield 39, 3) := by decide +kernel
theorem dX11_image_9 : decode cX11_image 9 = .ok (.arraylength, 1) := by decide +kernel
theorem dX11_image_10 : decode cX11_image 10 = .ok (.if_icmp .lt 5, 3) := by decide +kernel
theorem dX11_image_13 : decode cX11_image 13 = .ok (.iconst (-1), 1) := by decide +kernel
theorem dX11_image_14 : decode cX11_image 14 = .ok (.ireturn, 1) := by decide +kernel
theorem dX11_image_15 : decode cX11_image 15 = .ok (.aload_n 0, 1) := by decide +kernel
theorem dX11_image_16 : decode cX11_image 16 = .ok (.getfield 39, 3) := by decide +kernel
theorem dX11_image_19 : decode cX11_image 19 = .ok (.iload_n 1, 1) := by decide +kernel
theorem dX11_image_20 : decode cX11_image 20 = .ok (.aaload, 1) := by decide +kernel
theorem dX11_image_21 : decode cX11_image 21 = .ok (.aload_n 0, 1) := by decide +kernel
theorem dX11_image_22 : decode cX11_image 22 = .ok (.getfield 35, 3) := by decide +kernel
theorem dX11_image_25 : decode cX11_image 25 = .ok (.invokevirtual 372, 3) := by decide +kernel
theorem dX11_image_28 : decode cX11_image 28 = .ok (.aload_n 0, 1) := by decide +kernel
theorem dX11_image_29 : decode cX11_image 29 = .ok (.getfield 39, 3) := by decide +kernel
theorem dX11_image_32 : decode cX11_image 32 = .ok (.iload_n 1, 1) := by decide +kernel
theorem dX11_image_33 : decode cX11_image 33 = .ok (.aaload, 1) := by decide +kernel
theorem dX11_image_34 : decode cX11_image 34 = .ok (.iconst 1, 1) := by decide +kernel
theorem dX11_image_35 : decode cX11_image 35 = .ok (.putfield 114, 3) := by decide +kernel
theorem dX11_image_38 : decode cX11_image 38 = .ok (.aload_n 0, 1) := by decide +kernel
theorem dX11_image_39 : decode cX11_image 39 = .ok (.getfield 35, 3) := by decide +kernel
theorem dX11_image_42 : decode cX11_image 42 = .ok (.getfield 207, 3) := by decide +kernel
theorem dX11_image_45 : decode cX11_image 45 = .ok (.ireturn, 1) := by decide +kernel
set_option maxRecDepth 20000 in
theorem ggX11_restore_X1_takeFrom : GoodIn wsX11_restore wsX1_takeFrom := goodIn_r _ [10, 11, 12, 13, 14, 15, 16, 17, 18, 19, 20, 21, 22, 23, 24, 25, 26, 27, 50, 51, 52, 53, 54, 55, 56, 57, 58, 59, 60, 61, 62] (by decide +kernel) (by decide +kernel)
set_option maxRecDepth 20000 in
theorem gX11_restore_X1_takeFrom : GoodIn wsX11_restore (wsV RX11 372 RX1 yX1_takeFrom wsX1_takeFrom) := goodIn_app (goodIn_of _ (by decide +kernel)) ggX11_restore_X1_takeFrom
set_option maxRecDepth 20000 in
theorem ggX11_restore_X0_forget : GoodIn wsX11_restore wsX0_forget := goodIn_r _ [32, 33, 34, 63, 64, 65, 66, 67, 68, 69, 70, 71, 72, 73] (by decide +kernel) (by decide +kernel)
set_option maxRecDepth 20000 in
theorem gX11_restore_X0_forget : GoodIn wsX11_restore (wsV RX11 118 RX0 yX0_forget wsX0_forget) := goodIn_app (goodIn_of _ (by decide +kernel)) ggX11_restore_X0_forget
theorem dX11_restore_0 : decode cX11_restore 0 = .ok (.iload_n 1, 1) := by decide +kernel
theorem dX11_restore_1 : decode cX11_restore 1 = .ok (.ifCond .lt 24, 3) := by decide +kernel
theorem dX11_restore_4 : decode cX11_restore 4 = .ok (.iload_n 1, 1) := by decide +kernel
theorem dX11_restore_5 : decode cX11_restore 5 = .ok (.aload_n 0, 1) := by decide +kernel
theorem dX11_restore_6 : decode cX11_restore 6 = .ok (.getfield 39, 3) := by decide +kernel
theorem dX11_restore_9 : decode cX11_restore 9 = .ok (.arraylength, 1) := by decide +kernel
theorem dX11_restore_10 : decode cX11_restore 10 = .ok (.if_icmp .ge 15, 3) := by decide +kernel
theorem dX11_restore_13 : decode cX11_restore 13 = .ok (.aload_n 0, 1) := by decide +kernel
theorem dX11_restore_14 : decode cX11_restore 14 = .ok (.getfield 39, 3) := by decide +kernel
theorem dX11_restore_17 : decode cX11_restore 17 = .ok (.iload_n 1, 1) := by decide +kernel
theorem dX11_restore_18 : decode cX11_restore 18 = .ok (.aaload, 1) := by decide +kernel
theorem dX11_restore_19 : decode cX11_restore 19 = .ok (.getfield 114, 3) := by decide +kernel
theorem dX11_restore_22 : decode cX11_restore 22 = .ok (.ifCond .ne 5, 3) := by decide +kernel
theorem dX11_restore_25 : decode cX11_restore 25 = .ok (.iconst (-1), 1) := by decide +kernel
theorem dX11_restore_26 : decode cX11_restore 26 = .ok (.ireturn, 1) := by decide +kernel
theorem dX11_restore_27 : decode cX11_restore 27 = .ok (.aload_n 0, 1) := by decide +kernel
theorem dX11_restore_28 : decode cX11_restore 28 = .ok (.getfield 35, 3) := by decide +kernel
theorem dX11_restore_31 : decode cX11_restore 31 = .ok (.aload_n 0, 1) := by decide +kernel
theorem dX11_restore_32 : decode cX11_restore 32 = .ok (.getfield 39, 3) := by decide +kernel
theorem dX11_restore_35 : decode cX11_restore 35 = .ok (.iload_n 1, 1) := by decide +kernel
theorem dX11_restore_36 : decode cX11_restore 36 = .ok (.aaload, 1) := by decide +kernel
theorem dX11_restore_37 : decode cX11_restore 37 = .ok (.invokevirtual 372, 3) := by decide +kernel
theorem dX11_restore_40 : decode cX11_restore 40 = .ok (.aload_n 0, 1) := by decide +kernel
theorem dX11_restore_41 : decode cX11_restore 41 = .ok (.getfield 57, 3) := by decide +kernel
theorem dX11_restore_44 : decode cX11_restore 44 = .ok (.invokevirtual 118, 3) := by decide +kernel
theorem dX11_restore_47 : decode cX11_restore 47 = .ok (.aload_n 0, 1) := by decide +kernel
theorem dX11_restore_48 : decode cX11_restore 48 = .ok (.getfield 35, 3) := by decide +kernel
theorem dX11_restore_51 : decode cX11_restore 51 = .ok (.getfield 207, 3) := by decide +kernel
theorem dX11_restore_54 : decode cX11_restore 54 = .ok (.ireturn, 1) := by decide +kernel
set_option maxRecDepth 20000 in
theorem ggX11_about_X1_brokenSet : GoodIn wsX11_about wsX1_brokenSet := goodIn_r _ [23, 24, 25, 26, 58, 59, 60, 61, 62, 63, 95, 96, 97, 98, 99, 100, 101] (by decide +kernel) (by decide +kernel)
set_option maxRecDepth 20000 in
theorem gX11_about_X1_brokenSet : GoodIn wsX11_about (wsV RX11 381 RX1 yX1_brokenSet wsX1_brokenSet) := goodIn_app (goodIn_of _ (by decide +kernel)) ggX11_about_X1_brokenSet
theorem dX11_about_0 : decode cX11_about 0 = .ok (.iload_n 1, 1) := by decide +kernel
theorem dX11_about_1 : decode cX11_about 1 = .ok (.tableswitch 187 0 12 #[67, 75, 83, 91, 99, 107, 115, 123, 139, 147, 155, 160, 182], 67) := by decide +kernel
theorem dX11_about_68 : decode cX11_about 68 = .ok (.aload_n 0, 1) := by decide +kernel
theorem dX11_about_69 : decode cX11_about 69 = .ok (.getfield 16, 3) := by decide +kernel
theorem dX11_about_72 : decode cX11_about 72 = .ok (.getfield 125, 3) := by decide +kernel
theorem dX11_about_75 : decode cX11_about 75 = .ok (.ireturn, 1) := by decide +kernel
theorem dX11_about_76 : decode cX11_about 76 = .ok (.aload_n 0, 1) := by decide +kernel
theorem dX11_about_77 : decode cX11_about 77 = .ok (.getfield 16, 3) := by decide +kernel
theorem dX11_about_80 : decode cX11_about 80 = .ok (.getfield 253, 3) := by decide +kernel
theorem dX11_about_83 : decode cX11_about 83 = .ok (.ireturn, 1) := by decide +kernel
theorem dX11_about_84 : decode cX11_about 84 = .ok (.aload_n 0, 1) := by decide +kernel
theorem dX11_about_85 : decode cX11_about 85 = .ok (.getfield 35, 3) := by decide +kernel
theorem dX11_about_88 : decode cX11_about 88 = .ok (.getfield 207, 3) := by decide +kernel
theorem dX11_about_91 : decode cX11_about 91 = .ok (.ireturn, 1) := by decide +kernel
theorem dX11_about_92 : decode cX11_about 92 = .ok (.aload_n 0, 1) := by decide +kernel
theorem dX11_about_93 : decode cX11_about 93 = .ok (.getfield 35, 3) := by decide +kernel
theorem dX11_about_96 : decode cX11_about 96 = .ok (.getfield 375, 3) := by decide +kernel
theorem dX11_about_99 : decode cX11_about 99 = .ok (.ireturn, 1) := by decide +kernel
theorem dX11_about_100 : decode cX11_about 100 = .ok (.aload_n 0, 1) := by decide +kernel
theorem dX11_about_101 : decode cX11_about 101 = .ok (.getfield 35, 3) := by decide +kernel
theorem dX11_about_104 : decode cX11_about 104 = .ok (.getfield 378, 3) := by decide +kernel
theorem dX11_about_107 : decode cX11_about 107 = .ok (.ireturn, 1) := by decide +kernel
theorem dX11_about_108 : decode cX11_about 108 = .ok (.aload_n 0, 1) := by decide +kernel
theorem dX11_about_109 : decode cX11_about 109 = .ok (.getfield 35, 3) := by decide +kernel
theorem dX11_about_112 : decode cX11_about 112 = .ok (.invokevirtual 381, 3) := by decide +kernel
theorem dX11_about_115 : decode cX11_about 115 = .ok (.ireturn, 1) := by decide +kernel
theorem dX11_about_116 : decode cX11_about 116 = .ok (.aload_n 0, 1) := by decide +kernel
theorem dX11_about_117 : decode cX11_about 117 = .ok (.getfield 57, 3) := by decide +kernel
theorem dX11_about_120 : decode cX11_about 120 = .ok (.getfield 384, 3) := by decide +kernel
theorem dX11_about_123 : decode cX11_about 123 = .ok (.ireturn, 1) := by decide +kernel
theorem dX11_about_124 : decode cX11_about 124 = .ok (.aload_n 0, 1) := by decide +kernel
theorem dX11_about_125 : decode cX11_about 125 = .ok (.getfield 57, 3) := by decide +kernel
theorem dX11_about_128 : decode cX11_about 128 = .ok (.getfield 387, 3) := by decide +kernel
theorem dX11_about_131 : decode cX11_about 131 = .ok (.aload_n 0, 1) := by decide +kernel
theorem dX11_about_132 : decode cX11_about 132 = .ok (.getfield 57, 3) := by decide +kernel
theorem dX11_about_135 : decode cX11_about 135 = .ok (.getfield 384, 3) := by decide +kernel
theorem dX11_about_138 : decode cX11_about 138 = .ok (.isub, 1) := by decide +kernel
theorem dX11_about_139 : decode cX11_about 139 = .ok (.ireturn, 1) := by decide +kernel
theorem dX11_about_140 : decode cX11_about 140 = .ok (.aload_n 0, 1) := by decide +kernel
theorem dX11_about_141 : decode cX11_about 141 = .ok (.getfield 87, 3) := by decide +kernel
theorem dX11_about_144 : decode cX11_about 144 = .ok (.getfield 390, 3) := by decide +kernel
theorem dX11_about_147 : decode cX11_about 147 = .ok (.ireturn, 1) := by decide +kernel
theorem dX11_about_148 : decode cX11_about 148 = .ok (.aload_n 0, 1) := by decide +kernel
theorem dX11_about_149 : decode cX11_about 149 = .ok (.getfield 87, 3) := by decide +kernel
theorem dX11_about_152 : decode cX11_about 152 = .ok (.getfield 391, 3) := by decide +kernel
theorem dX11_about_155 : decode cX11_about 155 = .ok (.ireturn, 1) := by decide +kernel
theorem dX11_about_156 : decode cX11_about 156 = .ok (.aload_n 0, 1) := by decide +kernel
theorem dX11_about_157 : decode cX11_about 157 = .ok (.getfield 95, 3) := by decide +kernel
theorem dX11_about_160 : decode cX11_about 160 = .ok (.ireturn, 1) := by decide +kernel
theorem dX11_about_161 : decode cX11_about 161 = .ok (.aload_n 0, 1) := by decide +kernel
theorem dX11_about_162 : decode cX11_about 162 = .ok (.getfield 16, 3) := by decide +kernel
theorem dX11_about_165 : decode cX11_about 165 = .ok (.getfield 394, 3) := by decide +kernel
theorem dX11_about_168 : decode cX11_about 168 = .ok (.getfield 398, 3) := by decide +kernel
theorem dX11_about_171 : decode cX11_about 171 = .ok (.aload_n 0, 1) := by decide +kernel
theorem dX11_about_172 : decode cX11_about 172 = .ok (.getfield 16, 3) := by decide +kernel
theorem dX11_about_175 : decode cX11_about 175 = .ok (.getfield 403, 3) := by decide +kernel
theorem dX11_about_178 : decode cX11_about 178 = .ok (.getfield 398, 3) := by decide +kernel
theorem dX11_about_181 : decode cX11_about 181 = .ok (.iadd, 1) := by decide +kernel
theorem dX11_about_182 : decode cX11_about 182 = .ok (.ireturn, 1) := by decide +kernel
theorem dX11_about_183 : decode cX11_about 183 = .ok (.aload_n 0, 1) := by decide +kernel
theorem dX11_about_184 : decode cX11_about 184 = .ok (.getfield 122, 3) := by decide +kernel
theorem dX11_about_187 : decode cX11_about 187 = .ok (.ireturn, 1) := by decide +kernel
theorem dX11_about_188 : decode cX11_about 188 = .ok (.iconst (-1), 1) := by decide +kernel
theorem dX11_about_189 : decode cX11_about 189 = .ok (.ireturn, 1) := by decide +kernel
