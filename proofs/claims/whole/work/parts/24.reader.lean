theorem dX6_withLetter_0 : decode cX6_withLetter 0 = .ok (.lload_n 0, 1) := by decide +kernel
theorem dX6_withLetter_1 : decode cX6_withLetter 1 = .ok (.ldc2_w 43, 3) := by decide +kernel
theorem dX6_withLetter_4 : decode cX6_withLetter 4 = .ok (.lmul, 1) := by decide +kernel
theorem dX6_withLetter_5 : decode cX6_withLetter 5 = .ok (.iload_n 2, 1) := by decide +kernel
theorem dX6_withLetter_6 : decode cX6_withLetter 6 = .ok (.bipush 97, 2) := by decide +kernel
theorem dX6_withLetter_8 : decode cX6_withLetter 8 = .ok (.isub, 1) := by decide +kernel
theorem dX6_withLetter_9 : decode cX6_withLetter 9 = .ok (.iconst 1, 1) := by decide +kernel
theorem dX6_withLetter_10 : decode cX6_withLetter 10 = .ok (.iadd, 1) := by decide +kernel
theorem dX6_withLetter_11 : decode cX6_withLetter 11 = .ok (.i2l, 1) := by decide +kernel
theorem dX6_withLetter_12 : decode cX6_withLetter 12 = .ok (.ladd, 1) := by decide +kernel
theorem dX6_withLetter_13 : decode cX6_withLetter 13 = .ok (.lreturn, 1) := by decide +kernel
theorem dX6_isLetter_0 : decode cX6_isLetter 0 = .ok (.iload_n 0, 1) := by decide +kernel
theorem dX6_isLetter_1 : decode cX6_isLetter 1 = .ok (.bipush 97, 2) := by decide +kernel
theorem dX6_isLetter_3 : decode cX6_isLetter 3 = .ok (.if_icmp .lt 13, 3) := by decide +kernel
theorem dX6_isLetter_6 : decode cX6_isLetter 6 = .ok (.iload_n 0, 1) := by decide +kernel
theorem dX6_isLetter_7 : decode cX6_isLetter 7 = .ok (.bipush 122, 2) := by decide +kernel
theorem dX6_isLetter_9 : decode cX6_isLetter 9 = .ok (.if_icmp .gt 7, 3) := by decide +kernel
theorem dX6_isLetter_12 : decode cX6_isLetter 12 = .ok (.iconst 1, 1) := by decide +kernel
theorem dX6_isLetter_13 : decode cX6_isLetter 13 = .ok (.goto 4, 3) := by decide +kernel
theorem dX6_isLetter_16 : decode cX6_isLetter 16 = .ok (.iconst 0, 1) := by decide +kernel
theorem dX6_isLetter_17 : decode cX6_isLetter 17 = .ok (.ireturn, 1) := by decide +kernel
theorem dX6_isDigit_0 : decode cX6_isDigit 0 = .ok (.iload_n 0, 1) := by decide +kernel
theorem dX6_isDigit_1 : decode cX6_isDigit 1 = .ok (.bipush 48, 2) := by decide +kernel
theorem dX6_isDigit_3 : decode cX6_isDigit 3 = .ok (.if_icmp .lt 13, 3) := by decide +kernel
theorem dX6_isDigit_6 : decode cX6_isDigit 6 = .ok (.iload_n 0, 1) := by decide +kernel
theorem dX6_isDigit_7 : decode cX6_isDigit 7 = .ok (.bipush 57, 2) := by decide +kernel
theorem dX6_isDigit_9 : decode cX6_isDigit 9 = .ok (.if_icmp .gt 7, 3) := by decide +kernel
theorem dX6_isDigit_12 : decode cX6_isDigit 12 = .ok (.iconst 1, 1) := by decide +kernel
theorem dX6_isDigit_13 : decode cX6_isDigit 13 = .ok (.goto 4, 3) := by decide +kernel
theorem dX6_isDigit_16 : decode cX6_isDigit 16 = .ok (.iconst 0, 1) := by decide +kernel
theorem dX6_isDigit_17 : decode cX6_isDigit 17 = .ok (.ireturn, 1) := by decide +kernel
theorem dX6_isBlank_0 : decode cX6_isBlank 0 = .ok (.iload_n 0, 1) := by decide +kernel
theorem dX6_isBlank_1 : decode cX6_isBlank 1 = .ok (.bipush 32, 2) := by decide +kernel
theorem dX6_isBlank_3 : decode cX6_isBlank 3 = .ok (.if_icmp .eq 9, 3) := by decide +kernel
theorem dX6_isBlank_6 : decode cX6_isBlank 6 = .ok (.iload_n 0, 1) := by decide +kernel
theorem dX6_isBlank_7 : decode cX6_isBlank 7 = .ok (.bipush 10, 2) := by decide +kernel
theorem dX6_isBlank_9 : decode cX6_isBlank 9 = .ok (.if_icmp .ne 7, 3) := by decide +kernel
theorem dX6_isBlank_12 : decode cX6_isBlank 12 = .ok (.iconst 1, 1) := by decide +kernel
theorem dX6_isBlank_13 : decode cX6_isBlank 13 = .ok (.goto 4, 3) := by decide +kernel
theorem dX6_isBlank_16 : decode cX6_isBlank 16 = .ok (.iconst 0, 1) := by decide +kernel
theorem dX6_isBlank_17 : decode cX6_isBlank 17 = .ok (.ireturn, 1) := by decide +kernel
theorem dX6_isMark_0 : decode cX6_isMark 0 = .ok (.iload_n 0, 1) := by decide +kernel
theorem dX6_isMark_1 : decode cX6_isMark 1 = .ok (.bipush 59, 2) := by decide +kernel
theorem dX6_isMark_3 : decode cX6_isMark 3 = .ok (.if_icmp .eq 45, 3) := by decide +kernel
theorem dX6_isMark_6 : decode cX6_isMark 6 = .ok (.iload_n 0, 1) := by decide +kernel
theorem dX6_isMark_7 : decode cX6_isMark 7 = .ok (.bipush 40, 2) := by decide +kernel
theorem dX6_isMark_9 : decode cX6_isMark 9 = .ok (.if_icmp .lt 9, 3) := by decide +kernel
theorem dX6_isMark_12 : decode cX6_isMark 12 = .ok (.iload_n 0, 1) := by decide +kernel
theorem dX6_isMark_13 : decode cX6_isMark 13 = .ok (.bipush 43, 2) := by decide +kernel
theorem dX6_isMark_15 : decode cX6_isMark 15 = .ok (.if_icmp .le 33, 3) := by decide +kernel
theorem dX6_isMark_18 : decode cX6_isMark 18 = .ok (.iload_n 0, 1) := by decide +kernel
theorem dX6_isMark_19 : decode cX6_isMark 19 = .ok (.bipush 45, 2) := by decide +kernel
theorem dX6_isMark_21 : decode cX6_isMark 21 = .ok (.if_icmp .eq 27, 3) := by decide +kernel
theorem dX6_isMark_24 : decode cX6_isMark 24 = .ok (.iload_n 0, 1) := by decide +kernel
theorem dX6_isMark_25 : decode cX6_isMark 25 = .ok (.bipush 47, 2) := by decide +kernel
theorem dX6_isMark_27 : decode cX6_isMark 27 = .ok (.if_icmp .eq 21, 3) := by decide +kernel
theorem dX6_isMark_30 : decode cX6_isMark 30 = .ok (.iload_n 0, 1) := by decide +kernel
theorem dX6_isMark_31 : decode cX6_isMark 31 = .ok (.bipush 60, 2) := by decide +kernel
theorem dX6_isMark_33 : decode cX6_isMark 33 = .ok (.if_icmp .lt 9, 3) := by decide +kernel
theorem dX6_isMark_36 : decode cX6_isMark 36 = .ok (.iload_n 0, 1) := by decide +kernel
theorem dX6_isMark_37 : decode cX6_isMark 37 = .ok (.bipush 62, 2) := by decide +kernel
theorem dX6_isMark_39 : decode cX6_isMark 39 = .ok (.if_icmp .le 9, 3) := by decide +kernel
theorem dX6_isMark_42 : decode cX6_isMark 42 = .ok (.iload_n 0, 1) := by decide +kernel
theorem dX6_isMark_43 : decode cX6_isMark 43 = .ok (.bipush 37, 2) := by decide +kernel
theorem dX6_isMark_45 : decode cX6_isMark 45 = .ok (.if_icmp .ne 7, 3) := by decide +kernel
theorem dX6_isMark_48 : decode cX6_isMark 48 = .ok (.iconst 1, 1) := by decide +kernel
theorem dX6_isMark_49 : decode cX6_isMark 49 = .ok (.goto 4, 3) := by decide +kernel
theorem dX6_isMark_52 : decode cX6_isMark 52 = .ok (.iconst 0, 1) := by decide +kernel
theorem dX6_isMark_53 : decode cX6_isMark 53 = .ok (.ireturn, 1) := by decide +kernel
theorem dX6_signAt_0 : decode cX6_signAt 0 = .ok (.iload_n 1, 1) := by decide +kernel
theorem dX6_signAt_1 : decode cX6_signAt 1 = .ok (.ifCond .lt 33, 3) := by decide +kernel
theorem dX6_signAt_4 : decode cX6_signAt 4 = .ok (.iload_n 1, 1) := by decide +kernel
theorem dX6_signAt_5 : decode cX6_signAt 5 = .ok (.aload_n 0, 1) := by decide +kernel
theorem dX6_signAt_6 : decode cX6_signAt 6 = .ok (.getfield 51, 3) := by decide +kernel
theorem dX6_signAt_9 : decode cX6_signAt 9 = .ok (.if_icmp .ge 25, 3) := by decide +kernel
theorem dX6_signAt_12 : decode cX6_signAt 12 = .ok (.iload_n 1, 1) := by decide +kernel
theorem dX6_signAt_13 : decode cX6_signAt 13 = .ok (.aload_n 0, 1) := by decide +kernel
theorem dX6_signAt_14 : decode cX6_signAt 14 = .ok (.getfield 9, 3) := by decide +kernel
theorem dX6_signAt_17 : decode cX6_signAt 17 = .ok (.arraylength, 1) := by decide +kernel
theorem dX6_signAt_18 : decode cX6_signAt 18 = .ok (.if_icmp .ge 16, 3) := by decide +kernel
theorem dX6_signAt_21 : decode cX6_signAt 21 = .ok (.aload_n 0, 1) := by decide +kernel
theorem dX6_signAt_22 : decode cX6_signAt 22 = .ok (.getfield 9, 3) := by decide +kernel
theorem dX6_signAt_25 : decode cX6_signAt 25 = .ok (.iload_n 1, 1) := by decide +kernel
theorem dX6_signAt_26 : decode cX6_signAt 26 = .ok (.baload, 1) := by decide +kernel
theorem dX6_signAt_27 : decode cX6_signAt 27 = .ok (.sipush 255, 3) := by decide +kernel
theorem dX6_signAt_30 : decode cX6_signAt 30 = .ok (.iand, 1) := by decide +kernel
theorem dX6_signAt_31 : decode cX6_signAt 31 = .ok (.goto 4, 3) := by decide +kernel
theorem dX6_signAt_34 : decode cX6_signAt 34 = .ok (.iconst 0, 1) := by decide +kernel
theorem dX6_signAt_35 : decode cX6_signAt 35 = .ok (.ireturn, 1) := by decide +kernel
theorem dX6_keepFault_0 : decode cX6_keepFault 0 = .ok (.aload_n 0, 1) := by decide +kernel
theorem dX6_keepFault_1 : decode cX6_keepFault 1 = .ok (.getfield 56, 3) := by decide +kernel
theorem dX6_keepFault_4 : decode cX6_keepFault 4 = .ok (.ifCond .ne 16, 3) := by decide +kernel
theorem dX6_keepFault_7 : decode cX6_keepFault 7 = .ok (.aload_n 0, 1) := by decide +kernel
theorem dX6_keepFault_8 : decode cX6_keepFault 8 = .ok (.iload_n 1, 1) := by decide +kernel
theorem dX6_keepFault_9 : decode cX6_keepFault 9 = .ok (.putfield 56, 3) := by decide +kernel
theorem dX6_keepFault_12 : decode cX6_keepFault 12 = .ok (.aload_n 0, 1) := by decide +kernel
theorem dX6_keepFault_13 : decode cX6_keepFault 13 = .ok (.aload_n 0, 1) := by decide +kernel
theorem dX6_keepFault_14 : decode cX6_keepFault 14 = .ok (.getfield 209, 3) := by decide +kernel
theorem dX6_keepFault_17 : decode cX6_keepFault 17 = .ok (.putfield 39, 3) := by decide +kernel
theorem dX6_keepFault_20 : decode cX6_keepFault 20 = .ok (.return_, 1) := by decide +kernel
set_option maxRecDepth 20000 in
theorem ggX6_refuse_X6_keepFault : GoodIn wsX6_refuse wsX6_keepFault := goodIn_r _ [6, 7, 8, 9, 10, 11, 12, 13, 14, 15, 16, 17, 18, 19, 20, 21, 22] (by decide +kernel) (by decide +kernel)
set_option maxRecDepth 20000 in
theorem gX6_refuse_X6_keepFault : GoodIn wsX6_refuse (wsV RX6 203 RX6 yX6_keepFault wsX6_keepFault) := goodIn_app (goodIn_of _ (by decide +kernel)) ggX6_refuse_X6_keepFault
theorem dX6_refuse_0 : decode cX6_refuse 0 = .ok (.aload_n 0, 1) := by decide +kernel
theorem dX6_refuse_1 : decode cX6_refuse 1 = .ok (.aload_n 0, 1) := by decide +kernel
theorem dX6_refuse_2 : decode cX6_refuse 2 = .ok (.getfield 67, 3) := by decide +kernel
theorem dX6_refuse_5 : decode cX6_refuse 5 = .ok (.iconst 4, 1) := by decide +kernel
theorem dX6_refuse_6 : decode cX6_refuse 6 = .ok (.if_icmp .ne 7, 3) := by decide +kernel
theorem dX6_refuse_9 : decode cX6_refuse 9 = .ok (.iconst 1, 1) := by decide +kernel
theorem dX6_refuse_10 : decode cX6_refuse 10 = .ok (.goto 4, 3) := by decide +kernel
theorem dX6_refuse_13 : decode cX6_refuse 13 = .ok (.iconst 2, 1) := by decide +kernel
theorem dX6_refuse_14 : decode cX6_refuse 14 = .ok (.invokevirtual 203, 3) := by decide +kernel
theorem dX6_refuse_17 : decode cX6_refuse 17 = .ok (.return_, 1) := by decide +kernel
set_option maxRecDepth 20000 in
theorem ggX6_scanWord_X6_signAt : GoodIn wsX6_scanWord wsX6_signAt := goodIn_r _ [11, 12, 13, 21, 22, 23, 24, 25, 26, 27, 28, 29, 30, 31, 32, 33] (by decide +kernel) (by decide +kernel)
set_option maxRecDepth 20000 in
theorem gX6_scanWord_X6_signAt : GoodIn wsX6_scanWord (wsV RX6 212 RX6 yX6_signAt wsX6_signAt) := goodIn_app (goodIn_of _ (by decide +kernel)) ggX6_scanWord_X6_signAt
set_option maxRecDepth 20000 in
theorem ggX6_scanWord_X6_isLetter : GoodIn wsX6_scanWord wsX6_isLetter := goodIn_r _ [16] (by decide +kernel) (by decide +kernel)
set_option maxRecDepth 20000 in
theorem gX6_scanWord_X6_isLetter : GoodIn wsX6_scanWord (va_wsS RX6 219 yX6_isLetter wsX6_isLetter) := goodIn_app (goodIn_of _ (by decide +kernel)) ggX6_scanWord_X6_isLetter
set_option maxRecDepth 20000 in
theorem ggX6_scanWord_X6_withLetter : GoodIn wsX6_scanWord wsX6_withLetter := goodIn_r _ [19, 20] (by decide +kernel) (by decide +kernel)
set_option maxRecDepth 20000 in
theorem gX6_scanWord_X6_withLetter : GoodIn wsX6_scanWord (va_wsS RX6 35 yX6_withLetter wsX6_withLetter) := goodIn_app (goodIn_of _ (by decide +kernel)) ggX6_scanWord_X6_withLetter
theorem dX6_scanWord_0 : decode cX6_scanWord 0 = .ok (.aload_n 0, 1) := by decide +kernel
theorem dX6_scanWord_1 : decode cX6_scanWord 1 = .ok (.lconst 0, 1) := by decide +kernel
theorem dX6_scanWord_2 : decode cX6_scanWord 2 = .ok (.putfield 199, 3) := by decide +kernel
theorem dX6_scanWord_5 : decode cX6_scanWord 5 = .ok (.iconst 0, 1) := by decide +kernel
theorem dX6_scanWord_6 : decode cX6_scanWord 6 = .ok (.istore_n 1, 1) := by decide +kernel
theorem dX6_scanWord_7 : decode cX6_scanWord 7 = .ok (.iload_n 1, 1) := by decide +kernel
theorem dX6_scanWord_8 : decode cX6_scanWord 8 = .ok (.sipush 1600, 3) := by decide +kernel
theorem dX6_scanWord_11 : decode cX6_scanWord 11 = .ok (.if_icmp .ge 52, 3) := by decide +kernel
theorem dX6_scanWord_14 : decode cX6_scanWord 14 = .ok (.aload_n 0, 1) := by decide +kernel
theorem dX6_scanWord_15 : decode cX6_scanWord 15 = .ok (.aload_n 0, 1) := by decide +kernel
theorem dX6_scanWord_16 : decode cX6_scanWord 16 = .ok (.getfield 53, 3) := by decide +kernel
theorem dX6_scanWord_19 : decode cX6_scanWord 19 = .ok (.invokevirtual 212, 3) := by decide +kernel
theorem dX6_scanWord_22 : decode cX6_scanWord 22 = .ok (.invokestatic 219, 3) := by decide +kernel
theorem dX6_scanWord_25 : decode cX6_scanWord 25 = .ok (.ifCond .eq 38, 3) := by decide +kernel
theorem dX6_scanWord_28 : decode cX6_scanWord 28 = .ok (.aload_n 0, 1) := by decide +kernel
theorem dX6_scanWord_29 : decode cX6_scanWord 29 = .ok (.aload_n 0, 1) := by decide +kernel
theorem dX6_scanWord_30 : decode cX6_scanWord 30 = .ok (.getfield 199, 3) := by decide +kernel
theorem dX6_scanWord_33 : decode cX6_scanWord 33 = .ok (.aload_n 0, 1) := by decide +kernel
theorem dX6_scanWord_34 : decode cX6_scanWord 34 = .ok (.aload_n 0, 1) := by decide +kernel
theorem dX6_scanWord_35 : decode cX6_scanWord 35 = .ok (.getfield 53, 3) := by decide +kernel
theorem dX6_scanWord_38 : decode cX6_scanWord 38 = .ok (.invokevirtual 212, 3) := by decide +kernel
theorem dX6_scanWord_41 : decode cX6_scanWord 41 = .ok (.invokestatic 35, 3) := by decide +kernel
theorem dX6_scanWord_44 : decode cX6_scanWord 44 = .ok (.putfield 199, 3) := by decide +kernel
theorem dX6_scanWord_47 : decode cX6_scanWord 47 = .ok (.aload_n 0, 1) := by decide +kernel
theorem dX6_scanWord_48 : decode cX6_scanWord 48 = .ok (.dup, 1) := by decide +kernel
theorem dX6_scanWord_49 : decode cX6_scanWord 49 = .ok (.getfield 53, 3) := by decide +kernel
theorem dX6_scanWord_52 : decode cX6_scanWord 52 = .ok (.iconst 1, 1) := by decide +kernel
theorem dX6_scanWord_53 : decode cX6_scanWord 53 = .ok (.iadd, 1) := by decide +kernel
theorem dX6_scanWord_54 : decode cX6_scanWord 54 = .ok (.putfield 53, 3) := by decide +kernel
theorem dX6_scanWord_57 : decode cX6_scanWord 57 = .ok (.iinc 1 1, 3) := by decide +kernel
theorem dX6_scanWord_60 : decode cX6_scanWord 60 = .ok (.goto (-53), 3) := by decide +kernel
theorem dX6_scanWord_63 : decode cX6_scanWord 63 = .ok (.aload_n 0, 1) := by decide +kernel
theorem dX6_scanWord_64 : decode cX6_scanWord 64 = .ok (.aload_n 0, 1) := by decide +kernel
theorem dX6_scanWord_65 : decode cX6_scanWord 65 = .ok (.getfield 53, 3) := by decide +kernel
theorem dX6_scanWord_68 : decode cX6_scanWord 68 = .ok (.aload_n 0, 1) := by decide +kernel
theorem dX6_scanWord_69 : decode cX6_scanWord 69 = .ok (.getfield 209, 3) := by decide +kernel
theorem dX6_scanWord_72 : decode cX6_scanWord 72 = .ok (.isub, 1) := by decide +kernel
theorem dX6_scanWord_73 : decode cX6_scanWord 73 = .ok (.bipush 8, 2) := by decide +kernel
theorem dX6_scanWord_75 : decode cX6_scanWord 75 = .ok (.if_icmp .le 7, 3) := by decide +kernel
theorem dX6_scanWord_78 : decode cX6_scanWord 78 = .ok (.iconst 4, 1) := by decide +kernel
theorem dX6_scanWord_79 : decode cX6_scanWord 79 = .ok (.goto 4, 3) := by decide +kernel
theorem dX6_scanWord_82 : decode cX6_scanWord 82 = .ok (.iconst 1, 1) := by decide +kernel
theorem dX6_scanWord_83 : decode cX6_scanWord 83 = .ok (.putfield 67, 3) := by decide +kernel
theorem dX6_scanWord_86 : decode cX6_scanWord 86 = .ok (.aload_n 0, 1) := by decide +kernel
theorem dX6_scanWord_87 : decode cX6_scanWord 87 = .ok (.iconst (-1), 1) := by decide +kernel
theorem dX6_scanWord_88 : decode cX6_scanWord 88 = .ok (.putfield 73, 3) := by decide +kernel
theorem dX6_scanWord_91 : decode cX6_scanWord 91 = .ok (.iconst 0, 1) := by decide +kernel
theorem dX6_scanWord_92 : decode cX6_scanWord 92 = .ok (.istore_n 1, 1) := by decide +kernel
theorem dX6_scanWord_93 : decode cX6_scanWord 93 = .ok (.iload_n 1, 1) := by decide +kernel
theorem dX6_scanWord_94 : decode cX6_scanWord 94 = .ok (.bipush 19, 2) := by decide +kernel
theorem dX6_scanWord_96 : decode cX6_scanWord 96 = .ok (.if_icmp .ge 28, 3) := by decide +kernel
theorem dX6_scanWord_99 : decode cX6_scanWord 99 = .ok (.aload_n 0, 1) := by decide +kernel
theorem dX6_scanWord_100 : decode cX6_scanWord 100 = .ok (.getfield 19, 3) := by decide +kernel
theorem dX6_scanWord_103 : decode cX6_scanWord 103 = .ok (.iload_n 1, 1) := by decide +kernel
theorem dX6_scanWord_104 : decode cX6_scanWord 104 = .ok (.laload, 1) := by decide +kernel
theorem dX6_scanWord_105 : decode cX6_scanWord 105 = .ok (.aload_n 0, 1) := by decide +kernel
theorem dX6_scanWord_106 : decode cX6_scanWord 106 = .ok (.getfield 199, 3) := by decide +kernel
theorem dX6_scanWord_109 : decode cX6_scanWord 109 = .ok (.lcmp, 1) := by decide +kernel
theorem dX6_scanWord_110 : decode cX6_scanWord 110 = .ok (.ifCond .ne 8, 3) := by decide +kernel
theorem dX6_scanWord_113 : decode cX6_scanWord 113 = .ok (.aload_n 0, 1) := by decide +kernel
theorem dX6_scanWord_114 : decode cX6_scanWord 114 = .ok (.iload_n 1, 1) := by decide +kernel
theorem dX6_scanWord_115 : decode cX6_scanWord 115 = .ok (.putfield 73, 3) := by decide +kernel
theorem dX6_scanWord_118 : decode cX6_scanWord 118 = .ok (.iinc 1 1, 3) := by decide +kernel
theorem dX6_scanWord_121 : decode cX6_scanWord 121 = .ok (.goto (-28), 3) := by decide +kernel
theorem dX6_scanWord_124 : decode cX6_scanWord 124 = .ok (.return_, 1) := by decide +kernel
set_option maxRecDepth 20000 in
theorem ggX6_scanNumber_X6_signAt : GoodIn wsX6_scanNumber wsX6_signAt := goodIn_r _ [9, 10, 11, 18, 19, 20, 21, 22, 23, 24, 25, 26, 27, 28, 29, 30] (by decide +kernel) (by decide +kernel)
set_option maxRecDepth 20000 in
theorem gX6_scanNumber_X6_signAt : GoodIn wsX6_scanNumber (wsV RX6 212 RX6 yX6_signAt wsX6_signAt) := goodIn_app (goodIn_of _ (by decide +kernel)) ggX6_scanNumber_X6_signAt
set_option maxRecDepth 20000 in
theorem ggX6_scanNumber_X6_isDigit : GoodIn wsX6_scanNumber wsX6_isDigit := goodIn_r _ [14] (by decide +kernel) (by decide +kernel)
set_option maxRecDepth 20000 in
theorem gX6_scanNumber_X6_isDigit : GoodIn wsX6_scanNumber (va_wsS RX6 225 yX6_isDigit wsX6_isDigit) := goodIn_app (goodIn_of _ (by decide +kernel)) ggX6_scanNumber_X6_isDigit
set_option maxRecDepth 20000 in
theorem ggX6_scanNumber_X6_isLetter : GoodIn wsX6_scanNumber wsX6_isLetter := goodIn_r _ [17] (by decide +kernel) (by decide +kernel)
set_option maxRecDepth 20000 in
theorem gX6_scanNumber_X6_isLetter : GoodIn wsX6_scanNumber (va_wsS RX6 219 yX6_isLetter wsX6_isLetter) := goodIn_app (goodIn_of _ (by decide +kernel)) ggX6_scanNumber_X6_isLetter
theorem dX6_scanNumber_0 : decode cX6_scanNumber 0 = .ok (.aload_n 0, 1) := by decide +kernel
theorem dX6_scanNumber_1 : decode cX6_scanNumber 1 = .ok (.iconst 0, 1) := by decide +kernel
theorem dX6_scanNumber_2 : decode cX6_scanNumber 2 = .ok (.putfield 196, 3) := by decide +kernel
theorem dX6_scanNumber_5 : decode cX6_scanNumber 5 = .ok (.iconst 0, 1) := by decide +kernel
theorem dX6_scanNumber_6 : decode cX6_scanNumber 6 = .ok (.istore_n 1, 1) := by decide +kernel
theorem dX6_scanNumber_7 : decode cX6_scanNumber 7 = .ok (.iload_n 1, 1) := by decide +kernel
theorem dX6_scanNumber_8 : decode cX6_scanNumber 8 = .ok (.sipush 1600, 3) := by decide +kernel
theorem dX6_scanNumber_11 : decode cX6_scanNumber 11 = .ok (.if_icmp .ge 56, 3) := by decide +kernel
theorem dX6_scanNumber_14 : decode cX6_scanNumber 14 = .ok (.aload_n 0, 1) := by decide +kernel
theorem dX6_scanNumber_15 : decode cX6_scanNumber 15 = .ok (.aload_n 0, 1) := by decide +kernel
theorem dX6_scanNumber_16 : decode cX6_scanNumber 16 = .ok (.getfield 53, 3) := by decide +kernel
theorem dX6_scanNumber_19 : decode cX6_scanNumber 19 = .ok (.invokevirtual 212, 3) := by decide +kernel
theorem dX6_scanNumber_22 : decode cX6_scanNumber 22 = .ok (.invokestatic 225, 3) := by decide +kernel
theorem dX6_scanNumber_25 : decode cX6_scanNumber 25 = .ok (.ifCond .eq 42, 3) := by decide +kernel
theorem dX6_scanNumber_28 : decode cX6_scanNumber 28 = .ok (.aload_n 0, 1) := by decide +kernel
theorem dX6_scanNumber_29 : decode cX6_scanNumber 29 = .ok (.aload_n 0, 1) := by decide +kernel
theorem dX6_scanNumber_30 : decode cX6_scanNumber 30 = .ok (.getfield 196, 3) := by decide +kernel
theorem dX6_scanNumber_33 : decode cX6_scanNumber 33 = .ok (.bipush 10, 2) := by decide +kernel
theorem dX6_scanNumber_35 : decode cX6_scanNumber 35 = .ok (.imul, 1) := by decide +kernel
theorem dX6_scanNumber_36 : decode cX6_scanNumber 36 = .ok (.aload_n 0, 1) := by decide +kernel
theorem dX6_scanNumber_37 : decode cX6_scanNumber 37 = .ok (.aload_n 0, 1) := by decide +kernel
theorem dX6_scanNumber_38 : decode cX6_scanNumber 38 = .ok (.getfield 53, 3) := by decide +kernel
theorem dX6_scanNumber_41 : decode cX6_scanNumber 41 = .ok (.invokevirtual 212, 3) := by decide +kernel
theorem dX6_scanNumber_44 : decode cX6_scanNumber 44 = .ok (.bipush 48, 2) := by decide +kernel
theorem dX6_scanNumber_46 : decode cX6_scanNumber 46 = .ok (.isub, 1) := by decide +kernel
theorem dX6_scanNumber_47 : decode cX6_scanNumber 47 = .ok (.iadd, 1) := by decide +kernel
theorem dX6_scanNumber_48 : decode cX6_scanNumber 48 = .ok (.putfield 196, 3) := by decide +kernel
theorem dX6_scanNumber_51 : decode cX6_scanNumber 51 = .ok (.aload_n 0, 1) := by decide +kernel
theorem dX6_scanNumber_52 : decode cX6_scanNumber 52 = .ok (.dup, 1) := by decide +kernel
theorem dX6_scanNumber_53 : decode cX6_scanNumber 53 = .ok (.getfield 53, 3) := by decide +kernel
theorem dX6_scanNumber_56 : decode cX6_scanNumber 56 = .ok (.iconst 1, 1) := by decide +kernel
theorem dX6_scanNumber_57 : decode cX6_scanNumber 57 = .ok (.iadd, 1) := by decide +kernel
theorem dX6_scanNumber_58 : decode cX6_scanNumber 58 = .ok (.putfield 53, 3) := by decide +kernel
theorem dX6_scanNumber_61 : decode cX6_scanNumber 61 = .ok (.iinc 1 1, 3) := by decide +kernel
theorem dX6_scanNumber_64 : decode cX6_scanNumber 64 = .ok (.goto (-57), 3) := by decide +kernel
theorem dX6_scanNumber_67 : decode cX6_scanNumber 67 = .ok (.aload_n 0, 1) := by decide +kernel
theorem dX6_scanNumber_68 : decode cX6_scanNumber 68 = .ok (.aload_n 0, 1) := by decide +kernel
theorem dX6_scanNumber_69 : decode cX6_scanNumber 69 = .ok (.getfield 53, 3) := by decide +kernel
theorem dX6_scanNumber_72 : decode cX6_scanNumber 72 = .ok (.aload_n 0, 1) := by decide +kernel
theorem dX6_scanNumber_73 : decode cX6_scanNumber 73 = .ok (.getfield 209, 3) := by decide +kernel
theorem dX6_scanNumber_76 : decode cX6_scanNumber 76 = .ok (.isub, 1) := by decide +kernel
theorem dX6_scanNumber_77 : decode cX6_scanNumber 77 = .ok (.iconst 4, 1) := by decide +kernel
theorem dX6_scanNumber_78 : decode cX6_scanNumber 78 = .ok (.if_icmp .gt 17, 3) := by decide +kernel
theorem dX6_scanNumber_81 : decode cX6_scanNumber 81 = .ok (.aload_n 0, 1) := by decide +kernel
theorem dX6_scanNumber_82 : decode cX6_scanNumber 82 = .ok (.aload_n 0, 1) := by decide +kernel
theorem dX6_scanNumber_83 : decode cX6_scanNumber 83 = .ok (.getfield 53, 3) := by decide +kernel
theorem dX6_scanNumber_86 : decode cX6_scanNumber 86 = .ok (.invokevirtual 212, 3) := by decide +kernel
theorem dX6_scanNumber_89 : decode cX6_scanNumber 89 = .ok (.invokestatic 219, 3) := by decide +kernel
theorem dX6_scanNumber_92 : decode cX6_scanNumber 92 = .ok (.ifCond .eq 7, 3) := by decide +kernel
theorem dX6_scanNumber_95 : decode cX6_scanNumber 95 = .ok (.iconst 4, 1) := by decide +kernel
theorem dX6_scanNumber_96 : decode cX6_scanNumber 96 = .ok (.goto 4, 3) := by decide +kernel
theorem dX6_scanNumber_99 : decode cX6_scanNumber 99 = .ok (.iconst 2, 1) := by decide +kernel
theorem dX6_scanNumber_100 : decode cX6_scanNumber 100 = .ok (.putfield 67, 3) := by decide +kernel
theorem dX6_scanNumber_103 : decode cX6_scanNumber 103 = .ok (.return_, 1) := by decide +kernel
set_option maxRecDepth 20000 in
theorem ggX6_advance_X6_signAt : GoodIn wsX6_advance wsX6_signAt := goodIn_r _ [10, 2, 11, 40, 41, 42, 43, 44, 45, 46, 47, 48, 49, 50, 51, 52] (by decide +kernel) (by decide +kernel)
set_option maxRecDepth 20000 in
theorem gX6_advance_X6_signAt : GoodIn wsX6_advance (wsV RX6 212 RX6 yX6_signAt wsX6_signAt) := goodIn_app (goodIn_of _ (by decide +kernel)) ggX6_advance_X6_signAt
set_option maxRecDepth 20000 in
theorem ggX6_advance_X6_isBlank : GoodIn wsX6_advance wsX6_isBlank := goodIn_r _ [14] (by decide +kernel) (by decide +kernel)
set_option maxRecDepth 20000 in
theorem gX6_advance_X6_isBlank : GoodIn wsX6_advance (va_wsS RX6 216 yX6_isBlank wsX6_isBlank) := goodIn_app (goodIn_of _ (by decide +kernel)) ggX6_advance_X6_isBlank
set_option maxRecDepth 20000 in
theorem ggX6_advance_X6_isLetter : GoodIn wsX6_advance wsX6_isLetter := goodIn_r _ [17] (by decide +kernel) (by decide +kernel)
set_option maxRecDepth 20000 in
theorem gX6_advance_X6_isLetter : GoodIn wsX6_advance (va_wsS RX6 219 yX6_isLetter wsX6_isLetter) := goodIn_app (goodIn_of _ (by decide +kernel)) ggX6_advance_X6_isLetter
set_option maxRecDepth 20000 in
theorem ggX6_advance_X6_scanWord : GoodIn wsX6_advance wsX6_scanWord := goodIn_r _ [21, 22, 1, 3, 4, 23, 24, 6, 7, 8, 9, 10, 2, 11, 15, 16, 17, 25, 26, 27, 28, 40, 41, 42, 43, 44, 45, 46, 47, 48, 49, 50, 51, 52] (by decide +kernel) (by decide +kernel)
set_option maxRecDepth 20000 in
theorem gX6_advance_X6_scanWord : GoodIn wsX6_advance (wsV RX6 222 RX6 yX6_scanWord wsX6_scanWord) := goodIn_app (goodIn_of _ (by decide +kernel)) ggX6_advance_X6_scanWord
set_option maxRecDepth 20000 in
theorem ggX6_advance_X6_isDigit : GoodIn wsX6_advance wsX6_isDigit := goodIn_r _ [31] (by decide +kernel) (by decide +kernel)
set_option maxRecDepth 20000 in
theorem gX6_advance_X6_isDigit : GoodIn wsX6_advance (va_wsS RX6 225 yX6_isDigit wsX6_isDigit) := goodIn_app (goodIn_of _ (by decide +kernel)) ggX6_advance_X6_isDigit
set_option maxRecDepth 20000 in
theorem ggX6_advance_X6_scanNumber : GoodIn wsX6_advance wsX6_scanNumber := goodIn_r _ [35, 36, 1, 3, 4, 6, 7, 8, 9, 10, 2, 11, 29, 30, 31, 15, 16, 17, 40, 41, 42, 43, 44, 45, 46, 47, 48, 49, 50, 51, 52] (by decide +kernel) (by decide +kernel)
set_option maxRecDepth 20000 in
theorem gX6_advance_X6_scanNumber : GoodIn wsX6_advance (wsV RX6 228 RX6 yX6_scanNumber wsX6_scanNumber) := goodIn_app (goodIn_of _ (by decide +kernel)) ggX6_advance_X6_scanNumber
set_option maxRecDepth 20000 in
theorem ggX6_advance_X6_isMark : GoodIn wsX6_advance wsX6_isMark := goodIn_r _ [39] (by decide +kernel) (by decide +kernel)
set_option maxRecDepth 20000 in
theorem gX6_advance_X6_isMark : GoodIn wsX6_advance (va_wsS RX6 231 yX6_isMark wsX6_isMark) := goodIn_app (goodIn_of _ (by decide +kernel)) ggX6_advance_X6_isMark
theorem dX6_advance_0 : decode cX6_advance 0 = .ok (.iconst 0, 1) := by decide +kernel
theorem dX6_advance_1 : decode cX6_advance 1 = .ok (.istore_n 1, 1) := by decide +kernel
theorem dX6_advance_2 : decode cX6_advance 2 = .ok (.iload_n 1, 1) := by decide +kernel
theorem dX6_advance_3 : decode cX6_advance 3 = .ok (.sipush 1600, 3) := by decide +kernel
theorem dX6_advance_6 : decode cX6_advance 6 = .ok (.if_icmp .ge 44, 3) := by decide +kernel
theorem dX6_advance_9 : decode cX6_advance 9 = .ok (.aload_n 0, 1) := by decide +kernel
theorem dX6_advance_10 : decode cX6_advance 10 = .ok (.getfield 53, 3) := by decide +kernel
theorem dX6_advance_13 : decode cX6_advance 13 = .ok (.aload_n 0, 1) := by decide +kernel
theorem dX6_advance_14 : decode cX6_advance 14 = .ok (.getfield 51, 3) := by decide +kernel
theorem dX6_advance_17 : decode cX6_advance 17 = .ok (.if_icmp .ge 33, 3) := by decide +kernel
theorem dX6_advance_20 : decode cX6_advance 20 = .ok (.aload_n 0, 1) := by decide +kernel
theorem dX6_advance_21 : decode cX6_advance 21 = .ok (.aload_n 0, 1) := by decide +kernel
theorem dX6_advance_22 : decode cX6_advance 22 = .ok (.getfield 53, 3) := by decide +kernel
theorem dX6_advance_25 : decode cX6_advance 25 = .ok (.invokevirtual 212, 3) := by decide +kernel
theorem dX6_advance_28 : decode cX6_advance 28 = .ok (.invokestatic 216, 3) := by decide +kernel
theorem dX6_advance_31 : decode cX6_advance 31 = .ok (.ifCond .eq 19, 3) := by decide +kernel
theorem dX6_advance_34 : decode cX6_advance 34 = .ok (.aload_n 0, 1) := by decide +kernel
theorem dX6_advance_35 : decode cX6_advance 35 = .ok (.dup, 1) := by decide +kernel
theorem dX6_advance_36 : decode cX6_advance 36 = .ok (.getfield 53, 3) := by decide +kernel
theorem dX6_advance_39 : decode cX6_advance 39 = .ok (.iconst 1, 1) := by decide +kernel
theorem dX6_advance_40 : decode cX6_advance 40 = .ok (.iadd, 1) := by decide +kernel
theorem dX6_advance_41 : decode cX6_advance 41 = .ok (.putfield 53, 3) := by decide +kernel
theorem dX6_advance_44 : decode cX6_advance 44 = .ok (.iinc 1 1, 3) := by decide +kernel
theorem dX6_advance_47 : decode cX6_advance 47 = .ok (.goto (-45), 3) := by decide +kernel
theorem dX6_advance_50 : decode cX6_advance 50 = .ok (.aload_n 0, 1) := by decide +kernel
theorem dX6_advance_51 : decode cX6_advance 51 = .ok (.aload_n 0, 1) := by decide +kernel
theorem dX6_advance_52 : decode cX6_advance 52 = .ok (.getfield 53, 3) := by decide +kernel
theorem dX6_advance_55 : decode cX6_advance 55 = .ok (.putfield 209, 3) := by decide +kernel
theorem dX6_advance_58 : decode cX6_advance 58 = .ok (.aload_n 0, 1) := by decide +kernel
theorem dX6_advance_59 : decode cX6_advance 59 = .ok (.getfield 53, 3) := by decide +kernel
theorem dX6_advance_62 : decode cX6_advance 62 = .ok (.aload_n 0, 1) := by decide +kernel
theorem dX6_advance_63 : decode cX6_advance 63 = .ok (.getfield 51, 3) := by decide +kernel
theorem dX6_advance_66 : decode cX6_advance 66 = .ok (.if_icmp .lt 9, 3) := by decide +kernel
theorem dX6_advance_69 : decode cX6_advance 69 = .ok (.aload_n 0, 1) := by decide +kernel
theorem dX6_advance_70 : decode cX6_advance 70 = .ok (.iconst 0, 1) := by decide +kernel
theorem dX6_advance_71 : decode cX6_advance 71 = .ok (.putfield 67, 3) := by decide +kernel
theorem dX6_advance_74 : decode cX6_advance 74 = .ok (.return_, 1) := by decide +kernel
theorem dX6_advance_75 : decode cX6_advance 75 = .ok (.aload_n 0, 1) := by decide +kernel
theorem dX6_advance_76 : decode cX6_advance 76 = .ok (.aload_n 0, 1) := by decide +kernel
theorem dX6_advance_77 : decode cX6_advance 77 = .ok (.aload_n 0, 1) := by decide +kernel
theorem dX6_advance_78 : decode cX6_advance 78 = .ok (.getfield 53, 3) := by decide +kernel
theorem dX6_advance_81 : decode cX6_advance 81 = .ok (.invokevirtual 212, 3) := by decide +kernel
theorem dX6_advance_84 : decode cX6_advance 84 = .ok (.putfield 206, 3) := by decide +kernel
theorem dX6_advance_87 : decode cX6_advance 87 = .ok (.aload_n 0, 1) := by decide +kernel
theorem dX6_advance_88 : decode cX6_advance 88 = .ok (.getfield 206, 3) := by decide +kernel
theorem dX6_advance_91 : decode cX6_advance 91 = .ok (.invokestatic 219, 3) := by decide +kernel
theorem dX6_advance_94 : decode cX6_advance 94 = .ok (.ifCond .eq 10, 3) := by decide +kernel
theorem dX6_advance_97 : decode cX6_advance 97 = .ok (.aload_n 0, 1) := by decide +kernel
theorem dX6_advance_98 : decode cX6_advance 98 = .ok (.invokevirtual 222, 3) := by decide +kernel
theorem dX6_advance_101 : decode cX6_advance 101 = .ok (.goto 49, 3) := by decide +kernel
theorem dX6_advance_104 : decode cX6_advance 104 = .ok (.aload_n 0, 1) := by decide +kernel
theorem dX6_advance_105 : decode cX6_advance 105 = .ok (.getfield 206, 3) := by decide +kernel
theorem dX6_advance_108 : decode cX6_advance 108 = .ok (.invokestatic 225, 3) := by decide +kernel
theorem dX6_advance_111 : decode cX6_advance 111 = .ok (.ifCond .eq 10, 3) := by decide +kernel
theorem dX6_advance_114 : decode cX6_advance 114 = .ok (.aload_n 0, 1) := by decide +kernel
theorem dX6_advance_115 : decode cX6_advance 115 = .ok (.invokevirtual 228, 3) := by decide +kernel
theorem dX6_advance_118 : decode cX6_advance 118 = .ok (.goto 32, 3) := by decide +kernel
theorem dX6_advance_121 : decode cX6_advance 121 = .ok (.aload_n 0, 1) := by decide +kernel
theorem dX6_advance_122 : decode cX6_advance 122 = .ok (.aload_n 0, 1) := by decide +kernel
theorem dX6_advance_123 : decode cX6_advance 123 = .ok (.getfield 206, 3) := by decide +kernel
theorem dX6_advance_126 : decode cX6_advance 126 = .ok (.invokestatic 231, 3) := by decide +kernel
theorem dX6_advance_129 : decode cX6_advance 129 = .ok (.ifCond .eq 7, 3) := by decide +kernel
theorem dX6_advance_132 : decode cX6_advance 132 = .ok (.iconst 3, 1) := by decide +kernel
theorem dX6_advance_133 : decode cX6_advance 133 = .ok (.goto 4, 3) := by decide +kernel
theorem dX6_advance_136 : decode cX6_advance 136 = .ok (.iconst 4, 1) := by decide +kernel
theorem dX6_advance_137 : decode cX6_advance 137 = .ok (.putfield 67, 3) := by decide +kernel
theorem dX6_advance_140 : decode cX6_advance 140 = .ok (.aload_n 0, 1) := by decide +kernel
theorem dX6_advance_141 : decode cX6_advance 141 = .ok (.dup, 1) := by decide +kernel
theorem dX6_advance_142 : decode cX6_advance 142 = .ok (.getfield 53, 3) := by decide +kernel
theorem dX6_advance_145 : decode cX6_advance 145 = .ok (.iconst 1, 1) := by decide +kernel
theorem dX6_advance_146 : decode cX6_advance 146 = .ok (.iadd, 1) := by decide +kernel
theorem dX6_advance_147 : decode cX6_advance 147 = .ok (.putfield 53, 3) := by decide +kernel
theorem dX6_advance_150 : decode cX6_advance 150 = .ok (.return_, 1) := by decide +kernel
theorem dX6_isKeyword_0 : decode cX6_isKeyword 0 = .ok (.aload_n 0, 1) := by decide +kernel
theorem dX6_isKeyword_1 : decode cX6_isKeyword 1 = .ok (.getfield 56, 3) := by decide +kernel
theorem dX6_isKeyword_4 : decode cX6_isKeyword 4 = .ok (.ifCond .ne 23, 3) := by decide +kernel
theorem dX6_isKeyword_7 : decode cX6_isKeyword 7 = .ok (.aload_n 0, 1) := by decide +kernel
theorem dX6_isKeyword_8 : decode cX6_isKeyword 8 = .ok (.getfield 67, 3) := by decide +kernel
theorem dX6_isKeyword_11 : decode cX6_isKeyword 11 = .ok (.iconst 1, 1) := by decide +kernel
theorem dX6_isKeyword_12 : decode cX6_isKeyword 12 = .ok (.if_icmp .ne 15, 3) := by decide +kernel
theorem dX6_isKeyword_15 : decode cX6_isKeyword 15 = .ok (.aload_n 0, 1) := by decide +kernel
theorem dX6_isKeyword_16 : decode cX6_isKeyword 16 = .ok (.getfield 73, 3) := by decide +kernel
theorem dX6_isKeyword_19 : decode cX6_isKeyword 19 = .ok (.iload_n 1, 1) := by decide +kernel
theorem dX6_isKeyword_20 : decode cX6_isKeyword 20 = .ok (.if_icmp .ne 7, 3) := by decide +kernel
theorem dX6_isKeyword_23 : decode cX6_isKeyword 23 = .ok (.iconst 1, 1) := by decide +kernel
theorem dX6_isKeyword_24 : decode cX6_isKeyword 24 = .ok (.goto 4, 3) := by decide +kernel
theorem dX6_isKeyword_27 : decode cX6_isKeyword 27 = .ok (.iconst 0, 1) := by decide +kernel
theorem dX6_isKeyword_28 : decode cX6_isKeyword 28 = .ok (.ireturn, 1) := by decide +kernel
theorem dX6_isSign_0 : decode cX6_isSign 0 = .ok (.aload_n 0, 1) := by decide +kernel
theorem dX6_isSign_1 : decode cX6_isSign 1 = .ok (.getfield 56, 3) := by decide +kernel
theorem dX6_isSign_4 : decode cX6_isSign 4 = .ok (.ifCond .ne 23, 3) := by decide +kernel
theorem dX6_isSign_7 : decode cX6_isSign 7 = .ok (.aload_n 0, 1) := by decide +kernel
theorem dX6_isSign_8 : decode cX6_isSign 8 = .ok (.getfield 67, 3) := by decide +kernel
theorem dX6_isSign_11 : decode cX6_isSign 11 = .ok (.iconst 3, 1) := by decide +kernel
theorem dX6_isSign_12 : decode cX6_isSign 12 = .ok (.if_icmp .ne 15, 3) := by decide +kernel
theorem dX6_isSign_15 : decode cX6_isSign 15 = .ok (.aload_n 0, 1) := by decide +kernel
theorem dX6_isSign_16 : decode cX6_isSign 16 = .ok (.getfield 206, 3) := by decide +kernel
theorem dX6_isSign_19 : decode cX6_isSign 19 = .ok (.iload_n 1, 1) := by decide +kernel
theorem dX6_isSign_20 : decode cX6_isSign 20 = .ok (.if_icmp .ne 7, 3) := by decide +kernel
theorem dX6_isSign_23 : decode cX6_isSign 23 = .ok (.iconst 1, 1) := by decide +kernel
theorem dX6_isSign_24 : decode cX6_isSign 24 = .ok (.goto 4, 3) := by decide +kernel
theorem dX6_isSign_27 : decode cX6_isSign 27 = .ok (.iconst 0, 1) := by decide +kernel
theorem dX6_isSign_28 : decode cX6_isSign 28 = .ok (.ireturn, 1) := by decide +kernel
set_option maxRecDepth 20000 in
theorem ggX6_expectKeyword_X6_isKeyword : GoodIn wsX6_expectKeyword wsX6_isKeyword := goodIn_r _ [5, 6, 7, 8, 58, 59, 60, 61, 62, 63, 64, 65, 66, 67, 68, 69, 70] (by decide +kernel) (by decide +kernel)
set_option maxRecDepth 20000 in
theorem gX6_expectKeyword_X6_isKeyword : GoodIn wsX6_expectKeyword (wsV RX6 132 RX6 yX6_isKeyword wsX6_isKeyword) := goodIn_app (goodIn_of _ (by decide +kernel)) ggX6_expectKeyword_X6_isKeyword
set_option maxRecDepth 20000 in
theorem ggX6_expectKeyword_X6_advance : GoodIn wsX6_expectKeyword wsX6_advance := goodIn_r _ [12, 13, 14, 15, 7, 16, 17, 18, 19, 4, 20, 21, 22, 23, 24, 25, 26, 27, 28, 29, 30, 31, 32, 8, 33, 34, 35, 36, 37, 38, 39, 40, 41, 42, 43, 44, 45, 46, 47, 48, 58, 59, 60, 61, 62, 63, 64, 65, 66, 67, 68, 69, 70] (by decide +kernel) (by decide +kernel)
set_option maxRecDepth 20000 in
theorem gX6_expectKeyword_X6_advance : GoodIn wsX6_expectKeyword (wsV RX6 64 RX6 yX6_advance wsX6_advance) := goodIn_app (goodIn_of _ (by decide +kernel)) ggX6_expectKeyword_X6_advance
set_option maxRecDepth 20000 in
theorem ggX6_expectKeyword_X6_refuse : GoodIn wsX6_expectKeyword wsX6_refuse := goodIn_r _ [52, 7, 53, 54, 55, 4, 56, 6, 15, 57, 58, 59, 60, 61, 62, 63, 64, 65, 66, 67, 68, 69, 70] (by decide +kernel) (by decide +kernel)
set_option maxRecDepth 20000 in
theorem gX6_expectKeyword_X6_refuse : GoodIn wsX6_expectKeyword (wsV RX6 99 RX6 yX6_refuse wsX6_refuse) := goodIn_app (goodIn_of _ (by decide +kernel)) ggX6_expectKeyword_X6_refuse
theorem dX6_expectKeyword_0 : decode cX6_expectKeyword 0 = .ok (.aload_n 0, 1) := by decide +kernel
theorem dX6_expectKeyword_1 : decode cX6_expectKeyword 1 = .ok (.iload_n 1, 1) := by decide +kernel
theorem dX6_expectKeyword_2 : decode cX6_expectKeyword 2 = .ok (.invokevirtual 132, 3) := by decide +kernel
theorem dX6_expectKeyword_5 : decode cX6_expectKeyword 5 = .ok (.ifCond .eq 10, 3) := by decide +kernel
theorem dX6_expectKeyword_8 : decode cX6_expectKeyword 8 = .ok (.aload_n 0, 1) := by decide +kernel
theorem dX6_expectKeyword_9 : decode cX6_expectKeyword 9 = .ok (.invokevirtual 64, 3) := by decide +kernel
theorem dX6_expectKeyword_12 : decode cX6_expectKeyword 12 = .ok (.goto 7, 3) := by decide +kernel
theorem dX6_expectKeyword_15 : decode cX6_expectKeyword 15 = .ok (.aload_n 0, 1) := by decide +kernel
theorem dX6_expectKeyword_16 : decode cX6_expectKeyword 16 = .ok (.invokevirtual 99, 3) := by decide +kernel
theorem dX6_expectKeyword_19 : decode cX6_expectKeyword 19 = .ok (.return_, 1) := by decide +kernel
set_option maxRecDepth 20000 in
theorem ggX6_expectSign_X6_isSign : GoodIn wsX6_expectSign wsX6_isSign := goodIn_r _ [5, 6, 7, 8, 58, 59, 60, 61, 62, 63, 64, 65, 66, 67, 68, 69, 70] (by decide +kernel) (by decide +kernel)
set_option maxRecDepth 20000 in
theorem gX6_expectSign_X6_isSign : GoodIn wsX6_expectSign (wsV RX6 180 RX6 yX6_isSign wsX6_isSign) := goodIn_app (goodIn_of _ (by decide +kernel)) ggX6_expectSign_X6_isSign
set_option maxRecDepth 20000 in
theorem ggX6_expectSign_X6_advance : GoodIn wsX6_expectSign wsX6_advance := goodIn_r _ [12, 13, 14, 15, 7, 8, 16, 17, 18, 4, 19, 20, 21, 22, 23, 24, 25, 26, 27, 28, 29, 30, 31, 32, 33, 34, 35, 36, 37, 38, 39, 40, 41, 42, 43, 44, 45, 46, 47, 48, 58, 59, 60, 61, 62, 63, 64, 65, 66, 67, 68, 69, 70] (by decide +kernel) (by decide +kernel)
set_option maxRecDepth 20000 in
theorem gX6_expectSign_X6_advance : GoodIn wsX6_expectSign (wsV RX6 64 RX6 yX6_advance wsX6_advance) := goodIn_app (goodIn_of _ (by decide +kernel)) ggX6_expectSign_X6_advance
set_option maxRecDepth 20000 in
theorem ggX6_expectSign_X6_refuse : GoodIn wsX6_expectSign wsX6_refuse := goodIn_r _ [52, 7, 53, 54, 55, 4, 56, 6, 15, 57, 58, 59, 60, 61, 62, 63, 64, 65, 66, 67, 68, 69, 70] (by decide +kernel) (by decide +kernel)
set_option maxRecDepth 20000 in
theorem gX6_expectSign_X6_refuse : GoodIn wsX6_expectSign (wsV RX6 99 RX6 yX6_refuse wsX6_refuse) := goodIn_app (goodIn_of _ (by decide +kernel)) ggX6_expectSign_X6_refuse
theorem dX6_expectSign_0 : decode cX6_expectSign 0 = .ok (.aload_n 0, 1) := by decide +kernel
theorem dX6_expectSign_1 : decode cX6_expectSign 1 = .ok (.iload_n 1, 1) := by decide +kernel
theorem dX6_expectSign_2 : decode cX6_expectSign 2 = .ok (.invokevirtual 180, 3) := by decide +kernel
theorem dX6_expectSign_5 : decode cX6_expectSign 5 = .ok (.ifCond .eq 10, 3) := by decide +kernel
theorem dX6_expectSign_8 : decode cX6_expectSign 8 = .ok (.aload_n 0, 1) := by decide +kernel
theorem dX6_expectSign_9 : decode cX6_expectSign 9 = .ok (.invokevirtual 64, 3) := by decide +kernel
theorem dX6_expectSign_12 : decode cX6_expectSign 12 = .ok (.goto 7, 3) := by decide +kernel
theorem dX6_expectSign_15 : decode cX6_expectSign 15 = .ok (.aload_n 0, 1) := by decide +kernel
theorem dX6_expectSign_16 : decode cX6_expectSign 16 = .ok (.invokevirtual 99, 3) := by decide +kernel
theorem dX6_expectSign_19 : decode cX6_expectSign 19 = .ok (.return_, 1) := by decide +kernel
set_option maxRecDepth 20000 in
theorem ggX6_numberWithin_X6_refuse : GoodIn wsX6_numberWithin wsX6_refuse := goodIn_r _ [8, 2, 9, 10, 11, 7, 12, 1, 13, 14, 54, 55, 56, 57, 58, 59, 60, 61, 62, 63, 64, 65, 66] (by decide +kernel) (by decide +kernel)
set_option maxRecDepth 20000 in
theorem gX6_numberWithin_X6_refuse : GoodIn wsX6_numberWithin (wsV RX6 99 RX6 yX6_refuse wsX6_refuse) := goodIn_app (goodIn_of _ (by decide +kernel)) ggX6_numberWithin_X6_refuse
set_option maxRecDepth 20000 in
theorem ggX6_numberWithin_X6_keepFault : GoodIn wsX6_numberWithin wsX6_keepFault := goodIn_r _ [12, 1, 13, 14, 54, 55, 56, 57, 58, 59, 60, 61, 62, 63, 64, 65, 66] (by decide +kernel) (by decide +kernel)
set_option maxRecDepth 20000 in
theorem gX6_numberWithin_X6_keepFault : GoodIn wsX6_numberWithin (wsV RX6 203 RX6 yX6_keepFault wsX6_keepFault) := goodIn_app (goodIn_of _ (by decide +kernel)) ggX6_numberWithin_X6_keepFault
set_option maxRecDepth 20000 in
theorem ggX6_numberWithin_X6_advance : GoodIn wsX6_numberWithin wsX6_advance := goodIn_r _ [18, 19, 20, 13, 2, 21, 22, 23, 24, 7, 25, 26, 27, 28, 29, 30, 31, 32, 33, 34, 35, 36, 37, 38, 39, 40, 41, 42, 43, 44, 45, 46, 47, 48, 49, 50, 3, 51, 52, 53, 54, 55, 56, 57, 58, 59, 60, 61, 62, 63, 64, 65, 66] (by decide +kernel) (by decide +kernel)
set_option maxRecDepth 20000 in
theorem gX6_numberWithin_X6_advance : GoodIn wsX6_numberWithin (wsV RX6 64 RX6 yX6_advance wsX6_advance) := goodIn_app (goodIn_of _ (by decide +kernel)) ggX6_numberWithin_X6_advance
theorem dX6_numberWithin_0 : decode cX6_numberWithin 0 = .ok (.aload_n 0, 1) := by decide +kernel
theorem dX6_numberWithin_1 : decode cX6_numberWithin 1 = .ok (.getfield 56, 3) := by decide +kernel
theorem dX6_numberWithin_4 : decode cX6_numberWithin 4 = .ok (.ifCond .ne 11, 3) := by decide +kernel
theorem dX6_numberWithin_7 : decode cX6_numberWithin 7 = .ok (.aload_n 0, 1) := by decide +kernel
theorem dX6_numberWithin_8 : decode cX6_numberWithin 8 = .ok (.getfield 67, 3) := by decide +kernel
theorem dX6_numberWithin_11 : decode cX6_numberWithin 11 = .ok (.iconst 2, 1) := by decide +kernel
theorem dX6_numberWithin_12 : decode cX6_numberWithin 12 = .ok (.if_icmp .eq 9, 3) := by decide +kernel
theorem dX6_numberWithin_15 : decode cX6_numberWithin 15 = .ok (.aload_n 0, 1) := by decide +kernel
theorem dX6_numberWithin_16 : decode cX6_numberWithin 16 = .ok (.invokevirtual 99, 3) := by decide +kernel
theorem dX6_numberWithin_19 : decode cX6_numberWithin 19 = .ok (.iload_n 1, 1) := by decide +kernel
theorem dX6_numberWithin_20 : decode cX6_numberWithin 20 = .ok (.ireturn, 1) := by decide +kernel
theorem dX6_numberWithin_21 : decode cX6_numberWithin 21 = .ok (.aload_n 0, 1) := by decide +kernel
theorem dX6_numberWithin_22 : decode cX6_numberWithin 22 = .ok (.getfield 196, 3) := by decide +kernel
theorem dX6_numberWithin_25 : decode cX6_numberWithin 25 = .ok (.iload_n 1, 1) := by decide +kernel
theorem dX6_numberWithin_26 : decode cX6_numberWithin 26 = .ok (.if_icmp .lt 11, 3) := by decide +kernel
theorem dX6_numberWithin_29 : decode cX6_numberWithin 29 = .ok (.aload_n 0, 1) := by decide +kernel
theorem dX6_numberWithin_30 : decode cX6_numberWithin 30 = .ok (.getfield 196, 3) := by decide +kernel
theorem dX6_numberWithin_33 : decode cX6_numberWithin 33 = .ok (.iload_n 2, 1) := by decide +kernel
theorem dX6_numberWithin_34 : decode cX6_numberWithin 34 = .ok (.if_icmp .le 10, 3) := by decide +kernel
theorem dX6_numberWithin_37 : decode cX6_numberWithin 37 = .ok (.aload_n 0, 1) := by decide +kernel
theorem dX6_numberWithin_38 : decode cX6_numberWithin 38 = .ok (.iconst 4, 1) := by decide +kernel
theorem dX6_numberWithin_39 : decode cX6_numberWithin 39 = .ok (.invokevirtual 203, 3) := by decide +kernel
theorem dX6_numberWithin_42 : decode cX6_numberWithin 42 = .ok (.iload_n 1, 1) := by decide +kernel
theorem dX6_numberWithin_43 : decode cX6_numberWithin 43 = .ok (.ireturn, 1) := by decide +kernel
theorem dX6_numberWithin_44 : decode cX6_numberWithin 44 = .ok (.aload_n 0, 1) := by decide +kernel
theorem dX6_numberWithin_45 : decode cX6_numberWithin 45 = .ok (.getfield 196, 3) := by decide +kernel
theorem dX6_numberWithin_48 : decode cX6_numberWithin 48 = .ok (.istore_n 3, 1) := by decide +kernel
theorem dX6_numberWithin_49 : decode cX6_numberWithin 49 = .ok (.aload_n 0, 1) := by decide +kernel
theorem dX6_numberWithin_50 : decode cX6_numberWithin 50 = .ok (.invokevirtual 64, 3) := by decide +kernel
theorem dX6_numberWithin_53 : decode cX6_numberWithin 53 = .ok (.iload_n 3, 1) := by decide +kernel
theorem dX6_numberWithin_54 : decode cX6_numberWithin 54 = .ok (.ireturn, 1) := by decide +kernel
set_option maxRecDepth 20000 in
theorem ggX6_newName_X6_refuse : GoodIn wsX6_newName wsX6_refuse := goodIn_r _ [9, 2, 10, 11, 12, 8, 13, 1, 14, 15, 54, 55, 56, 57, 58, 59, 60, 61, 62, 63, 64, 65, 66] (by decide +kernel) (by decide +kernel)
set_option maxRecDepth 20000 in
theorem gX6_newName_X6_refuse : GoodIn wsX6_newName (wsV RX6 99 RX6 yX6_refuse wsX6_refuse) := goodIn_app (goodIn_of _ (by decide +kernel)) ggX6_newName_X6_refuse
set_option maxRecDepth 20000 in
theorem ggX6_newName_X6_keepFault : GoodIn wsX6_newName wsX6_keepFault := goodIn_r _ [13, 1, 14, 15, 54, 55, 56, 57, 58, 59, 60, 61, 62, 63, 64, 65, 66] (by decide +kernel) (by decide +kernel)
set_option maxRecDepth 20000 in
theorem gX6_newName_X6_keepFault : GoodIn wsX6_newName (wsV RX6 203 RX6 yX6_keepFault wsX6_keepFault) := goodIn_app (goodIn_of _ (by decide +kernel)) ggX6_newName_X6_keepFault
set_option maxRecDepth 20000 in
theorem ggX6_newName_X6_advance : GoodIn wsX6_newName wsX6_advance := goodIn_r _ [19, 20, 21, 14, 2, 22, 23, 24, 25, 8, 26, 27, 28, 29, 30, 31, 32, 33, 34, 35, 36, 37, 4, 3, 38, 39, 40, 41, 42, 43, 44, 45, 46, 47, 48, 49, 50, 51, 52, 53, 54, 55, 56, 57, 58, 59, 60, 61, 62, 63, 64, 65, 66] (by decide +kernel) (by decide +kernel)
set_option maxRecDepth 20000 in
theorem gX6_newName_X6_advance : GoodIn wsX6_newName (wsV RX6 64 RX6 yX6_advance wsX6_advance) := goodIn_app (goodIn_of _ (by decide +kernel)) ggX6_newName_X6_advance
theorem dX6_newName_0 : decode cX6_newName 0 = .ok (.aload_n 0, 1) := by decide +kernel
theorem dX6_newName_1 : decode cX6_newName 1 = .ok (.getfield 56, 3) := by decide +kernel
theorem dX6_newName_4 : decode cX6_newName 4 = .ok (.ifCond .ne 25, 3) := by decide +kernel
theorem dX6_newName_7 : decode cX6_newName 7 = .ok (.aload_n 0, 1) := by decide +kernel
theorem dX6_newName_8 : decode cX6_newName 8 = .ok (.getfield 67, 3) := by decide +kernel
theorem dX6_newName_11 : decode cX6_newName 11 = .ok (.iconst 1, 1) := by decide +kernel
theorem dX6_newName_12 : decode cX6_newName 12 = .ok (.if_icmp .ne 17, 3) := by decide +kernel
theorem dX6_newName_15 : decode cX6_newName 15 = .ok (.aload_n 0, 1) := by decide +kernel
theorem dX6_newName_16 : decode cX6_newName 16 = .ok (.getfield 73, 3) := by decide +kernel
theorem dX6_newName_19 : decode cX6_newName 19 = .ok (.iconst (-1), 1) := by decide +kernel
theorem dX6_newName_20 : decode cX6_newName 20 = .ok (.if_icmp .ne 9, 3) := by decide +kernel
theorem dX6_newName_23 : decode cX6_newName 23 = .ok (.iload_n 2, 1) := by decide +kernel
theorem dX6_newName_24 : decode cX6_newName 24 = .ok (.aload_n 1, 1) := by decide +kernel
theorem dX6_newName_25 : decode cX6_newName 25 = .ok (.arraylength, 1) := by decide +kernel
theorem dX6_newName_26 : decode cX6_newName 26 = .ok (.if_icmp .lt 8, 3) := by decide +kernel
theorem dX6_newName_29 : decode cX6_newName 29 = .ok (.aload_n 0, 1) := by decide +kernel
theorem dX6_newName_30 : decode cX6_newName 30 = .ok (.invokevirtual 99, 3) := by decide +kernel
theorem dX6_newName_33 : decode cX6_newName 33 = .ok (.return_, 1) := by decide +kernel
theorem dX6_newName_34 : decode cX6_newName 34 = .ok (.iconst 0, 1) := by decide +kernel
theorem dX6_newName_35 : decode cX6_newName 35 = .ok (.istore_n 3, 1) := by decide +kernel
theorem dX6_newName_36 : decode cX6_newName 36 = .ok (.iload_n 3, 1) := by decide +kernel
theorem dX6_newName_37 : decode cX6_newName 37 = .ok (.iload_n 2, 1) := by decide +kernel
theorem dX6_newName_38 : decode cX6_newName 38 = .ok (.if_icmp .ge 26, 3) := by decide +kernel
theorem dX6_newName_41 : decode cX6_newName 41 = .ok (.aload_n 1, 1) := by decide +kernel
theorem dX6_newName_42 : decode cX6_newName 42 = .ok (.iload_n 3, 1) := by decide +kernel
theorem dX6_newName_43 : decode cX6_newName 43 = .ok (.laload, 1) := by decide +kernel
theorem dX6_newName_44 : decode cX6_newName 44 = .ok (.aload_n 0, 1) := by decide +kernel
theorem dX6_newName_45 : decode cX6_newName 45 = .ok (.getfield 199, 3) := by decide +kernel
theorem dX6_newName_48 : decode cX6_newName 48 = .ok (.lcmp, 1) := by decide +kernel
theorem dX6_newName_49 : decode cX6_newName 49 = .ok (.ifCond .ne 9, 3) := by decide +kernel
theorem dX6_newName_52 : decode cX6_newName 52 = .ok (.aload_n 0, 1) := by decide +kernel
theorem dX6_newName_53 : decode cX6_newName 53 = .ok (.iconst 3, 1) := by decide +kernel
theorem dX6_newName_54 : decode cX6_newName 54 = .ok (.invokevirtual 203, 3) := by decide +kernel
theorem dX6_newName_57 : decode cX6_newName 57 = .ok (.return_, 1) := by decide +kernel
theorem dX6_newName_58 : decode cX6_newName 58 = .ok (.iinc 3 1, 3) := by decide +kernel
theorem dX6_newName_61 : decode cX6_newName 61 = .ok (.goto (-25), 3) := by decide +kernel
theorem dX6_newName_64 : decode cX6_newName 64 = .ok (.aload_n 1, 1) := by decide +kernel
theorem dX6_newName_65 : decode cX6_newName 65 = .ok (.iload_n 2, 1) := by decide +kernel
theorem dX6_newName_66 : decode cX6_newName 66 = .ok (.aload_n 0, 1) := by decide +kernel
theorem dX6_newName_67 : decode cX6_newName 67 = .ok (.getfield 199, 3) := by decide +kernel
theorem dX6_newName_70 : decode cX6_newName 70 = .ok (.lastore, 1) := by decide +kernel
theorem dX6_newName_71 : decode cX6_newName 71 = .ok (.aload_n 0, 1) := by decide +kernel
theorem dX6_newName_72 : decode cX6_newName 72 = .ok (.invokevirtual 64, 3) := by decide +kernel
theorem dX6_newName_75 : decode cX6_newName 75 = .ok (.return_, 1) := by decide +kernel
theorem dX6_plainUnit_0 : decode cX6_plainUnit 0 = .ok (.aload_n 0, 1) := by decide +kernel
theorem dX6_plainUnit_1 : decode cX6_plainUnit 1 = .ok (.getfield 67, 3) := by decide +kernel
theorem dX6_plainUnit_4 : decode cX6_plainUnit 4 = .ok (.iconst 2, 1) := by decide +kernel
theorem dX6_plainUnit_5 : decode cX6_plainUnit 5 = .ok (.if_icmp .ne 5, 3) := by decide +kernel
theorem dX6_plainUnit_8 : decode cX6_plainUnit 8 = .ok (.iconst 0, 1) := by decide +kernel
theorem dX6_plainUnit_9 : decode cX6_plainUnit 9 = .ok (.ireturn, 1) := by decide +kernel
theorem dX6_plainUnit_10 : decode cX6_plainUnit 10 = .ok (.aload_n 0, 1) := by decide +kernel
theorem dX6_plainUnit_11 : decode cX6_plainUnit 11 = .ok (.getfield 67, 3) := by decide +kernel
theorem dX6_plainUnit_14 : decode cX6_plainUnit 14 = .ok (.iconst 1, 1) := by decide +kernel
theorem dX6_plainUnit_15 : decode cX6_plainUnit 15 = .ok (.if_icmp .ne 10, 3) := by decide +kernel
theorem dX6_plainUnit_18 : decode cX6_plainUnit 18 = .ok (.aload_n 0, 1) := by decide +kernel
theorem dX6_plainUnit_19 : decode cX6_plainUnit 19 = .ok (.getfield 73, 3) := by decide +kernel
theorem dX6_plainUnit_22 : decode cX6_plainUnit 22 = .ok (.goto 4, 3) := by decide +kernel
theorem dX6_plainUnit_25 : decode cX6_plainUnit 25 = .ok (.iconst (-1), 1) := by decide +kernel
theorem dX6_plainUnit_26 : decode cX6_plainUnit 26 = .ok (.tableswitch 83 5 18 #[74, 83, 83, 83, 83, 83, 83, 83, 83, 70, 72, 76, 78, 80], 70) := by decide +kernel
theorem dX6_plainUnit_96 : decode cX6_plainUnit 96 = .ok (.iconst 1, 1) := by decide +kernel
theorem dX6_plainUnit_97 : decode cX6_plainUnit 97 = .ok (.ireturn, 1) := by decide +kernel
theorem dX6_plainUnit_98 : decode cX6_plainUnit 98 = .ok (.iconst 2, 1) := by decide +kernel
theorem dX6_plainUnit_99 : decode cX6_plainUnit 99 = .ok (.ireturn, 1) := by decide +kernel
theorem dX6_plainUnit_100 : decode cX6_plainUnit 100 = .ok (.iconst 3, 1) := by decide +kernel
theorem dX6_plainUnit_101 : decode cX6_plainUnit 101 = .ok (.ireturn, 1) := by decide +kernel
theorem dX6_plainUnit_102 : decode cX6_plainUnit 102 = .ok (.iconst 4, 1) := by decide +kernel
theorem dX6_plainUnit_103 : decode cX6_plainUnit 103 = .ok (.ireturn, 1) := by decide +kernel
theorem dX6_plainUnit_104 : decode cX6_plainUnit 104 = .ok (.iconst 5, 1) := by decide +kernel
theorem dX6_plainUnit_105 : decode cX6_plainUnit 105 = .ok (.ireturn, 1) := by decide +kernel
theorem dX6_plainUnit_106 : decode cX6_plainUnit 106 = .ok (.bipush 6, 2) := by decide +kernel
theorem dX6_plainUnit_108 : decode cX6_plainUnit 108 = .ok (.ireturn, 1) := by decide +kernel
theorem dX6_plainUnit_109 : decode cX6_plainUnit 109 = .ok (.iconst (-1), 1) := by decide +kernel
theorem dX6_plainUnit_110 : decode cX6_plainUnit 110 = .ok (.ireturn, 1) := by decide +kernel
set_option maxRecDepth 20000 in
theorem ggX6_tierLine_X6_refuse : GoodIn wsX6_tierLine wsX6_refuse := goodIn_r _ [8, 9, 10, 11, 12, 7, 13, 14, 15, 16, 90, 91, 92, 93, 94, 95, 96, 97, 98, 99, 100, 101, 102] (by decide +kernel) (by decide +kernel)
set_option maxRecDepth 20000 in
theorem gX6_tierLine_X6_refuse : GoodIn wsX6_tierLine (wsV RX6 99 RX6 yX6_refuse wsX6_refuse) := goodIn_app (goodIn_of _ (by decide +kernel)) ggX6_tierLine_X6_refuse
set_option maxRecDepth 20000 in
theorem ggX6_tierLine_X6_advance : GoodIn wsX6_tierLine wsX6_advance := goodIn_r _ [20, 21, 22, 15, 9, 23, 24, 25, 26, 7, 27, 28, 29, 30, 31, 32, 33, 34, 35, 36, 37, 38, 39, 40, 41, 42, 43, 44, 45, 46, 47, 48, 49, 50, 51, 52, 53, 54, 55, 56, 90, 91, 92, 93, 94, 95, 96, 97, 98, 99, 100, 101, 102] (by decide +kernel) (by decide +kernel)
set_option maxRecDepth 20000 in
theorem gX6_tierLine_X6_advance : GoodIn wsX6_tierLine (wsV RX6 64 RX6 yX6_advance wsX6_advance) := goodIn_app (goodIn_of _ (by decide +kernel)) ggX6_tierLine_X6_advance
set_option maxRecDepth 20000 in
theorem ggX6_tierLine_X6_newName : GoodIn wsX6_tierLine wsX6_newName := goodIn_r _ [60, 14, 9, 40, 39, 4, 5, 6, 7, 8, 10, 11, 12, 13, 15, 16, 17, 18, 19, 20, 21, 22, 23, 24, 25, 26, 27, 28, 29, 30, 31, 32, 33, 34, 35, 36, 37, 38, 41, 42, 43, 44, 45, 46, 47, 48, 49, 50, 51, 52, 53, 54, 55, 56, 90, 91, 92, 93, 94, 95, 96, 97, 98, 99, 100, 101, 102] (by decide +kernel) (by decide +kernel)
set_option maxRecDepth 20000 in
theorem gX6_tierLine_X6_newName : GoodIn wsX6_tierLine (wsV RX6 108 RX6 yX6_newName wsX6_newName) := goodIn_app (goodIn_of _ (by decide +kernel)) ggX6_tierLine_X6_newName
set_option maxRecDepth 20000 in
theorem ggX6_tierLine_X6_numberWithin : GoodIn wsX6_tierLine wsX6_numberWithin := goodIn_r _ [64, 14, 9, 53, 4, 5, 6, 7, 8, 10, 11, 12, 13, 15, 16, 17, 18, 19, 20, 21, 22, 23, 24, 25, 26, 27, 28, 29, 30, 31, 32, 33, 34, 35, 36, 37, 38, 39, 40, 41, 42, 43, 44, 45, 46, 47, 48, 49, 50, 51, 52, 54, 55, 56, 90, 91, 92, 93, 94, 95, 96, 97, 98, 99, 100, 101, 102] (by decide +kernel) (by decide +kernel)
set_option maxRecDepth 20000 in
theorem gX6_tierLine_X6_numberWithin : GoodIn wsX6_tierLine (wsV RX6 112 RX6 yX6_numberWithin wsX6_numberWithin) := goodIn_app (goodIn_of _ (by decide +kernel)) ggX6_tierLine_X6_numberWithin
set_option maxRecDepth 20000 in
theorem ggX6_tierLine_X6_expectKeyword : GoodIn wsX6_tierLine wsX6_expectKeyword := goodIn_r _ [68, 69, 70, 71, 7, 72, 14, 9, 40, 17, 18, 19, 20, 21, 22, 15, 23, 24, 25, 26, 27, 28, 29, 30, 31, 32, 33, 34, 35, 36, 37, 38, 39, 41, 42, 43, 44, 45, 46, 47, 48, 49, 50, 51, 52, 53, 54, 55, 56, 4, 5, 6, 8, 10, 11, 12, 13, 16, 90, 91, 92, 93, 94, 95, 96, 97, 98, 99, 100, 101, 102] (by decide +kernel) (by decide +kernel)
set_option maxRecDepth 20000 in
theorem gX6_tierLine_X6_expectKeyword : GoodIn wsX6_tierLine (wsV RX6 115 RX6 yX6_expectKeyword wsX6_expectKeyword) := goodIn_app (goodIn_of _ (by decide +kernel)) ggX6_tierLine_X6_expectKeyword
set_option maxRecDepth 20000 in
theorem ggX6_tierLine_X6_expectSign : GoodIn wsX6_tierLine wsX6_expectSign := goodIn_r _ [76, 77, 78, 79, 7, 80, 14, 9, 23, 17, 18, 19, 20, 21, 22, 15, 24, 25, 26, 27, 28, 29, 30, 31, 32, 33, 34, 35, 36, 37, 38, 39, 40, 41, 42, 43, 44, 45, 46, 47, 48, 49, 50, 51, 52, 53, 54, 55, 56, 4, 5, 6, 8, 10, 11, 12, 13, 16, 90, 91, 92, 93, 94, 95, 96, 97, 98, 99, 100, 101, 102] (by decide +kernel) (by decide +kernel)
set_option maxRecDepth 20000 in
theorem gX6_tierLine_X6_expectSign : GoodIn wsX6_tierLine (wsV RX6 119 RX6 yX6_expectSign wsX6_expectSign) := goodIn_app (goodIn_of _ (by decide +kernel)) ggX6_tierLine_X6_expectSign
set_option maxRecDepth 20000 in
theorem ggX6_tierLine_X7_addTier : GoodIn wsX6_tierLine wsX7_addTier := goodIn_r _ [85, 86, 87, 88, 89, 103, 104, 105, 106, 107, 108, 109, 110, 111, 112, 113, 114, 115, 116, 117, 118] (by decide +kernel) (by decide +kernel)
set_option maxRecDepth 20000 in
theorem gX6_tierLine_X7_addTier : GoodIn wsX6_tierLine (wsV RX6 122 RX7 yX7_addTier wsX7_addTier) := goodIn_app (goodIn_of _ (by decide +kernel)) ggX6_tierLine_X7_addTier
theorem dX6_tierLine_0 : decode cX6_tierLine 0 = .ok (.aload_n 0, 1) := by decide +kernel
theorem dX6_tierLine_1 : decode cX6_tierLine 1 = .ok (.getfield 15, 3) := by decide +kernel
theorem dX6_tierLine_4 : decode cX6_tierLine 4 = .ok (.getfield 102, 3) := by decide +kernel
theorem dX6_tierLine_7 : decode cX6_tierLine 7 = .ok (.iconst 3, 1) := by decide +kernel
theorem dX6_tierLine_8 : decode cX6_tierLine 8 = .ok (.if_icmp .lt 8, 3) := by decide +kernel
theorem dX6_tierLine_11 : decode cX6_tierLine 11 = .ok (.aload_n 0, 1) := by decide +kernel
theorem dX6_tierLine_12 : decode cX6_tierLine 12 = .ok (.invokevirtual 99, 3) := by decide +kernel
theorem dX6_tierLine_15 : decode cX6_tierLine 15 = .ok (.return_, 1) := by decide +kernel
theorem dX6_tierLine_16 : decode cX6_tierLine 16 = .ok (.aload_n 0, 1) := by decide +kernel
theorem dX6_tierLine_17 : decode cX6_tierLine 17 = .ok (.invokevirtual 64, 3) := by decide +kernel
theorem dX6_tierLine_20 : decode cX6_tierLine 20 = .ok (.aload_n 0, 1) := by decide +kernel
theorem dX6_tierLine_21 : decode cX6_tierLine 21 = .ok (.aload_n 0, 1) := by decide +kernel
theorem dX6_tierLine_22 : decode cX6_tierLine 22 = .ok (.getfield 15, 3) := by decide +kernel
theorem dX6_tierLine_25 : decode cX6_tierLine 25 = .ok (.getfield 105, 3) := by decide +kernel
theorem dX6_tierLine_28 : decode cX6_tierLine 28 = .ok (.aload_n 0, 1) := by decide +kernel
theorem dX6_tierLine_29 : decode cX6_tierLine 29 = .ok (.getfield 15, 3) := by decide +kernel
theorem dX6_tierLine_32 : decode cX6_tierLine 32 = .ok (.getfield 102, 3) := by decide +kernel
theorem dX6_tierLine_35 : decode cX6_tierLine 35 = .ok (.invokevirtual 108, 3) := by decide +kernel
theorem dX6_tierLine_38 : decode cX6_tierLine 38 = .ok (.aload_n 0, 1) := by decide +kernel
theorem dX6_tierLine_39 : decode cX6_tierLine 39 = .ok (.iconst 1, 1) := by decide +kernel
theorem dX6_tierLine_40 : decode cX6_tierLine 40 = .ok (.bipush 8, 2) := by decide +kernel
theorem dX6_tierLine_42 : decode cX6_tierLine 42 = .ok (.invokevirtual 112, 3) := by decide +kernel
theorem dX6_tierLine_45 : decode cX6_tierLine 45 = .ok (.istore_n 1, 1) := by decide +kernel
theorem dX6_tierLine_46 : decode cX6_tierLine 46 = .ok (.aload_n 0, 1) := by decide +kernel
theorem dX6_tierLine_47 : decode cX6_tierLine 47 = .ok (.iconst 1, 1) := by decide +kernel
theorem dX6_tierLine_48 : decode cX6_tierLine 48 = .ok (.invokevirtual 115, 3) := by decide +kernel
theorem dX6_tierLine_51 : decode cX6_tierLine 51 = .ok (.aload_n 0, 1) := by decide +kernel
theorem dX6_tierLine_52 : decode cX6_tierLine 52 = .ok (.iconst 1, 1) := by decide +kernel
theorem dX6_tierLine_53 : decode cX6_tierLine 53 = .ok (.bipush 8, 2) := by decide +kernel
theorem dX6_tierLine_55 : decode cX6_tierLine 55 = .ok (.invokevirtual 112, 3) := by decide +kernel
theorem dX6_tierLine_58 : decode cX6_tierLine 58 = .ok (.istore_n 2, 1) := by decide +kernel
theorem dX6_tierLine_59 : decode cX6_tierLine 59 = .ok (.aload_n 0, 1) := by decide +kernel
theorem dX6_tierLine_60 : decode cX6_tierLine 60 = .ok (.iconst 2, 1) := by decide +kernel
theorem dX6_tierLine_61 : decode cX6_tierLine 61 = .ok (.invokevirtual 115, 3) := by decide +kernel
theorem dX6_tierLine_64 : decode cX6_tierLine 64 = .ok (.aload_n 0, 1) := by decide +kernel
theorem dX6_tierLine_65 : decode cX6_tierLine 65 = .ok (.iconst 1, 1) := by decide +kernel
theorem dX6_tierLine_66 : decode cX6_tierLine 66 = .ok (.bipush 9, 2) := by decide +kernel
theorem dX6_tierLine_68 : decode cX6_tierLine 68 = .ok (.invokevirtual 112, 3) := by decide +kernel
theorem dX6_tierLine_71 : decode cX6_tierLine 71 = .ok (.istore_n 3, 1) := by decide +kernel
theorem dX6_tierLine_72 : decode cX6_tierLine 72 = .ok (.aload_n 0, 1) := by decide +kernel
theorem dX6_tierLine_73 : decode cX6_tierLine 73 = .ok (.bipush 59, 2) := by decide +kernel
theorem dX6_tierLine_75 : decode cX6_tierLine 75 = .ok (.invokevirtual 119, 3) := by decide +kernel
theorem dX6_tierLine_78 : decode cX6_tierLine 78 = .ok (.aload_n 0, 1) := by decide +kernel
theorem dX6_tierLine_79 : decode cX6_tierLine 79 = .ok (.getfield 15, 3) := by decide +kernel
theorem dX6_tierLine_82 : decode cX6_tierLine 82 = .ok (.iload_n 1, 1) := by decide +kernel
theorem dX6_tierLine_83 : decode cX6_tierLine 83 = .ok (.iload_n 2, 1) := by decide +kernel
theorem dX6_tierLine_84 : decode cX6_tierLine 84 = .ok (.iload_n 3, 1) := by decide +kernel
theorem dX6_tierLine_85 : decode cX6_tierLine 85 = .ok (.invokevirtual 122, 3) := by decide +kernel
theorem dX6_tierLine_88 : decode cX6_tierLine 88 = .ok (.return_, 1) := by decide +kernel
set_option maxRecDepth 20000 in
theorem ggX6_guestLine_X6_refuse : GoodIn wsX6_guestLine wsX6_refuse := goodIn_r _ [8, 9, 10, 11, 12, 7, 13, 14, 15, 16, 90, 91, 92, 93, 94, 95, 96, 97, 98, 99, 100, 101, 102] (by decide +kernel) (by decide +kernel)
set_option maxRecDepth 20000 in
theorem gX6_guestLine_X6_refuse : GoodIn wsX6_guestLine (wsV RX6 99 RX6 yX6_refuse wsX6_refuse) := goodIn_app (goodIn_of _ (by decide +kernel)) ggX6_guestLine_X6_refuse
set_option maxRecDepth 20000 in
theorem ggX6_guestLine_X6_advance : GoodIn wsX6_guestLine wsX6_advance := goodIn_r _ [20, 21, 22, 15, 9, 23, 24, 25, 26, 7, 27, 28, 29, 30, 31, 32, 33, 34, 35, 36, 37, 38, 39, 40, 41, 42, 43, 44, 45, 46, 47, 48, 49, 50, 51, 52, 53, 54, 55, 56, 90, 91, 92, 93, 94, 95, 96, 97, 98, 99, 100, 101, 102] (by decide +kernel) (by decide +kernel)
set_option maxRecDepth 20000 in
theorem gX6_guestLine_X6_advance : GoodIn wsX6_guestLine (wsV RX6 64 RX6 yX6_advance wsX6_advance) := goodIn_app (goodIn_of _ (by decide +kernel)) ggX6_guestLine_X6_advance
set_option maxRecDepth 20000 in
theorem ggX6_guestLine_X6_newName : GoodIn wsX6_guestLine wsX6_newName := goodIn_r _ [60, 14, 9, 40, 39, 4, 5, 6, 7, 8, 10, 11, 12, 13, 15, 16, 17, 18, 19, 20, 21, 22, 23, 24, 25, 26, 27, 28, 29, 30, 31, 32, 33, 34, 35, 36, 37, 38, 41, 42, 43, 44, 45, 46, 47, 48, 49, 50, 51, 52, 53, 54, 55, 56, 90, 91, 92, 93, 94, 95, 96, 97, 98, 99, 100, 101, 102] (by decide +kernel) (by decide +kernel)
set_option maxRecDepth 20000 in
theorem gX6_guestLine_X6_newName : GoodIn wsX6_guestLine (wsV RX6 108 RX6 yX6_newName wsX6_newName) := goodIn_app (goodIn_of _ (by decide +kernel)) ggX6_guestLine_X6_newName
set_option maxRecDepth 20000 in
theorem ggX6_guestLine_X6_expectKeyword : GoodIn wsX6_guestLine wsX6_expectKeyword := goodIn_r _ [64, 65, 66, 67, 7, 68, 14, 9, 40, 17, 18, 19, 20, 21, 22, 15, 23, 24, 25, 26, 27, 28, 29, 30, 31, 32, 33, 34, 35, 36, 37, 38, 39, 41, 42, 43, 44, 45, 46, 47, 48, 49, 50, 51, 52, 53, 54, 55, 56, 4, 5, 6, 8, 10, 11, 12, 13, 16, 90, 91, 92, 93, 94, 95, 96, 97, 98, 99, 100, 101, 102] (by decide +kernel) (by decide +kernel)
set_option maxRecDepth 20000 in
theorem gX6_guestLine_X6_expectKeyword : GoodIn wsX6_guestLine (wsV RX6 115 RX6 yX6_expectKeyword wsX6_expectKeyword) := goodIn_app (goodIn_of _ (by decide +kernel)) ggX6_guestLine_X6_expectKeyword
set_option maxRecDepth 20000 in
theorem ggX6_guestLine_X6_numberWithin : GoodIn wsX6_guestLine wsX6_numberWithin := goodIn_r _ [72, 14, 9, 53, 4, 5, 6, 7, 8, 10, 11, 12, 13, 15, 16, 17, 18, 19, 20, 21, 22, 23, 24, 25, 26, 27, 28, 29, 30, 31, 32, 33, 34, 35, 36, 37, 38, 39, 40, 41, 42, 43, 44, 45, 46, 47, 48, 49, 50, 51, 52, 54, 55, 56, 90, 91, 92, 93, 94, 95, 96, 97, 98, 99, 100, 101, 102] (by decide +kernel) (by decide +kernel)
set_option maxRecDepth 20000 in
theorem gX6_guestLine_X6_numberWithin : GoodIn wsX6_guestLine (wsV RX6 112 RX6 yX6_numberWithin wsX6_numberWithin) := goodIn_app (goodIn_of _ (by decide +kernel)) ggX6_guestLine_X6_numberWithin
set_option maxRecDepth 20000 in
theorem ggX6_guestLine_X6_isKeyword : GoodIn wsX6_guestLine wsX6_isKeyword := goodIn_r _ [68, 14, 9, 40, 90, 91, 92, 93, 94, 95, 96, 97, 98, 99, 100, 101, 102] (by decide +kernel) (by decide +kernel)
set_option maxRecDepth 20000 in
theorem gX6_guestLine_X6_isKeyword : GoodIn wsX6_guestLine (wsV RX6 132 RX6 yX6_isKeyword wsX6_isKeyword) := goodIn_app (goodIn_of _ (by decide +kernel)) ggX6_guestLine_X6_isKeyword
set_option maxRecDepth 20000 in
theorem ggX6_guestLine_X6_expectSign : GoodIn wsX6_guestLine wsX6_expectSign := goodIn_r _ [76, 77, 78, 79, 7, 80, 14, 9, 23, 17, 18, 19, 20, 21, 22, 15, 24, 25, 26, 27, 28, 29, 30, 31, 32, 33, 34, 35, 36, 37, 38, 39, 40, 41, 42, 43, 44, 45, 46, 47, 48, 49, 50, 51, 52, 53, 54, 55, 56, 4, 5, 6, 8, 10, 11, 12, 13, 16, 90, 91, 92, 93, 94, 95, 96, 97, 98, 99, 100, 101, 102] (by decide +kernel) (by decide +kernel)
set_option maxRecDepth 20000 in
theorem gX6_guestLine_X6_expectSign : GoodIn wsX6_guestLine (wsV RX6 119 RX6 yX6_expectSign wsX6_expectSign) := goodIn_app (goodIn_of _ (by decide +kernel)) ggX6_guestLine_X6_expectSign
set_option maxRecDepth 20000 in
theorem ggX6_guestLine_X7_addGuest : GoodIn wsX6_guestLine wsX7_addGuest := goodIn_r _ [85, 86, 87, 88, 89, 103, 104, 105, 106, 107, 108, 109, 110, 111, 112, 113, 114, 115, 116, 117, 118] (by decide +kernel) (by decide +kernel)
set_option maxRecDepth 20000 in
theorem gX6_guestLine_X7_addGuest : GoodIn wsX6_guestLine (wsV RX6 136 RX7 yX7_addGuest wsX7_addGuest) := goodIn_app (goodIn_of _ (by decide +kernel)) ggX6_guestLine_X7_addGuest
theorem dX6_guestLine_0 : decode cX6_guestLine 0 = .ok (.aload_n 0, 1) := by decide +kernel
theorem dX6_guestLine_1 : decode cX6_guestLine 1 = .ok (.getfield 15, 3) := by decide +kernel
theorem dX6_guestLine_4 : decode cX6_guestLine 4 = .ok (.getfield 126, 3) := by decide +kernel
theorem dX6_guestLine_7 : decode cX6_guestLine 7 = .ok (.bipush 6, 2) := by decide +kernel
theorem dX6_guestLine_9 : decode cX6_guestLine 9 = .ok (.if_icmp .lt 8, 3) := by decide +kernel
theorem dX6_guestLine_12 : decode cX6_guestLine 12 = .ok (.aload_n 0, 1) := by decide +kernel
theorem dX6_guestLine_13 : decode cX6_guestLine 13 = .ok (.invokevirtual 99, 3) := by decide +kernel
theorem dX6_guestLine_16 : decode cX6_guestLine 16 = .ok (.return_, 1) := by decide +kernel
theorem dX6_guestLine_17 : decode cX6_guestLine 17 = .ok (.aload_n 0, 1) := by decide +kernel
theorem dX6_guestLine_18 : decode cX6_guestLine 18 = .ok (.invokevirtual 64, 3) := by decide +kernel
theorem dX6_guestLine_21 : decode cX6_guestLine 21 = .ok (.aload_n 0, 1) := by decide +kernel
theorem dX6_guestLine_22 : decode cX6_guestLine 22 = .ok (.aload_n 0, 1) := by decide +kernel
theorem dX6_guestLine_23 : decode cX6_guestLine 23 = .ok (.getfield 15, 3) := by decide +kernel
theorem dX6_guestLine_26 : decode cX6_guestLine 26 = .ok (.getfield 129, 3) := by decide +kernel
theorem dX6_guestLine_29 : decode cX6_guestLine 29 = .ok (.aload_n 0, 1) := by decide +kernel
theorem dX6_guestLine_30 : decode cX6_guestLine 30 = .ok (.getfield 15, 3) := by decide +kernel
theorem dX6_guestLine_33 : decode cX6_guestLine 33 = .ok (.getfield 126, 3) := by decide +kernel
theorem dX6_guestLine_36 : decode cX6_guestLine 36 = .ok (.invokevirtual 108, 3) := by decide +kernel
theorem dX6_guestLine_39 : decode cX6_guestLine 39 = .ok (.aload_n 0, 1) := by decide +kernel
theorem dX6_guestLine_40 : decode cX6_guestLine 40 = .ok (.iconst 4, 1) := by decide +kernel
theorem dX6_guestLine_41 : decode cX6_guestLine 41 = .ok (.invokevirtual 115, 3) := by decide +kernel
theorem dX6_guestLine_44 : decode cX6_guestLine 44 = .ok (.aload_n 0, 1) := by decide +kernel
theorem dX6_guestLine_45 : decode cX6_guestLine 45 = .ok (.iconst 0, 1) := by decide +kernel
theorem dX6_guestLine_46 : decode cX6_guestLine 46 = .ok (.sipush 999, 3) := by decide +kernel
theorem dX6_guestLine_49 : decode cX6_guestLine 49 = .ok (.invokevirtual 112, 3) := by decide +kernel
theorem dX6_guestLine_52 : decode cX6_guestLine 52 = .ok (.istore_n 1, 1) := by decide +kernel
theorem dX6_guestLine_53 : decode cX6_guestLine 53 = .ok (.iconst 0, 1) := by decide +kernel
theorem dX6_guestLine_54 : decode cX6_guestLine 54 = .ok (.istore_n 2, 1) := by decide +kernel
theorem dX6_guestLine_55 : decode cX6_guestLine 55 = .ok (.aload_n 0, 1) := by decide +kernel
theorem dX6_guestLine_56 : decode cX6_guestLine 56 = .ok (.iconst 5, 1) := by decide +kernel
theorem dX6_guestLine_57 : decode cX6_guestLine 57 = .ok (.invokevirtual 132, 3) := by decide +kernel
theorem dX6_guestLine_60 : decode cX6_guestLine 60 = .ok (.ifCond .eq 15, 3) := by decide +kernel
theorem dX6_guestLine_63 : decode cX6_guestLine 63 = .ok (.aload_n 0, 1) := by decide +kernel
theorem dX6_guestLine_64 : decode cX6_guestLine 64 = .ok (.invokevirtual 64, 3) := by decide +kernel
theorem dX6_guestLine_67 : decode cX6_guestLine 67 = .ok (.aload_n 0, 1) := by decide +kernel
theorem dX6_guestLine_68 : decode cX6_guestLine 68 = .ok (.iconst 0, 1) := by decide +kernel
theorem dX6_guestLine_69 : decode cX6_guestLine 69 = .ok (.bipush 9, 2) := by decide +kernel
theorem dX6_guestLine_71 : decode cX6_guestLine 71 = .ok (.invokevirtual 112, 3) := by decide +kernel
theorem dX6_guestLine_74 : decode cX6_guestLine 74 = .ok (.istore_n 2, 1) := by decide +kernel
theorem dX6_guestLine_75 : decode cX6_guestLine 75 = .ok (.bipush 100, 2) := by decide +kernel
theorem dX6_guestLine_77 : decode cX6_guestLine 77 = .ok (.istore_n 3, 1) := by decide +kernel
theorem dX6_guestLine_78 : decode cX6_guestLine 78 = .ok (.aload_n 0, 1) := by decide +kernel
theorem dX6_guestLine_79 : decode cX6_guestLine 79 = .ok (.bipush 6, 2) := by decide +kernel
theorem dX6_guestLine_81 : decode cX6_guestLine 81 = .ok (.invokevirtual 132, 3) := by decide +kernel
theorem dX6_guestLine_84 : decode cX6_guestLine 84 = .ok (.ifCond .eq 15, 3) := by decide +kernel
theorem dX6_guestLine_87 : decode cX6_guestLine 87 = .ok (.aload_n 0, 1) := by decide +kernel
theorem dX6_guestLine_88 : decode cX6_guestLine 88 = .ok (.invokevirtual 64, 3) := by decide +kernel
theorem dX6_guestLine_91 : decode cX6_guestLine 91 = .ok (.aload_n 0, 1) := by decide +kernel
theorem dX6_guestLine_92 : decode cX6_guestLine 92 = .ok (.iconst 0, 1) := by decide +kernel
theorem dX6_guestLine_93 : decode cX6_guestLine 93 = .ok (.bipush 100, 2) := by decide +kernel
theorem dX6_guestLine_95 : decode cX6_guestLine 95 = .ok (.invokevirtual 112, 3) := by decide +kernel
theorem dX6_guestLine_98 : decode cX6_guestLine 98 = .ok (.istore_n 3, 1) := by decide +kernel
theorem dX6_guestLine_99 : decode cX6_guestLine 99 = .ok (.aload_n 0, 1) := by decide +kernel
theorem dX6_guestLine_100 : decode cX6_guestLine 100 = .ok (.bipush 59, 2) := by decide +kernel
theorem dX6_guestLine_102 : decode cX6_guestLine 102 = .ok (.invokevirtual 119, 3) := by decide +kernel
theorem dX6_guestLine_105 : decode cX6_guestLine 105 = .ok (.aload_n 0, 1) := by decide +kernel
theorem dX6_guestLine_106 : decode cX6_guestLine 106 = .ok (.getfield 15, 3) := by decide +kernel
theorem dX6_guestLine_109 : decode cX6_guestLine 109 = .ok (.iload_n 1, 1) := by decide +kernel
theorem dX6_guestLine_110 : decode cX6_guestLine 110 = .ok (.iload_n 2, 1) := by decide +kernel
theorem dX6_guestLine_111 : decode cX6_guestLine 111 = .ok (.iload_n 3, 1) := by decide +kernel
theorem dX6_guestLine_112 : decode cX6_guestLine 112 = .ok (.invokevirtual 136, 3) := by decide +kernel
theorem dX6_guestLine_115 : decode cX6_guestLine 115 = .ok (.return_, 1) := by decide +kernel
set_option maxRecDepth 20000 in
theorem ggX6_paceLine_X6_refuse : GoodIn wsX6_paceLine wsX6_refuse := goodIn_r _ [8, 9, 10, 11, 12, 7, 13, 14, 15, 16, 69, 70, 71, 72, 73, 74, 75, 76, 77, 78, 79, 80, 81] (by decide +kernel) (by decide +kernel)
set_option maxRecDepth 20000 in
theorem gX6_paceLine_X6_refuse : GoodIn wsX6_paceLine (wsV RX6 99 RX6 yX6_refuse wsX6_refuse) := goodIn_app (goodIn_of _ (by decide +kernel)) ggX6_paceLine_X6_refuse
set_option maxRecDepth 20000 in
theorem ggX6_paceLine_X6_advance : GoodIn wsX6_paceLine wsX6_advance := goodIn_r _ [20, 21, 22, 15, 9, 23, 24, 25, 26, 7, 27, 28, 29, 30, 31, 32, 33, 34, 35, 36, 37, 38, 39, 40, 41, 42, 43, 44, 45, 46, 47, 48, 49, 50, 51, 52, 53, 54, 55, 56, 69, 70, 71, 72, 73, 74, 75, 76, 77, 78, 79, 80, 81] (by decide +kernel) (by decide +kernel)
set_option maxRecDepth 20000 in
theorem gX6_paceLine_X6_advance : GoodIn wsX6_paceLine (wsV RX6 64 RX6 yX6_advance wsX6_advance) := goodIn_app (goodIn_of _ (by decide +kernel)) ggX6_paceLine_X6_advance
set_option maxRecDepth 20000 in
theorem ggX6_paceLine_X6_numberWithin : GoodIn wsX6_paceLine wsX6_numberWithin := goodIn_r _ [60, 14, 9, 53, 4, 5, 6, 7, 8, 10, 11, 12, 13, 15, 16, 17, 18, 19, 20, 21, 22, 23, 24, 25, 26, 27, 28, 29, 30, 31, 32, 33, 34, 35, 36, 37, 38, 39, 40, 41, 42, 43, 44, 45, 46, 47, 48, 49, 50, 51, 52, 54, 55, 56, 69, 70, 71, 72, 73, 74, 75, 76, 77, 78, 79, 80, 81] (by decide +kernel) (by decide +kernel)
set_option maxRecDepth 20000 in
theorem gX6_paceLine_X6_numberWithin : GoodIn wsX6_paceLine (wsV RX6 112 RX6 yX6_numberWithin wsX6_numberWithin) := goodIn_app (goodIn_of _ (by decide +kernel)) ggX6_paceLine_X6_numberWithin
set_option maxRecDepth 20000 in
theorem ggX6_paceLine_X6_expectSign : GoodIn wsX6_paceLine wsX6_expectSign := goodIn_r _ [64, 65, 66, 67, 7, 68, 14, 9, 23, 17, 18, 19, 20, 21, 22, 15, 24, 25, 26, 27, 28, 29, 30, 31, 32, 33, 34, 35, 36, 37, 38, 39, 40, 41, 42, 43, 44, 45, 46, 47, 48, 49, 50, 51, 52, 53, 54, 55, 56, 4, 5, 6, 8, 10, 11, 12, 13, 16, 69, 70, 71, 72, 73, 74, 75, 76, 77, 78, 79, 80, 81] (by decide +kernel) (by decide +kernel)
set_option maxRecDepth 20000 in
theorem gX6_paceLine_X6_expectSign : GoodIn wsX6_paceLine (wsV RX6 119 RX6 yX6_expectSign wsX6_expectSign) := goodIn_app (goodIn_of _ (by decide +kernel)) ggX6_paceLine_X6_expectSign
theorem dX6_paceLine_0 : decode cX6_paceLine 0 = .ok (.aload_n 0, 1) := by decide +kernel
theorem dX6_paceLine_1 : decode cX6_paceLine 1 = .ok (.getfield 15, 3) := by decide +kernel
theorem dX6_paceLine_4 : decode cX6_paceLine 4 = .ok (.getfield 152, 3) := by decide +kernel
theorem dX6_paceLine_7 : decode cX6_paceLine 7 = .ok (.ifCond .eq 8, 3) := by decide +kernel
theorem dX6_paceLine_10 : decode cX6_paceLine 10 = .ok (.aload_n 0, 1) := by decide +kernel
theorem dX6_paceLine_11 : decode cX6_paceLine 11 = .ok (.invokevirtual 99, 3) := by decide +kernel
theorem dX6_paceLine_14 : decode cX6_paceLine 14 = .ok (.return_, 1) := by decide +kernel
theorem dX6_paceLine_15 : decode cX6_paceLine 15 = .ok (.aload_n 0, 1) := by decide +kernel
theorem dX6_paceLine_16 : decode cX6_paceLine 16 = .ok (.invokevirtual 64, 3) := by decide +kernel
theorem dX6_paceLine_19 : decode cX6_paceLine 19 = .ok (.aload_n 0, 1) := by decide +kernel
theorem dX6_paceLine_20 : decode cX6_paceLine 20 = .ok (.getfield 15, 3) := by decide +kernel
theorem dX6_paceLine_23 : decode cX6_paceLine 23 = .ok (.iconst 1, 1) := by decide +kernel
theorem dX6_paceLine_24 : decode cX6_paceLine 24 = .ok (.putfield 152, 3) := by decide +kernel
theorem dX6_paceLine_27 : decode cX6_paceLine 27 = .ok (.aload_n 0, 1) := by decide +kernel
theorem dX6_paceLine_28 : decode cX6_paceLine 28 = .ok (.getfield 15, 3) := by decide +kernel
theorem dX6_paceLine_31 : decode cX6_paceLine 31 = .ok (.aload_n 0, 1) := by decide +kernel
theorem dX6_paceLine_32 : decode cX6_paceLine 32 = .ok (.iconst 0, 1) := by decide +kernel
theorem dX6_paceLine_33 : decode cX6_paceLine 33 = .ok (.bipush 60, 2) := by decide +kernel
theorem dX6_paceLine_35 : decode cX6_paceLine 35 = .ok (.invokevirtual 112, 3) := by decide +kernel
theorem dX6_paceLine_38 : decode cX6_paceLine 38 = .ok (.putfield 155, 3) := by decide +kernel
theorem dX6_paceLine_41 : decode cX6_paceLine 41 = .ok (.aload_n 0, 1) := by decide +kernel
theorem dX6_paceLine_42 : decode cX6_paceLine 42 = .ok (.bipush 59, 2) := by decide +kernel
theorem dX6_paceLine_44 : decode cX6_paceLine 44 = .ok (.invokevirtual 119, 3) := by decide +kernel
theorem dX6_paceLine_47 : decode cX6_paceLine 47 = .ok (.return_, 1) := by decide +kernel
set_option maxRecDepth 20000 in
theorem ggX6_drawLine_X6_refuse : GoodIn wsX6_drawLine wsX6_refuse := goodIn_r _ [8, 9, 10, 11, 12, 7, 13, 14, 15, 16, 69, 70, 71, 72, 73, 74, 75, 76, 77, 78, 79, 80, 81] (by decide +kernel) (by decide +kernel)
set_option maxRecDepth 20000 in
theorem gX6_drawLine_X6_refuse : GoodIn wsX6_drawLine (wsV RX6 99 RX6 yX6_refuse wsX6_refuse) := goodIn_app (goodIn_of _ (by decide +kernel)) ggX6_drawLine_X6_refuse
set_option maxRecDepth 20000 in
theorem ggX6_drawLine_X6_advance : GoodIn wsX6_drawLine wsX6_advance := goodIn_r _ [20, 21, 22, 15, 9, 23, 24, 25, 26, 7, 27, 28, 29, 30, 31, 32, 33, 34, 35, 36, 37, 38, 39, 40, 41, 42, 43, 44, 45, 46, 47, 48, 49, 50, 51, 52, 53, 54, 55, 56, 69, 70, 71, 72, 73, 74, 75, 76, 77, 78, 79, 80, 81] (by decide +kernel) (by decide +kernel)
set_option maxRecDepth 20000 in
theorem gX6_drawLine_X6_advance : GoodIn wsX6_drawLine (wsV RX6 64 RX6 yX6_advance wsX6_advance) := goodIn_app (goodIn_of _ (by decide +kernel)) ggX6_drawLine_X6_advance
set_option maxRecDepth 20000 in
theorem ggX6_drawLine_X6_numberWithin : GoodIn wsX6_drawLine wsX6_numberWithin := goodIn_r _ [60, 14, 9, 53, 4, 5, 6, 7, 8, 10, 11, 12, 13, 15, 16, 17, 18, 19, 20, 21, 22, 23, 24, 25, 26, 27, 28, 29, 30, 31, 32, 33, 34, 35, 36, 37, 38, 39, 40, 41, 42, 43, 44, 45, 46, 47, 48, 49, 50, 51, 52, 54, 55, 56, 69, 70, 71, 72, 73, 74, 75, 76, 77, 78, 79, 80, 81] (by decide +kernel) (by decide +kernel)
set_option maxRecDepth 20000 in
theorem gX6_drawLine_X6_numberWithin : GoodIn wsX6_drawLine (wsV RX6 112 RX6 yX6_numberWithin wsX6_numberWithin) := goodIn_app (goodIn_of _ (by decide +kernel)) ggX6_drawLine_X6_numberWithin
set_option maxRecDepth 20000 in
theorem ggX6_drawLine_X6_expectSign : GoodIn wsX6_drawLine wsX6_expectSign := goodIn_r _ [64, 65, 66, 67, 7, 68, 14, 9, 23, 17, 18, 19, 20, 21, 22, 15, 24, 25, 26, 27, 28, 29, 30, 31, 32, 33, 34, 35, 36, 37, 38, 39, 40, 41, 42, 43, 44, 45, 46, 47, 48, 49, 50, 51, 52, 53, 54, 55, 56, 4, 5, 6, 8, 10, 11, 12, 13, 16, 69, 70, 71, 72, 73, 74, 75, 76, 77, 78, 79, 80, 81] (by decide +kernel) (by decide +kernel)
set_option maxRecDepth 20000 in
theorem gX6_drawLine_X6_expectSign : GoodIn wsX6_drawLine (wsV RX6 119 RX6 yX6_expectSign wsX6_expectSign) := goodIn_app (goodIn_of _ (by decide +kernel)) ggX6_drawLine_X6_expectSign
theorem dX6_drawLine_0 : decode cX6_drawLine 0 = .ok (.aload_n 0, 1) := by decide +kernel
theorem dX6_drawLine_1 : decode cX6_drawLine 1 = .ok (.getfield 15, 3) := by decide +kernel
theorem dX6_drawLine_4 : decode cX6_drawLine 4 = .ok (.getfield 158, 3) := by decide +kernel
theorem dX6_drawLine_7 : decode cX6_drawLine 7 = .ok (.ifCond .eq 8, 3) := by decide +kernel
theorem dX6_drawLine_10 : decode cX6_drawLine 10 = .ok (.aload_n 0, 1) := by decide +kernel
theorem dX6_drawLine_11 : decode cX6_drawLine 11 = .ok (.invokevirtual 99, 3) := by decide +kernel
theorem dX6_drawLine_14 : decode cX6_drawLine 14 = .ok (.return_, 1) := by decide +kernel
theorem dX6_drawLine_15 : decode cX6_drawLine 15 = .ok (.aload_n 0, 1) := by decide +kernel
theorem dX6_drawLine_16 : decode cX6_drawLine 16 = .ok (.invokevirtual 64, 3) := by decide +kernel
theorem dX6_drawLine_19 : decode cX6_drawLine 19 = .ok (.aload_n 0, 1) := by decide +kernel
theorem dX6_drawLine_20 : decode cX6_drawLine 20 = .ok (.getfield 15, 3) := by decide +kernel
theorem dX6_drawLine_23 : decode cX6_drawLine 23 = .ok (.iconst 1, 1) := by decide +kernel
theorem dX6_drawLine_24 : decode cX6_drawLine 24 = .ok (.putfield 158, 3) := by decide +kernel
theorem dX6_drawLine_27 : decode cX6_drawLine 27 = .ok (.aload_n 0, 1) := by decide +kernel
theorem dX6_drawLine_28 : decode cX6_drawLine 28 = .ok (.getfield 15, 3) := by decide +kernel
theorem dX6_drawLine_31 : decode cX6_drawLine 31 = .ok (.aload_n 0, 1) := by decide +kernel
theorem dX6_drawLine_32 : decode cX6_drawLine 32 = .ok (.iconst 0, 1) := by decide +kernel
theorem dX6_drawLine_33 : decode cX6_drawLine 33 = .ok (.sipush 999, 3) := by decide +kernel
theorem dX6_drawLine_36 : decode cX6_drawLine 36 = .ok (.invokevirtual 112, 3) := by decide +kernel
theorem dX6_drawLine_39 : decode cX6_drawLine 39 = .ok (.putfield 161, 3) := by decide +kernel
theorem dX6_drawLine_42 : decode cX6_drawLine 42 = .ok (.aload_n 0, 1) := by decide +kernel
theorem dX6_drawLine_43 : decode cX6_drawLine 43 = .ok (.bipush 59, 2) := by decide +kernel
theorem dX6_drawLine_45 : decode cX6_drawLine 45 = .ok (.invokevirtual 119, 3) := by decide +kernel
theorem dX6_drawLine_48 : decode cX6_drawLine 48 = .ok (.return_, 1) := by decide +kernel
def fn_X6_withLetter (v0 : Int64) (v2 : Int32) (z : St) : Option (Int64 × St) := some (((v0 * 32) + (Int32.toInt64 ((v2 - 97) + 1))), z)
set_option maxHeartbeats 4000000 in
set_option maxRecDepth 100000 in
theorem m_X6_withLetter {l : Launch} {G : wG} (hG : Ok G) {v0 : Int64} {v2 : Int32} {z : St} {Rz : Int64 × St}  (h : fn_X6_withLetter  v0 v2 z = some Rz) : Met l yX6_withLetter wsX6_withLetter (rmd 1) (va_Pc [.long v0, .int v2] (Pre G z)) (va_Ql (fun r u => (r, u) = Rz) (Pre G) (AW G)) 0 0 (AW G) := by
  refine Met.ofW (cc := cX6_withLetter) (maxL := 3) (ret := (some .long)) (by decide) rfl ?_
  intro p e s m args below meth c s₁ B hml hv
  obtain ⟨rfl, hP, hK⟩ := hv
  have C : CX p s m ([.long v0, .int v2] : List Value).toArray meth c cX6_withLetter 3 wsX6_withLetter RX6 (some .long) G := ⟨B.exec, B.bytes, hml, findClass_of_methodNamed B.named, atoms_spec (ws := wsX6_withLetter) B.pre, B.returns, B.notSynchronized, hK, hG⟩
  obtain ⟨hx, hb, -, hown, hts, hr, hlocks, -, -⟩ := id C
  have hS : va_S (AW G) s.heap s.heap [] := va_S.rf
  have hl := lv_entry [.long v0, .int v2] (n := 3) (Nat.le_of_ble_eq_true rfl)
  rw [lg_entry_eq]
  generalize (lg_sl [.long v0, .int v2] ++ List.replicate (3 - (lg_sl [.long v0, .int v2]).length) Slot.unset).toArray = ls at hl ⊢
  have hl : lv_has ls 3 [(0, .long v0), (2, .int v2)] := hl
  unfold fn_X6_withLetter at h
  refine lv_lload_n hx hb dX6_withLetter_0 rfl (lv_at hl 0 rfl) ?_
  refine lv_ldc2 (v := 32) hx hb hown (hts _ (List.mem_of_getElem? (i := 1) rfl)) dX6_withLetter_1 ?_
  refine lv_lmul hx hb dX6_withLetter_4 ?_
  refine lv_iload_n hx hb dX6_withLetter_5 rfl (lv_at hl 1 rfl) ?_
  refine lv_bipush (v := 97) hx hb dX6_withLetter_6 (by decide) ?_
  refine lv_isub hx hb dX6_withLetter_8 ?_
  refine lv_iconst (v := 1) hx hb dX6_withLetter_9 (by decide) ?_
  refine lv_iadd hx hb dX6_withLetter_10 ?_
  refine lv_i2l hx hb dX6_withLetter_11 rfl ?_
  refine lv_ladd hx hb dX6_withLetter_12 ?_
  exact x_lret hx hb hr hlocks hK hP hS h dX6_withLetter_13
def fn_X6_isLetter (v0 : Int32) (z : St) : Option (Int32 × St) := (if v0 < 97 then some (0, z) else (if 122 < v0 then some (0, z) else some (1, z)))
set_option maxHeartbeats 4000000 in
set_option maxRecDepth 100000 in
theorem m_X6_isLetter {l : Launch} {G : wG} (hG : Ok G) {v0 : Int32} {z : St} {Rz : Int32 × St}  (h : fn_X6_isLetter  v0 z = some Rz) : Met l yX6_isLetter wsX6_isLetter (rmd 1) (va_Pc [.int v0] (Pre G z)) (va_Qi (fun r u => (r, u) = Rz) (Pre G) (AW G)) 0 0 (AW G) := by
  refine Met.ofW (cc := cX6_isLetter) (maxL := 1) (ret := (some .boolean)) (by decide) rfl ?_
  intro p e s m args below meth c s₁ B hml hv
  obtain ⟨rfl, hP, hK⟩ := hv
  have C : CX p s m ([.int v0] : List Value).toArray meth c cX6_isLetter 1 wsX6_isLetter RX6 (some .boolean) G := ⟨B.exec, B.bytes, hml, findClass_of_methodNamed B.named, atoms_spec (ws := wsX6_isLetter) B.pre, B.returns, B.notSynchronized, hK, hG⟩
  obtain ⟨hx, hb, -, hown, hts, hr, hlocks, -, -⟩ := id C
  have hS : va_S (AW G) s.heap s.heap [] := va_S.rf
  have hl := lv_entry [.int v0] (n := 1) (Nat.le_of_ble_eq_true rfl)
  rw [lg_entry_eq]
  generalize (lg_sl [.int v0] ++ List.replicate (1 - (lg_sl [.int v0]).length) Slot.unset).toArray = ls at hl ⊢
  have hl : lv_has ls 1 [(0, .int v0)] := hl
  unfold fn_X6_isLetter at h
  refine lv_iload_n hx hb dX6_isLetter_0 rfl (lv_at hl 0 rfl) ?_
  refine lv_bipush (v := 97) hx hb dX6_isLetter_1 (by decide) ?_
  refine lv_icmp_lt (tgt := 16) hx hb dX6_isLetter_3 (by decide) (fun c1 => ?_) (fun c1 => ?_)
  · rw [if_pos c1] at h
    refine lv_iconst (v := 0) hx hb dX6_isLetter_16 (by decide) ?_
    exact x_zret hx hb hr hlocks hK hP hS rfl h dX6_isLetter_17
  · rw [if_neg c1] at h
    refine lv_iload_n hx hb dX6_isLetter_6 rfl (lv_at hl 0 rfl) ?_
    refine lv_bipush (v := 122) hx hb dX6_isLetter_7 (by decide) ?_
    refine lv_icmp_gt (tgt := 16) hx hb dX6_isLetter_9 (by decide) (fun c2 => ?_) (fun c2 => ?_)
    · rw [if_pos c2] at h
      refine lv_iconst (v := 0) hx hb dX6_isLetter_16 (by decide) ?_
      exact x_zret hx hb hr hlocks hK hP hS rfl h dX6_isLetter_17
    · rw [if_neg c2] at h
      refine lv_iconst (v := 1) hx hb dX6_isLetter_12 (by decide) ?_
      refine lv_goto (tgt := 17) hx hb dX6_isLetter_13 (by decide) ?_
      exact x_zret hx hb hr hlocks hK hP hS rfl h dX6_isLetter_17
def fn_X6_isDigit (v0 : Int32) (z : St) : Option (Int32 × St) := (if v0 < 48 then some (0, z) else (if 57 < v0 then some (0, z) else some (1, z)))
set_option maxHeartbeats 4000000 in
set_option maxRecDepth 100000 in
theorem m_X6_isDigit {l : Launch} {G : wG} (hG : Ok G) {v0 : Int32} {z : St} {Rz : Int32 × St}  (h : fn_X6_isDigit  v0 z = some Rz) : Met l yX6_isDigit wsX6_isDigit (rmd 1) (va_Pc [.int v0] (Pre G z)) (va_Qi (fun r u => (r, u) = Rz) (Pre G) (AW G)) 0 0 (AW G) := by
  refine Met.ofW (cc := cX6_isDigit) (maxL := 1) (ret := (some .boolean)) (by decide) rfl ?_
  intro p e s m args below meth c s₁ B hml hv
  obtain ⟨rfl, hP, hK⟩ := hv
  have C : CX p s m ([.int v0] : List Value).toArray meth c cX6_isDigit 1 wsX6_isDigit RX6 (some .boolean) G := ⟨B.exec, B.bytes, hml, findClass_of_methodNamed B.named, atoms_spec (ws := wsX6_isDigit) B.pre, B.returns, B.notSynchronized, hK, hG⟩
  obtain ⟨hx, hb, -, hown, hts, hr, hlocks, -, -⟩ := id C
  have hS : va_S (AW G) s.heap s.heap [] := va_S.rf
  have hl := lv_entry [.int v0] (n := 1) (Nat.le_of_ble_eq_true rfl)
  rw [lg_entry_eq]
  generalize (lg_sl [.int v0] ++ List.replicate (1 - (lg_sl [.int v0]).length) Slot.unset).toArray = ls at hl ⊢
  have hl : lv_has ls 1 [(0, .int v0)] := hl
  unfold fn_X6_isDigit at h
  refine lv_iload_n hx hb dX6_isDigit_0 rfl (lv_at hl 0 rfl) ?_
  refine lv_bipush (v := 48) hx hb dX6_isDigit_1 (by decide) ?_
  refine lv_icmp_lt (tgt := 16) hx hb dX6_isDigit_3 (by decide) (fun c1 => ?_) (fun c1 => ?_)
  · rw [if_pos c1] at h
    refine lv_iconst (v := 0) hx hb dX6_isDigit_16 (by decide) ?_
    exact x_zret hx hb hr hlocks hK hP hS rfl h dX6_isDigit_17
  · rw [if_neg c1] at h
    refine lv_iload_n hx hb dX6_isDigit_6 rfl (lv_at hl 0 rfl) ?_
    refine lv_bipush (v := 57) hx hb dX6_isDigit_7 (by decide) ?_
    refine lv_icmp_gt (tgt := 16) hx hb dX6_isDigit_9 (by decide) (fun c2 => ?_) (fun c2 => ?_)
    · rw [if_pos c2] at h
      refine lv_iconst (v := 0) hx hb dX6_isDigit_16 (by decide) ?_
      exact x_zret hx hb hr hlocks hK hP hS rfl h dX6_isDigit_17
    · rw [if_neg c2] at h
      refine lv_iconst (v := 1) hx hb dX6_isDigit_12 (by decide) ?_
      refine lv_goto (tgt := 17) hx hb dX6_isDigit_13 (by decide) ?_
      exact x_zret hx hb hr hlocks hK hP hS rfl h dX6_isDigit_17
def fn_X6_isBlank (v0 : Int32) (z : St) : Option (Int32 × St) := (if v0 = 32 then some (1, z) else (if v0 = 10 then some (1, z) else some (0, z)))
set_option maxHeartbeats 4000000 in
set_option maxRecDepth 100000 in
theorem m_X6_isBlank {l : Launch} {G : wG} (hG : Ok G) {v0 : Int32} {z : St} {Rz : Int32 × St}  (h : fn_X6_isBlank  v0 z = some Rz) : Met l yX6_isBlank wsX6_isBlank (rmd 1) (va_Pc [.int v0] (Pre G z)) (va_Qi (fun r u => (r, u) = Rz) (Pre G) (AW G)) 0 0 (AW G) := by
  refine Met.ofW (cc := cX6_isBlank) (maxL := 1) (ret := (some .boolean)) (by decide) rfl ?_
  intro p e s m args below meth c s₁ B hml hv
  obtain ⟨rfl, hP, hK⟩ := hv
  have C : CX p s m ([.int v0] : List Value).toArray meth c cX6_isBlank 1 wsX6_isBlank RX6 (some .boolean) G := ⟨B.exec, B.bytes, hml, findClass_of_methodNamed B.named, atoms_spec (ws := wsX6_isBlank) B.pre, B.returns, B.notSynchronized, hK, hG⟩
  obtain ⟨hx, hb, -, hown, hts, hr, hlocks, -, -⟩ := id C
  have hS : va_S (AW G) s.heap s.heap [] := va_S.rf
  have hl := lv_entry [.int v0] (n := 1) (Nat.le_of_ble_eq_true rfl)
  rw [lg_entry_eq]
  generalize (lg_sl [.int v0] ++ List.replicate (1 - (lg_sl [.int v0]).length) Slot.unset).toArray = ls at hl ⊢
  have hl : lv_has ls 1 [(0, .int v0)] := hl
  unfold fn_X6_isBlank at h
  refine lv_iload_n hx hb dX6_isBlank_0 rfl (lv_at hl 0 rfl) ?_
  refine lv_bipush (v := 32) hx hb dX6_isBlank_1 (by decide) ?_
  refine lv_icmp_eq (tgt := 12) hx hb dX6_isBlank_3 (by decide) (fun c1 => ?_) (fun c1 => ?_)
  · rw [if_pos c1] at h
    refine lv_iconst (v := 1) hx hb dX6_isBlank_12 (by decide) ?_
    refine lv_goto (tgt := 17) hx hb dX6_isBlank_13 (by decide) ?_
    exact x_zret hx hb hr hlocks hK hP hS rfl h dX6_isBlank_17
  · rw [if_neg c1] at h
    refine lv_iload_n hx hb dX6_isBlank_6 rfl (lv_at hl 0 rfl) ?_
    refine lv_bipush (v := 10) hx hb dX6_isBlank_7 (by decide) ?_
    refine lv_icmp_ne (tgt := 16) hx hb dX6_isBlank_9 (by decide) (fun c2 => ?_) (fun c2 => ?_)
    · rw [if_neg c2] at h
      refine lv_iconst (v := 0) hx hb dX6_isBlank_16 (by decide) ?_
      exact x_zret hx hb hr hlocks hK hP hS rfl h dX6_isBlank_17
    · rw [if_pos c2] at h
      refine lv_iconst (v := 1) hx hb dX6_isBlank_12 (by decide) ?_
      refine lv_goto (tgt := 17) hx hb dX6_isBlank_13 (by decide) ?_
      exact x_zret hx hb hr hlocks hK hP hS rfl h dX6_isBlank_17
def fn_X6_isMark_42 (v0 : Int32) (z : St) : Option (Int32 × St) := (if v0 = 37 then some (1, z) else some (0, z))
set_option maxHeartbeats 4000000 in
set_option maxRecDepth 100000 in
theorem pf_X6_isMark_42 {p : Program} {l : Launch} {e : Env} {s : State} {m : MethodId} {args : Array Value} {below : List Frame} {meth : Method} {c : Code} {G : wG} (C : CX p s m args meth c cX6_isMark 1 wsX6_isMark RX6 (some .boolean) G) {Rz : Int32 × St} (v0 : Int32) (z : St)  {H : Heap} {locs : List Loc} {ls : Array Slot} (hP : WP G z H) (hS : va_S (AW G) s.heap H locs) (hl : lv_has ls 1 [(0, .int v0)]) (h : fn_X6_isMark_42   v0 z = some Rz) : W p l e (rmd 1) s m args below meth c H locs 0 0 (QI below args s G Rz) (F0 m 42 ls []) := by
  obtain ⟨hx, hb, hml, hown, hts, hr, hlocks, hK, hG⟩ := id C
  unfold fn_X6_isMark_42 at h
  refine lv_iload_n hx hb dX6_isMark_42 rfl (lv_at hl 0 rfl) ?_
  refine lv_bipush (v := 37) hx hb dX6_isMark_43 (by decide) ?_
  refine lv_icmp_ne (tgt := 52) hx hb dX6_isMark_45 (by decide) (fun c1 => ?_) (fun c1 => ?_)
  · rw [if_neg c1] at h
    refine lv_iconst (v := 0) hx hb dX6_isMark_52 (by decide) ?_
    exact x_zret hx hb hr hlocks hK hP hS rfl h dX6_isMark_53
  · rw [if_pos c1] at h
    refine lv_iconst (v := 1) hx hb dX6_isMark_48 (by decide) ?_
    refine lv_goto (tgt := 53) hx hb dX6_isMark_49 (by decide) ?_
    exact x_zret hx hb hr hlocks hK hP hS rfl h dX6_isMark_53
def fn_X6_isMark_18 (v0 : Int32) (z : St) : Option (Int32 × St) := (if v0 = 45 then some (1, z) else (if v0 = 47 then some (1, z) else (if v0 < 60 then fn_X6_isMark_42   v0 z else (if v0 ≤ 62 then some (1, z) else fn_X6_isMark_42   v0 z))))
set_option maxHeartbeats 4000000 in
set_option maxRecDepth 100000 in
theorem pf_X6_isMark_18 {p : Program} {l : Launch} {e : Env} {s : State} {m : MethodId} {args : Array Value} {below : List Frame} {meth : Method} {c : Code} {G : wG} (C : CX p s m args meth c cX6_isMark 1 wsX6_isMark RX6 (some .boolean) G) {Rz : Int32 × St} (v0 : Int32) (z : St)  {H : Heap} {locs : List Loc} {ls : Array Slot} (hP : WP G z H) (hS : va_S (AW G) s.heap H locs) (hl : lv_has ls 1 [(0, .int v0)]) (h : fn_X6_isMark_18   v0 z = some Rz) : W p l e (rmd 1) s m args below meth c H locs 0 0 (QI below args s G Rz) (F0 m 18 ls []) := by
  obtain ⟨hx, hb, hml, hown, hts, hr, hlocks, hK, hG⟩ := id C
  unfold fn_X6_isMark_18 at h
  refine lv_iload_n hx hb dX6_isMark_18 rfl (lv_at hl 0 rfl) ?_
  refine lv_bipush (v := 45) hx hb dX6_isMark_19 (by decide) ?_
  refine lv_icmp_eq (tgt := 48) hx hb dX6_isMark_21 (by decide) (fun c1 => ?_) (fun c1 => ?_)
  · rw [if_pos c1] at h
    refine lv_iconst (v := 1) hx hb dX6_isMark_48 (by decide) ?_
    refine lv_goto (tgt := 53) hx hb dX6_isMark_49 (by decide) ?_
    exact x_zret hx hb hr hlocks hK hP hS rfl h dX6_isMark_53
  · rw [if_neg c1] at h
    refine lv_iload_n hx hb dX6_isMark_24 rfl (lv_at hl 0 rfl) ?_
    refine lv_bipush (v := 47) hx hb dX6_isMark_25 (by decide) ?_
    refine lv_icmp_eq (tgt := 48) hx hb dX6_isMark_27 (by decide) (fun c2 => ?_) (fun c2 => ?_)
    · rw [if_pos c2] at h
      refine lv_iconst (v := 1) hx hb dX6_isMark_48 (by decide) ?_
      refine lv_goto (tgt := 53) hx hb dX6_isMark_49 (by decide) ?_
      exact x_zret hx hb hr hlocks hK hP hS rfl h dX6_isMark_53
    · rw [if_neg c2] at h
      refine lv_iload_n hx hb dX6_isMark_30 rfl (lv_at hl 0 rfl) ?_
      refine lv_bipush (v := 60) hx hb dX6_isMark_31 (by decide) ?_
      refine lv_icmp_lt (tgt := 42) hx hb dX6_isMark_33 (by decide) (fun c3 => ?_) (fun c3 => ?_)
      · rw [if_pos c3] at h
        exact pf_X6_isMark_42 C   v0 z  hP hS (lv_sub hl [0] rfl) h
      · rw [if_neg c3] at h
        refine lv_iload_n hx hb dX6_isMark_36 rfl (lv_at hl 0 rfl) ?_
        refine lv_bipush (v := 62) hx hb dX6_isMark_37 (by decide) ?_
        refine lv_icmp_le (tgt := 48) hx hb dX6_isMark_39 (by decide) (fun c4 => ?_) (fun c4 => ?_)
        · rw [if_pos c4] at h
          refine lv_iconst (v := 1) hx hb dX6_isMark_48 (by decide) ?_
          refine lv_goto (tgt := 53) hx hb dX6_isMark_49 (by decide) ?_
          exact x_zret hx hb hr hlocks hK hP hS rfl h dX6_isMark_53
        · rw [if_neg c4] at h
          exact pf_X6_isMark_42 C   v0 z  hP hS (lv_sub hl [0] rfl) h
def fn_X6_isMark (v0 : Int32) (z : St) : Option (Int32 × St) := (if v0 = 59 then some (1, z) else (if v0 < 40 then fn_X6_isMark_18   v0 z else (if v0 ≤ 43 then some (1, z) else fn_X6_isMark_18   v0 z)))
set_option maxHeartbeats 4000000 in
set_option maxRecDepth 100000 in
theorem m_X6_isMark {l : Launch} {G : wG} (hG : Ok G) {v0 : Int32} {z : St} {Rz : Int32 × St}  (h : fn_X6_isMark  v0 z = some Rz) : Met l yX6_isMark wsX6_isMark (rmd 1) (va_Pc [.int v0] (Pre G z)) (va_Qi (fun r u => (r, u) = Rz) (Pre G) (AW G)) 0 0 (AW G) := by
  refine Met.ofW (cc := cX6_isMark) (maxL := 1) (ret := (some .boolean)) (by decide) rfl ?_
  intro p e s m args below meth c s₁ B hml hv
  obtain ⟨rfl, hP, hK⟩ := hv
  have C : CX p s m ([.int v0] : List Value).toArray meth c cX6_isMark 1 wsX6_isMark RX6 (some .boolean) G := ⟨B.exec, B.bytes, hml, findClass_of_methodNamed B.named, atoms_spec (ws := wsX6_isMark) B.pre, B.returns, B.notSynchronized, hK, hG⟩
  obtain ⟨hx, hb, -, hown, hts, hr, hlocks, -, -⟩ := id C
  have hS : va_S (AW G) s.heap s.heap [] := va_S.rf
  have hl := lv_entry [.int v0] (n := 1) (Nat.le_of_ble_eq_true rfl)
  rw [lg_entry_eq]
  generalize (lg_sl [.int v0] ++ List.replicate (1 - (lg_sl [.int v0]).length) Slot.unset).toArray = ls at hl ⊢
  have hl : lv_has ls 1 [(0, .int v0)] := hl
  unfold fn_X6_isMark at h
  refine lv_iload_n hx hb dX6_isMark_0 rfl (lv_at hl 0 rfl) ?_
  refine lv_bipush (v := 59) hx hb dX6_isMark_1 (by decide) ?_
  refine lv_icmp_eq (tgt := 48) hx hb dX6_isMark_3 (by decide) (fun c1 => ?_) (fun c1 => ?_)
  · rw [if_pos c1] at h
    refine lv_iconst (v := 1) hx hb dX6_isMark_48 (by decide) ?_
    refine lv_goto (tgt := 53) hx hb dX6_isMark_49 (by decide) ?_
    exact x_zret hx hb hr hlocks hK hP hS rfl h dX6_isMark_53
  · rw [if_neg c1] at h
    refine lv_iload_n hx hb dX6_isMark_6 rfl (lv_at hl 0 rfl) ?_
    refine lv_bipush (v := 40) hx hb dX6_isMark_7 (by decide) ?_
    refine lv_icmp_lt (tgt := 18) hx hb dX6_isMark_9 (by decide) (fun c2 => ?_) (fun c2 => ?_)
    · rw [if_pos c2] at h
      exact pf_X6_isMark_18 C   v0 z  hP hS (lv_sub hl [0] rfl) h
    · rw [if_neg c2] at h
      refine lv_iload_n hx hb dX6_isMark_12 rfl (lv_at hl 0 rfl) ?_
      refine lv_bipush (v := 43) hx hb dX6_isMark_13 (by decide) ?_
      refine lv_icmp_le (tgt := 48) hx hb dX6_isMark_15 (by decide) (fun c3 => ?_) (fun c3 => ?_)
      · rw [if_pos c3] at h
        refine lv_iconst (v := 1) hx hb dX6_isMark_48 (by decide) ?_
        refine lv_goto (tgt := 53) hx hb dX6_isMark_49 (by decide) ?_
        exact x_zret hx hb hr hlocks hK hP hS rfl h dX6_isMark_53
      · rw [if_neg c3] at h
        exact pf_X6_isMark_18 C   v0 z  hP hS (lv_sub hl [0] rfl) h
theorem in_X6_signAt_X6 : ∀ w ∈ wsX60, w ∈ wsX6_signAt := fun _ h => (List.mem_cons_of_mem _ (List.mem_append_right _ h))
def fn_X6_signAt (v1 : Int32) (z : St) : Option (Int32 × St) := (if v1 < 0 then some (0, z) else (if (z.1 32 3) ≤ v1 then some (0, z) else (if 1600 ≤ v1 then some (0, z) else gd (ix v1 1600) (some (((z.1 1 (Int32.toNatClampNeg v1)) &&& 255), z)))))
set_option maxHeartbeats 4000000 in
set_option maxRecDepth 100000 in
theorem m_X6_signAt {l : Launch} {G : wG} (hG : Ok G) {v1 : Int32} {z : St} {Rz : Int32 × St}  (h : fn_X6_signAt  v1 z = some Rz) : Met l yX6_signAt wsX6_signAt (rmd 1) (va_Pc [.ref (G.2.2 32), .int v1] (Pre G z)) (va_Qi (fun r u => (r, u) = Rz) (Pre G) (AW G)) 0 0 (AW G) := by
  refine Met.ofW (cc := cX6_signAt) (maxL := 2) (ret := (some .int)) (by decide) rfl ?_
  intro p e s m args below meth c s₁ B hml hv
  obtain ⟨rfl, hP, hK⟩ := hv
  have C : CX p s m ([.ref (G.2.2 32), .int v1] : List Value).toArray meth c cX6_signAt 2 wsX6_signAt RX6 (some .int) G := ⟨B.exec, B.bytes, hml, findClass_of_methodNamed B.named, atoms_spec (ws := wsX6_signAt) B.pre, B.returns, B.notSynchronized, hK, hG⟩
  obtain ⟨hx, hb, -, hown, hts, hr, hlocks, -, -⟩ := id C
  have hS : va_S (AW G) s.heap s.heap [] := va_S.rf
  have hl := lv_entry [.ref (G.2.2 32), .int v1] (n := 2) (Nat.le_of_ble_eq_true rfl)
  rw [lg_entry_eq]
  generalize (lg_sl [.ref (G.2.2 32), .int v1] ++ List.replicate (2 - (lg_sl [.ref (G.2.2 32), .int v1]).length) Slot.unset).toArray = ls at hl ⊢
  have hl : lv_has ls 2 [(0, .ref (G.2.2 32)), (1, .int v1)] := hl
  unfold fn_X6_signAt at h
  refine lv_iload_n hx hb dX6_signAt_0 rfl (lv_at hl 1 rfl) ?_
  refine lv_if_lt (tgt := 34) hx hb dX6_signAt_1 (by decide) (fun c1 => ?_) (fun c1 => ?_)
  · rw [if_pos c1] at h
    refine lv_iconst (v := 0) hx hb dX6_signAt_34 (by decide) ?_
    exact x_iret hx hb hr hlocks hK hP hS h dX6_signAt_35
  · rw [if_neg c1] at h
    refine lv_iload_n hx hb dX6_signAt_4 rfl (lv_at hl 1 rfl) ?_
    refine lv_aload_n hx hb dX6_signAt_5 rfl (lv_at hl 0 rfl) ?_
    refine ge_6_3 hx hb hts in_X6_signAt_X6 hown hK hP k_32 (hts _ (List.mem_of_getElem? (i := 1) rfl)) dX6_signAt_6 ?_
    refine lv_icmp_ge (tgt := 34) hx hb dX6_signAt_9 (by decide) (fun c2 => ?_) (fun c2 => ?_)
    · rw [if_pos c2] at h
      refine lv_iconst (v := 0) hx hb dX6_signAt_34 (by decide) ?_
      exact x_iret hx hb hr hlocks hK hP hS h dX6_signAt_35
    · rw [if_neg c2] at h
      refine lv_iload_n hx hb dX6_signAt_12 rfl (lv_at hl 1 rfl) ?_
      refine lv_aload_n hx hb dX6_signAt_13 rfl (lv_at hl 0 rfl) ?_
      refine ge_6_0 hx hb hts in_X6_signAt_X6 hown hK hP k_32 (hts _ (List.mem_of_getElem? (i := 2) rfl)) dX6_signAt_14 ?_
      refine xn_13 (v := 1600) hx hb hK hP k_1 l_1 rfl dX6_signAt_17 ?_
      refine lv_icmp_ge (tgt := 34) hx hb dX6_signAt_18 (by decide) (fun c3 => ?_) (fun c3 => ?_)
      · rw [if_pos c3] at h
        refine lv_iconst (v := 0) hx hb dX6_signAt_34 (by decide) ?_
        exact x_iret hx hb hr hlocks hK hP hS h dX6_signAt_35
      · rw [if_neg c3] at h
        refine lv_aload_n hx hb dX6_signAt_21 rfl (lv_at hl 0 rfl) ?_
        refine ge_6_0 hx hb hts in_X6_signAt_X6 hown hK hP k_32 (hts _ (List.mem_of_getElem? (i := 2) rfl)) dX6_signAt_22 ?_
        refine lv_iload_n hx hb dX6_signAt_25 rfl (lv_at hl 1 rfl) ?_
        obtain ⟨g4, h⟩ := gd_s h
        refine xl_13 hx hb hK hP k_1 l_1 (ix_in g4) dX6_signAt_26 ?_
        refine lv_sipush (v := 255) hx hb dX6_signAt_27 (by decide) ?_
        refine lv_iand hx hb dX6_signAt_30 ?_
        refine lv_goto (tgt := 35) hx hb dX6_signAt_31 (by decide) ?_
        exact x_iret hx hb hr hlocks hK hP hS h dX6_signAt_35
theorem in_X6_keepFault_X6 : ∀ w ∈ wsX60, w ∈ wsX6_keepFault := fun _ h => (List.mem_cons_of_mem _ (List.mem_append_right _ h))
def fn_X6_keepFault (v1 : Int32) (z : St) : Option (St) := (if (z.1 32 11) = 0 then nm (sI z 32 11 v1) (fun z2 => nm (sI z2 32 12 (z2.1 32 6)) (fun z3 => some z3)) else some z)
set_option maxHeartbeats 4000000 in
set_option maxRecDepth 100000 in
theorem m_X6_keepFault {l : Launch} {G : wG} (hG : Ok G) {v1 : Int32} {z : St} {Rz : St}  (h : fn_X6_keepFault  v1 z = some Rz) : Met l yX6_keepFault wsX6_keepFault (rmd 1) (va_Pc [.ref (G.2.2 32), .int v1] (Pre G z)) (va_Qv (fun u => u = Rz) (Pre G) (AW G)) 0 0 (AW G) := by
  refine Met.ofW (cc := cX6_keepFault) (maxL := 2) (ret := none) (by decide) rfl ?_
  intro p e s m args below meth c s₁ B hml hv
  obtain ⟨rfl, hP, hK⟩ := hv
  have C : CX p s m ([.ref (G.2.2 32), .int v1] : List Value).toArray meth c cX6_keepFault 2 wsX6_keepFault RX6 none G := ⟨B.exec, B.bytes, hml, findClass_of_methodNamed B.named, atoms_spec (ws := wsX6_keepFault) B.pre, B.returns, B.notSynchronized, hK, hG⟩
  obtain ⟨hx, hb, -, hown, hts, hr, hlocks, -, -⟩ := id C
  have hS : va_S (AW G) s.heap s.heap [] := va_S.rf
  have hl := lv_entry [.ref (G.2.2 32), .int v1] (n := 2) (Nat.le_of_ble_eq_true rfl)
  rw [lg_entry_eq]
  generalize (lg_sl [.ref (G.2.2 32), .int v1] ++ List.replicate (2 - (lg_sl [.ref (G.2.2 32), .int v1]).length) Slot.unset).toArray = ls at hl ⊢
  have hl : lv_has ls 2 [(0, .ref (G.2.2 32)), (1, .int v1)] := hl
  unfold fn_X6_keepFault at h
  refine lv_aload_n hx hb dX6_keepFault_0 rfl (lv_at hl 0 rfl) ?_
  refine ge_6_11 hx hb hts in_X6_keepFault_X6 hown hK hP k_32 (hts _ (List.mem_of_getElem? (i := 1) rfl)) dX6_keepFault_1 ?_
  refine lv_if_ne (tgt := 20) hx hb dX6_keepFault_4 (by decide) (fun c1 => ?_) (fun c1 => ?_)
  · rw [if_neg c1] at h
    exact x_vret hx hb hr hlocks hK hP hS h dX6_keepFault_20
  · rw [if_pos c1] at h
    refine lv_aload_n hx hb dX6_keepFault_7 rfl (lv_at hl 0 rfl) ?_
    refine lv_iload_n hx hb dX6_keepFault_8 rfl (lv_at hl 1 rfl) ?_
    obtain ⟨z2, e_z2, h⟩ := nm_s h
    refine pu_6_11 hx hb hts in_X6_keepFault_X6 hown hK hG hP hS k_32 (hts _ (List.mem_of_getElem? (i := 1) rfl)) dX6_keepFault_9 (fun H locs hP hS => ?_)
    rw [← e_z2] at hP
    refine lv_aload_n hx hb dX6_keepFault_12 rfl (lv_at hl 0 rfl) ?_
    refine lv_aload_n hx hb dX6_keepFault_13 rfl (lv_at hl 0 rfl) ?_
    refine ge_6_6 hx hb hts in_X6_keepFault_X6 hown hK hP k_32 (hts _ (List.mem_of_getElem? (i := 2) rfl)) dX6_keepFault_14 ?_
    obtain ⟨z3, e_z3, h⟩ := nm_s h
    refine pu_6_12 hx hb hts in_X6_keepFault_X6 hown hK hG hP hS k_32 (hts _ (List.mem_of_getElem? (i := 3) rfl)) dX6_keepFault_17 (fun H locs hP hS => ?_)
    rw [← e_z3] at hP
    exact x_vret hx hb hr hlocks hK hP hS h dX6_keepFault_20
theorem in_X6_refuse_X6 : ∀ w ∈ wsX60, w ∈ wsX6_refuse := fun _ h => (List.mem_cons_of_mem _ (List.mem_append_right _ h))
def fn_X6_refuse_14 (tv1 : Int32) (z : St) : Option (St) := bv (fn_X6_keepFault  tv1 z) (fun z2 => some z2)
set_option maxHeartbeats 4000000 in
set_option maxRecDepth 100000 in
theorem pf_X6_refuse_14 {p : Program} {l : Launch} {e : Env} {s : State} {m : MethodId} {args : Array Value} {below : List Frame} {meth : Method} {c : Code} {G : wG} (C : CX p s m args meth c cX6_refuse 1 wsX6_refuse RX6 none G) {Rz : St} (tv1 : Int32) (z : St)  {H : Heap} {locs : List Loc} {ls : Array Slot} (hP : WP G z H) (hS : va_S (AW G) s.heap H locs) (hl : lv_has ls 1 []) (h : fn_X6_refuse_14   tv1 z = some Rz) : W p l e (rmd 2) s m args below meth c H locs 0 0 (QV below args s G Rz) (F0 m 14 ls [.int tv1, .ref (G.2.2 32)]) := by
  obtain ⟨hx, hb, hml, hown, hts, hr, hlocks, hK, hG⟩ := id C
  unfold fn_X6_refuse_14 at h
  obtain ⟨z2, h1, h⟩ := bv_s h
  refine x_Vv (Rz := z2) (As := [.int tv1]) (rest := []) ⟨hx, hb, hml, hown, hts⟩ hK hP hS (kd_lt k_32 (by decide)) (cell_6 k_32) rfl (m_X6_keepFault hG   h1) (cwV 1 hts gX6_refuse_X6_keepFault rfl rfl rfl (by decide +kernel) (rmd_ok (by decide) (by decide))) rfl hl.1 rfl (Nat.le_of_ble_eq_true rfl) dX6_refuse_14 ⟨Nat.le_refl _, Nat.le_refl _⟩ (fun H locs hP hS => ?_)
  exact x_vret hx hb hr hlocks hK hP hS h dX6_refuse_17
def fn_X6_refuse  (z : St) : Option (St) := (if (z.1 32 5) = 4 then fn_X6_refuse_14   1 z else fn_X6_refuse_14   2 z)
set_option maxHeartbeats 4000000 in
set_option maxRecDepth 100000 in
theorem m_X6_refuse {l : Launch} {G : wG} (hG : Ok G)  {z : St} {Rz : St}  (h : fn_X6_refuse   z = some Rz) : Met l yX6_refuse wsX6_refuse (rmd 2) (va_Pc [.ref (G.2.2 32)] (Pre G z)) (va_Qv (fun u => u = Rz) (Pre G) (AW G)) 0 0 (AW G) := by
  refine Met.ofW (cc := cX6_refuse) (maxL := 1) (ret := none) (by decide) rfl ?_
  intro p e s m args below meth c s₁ B hml hv
  obtain ⟨rfl, hP, hK⟩ := hv
  have C : CX p s m ([.ref (G.2.2 32)] : List Value).toArray meth c cX6_refuse 1 wsX6_refuse RX6 none G := ⟨B.exec, B.bytes, hml, findClass_of_methodNamed B.named, atoms_spec (ws := wsX6_refuse) B.pre, B.returns, B.notSynchronized, hK, hG⟩
  obtain ⟨hx, hb, -, hown, hts, hr, hlocks, -, -⟩ := id C
  have hS : va_S (AW G) s.heap s.heap [] := va_S.rf
  have hl := lv_entry [.ref (G.2.2 32)] (n := 1) (Nat.le_of_ble_eq_true rfl)
  rw [lg_entry_eq]
  generalize (lg_sl [.ref (G.2.2 32)] ++ List.replicate (1 - (lg_sl [.ref (G.2.2 32)]).length) Slot.unset).toArray = ls at hl ⊢
  have hl : lv_has ls 1 [(0, .ref (G.2.2 32))] := hl
  unfold fn_X6_refuse at h
  refine lv_aload_n hx hb dX6_refuse_0 rfl (lv_at hl 0 rfl) ?_
  refine lv_aload_n hx hb dX6_refuse_1 rfl (lv_at hl 0 rfl) ?_
  refine ge_6_5 hx hb hts in_X6_refuse_X6 hown hK hP k_32 (hts _ (List.mem_of_getElem? (i := 1) rfl)) dX6_refuse_2 ?_
  refine lv_iconst (v := 4) hx hb dX6_refuse_5 (by decide) ?_
  refine lv_icmp_ne (tgt := 13) hx hb dX6_refuse_6 (by decide) (fun c1 => ?_) (fun c1 => ?_)
  · rw [if_neg c1] at h
    refine lv_iconst (v := 2) hx hb dX6_refuse_13 (by decide) ?_
    exact pf_X6_refuse_14 C   2 z  hP hS (lv_sub hl [] rfl) h
  · rw [if_pos c1] at h
    refine lv_iconst (v := 1) hx hb dX6_refuse_9 (by decide) ?_
    refine lv_goto (tgt := 14) hx hb dX6_refuse_10 (by decide) ?_
    exact pf_X6_refuse_14 C   1 z  hP hS (lv_sub hl [] rfl) h
theorem in_X6_scanWord_X6 : ∀ w ∈ wsX60, w ∈ wsX6_scanWord := fun _ h => (List.mem_cons_of_mem _ (List.mem_append_right _ h))
def fn_X6_scanWord_118 (k93 : Int32 → St → Option (St)) (v1 : Int32) (z : St) : Option (St) := k93 (v1 + 1) z
set_option maxHeartbeats 4000000 in
set_option maxRecDepth 100000 in
theorem pf_X6_scanWord_118 {p : Program} {l : Launch} {e : Env} {s : State} {m : MethodId} {args : Array Value} {below : List Frame} {meth : Method} {c : Code} {G : wG} (C : CX p s m args meth c cX6_scanWord 2 wsX6_scanWord RX6 none G) {Rz : St} {k93 : Int32 → St → Option (St)} (hk_93 : ∀ (v1 : Int32) (z : St)  (H : Heap) (locs : List Loc) (ls : Array Slot), WP G z H → va_S (AW G) s.heap H locs → lv_has ls 2 [(0, .ref (G.2.2 32)), (1, .int v1)] → k93 v1 z = some Rz → W p l e (rmd 2) s m args below meth c H locs 0 0 (QV below args s G Rz) (F0 m 93 ls [])) (v1 : Int32) (z : St)  {H : Heap} {locs : List Loc} {ls : Array Slot} (hP : WP G z H) (hS : va_S (AW G) s.heap H locs) (hl : lv_has ls 2 [(0, .ref (G.2.2 32)), (1, .int v1)]) (h : fn_X6_scanWord_118  k93 v1 z = some Rz) : W p l e (rmd 2) s m args below meth c H locs 0 0 (QV below args s G Rz) (F0 m 118 ls []) := by
  obtain ⟨hx, hb, hml, hown, hts, hr, hlocks, hK, hG⟩ := id C
  unfold fn_X6_scanWord_118 at h
  refine lv_iinc (v := (v1 + 1)) (lv' := [(1, .int (v1 + 1)), (0, .ref (G.2.2 32))]) hx hb dX6_scanWord_118 hl (k := 1) rfl rfl (by decide) rfl (fun ls hl => ?_)
  refine lv_goto (tgt := 93) hx hb dX6_scanWord_121 (by decide) ?_
  exact hk_93 (v1 + 1) z  _ _ _ hP hS (lv_sub hl [1, 0] rfl) h
def fn_X6_scanWord_93 : Nat → Int32 → St → Option (St)
  | 0, _, _ => none
  | n + 1, v1, z => (if 19 ≤ v1 then some z else gd (ix v1 19) ((if (lg_cmp (z.2 33 (Int32.toNatClampNeg v1)) (z.2 32 8)) = 0 then nm (sI z 32 9 v1) (fun z4 => fn_X6_scanWord_118  (fn_X6_scanWord_93   n) v1 z4) else fn_X6_scanWord_118  (fn_X6_scanWord_93   n) v1 z)))
set_option maxHeartbeats 4000000 in
set_option maxRecDepth 100000 in
theorem pf_X6_scanWord_93 {p : Program} {l : Launch} {e : Env} {s : State} {m : MethodId} {args : Array Value} {below : List Frame} {meth : Method} {c : Code} {G : wG} (C : CX p s m args meth c cX6_scanWord 2 wsX6_scanWord RX6 none G) {Rz : St} : ∀ (n : Nat) (v1 : Int32) (z : St)  (H : Heap) (locs : List Loc) (ls : Array Slot), WP G z H → va_S (AW G) s.heap H locs → lv_has ls 2 [(0, .ref (G.2.2 32)), (1, .int v1)] → fn_X6_scanWord_93   n v1 z = some Rz → W p l e (rmd 2) s m args below meth c H locs 0 0 (QV below args s G Rz) (F0 m 93 ls []) := by
  obtain ⟨hx, hb, hml, hown, hts, hr, hlocks, hK, hG⟩ := id C
  intro n
  induction n with
  | zero => intro v1 z  H locs ls hP hS hl h; cases h
  | succ n ih =>
    intro v1 z  H locs ls hP hS hl h
    rw [fn_X6_scanWord_93] at h
    refine lv_iload_n hx hb dX6_scanWord_93 rfl (lv_at hl 1 rfl) ?_
    refine lv_bipush (v := 19) hx hb dX6_scanWord_94 (by decide) ?_
    refine lv_icmp_ge (tgt := 124) hx hb dX6_scanWord_96 (by decide) (fun c1 => ?_) (fun c1 => ?_)
    · rw [if_pos c1] at h
      exact x_vret hx hb hr hlocks hK hP hS h dX6_scanWord_124
    · rw [if_neg c1] at h
      refine lv_aload_n hx hb dX6_scanWord_99 rfl (lv_at hl 0 rfl) ?_
      refine ge_6_2 hx hb hts in_X6_scanWord_X6 hown hK hP k_32 (hts _ (List.mem_of_getElem? (i := 6) rfl)) dX6_scanWord_100 ?_
      refine lv_iload_n hx hb dX6_scanWord_103 rfl (lv_at hl 1 rfl) ?_
      obtain ⟨g2, h⟩ := gd_s h
      refine xl_15 hx hb hK hP k_33 l_33 (ix_in g2) dX6_scanWord_104 ?_
      refine lv_aload_n hx hb dX6_scanWord_105 rfl (lv_at hl 0 rfl) ?_
      refine ge_6_8 hx hb hts in_X6_scanWord_X6 hown hK hP k_32 (hts _ (List.mem_of_getElem? (i := 1) rfl)) dX6_scanWord_106 ?_
      refine W.lcmp hx hb dX6_scanWord_109 ?_
      refine lv_if_ne (tgt := 118) hx hb dX6_scanWord_110 (by decide) (fun c3 => ?_) (fun c3 => ?_)
      · rw [if_neg c3] at h
        exact pf_X6_scanWord_118 C  ih v1 z  hP hS (lv_sub hl [0, 1] rfl) h
      · rw [if_pos c3] at h
        refine lv_aload_n hx hb dX6_scanWord_113 rfl (lv_at hl 0 rfl) ?_
        refine lv_iload_n hx hb dX6_scanWord_114 rfl (lv_at hl 1 rfl) ?_
        obtain ⟨z4, e_z4, h⟩ := nm_s h
        refine pu_6_9 hx hb hts in_X6_scanWord_X6 hown hK hG hP hS k_32 (hts _ (List.mem_of_getElem? (i := 5) rfl)) dX6_scanWord_115 (fun H locs hP hS => ?_)
        rw [← e_z4] at hP
        exact pf_X6_scanWord_118 C  ih v1 z4  hP hS (lv_sub hl [0, 1] rfl) h
def fn_X6_scanWord_83 (tv1 : Int32) (z : St) : Option (St) := nm (sI z 32 5 tv1) (fun z1 => nm (sI z1 32 9 (-1)) (fun z2 => fn_X6_scanWord_93   fu 0 z2))
set_option maxHeartbeats 4000000 in
set_option maxRecDepth 100000 in
theorem pf_X6_scanWord_83 {p : Program} {l : Launch} {e : Env} {s : State} {m : MethodId} {args : Array Value} {below : List Frame} {meth : Method} {c : Code} {G : wG} (C : CX p s m args meth c cX6_scanWord 2 wsX6_scanWord RX6 none G) {Rz : St} (tv1 : Int32) (z : St)  {H : Heap} {locs : List Loc} {ls : Array Slot} (hP : WP G z H) (hS : va_S (AW G) s.heap H locs) (hl : lv_has ls 2 [(0, .ref (G.2.2 32))]) (h : fn_X6_scanWord_83   tv1 z = some Rz) : W p l e (rmd 2) s m args below meth c H locs 0 0 (QV below args s G Rz) (F0 m 83 ls [.int tv1, .ref (G.2.2 32)]) := by
  obtain ⟨hx, hb, hml, hown, hts, hr, hlocks, hK, hG⟩ := id C
  unfold fn_X6_scanWord_83 at h
  obtain ⟨z1, e_z1, h⟩ := nm_s h
  refine pu_6_5 hx hb hts in_X6_scanWord_X6 hown hK hG hP hS k_32 (hts _ (List.mem_of_getElem? (i := 4) rfl)) dX6_scanWord_83 (fun H locs hP hS => ?_)
  rw [← e_z1] at hP
  refine lv_aload_n hx hb dX6_scanWord_86 rfl (lv_at hl 0 rfl) ?_
  refine lv_iconst (v := (-1)) hx hb dX6_scanWord_87 (by decide) ?_
  obtain ⟨z2, e_z2, h⟩ := nm_s h
  refine pu_6_9 hx hb hts in_X6_scanWord_X6 hown hK hG hP hS k_32 (hts _ (List.mem_of_getElem? (i := 5) rfl)) dX6_scanWord_88 (fun H locs hP hS => ?_)
  rw [← e_z2] at hP
  refine lv_iconst (v := 0) hx hb dX6_scanWord_91 (by decide) ?_
  refine lv_istore_n (lv' := [(1, .int 0), (0, .ref (G.2.2 32))]) hx hb dX6_scanWord_92 rfl hl (by decide) rfl (fun ls hl => ?_)
  exact pf_X6_scanWord_93 C   fu 0 z2  _ _ _ hP hS (lv_sub hl [1, 0] rfl) h
def fn_X6_scanWord_63  (z : St) : Option (St) := (if ((z.1 32 4) - (z.1 32 6)) ≤ 8 then fn_X6_scanWord_83   1 z else fn_X6_scanWord_83   4 z)
set_option maxHeartbeats 4000000 in
set_option maxRecDepth 100000 in
theorem pf_X6_scanWord_63 {p : Program} {l : Launch} {e : Env} {s : State} {m : MethodId} {args : Array Value} {below : List Frame} {meth : Method} {c : Code} {G : wG} (C : CX p s m args meth c cX6_scanWord 2 wsX6_scanWord RX6 none G) {Rz : St}  (z : St)  {H : Heap} {locs : List Loc} {ls : Array Slot} (hP : WP G z H) (hS : va_S (AW G) s.heap H locs) (hl : lv_has ls 2 [(0, .ref (G.2.2 32))]) (h : fn_X6_scanWord_63    z = some Rz) : W p l e (rmd 2) s m args below meth c H locs 0 0 (QV below args s G Rz) (F0 m 63 ls []) := by
  obtain ⟨hx, hb, hml, hown, hts, hr, hlocks, hK, hG⟩ := id C
  unfold fn_X6_scanWord_63 at h
  refine lv_aload_n hx hb dX6_scanWord_63 rfl (lv_at hl 0 rfl) ?_
  refine lv_aload_n hx hb dX6_scanWord_64 rfl (lv_at hl 0 rfl) ?_
  refine ge_6_4 hx hb hts in_X6_scanWord_X6 hown hK hP k_32 (hts _ (List.mem_of_getElem? (i := 2) rfl)) dX6_scanWord_65 ?_
  refine lv_aload_n hx hb dX6_scanWord_68 rfl (lv_at hl 0 rfl) ?_
  refine ge_6_6 hx hb hts in_X6_scanWord_X6 hown hK hP k_32 (hts _ (List.mem_of_getElem? (i := 3) rfl)) dX6_scanWord_69 ?_
  refine lv_isub hx hb dX6_scanWord_72 ?_
  refine lv_bipush (v := 8) hx hb dX6_scanWord_73 (by decide) ?_
  refine lv_icmp_le (tgt := 82) hx hb dX6_scanWord_75 (by decide) (fun c1 => ?_) (fun c1 => ?_)
  · rw [if_pos c1] at h
    refine lv_iconst (v := 1) hx hb dX6_scanWord_82 (by decide) ?_
    exact pf_X6_scanWord_83 C   1 z  hP hS (lv_sub hl [0] rfl) h
  · rw [if_neg c1] at h
    refine lv_iconst (v := 4) hx hb dX6_scanWord_78 (by decide) ?_
    refine lv_goto (tgt := 83) hx hb dX6_scanWord_79 (by decide) ?_
    exact pf_X6_scanWord_83 C   4 z  hP hS (lv_sub hl [0] rfl) h
def fn_X6_scanWord_7 : Nat → Int32 → St → Option (St)
  | 0, _, _ => none
  | n + 1, v1, z => (if 1600 ≤ v1 then fn_X6_scanWord_63    z else bd (fn_X6_signAt  (z.1 32 4) z) (fun r3 z4 => bd (fn_X6_isLetter  r3 z4) (fun r6 z7 => (if r6 = 0 then fn_X6_scanWord_63    z7 else bd (fn_X6_signAt  (z7.1 32 4) z7) (fun r10 z11 => bd (fn_X6_withLetter  (z7.2 32 8) r10 z11) (fun r13 z14 => nm (sJ z14 32 8 r13) (fun z15 => nm (sI z15 32 4 ((z15.1 32 4) + 1)) (fun z16 => fn_X6_scanWord_7   n (v1 + 1) z16))))))))
set_option maxHeartbeats 4000000 in
set_option maxRecDepth 100000 in
theorem pf_X6_scanWord_7 {p : Program} {l : Launch} {e : Env} {s : State} {m : MethodId} {args : Array Value} {below : List Frame} {meth : Method} {c : Code} {G : wG} (C : CX p s m args meth c cX6_scanWord 2 wsX6_scanWord RX6 none G) {Rz : St} : ∀ (n : Nat) (v1 : Int32) (z : St)  (H : Heap) (locs : List Loc) (ls : Array Slot), WP G z H → va_S (AW G) s.heap H locs → lv_has ls 2 [(0, .ref (G.2.2 32)), (1, .int v1)] → fn_X6_scanWord_7   n v1 z = some Rz → W p l e (rmd 2) s m args below meth c H locs 0 0 (QV below args s G Rz) (F0 m 7 ls []) := by
  obtain ⟨hx, hb, hml, hown, hts, hr, hlocks, hK, hG⟩ := id C
  intro n
  induction n with
  | zero => intro v1 z  H locs ls hP hS hl h; cases h
  | succ n ih =>
    intro v1 z  H locs ls hP hS hl h
    rw [fn_X6_scanWord_7] at h
    refine lv_iload_n hx hb dX6_scanWord_7 rfl (lv_at hl 1 rfl) ?_
    refine lv_sipush (v := 1600) hx hb dX6_scanWord_8 (by decide) ?_
    refine lv_icmp_ge (tgt := 63) hx hb dX6_scanWord_11 (by decide) (fun c1 => ?_) (fun c1 => ?_)
    · rw [if_pos c1] at h
      exact pf_X6_scanWord_63 C    z  hP hS (lv_sub hl [0] rfl) h
    · rw [if_neg c1] at h
      refine lv_aload_n hx hb dX6_scanWord_14 rfl (lv_at hl 0 rfl) ?_
      refine lv_aload_n hx hb dX6_scanWord_15 rfl (lv_at hl 0 rfl) ?_
      refine ge_6_4 hx hb hts in_X6_scanWord_X6 hown hK hP k_32 (hts _ (List.mem_of_getElem? (i := 2) rfl)) dX6_scanWord_16 ?_
      obtain ⟨r3, z4, h2, h⟩ := bd_s h
      refine x_Vi (Rz := (r3, z4)) (As := [.int (z.1 32 4)]) (rest := []) ⟨hx, hb, hml, hown, hts⟩ hK hP hS (kd_lt k_32 (by decide)) (cell_6 k_32) rfl (m_X6_signAt hG   h2) (cwV 1 hts gX6_scanWord_X6_signAt rfl rfl rfl (by decide +kernel) (rmd_ok (by decide) (by decide))) rfl hl.1 rfl (Nat.le_of_ble_eq_true rfl) dX6_scanWord_19 ⟨Nat.le_refl _, Nat.le_refl _⟩ (fun H locs hP hS => ?_)
      obtain ⟨r6, z7, h5, h⟩ := bd_s h
      refine x_Si (Rz := (r6, z7)) (As := [.int r3]) (rest := []) ⟨hx, hb, hml, hown, hts⟩ hK hP hS (m_X6_isLetter hG   h5) (va_cwS 1 hts gX6_scanWord_X6_isLetter rfl rfl rfl (by decide +kernel) (rmd_ok (by decide) (by decide))) rfl hl.1 rfl (Nat.le_of_ble_eq_true rfl) dX6_scanWord_22 ⟨Nat.le_refl _, Nat.le_refl _⟩ (fun H locs hP hS => ?_)
      refine lv_if_eq (tgt := 63) hx hb dX6_scanWord_25 (by decide) (fun c8 => ?_) (fun c8 => ?_)
      · rw [if_pos c8] at h
        exact pf_X6_scanWord_63 C    z7  hP hS (lv_sub hl [0] rfl) h
      · rw [if_neg c8] at h
        refine lv_aload_n hx hb dX6_scanWord_28 rfl (lv_at hl 0 rfl) ?_
        refine lv_aload_n hx hb dX6_scanWord_29 rfl (lv_at hl 0 rfl) ?_
        refine ge_6_8 hx hb hts in_X6_scanWord_X6 hown hK hP k_32 (hts _ (List.mem_of_getElem? (i := 1) rfl)) dX6_scanWord_30 ?_
        refine lv_aload_n hx hb dX6_scanWord_33 rfl (lv_at hl 0 rfl) ?_
        refine lv_aload_n hx hb dX6_scanWord_34 rfl (lv_at hl 0 rfl) ?_
        refine ge_6_4 hx hb hts in_X6_scanWord_X6 hown hK hP k_32 (hts _ (List.mem_of_getElem? (i := 2) rfl)) dX6_scanWord_35 ?_
        obtain ⟨r10, z11, h9, h⟩ := bd_s h
        refine x_Vi (Rz := (r10, z11)) (As := [.int (z7.1 32 4)]) (rest := [.long (z7.2 32 8), .ref (G.2.2 32)]) ⟨hx, hb, hml, hown, hts⟩ hK hP hS (kd_lt k_32 (by decide)) (cell_6 k_32) rfl (m_X6_signAt hG   h9) (cwV 1 hts gX6_scanWord_X6_signAt rfl rfl rfl (by decide +kernel) (rmd_ok (by decide) (by decide))) rfl hl.1 rfl (Nat.le_of_ble_eq_true rfl) dX6_scanWord_38 ⟨Nat.le_refl _, Nat.le_refl _⟩ (fun H locs hP hS => ?_)
        obtain ⟨r13, z14, h12, h⟩ := bd_s h
        refine x_Sl (Rz := (r13, z14)) (As := [.long (z7.2 32 8), .int r10]) (rest := [.ref (G.2.2 32)]) ⟨hx, hb, hml, hown, hts⟩ hK hP hS (m_X6_withLetter hG   h12) (va_cwS 2 hts gX6_scanWord_X6_withLetter rfl rfl rfl (by decide +kernel) (rmd_ok (by decide) (by decide))) rfl hl.1 rfl (Nat.le_of_ble_eq_true rfl) dX6_scanWord_41 ⟨Nat.le_refl _, Nat.le_refl _⟩ (fun H locs hP hS => ?_)
        obtain ⟨z15, e_z15, h⟩ := nm_s h
        refine pu_6_8 hx hb hts in_X6_scanWord_X6 hown hK hG hP hS k_32 (hts _ (List.mem_of_getElem? (i := 1) rfl)) dX6_scanWord_44 (fun H locs hP hS => ?_)
        rw [← e_z15] at hP
        refine lv_aload_n hx hb dX6_scanWord_47 rfl (lv_at hl 0 rfl) ?_
        refine lv_dup hx hb dX6_scanWord_48 rfl ?_
        refine ge_6_4 hx hb hts in_X6_scanWord_X6 hown hK hP k_32 (hts _ (List.mem_of_getElem? (i := 2) rfl)) dX6_scanWord_49 ?_
        refine lv_iconst (v := 1) hx hb dX6_scanWord_52 (by decide) ?_
        refine lv_iadd hx hb dX6_scanWord_53 ?_
        obtain ⟨z16, e_z16, h⟩ := nm_s h
        refine pu_6_4 hx hb hts in_X6_scanWord_X6 hown hK hG hP hS k_32 (hts _ (List.mem_of_getElem? (i := 2) rfl)) dX6_scanWord_54 (fun H locs hP hS => ?_)
        rw [← e_z16] at hP
        refine lv_iinc (v := (v1 + 1)) (lv' := [(1, .int (v1 + 1)), (0, .ref (G.2.2 32))]) hx hb dX6_scanWord_57 hl (k := 1) rfl rfl (by decide) rfl (fun ls hl => ?_)
        refine lv_goto (tgt := 7) hx hb dX6_scanWord_60 (by decide) ?_
        exact ih (v1 + 1) z16 _ _ _ hP hS (lv_sub hl [1, 0] rfl) h
def fn_X6_scanWord  (z : St) : Option (St) := nm (sJ z 32 8 0) (fun z1 => fn_X6_scanWord_7   fu 0 z1)
set_option maxHeartbeats 4000000 in
set_option maxRecDepth 100000 in
theorem m_X6_scanWord {l : Launch} {G : wG} (hG : Ok G)  {z : St} {Rz : St}  (h : fn_X6_scanWord   z = some Rz) : Met l yX6_scanWord wsX6_scanWord (rmd 2) (va_Pc [.ref (G.2.2 32)] (Pre G z)) (va_Qv (fun u => u = Rz) (Pre G) (AW G)) 0 0 (AW G) := by
  refine Met.ofW (cc := cX6_scanWord) (maxL := 2) (ret := none) (by decide) rfl ?_
  intro p e s m args below meth c s₁ B hml hv
  obtain ⟨rfl, hP, hK⟩ := hv
  have C : CX p s m ([.ref (G.2.2 32)] : List Value).toArray meth c cX6_scanWord 2 wsX6_scanWord RX6 none G := ⟨B.exec, B.bytes, hml, findClass_of_methodNamed B.named, atoms_spec (ws := wsX6_scanWord) B.pre, B.returns, B.notSynchronized, hK, hG⟩
  obtain ⟨hx, hb, -, hown, hts, hr, hlocks, -, -⟩ := id C
  have hS : va_S (AW G) s.heap s.heap [] := va_S.rf
  have hl := lv_entry [.ref (G.2.2 32)] (n := 2) (Nat.le_of_ble_eq_true rfl)
  rw [lg_entry_eq]
  generalize (lg_sl [.ref (G.2.2 32)] ++ List.replicate (2 - (lg_sl [.ref (G.2.2 32)]).length) Slot.unset).toArray = ls at hl ⊢
  have hl : lv_has ls 2 [(0, .ref (G.2.2 32))] := hl
  unfold fn_X6_scanWord at h
  refine lv_aload_n hx hb dX6_scanWord_0 rfl (lv_at hl 0 rfl) ?_
  refine lv_lconst (v := 0) hx hb dX6_scanWord_1 (by decide) ?_
  obtain ⟨z1, e_z1, h⟩ := nm_s h
  refine pu_6_8 hx hb hts in_X6_scanWord_X6 hown hK hG hP hS k_32 (hts _ (List.mem_of_getElem? (i := 1) rfl)) dX6_scanWord_2 (fun H locs hP hS => ?_)
  rw [← e_z1] at hP
  refine lv_iconst (v := 0) hx hb dX6_scanWord_5 (by decide) ?_
  refine lv_istore_n (lv' := [(1, .int 0), (0, .ref (G.2.2 32))]) hx hb dX6_scanWord_6 rfl hl (by decide) rfl (fun ls hl => ?_)
  exact pf_X6_scanWord_7 C   fu 0 z1  _ _ _ hP hS (lv_sub hl [1, 0] rfl) h
theorem in_X6_scanNumber_X6 : ∀ w ∈ wsX60, w ∈ wsX6_scanNumber := fun _ h => (List.mem_cons_of_mem _ (List.mem_append_right _ h))
def fn_X6_scanNumber_100 (tv1 : Int32) (z : St) : Option (St) := nm (sI z 32 5 tv1) (fun z1 => some z1)
set_option maxHeartbeats 4000000 in
set_option maxRecDepth 100000 in
theorem pf_X6_scanNumber_100 {p : Program} {l : Launch} {e : Env} {s : State} {m : MethodId} {args : Array Value} {below : List Frame} {meth : Method} {c : Code} {G : wG} (C : CX p s m args meth c cX6_scanNumber 2 wsX6_scanNumber RX6 none G) {Rz : St} (tv1 : Int32) (z : St)  {H : Heap} {locs : List Loc} {ls : Array Slot} (hP : WP G z H) (hS : va_S (AW G) s.heap H locs) (hl : lv_has ls 2 []) (h : fn_X6_scanNumber_100   tv1 z = some Rz) : W p l e (rmd 2) s m args below meth c H locs 0 0 (QV below args s G Rz) (F0 m 100 ls [.int tv1, .ref (G.2.2 32)]) := by
  obtain ⟨hx, hb, hml, hown, hts, hr, hlocks, hK, hG⟩ := id C
  unfold fn_X6_scanNumber_100 at h
  obtain ⟨z1, e_z1, h⟩ := nm_s h
  refine pu_6_5 hx hb hts in_X6_scanNumber_X6 hown hK hG hP hS k_32 (hts _ (List.mem_of_getElem? (i := 4) rfl)) dX6_scanNumber_100 (fun H locs hP hS => ?_)
  rw [← e_z1] at hP
  exact x_vret hx hb hr hlocks hK hP hS h dX6_scanNumber_103
def fn_X6_scanNumber_95  (z : St) : Option (St) := fn_X6_scanNumber_100   4 z
set_option maxHeartbeats 4000000 in
set_option maxRecDepth 100000 in
theorem pf_X6_scanNumber_95 {p : Program} {l : Launch} {e : Env} {s : State} {m : MethodId} {args : Array Value} {below : List Frame} {meth : Method} {c : Code} {G : wG} (C : CX p s m args meth c cX6_scanNumber 2 wsX6_scanNumber RX6 none G) {Rz : St}  (z : St)  {H : Heap} {locs : List Loc} {ls : Array Slot} (hP : WP G z H) (hS : va_S (AW G) s.heap H locs) (hl : lv_has ls 2 []) (h : fn_X6_scanNumber_95    z = some Rz) : W p l e (rmd 2) s m args below meth c H locs 0 0 (QV below args s G Rz) (F0 m 95 ls [.ref (G.2.2 32)]) := by
  obtain ⟨hx, hb, hml, hown, hts, hr, hlocks, hK, hG⟩ := id C
  unfold fn_X6_scanNumber_95 at h
  refine lv_iconst (v := 4) hx hb dX6_scanNumber_95 (by decide) ?_
  refine lv_goto (tgt := 100) hx hb dX6_scanNumber_96 (by decide) ?_
  exact pf_X6_scanNumber_100 C   4 z  hP hS (lv_sub hl [] rfl) h
def fn_X6_scanNumber_67  (z : St) : Option (St) := (if 4 < ((z.1 32 4) - (z.1 32 6)) then fn_X6_scanNumber_95    z else bd (fn_X6_signAt  (z.1 32 4) z) (fun r3 z4 => bd (fn_X6_isLetter  r3 z4) (fun r6 z7 => (if r6 = 0 then fn_X6_scanNumber_100   2 z7 else fn_X6_scanNumber_95    z7))))
set_option maxHeartbeats 4000000 in
set_option maxRecDepth 100000 in
theorem pf_X6_scanNumber_67 {p : Program} {l : Launch} {e : Env} {s : State} {m : MethodId} {args : Array Value} {below : List Frame} {meth : Method} {c : Code} {G : wG} (C : CX p s m args meth c cX6_scanNumber 2 wsX6_scanNumber RX6 none G) {Rz : St}  (z : St)  {H : Heap} {locs : List Loc} {ls : Array Slot} (hP : WP G z H) (hS : va_S (AW G) s.heap H locs) (hl : lv_has ls 2 [(0, .ref (G.2.2 32))]) (h : fn_X6_scanNumber_67    z = some Rz) : W p l e (rmd 2) s m args below meth c H locs 0 0 (QV below args s G Rz) (F0 m 67 ls []) := by
  obtain ⟨hx, hb, hml, hown, hts, hr, hlocks, hK, hG⟩ := id C
  unfold fn_X6_scanNumber_67 at h
  refine lv_aload_n hx hb dX6_scanNumber_67 rfl (lv_at hl 0 rfl) ?_
  refine lv_aload_n hx hb dX6_scanNumber_68 rfl (lv_at hl 0 rfl) ?_
  refine ge_6_4 hx hb hts in_X6_scanNumber_X6 hown hK hP k_32 (hts _ (List.mem_of_getElem? (i := 2) rfl)) dX6_scanNumber_69 ?_
  refine lv_aload_n hx hb dX6_scanNumber_72 rfl (lv_at hl 0 rfl) ?_
  refine ge_6_6 hx hb hts in_X6_scanNumber_X6 hown hK hP k_32 (hts _ (List.mem_of_getElem? (i := 3) rfl)) dX6_scanNumber_73 ?_
  refine lv_isub hx hb dX6_scanNumber_76 ?_
  refine lv_iconst (v := 4) hx hb dX6_scanNumber_77 (by decide) ?_
  refine lv_icmp_gt (tgt := 95) hx hb dX6_scanNumber_78 (by decide) (fun c1 => ?_) (fun c1 => ?_)
  · rw [if_pos c1] at h
    exact pf_X6_scanNumber_95 C    z  hP hS (lv_sub hl [] rfl) h
  · rw [if_neg c1] at h
    refine lv_aload_n hx hb dX6_scanNumber_81 rfl (lv_at hl 0 rfl) ?_
    refine lv_aload_n hx hb dX6_scanNumber_82 rfl (lv_at hl 0 rfl) ?_
    refine ge_6_4 hx hb hts in_X6_scanNumber_X6 hown hK hP k_32 (hts _ (List.mem_of_getElem? (i := 2) rfl)) dX6_scanNumber_83 ?_
    obtain ⟨r3, z4, h2, h⟩ := bd_s h
    refine x_Vi (Rz := (r3, z4)) (As := [.int (z.1 32 4)]) (rest := [.ref (G.2.2 32)]) ⟨hx, hb, hml, hown, hts⟩ hK hP hS (kd_lt k_32 (by decide)) (cell_6 k_32) rfl (m_X6_signAt hG   h2) (cwV 1 hts gX6_scanNumber_X6_signAt rfl rfl rfl (by decide +kernel) (rmd_ok (by decide) (by decide))) rfl hl.1 rfl (Nat.le_of_ble_eq_true rfl) dX6_scanNumber_86 ⟨Nat.le_refl _, Nat.le_refl _⟩ (fun H locs hP hS => ?_)
    obtain ⟨r6, z7, h5, h⟩ := bd_s h
    refine x_Si (Rz := (r6, z7)) (As := [.int r3]) (rest := [.ref (G.2.2 32)]) ⟨hx, hb, hml, hown, hts⟩ hK hP hS (m_X6_isLetter hG   h5) (va_cwS 1 hts gX6_scanNumber_X6_isLetter rfl rfl rfl (by decide +kernel) (rmd_ok (by decide) (by decide))) rfl hl.1 rfl (Nat.le_of_ble_eq_true rfl) dX6_scanNumber_89 ⟨Nat.le_refl _, Nat.le_refl _⟩ (fun H locs hP hS => ?_)
    refine lv_if_eq (tgt := 99) hx hb dX6_scanNumber_92 (by decide) (fun c8 => ?_) (fun c8 => ?_)
    · rw [if_pos c8] at h
      refine lv_iconst (v := 2) hx hb dX6_scanNumber_99 (by decide) ?_
      exact pf_X6_scanNumber_100 C   2 z7  hP hS (lv_sub hl [] rfl) h
    · rw [if_neg c8] at h
      exact pf_X6_scanNumber_95 C    z7  hP hS (lv_sub hl [] rfl) h
def fn_X6_scanNumber_7 : Nat → Int32 → St → Option (St)
  | 0, _, _ => none
  | n + 1, v1, z => (if 1600 ≤ v1 then fn_X6_scanNumber_67    z else bd (fn_X6_signAt  (z.1 32 4) z) (fun r3 z4 => bd (fn_X6_isDigit  r3 z4) (fun r6 z7 => (if r6 = 0 then fn_X6_scanNumber_67    z7 else bd (fn_X6_signAt  (z7.1 32 4) z7) (fun r10 z11 => nm (sI z11 32 7 (((z7.1 32 7) * 10) + (r10 - 48))) (fun z12 => nm (sI z12 32 4 ((z12.1 32 4) + 1)) (fun z13 => fn_X6_scanNumber_7   n (v1 + 1) z13)))))))
set_option maxHeartbeats 4000000 in
set_option maxRecDepth 100000 in
theorem pf_X6_scanNumber_7 {p : Program} {l : Launch} {e : Env} {s : State} {m : MethodId} {args : Array Value} {below : List Frame} {meth : Method} {c : Code} {G : wG} (C : CX p s m args meth c cX6_scanNumber 2 wsX6_scanNumber RX6 none G) {Rz : St} : ∀ (n : Nat) (v1 : Int32) (z : St)  (H : Heap) (locs : List Loc) (ls : Array Slot), WP G z H → va_S (AW G) s.heap H locs → lv_has ls 2 [(0, .ref (G.2.2 32)), (1, .int v1)] → fn_X6_scanNumber_7   n v1 z = some Rz → W p l e (rmd 2) s m args below meth c H locs 0 0 (QV below args s G Rz) (F0 m 7 ls []) := by
  obtain ⟨hx, hb, hml, hown, hts, hr, hlocks, hK, hG⟩ := id C
  intro n
  induction n with
  | zero => intro v1 z  H locs ls hP hS hl h; cases h
  | succ n ih =>
    intro v1 z  H locs ls hP hS hl h
    rw [fn_X6_scanNumber_7] at h
    refine lv_iload_n hx hb dX6_scanNumber_7 rfl (lv_at hl 1 rfl) ?_
    refine lv_sipush (v := 1600) hx hb dX6_scanNumber_8 (by decide) ?_
    refine lv_icmp_ge (tgt := 67) hx hb dX6_scanNumber_11 (by decide) (fun c1 => ?_) (fun c1 => ?_)
    · rw [if_pos c1] at h
      exact pf_X6_scanNumber_67 C    z  hP hS (lv_sub hl [0] rfl) h
    · rw [if_neg c1] at h
      refine lv_aload_n hx hb dX6_scanNumber_14 rfl (lv_at hl 0 rfl) ?_
      refine lv_aload_n hx hb dX6_scanNumber_15 rfl (lv_at hl 0 rfl) ?_
      refine ge_6_4 hx hb hts in_X6_scanNumber_X6 hown hK hP k_32 (hts _ (List.mem_of_getElem? (i := 2) rfl)) dX6_scanNumber_16 ?_
      obtain ⟨r3, z4, h2, h⟩ := bd_s h
      refine x_Vi (Rz := (r3, z4)) (As := [.int (z.1 32 4)]) (rest := []) ⟨hx, hb, hml, hown, hts⟩ hK hP hS (kd_lt k_32 (by decide)) (cell_6 k_32) rfl (m_X6_signAt hG   h2) (cwV 1 hts gX6_scanNumber_X6_signAt rfl rfl rfl (by decide +kernel) (rmd_ok (by decide) (by decide))) rfl hl.1 rfl (Nat.le_of_ble_eq_true rfl) dX6_scanNumber_19 ⟨Nat.le_refl _, Nat.le_refl _⟩ (fun H locs hP hS => ?_)
      obtain ⟨r6, z7, h5, h⟩ := bd_s h
      refine x_Si (Rz := (r6, z7)) (As := [.int r3]) (rest := []) ⟨hx, hb, hml, hown, hts⟩ hK hP hS (m_X6_isDigit hG   h5) (va_cwS 1 hts gX6_scanNumber_X6_isDigit rfl rfl rfl (by decide +kernel) (rmd_ok (by decide) (by decide))) rfl hl.1 rfl (Nat.le_of_ble_eq_true rfl) dX6_scanNumber_22 ⟨Nat.le_refl _, Nat.le_refl _⟩ (fun H locs hP hS => ?_)
      refine lv_if_eq (tgt := 67) hx hb dX6_scanNumber_25 (by decide) (fun c8 => ?_) (fun c8 => ?_)
      · rw [if_pos c8] at h
        exact pf_X6_scanNumber_67 C    z7  hP hS (lv_sub hl [0] rfl) h
      · rw [if_neg c8] at h
        refine lv_aload_n hx hb dX6_scanNumber_28 rfl (lv_at hl 0 rfl) ?_
        refine lv_aload_n hx hb dX6_scanNumber_29 rfl (lv_at hl 0 rfl) ?_
        refine ge_6_7 hx hb hts in_X6_scanNumber_X6 hown hK hP k_32 (hts _ (List.mem_of_getElem? (i := 1) rfl)) dX6_scanNumber_30 ?_
        refine lv_bipush (v := 10) hx hb dX6_scanNumber_33 (by decide) ?_
        refine lv_imul hx hb dX6_scanNumber_35 ?_
        refine lv_aload_n hx hb dX6_scanNumber_36 rfl (lv_at hl 0 rfl) ?_
        refine lv_aload_n hx hb dX6_scanNumber_37 rfl (lv_at hl 0 rfl) ?_
        refine ge_6_4 hx hb hts in_X6_scanNumber_X6 hown hK hP k_32 (hts _ (List.mem_of_getElem? (i := 2) rfl)) dX6_scanNumber_38 ?_
        obtain ⟨r10, z11, h9, h⟩ := bd_s h
        refine x_Vi (Rz := (r10, z11)) (As := [.int (z7.1 32 4)]) (rest := [.int ((z7.1 32 7) * 10), .ref (G.2.2 32)]) ⟨hx, hb, hml, hown, hts⟩ hK hP hS (kd_lt k_32 (by decide)) (cell_6 k_32) rfl (m_X6_signAt hG   h9) (cwV 1 hts gX6_scanNumber_X6_signAt rfl rfl rfl (by decide +kernel) (rmd_ok (by decide) (by decide))) rfl hl.1 rfl (Nat.le_of_ble_eq_true rfl) dX6_scanNumber_41 ⟨Nat.le_refl _, Nat.le_refl _⟩ (fun H locs hP hS => ?_)
        refine lv_bipush (v := 48) hx hb dX6_scanNumber_44 (by decide) ?_
        refine lv_isub hx hb dX6_scanNumber_46 ?_
        refine lv_iadd hx hb dX6_scanNumber_47 ?_
        obtain ⟨z12, e_z12, h⟩ := nm_s h
        refine pu_6_7 hx hb hts in_X6_scanNumber_X6 hown hK hG hP hS k_32 (hts _ (List.mem_of_getElem? (i := 1) rfl)) dX6_scanNumber_48 (fun H locs hP hS => ?_)
        rw [← e_z12] at hP
        refine lv_aload_n hx hb dX6_scanNumber_51 rfl (lv_at hl 0 rfl) ?_
        refine lv_dup hx hb dX6_scanNumber_52 rfl ?_
        refine ge_6_4 hx hb hts in_X6_scanNumber_X6 hown hK hP k_32 (hts _ (List.mem_of_getElem? (i := 2) rfl)) dX6_scanNumber_53 ?_
        refine lv_iconst (v := 1) hx hb dX6_scanNumber_56 (by decide) ?_
        refine lv_iadd hx hb dX6_scanNumber_57 ?_
        obtain ⟨z13, e_z13, h⟩ := nm_s h
        refine pu_6_4 hx hb hts in_X6_scanNumber_X6 hown hK hG hP hS k_32 (hts _ (List.mem_of_getElem? (i := 2) rfl)) dX6_scanNumber_58 (fun H locs hP hS => ?_)
        rw [← e_z13] at hP
        refine lv_iinc (v := (v1 + 1)) (lv' := [(1, .int (v1 + 1)), (0, .ref (G.2.2 32))]) hx hb dX6_scanNumber_61 hl (k := 1) rfl rfl (by decide) rfl (fun ls hl => ?_)
        refine lv_goto (tgt := 7) hx hb dX6_scanNumber_64 (by decide) ?_
        exact ih (v1 + 1) z13 _ _ _ hP hS (lv_sub hl [1, 0] rfl) h
def fn_X6_scanNumber  (z : St) : Option (St) := nm (sI z 32 7 0) (fun z1 => fn_X6_scanNumber_7   fu 0 z1)
set_option maxHeartbeats 4000000 in
set_option maxRecDepth 100000 in
theorem m_X6_scanNumber {l : Launch} {G : wG} (hG : Ok G)  {z : St} {Rz : St}  (h : fn_X6_scanNumber   z = some Rz) : Met l yX6_scanNumber wsX6_scanNumber (rmd 2) (va_Pc [.ref (G.2.2 32)] (Pre G z)) (va_Qv (fun u => u = Rz) (Pre G) (AW G)) 0 0 (AW G) := by
  refine Met.ofW (cc := cX6_scanNumber) (maxL := 2) (ret := none) (by decide) rfl ?_
  intro p e s m args below meth c s₁ B hml hv
  obtain ⟨rfl, hP, hK⟩ := hv
  have C : CX p s m ([.ref (G.2.2 32)] : List Value).toArray meth c cX6_scanNumber 2 wsX6_scanNumber RX6 none G := ⟨B.exec, B.bytes, hml, findClass_of_methodNamed B.named, atoms_spec (ws := wsX6_scanNumber) B.pre, B.returns, B.notSynchronized, hK, hG⟩
  obtain ⟨hx, hb, -, hown, hts, hr, hlocks, -, -⟩ := id C
  have hS : va_S (AW G) s.heap s.heap [] := va_S.rf
  have hl := lv_entry [.ref (G.2.2 32)] (n := 2) (Nat.le_of_ble_eq_true rfl)
  rw [lg_entry_eq]
  generalize (lg_sl [.ref (G.2.2 32)] ++ List.replicate (2 - (lg_sl [.ref (G.2.2 32)]).length) Slot.unset).toArray = ls at hl ⊢
  have hl : lv_has ls 2 [(0, .ref (G.2.2 32))] := hl
  unfold fn_X6_scanNumber at h
  refine lv_aload_n hx hb dX6_scanNumber_0 rfl (lv_at hl 0 rfl) ?_
  refine lv_iconst (v := 0) hx hb dX6_scanNumber_1 (by decide) ?_
  obtain ⟨z1, e_z1, h⟩ := nm_s h
  refine pu_6_7 hx hb hts in_X6_scanNumber_X6 hown hK hG hP hS k_32 (hts _ (List.mem_of_getElem? (i := 1) rfl)) dX6_scanNumber_2 (fun H locs hP hS => ?_)
  rw [← e_z1] at hP
  refine lv_iconst (v := 0) hx hb dX6_scanNumber_5 (by decide) ?_
  refine lv_istore_n (lv' := [(1, .int 0), (0, .ref (G.2.2 32))]) hx hb dX6_scanNumber_6 rfl hl (by decide) rfl (fun ls hl => ?_)
  exact pf_X6_scanNumber_7 C   fu 0 z1  _ _ _ hP hS (lv_sub hl [1, 0] rfl) h
theorem in_X6_advance_X6 : ∀ w ∈ wsX60, w ∈ wsX6_advance := fun _ h => (List.mem_cons_of_mem _ (List.mem_append_right _ h))
def fn_X6_advance_137 (tv1 : Int32) (z : St) : Option (St) := nm (sI z 32 5 tv1) (fun z1 => nm (sI z1 32 4 ((z1.1 32 4) + 1)) (fun z2 => some z2))
set_option maxHeartbeats 4000000 in
set_option maxRecDepth 100000 in
theorem pf_X6_advance_137 {p : Program} {l : Launch} {e : Env} {s : State} {m : MethodId} {args : Array Value} {below : List Frame} {meth : Method} {c : Code} {G : wG} (C : CX p s m args meth c cX6_advance 2 wsX6_advance RX6 none G) {Rz : St} (tv1 : Int32) (z : St)  {H : Heap} {locs : List Loc} {ls : Array Slot} (hP : WP G z H) (hS : va_S (AW G) s.heap H locs) (hl : lv_has ls 2 [(0, .ref (G.2.2 32))]) (h : fn_X6_advance_137   tv1 z = some Rz) : W p l e (rmd 3) s m args below meth c H locs 0 0 (QV below args s G Rz) (F0 m 137 ls [.int tv1, .ref (G.2.2 32)]) := by
  obtain ⟨hx, hb, hml, hown, hts, hr, hlocks, hK, hG⟩ := id C
  unfold fn_X6_advance_137 at h
  obtain ⟨z1, e_z1, h⟩ := nm_s h
  refine pu_6_5 hx hb hts in_X6_advance_X6 hown hK hG hP hS k_32 (hts _ (List.mem_of_getElem? (i := 4) rfl)) dX6_advance_137 (fun H locs hP hS => ?_)
  rw [← e_z1] at hP
  refine lv_aload_n hx hb dX6_advance_140 rfl (lv_at hl 0 rfl) ?_
  refine lv_dup hx hb dX6_advance_141 rfl ?_
  refine ge_6_4 hx hb hts in_X6_advance_X6 hown hK hP k_32 (hts _ (List.mem_of_getElem? (i := 1) rfl)) dX6_advance_142 ?_
  refine lv_iconst (v := 1) hx hb dX6_advance_145 (by decide) ?_
  refine lv_iadd hx hb dX6_advance_146 ?_
  obtain ⟨z2, e_z2, h⟩ := nm_s h
  refine pu_6_4 hx hb hts in_X6_advance_X6 hown hK hG hP hS k_32 (hts _ (List.mem_of_getElem? (i := 1) rfl)) dX6_advance_147 (fun H locs hP hS => ?_)
  rw [← e_z2] at hP
  exact x_vret hx hb hr hlocks hK hP hS h dX6_advance_150
def fn_X6_advance_50  (z : St) : Option (St) := nm (sI z 32 6 (z.1 32 4)) (fun z1 => (if (z1.1 32 4) < (z1.1 32 3) then bd (fn_X6_signAt  (z1.1 32 4) z1) (fun r4 z5 => nm (sI z5 32 10 r4) (fun z6 => bd (fn_X6_isLetter  (z6.1 32 10) z6) (fun r8 z9 => (if r8 = 0 then bd (fn_X6_isDigit  (z9.1 32 10) z9) (fun r12 z13 => (if r12 = 0 then bd (fn_X6_isMark  (z13.1 32 10) z13) (fun r16 z17 => (if r16 = 0 then fn_X6_advance_137   4 z17 else fn_X6_advance_137   3 z17)) else bv (fn_X6_scanNumber   z13) (fun z20 => some z20))) else bv (fn_X6_scanWord   z9) (fun z22 => some z22))))) else nm (sI z1 32 5 0) (fun z23 => some z23)))
set_option maxHeartbeats 4000000 in
set_option maxRecDepth 100000 in
theorem pf_X6_advance_50 {p : Program} {l : Launch} {e : Env} {s : State} {m : MethodId} {args : Array Value} {below : List Frame} {meth : Method} {c : Code} {G : wG} (C : CX p s m args meth c cX6_advance 2 wsX6_advance RX6 none G) {Rz : St}  (z : St)  {H : Heap} {locs : List Loc} {ls : Array Slot} (hP : WP G z H) (hS : va_S (AW G) s.heap H locs) (hl : lv_has ls 2 [(0, .ref (G.2.2 32))]) (h : fn_X6_advance_50    z = some Rz) : W p l e (rmd 3) s m args below meth c H locs 0 0 (QV below args s G Rz) (F0 m 50 ls []) := by
  obtain ⟨hx, hb, hml, hown, hts, hr, hlocks, hK, hG⟩ := id C
  unfold fn_X6_advance_50 at h
  refine lv_aload_n hx hb dX6_advance_50 rfl (lv_at hl 0 rfl) ?_
  refine lv_aload_n hx hb dX6_advance_51 rfl (lv_at hl 0 rfl) ?_
  refine ge_6_4 hx hb hts in_X6_advance_X6 hown hK hP k_32 (hts _ (List.mem_of_getElem? (i := 1) rfl)) dX6_advance_52 ?_
  obtain ⟨z1, e_z1, h⟩ := nm_s h
  refine pu_6_6 hx hb hts in_X6_advance_X6 hown hK hG hP hS k_32 (hts _ (List.mem_of_getElem? (i := 3) rfl)) dX6_advance_55 (fun H locs hP hS => ?_)
  rw [← e_z1] at hP
  refine lv_aload_n hx hb dX6_advance_58 rfl (lv_at hl 0 rfl) ?_
  refine ge_6_4 hx hb hts in_X6_advance_X6 hown hK hP k_32 (hts _ (List.mem_of_getElem? (i := 1) rfl)) dX6_advance_59 ?_
  refine lv_aload_n hx hb dX6_advance_62 rfl (lv_at hl 0 rfl) ?_
  refine ge_6_3 hx hb hts in_X6_advance_X6 hown hK hP k_32 (hts _ (List.mem_of_getElem? (i := 2) rfl)) dX6_advance_63 ?_
  refine lv_icmp_lt (tgt := 75) hx hb dX6_advance_66 (by decide) (fun c2 => ?_) (fun c2 => ?_)
  · rw [if_pos c2] at h
    refine lv_aload_n hx hb dX6_advance_75 rfl (lv_at hl 0 rfl) ?_
    refine lv_aload_n hx hb dX6_advance_76 rfl (lv_at hl 0 rfl) ?_
    refine lv_aload_n hx hb dX6_advance_77 rfl (lv_at hl 0 rfl) ?_
    refine ge_6_4 hx hb hts in_X6_advance_X6 hown hK hP k_32 (hts _ (List.mem_of_getElem? (i := 1) rfl)) dX6_advance_78 ?_
    obtain ⟨r4, z5, h3, h⟩ := bd_s h
    refine x_Vi (Rz := (r4, z5)) (As := [.int (z1.1 32 4)]) (rest := [.ref (G.2.2 32)]) ⟨hx, hb, hml, hown, hts⟩ hK hP hS (kd_lt k_32 (by decide)) (cell_6 k_32) rfl (m_X6_signAt hG   h3) (cwV 1 hts gX6_advance_X6_signAt rfl rfl rfl (by decide +kernel) (rmd_ok (by decide) (by decide))) rfl hl.1 rfl (Nat.le_of_ble_eq_true rfl) dX6_advance_81 ⟨Nat.le_refl _, Nat.le_refl _⟩ (fun H locs hP hS => ?_)
    obtain ⟨z6, e_z6, h⟩ := nm_s h
    refine pu_6_10 hx hb hts in_X6_advance_X6 hown hK hG hP hS k_32 (hts _ (List.mem_of_getElem? (i := 5) rfl)) dX6_advance_84 (fun H locs hP hS => ?_)
    rw [← e_z6] at hP
    refine lv_aload_n hx hb dX6_advance_87 rfl (lv_at hl 0 rfl) ?_
    refine ge_6_10 hx hb hts in_X6_advance_X6 hown hK hP k_32 (hts _ (List.mem_of_getElem? (i := 5) rfl)) dX6_advance_88 ?_
    obtain ⟨r8, z9, h7, h⟩ := bd_s h
    refine x_Si (Rz := (r8, z9)) (As := [.int (z6.1 32 10)]) (rest := []) ⟨hx, hb, hml, hown, hts⟩ hK hP hS (m_X6_isLetter hG   h7) (va_cwS 1 hts gX6_advance_X6_isLetter rfl rfl rfl (by decide +kernel) (rmd_ok (by decide) (by decide))) rfl hl.1 rfl (Nat.le_of_ble_eq_true rfl) dX6_advance_91 ⟨Nat.le_refl _, Nat.le_refl _⟩ (fun H locs hP hS => ?_)
    refine lv_if_eq (tgt := 104) hx hb dX6_advance_94 (by decide) (fun c10 => ?_) (fun c10 => ?_)
    · rw [if_pos c10] at h
      refine lv_aload_n hx hb dX6_advance_104 rfl (lv_at hl 0 rfl) ?_
      refine ge_6_10 hx hb hts in_X6_advance_X6 hown hK hP k_32 (hts _ (List.mem_of_getElem? (i := 5) rfl)) dX6_advance_105 ?_
      obtain ⟨r12, z13, h11, h⟩ := bd_s h
      refine x_Si (Rz := (r12, z13)) (As := [.int (z9.1 32 10)]) (rest := []) ⟨hx, hb, hml, hown, hts⟩ hK hP hS (m_X6_isDigit hG   h11) (va_cwS 1 hts gX6_advance_X6_isDigit rfl rfl rfl (by decide +kernel) (rmd_ok (by decide) (by decide))) rfl hl.1 rfl (Nat.le_of_ble_eq_true rfl) dX6_advance_108 ⟨Nat.le_refl _, Nat.le_refl _⟩ (fun H locs hP hS => ?_)
      refine lv_if_eq (tgt := 121) hx hb dX6_advance_111 (by decide) (fun c14 => ?_) (fun c14 => ?_)
      · rw [if_pos c14] at h
        refine lv_aload_n hx hb dX6_advance_121 rfl (lv_at hl 0 rfl) ?_
        refine lv_aload_n hx hb dX6_advance_122 rfl (lv_at hl 0 rfl) ?_
        refine ge_6_10 hx hb hts in_X6_advance_X6 hown hK hP k_32 (hts _ (List.mem_of_getElem? (i := 5) rfl)) dX6_advance_123 ?_
        obtain ⟨r16, z17, h15, h⟩ := bd_s h
        refine x_Si (Rz := (r16, z17)) (As := [.int (z13.1 32 10)]) (rest := [.ref (G.2.2 32)]) ⟨hx, hb, hml, hown, hts⟩ hK hP hS (m_X6_isMark hG   h15) (va_cwS 1 hts gX6_advance_X6_isMark rfl rfl rfl (by decide +kernel) (rmd_ok (by decide) (by decide))) rfl hl.1 rfl (Nat.le_of_ble_eq_true rfl) dX6_advance_126 ⟨Nat.le_refl _, Nat.le_refl _⟩ (fun H locs hP hS => ?_)
        refine lv_if_eq (tgt := 136) hx hb dX6_advance_129 (by decide) (fun c18 => ?_) (fun c18 => ?_)
        · rw [if_pos c18] at h
          refine lv_iconst (v := 4) hx hb dX6_advance_136 (by decide) ?_
          exact pf_X6_advance_137 C   4 z17  hP hS (lv_sub hl [0] rfl) h
        · rw [if_neg c18] at h
          refine lv_iconst (v := 3) hx hb dX6_advance_132 (by decide) ?_
          refine lv_goto (tgt := 137) hx hb dX6_advance_133 (by decide) ?_
          exact pf_X6_advance_137 C   3 z17  hP hS (lv_sub hl [0] rfl) h
      · rw [if_neg c14] at h
        refine lv_aload_n hx hb dX6_advance_114 rfl (lv_at hl 0 rfl) ?_
        obtain ⟨z20, h19, h⟩ := bv_s h
        refine x_Vv (Rz := z20) (As := []) (rest := []) ⟨hx, hb, hml, hown, hts⟩ hK hP hS (kd_lt k_32 (by decide)) (cell_6 k_32) rfl (m_X6_scanNumber hG   h19) (cwV 0 hts gX6_advance_X6_scanNumber rfl rfl rfl (by decide +kernel) (rmd_ok (by decide) (by decide))) rfl hl.1 rfl (Nat.le_of_ble_eq_true rfl) dX6_advance_115 ⟨Nat.le_refl _, Nat.le_refl _⟩ (fun H locs hP hS => ?_)
        refine lv_goto (tgt := 150) hx hb dX6_advance_118 (by decide) ?_
        exact x_vret hx hb hr hlocks hK hP hS h dX6_advance_150
    · rw [if_neg c10] at h
      refine lv_aload_n hx hb dX6_advance_97 rfl (lv_at hl 0 rfl) ?_
      obtain ⟨z22, h21, h⟩ := bv_s h
      refine x_Vv (Rz := z22) (As := []) (rest := []) ⟨hx, hb, hml, hown, hts⟩ hK hP hS (kd_lt k_32 (by decide)) (cell_6 k_32) rfl (m_X6_scanWord hG   h21) (cwV 0 hts gX6_advance_X6_scanWord rfl rfl rfl (by decide +kernel) (rmd_ok (by decide) (by decide))) rfl hl.1 rfl (Nat.le_of_ble_eq_true rfl) dX6_advance_98 ⟨Nat.le_refl _, Nat.le_refl _⟩ (fun H locs hP hS => ?_)
      refine lv_goto (tgt := 150) hx hb dX6_advance_101 (by decide) ?_
      exact x_vret hx hb hr hlocks hK hP hS h dX6_advance_150
  · rw [if_neg c2] at h
    refine lv_aload_n hx hb dX6_advance_69 rfl (lv_at hl 0 rfl) ?_
    refine lv_iconst (v := 0) hx hb dX6_advance_70 (by decide) ?_
    obtain ⟨z23, e_z23, h⟩ := nm_s h
    refine pu_6_5 hx hb hts in_X6_advance_X6 hown hK hG hP hS k_32 (hts _ (List.mem_of_getElem? (i := 4) rfl)) dX6_advance_71 (fun H locs hP hS => ?_)
    rw [← e_z23] at hP
    exact x_vret hx hb hr hlocks hK hP hS h dX6_advance_74
def fn_X6_advance_2 : Nat → Int32 → St → Option (St)
  | 0, _, _ => none
  | n + 1, v1, z => (if 1600 ≤ v1 then fn_X6_advance_50    z else (if (z.1 32 3) ≤ (z.1 32 4) then fn_X6_advance_50    z else bd (fn_X6_signAt  (z.1 32 4) z) (fun r4 z5 => bd (fn_X6_isBlank  r4 z5) (fun r7 z8 => (if r7 = 0 then fn_X6_advance_50    z8 else nm (sI z8 32 4 ((z8.1 32 4) + 1)) (fun z10 => fn_X6_advance_2   n (v1 + 1) z10))))))
set_option maxHeartbeats 4000000 in
set_option maxRecDepth 100000 in
theorem pf_X6_advance_2 {p : Program} {l : Launch} {e : Env} {s : State} {m : MethodId} {args : Array Value} {below : List Frame} {meth : Method} {c : Code} {G : wG} (C : CX p s m args meth c cX6_advance 2 wsX6_advance RX6 none G) {Rz : St} : ∀ (n : Nat) (v1 : Int32) (z : St)  (H : Heap) (locs : List Loc) (ls : Array Slot), WP G z H → va_S (AW G) s.heap H locs → lv_has ls 2 [(0, .ref (G.2.2 32)), (1, .int v1)] → fn_X6_advance_2   n v1 z = some Rz → W p l e (rmd 3) s m args below meth c H locs 0 0 (QV below args s G Rz) (F0 m 2 ls []) := by
  obtain ⟨hx, hb, hml, hown, hts, hr, hlocks, hK, hG⟩ := id C
  intro n
  induction n with
  | zero => intro v1 z  H locs ls hP hS hl h; cases h
  | succ n ih =>
    intro v1 z  H locs ls hP hS hl h
    rw [fn_X6_advance_2] at h
    refine lv_iload_n hx hb dX6_advance_2 rfl (lv_at hl 1 rfl) ?_
    refine lv_sipush (v := 1600) hx hb dX6_advance_3 (by decide) ?_
    refine lv_icmp_ge (tgt := 50) hx hb dX6_advance_6 (by decide) (fun c1 => ?_) (fun c1 => ?_)
    · rw [if_pos c1] at h
      exact pf_X6_advance_50 C    z  hP hS (lv_sub hl [0] rfl) h
    · rw [if_neg c1] at h
      refine lv_aload_n hx hb dX6_advance_9 rfl (lv_at hl 0 rfl) ?_
      refine ge_6_4 hx hb hts in_X6_advance_X6 hown hK hP k_32 (hts _ (List.mem_of_getElem? (i := 1) rfl)) dX6_advance_10 ?_
      refine lv_aload_n hx hb dX6_advance_13 rfl (lv_at hl 0 rfl) ?_
      refine ge_6_3 hx hb hts in_X6_advance_X6 hown hK hP k_32 (hts _ (List.mem_of_getElem? (i := 2) rfl)) dX6_advance_14 ?_
      refine lv_icmp_ge (tgt := 50) hx hb dX6_advance_17 (by decide) (fun c2 => ?_) (fun c2 => ?_)
      · rw [if_pos c2] at h
        exact pf_X6_advance_50 C    z  hP hS (lv_sub hl [0] rfl) h
      · rw [if_neg c2] at h
        refine lv_aload_n hx hb dX6_advance_20 rfl (lv_at hl 0 rfl) ?_
        refine lv_aload_n hx hb dX6_advance_21 rfl (lv_at hl 0 rfl) ?_
        refine ge_6_4 hx hb hts in_X6_advance_X6 hown hK hP k_32 (hts _ (List.mem_of_getElem? (i := 1) rfl)) dX6_advance_22 ?_
        obtain ⟨r4, z5, h3, h⟩ := bd_s h
        refine x_Vi (Rz := (r4, z5)) (As := [.int (z.1 32 4)]) (rest := []) ⟨hx, hb, hml, hown, hts⟩ hK hP hS (kd_lt k_32 (by decide)) (cell_6 k_32) rfl (m_X6_signAt hG   h3) (cwV 1 hts gX6_advance_X6_signAt rfl rfl rfl (by decide +kernel) (rmd_ok (by decide) (by decide))) rfl hl.1 rfl (Nat.le_of_ble_eq_true rfl) dX6_advance_25 ⟨Nat.le_refl _, Nat.le_refl _⟩ (fun H locs hP hS => ?_)
        obtain ⟨r7, z8, h6, h⟩ := bd_s h
        refine x_Si (Rz := (r7, z8)) (As := [.int r4]) (rest := []) ⟨hx, hb, hml, hown, hts⟩ hK hP hS (m_X6_isBlank hG   h6) (va_cwS 1 hts gX6_advance_X6_isBlank rfl rfl rfl (by decide +kernel) (rmd_ok (by decide) (by decide))) rfl hl.1 rfl (Nat.le_of_ble_eq_true rfl) dX6_advance_28 ⟨Nat.le_refl _, Nat.le_refl _⟩ (fun H locs hP hS => ?_)
        refine lv_if_eq (tgt := 50) hx hb dX6_advance_31 (by decide) (fun c9 => ?_) (fun c9 => ?_)
        · rw [if_pos c9] at h
          exact pf_X6_advance_50 C    z8  hP hS (lv_sub hl [0] rfl) h
        · rw [if_neg c9] at h
          refine lv_aload_n hx hb dX6_advance_34 rfl (lv_at hl 0 rfl) ?_
          refine lv_dup hx hb dX6_advance_35 rfl ?_
          refine ge_6_4 hx hb hts in_X6_advance_X6 hown hK hP k_32 (hts _ (List.mem_of_getElem? (i := 1) rfl)) dX6_advance_36 ?_
          refine lv_iconst (v := 1) hx hb dX6_advance_39 (by decide) ?_
          refine lv_iadd hx hb dX6_advance_40 ?_
          obtain ⟨z10, e_z10, h⟩ := nm_s h
          refine pu_6_4 hx hb hts in_X6_advance_X6 hown hK hG hP hS k_32 (hts _ (List.mem_of_getElem? (i := 1) rfl)) dX6_advance_41 (fun H locs hP hS => ?_)
          rw [← e_z10] at hP
          refine lv_iinc (v := (v1 + 1)) (lv' := [(1, .int (v1 + 1)), (0, .ref (G.2.2 32))]) hx hb dX6_advance_44 hl (k := 1) rfl rfl (by decide) rfl (fun ls hl => ?_)
          refine lv_goto (tgt := 2) hx hb dX6_advance_47 (by decide) ?_
          exact ih (v1 + 1) z10 _ _ _ hP hS (lv_sub hl [1, 0] rfl) h
def fn_X6_advance  (z : St) : Option (St) := fn_X6_advance_2   fu 0 z
set_option maxHeartbeats 4000000 in
set_option maxRecDepth 100000 in
theorem m_X6_advance {l : Launch} {G : wG} (hG : Ok G)  {z : St} {Rz : St}  (h : fn_X6_advance   z = some Rz) : Met l yX6_advance wsX6_advance (rmd 3) (va_Pc [.ref (G.2.2 32)] (Pre G z)) (va_Qv (fun u => u = Rz) (Pre G) (AW G)) 0 0 (AW G) := by
  refine Met.ofW (cc := cX6_advance) (maxL := 2) (ret := none) (by decide) rfl ?_
  intro p e s m args below meth c s₁ B hml hv
  obtain ⟨rfl, hP, hK⟩ := hv
  have C : CX p s m ([.ref (G.2.2 32)] : List Value).toArray meth c cX6_advance 2 wsX6_advance RX6 none G := ⟨B.exec, B.bytes, hml, findClass_of_methodNamed B.named, atoms_spec (ws := wsX6_advance) B.pre, B.returns, B.notSynchronized, hK, hG⟩
  obtain ⟨hx, hb, -, hown, hts, hr, hlocks, -, -⟩ := id C
  have hS : va_S (AW G) s.heap s.heap [] := va_S.rf
  have hl := lv_entry [.ref (G.2.2 32)] (n := 2) (Nat.le_of_ble_eq_true rfl)
  rw [lg_entry_eq]
  generalize (lg_sl [.ref (G.2.2 32)] ++ List.replicate (2 - (lg_sl [.ref (G.2.2 32)]).length) Slot.unset).toArray = ls at hl ⊢
  have hl : lv_has ls 2 [(0, .ref (G.2.2 32))] := hl
  unfold fn_X6_advance at h
  refine lv_iconst (v := 0) hx hb dX6_advance_0 (by decide) ?_
  refine lv_istore_n (lv' := [(1, .int 0), (0, .ref (G.2.2 32))]) hx hb dX6_advance_1 rfl hl (by decide) rfl (fun ls hl => ?_)
  exact pf_X6_advance_2 C   fu 0 z  _ _ _ hP hS (lv_sub hl [1, 0] rfl) h
theorem in_X6_isKeyword_X6 : ∀ w ∈ wsX60, w ∈ wsX6_isKeyword := fun _ h => (List.mem_cons_of_mem _ (List.mem_append_right _ h))
def fn_X6_isKeyword (v1 : Int32) (z : St) : Option (Int32 × St) := (if (z.1 32 11) = 0 then (if (z.1 32 5) = 1 then (if (z.1 32 9) = v1 then some (1, z) else some (0, z)) else some (0, z)) else some (0, z))
set_option maxHeartbeats 4000000 in
set_option maxRecDepth 100000 in
theorem m_X6_isKeyword {l : Launch} {G : wG} (hG : Ok G) {v1 : Int32} {z : St} {Rz : Int32 × St}  (h : fn_X6_isKeyword  v1 z = some Rz) : Met l yX6_isKeyword wsX6_isKeyword (rmd 1) (va_Pc [.ref (G.2.2 32), .int v1] (Pre G z)) (va_Qi (fun r u => (r, u) = Rz) (Pre G) (AW G)) 0 0 (AW G) := by
  refine Met.ofW (cc := cX6_isKeyword) (maxL := 2) (ret := (some .boolean)) (by decide) rfl ?_
  intro p e s m args below meth c s₁ B hml hv
  obtain ⟨rfl, hP, hK⟩ := hv
  have C : CX p s m ([.ref (G.2.2 32), .int v1] : List Value).toArray meth c cX6_isKeyword 2 wsX6_isKeyword RX6 (some .boolean) G := ⟨B.exec, B.bytes, hml, findClass_of_methodNamed B.named, atoms_spec (ws := wsX6_isKeyword) B.pre, B.returns, B.notSynchronized, hK, hG⟩
  obtain ⟨hx, hb, -, hown, hts, hr, hlocks, -, -⟩ := id C
  have hS : va_S (AW G) s.heap s.heap [] := va_S.rf
  have hl := lv_entry [.ref (G.2.2 32), .int v1] (n := 2) (Nat.le_of_ble_eq_true rfl)
  rw [lg_entry_eq]
  generalize (lg_sl [.ref (G.2.2 32), .int v1] ++ List.replicate (2 - (lg_sl [.ref (G.2.2 32), .int v1]).length) Slot.unset).toArray = ls at hl ⊢
  have hl : lv_has ls 2 [(0, .ref (G.2.2 32)), (1, .int v1)] := hl
  unfold fn_X6_isKeyword at h
  refine lv_aload_n hx hb dX6_isKeyword_0 rfl (lv_at hl 0 rfl) ?_
  refine ge_6_11 hx hb hts in_X6_isKeyword_X6 hown hK hP k_32 (hts _ (List.mem_of_getElem? (i := 1) rfl)) dX6_isKeyword_1 ?_
  refine lv_if_ne (tgt := 27) hx hb dX6_isKeyword_4 (by decide) (fun c1 => ?_) (fun c1 => ?_)
  · rw [if_neg c1] at h
    refine lv_iconst (v := 0) hx hb dX6_isKeyword_27 (by decide) ?_
    exact x_zret hx hb hr hlocks hK hP hS rfl h dX6_isKeyword_28
  · rw [if_pos c1] at h
    refine lv_aload_n hx hb dX6_isKeyword_7 rfl (lv_at hl 0 rfl) ?_
    refine ge_6_5 hx hb hts in_X6_isKeyword_X6 hown hK hP k_32 (hts _ (List.mem_of_getElem? (i := 2) rfl)) dX6_isKeyword_8 ?_
    refine lv_iconst (v := 1) hx hb dX6_isKeyword_11 (by decide) ?_
    refine lv_icmp_ne (tgt := 27) hx hb dX6_isKeyword_12 (by decide) (fun c2 => ?_) (fun c2 => ?_)
    · rw [if_neg c2] at h
      refine lv_iconst (v := 0) hx hb dX6_isKeyword_27 (by decide) ?_
      exact x_zret hx hb hr hlocks hK hP hS rfl h dX6_isKeyword_28
    · rw [if_pos c2] at h
      refine lv_aload_n hx hb dX6_isKeyword_15 rfl (lv_at hl 0 rfl) ?_
      refine ge_6_9 hx hb hts in_X6_isKeyword_X6 hown hK hP k_32 (hts _ (List.mem_of_getElem? (i := 3) rfl)) dX6_isKeyword_16 ?_
      refine lv_iload_n hx hb dX6_isKeyword_19 rfl (lv_at hl 1 rfl) ?_
      refine lv_icmp_ne (tgt := 27) hx hb dX6_isKeyword_20 (by decide) (fun c3 => ?_) (fun c3 => ?_)
      · rw [if_neg c3] at h
        refine lv_iconst (v := 0) hx hb dX6_isKeyword_27 (by decide) ?_
        exact x_zret hx hb hr hlocks hK hP hS rfl h dX6_isKeyword_28
      · rw [if_pos c3] at h
        refine lv_iconst (v := 1) hx hb dX6_isKeyword_23 (by decide) ?_
        refine lv_goto (tgt := 28) hx hb dX6_isKeyword_24 (by decide) ?_
        exact x_zret hx hb hr hlocks hK hP hS rfl h dX6_isKeyword_28
theorem in_X6_isSign_X6 : ∀ w ∈ wsX60, w ∈ wsX6_isSign := fun _ h => (List.mem_cons_of_mem _ (List.mem_append_right _ h))
def fn_X6_isSign (v1 : Int32) (z : St) : Option (Int32 × St) := (if (z.1 32 11) = 0 then (if (z.1 32 5) = 3 then (if (z.1 32 10) = v1 then some (1, z) else some (0, z)) else some (0, z)) else some (0, z))
set_option maxHeartbeats 4000000 in
set_option maxRecDepth 100000 in
theorem m_X6_isSign {l : Launch} {G : wG} (hG : Ok G) {v1 : Int32} {z : St} {Rz : Int32 × St}  (h : fn_X6_isSign  v1 z = some Rz) : Met l yX6_isSign wsX6_isSign (rmd 1) (va_Pc [.ref (G.2.2 32), .int v1] (Pre G z)) (va_Qi (fun r u => (r, u) = Rz) (Pre G) (AW G)) 0 0 (AW G) := by
  refine Met.ofW (cc := cX6_isSign) (maxL := 2) (ret := (some .boolean)) (by decide) rfl ?_
  intro p e s m args below meth c s₁ B hml hv
  obtain ⟨rfl, hP, hK⟩ := hv
  have C : CX p s m ([.ref (G.2.2 32), .int v1] : List Value).toArray meth c cX6_isSign 2 wsX6_isSign RX6 (some .boolean) G := ⟨B.exec, B.bytes, hml, findClass_of_methodNamed B.named, atoms_spec (ws := wsX6_isSign) B.pre, B.returns, B.notSynchronized, hK, hG⟩
  obtain ⟨hx, hb, -, hown, hts, hr, hlocks, -, -⟩ := id C
  have hS : va_S (AW G) s.heap s.heap [] := va_S.rf
  have hl := lv_entry [.ref (G.2.2 32), .int v1] (n := 2) (Nat.le_of_ble_eq_true rfl)
  rw [lg_entry_eq]
  generalize (lg_sl [.ref (G.2.2 32), .int v1] ++ List.replicate (2 - (lg_sl [.ref (G.2.2 32), .int v1]).length) Slot.unset).toArray = ls at hl ⊢
  have hl : lv_has ls 2 [(0, .ref (G.2.2 32)), (1, .int v1)] := hl
  unfold fn_X6_isSign at h
  refine lv_aload_n hx hb dX6_isSign_0 rfl (lv_at hl 0 rfl) ?_
  refine ge_6_11 hx hb hts in_X6_isSign_X6 hown hK hP k_32 (hts _ (List.mem_of_getElem? (i := 1) rfl)) dX6_isSign_1 ?_
  refine lv_if_ne (tgt := 27) hx hb dX6_isSign_4 (by decide) (fun c1 => ?_) (fun c1 => ?_)
  · rw [if_neg c1] at h
    refine lv_iconst (v := 0) hx hb dX6_isSign_27 (by decide) ?_
    exact x_zret hx hb hr hlocks hK hP hS rfl h dX6_isSign_28
  · rw [if_pos c1] at h
    refine lv_aload_n hx hb dX6_isSign_7 rfl (lv_at hl 0 rfl) ?_
    refine ge_6_5 hx hb hts in_X6_isSign_X6 hown hK hP k_32 (hts _ (List.mem_of_getElem? (i := 2) rfl)) dX6_isSign_8 ?_
    refine lv_iconst (v := 3) hx hb dX6_isSign_11 (by decide) ?_
    refine lv_icmp_ne (tgt := 27) hx hb dX6_isSign_12 (by decide) (fun c2 => ?_) (fun c2 => ?_)
    · rw [if_neg c2] at h
      refine lv_iconst (v := 0) hx hb dX6_isSign_27 (by decide) ?_
      exact x_zret hx hb hr hlocks hK hP hS rfl h dX6_isSign_28
    · rw [if_pos c2] at h
      refine lv_aload_n hx hb dX6_isSign_15 rfl (lv_at hl 0 rfl) ?_
      refine ge_6_10 hx hb hts in_X6_isSign_X6 hown hK hP k_32 (hts _ (List.mem_of_getElem? (i := 3) rfl)) dX6_isSign_16 ?_
      refine lv_iload_n hx hb dX6_isSign_19 rfl (lv_at hl 1 rfl) ?_
      refine lv_icmp_ne (tgt := 27) hx hb dX6_isSign_20 (by decide) (fun c3 => ?_) (fun c3 => ?_)
      · rw [if_neg c3] at h
        refine lv_iconst (v := 0) hx hb dX6_isSign_27 (by decide) ?_
        exact x_zret hx hb hr hlocks hK hP hS rfl h dX6_isSign_28
      · rw [if_pos c3] at h
        refine lv_iconst (v := 1) hx hb dX6_isSign_23 (by decide) ?_
        refine lv_goto (tgt := 28) hx hb dX6_isSign_24 (by decide) ?_
        exact x_zret hx hb hr hlocks hK hP hS rfl h dX6_isSign_28
def fn_X6_expectKeyword (v1 : Int32) (z : St) : Option (St) := bd (fn_X6_isKeyword  v1 z) (fun r2 z3 => (if r2 = 0 then bv (fn_X6_refuse   z3) (fun z6 => some z6) else bv (fn_X6_advance   z3) (fun z8 => some z8)))
set_option maxHeartbeats 4000000 in
set_option maxRecDepth 100000 in
theorem m_X6_expectKeyword {l : Launch} {G : wG} (hG : Ok G) {v1 : Int32} {z : St} {Rz : St}  (h : fn_X6_expectKeyword  v1 z = some Rz) : Met l yX6_expectKeyword wsX6_expectKeyword (rmd 4) (va_Pc [.ref (G.2.2 32), .int v1] (Pre G z)) (va_Qv (fun u => u = Rz) (Pre G) (AW G)) 0 0 (AW G) := by
  refine Met.ofW (cc := cX6_expectKeyword) (maxL := 2) (ret := none) (by decide) rfl ?_
  intro p e s m args below meth c s₁ B hml hv
  obtain ⟨rfl, hP, hK⟩ := hv
  have C : CX p s m ([.ref (G.2.2 32), .int v1] : List Value).toArray meth c cX6_expectKeyword 2 wsX6_expectKeyword RX6 none G := ⟨B.exec, B.bytes, hml, findClass_of_methodNamed B.named, atoms_spec (ws := wsX6_expectKeyword) B.pre, B.returns, B.notSynchronized, hK, hG⟩
  obtain ⟨hx, hb, -, hown, hts, hr, hlocks, -, -⟩ := id C
  have hS : va_S (AW G) s.heap s.heap [] := va_S.rf
  have hl := lv_entry [.ref (G.2.2 32), .int v1] (n := 2) (Nat.le_of_ble_eq_true rfl)
  rw [lg_entry_eq]
  generalize (lg_sl [.ref (G.2.2 32), .int v1] ++ List.replicate (2 - (lg_sl [.ref (G.2.2 32), .int v1]).length) Slot.unset).toArray = ls at hl ⊢
  have hl : lv_has ls 2 [(0, .ref (G.2.2 32)), (1, .int v1)] := hl
  unfold fn_X6_expectKeyword at h
  refine lv_aload_n hx hb dX6_expectKeyword_0 rfl (lv_at hl 0 rfl) ?_
  refine lv_iload_n hx hb dX6_expectKeyword_1 rfl (lv_at hl 1 rfl) ?_
  obtain ⟨r2, z3, h1, h⟩ := bd_s h
  refine x_Vi (Rz := (r2, z3)) (As := [.int v1]) (rest := []) ⟨hx, hb, hml, hown, hts⟩ hK hP hS (kd_lt k_32 (by decide)) (cell_6 k_32) rfl (m_X6_isKeyword hG   h1) (cwV 1 hts gX6_expectKeyword_X6_isKeyword rfl rfl rfl (by decide +kernel) (rmd_ok (by decide) (by decide))) rfl hl.1 rfl (Nat.le_of_ble_eq_true rfl) dX6_expectKeyword_2 ⟨Nat.le_refl _, Nat.le_refl _⟩ (fun H locs hP hS => ?_)
  refine lv_if_eq (tgt := 15) hx hb dX6_expectKeyword_5 (by decide) (fun c4 => ?_) (fun c4 => ?_)
  · rw [if_pos c4] at h
    refine lv_aload_n hx hb dX6_expectKeyword_15 rfl (lv_at hl 0 rfl) ?_
    obtain ⟨z6, h5, h⟩ := bv_s h
    refine x_Vv (Rz := z6) (As := []) (rest := []) ⟨hx, hb, hml, hown, hts⟩ hK hP hS (kd_lt k_32 (by decide)) (cell_6 k_32) rfl (m_X6_refuse hG   h5) (cwV 0 hts gX6_expectKeyword_X6_refuse rfl rfl rfl (by decide +kernel) (rmd_ok (by decide) (by decide))) rfl hl.1 rfl (Nat.le_of_ble_eq_true rfl) dX6_expectKeyword_16 ⟨Nat.le_refl _, Nat.le_refl _⟩ (fun H locs hP hS => ?_)
    exact x_vret hx hb hr hlocks hK hP hS h dX6_expectKeyword_19
  · rw [if_neg c4] at h
    refine lv_aload_n hx hb dX6_expectKeyword_8 rfl (lv_at hl 0 rfl) ?_
    obtain ⟨z8, h7, h⟩ := bv_s h
    refine x_Vv (Rz := z8) (As := []) (rest := []) ⟨hx, hb, hml, hown, hts⟩ hK hP hS (kd_lt k_32 (by decide)) (cell_6 k_32) rfl (m_X6_advance hG   h7) (cwV 0 hts gX6_expectKeyword_X6_advance rfl rfl rfl (by decide +kernel) (rmd_ok (by decide) (by decide))) rfl hl.1 rfl (Nat.le_of_ble_eq_true rfl) dX6_expectKeyword_9 ⟨Nat.le_refl _, Nat.le_refl _⟩ (fun H locs hP hS => ?_)
    refine lv_goto (tgt := 19) hx hb dX6_expectKeyword_12 (by decide) ?_
    exact x_vret hx hb hr hlocks hK hP hS h dX6_expectKeyword_19
def fn_X6_expectSign (v1 : Int32) (z : St) : Option (St) := bd (fn_X6_isSign  v1 z) (fun r2 z3 => (if r2 = 0 then bv (fn_X6_refuse   z3) (fun z6 => some z6) else bv (fn_X6_advance   z3) (fun z8 => some z8)))
set_option maxHeartbeats 4000000 in
set_option maxRecDepth 100000 in
theorem m_X6_expectSign {l : Launch} {G : wG} (hG : Ok G) {v1 : Int32} {z : St} {Rz : St}  (h : fn_X6_expectSign  v1 z = some Rz) : Met l yX6_expectSign wsX6_expectSign (rmd 4) (va_Pc [.ref (G.2.2 32), .int v1] (Pre G z)) (va_Qv (fun u => u = Rz) (Pre G) (AW G)) 0 0 (AW G) := by
  refine Met.ofW (cc := cX6_expectSign) (maxL := 2) (ret := none) (by decide) rfl ?_
  intro p e s m args below meth c s₁ B hml hv
  obtain ⟨rfl, hP, hK⟩ := hv
  have C : CX p s m ([.ref (G.2.2 32), .int v1] : List Value).toArray meth c cX6_expectSign 2 wsX6_expectSign RX6 none G := ⟨B.exec, B.bytes, hml, findClass_of_methodNamed B.named, atoms_spec (ws := wsX6_expectSign) B.pre, B.returns, B.notSynchronized, hK, hG⟩
  obtain ⟨hx, hb, -, hown, hts, hr, hlocks, -, -⟩ := id C
  have hS : va_S (AW G) s.heap s.heap [] := va_S.rf
  have hl := lv_entry [.ref (G.2.2 32), .int v1] (n := 2) (Nat.le_of_ble_eq_true rfl)
  rw [lg_entry_eq]
  generalize (lg_sl [.ref (G.2.2 32), .int v1] ++ List.replicate (2 - (lg_sl [.ref (G.2.2 32), .int v1]).length) Slot.unset).toArray = ls at hl ⊢
  have hl : lv_has ls 2 [(0, .ref (G.2.2 32)), (1, .int v1)] := hl
  unfold fn_X6_expectSign at h
  refine lv_aload_n hx hb dX6_expectSign_0 rfl (lv_at hl 0 rfl) ?_
  refine lv_iload_n hx hb dX6_expectSign_1 rfl (lv_at hl 1 rfl) ?_
  obtain ⟨r2, z3, h1, h⟩ := bd_s h
  refine x_Vi (Rz := (r2, z3)) (As := [.int v1]) (rest := []) ⟨hx, hb, hml, hown, hts⟩ hK hP hS (kd_lt k_32 (by decide)) (cell_6 k_32) rfl (m_X6_isSign hG   h1) (cwV 1 hts gX6_expectSign_X6_isSign rfl rfl rfl (by decide +kernel) (rmd_ok (by decide) (by decide))) rfl hl.1 rfl (Nat.le_of_ble_eq_true rfl) dX6_expectSign_2 ⟨Nat.le_refl _, Nat.le_refl _⟩ (fun H locs hP hS => ?_)
  refine lv_if_eq (tgt := 15) hx hb dX6_expectSign_5 (by decide) (fun c4 => ?_) (fun c4 => ?_)
  · rw [if_pos c4] at h
    refine lv_aload_n hx hb dX6_expectSign_15 rfl (lv_at hl 0 rfl) ?_
    obtain ⟨z6, h5, h⟩ := bv_s h
    refine x_Vv (Rz := z6) (As := []) (rest := []) ⟨hx, hb, hml, hown, hts⟩ hK hP hS (kd_lt k_32 (by decide)) (cell_6 k_32) rfl (m_X6_refuse hG   h5) (cwV 0 hts gX6_expectSign_X6_refuse rfl rfl rfl (by decide +kernel) (rmd_ok (by decide) (by decide))) rfl hl.1 rfl (Nat.le_of_ble_eq_true rfl) dX6_expectSign_16 ⟨Nat.le_refl _, Nat.le_refl _⟩ (fun H locs hP hS => ?_)
    exact x_vret hx hb hr hlocks hK hP hS h dX6_expectSign_19
  · rw [if_neg c4] at h
    refine lv_aload_n hx hb dX6_expectSign_8 rfl (lv_at hl 0 rfl) ?_
    obtain ⟨z8, h7, h⟩ := bv_s h
    refine x_Vv (Rz := z8) (As := []) (rest := []) ⟨hx, hb, hml, hown, hts⟩ hK hP hS (kd_lt k_32 (by decide)) (cell_6 k_32) rfl (m_X6_advance hG   h7) (cwV 0 hts gX6_expectSign_X6_advance rfl rfl rfl (by decide +kernel) (rmd_ok (by decide) (by decide))) rfl hl.1 rfl (Nat.le_of_ble_eq_true rfl) dX6_expectSign_9 ⟨Nat.le_refl _, Nat.le_refl _⟩ (fun H locs hP hS => ?_)
    refine lv_goto (tgt := 19) hx hb dX6_expectSign_12 (by decide) ?_
    exact x_vret hx hb hr hlocks hK hP hS h dX6_expectSign_19
theorem in_X6_numberWithin_X6 : ∀ w ∈ wsX60, w ∈ wsX6_numberWithin := fun _ h => (List.mem_cons_of_mem _ (List.mem_append_right _ h))
def fn_X6_numberWithin_15 (v1 : Int32) (z : St) : Option (Int32 × St) := bv (fn_X6_refuse   z) (fun z2 => some (v1, z2))
set_option maxHeartbeats 4000000 in
set_option maxRecDepth 100000 in
theorem pf_X6_numberWithin_15 {p : Program} {l : Launch} {e : Env} {s : State} {m : MethodId} {args : Array Value} {below : List Frame} {meth : Method} {c : Code} {G : wG} (C : CX p s m args meth c cX6_numberWithin 4 wsX6_numberWithin RX6 (some .int) G) {Rz : Int32 × St} (v1 : Int32) (z : St)  {H : Heap} {locs : List Loc} {ls : Array Slot} (hP : WP G z H) (hS : va_S (AW G) s.heap H locs) (hl : lv_has ls 4 [(0, .ref (G.2.2 32)), (1, .int v1)]) (h : fn_X6_numberWithin_15   v1 z = some Rz) : W p l e (rmd 4) s m args below meth c H locs 0 0 (QI below args s G Rz) (F0 m 15 ls []) := by
  obtain ⟨hx, hb, hml, hown, hts, hr, hlocks, hK, hG⟩ := id C
  unfold fn_X6_numberWithin_15 at h
  refine lv_aload_n hx hb dX6_numberWithin_15 rfl (lv_at hl 0 rfl) ?_
  obtain ⟨z2, h1, h⟩ := bv_s h
  refine x_Vv (Rz := z2) (As := []) (rest := []) ⟨hx, hb, hml, hown, hts⟩ hK hP hS (kd_lt k_32 (by decide)) (cell_6 k_32) rfl (m_X6_refuse hG   h1) (cwV 0 hts gX6_numberWithin_X6_refuse rfl rfl rfl (by decide +kernel) (rmd_ok (by decide) (by decide))) rfl hl.1 rfl (Nat.le_of_ble_eq_true rfl) dX6_numberWithin_16 ⟨Nat.le_refl _, Nat.le_refl _⟩ (fun H locs hP hS => ?_)
  refine lv_iload_n hx hb dX6_numberWithin_19 rfl (lv_at hl 1 rfl) ?_
  exact x_iret hx hb hr hlocks hK hP hS h dX6_numberWithin_20
def fn_X6_numberWithin_37 (v1 : Int32) (z : St) : Option (Int32 × St) := bv (fn_X6_keepFault  4 z) (fun z2 => some (v1, z2))
set_option maxHeartbeats 4000000 in
set_option maxRecDepth 100000 in
theorem pf_X6_numberWithin_37 {p : Program} {l : Launch} {e : Env} {s : State} {m : MethodId} {args : Array Value} {below : List Frame} {meth : Method} {c : Code} {G : wG} (C : CX p s m args meth c cX6_numberWithin 4 wsX6_numberWithin RX6 (some .int) G) {Rz : Int32 × St} (v1 : Int32) (z : St)  {H : Heap} {locs : List Loc} {ls : Array Slot} (hP : WP G z H) (hS : va_S (AW G) s.heap H locs) (hl : lv_has ls 4 [(0, .ref (G.2.2 32)), (1, .int v1)]) (h : fn_X6_numberWithin_37   v1 z = some Rz) : W p l e (rmd 4) s m args below meth c H locs 0 0 (QI below args s G Rz) (F0 m 37 ls []) := by
  obtain ⟨hx, hb, hml, hown, hts, hr, hlocks, hK, hG⟩ := id C
  unfold fn_X6_numberWithin_37 at h
  refine lv_aload_n hx hb dX6_numberWithin_37 rfl (lv_at hl 0 rfl) ?_
  refine lv_iconst (v := 4) hx hb dX6_numberWithin_38 (by decide) ?_
  obtain ⟨z2, h1, h⟩ := bv_s h
  refine x_Vv (Rz := z2) (As := [.int 4]) (rest := []) ⟨hx, hb, hml, hown, hts⟩ hK hP hS (kd_lt k_32 (by decide)) (cell_6 k_32) rfl (m_X6_keepFault hG   h1) (cwV 1 hts gX6_numberWithin_X6_keepFault rfl rfl rfl (by decide +kernel) (rmd_ok (by decide) (by decide))) rfl hl.1 rfl (Nat.le_of_ble_eq_true rfl) dX6_numberWithin_39 ⟨Nat.le_refl _, Nat.le_refl _⟩ (fun H locs hP hS => ?_)
  refine lv_iload_n hx hb dX6_numberWithin_42 rfl (lv_at hl 1 rfl) ?_
  exact x_iret hx hb hr hlocks hK hP hS h dX6_numberWithin_43
def fn_X6_numberWithin (v1 : Int32) (v2 : Int32) (z : St) : Option (Int32 × St) := (if (z.1 32 11) = 0 then (if (z.1 32 5) = 2 then (if (z.1 32 7) < v1 then fn_X6_numberWithin_37   v1 z else (if (z.1 32 7) ≤ v2 then nm (z.1 32 7) (fun v3_5 => bv (fn_X6_advance   z) (fun z7 => some (v3_5, z7))) else fn_X6_numberWithin_37   v1 z)) else fn_X6_numberWithin_15   v1 z) else fn_X6_numberWithin_15   v1 z)
set_option maxHeartbeats 4000000 in
set_option maxRecDepth 100000 in
theorem m_X6_numberWithin {l : Launch} {G : wG} (hG : Ok G) {v1 : Int32} {v2 : Int32} {z : St} {Rz : Int32 × St}  (h : fn_X6_numberWithin  v1 v2 z = some Rz) : Met l yX6_numberWithin wsX6_numberWithin (rmd 4) (va_Pc [.ref (G.2.2 32), .int v1, .int v2] (Pre G z)) (va_Qi (fun r u => (r, u) = Rz) (Pre G) (AW G)) 0 0 (AW G) := by
  refine Met.ofW (cc := cX6_numberWithin) (maxL := 4) (ret := (some .int)) (by decide) rfl ?_
  intro p e s m args below meth c s₁ B hml hv
  obtain ⟨rfl, hP, hK⟩ := hv
  have C : CX p s m ([.ref (G.2.2 32), .int v1, .int v2] : List Value).toArray meth c cX6_numberWithin 4 wsX6_numberWithin RX6 (some .int) G := ⟨B.exec, B.bytes, hml, findClass_of_methodNamed B.named, atoms_spec (ws := wsX6_numberWithin) B.pre, B.returns, B.notSynchronized, hK, hG⟩
  obtain ⟨hx, hb, -, hown, hts, hr, hlocks, -, -⟩ := id C
  have hS : va_S (AW G) s.heap s.heap [] := va_S.rf
  have hl := lv_entry [.ref (G.2.2 32), .int v1, .int v2] (n := 4) (Nat.le_of_ble_eq_true rfl)
  rw [lg_entry_eq]
  generalize (lg_sl [.ref (G.2.2 32), .int v1, .int v2] ++ List.replicate (4 - (lg_sl [.ref (G.2.2 32), .int v1, .int v2]).length) Slot.unset).toArray = ls at hl ⊢
  have hl : lv_has ls 4 [(0, .ref (G.2.2 32)), (1, .int v1), (2, .int v2)] := hl
  unfold fn_X6_numberWithin at h
  refine lv_aload_n hx hb dX6_numberWithin_0 rfl (lv_at hl 0 rfl) ?_
  refine ge_6_11 hx hb hts in_X6_numberWithin_X6 hown hK hP k_32 (hts _ (List.mem_of_getElem? (i := 1) rfl)) dX6_numberWithin_1 ?_
  refine lv_if_ne (tgt := 15) hx hb dX6_numberWithin_4 (by decide) (fun c1 => ?_) (fun c1 => ?_)
  · rw [if_neg c1] at h
    exact pf_X6_numberWithin_15 C   v1 z  hP hS (lv_sub hl [0, 1] rfl) h
  · rw [if_pos c1] at h
    refine lv_aload_n hx hb dX6_numberWithin_7 rfl (lv_at hl 0 rfl) ?_
    refine ge_6_5 hx hb hts in_X6_numberWithin_X6 hown hK hP k_32 (hts _ (List.mem_of_getElem? (i := 2) rfl)) dX6_numberWithin_8 ?_
    refine lv_iconst (v := 2) hx hb dX6_numberWithin_11 (by decide) ?_
    refine lv_icmp_eq (tgt := 21) hx hb dX6_numberWithin_12 (by decide) (fun c2 => ?_) (fun c2 => ?_)
    · rw [if_pos c2] at h
      refine lv_aload_n hx hb dX6_numberWithin_21 rfl (lv_at hl 0 rfl) ?_
      refine ge_6_7 hx hb hts in_X6_numberWithin_X6 hown hK hP k_32 (hts _ (List.mem_of_getElem? (i := 3) rfl)) dX6_numberWithin_22 ?_
      refine lv_iload_n hx hb dX6_numberWithin_25 rfl (lv_at hl 1 rfl) ?_
      refine lv_icmp_lt (tgt := 37) hx hb dX6_numberWithin_26 (by decide) (fun c3 => ?_) (fun c3 => ?_)
      · rw [if_pos c3] at h
        exact pf_X6_numberWithin_37 C   v1 z  hP hS (lv_sub hl [0, 1] rfl) h
      · rw [if_neg c3] at h
        refine lv_aload_n hx hb dX6_numberWithin_29 rfl (lv_at hl 0 rfl) ?_
        refine ge_6_7 hx hb hts in_X6_numberWithin_X6 hown hK hP k_32 (hts _ (List.mem_of_getElem? (i := 3) rfl)) dX6_numberWithin_30 ?_
        refine lv_iload_n hx hb dX6_numberWithin_33 rfl (lv_at hl 2 rfl) ?_
        refine lv_icmp_le (tgt := 44) hx hb dX6_numberWithin_34 (by decide) (fun c4 => ?_) (fun c4 => ?_)
        · rw [if_pos c4] at h
          refine lv_aload_n hx hb dX6_numberWithin_44 rfl (lv_at hl 0 rfl) ?_
          refine ge_6_7 hx hb hts in_X6_numberWithin_X6 hown hK hP k_32 (hts _ (List.mem_of_getElem? (i := 3) rfl)) dX6_numberWithin_45 ?_
          obtain ⟨v3_5, e_v3_5, h⟩ := nm_s h
          refine x_top e_v3_5 ?_
          refine lv_istore_n (lv' := [(3, .int v3_5), (0, .ref (G.2.2 32)), (1, .int v1), (2, .int v2)]) hx hb dX6_numberWithin_48 rfl hl (by decide) rfl (fun ls hl => ?_)
          refine lv_aload_n hx hb dX6_numberWithin_49 rfl (lv_at hl 1 rfl) ?_
          obtain ⟨z7, h6, h⟩ := bv_s h
          refine x_Vv (Rz := z7) (As := []) (rest := []) ⟨hx, hb, hml, hown, hts⟩ hK hP hS (kd_lt k_32 (by decide)) (cell_6 k_32) rfl (m_X6_advance hG   h6) (cwV 0 hts gX6_numberWithin_X6_advance rfl rfl rfl (by decide +kernel) (rmd_ok (by decide) (by decide))) rfl hl.1 rfl (Nat.le_of_ble_eq_true rfl) dX6_numberWithin_50 ⟨Nat.le_refl _, Nat.le_refl _⟩ (fun H locs hP hS => ?_)
          refine lv_iload_n hx hb dX6_numberWithin_53 rfl (lv_at hl 0 rfl) ?_
          exact x_iret hx hb hr hlocks hK hP hS h dX6_numberWithin_54
        · rw [if_neg c4] at h
          exact pf_X6_numberWithin_37 C   v1 z  hP hS (lv_sub hl [0, 1] rfl) h
    · rw [if_neg c2] at h
      exact pf_X6_numberWithin_15 C   v1 z  hP hS (lv_sub hl [0, 1] rfl) h
theorem in_X6_newName_X6 : ∀ w ∈ wsX60, w ∈ wsX6_newName := fun _ h => (List.mem_cons_of_mem _ (List.mem_append_right _ h))
def fn_X6_newName_29  (z : St) : Option (St) := bv (fn_X6_refuse   z) (fun z2 => some z2)
set_option maxHeartbeats 4000000 in
set_option maxRecDepth 100000 in
theorem pf_X6_newName_29 {p : Program} {l : Launch} {e : Env} {s : State} {m : MethodId} {args : Array Value} {below : List Frame} {meth : Method} {c : Code} {G : wG} (C : CX p s m args meth c cX6_newName 4 wsX6_newName RX6 none G) {Rz : St}  (z : St)  {H : Heap} {locs : List Loc} {ls : Array Slot} (hP : WP G z H) (hS : va_S (AW G) s.heap H locs) (hl : lv_has ls 4 [(0, .ref (G.2.2 32))]) (h : fn_X6_newName_29    z = some Rz) : W p l e (rmd 4) s m args below meth c H locs 0 0 (QV below args s G Rz) (F0 m 29 ls []) := by
  obtain ⟨hx, hb, hml, hown, hts, hr, hlocks, hK, hG⟩ := id C
  unfold fn_X6_newName_29 at h
  refine lv_aload_n hx hb dX6_newName_29 rfl (lv_at hl 0 rfl) ?_
  obtain ⟨z2, h1, h⟩ := bv_s h
  refine x_Vv (Rz := z2) (As := []) (rest := []) ⟨hx, hb, hml, hown, hts⟩ hK hP hS (kd_lt k_32 (by decide)) (cell_6 k_32) rfl (m_X6_refuse hG   h1) (cwV 0 hts gX6_newName_X6_refuse rfl rfl rfl (by decide +kernel) (rmd_ok (by decide) (by decide))) rfl hl.1 rfl (Nat.le_of_ble_eq_true rfl) dX6_newName_30 ⟨Nat.le_refl _, Nat.le_refl _⟩ (fun H locs hP hS => ?_)
  exact x_vret hx hb hr hlocks hK hP hS h dX6_newName_33
def fn_X6_newName_36 : Nat → Nat → Int32 → Int32 → St → Option (St)
  | 0, _, _, _, _ => none
  | n + 1, p1, v2, v3, z => (if v2 ≤ v3 then gd (ix v2 (ln p1)) (nm (sJ z p1 (Int32.toNatClampNeg v2) (z.2 32 8)) (fun z3 => bv (fn_X6_advance   z3) (fun z5 => some z5))) else gd (ix v3 (ln p1)) ((if (lg_cmp (z.2 p1 (Int32.toNatClampNeg v3)) (z.2 32 8)) = 0 then bv (fn_X6_keepFault  3 z) (fun z9 => some z9) else fn_X6_newName_36   n p1 v2 (v3 + 1) z)))
set_option maxHeartbeats 4000000 in
set_option maxRecDepth 100000 in
theorem pf_X6_newName_36 {p : Program} {l : Launch} {e : Env} {s : State} {m : MethodId} {args : Array Value} {below : List Frame} {meth : Method} {c : Code} {G : wG} (C : CX p s m args meth c cX6_newName 4 wsX6_newName RX6 none G) {Rz : St} : ∀ (n : Nat) (p1 : Nat) (v2 : Int32) (v3 : Int32) (z : St) (hk1 : kd p1 = 15) (H : Heap) (locs : List Loc) (ls : Array Slot), WP G z H → va_S (AW G) s.heap H locs → lv_has ls 4 [(0, .ref (G.2.2 32)), (1, .ref (G.2.2 p1)), (2, .int v2), (3, .int v3)] → fn_X6_newName_36   n p1 v2 v3 z = some Rz → W p l e (rmd 4) s m args below meth c H locs 0 0 (QV below args s G Rz) (F0 m 36 ls []) := by
  obtain ⟨hx, hb, hml, hown, hts, hr, hlocks, hK, hG⟩ := id C
  intro n
  induction n with
  | zero => intro p1 v2 v3 z hk1 H locs ls hP hS hl h; cases h
  | succ n ih =>
    intro p1 v2 v3 z hk1 H locs ls hP hS hl h
    rw [fn_X6_newName_36] at h
    refine lv_iload_n hx hb dX6_newName_36 rfl (lv_at hl 3 rfl) ?_
    refine lv_iload_n hx hb dX6_newName_37 rfl (lv_at hl 2 rfl) ?_
    refine lv_icmp_ge (tgt := 64) hx hb dX6_newName_38 (by decide) (fun c1 => ?_) (fun c1 => ?_)
    · rw [if_pos c1] at h
      refine lv_aload_n hx hb dX6_newName_64 rfl (lv_at hl 1 rfl) ?_
      refine lv_iload_n hx hb dX6_newName_65 rfl (lv_at hl 2 rfl) ?_
      refine lv_aload_n hx hb dX6_newName_66 rfl (lv_at hl 0 rfl) ?_
      refine ge_6_8 hx hb hts in_X6_newName_X6 hown hK hP k_32 (hts _ (List.mem_of_getElem? (i := 4) rfl)) dX6_newName_67 ?_
      obtain ⟨g2, h⟩ := gd_s h
      obtain ⟨z3, e_z3, h⟩ := nm_s h
      refine xs_15 hx hb hK hG hP hS hk1 rfl (ix_in g2) dX6_newName_70 (fun H locs hP hS => ?_)
      rw [← e_z3] at hP
      refine lv_aload_n hx hb dX6_newName_71 rfl (lv_at hl 0 rfl) ?_
      obtain ⟨z5, h4, h⟩ := bv_s h
      refine x_Vv (Rz := z5) (As := []) (rest := []) ⟨hx, hb, hml, hown, hts⟩ hK hP hS (kd_lt k_32 (by decide)) (cell_6 k_32) rfl (m_X6_advance hG   h4) (cwV 0 hts gX6_newName_X6_advance rfl rfl rfl (by decide +kernel) (rmd_ok (by decide) (by decide))) rfl hl.1 rfl (Nat.le_of_ble_eq_true rfl) dX6_newName_72 ⟨Nat.le_refl _, Nat.le_refl _⟩ (fun H locs hP hS => ?_)
      exact x_vret hx hb hr hlocks hK hP hS h dX6_newName_75
    · rw [if_neg c1] at h
      refine lv_aload_n hx hb dX6_newName_41 rfl (lv_at hl 1 rfl) ?_
      refine lv_iload_n hx hb dX6_newName_42 rfl (lv_at hl 3 rfl) ?_
      obtain ⟨g6, h⟩ := gd_s h
      refine xl_15 hx hb hK hP hk1 rfl (ix_in g6) dX6_newName_43 ?_
      refine lv_aload_n hx hb dX6_newName_44 rfl (lv_at hl 0 rfl) ?_
      refine ge_6_8 hx hb hts in_X6_newName_X6 hown hK hP k_32 (hts _ (List.mem_of_getElem? (i := 4) rfl)) dX6_newName_45 ?_
      refine W.lcmp hx hb dX6_newName_48 ?_
      refine lv_if_ne (tgt := 58) hx hb dX6_newName_49 (by decide) (fun c7 => ?_) (fun c7 => ?_)
      · rw [if_neg c7] at h
        refine lv_iinc (v := (v3 + 1)) (lv' := [(3, .int (v3 + 1)), (0, .ref (G.2.2 32)), (1, .ref (G.2.2 p1)), (2, .int v2)]) hx hb dX6_newName_58 hl (k := 3) rfl rfl (by decide) rfl (fun ls hl => ?_)
        refine lv_goto (tgt := 36) hx hb dX6_newName_61 (by decide) ?_
        exact ih p1 v2 (v3 + 1) z hk1 _ _ _ hP hS (lv_sub hl [1, 2, 3, 0] rfl) h
      · rw [if_pos c7] at h
        refine lv_aload_n hx hb dX6_newName_52 rfl (lv_at hl 0 rfl) ?_
        refine lv_iconst (v := 3) hx hb dX6_newName_53 (by decide) ?_
        obtain ⟨z9, h8, h⟩ := bv_s h
        refine x_Vv (Rz := z9) (As := [.int 3]) (rest := []) ⟨hx, hb, hml, hown, hts⟩ hK hP hS (kd_lt k_32 (by decide)) (cell_6 k_32) rfl (m_X6_keepFault hG   h8) (cwV 1 hts gX6_newName_X6_keepFault rfl rfl rfl (by decide +kernel) (rmd_ok (by decide) (by decide))) rfl hl.1 rfl (Nat.le_of_ble_eq_true rfl) dX6_newName_54 ⟨Nat.le_refl _, Nat.le_refl _⟩ (fun H locs hP hS => ?_)
        exact x_vret hx hb hr hlocks hK hP hS h dX6_newName_57
def fn_X6_newName (p1 : Nat) (v2 : Int32) (z : St) : Option (St) := (if (z.1 32 11) = 0 then (if (z.1 32 5) = 1 then (if (z.1 32 9) = (-1) then (if v2 < (Int32.ofNat (ln p1)) then fn_X6_newName_36   fu p1 v2 0 z else fn_X6_newName_29    z) else fn_X6_newName_29    z) else fn_X6_newName_29    z) else fn_X6_newName_29    z)
set_option maxHeartbeats 4000000 in
set_option maxRecDepth 100000 in
theorem m_X6_newName {l : Launch} {G : wG} (hG : Ok G) {p1 : Nat} {v2 : Int32} {z : St} {Rz : St} (hk1 : kd p1 = 15) (h : fn_X6_newName  p1 v2 z = some Rz) : Met l yX6_newName wsX6_newName (rmd 4) (va_Pc [.ref (G.2.2 32), .ref (G.2.2 p1), .int v2] (Pre G z)) (va_Qv (fun u => u = Rz) (Pre G) (AW G)) 0 0 (AW G) := by
  refine Met.ofW (cc := cX6_newName) (maxL := 4) (ret := none) (by decide) rfl ?_
  intro p e s m args below meth c s₁ B hml hv
  obtain ⟨rfl, hP, hK⟩ := hv
  have C : CX p s m ([.ref (G.2.2 32), .ref (G.2.2 p1), .int v2] : List Value).toArray meth c cX6_newName 4 wsX6_newName RX6 none G := ⟨B.exec, B.bytes, hml, findClass_of_methodNamed B.named, atoms_spec (ws := wsX6_newName) B.pre, B.returns, B.notSynchronized, hK, hG⟩
  obtain ⟨hx, hb, -, hown, hts, hr, hlocks, -, -⟩ := id C
  have hS : va_S (AW G) s.heap s.heap [] := va_S.rf
  have hl := lv_entry [.ref (G.2.2 32), .ref (G.2.2 p1), .int v2] (n := 4) (Nat.le_of_ble_eq_true rfl)
  rw [lg_entry_eq]
  generalize (lg_sl [.ref (G.2.2 32), .ref (G.2.2 p1), .int v2] ++ List.replicate (4 - (lg_sl [.ref (G.2.2 32), .ref (G.2.2 p1), .int v2]).length) Slot.unset).toArray = ls at hl ⊢
  have hl : lv_has ls 4 [(0, .ref (G.2.2 32)), (1, .ref (G.2.2 p1)), (2, .int v2)] := hl
  unfold fn_X6_newName at h
  refine lv_aload_n hx hb dX6_newName_0 rfl (lv_at hl 0 rfl) ?_
  refine ge_6_11 hx hb hts in_X6_newName_X6 hown hK hP k_32 (hts _ (List.mem_of_getElem? (i := 1) rfl)) dX6_newName_1 ?_
  refine lv_if_ne (tgt := 29) hx hb dX6_newName_4 (by decide) (fun c1 => ?_) (fun c1 => ?_)
  · rw [if_neg c1] at h
    exact pf_X6_newName_29 C    z  hP hS (lv_sub hl [0] rfl) h
  · rw [if_pos c1] at h
    refine lv_aload_n hx hb dX6_newName_7 rfl (lv_at hl 0 rfl) ?_
    refine ge_6_5 hx hb hts in_X6_newName_X6 hown hK hP k_32 (hts _ (List.mem_of_getElem? (i := 2) rfl)) dX6_newName_8 ?_
    refine lv_iconst (v := 1) hx hb dX6_newName_11 (by decide) ?_
    refine lv_icmp_ne (tgt := 29) hx hb dX6_newName_12 (by decide) (fun c2 => ?_) (fun c2 => ?_)
    · rw [if_neg c2] at h
      exact pf_X6_newName_29 C    z  hP hS (lv_sub hl [0] rfl) h
    · rw [if_pos c2] at h
      refine lv_aload_n hx hb dX6_newName_15 rfl (lv_at hl 0 rfl) ?_
      refine ge_6_9 hx hb hts in_X6_newName_X6 hown hK hP k_32 (hts _ (List.mem_of_getElem? (i := 3) rfl)) dX6_newName_16 ?_
      refine lv_iconst (v := (-1)) hx hb dX6_newName_19 (by decide) ?_
      refine lv_icmp_ne (tgt := 29) hx hb dX6_newName_20 (by decide) (fun c3 => ?_) (fun c3 => ?_)
      · rw [if_neg c3] at h
        exact pf_X6_newName_29 C    z  hP hS (lv_sub hl [0] rfl) h
      · rw [if_pos c3] at h
        refine lv_iload_n hx hb dX6_newName_23 rfl (lv_at hl 2 rfl) ?_
        refine lv_aload_n hx hb dX6_newName_24 rfl (lv_at hl 1 rfl) ?_
        refine xn_15 hx hb hK hP hk1 rfl rfl dX6_newName_25 ?_
        refine lv_icmp_lt (tgt := 34) hx hb dX6_newName_26 (by decide) (fun c4 => ?_) (fun c4 => ?_)
        · rw [if_pos c4] at h
          refine lv_iconst (v := 0) hx hb dX6_newName_34 (by decide) ?_
          refine lv_istore_n (lv' := [(3, .int 0), (0, .ref (G.2.2 32)), (1, .ref (G.2.2 p1)), (2, .int v2)]) hx hb dX6_newName_35 rfl hl (by decide) rfl (fun ls hl => ?_)
          exact pf_X6_newName_36 C   fu p1 v2 0 z hk1 _ _ _ hP hS (lv_sub hl [1, 2, 3, 0] rfl) h
        · rw [if_neg c4] at h
          exact pf_X6_newName_29 C    z  hP hS (lv_sub hl [0] rfl) h
theorem in_X6_plainUnit_X6 : ∀ w ∈ wsX60, w ∈ wsX6_plainUnit := fun _ h => (List.mem_cons_of_mem _ (List.mem_append_right _ h))
def fn_X6_plainUnit_26 (tv0 : Int32) (z : St) : Option (Int32 × St) := (if tv0 = 5 then some (3, z) else (if tv0 = 6 then some ((-1), z) else (if tv0 = 7 then some ((-1), z) else (if tv0 = 8 then some ((-1), z) else (if tv0 = 9 then some ((-1), z) else (if tv0 = 10 then some ((-1), z) else (if tv0 = 11 then some ((-1), z) else (if tv0 = 12 then some ((-1), z) else (if tv0 = 13 then some ((-1), z) else (if tv0 = 14 then some (1, z) else (if tv0 = 15 then some (2, z) else (if tv0 = 16 then some (4, z) else (if tv0 = 17 then some (5, z) else (if tv0 = 18 then some (6, z) else (some ((-1), z))))))))))))))))
set_option maxHeartbeats 4000000 in
set_option maxRecDepth 100000 in
theorem pf_X6_plainUnit_26 {p : Program} {l : Launch} {e : Env} {s : State} {m : MethodId} {args : Array Value} {below : List Frame} {meth : Method} {c : Code} {G : wG} (C : CX p s m args meth c cX6_plainUnit 1 wsX6_plainUnit RX6 (some .int) G) {Rz : Int32 × St} (tv0 : Int32) (z : St)  {H : Heap} {locs : List Loc} {ls : Array Slot} (hP : WP G z H) (hS : va_S (AW G) s.heap H locs) (hl : lv_has ls 1 []) (h : fn_X6_plainUnit_26   tv0 z = some Rz) : W p l e (rmd 1) s m args below meth c H locs 0 0 (QI below args s G Rz) (F0 m 26 ls [.int tv0]) := by
  obtain ⟨hx, hb, hml, hown, hts, hr, hlocks, hK, hG⟩ := id C
  unfold fn_X6_plainUnit_26 at h
  by_cases c1 : tv0 = 5
  · rw [if_pos c1] at h
    refine lv_tableIn (off := 74) (tgt := 100) hx hb dX6_plainUnit_26 (by rw [c1]; decide) (by rw [c1]; decide) (by rw [c1]; rfl) (by decide) ?_
    refine lv_iconst (v := 3) hx hb dX6_plainUnit_100 (by decide) ?_
    exact x_iret hx hb hr hlocks hK hP hS h dX6_plainUnit_101
  rw [if_neg c1] at h
  by_cases c2 : tv0 = 6
  · rw [if_pos c2] at h
    refine lv_tableIn (off := 83) (tgt := 109) hx hb dX6_plainUnit_26 (by rw [c2]; decide) (by rw [c2]; decide) (by rw [c2]; rfl) (by decide) ?_
    refine lv_iconst (v := (-1)) hx hb dX6_plainUnit_109 (by decide) ?_
    exact x_iret hx hb hr hlocks hK hP hS h dX6_plainUnit_110
  rw [if_neg c2] at h
  by_cases c3 : tv0 = 7
  · rw [if_pos c3] at h
    refine lv_tableIn (off := 83) (tgt := 109) hx hb dX6_plainUnit_26 (by rw [c3]; decide) (by rw [c3]; decide) (by rw [c3]; rfl) (by decide) ?_
    refine lv_iconst (v := (-1)) hx hb dX6_plainUnit_109 (by decide) ?_
    exact x_iret hx hb hr hlocks hK hP hS h dX6_plainUnit_110
  rw [if_neg c3] at h
  by_cases c4 : tv0 = 8
  · rw [if_pos c4] at h
    refine lv_tableIn (off := 83) (tgt := 109) hx hb dX6_plainUnit_26 (by rw [c4]; decide) (by rw [c4]; decide) (by rw [c4]; rfl) (by decide) ?_
    refine lv_iconst (v := (-1)) hx hb dX6_plainUnit_109 (by decide) ?_
    exact x_iret hx hb hr hlocks hK hP hS h dX6_plainUnit_110
  rw [if_neg c4] at h
  by_cases c5 : tv0 = 9
  · rw [if_pos c5] at h
    refine lv_tableIn (off := 83) (tgt := 109) hx hb dX6_plainUnit_26 (by rw [c5]; decide) (by rw [c5]; decide) (by rw [c5]; rfl) (by decide) ?_
    refine lv_iconst (v := (-1)) hx hb dX6_plainUnit_109 (by decide) ?_
    exact x_iret hx hb hr hlocks hK hP hS h dX6_plainUnit_110
  rw [if_neg c5] at h
  by_cases c6 : tv0 = 10
  · rw [if_pos c6] at h
    refine lv_tableIn (off := 83) (tgt := 109) hx hb dX6_plainUnit_26 (by rw [c6]; decide) (by rw [c6]; decide) (by rw [c6]; rfl) (by decide) ?_
    refine lv_iconst (v := (-1)) hx hb dX6_plainUnit_109 (by decide) ?_
    exact x_iret hx hb hr hlocks hK hP hS h dX6_plainUnit_110
  rw [if_neg c6] at h
  by_cases c7 : tv0 = 11
  · rw [if_pos c7] at h
    refine lv_tableIn (off := 83) (tgt := 109) hx hb dX6_plainUnit_26 (by rw [c7]; decide) (by rw [c7]; decide) (by rw [c7]; rfl) (by decide) ?_
    refine lv_iconst (v := (-1)) hx hb dX6_plainUnit_109 (by decide) ?_
    exact x_iret hx hb hr hlocks hK hP hS h dX6_plainUnit_110
  rw [if_neg c7] at h
  by_cases c8 : tv0 = 12
  · rw [if_pos c8] at h
    refine lv_tableIn (off := 83) (tgt := 109) hx hb dX6_plainUnit_26 (by rw [c8]; decide) (by rw [c8]; decide) (by rw [c8]; rfl) (by decide) ?_
    refine lv_iconst (v := (-1)) hx hb dX6_plainUnit_109 (by decide) ?_
    exact x_iret hx hb hr hlocks hK hP hS h dX6_plainUnit_110
  rw [if_neg c8] at h
  by_cases c9 : tv0 = 13
  · rw [if_pos c9] at h
    refine lv_tableIn (off := 83) (tgt := 109) hx hb dX6_plainUnit_26 (by rw [c9]; decide) (by rw [c9]; decide) (by rw [c9]; rfl) (by decide) ?_
    refine lv_iconst (v := (-1)) hx hb dX6_plainUnit_109 (by decide) ?_
    exact x_iret hx hb hr hlocks hK hP hS h dX6_plainUnit_110
  rw [if_neg c9] at h
  by_cases c10 : tv0 = 14
  · rw [if_pos c10] at h
    refine lv_tableIn (off := 70) (tgt := 96) hx hb dX6_plainUnit_26 (by rw [c10]; decide) (by rw [c10]; decide) (by rw [c10]; rfl) (by decide) ?_
    refine lv_iconst (v := 1) hx hb dX6_plainUnit_96 (by decide) ?_
    exact x_iret hx hb hr hlocks hK hP hS h dX6_plainUnit_97
  rw [if_neg c10] at h
  by_cases c11 : tv0 = 15
  · rw [if_pos c11] at h
    refine lv_tableIn (off := 72) (tgt := 98) hx hb dX6_plainUnit_26 (by rw [c11]; decide) (by rw [c11]; decide) (by rw [c11]; rfl) (by decide) ?_
    refine lv_iconst (v := 2) hx hb dX6_plainUnit_98 (by decide) ?_
    exact x_iret hx hb hr hlocks hK hP hS h dX6_plainUnit_99
  rw [if_neg c11] at h
  by_cases c12 : tv0 = 16
  · rw [if_pos c12] at h
    refine lv_tableIn (off := 76) (tgt := 102) hx hb dX6_plainUnit_26 (by rw [c12]; decide) (by rw [c12]; decide) (by rw [c12]; rfl) (by decide) ?_
    refine lv_iconst (v := 4) hx hb dX6_plainUnit_102 (by decide) ?_
    exact x_iret hx hb hr hlocks hK hP hS h dX6_plainUnit_103
  rw [if_neg c12] at h
  by_cases c13 : tv0 = 17
  · rw [if_pos c13] at h
    refine lv_tableIn (off := 78) (tgt := 104) hx hb dX6_plainUnit_26 (by rw [c13]; decide) (by rw [c13]; decide) (by rw [c13]; rfl) (by decide) ?_
    refine lv_iconst (v := 5) hx hb dX6_plainUnit_104 (by decide) ?_
    exact x_iret hx hb hr hlocks hK hP hS h dX6_plainUnit_105
  rw [if_neg c13] at h
  by_cases c14 : tv0 = 18
  · rw [if_pos c14] at h
    refine lv_tableIn (off := 80) (tgt := 106) hx hb dX6_plainUnit_26 (by rw [c14]; decide) (by rw [c14]; decide) (by rw [c14]; rfl) (by decide) ?_
    refine lv_bipush (v := 6) hx hb dX6_plainUnit_106 (by decide) ?_
    exact x_iret hx hb hr hlocks hK hP hS h dX6_plainUnit_108
  rw [if_neg c14] at h
  have n15 : (tv0 : Int32).toInt < 5 ∨ 18 < (tv0 : Int32).toInt := by
    have c1_n := lv_neT (a := 5) c1 (by decide)
    have c2_n := lv_neT (a := 6) c2 (by decide)
    have c3_n := lv_neT (a := 7) c3 (by decide)
    have c4_n := lv_neT (a := 8) c4 (by decide)
    have c5_n := lv_neT (a := 9) c5 (by decide)
    have c6_n := lv_neT (a := 10) c6 (by decide)
    have c7_n := lv_neT (a := 11) c7 (by decide)
    have c8_n := lv_neT (a := 12) c8 (by decide)
    have c9_n := lv_neT (a := 13) c9 (by decide)
    have c10_n := lv_neT (a := 14) c10 (by decide)
    have c11_n := lv_neT (a := 15) c11 (by decide)
    have c12_n := lv_neT (a := 16) c12 (by decide)
    have c13_n := lv_neT (a := 17) c13 (by decide)
    have c14_n := lv_neT (a := 18) c14 (by decide)
    omega
  refine lv_tableOut (tgt := 109) hx hb dX6_plainUnit_26 n15 (by decide) ?_
  refine lv_iconst (v := (-1)) hx hb dX6_plainUnit_109 (by decide) ?_
  exact x_iret hx hb hr hlocks hK hP hS h dX6_plainUnit_110
def fn_X6_plainUnit  (z : St) : Option (Int32 × St) := (if (z.1 32 5) = 2 then some (0, z) else (if (z.1 32 5) = 1 then fn_X6_plainUnit_26   (z.1 32 9) z else fn_X6_plainUnit_26   (-1) z))
set_option maxHeartbeats 4000000 in
set_option maxRecDepth 100000 in
theorem m_X6_plainUnit {l : Launch} {G : wG} (hG : Ok G)  {z : St} {Rz : Int32 × St}  (h : fn_X6_plainUnit   z = some Rz) : Met l yX6_plainUnit wsX6_plainUnit (rmd 1) (va_Pc [.ref (G.2.2 32)] (Pre G z)) (va_Qi (fun r u => (r, u) = Rz) (Pre G) (AW G)) 0 0 (AW G) := by
  refine Met.ofW (cc := cX6_plainUnit) (maxL := 1) (ret := (some .int)) (by decide) rfl ?_
  intro p e s m args below meth c s₁ B hml hv
  obtain ⟨rfl, hP, hK⟩ := hv
  have C : CX p s m ([.ref (G.2.2 32)] : List Value).toArray meth c cX6_plainUnit 1 wsX6_plainUnit RX6 (some .int) G := ⟨B.exec, B.bytes, hml, findClass_of_methodNamed B.named, atoms_spec (ws := wsX6_plainUnit) B.pre, B.returns, B.notSynchronized, hK, hG⟩
  obtain ⟨hx, hb, -, hown, hts, hr, hlocks, -, -⟩ := id C
  have hS : va_S (AW G) s.heap s.heap [] := va_S.rf
  have hl := lv_entry [.ref (G.2.2 32)] (n := 1) (Nat.le_of_ble_eq_true rfl)
  rw [lg_entry_eq]
  generalize (lg_sl [.ref (G.2.2 32)] ++ List.replicate (1 - (lg_sl [.ref (G.2.2 32)]).length) Slot.unset).toArray = ls at hl ⊢
  have hl : lv_has ls 1 [(0, .ref (G.2.2 32))] := hl
  unfold fn_X6_plainUnit at h
  refine lv_aload_n hx hb dX6_plainUnit_0 rfl (lv_at hl 0 rfl) ?_
  refine ge_6_5 hx hb hts in_X6_plainUnit_X6 hown hK hP k_32 (hts _ (List.mem_of_getElem? (i := 1) rfl)) dX6_plainUnit_1 ?_
  refine lv_iconst (v := 2) hx hb dX6_plainUnit_4 (by decide) ?_
  refine lv_icmp_ne (tgt := 10) hx hb dX6_plainUnit_5 (by decide) (fun c1 => ?_) (fun c1 => ?_)
  · rw [if_neg c1] at h
    refine lv_aload_n hx hb dX6_plainUnit_10 rfl (lv_at hl 0 rfl) ?_
    refine ge_6_5 hx hb hts in_X6_plainUnit_X6 hown hK hP k_32 (hts _ (List.mem_of_getElem? (i := 1) rfl)) dX6_plainUnit_11 ?_
    refine lv_iconst (v := 1) hx hb dX6_plainUnit_14 (by decide) ?_
    refine lv_icmp_ne (tgt := 25) hx hb dX6_plainUnit_15 (by decide) (fun c2 => ?_) (fun c2 => ?_)
    · rw [if_neg c2] at h
      refine lv_iconst (v := (-1)) hx hb dX6_plainUnit_25 (by decide) ?_
      exact pf_X6_plainUnit_26 C   (-1) z  hP hS (lv_sub hl [] rfl) h
    · rw [if_pos c2] at h
      refine lv_aload_n hx hb dX6_plainUnit_18 rfl (lv_at hl 0 rfl) ?_
      refine ge_6_9 hx hb hts in_X6_plainUnit_X6 hown hK hP k_32 (hts _ (List.mem_of_getElem? (i := 2) rfl)) dX6_plainUnit_19 ?_
      refine lv_goto (tgt := 26) hx hb dX6_plainUnit_22 (by decide) ?_
      exact pf_X6_plainUnit_26 C   (z.1 32 9) z  hP hS (lv_sub hl [] rfl) h
  · rw [if_pos c1] at h
    refine lv_iconst (v := 0) hx hb dX6_plainUnit_8 (by decide) ?_
    exact x_iret hx hb hr hlocks hK hP hS h dX6_plainUnit_9
theorem in_X6_tierLine_X7 : ∀ w ∈ wsX70, w ∈ wsX6_tierLine := fun _ h => (List.mem_cons_of_mem _ (List.mem_append_right _ h))
theorem in_X6_tierLine_X6 : ∀ w ∈ wsX60, w ∈ wsX6_tierLine := fun _ h => (List.mem_cons_of_mem _ (List.mem_append_left _ (List.mem_append_right _ h)))
def fn_X6_tierLine  (z : St) : Option (St) := (if (z.1 17 0) < 3 then bv (fn_X6_advance   z) (fun z3 => bv (fn_X6_newName  18 (z3.1 17 0) z3) (fun z5 => bd (fn_X6_numberWithin  1 8 z5) (fun r7 z8 => bv (fn_X6_expectKeyword  1 z8) (fun z10 => bd (fn_X6_numberWithin  1 8 z10) (fun r12 z13 => bv (fn_X6_expectKeyword  2 z13) (fun z15 => bd (fn_X6_numberWithin  1 9 z15) (fun r17 z18 => bv (fn_X6_expectSign  59 z18) (fun z20 => bv (fn_X7_addTier  17 r7 r12 r17 z20) (fun z22 => some z22))))))))) else bv (fn_X6_refuse   z) (fun z24 => some z24))
set_option maxHeartbeats 4000000 in
set_option maxRecDepth 100000 in
theorem m_X6_tierLine {l : Launch} {G : wG} (hG : Ok G)  {z : St} {Rz : St}  (h : fn_X6_tierLine   z = some Rz) : Met l yX6_tierLine wsX6_tierLine (rmd 5) (va_Pc [.ref (G.2.2 32)] (Pre G z)) (va_Qv (fun u => u = Rz) (Pre G) (AW G)) 0 0 (AW G) := by
  refine Met.ofW (cc := cX6_tierLine) (maxL := 4) (ret := none) (by decide) rfl ?_
  intro p e s m args below meth c s₁ B hml hv
  obtain ⟨rfl, hP, hK⟩ := hv
  have C : CX p s m ([.ref (G.2.2 32)] : List Value).toArray meth c cX6_tierLine 4 wsX6_tierLine RX6 none G := ⟨B.exec, B.bytes, hml, findClass_of_methodNamed B.named, atoms_spec (ws := wsX6_tierLine) B.pre, B.returns, B.notSynchronized, hK, hG⟩
  obtain ⟨hx, hb, -, hown, hts, hr, hlocks, -, -⟩ := id C
  have hS : va_S (AW G) s.heap s.heap [] := va_S.rf
  have hl := lv_entry [.ref (G.2.2 32)] (n := 4) (Nat.le_of_ble_eq_true rfl)
  rw [lg_entry_eq]
  generalize (lg_sl [.ref (G.2.2 32)] ++ List.replicate (4 - (lg_sl [.ref (G.2.2 32)]).length) Slot.unset).toArray = ls at hl ⊢
  have hl : lv_has ls 4 [(0, .ref (G.2.2 32))] := hl
  unfold fn_X6_tierLine at h
  refine lv_aload_n hx hb dX6_tierLine_0 rfl (lv_at hl 0 rfl) ?_
  refine ge_6_1 hx hb hts in_X6_tierLine_X6 hown hK hP k_32 (hts _ (List.mem_of_getElem? (i := 1) rfl)) dX6_tierLine_1 ?_
  refine ge_7_0 hx hb hts in_X6_tierLine_X7 hown hK hP k_17 (hts _ (List.mem_of_getElem? (i := 2) rfl)) dX6_tierLine_4 ?_
  refine lv_iconst (v := 3) hx hb dX6_tierLine_7 (by decide) ?_
  refine lv_icmp_lt (tgt := 16) hx hb dX6_tierLine_8 (by decide) (fun c1 => ?_) (fun c1 => ?_)
  · rw [if_pos c1] at h
    refine lv_aload_n hx hb dX6_tierLine_16 rfl (lv_at hl 0 rfl) ?_
    obtain ⟨z3, h2, h⟩ := bv_s h
    refine x_Vv (Rz := z3) (As := []) (rest := []) ⟨hx, hb, hml, hown, hts⟩ hK hP hS (kd_lt k_32 (by decide)) (cell_6 k_32) rfl (m_X6_advance hG   h2) (cwV 0 hts gX6_tierLine_X6_advance rfl rfl rfl (by decide +kernel) (rmd_ok (by decide) (by decide))) rfl hl.1 rfl (Nat.le_of_ble_eq_true rfl) dX6_tierLine_17 ⟨Nat.le_refl _, Nat.le_refl _⟩ (fun H locs hP hS => ?_)
    refine lv_aload_n hx hb dX6_tierLine_20 rfl (lv_at hl 0 rfl) ?_
    refine lv_aload_n hx hb dX6_tierLine_21 rfl (lv_at hl 0 rfl) ?_
    refine ge_6_1 hx hb hts in_X6_tierLine_X6 hown hK hP k_32 (hts _ (List.mem_of_getElem? (i := 1) rfl)) dX6_tierLine_22 ?_
    refine ge_7_1 hx hb hts in_X6_tierLine_X7 hown hK hP k_17 (hts _ (List.mem_of_getElem? (i := 3) rfl)) dX6_tierLine_25 ?_
    refine lv_aload_n hx hb dX6_tierLine_28 rfl (lv_at hl 0 rfl) ?_
    refine ge_6_1 hx hb hts in_X6_tierLine_X6 hown hK hP k_32 (hts _ (List.mem_of_getElem? (i := 1) rfl)) dX6_tierLine_29 ?_
    refine ge_7_0 hx hb hts in_X6_tierLine_X7 hown hK hP k_17 (hts _ (List.mem_of_getElem? (i := 2) rfl)) dX6_tierLine_32 ?_
    obtain ⟨z5, h4, h⟩ := bv_s h
    refine x_Vv (Rz := z5) (As := [.ref (G.2.2 18), .int (z3.1 17 0)]) (rest := []) ⟨hx, hb, hml, hown, hts⟩ hK hP hS (kd_lt k_32 (by decide)) (cell_6 k_32) rfl (m_X6_newName hG  k_18 h4) (cwV 2 hts gX6_tierLine_X6_newName rfl rfl rfl (by decide +kernel) (rmd_ok (by decide) (by decide))) rfl hl.1 rfl (Nat.le_of_ble_eq_true rfl) dX6_tierLine_35 ⟨Nat.le_refl _, Nat.le_refl _⟩ (fun H locs hP hS => ?_)
    refine lv_aload_n hx hb dX6_tierLine_38 rfl (lv_at hl 0 rfl) ?_
    refine lv_iconst (v := 1) hx hb dX6_tierLine_39 (by decide) ?_
    refine lv_bipush (v := 8) hx hb dX6_tierLine_40 (by decide) ?_
    obtain ⟨r7, z8, h6, h⟩ := bd_s h
    refine x_Vi (Rz := (r7, z8)) (As := [.int 1, .int 8]) (rest := []) ⟨hx, hb, hml, hown, hts⟩ hK hP hS (kd_lt k_32 (by decide)) (cell_6 k_32) rfl (m_X6_numberWithin hG   h6) (cwV 2 hts gX6_tierLine_X6_numberWithin rfl rfl rfl (by decide +kernel) (rmd_ok (by decide) (by decide))) rfl hl.1 rfl (Nat.le_of_ble_eq_true rfl) dX6_tierLine_42 ⟨Nat.le_refl _, Nat.le_refl _⟩ (fun H locs hP hS => ?_)
    refine lv_istore_n (lv' := [(1, .int r7), (0, .ref (G.2.2 32))]) hx hb dX6_tierLine_45 rfl hl (by decide) rfl (fun ls hl => ?_)
    refine lv_aload_n hx hb dX6_tierLine_46 rfl (lv_at hl 1 rfl) ?_
    refine lv_iconst (v := 1) hx hb dX6_tierLine_47 (by decide) ?_
    obtain ⟨z10, h9, h⟩ := bv_s h
    refine x_Vv (Rz := z10) (As := [.int 1]) (rest := []) ⟨hx, hb, hml, hown, hts⟩ hK hP hS (kd_lt k_32 (by decide)) (cell_6 k_32) rfl (m_X6_expectKeyword hG   h9) (cwV 1 hts gX6_tierLine_X6_expectKeyword rfl rfl rfl (by decide +kernel) (rmd_ok (by decide) (by decide))) rfl hl.1 rfl (Nat.le_of_ble_eq_true rfl) dX6_tierLine_48 ⟨Nat.le_refl _, Nat.le_refl _⟩ (fun H locs hP hS => ?_)
    refine lv_aload_n hx hb dX6_tierLine_51 rfl (lv_at hl 1 rfl) ?_
    refine lv_iconst (v := 1) hx hb dX6_tierLine_52 (by decide) ?_
    refine lv_bipush (v := 8) hx hb dX6_tierLine_53 (by decide) ?_
    obtain ⟨r12, z13, h11, h⟩ := bd_s h
    refine x_Vi (Rz := (r12, z13)) (As := [.int 1, .int 8]) (rest := []) ⟨hx, hb, hml, hown, hts⟩ hK hP hS (kd_lt k_32 (by decide)) (cell_6 k_32) rfl (m_X6_numberWithin hG   h11) (cwV 2 hts gX6_tierLine_X6_numberWithin rfl rfl rfl (by decide +kernel) (rmd_ok (by decide) (by decide))) rfl hl.1 rfl (Nat.le_of_ble_eq_true rfl) dX6_tierLine_55 ⟨Nat.le_refl _, Nat.le_refl _⟩ (fun H locs hP hS => ?_)
    refine lv_istore_n (lv' := [(2, .int r12), (1, .int r7), (0, .ref (G.2.2 32))]) hx hb dX6_tierLine_58 rfl hl (by decide) rfl (fun ls hl => ?_)
    refine lv_aload_n hx hb dX6_tierLine_59 rfl (lv_at hl 2 rfl) ?_
    refine lv_iconst (v := 2) hx hb dX6_tierLine_60 (by decide) ?_
    obtain ⟨z15, h14, h⟩ := bv_s h
    refine x_Vv (Rz := z15) (As := [.int 2]) (rest := []) ⟨hx, hb, hml, hown, hts⟩ hK hP hS (kd_lt k_32 (by decide)) (cell_6 k_32) rfl (m_X6_expectKeyword hG   h14) (cwV 1 hts gX6_tierLine_X6_expectKeyword rfl rfl rfl (by decide +kernel) (rmd_ok (by decide) (by decide))) rfl hl.1 rfl (Nat.le_of_ble_eq_true rfl) dX6_tierLine_61 ⟨Nat.le_refl _, Nat.le_refl _⟩ (fun H locs hP hS => ?_)
    refine lv_aload_n hx hb dX6_tierLine_64 rfl (lv_at hl 2 rfl) ?_
    refine lv_iconst (v := 1) hx hb dX6_tierLine_65 (by decide) ?_
    refine lv_bipush (v := 9) hx hb dX6_tierLine_66 (by decide) ?_
    obtain ⟨r17, z18, h16, h⟩ := bd_s h
    refine x_Vi (Rz := (r17, z18)) (As := [.int 1, .int 9]) (rest := []) ⟨hx, hb, hml, hown, hts⟩ hK hP hS (kd_lt k_32 (by decide)) (cell_6 k_32) rfl (m_X6_numberWithin hG   h16) (cwV 2 hts gX6_tierLine_X6_numberWithin rfl rfl rfl (by decide +kernel) (rmd_ok (by decide) (by decide))) rfl hl.1 rfl (Nat.le_of_ble_eq_true rfl) dX6_tierLine_68 ⟨Nat.le_refl _, Nat.le_refl _⟩ (fun H locs hP hS => ?_)
    refine lv_istore_n (lv' := [(3, .int r17), (2, .int r12), (1, .int r7), (0, .ref (G.2.2 32))]) hx hb dX6_tierLine_71 rfl hl (by decide) rfl (fun ls hl => ?_)
    refine lv_aload_n hx hb dX6_tierLine_72 rfl (lv_at hl 3 rfl) ?_
    refine lv_bipush (v := 59) hx hb dX6_tierLine_73 (by decide) ?_
    obtain ⟨z20, h19, h⟩ := bv_s h
    refine x_Vv (Rz := z20) (As := [.int 59]) (rest := []) ⟨hx, hb, hml, hown, hts⟩ hK hP hS (kd_lt k_32 (by decide)) (cell_6 k_32) rfl (m_X6_expectSign hG   h19) (cwV 1 hts gX6_tierLine_X6_expectSign rfl rfl rfl (by decide +kernel) (rmd_ok (by decide) (by decide))) rfl hl.1 rfl (Nat.le_of_ble_eq_true rfl) dX6_tierLine_75 ⟨Nat.le_refl _, Nat.le_refl _⟩ (fun H locs hP hS => ?_)
    refine lv_aload_n hx hb dX6_tierLine_78 rfl (lv_at hl 3 rfl) ?_
    refine ge_6_1 hx hb hts in_X6_tierLine_X6 hown hK hP k_32 (hts _ (List.mem_of_getElem? (i := 1) rfl)) dX6_tierLine_79 ?_
    refine lv_iload_n hx hb dX6_tierLine_82 rfl (lv_at hl 2 rfl) ?_
    refine lv_iload_n hx hb dX6_tierLine_83 rfl (lv_at hl 1 rfl) ?_
    refine lv_iload_n hx hb dX6_tierLine_84 rfl (lv_at hl 0 rfl) ?_
    obtain ⟨z22, h21, h⟩ := bv_s h
    refine x_Vv (Rz := z22) (As := [.int r7, .int r12, .int r17]) (rest := []) ⟨hx, hb, hml, hown, hts⟩ hK hP hS (kd_lt k_17 (by decide)) (cell_7 k_17) rfl (m_X7_addTier hG  k_17 h21) (cwV 3 hts gX6_tierLine_X7_addTier rfl rfl rfl (by decide +kernel) (rmd_ok (by decide) (by decide))) rfl hl.1 rfl (Nat.le_of_ble_eq_true rfl) dX6_tierLine_85 ⟨Nat.le_refl _, Nat.le_refl _⟩ (fun H locs hP hS => ?_)
    exact x_vret hx hb hr hlocks hK hP hS h dX6_tierLine_88
  · rw [if_neg c1] at h
    refine lv_aload_n hx hb dX6_tierLine_11 rfl (lv_at hl 0 rfl) ?_
    obtain ⟨z24, h23, h⟩ := bv_s h
    refine x_Vv (Rz := z24) (As := []) (rest := []) ⟨hx, hb, hml, hown, hts⟩ hK hP hS (kd_lt k_32 (by decide)) (cell_6 k_32) rfl (m_X6_refuse hG   h23) (cwV 0 hts gX6_tierLine_X6_refuse rfl rfl rfl (by decide +kernel) (rmd_ok (by decide) (by decide))) rfl hl.1 rfl (Nat.le_of_ble_eq_true rfl) dX6_tierLine_12 ⟨Nat.le_refl _, Nat.le_refl _⟩ (fun H locs hP hS => ?_)
    exact x_vret hx hb hr hlocks hK hP hS h dX6_tierLine_15
theorem in_X6_guestLine_X7 : ∀ w ∈ wsX70, w ∈ wsX6_guestLine := fun _ h => (List.mem_cons_of_mem _ (List.mem_append_right _ h))
theorem in_X6_guestLine_X6 : ∀ w ∈ wsX60, w ∈ wsX6_guestLine := fun _ h => (List.mem_cons_of_mem _ (List.mem_append_left _ (List.mem_append_right _ h)))
def fn_X6_guestLine_99 (v1 : Int32) (v2 : Int32) (v3 : Int32) (z : St) : Option (St) := bv (fn_X6_expectSign  59 z) (fun z2 => bv (fn_X7_addGuest  17 v1 v2 v3 z2) (fun z4 => some z4))
set_option maxHeartbeats 4000000 in
set_option maxRecDepth 100000 in
theorem pf_X6_guestLine_99 {p : Program} {l : Launch} {e : Env} {s : State} {m : MethodId} {args : Array Value} {below : List Frame} {meth : Method} {c : Code} {G : wG} (C : CX p s m args meth c cX6_guestLine 4 wsX6_guestLine RX6 none G) {Rz : St} (v1 : Int32) (v2 : Int32) (v3 : Int32) (z : St)  {H : Heap} {locs : List Loc} {ls : Array Slot} (hP : WP G z H) (hS : va_S (AW G) s.heap H locs) (hl : lv_has ls 4 [(0, .ref (G.2.2 32)), (1, .int v1), (2, .int v2), (3, .int v3)]) (h : fn_X6_guestLine_99   v1 v2 v3 z = some Rz) : W p l e (rmd 5) s m args below meth c H locs 0 0 (QV below args s G Rz) (F0 m 99 ls []) := by
  obtain ⟨hx, hb, hml, hown, hts, hr, hlocks, hK, hG⟩ := id C
  unfold fn_X6_guestLine_99 at h
  refine lv_aload_n hx hb dX6_guestLine_99 rfl (lv_at hl 0 rfl) ?_
  refine lv_bipush (v := 59) hx hb dX6_guestLine_100 (by decide) ?_
  obtain ⟨z2, h1, h⟩ := bv_s h
  refine x_Vv (Rz := z2) (As := [.int 59]) (rest := []) ⟨hx, hb, hml, hown, hts⟩ hK hP hS (kd_lt k_32 (by decide)) (cell_6 k_32) rfl (m_X6_expectSign hG   h1) (cwV 1 hts gX6_guestLine_X6_expectSign rfl rfl rfl (by decide +kernel) (rmd_ok (by decide) (by decide))) rfl hl.1 rfl (Nat.le_of_ble_eq_true rfl) dX6_guestLine_102 ⟨Nat.le_refl _, Nat.le_refl _⟩ (fun H locs hP hS => ?_)
  refine lv_aload_n hx hb dX6_guestLine_105 rfl (lv_at hl 0 rfl) ?_
  refine ge_6_1 hx hb hts in_X6_guestLine_X6 hown hK hP k_32 (hts _ (List.mem_of_getElem? (i := 1) rfl)) dX6_guestLine_106 ?_
  refine lv_iload_n hx hb dX6_guestLine_109 rfl (lv_at hl 1 rfl) ?_
  refine lv_iload_n hx hb dX6_guestLine_110 rfl (lv_at hl 2 rfl) ?_
  refine lv_iload_n hx hb dX6_guestLine_111 rfl (lv_at hl 3 rfl) ?_
  obtain ⟨z4, h3, h⟩ := bv_s h
  refine x_Vv (Rz := z4) (As := [.int v1, .int v2, .int v3]) (rest := []) ⟨hx, hb, hml, hown, hts⟩ hK hP hS (kd_lt k_17 (by decide)) (cell_7 k_17) rfl (m_X7_addGuest hG  k_17 h3) (cwV 3 hts gX6_guestLine_X7_addGuest rfl rfl rfl (by decide +kernel) (rmd_ok (by decide) (by decide))) rfl hl.1 rfl (Nat.le_of_ble_eq_true rfl) dX6_guestLine_112 ⟨Nat.le_refl _, Nat.le_refl _⟩ (fun H locs hP hS => ?_)
  exact x_vret hx hb hr hlocks hK hP hS h dX6_guestLine_115
def fn_X6_guestLine_75 (v1 : Int32) (v2 : Int32) (z : St) : Option (St) := bd (fn_X6_isKeyword  6 z) (fun r2 z3 => (if r2 = 0 then fn_X6_guestLine_99   v1 v2 100 z3 else bv (fn_X6_advance   z3) (fun z6 => bd (fn_X6_numberWithin  0 100 z6) (fun r8 z9 => fn_X6_guestLine_99   v1 v2 r8 z9))))
set_option maxHeartbeats 4000000 in
set_option maxRecDepth 100000 in
theorem pf_X6_guestLine_75 {p : Program} {l : Launch} {e : Env} {s : State} {m : MethodId} {args : Array Value} {below : List Frame} {meth : Method} {c : Code} {G : wG} (C : CX p s m args meth c cX6_guestLine 4 wsX6_guestLine RX6 none G) {Rz : St} (v1 : Int32) (v2 : Int32) (z : St)  {H : Heap} {locs : List Loc} {ls : Array Slot} (hP : WP G z H) (hS : va_S (AW G) s.heap H locs) (hl : lv_has ls 4 [(0, .ref (G.2.2 32)), (1, .int v1), (2, .int v2)]) (h : fn_X6_guestLine_75   v1 v2 z = some Rz) : W p l e (rmd 5) s m args below meth c H locs 0 0 (QV below args s G Rz) (F0 m 75 ls []) := by
  obtain ⟨hx, hb, hml, hown, hts, hr, hlocks, hK, hG⟩ := id C
  unfold fn_X6_guestLine_75 at h
  refine lv_bipush (v := 100) hx hb dX6_guestLine_75 (by decide) ?_
  refine lv_istore_n (lv' := [(3, .int 100), (0, .ref (G.2.2 32)), (1, .int v1), (2, .int v2)]) hx hb dX6_guestLine_77 rfl hl (by decide) rfl (fun ls hl => ?_)
  refine lv_aload_n hx hb dX6_guestLine_78 rfl (lv_at hl 1 rfl) ?_
  refine lv_bipush (v := 6) hx hb dX6_guestLine_79 (by decide) ?_
  obtain ⟨r2, z3, h1, h⟩ := bd_s h
  refine x_Vi (Rz := (r2, z3)) (As := [.int 6]) (rest := []) ⟨hx, hb, hml, hown, hts⟩ hK hP hS (kd_lt k_32 (by decide)) (cell_6 k_32) rfl (m_X6_isKeyword hG   h1) (cwV 1 hts gX6_guestLine_X6_isKeyword rfl rfl rfl (by decide +kernel) (rmd_ok (by decide) (by decide))) rfl hl.1 rfl (Nat.le_of_ble_eq_true rfl) dX6_guestLine_81 ⟨Nat.le_refl _, Nat.le_refl _⟩ (fun H locs hP hS => ?_)
  refine lv_if_eq (tgt := 99) hx hb dX6_guestLine_84 (by decide) (fun c4 => ?_) (fun c4 => ?_)
  · rw [if_pos c4] at h
    exact pf_X6_guestLine_99 C   v1 v2 100 z3  hP hS (lv_sub hl [1, 2, 3, 0] rfl) h
  · rw [if_neg c4] at h
    refine lv_aload_n hx hb dX6_guestLine_87 rfl (lv_at hl 1 rfl) ?_
    obtain ⟨z6, h5, h⟩ := bv_s h
    refine x_Vv (Rz := z6) (As := []) (rest := []) ⟨hx, hb, hml, hown, hts⟩ hK hP hS (kd_lt k_32 (by decide)) (cell_6 k_32) rfl (m_X6_advance hG   h5) (cwV 0 hts gX6_guestLine_X6_advance rfl rfl rfl (by decide +kernel) (rmd_ok (by decide) (by decide))) rfl hl.1 rfl (Nat.le_of_ble_eq_true rfl) dX6_guestLine_88 ⟨Nat.le_refl _, Nat.le_refl _⟩ (fun H locs hP hS => ?_)
    refine lv_aload_n hx hb dX6_guestLine_91 rfl (lv_at hl 1 rfl) ?_
    refine lv_iconst (v := 0) hx hb dX6_guestLine_92 (by decide) ?_
    refine lv_bipush (v := 100) hx hb dX6_guestLine_93 (by decide) ?_
    obtain ⟨r8, z9, h7, h⟩ := bd_s h
    refine x_Vi (Rz := (r8, z9)) (As := [.int 0, .int 100]) (rest := []) ⟨hx, hb, hml, hown, hts⟩ hK hP hS (kd_lt k_32 (by decide)) (cell_6 k_32) rfl (m_X6_numberWithin hG   h7) (cwV 2 hts gX6_guestLine_X6_numberWithin rfl rfl rfl (by decide +kernel) (rmd_ok (by decide) (by decide))) rfl hl.1 rfl (Nat.le_of_ble_eq_true rfl) dX6_guestLine_95 ⟨Nat.le_refl _, Nat.le_refl _⟩ (fun H locs hP hS => ?_)
    refine lv_istore_n (lv' := [(3, .int r8), (0, .ref (G.2.2 32)), (1, .int v1), (2, .int v2)]) hx hb dX6_guestLine_98 rfl hl (by decide) rfl (fun ls hl => ?_)
    exact pf_X6_guestLine_99 C   v1 v2 r8 z9  hP hS (lv_sub hl [1, 2, 3, 0] rfl) h
def fn_X6_guestLine  (z : St) : Option (St) := (if (z.1 17 5) < 6 then bv (fn_X6_advance   z) (fun z3 => bv (fn_X6_newName  22 (z3.1 17 5) z3) (fun z5 => bv (fn_X6_expectKeyword  4 z5) (fun z7 => bd (fn_X6_numberWithin  0 999 z7) (fun r9 z10 => bd (fn_X6_isKeyword  5 z10) (fun r12 z13 => (if r12 = 0 then fn_X6_guestLine_75   r9 0 z13 else bv (fn_X6_advance   z13) (fun z16 => bd (fn_X6_numberWithin  0 9 z16) (fun r18 z19 => fn_X6_guestLine_75   r9 r18 z19)))))))) else bv (fn_X6_refuse   z) (fun z21 => some z21))
set_option maxHeartbeats 4000000 in
set_option maxRecDepth 100000 in
theorem m_X6_guestLine {l : Launch} {G : wG} (hG : Ok G)  {z : St} {Rz : St}  (h : fn_X6_guestLine   z = some Rz) : Met l yX6_guestLine wsX6_guestLine (rmd 5) (va_Pc [.ref (G.2.2 32)] (Pre G z)) (va_Qv (fun u => u = Rz) (Pre G) (AW G)) 0 0 (AW G) := by
  refine Met.ofW (cc := cX6_guestLine) (maxL := 4) (ret := none) (by decide) rfl ?_
  intro p e s m args below meth c s₁ B hml hv
  obtain ⟨rfl, hP, hK⟩ := hv
  have C : CX p s m ([.ref (G.2.2 32)] : List Value).toArray meth c cX6_guestLine 4 wsX6_guestLine RX6 none G := ⟨B.exec, B.bytes, hml, findClass_of_methodNamed B.named, atoms_spec (ws := wsX6_guestLine) B.pre, B.returns, B.notSynchronized, hK, hG⟩
  obtain ⟨hx, hb, -, hown, hts, hr, hlocks, -, -⟩ := id C
  have hS : va_S (AW G) s.heap s.heap [] := va_S.rf
  have hl := lv_entry [.ref (G.2.2 32)] (n := 4) (Nat.le_of_ble_eq_true rfl)
  rw [lg_entry_eq]
  generalize (lg_sl [.ref (G.2.2 32)] ++ List.replicate (4 - (lg_sl [.ref (G.2.2 32)]).length) Slot.unset).toArray = ls at hl ⊢
  have hl : lv_has ls 4 [(0, .ref (G.2.2 32))] := hl
  unfold fn_X6_guestLine at h
  refine lv_aload_n hx hb dX6_guestLine_0 rfl (lv_at hl 0 rfl) ?_
  refine ge_6_1 hx hb hts in_X6_guestLine_X6 hown hK hP k_32 (hts _ (List.mem_of_getElem? (i := 1) rfl)) dX6_guestLine_1 ?_
  refine ge_7_5 hx hb hts in_X6_guestLine_X7 hown hK hP k_17 (hts _ (List.mem_of_getElem? (i := 2) rfl)) dX6_guestLine_4 ?_
  refine lv_bipush (v := 6) hx hb dX6_guestLine_7 (by decide) ?_
  refine lv_icmp_lt (tgt := 17) hx hb dX6_guestLine_9 (by decide) (fun c1 => ?_) (fun c1 => ?_)
  · rw [if_pos c1] at h
    refine lv_aload_n hx hb dX6_guestLine_17 rfl (lv_at hl 0 rfl) ?_
    obtain ⟨z3, h2, h⟩ := bv_s h
    refine x_Vv (Rz := z3) (As := []) (rest := []) ⟨hx, hb, hml, hown, hts⟩ hK hP hS (kd_lt k_32 (by decide)) (cell_6 k_32) rfl (m_X6_advance hG   h2) (cwV 0 hts gX6_guestLine_X6_advance rfl rfl rfl (by decide +kernel) (rmd_ok (by decide) (by decide))) rfl hl.1 rfl (Nat.le_of_ble_eq_true rfl) dX6_guestLine_18 ⟨Nat.le_refl _, Nat.le_refl _⟩ (fun H locs hP hS => ?_)
    refine lv_aload_n hx hb dX6_guestLine_21 rfl (lv_at hl 0 rfl) ?_
    refine lv_aload_n hx hb dX6_guestLine_22 rfl (lv_at hl 0 rfl) ?_
    refine ge_6_1 hx hb hts in_X6_guestLine_X6 hown hK hP k_32 (hts _ (List.mem_of_getElem? (i := 1) rfl)) dX6_guestLine_23 ?_
    refine ge_7_6 hx hb hts in_X6_guestLine_X7 hown hK hP k_17 (hts _ (List.mem_of_getElem? (i := 3) rfl)) dX6_guestLine_26 ?_
    refine lv_aload_n hx hb dX6_guestLine_29 rfl (lv_at hl 0 rfl) ?_
    refine ge_6_1 hx hb hts in_X6_guestLine_X6 hown hK hP k_32 (hts _ (List.mem_of_getElem? (i := 1) rfl)) dX6_guestLine_30 ?_
    refine ge_7_5 hx hb hts in_X6_guestLine_X7 hown hK hP k_17 (hts _ (List.mem_of_getElem? (i := 2) rfl)) dX6_guestLine_33 ?_
    obtain ⟨z5, h4, h⟩ := bv_s h
    refine x_Vv (Rz := z5) (As := [.ref (G.2.2 22), .int (z3.1 17 5)]) (rest := []) ⟨hx, hb, hml, hown, hts⟩ hK hP hS (kd_lt k_32 (by decide)) (cell_6 k_32) rfl (m_X6_newName hG  k_22 h4) (cwV 2 hts gX6_guestLine_X6_newName rfl rfl rfl (by decide +kernel) (rmd_ok (by decide) (by decide))) rfl hl.1 rfl (Nat.le_of_ble_eq_true rfl) dX6_guestLine_36 ⟨Nat.le_refl _, Nat.le_refl _⟩ (fun H locs hP hS => ?_)
    refine lv_aload_n hx hb dX6_guestLine_39 rfl (lv_at hl 0 rfl) ?_
    refine lv_iconst (v := 4) hx hb dX6_guestLine_40 (by decide) ?_
    obtain ⟨z7, h6, h⟩ := bv_s h
    refine x_Vv (Rz := z7) (As := [.int 4]) (rest := []) ⟨hx, hb, hml, hown, hts⟩ hK hP hS (kd_lt k_32 (by decide)) (cell_6 k_32) rfl (m_X6_expectKeyword hG   h6) (cwV 1 hts gX6_guestLine_X6_expectKeyword rfl rfl rfl (by decide +kernel) (rmd_ok (by decide) (by decide))) rfl hl.1 rfl (Nat.le_of_ble_eq_true rfl) dX6_guestLine_41 ⟨Nat.le_refl _, Nat.le_refl _⟩ (fun H locs hP hS => ?_)
    refine lv_aload_n hx hb dX6_guestLine_44 rfl (lv_at hl 0 rfl) ?_
    refine lv_iconst (v := 0) hx hb dX6_guestLine_45 (by decide) ?_
    refine lv_sipush (v := 999) hx hb dX6_guestLine_46 (by decide) ?_
    obtain ⟨r9, z10, h8, h⟩ := bd_s h
    refine x_Vi (Rz := (r9, z10)) (As := [.int 0, .int 999]) (rest := []) ⟨hx, hb, hml, hown, hts⟩ hK hP hS (kd_lt k_32 (by decide)) (cell_6 k_32) rfl (m_X6_numberWithin hG   h8) (cwV 2 hts gX6_guestLine_X6_numberWithin rfl rfl rfl (by decide +kernel) (rmd_ok (by decide) (by decide))) rfl hl.1 rfl (Nat.le_of_ble_eq_true rfl) dX6_guestLine_49 ⟨Nat.le_refl _, Nat.le_refl _⟩ (fun H locs hP hS => ?_)
    refine lv_istore_n (lv' := [(1, .int r9), (0, .ref (G.2.2 32))]) hx hb dX6_guestLine_52 rfl hl (by decide) rfl (fun ls hl => ?_)
    refine lv_iconst (v := 0) hx hb dX6_guestLine_53 (by decide) ?_
    refine lv_istore_n (lv' := [(2, .int 0), (1, .int r9), (0, .ref (G.2.2 32))]) hx hb dX6_guestLine_54 rfl hl (by decide) rfl (fun ls hl => ?_)
    refine lv_aload_n hx hb dX6_guestLine_55 rfl (lv_at hl 2 rfl) ?_
    refine lv_iconst (v := 5) hx hb dX6_guestLine_56 (by decide) ?_
    obtain ⟨r12, z13, h11, h⟩ := bd_s h
    refine x_Vi (Rz := (r12, z13)) (As := [.int 5]) (rest := []) ⟨hx, hb, hml, hown, hts⟩ hK hP hS (kd_lt k_32 (by decide)) (cell_6 k_32) rfl (m_X6_isKeyword hG   h11) (cwV 1 hts gX6_guestLine_X6_isKeyword rfl rfl rfl (by decide +kernel) (rmd_ok (by decide) (by decide))) rfl hl.1 rfl (Nat.le_of_ble_eq_true rfl) dX6_guestLine_57 ⟨Nat.le_refl _, Nat.le_refl _⟩ (fun H locs hP hS => ?_)
    refine lv_if_eq (tgt := 75) hx hb dX6_guestLine_60 (by decide) (fun c14 => ?_) (fun c14 => ?_)
    · rw [if_pos c14] at h
      exact pf_X6_guestLine_75 C   r9 0 z13  hP hS (lv_sub hl [2, 1, 0] rfl) h
    · rw [if_neg c14] at h
      refine lv_aload_n hx hb dX6_guestLine_63 rfl (lv_at hl 2 rfl) ?_
      obtain ⟨z16, h15, h⟩ := bv_s h
      refine x_Vv (Rz := z16) (As := []) (rest := []) ⟨hx, hb, hml, hown, hts⟩ hK hP hS (kd_lt k_32 (by decide)) (cell_6 k_32) rfl (m_X6_advance hG   h15) (cwV 0 hts gX6_guestLine_X6_advance rfl rfl rfl (by decide +kernel) (rmd_ok (by decide) (by decide))) rfl hl.1 rfl (Nat.le_of_ble_eq_true rfl) dX6_guestLine_64 ⟨Nat.le_refl _, Nat.le_refl _⟩ (fun H locs hP hS => ?_)
      refine lv_aload_n hx hb dX6_guestLine_67 rfl (lv_at hl 2 rfl) ?_
      refine lv_iconst (v := 0) hx hb dX6_guestLine_68 (by decide) ?_
      refine lv_bipush (v := 9) hx hb dX6_guestLine_69 (by decide) ?_
      obtain ⟨r18, z19, h17, h⟩ := bd_s h
      refine x_Vi (Rz := (r18, z19)) (As := [.int 0, .int 9]) (rest := []) ⟨hx, hb, hml, hown, hts⟩ hK hP hS (kd_lt k_32 (by decide)) (cell_6 k_32) rfl (m_X6_numberWithin hG   h17) (cwV 2 hts gX6_guestLine_X6_numberWithin rfl rfl rfl (by decide +kernel) (rmd_ok (by decide) (by decide))) rfl hl.1 rfl (Nat.le_of_ble_eq_true rfl) dX6_guestLine_71 ⟨Nat.le_refl _, Nat.le_refl _⟩ (fun H locs hP hS => ?_)
      refine lv_istore_n (lv' := [(2, .int r18), (1, .int r9), (0, .ref (G.2.2 32))]) hx hb dX6_guestLine_74 rfl hl (by decide) rfl (fun ls hl => ?_)
      exact pf_X6_guestLine_75 C   r9 r18 z19  hP hS (lv_sub hl [2, 1, 0] rfl) h
  · rw [if_neg c1] at h
    refine lv_aload_n hx hb dX6_guestLine_12 rfl (lv_at hl 0 rfl) ?_
    obtain ⟨z21, h20, h⟩ := bv_s h
    refine x_Vv (Rz := z21) (As := []) (rest := []) ⟨hx, hb, hml, hown, hts⟩ hK hP hS (kd_lt k_32 (by decide)) (cell_6 k_32) rfl (m_X6_refuse hG   h20) (cwV 0 hts gX6_guestLine_X6_refuse rfl rfl rfl (by decide +kernel) (rmd_ok (by decide) (by decide))) rfl hl.1 rfl (Nat.le_of_ble_eq_true rfl) dX6_guestLine_13 ⟨Nat.le_refl _, Nat.le_refl _⟩ (fun H locs hP hS => ?_)
    exact x_vret hx hb hr hlocks hK hP hS h dX6_guestLine_16
theorem in_X6_paceLine_X7 : ∀ w ∈ wsX70, w ∈ wsX6_paceLine := fun _ h => (List.mem_cons_of_mem _ (List.mem_append_right _ h))
theorem in_X6_paceLine_X6 : ∀ w ∈ wsX60, w ∈ wsX6_paceLine := fun _ h => (List.mem_cons_of_mem _ (List.mem_append_left _ (List.mem_append_right _ h)))
def fn_X6_paceLine  (z : St) : Option (St) := (if (z.1 17 13) = 0 then bv (fn_X6_advance   z) (fun z3 => nm (sI z3 17 13 1) (fun z4 => bd (fn_X6_numberWithin  0 60 z4) (fun r6 z7 => nm (sI z7 17 12 r6) (fun z8 => bv (fn_X6_expectSign  59 z8) (fun z10 => some z10))))) else bv (fn_X6_refuse   z) (fun z12 => some z12))
set_option maxHeartbeats 4000000 in
set_option maxRecDepth 100000 in
theorem m_X6_paceLine {l : Launch} {G : wG} (hG : Ok G)  {z : St} {Rz : St}  (h : fn_X6_paceLine   z = some Rz) : Met l yX6_paceLine wsX6_paceLine (rmd 5) (va_Pc [.ref (G.2.2 32)] (Pre G z)) (va_Qv (fun u => u = Rz) (Pre G) (AW G)) 0 0 (AW G) := by
  refine Met.ofW (cc := cX6_paceLine) (maxL := 1) (ret := none) (by decide) rfl ?_
  intro p e s m args below meth c s₁ B hml hv
  obtain ⟨rfl, hP, hK⟩ := hv
  have C : CX p s m ([.ref (G.2.2 32)] : List Value).toArray meth c cX6_paceLine 1 wsX6_paceLine RX6 none G := ⟨B.exec, B.bytes, hml, findClass_of_methodNamed B.named, atoms_spec (ws := wsX6_paceLine) B.pre, B.returns, B.notSynchronized, hK, hG⟩
  obtain ⟨hx, hb, -, hown, hts, hr, hlocks, -, -⟩ := id C
  have hS : va_S (AW G) s.heap s.heap [] := va_S.rf
  have hl := lv_entry [.ref (G.2.2 32)] (n := 1) (Nat.le_of_ble_eq_true rfl)
  rw [lg_entry_eq]
  generalize (lg_sl [.ref (G.2.2 32)] ++ List.replicate (1 - (lg_sl [.ref (G.2.2 32)]).length) Slot.unset).toArray = ls at hl ⊢
  have hl : lv_has ls 1 [(0, .ref (G.2.2 32))] := hl
  unfold fn_X6_paceLine at h
  refine lv_aload_n hx hb dX6_paceLine_0 rfl (lv_at hl 0 rfl) ?_
  refine ge_6_1 hx hb hts in_X6_paceLine_X6 hown hK hP k_32 (hts _ (List.mem_of_getElem? (i := 1) rfl)) dX6_paceLine_1 ?_
  refine ge_7_13 hx hb hts in_X6_paceLine_X7 hown hK hP k_17 (hts _ (List.mem_of_getElem? (i := 2) rfl)) dX6_paceLine_4 ?_
  refine lv_if_eq (tgt := 15) hx hb dX6_paceLine_7 (by decide) (fun c1 => ?_) (fun c1 => ?_)
  · rw [if_pos c1] at h
    refine lv_aload_n hx hb dX6_paceLine_15 rfl (lv_at hl 0 rfl) ?_
    obtain ⟨z3, h2, h⟩ := bv_s h
    refine x_Vv (Rz := z3) (As := []) (rest := []) ⟨hx, hb, hml, hown, hts⟩ hK hP hS (kd_lt k_32 (by decide)) (cell_6 k_32) rfl (m_X6_advance hG   h2) (cwV 0 hts gX6_paceLine_X6_advance rfl rfl rfl (by decide +kernel) (rmd_ok (by decide) (by decide))) rfl hl.1 rfl (Nat.le_of_ble_eq_true rfl) dX6_paceLine_16 ⟨Nat.le_refl _, Nat.le_refl _⟩ (fun H locs hP hS => ?_)
    refine lv_aload_n hx hb dX6_paceLine_19 rfl (lv_at hl 0 rfl) ?_
    refine ge_6_1 hx hb hts in_X6_paceLine_X6 hown hK hP k_32 (hts _ (List.mem_of_getElem? (i := 1) rfl)) dX6_paceLine_20 ?_
    refine lv_iconst (v := 1) hx hb dX6_paceLine_23 (by decide) ?_
    obtain ⟨z4, e_z4, h⟩ := nm_s h
    refine pu_7_13 hx hb hts in_X6_paceLine_X7 hown hK hG hP hS k_17 (hts _ (List.mem_of_getElem? (i := 2) rfl)) rfl dX6_paceLine_24 (fun H locs hP hS => ?_)
    rw [← e_z4] at hP
    refine lv_aload_n hx hb dX6_paceLine_27 rfl (lv_at hl 0 rfl) ?_
    refine ge_6_1 hx hb hts in_X6_paceLine_X6 hown hK hP k_32 (hts _ (List.mem_of_getElem? (i := 1) rfl)) dX6_paceLine_28 ?_
    refine lv_aload_n hx hb dX6_paceLine_31 rfl (lv_at hl 0 rfl) ?_
    refine lv_iconst (v := 0) hx hb dX6_paceLine_32 (by decide) ?_
    refine lv_bipush (v := 60) hx hb dX6_paceLine_33 (by decide) ?_
    obtain ⟨r6, z7, h5, h⟩ := bd_s h
    refine x_Vi (Rz := (r6, z7)) (As := [.int 0, .int 60]) (rest := [.ref (G.2.2 17)]) ⟨hx, hb, hml, hown, hts⟩ hK hP hS (kd_lt k_32 (by decide)) (cell_6 k_32) rfl (m_X6_numberWithin hG   h5) (cwV 2 hts gX6_paceLine_X6_numberWithin rfl rfl rfl (by decide +kernel) (rmd_ok (by decide) (by decide))) rfl hl.1 rfl (Nat.le_of_ble_eq_true rfl) dX6_paceLine_35 ⟨Nat.le_refl _, Nat.le_refl _⟩ (fun H locs hP hS => ?_)
    obtain ⟨z8, e_z8, h⟩ := nm_s h
    refine pu_7_12 hx hb hts in_X6_paceLine_X7 hown hK hG hP hS k_17 (hts _ (List.mem_of_getElem? (i := 3) rfl)) dX6_paceLine_38 (fun H locs hP hS => ?_)
    rw [← e_z8] at hP
    refine lv_aload_n hx hb dX6_paceLine_41 rfl (lv_at hl 0 rfl) ?_
    refine lv_bipush (v := 59) hx hb dX6_paceLine_42 (by decide) ?_
    obtain ⟨z10, h9, h⟩ := bv_s h
    refine x_Vv (Rz := z10) (As := [.int 59]) (rest := []) ⟨hx, hb, hml, hown, hts⟩ hK hP hS (kd_lt k_32 (by decide)) (cell_6 k_32) rfl (m_X6_expectSign hG   h9) (cwV 1 hts gX6_paceLine_X6_expectSign rfl rfl rfl (by decide +kernel) (rmd_ok (by decide) (by decide))) rfl hl.1 rfl (Nat.le_of_ble_eq_true rfl) dX6_paceLine_44 ⟨Nat.le_refl _, Nat.le_refl _⟩ (fun H locs hP hS => ?_)
    exact x_vret hx hb hr hlocks hK hP hS h dX6_paceLine_47
  · rw [if_neg c1] at h
    refine lv_aload_n hx hb dX6_paceLine_10 rfl (lv_at hl 0 rfl) ?_
    obtain ⟨z12, h11, h⟩ := bv_s h
    refine x_Vv (Rz := z12) (As := []) (rest := []) ⟨hx, hb, hml, hown, hts⟩ hK hP hS (kd_lt k_32 (by decide)) (cell_6 k_32) rfl (m_X6_refuse hG   h11) (cwV 0 hts gX6_paceLine_X6_refuse rfl rfl rfl (by decide +kernel) (rmd_ok (by decide) (by decide))) rfl hl.1 rfl (Nat.le_of_ble_eq_true rfl) dX6_paceLine_11 ⟨Nat.le_refl _, Nat.le_refl _⟩ (fun H locs hP hS => ?_)
    exact x_vret hx hb hr hlocks hK hP hS h dX6_paceLine_14
theorem in_X6_drawLine_X7 : ∀ w ∈ wsX70, w ∈ wsX6_drawLine := fun _ h => (List.mem_cons_of_mem _ (List.mem_append_right _ h))
theorem in_X6_drawLine_X6 : ∀ w ∈ wsX60, w ∈ wsX6_drawLine := fun _ h => (List.mem_cons_of_mem _ (List.mem_append_left _ (List.mem_append_right _ h)))
def fn_X6_drawLine  (z : St) : Option (St) := (if (z.1 17 15) = 0 then bv (fn_X6_advance   z) (fun z3 => nm (sI z3 17 15 1) (fun z4 => bd (fn_X6_numberWithin  0 999 z4) (fun r6 z7 => nm (sI z7 17 14 r6) (fun z8 => bv (fn_X6_expectSign  59 z8) (fun z10 => some z10))))) else bv (fn_X6_refuse   z) (fun z12 => some z12))
set_option maxHeartbeats 4000000 in
set_option maxRecDepth 100000 in
theorem m_X6_drawLine {l : Launch} {G : wG} (hG : Ok G)  {z : St} {Rz : St}  (h : fn_X6_drawLine   z = some Rz) : Met l yX6_drawLine wsX6_drawLine (rmd 5) (va_Pc [.ref (G.2.2 32)] (Pre G z)) (va_Qv (fun u => u = Rz) (Pre G) (AW G)) 0 0 (AW G) := by
  refine Met.ofW (cc := cX6_drawLine) (maxL := 1) (ret := none) (by decide) rfl ?_
  intro p e s m args below meth c s₁ B hml hv
  obtain ⟨rfl, hP, hK⟩ := hv
  have C : CX p s m ([.ref (G.2.2 32)] : List Value).toArray meth c cX6_drawLine 1 wsX6_drawLine RX6 none G := ⟨B.exec, B.bytes, hml, findClass_of_methodNamed B.named, atoms_spec (ws := wsX6_drawLine) B.pre, B.returns, B.notSynchronized, hK, hG⟩
  obtain ⟨hx, hb, -, hown, hts, hr, hlocks, -, -⟩ := id C
  have hS : va_S (AW G) s.heap s.heap [] := va_S.rf
  have hl := lv_entry [.ref (G.2.2 32)] (n := 1) (Nat.le_of_ble_eq_true rfl)
  rw [lg_entry_eq]
  generalize (lg_sl [.ref (G.2.2 32)] ++ List.replicate (1 - (lg_sl [.ref (G.2.2 32)]).length) Slot.unset).toArray = ls at hl ⊢
  have hl : lv_has ls 1 [(0, .ref (G.2.2 32))] := hl
  unfold fn_X6_drawLine at h
  refine lv_aload_n hx hb dX6_drawLine_0 rfl (lv_at hl 0 rfl) ?_
  refine ge_6_1 hx hb hts in_X6_drawLine_X6 hown hK hP k_32 (hts _ (List.mem_of_getElem? (i := 1) rfl)) dX6_drawLine_1 ?_
  refine ge_7_15 hx hb hts in_X6_drawLine_X7 hown hK hP k_17 (hts _ (List.mem_of_getElem? (i := 2) rfl)) dX6_drawLine_4 ?_
  refine lv_if_eq (tgt := 15) hx hb dX6_drawLine_7 (by decide) (fun c1 => ?_) (fun c1 => ?_)
  · rw [if_pos c1] at h
    refine lv_aload_n hx hb dX6_drawLine_15 rfl (lv_at hl 0 rfl) ?_
    obtain ⟨z3, h2, h⟩ := bv_s h
    refine x_Vv (Rz := z3) (As := []) (rest := []) ⟨hx, hb, hml, hown, hts⟩ hK hP hS (kd_lt k_32 (by decide)) (cell_6 k_32) rfl (m_X6_advance hG   h2) (cwV 0 hts gX6_drawLine_X6_advance rfl rfl rfl (by decide +kernel) (rmd_ok (by decide) (by decide))) rfl hl.1 rfl (Nat.le_of_ble_eq_true rfl) dX6_drawLine_16 ⟨Nat.le_refl _, Nat.le_refl _⟩ (fun H locs hP hS => ?_)
    refine lv_aload_n hx hb dX6_drawLine_19 rfl (lv_at hl 0 rfl) ?_
    refine ge_6_1 hx hb hts in_X6_drawLine_X6 hown hK hP k_32 (hts _ (List.mem_of_getElem? (i := 1) rfl)) dX6_drawLine_20 ?_
    refine lv_iconst (v := 1) hx hb dX6_drawLine_23 (by decide) ?_
    obtain ⟨z4, e_z4, h⟩ := nm_s h
    refine pu_7_15 hx hb hts in_X6_drawLine_X7 hown hK hG hP hS k_17 (hts _ (List.mem_of_getElem? (i := 2) rfl)) rfl dX6_drawLine_24 (fun H locs hP hS => ?_)
    rw [← e_z4] at hP
    refine lv_aload_n hx hb dX6_drawLine_27 rfl (lv_at hl 0 rfl) ?_
    refine ge_6_1 hx hb hts in_X6_drawLine_X6 hown hK hP k_32 (hts _ (List.mem_of_getElem? (i := 1) rfl)) dX6_drawLine_28 ?_
    refine lv_aload_n hx hb dX6_drawLine_31 rfl (lv_at hl 0 rfl) ?_
    refine lv_iconst (v := 0) hx hb dX6_drawLine_32 (by decide) ?_
    refine lv_sipush (v := 999) hx hb dX6_drawLine_33 (by decide) ?_
    obtain ⟨r6, z7, h5, h⟩ := bd_s h
    refine x_Vi (Rz := (r6, z7)) (As := [.int 0, .int 999]) (rest := [.ref (G.2.2 17)]) ⟨hx, hb, hml, hown, hts⟩ hK hP hS (kd_lt k_32 (by decide)) (cell_6 k_32) rfl (m_X6_numberWithin hG   h5) (cwV 2 hts gX6_drawLine_X6_numberWithin rfl rfl rfl (by decide +kernel) (rmd_ok (by decide) (by decide))) rfl hl.1 rfl (Nat.le_of_ble_eq_true rfl) dX6_drawLine_36 ⟨Nat.le_refl _, Nat.le_refl _⟩ (fun H locs hP hS => ?_)
    obtain ⟨z8, e_z8, h⟩ := nm_s h
    refine pu_7_14 hx hb hts in_X6_drawLine_X7 hown hK hG hP hS k_17 (hts _ (List.mem_of_getElem? (i := 3) rfl)) dX6_drawLine_39 (fun H locs hP hS => ?_)
    rw [← e_z8] at hP
    refine lv_aload_n hx hb dX6_drawLine_42 rfl (lv_at hl 0 rfl) ?_
    refine lv_bipush (v := 59) hx hb dX6_drawLine_43 (by decide) ?_
    obtain ⟨z10, h9, h⟩ := bv_s h
    refine x_Vv (Rz := z10) (As := [.int 59]) (rest := []) ⟨hx, hb, hml, hown, hts⟩ hK hP hS (kd_lt k_32 (by decide)) (cell_6 k_32) rfl (m_X6_expectSign hG   h9) (cwV 1 hts gX6_drawLine_X6_expectSign rfl rfl rfl (by decide +kernel) (rmd_ok (by decide) (by decide))) rfl hl.1 rfl (Nat.le_of_ble_eq_true rfl) dX6_drawLine_45 ⟨Nat.le_refl _, Nat.le_refl _⟩ (fun H locs hP hS => ?_)
    exact x_vret hx hb hr hlocks hK hP hS h dX6_drawLine_48
  · rw [if_neg c1] at h
    refine lv_aload_n hx hb dX6_drawLine_10 rfl (lv_at hl 0 rfl) ?_
    obtain ⟨z12, h11, h⟩ := bv_s h
    refine x_Vv (Rz := z12) (As := []) (rest := []) ⟨hx, hb, hml, hown, hts⟩ hK hP hS (kd_lt k_32 (by decide)) (cell_6 k_32) rfl (m_X6_refuse hG   h11) (cwV 0 hts gX6_drawLine_X6_refuse rfl rfl rfl (by decide +kernel) (rmd_ok (by decide) (by decide))) rfl hl.1 rfl (Nat.le_of_ble_eq_true rfl) dX6_drawLine_11 ⟨Nat.le_refl _, Nat.le_refl _⟩ (fun H locs hP hS => ?_)
    exact x_vret hx hb hr hlocks hK hP hS h dX6_drawLine_14
