theorem dX12_four_4 : decode cX12_four 4 = .ok (.ifCond .lt 35, 3) := by decide +kernel
theorem dX12_four_7 : decode cX12_four 7 = .ok (.aload_n 0, 1) := by decide +kernel
theorem dX12_four_8 : decode cX12_four 8 = .ok (.getfield 7, 3) := by decide +kernel
theorem dX12_four_11 : decode cX12_four 11 = .ok (.aload_n 0, 1) := by decide +kernel
theorem dX12_four_12 : decode cX12_four 12 = .ok (.getfield 139, 3) := by decide +kernel
theorem dX12_four_15 : decode cX12_four 15 = .ok (.iload_n 1, 1) := by decide +kernel
theorem dX12_four_16 : decode cX12_four 16 = .ok (.iload_n 2, 1) := by decide +kernel
theorem dX12_four_17 : decode cX12_four 17 = .ok (.ishr, 1) := by decide +kernel
theorem dX12_four_18 : decode cX12_four 18 = .ok (.sipush 255, 3) := by decide +kernel
theorem dX12_four_21 : decode cX12_four 21 = .ok (.iand, 1) := by decide +kernel
theorem dX12_four_22 : decode cX12_four 22 = .ok (.iastore, 1) := by decide +kernel
theorem dX12_four_23 : decode cX12_four 23 = .ok (.aload_n 0, 1) := by decide +kernel
theorem dX12_four_24 : decode cX12_four 24 = .ok (.dup, 1) := by decide +kernel
theorem dX12_four_25 : decode cX12_four 25 = .ok (.getfield 139, 3) := by decide +kernel
theorem dX12_four_28 : decode cX12_four 28 = .ok (.iconst 1, 1) := by decide +kernel
theorem dX12_four_29 : decode cX12_four 29 = .ok (.iadd, 1) := by decide +kernel
theorem dX12_four_30 : decode cX12_four 30 = .ok (.putfield 139, 3) := by decide +kernel
theorem dX12_four_33 : decode cX12_four 33 = .ok (.iinc 2 (-8), 3) := by decide +kernel
theorem dX12_four_36 : decode cX12_four 36 = .ok (.goto (-33), 3) := by decide +kernel
theorem dX12_four_39 : decode cX12_four 39 = .ok (.return_, 1) := by decide +kernel
theorem dX12_end_0 : decode cX12_end 0 = .ok (.iload_n 1, 1) := by decide +kernel
theorem dX12_end_1 : decode cX12_end 1 = .ok (.ifCond .lt 11, 3) := by decide +kernel
theorem dX12_end_4 : decode cX12_end 4 = .ok (.iload_n 1, 1) := by decide +kernel
theorem dX12_end_5 : decode cX12_end 5 = .ok (.aload_n 0, 1) := by decide +kernel
theorem dX12_end_6 : decode cX12_end 6 = .ok (.getfield 139, 3) := by decide +kernel
theorem dX12_end_9 : decode cX12_end 9 = .ok (.if_icmp .le 5, 3) := by decide +kernel
theorem dX12_end_12 : decode cX12_end 12 = .ok (.iconst (-1), 1) := by decide +kernel
theorem dX12_end_13 : decode cX12_end 13 = .ok (.ireturn, 1) := by decide +kernel
theorem dX12_end_14 : decode cX12_end 14 = .ok (.aload_n 0, 1) := by decide +kernel
theorem dX12_end_15 : decode cX12_end 15 = .ok (.iload_n 1, 1) := by decide +kernel
theorem dX12_end_16 : decode cX12_end 16 = .ok (.putfield 139, 3) := by decide +kernel
theorem dX12_end_19 : decode cX12_end 19 = .ok (.iload_n 1, 1) := by decide +kernel
theorem dX12_end_20 : decode cX12_end 20 = .ok (.ireturn, 1) := by decide +kernel
theorem dX12_here_0 : decode cX12_here 0 = .ok (.aload_n 0, 1) := by decide +kernel
theorem dX12_here_1 : decode cX12_here 1 = .ok (.getfield 146, 3) := by decide +kernel
theorem dX12_here_4 : decode cX12_here 4 = .ok (.iload_n 1, 1) := by decide +kernel
theorem dX12_here_5 : decode cX12_here 5 = .ok (.iadd, 1) := by decide +kernel
theorem dX12_here_6 : decode cX12_here 6 = .ok (.aload_n 0, 1) := by decide +kernel
theorem dX12_here_7 : decode cX12_here 7 = .ok (.getfield 149, 3) := by decide +kernel
theorem dX12_here_10 : decode cX12_here 10 = .ok (.if_icmp .ge 17, 3) := by decide +kernel
theorem dX12_here_13 : decode cX12_here 13 = .ok (.aload_n 0, 1) := by decide +kernel
theorem dX12_here_14 : decode cX12_here 14 = .ok (.getfield 7, 3) := by decide +kernel
theorem dX12_here_17 : decode cX12_here 17 = .ok (.aload_n 0, 1) := by decide +kernel
theorem dX12_here_18 : decode cX12_here 18 = .ok (.getfield 146, 3) := by decide +kernel
theorem dX12_here_21 : decode cX12_here 21 = .ok (.iload_n 1, 1) := by decide +kernel
theorem dX12_here_22 : decode cX12_here 22 = .ok (.iadd, 1) := by decide +kernel
theorem dX12_here_23 : decode cX12_here 23 = .ok (.iaload, 1) := by decide +kernel
theorem dX12_here_24 : decode cX12_here 24 = .ok (.goto 4, 3) := by decide +kernel
theorem dX12_here_27 : decode cX12_here 27 = .ok (.iconst (-1), 1) := by decide +kernel
theorem dX12_here_28 : decode cX12_here 28 = .ok (.ireturn, 1) := by decide +kernel
theorem dX12_isLetter_0 : decode cX12_isLetter 0 = .ok (.iload_n 0, 1) := by decide +kernel
theorem dX12_isLetter_1 : decode cX12_isLetter 1 = .ok (.bipush 97, 2) := by decide +kernel
theorem dX12_isLetter_3 : decode cX12_isLetter 3 = .ok (.if_icmp .lt 13, 3) := by decide +kernel
theorem dX12_isLetter_6 : decode cX12_isLetter 6 = .ok (.iload_n 0, 1) := by decide +kernel
theorem dX12_isLetter_7 : decode cX12_isLetter 7 = .ok (.bipush 122, 2) := by decide +kernel
theorem dX12_isLetter_9 : decode cX12_isLetter 9 = .ok (.if_icmp .gt 7, 3) := by decide +kernel
theorem dX12_isLetter_12 : decode cX12_isLetter 12 = .ok (.iconst 1, 1) := by decide +kernel
theorem dX12_isLetter_13 : decode cX12_isLetter 13 = .ok (.goto 4, 3) := by decide +kernel
theorem dX12_isLetter_16 : decode cX12_isLetter 16 = .ok (.iconst 0, 1) := by decide +kernel
theorem dX12_isLetter_17 : decode cX12_isLetter 17 = .ok (.ireturn, 1) := by decide +kernel
theorem dX12_isDigit_0 : decode cX12_isDigit 0 = .ok (.iload_n 0, 1) := by decide +kernel
theorem dX12_isDigit_1 : decode cX12_isDigit 1 = .ok (.bipush 48, 2) := by decide +kernel
theorem dX12_isDigit_3 : decode cX12_isDigit 3 = .ok (.if_icmp .lt 13, 3) := by decide +kernel
theorem dX12_isDigit_6 : decode cX12_isDigit 6 = .ok (.iload_n 0, 1) := by decide +kernel
theorem dX12_isDigit_7 : decode cX12_isDigit 7 = .ok (.bipush 57, 2) := by decide +kernel
theorem dX12_isDigit_9 : decode cX12_isDigit 9 = .ok (.if_icmp .gt 7, 3) := by decide +kernel
theorem dX12_isDigit_12 : decode cX12_isDigit 12 = .ok (.iconst 1, 1) := by decide +kernel
theorem dX12_isDigit_13 : decode cX12_isDigit 13 = .ok (.goto 4, 3) := by decide +kernel
theorem dX12_isDigit_16 : decode cX12_isDigit 16 = .ok (.iconst 0, 1) := by decide +kernel
theorem dX12_isDigit_17 : decode cX12_isDigit 17 = .ok (.ireturn, 1) := by decide +kernel
theorem dX12_isSign_0 : decode cX12_isSign 0 = .ok (.iload_n 0, 1) := by decide +kernel
theorem dX12_isSign_1 : decode cX12_isSign 1 = .ok (.bipush 59, 2) := by decide +kernel
theorem dX12_isSign_3 : decode cX12_isSign 3 = .ok (.if_icmp .eq 63, 3) := by decide +kernel
theorem dX12_isSign_6 : decode cX12_isSign 6 = .ok (.iload_n 0, 1) := by decide +kernel
theorem dX12_isSign_7 : decode cX12_isSign 7 = .ok (.bipush 40, 2) := by decide +kernel
theorem dX12_isSign_9 : decode cX12_isSign 9 = .ok (.if_icmp .eq 57, 3) := by decide +kernel
theorem dX12_isSign_12 : decode cX12_isSign 12 = .ok (.iload_n 0, 1) := by decide +kernel
theorem dX12_isSign_13 : decode cX12_isSign 13 = .ok (.bipush 41, 2) := by decide +kernel
theorem dX12_isSign_15 : decode cX12_isSign 15 = .ok (.if_icmp .eq 51, 3) := by decide +kernel
theorem dX12_isSign_18 : decode cX12_isSign 18 = .ok (.iload_n 0, 1) := by decide +kernel
theorem dX12_isSign_19 : decode cX12_isSign 19 = .ok (.bipush 60, 2) := by decide +kernel
theorem dX12_isSign_21 : decode cX12_isSign 21 = .ok (.if_icmp .eq 45, 3) := by decide +kernel
theorem dX12_isSign_24 : decode cX12_isSign 24 = .ok (.iload_n 0, 1) := by decide +kernel
theorem dX12_isSign_25 : decode cX12_isSign 25 = .ok (.bipush 62, 2) := by decide +kernel
theorem dX12_isSign_27 : decode cX12_isSign 27 = .ok (.if_icmp .eq 39, 3) := by decide +kernel
theorem dX12_isSign_30 : decode cX12_isSign 30 = .ok (.iload_n 0, 1) := by decide +kernel
theorem dX12_isSign_31 : decode cX12_isSign 31 = .ok (.bipush 61, 2) := by decide +kernel
theorem dX12_isSign_33 : decode cX12_isSign 33 = .ok (.if_icmp .eq 33, 3) := by decide +kernel
theorem dX12_isSign_36 : decode cX12_isSign 36 = .ok (.iload_n 0, 1) := by decide +kernel
theorem dX12_isSign_37 : decode cX12_isSign 37 = .ok (.bipush 43, 2) := by decide +kernel
theorem dX12_isSign_39 : decode cX12_isSign 39 = .ok (.if_icmp .eq 27, 3) := by decide +kernel
theorem dX12_isSign_42 : decode cX12_isSign 42 = .ok (.iload_n 0, 1) := by decide +kernel
theorem dX12_isSign_43 : decode cX12_isSign 43 = .ok (.bipush 45, 2) := by decide +kernel
theorem dX12_isSign_45 : decode cX12_isSign 45 = .ok (.if_icmp .eq 21, 3) := by decide +kernel
theorem dX12_isSign_48 : decode cX12_isSign 48 = .ok (.iload_n 0, 1) := by decide +kernel
theorem dX12_isSign_49 : decode cX12_isSign 49 = .ok (.bipush 42, 2) := by decide +kernel
theorem dX12_isSign_51 : decode cX12_isSign 51 = .ok (.if_icmp .eq 15, 3) := by decide +kernel
theorem dX12_isSign_54 : decode cX12_isSign 54 = .ok (.iload_n 0, 1) := by decide +kernel
theorem dX12_isSign_55 : decode cX12_isSign 55 = .ok (.bipush 47, 2) := by decide +kernel
theorem dX12_isSign_57 : decode cX12_isSign 57 = .ok (.if_icmp .eq 9, 3) := by decide +kernel
theorem dX12_isSign_60 : decode cX12_isSign 60 = .ok (.iload_n 0, 1) := by decide +kernel
theorem dX12_isSign_61 : decode cX12_isSign 61 = .ok (.bipush 37, 2) := by decide +kernel
theorem dX12_isSign_63 : decode cX12_isSign 63 = .ok (.if_icmp .ne 7, 3) := by decide +kernel
theorem dX12_isSign_66 : decode cX12_isSign 66 = .ok (.iconst 1, 1) := by decide +kernel
theorem dX12_isSign_67 : decode cX12_isSign 67 = .ok (.goto 4, 3) := by decide +kernel
theorem dX12_isSign_70 : decode cX12_isSign 70 = .ok (.iconst 0, 1) := by decide +kernel
theorem dX12_isSign_71 : decode cX12_isSign 71 = .ok (.ireturn, 1) := by decide +kernel
theorem dX12_token_0 : decode cX12_token 0 = .ok (.aload_n 0, 1) := by decide +kernel
theorem dX12_token_1 : decode cX12_token 1 = .ok (.iconst 0, 1) := by decide +kernel
theorem dX12_token_2 : decode cX12_token 2 = .ok (.invokevirtual 152, 3) := by decide +kernel
theorem dX12_token_5 : decode cX12_token 5 = .ok (.bipush 32, 2) := by decide +kernel
theorem dX12_token_7 : decode cX12_token 7 = .ok (.if_icmp .eq 13, 3) := by decide +kernel
theorem dX12_token_10 : decode cX12_token 10 = .ok (.aload_n 0, 1) := by decide +kernel
theorem dX12_token_11 : decode cX12_token 11 = .ok (.iconst 0, 1) := by decide +kernel
theorem dX12_token_12 : decode cX12_token 12 = .ok (.invokevirtual 152, 3) := by decide +kernel
theorem dX12_token_15 : decode cX12_token 15 = .ok (.bipush 10, 2) := by decide +kernel
theorem dX12_token_17 : decode cX12_token 17 = .ok (.if_icmp .ne 16, 3) := by decide +kernel
theorem dX12_token_20 : decode cX12_token 20 = .ok (.aload_n 0, 1) := by decide +kernel
theorem dX12_token_21 : decode cX12_token 21 = .ok (.dup, 1) := by decide +kernel
theorem dX12_token_22 : decode cX12_token 22 = .ok (.getfield 146, 3) := by decide +kernel
theorem dX12_token_25 : decode cX12_token 25 = .ok (.iconst 1, 1) := by decide +kernel
theorem dX12_token_26 : decode cX12_token 26 = .ok (.iadd, 1) := by decide +kernel
theorem dX12_token_27 : decode cX12_token 27 = .ok (.putfield 146, 3) := by decide +kernel
theorem dX12_token_30 : decode cX12_token 30 = .ok (.goto (-30), 3) := by decide +kernel
theorem dX12_token_33 : decode cX12_token 33 = .ok (.aload_n 0, 1) := by decide +kernel
theorem dX12_token_34 : decode cX12_token 34 = .ok (.aload_n 0, 1) := by decide +kernel
theorem dX12_token_35 : decode cX12_token 35 = .ok (.getfield 146, 3) := by decide +kernel
theorem dX12_token_38 : decode cX12_token 38 = .ok (.putfield 156, 3) := by decide +kernel
theorem dX12_token_41 : decode cX12_token 41 = .ok (.aload_n 0, 1) := by decide +kernel
theorem dX12_token_42 : decode cX12_token 42 = .ok (.iconst 0, 1) := by decide +kernel
theorem dX12_token_43 : decode cX12_token 43 = .ok (.invokevirtual 152, 3) := by decide +kernel
theorem dX12_token_46 : decode cX12_token 46 = .ok (.istore_n 1, 1) := by decide +kernel
theorem dX12_token_47 : decode cX12_token 47 = .ok (.iconst 0, 1) := by decide +kernel
theorem dX12_token_48 : decode cX12_token 48 = .ok (.istore_n 2, 1) := by decide +kernel
theorem dX12_token_49 : decode cX12_token 49 = .ok (.aload_n 0, 1) := by decide +kernel
theorem dX12_token_50 : decode cX12_token 50 = .ok (.lconst 0, 1) := by decide +kernel
theorem dX12_token_51 : decode cX12_token 51 = .ok (.putfield 159, 3) := by decide +kernel
theorem dX12_token_54 : decode cX12_token 54 = .ok (.aload_n 0, 1) := by decide +kernel
theorem dX12_token_55 : decode cX12_token 55 = .ok (.iconst 0, 1) := by decide +kernel
theorem dX12_token_56 : decode cX12_token 56 = .ok (.putfield 163, 3) := by decide +kernel
theorem dX12_token_59 : decode cX12_token 59 = .ok (.iload_n 1, 1) := by decide +kernel
theorem dX12_token_60 : decode cX12_token 60 = .ok (.ifCond .ge 11, 3) := by decide +kernel
theorem dX12_token_63 : decode cX12_token 63 = .ok (.aload_n 0, 1) := by decide +kernel
theorem dX12_token_64 : decode cX12_token 64 = .ok (.iconst 0, 1) := by decide +kernel
theorem dX12_token_65 : decode cX12_token 65 = .ok (.putfield 166, 3) := by decide +kernel
theorem dX12_token_68 : decode cX12_token 68 = .ok (.goto 164, 3) := by decide +kernel
theorem dX12_token_71 : decode cX12_token 71 = .ok (.iload_n 1, 1) := by decide +kernel
theorem dX12_token_72 : decode cX12_token 72 = .ok (.invokestatic 169, 3) := by decide +kernel
theorem dX12_token_75 : decode cX12_token 75 = .ok (.ifCond .eq 62, 3) := by decide +kernel
theorem dX12_token_78 : decode cX12_token 78 = .ok (.aload_n 0, 1) := by decide +kernel
theorem dX12_token_79 : decode cX12_token 79 = .ok (.iload_n 2, 1) := by decide +kernel
theorem dX12_token_80 : decode cX12_token 80 = .ok (.invokevirtual 152, 3) := by decide +kernel
theorem dX12_token_83 : decode cX12_token 83 = .ok (.invokestatic 169, 3) := by decide +kernel
theorem dX12_token_86 : decode cX12_token 86 = .ok (.ifCond .eq 33, 3) := by decide +kernel
theorem dX12_token_89 : decode cX12_token 89 = .ok (.iload_n 2, 1) := by decide +kernel
theorem dX12_token_90 : decode cX12_token 90 = .ok (.bipush 8, 2) := by decide +kernel
theorem dX12_token_92 : decode cX12_token 92 = .ok (.if_icmp .ge 21, 3) := by decide +kernel
theorem dX12_token_95 : decode cX12_token 95 = .ok (.aload_n 0, 1) := by decide +kernel
theorem dX12_token_96 : decode cX12_token 96 = .ok (.aload_n 0, 1) := by decide +kernel
theorem dX12_token_97 : decode cX12_token 97 = .ok (.getfield 159, 3) := by decide +kernel
theorem dX12_token_100 : decode cX12_token 100 = .ok (.bipush 8, 2) := by decide +kernel
theorem dX12_token_102 : decode cX12_token 102 = .ok (.lshl, 1) := by decide +kernel
theorem dX12_token_103 : decode cX12_token 103 = .ok (.aload_n 0, 1) := by decide +kernel
theorem dX12_token_104 : decode cX12_token 104 = .ok (.iload_n 2, 1) := by decide +kernel
theorem dX12_token_105 : decode cX12_token 105 = .ok (.invokevirtual 152, 3) := by decide +kernel
theorem dX12_token_108 : decode cX12_token 108 = .ok (.i2l, 1) := by decide +kernel
theorem dX12_token_109 : decode cX12_token 109 = .ok (.lor, 1) := by decide +kernel
theorem dX12_token_110 : decode cX12_token 110 = .ok (.putfield 159, 3) := by decide +kernel
theorem dX12_token_113 : decode cX12_token 113 = .ok (.iinc 2 1, 3) := by decide +kernel
theorem dX12_token_116 : decode cX12_token 116 = .ok (.goto (-38), 3) := by decide +kernel
theorem dX12_token_119 : decode cX12_token 119 = .ok (.aload_n 0, 1) := by decide +kernel
theorem dX12_token_120 : decode cX12_token 120 = .ok (.iload_n 2, 1) := by decide +kernel
theorem dX12_token_121 : decode cX12_token 121 = .ok (.bipush 8, 2) := by decide +kernel
theorem dX12_token_123 : decode cX12_token 123 = .ok (.if_icmp .le 7, 3) := by decide +kernel
theorem dX12_token_126 : decode cX12_token 126 = .ok (.iconst 3, 1) := by decide +kernel
theorem dX12_token_127 : decode cX12_token 127 = .ok (.goto 4, 3) := by decide +kernel
theorem dX12_token_130 : decode cX12_token 130 = .ok (.iconst 1, 1) := by decide +kernel
theorem dX12_token_131 : decode cX12_token 131 = .ok (.putfield 166, 3) := by decide +kernel
theorem dX12_token_134 : decode cX12_token 134 = .ok (.goto 98, 3) := by decide +kernel
theorem dX12_token_137 : decode cX12_token 137 = .ok (.iload_n 1, 1) := by decide +kernel
theorem dX12_token_138 : decode cX12_token 138 = .ok (.invokestatic 173, 3) := by decide +kernel
theorem dX12_token_141 : decode cX12_token 141 = .ok (.ifCond .eq 73, 3) := by decide +kernel
theorem dX12_token_144 : decode cX12_token 144 = .ok (.aload_n 0, 1) := by decide +kernel
theorem dX12_token_145 : decode cX12_token 145 = .ok (.iload_n 2, 1) := by decide +kernel
theorem dX12_token_146 : decode cX12_token 146 = .ok (.invokevirtual 152, 3) := by decide +kernel
theorem dX12_token_149 : decode cX12_token 149 = .ok (.invokestatic 173, 3) := by decide +kernel
theorem dX12_token_152 : decode cX12_token 152 = .ok (.ifCond .eq 34, 3) := by decide +kernel
theorem dX12_token_155 : decode cX12_token 155 = .ok (.iload_n 2, 1) := by decide +kernel
theorem dX12_token_156 : decode cX12_token 156 = .ok (.iconst 4, 1) := by decide +kernel
theorem dX12_token_157 : decode cX12_token 157 = .ok (.if_icmp .ge 23, 3) := by decide +kernel
theorem dX12_token_160 : decode cX12_token 160 = .ok (.aload_n 0, 1) := by decide +kernel
theorem dX12_token_161 : decode cX12_token 161 = .ok (.bipush 10, 2) := by decide +kernel
theorem dX12_token_163 : decode cX12_token 163 = .ok (.aload_n 0, 1) := by decide +kernel
theorem dX12_token_164 : decode cX12_token 164 = .ok (.getfield 163, 3) := by decide +kernel
theorem dX12_token_167 : decode cX12_token 167 = .ok (.imul, 1) := by decide +kernel
theorem dX12_token_168 : decode cX12_token 168 = .ok (.aload_n 0, 1) := by decide +kernel
theorem dX12_token_169 : decode cX12_token 169 = .ok (.iload_n 2, 1) := by decide +kernel
theorem dX12_token_170 : decode cX12_token 170 = .ok (.invokevirtual 152, 3) := by decide +kernel
theorem dX12_token_173 : decode cX12_token 173 = .ok (.iadd, 1) := by decide +kernel
theorem dX12_token_174 : decode cX12_token 174 = .ok (.bipush 48, 2) := by decide +kernel
theorem dX12_token_176 : decode cX12_token 176 = .ok (.isub, 1) := by decide +kernel
theorem dX12_token_177 : decode cX12_token 177 = .ok (.putfield 163, 3) := by decide +kernel
theorem dX12_token_180 : decode cX12_token 180 = .ok (.iinc 2 1, 3) := by decide +kernel
theorem dX12_token_183 : decode cX12_token 183 = .ok (.goto (-39), 3) := by decide +kernel
theorem dX12_token_186 : decode cX12_token 186 = .ok (.aload_n 0, 1) := by decide +kernel
theorem dX12_token_187 : decode cX12_token 187 = .ok (.iload_n 2, 1) := by decide +kernel
theorem dX12_token_188 : decode cX12_token 188 = .ok (.iconst 4, 1) := by decide +kernel
theorem dX12_token_189 : decode cX12_token 189 = .ok (.if_icmp .gt 14, 3) := by decide +kernel
theorem dX12_token_192 : decode cX12_token 192 = .ok (.aload_n 0, 1) := by decide +kernel
theorem dX12_token_193 : decode cX12_token 193 = .ok (.iload_n 2, 1) := by decide +kernel
theorem dX12_token_194 : decode cX12_token 194 = .ok (.invokevirtual 152, 3) := by decide +kernel
theorem dX12_token_197 : decode cX12_token 197 = .ok (.invokestatic 169, 3) := by decide +kernel
theorem dX12_token_200 : decode cX12_token 200 = .ok (.ifCond .eq 7, 3) := by decide +kernel
theorem dX12_token_203 : decode cX12_token 203 = .ok (.iconst 3, 1) := by decide +kernel
theorem dX12_token_204 : decode cX12_token 204 = .ok (.goto 4, 3) := by decide +kernel
theorem dX12_token_207 : decode cX12_token 207 = .ok (.iconst 2, 1) := by decide +kernel
theorem dX12_token_208 : decode cX12_token 208 = .ok (.putfield 166, 3) := by decide +kernel
theorem dX12_token_211 : decode cX12_token 211 = .ok (.goto 21, 3) := by decide +kernel
theorem dX12_token_214 : decode cX12_token 214 = .ok (.iconst 1, 1) := by decide +kernel
theorem dX12_token_215 : decode cX12_token 215 = .ok (.istore_n 2, 1) := by decide +kernel
theorem dX12_token_216 : decode cX12_token 216 = .ok (.aload_n 0, 1) := by decide +kernel
theorem dX12_token_217 : decode cX12_token 217 = .ok (.iload_n 1, 1) := by decide +kernel
theorem dX12_token_218 : decode cX12_token 218 = .ok (.invokestatic 176, 3) := by decide +kernel
theorem dX12_token_221 : decode cX12_token 221 = .ok (.ifCond .eq 7, 3) := by decide +kernel
theorem dX12_token_224 : decode cX12_token 224 = .ok (.iload_n 1, 1) := by decide +kernel
theorem dX12_token_225 : decode cX12_token 225 = .ok (.goto 4, 3) := by decide +kernel
theorem dX12_token_228 : decode cX12_token 228 = .ok (.iconst 3, 1) := by decide +kernel
theorem dX12_token_229 : decode cX12_token 229 = .ok (.putfield 166, 3) := by decide +kernel
theorem dX12_token_232 : decode cX12_token 232 = .ok (.aload_n 0, 1) := by decide +kernel
theorem dX12_token_233 : decode cX12_token 233 = .ok (.getfield 166, 3) := by decide +kernel
theorem dX12_token_236 : decode cX12_token 236 = .ok (.iconst 3, 1) := by decide +kernel
theorem dX12_token_237 : decode cX12_token 237 = .ok (.if_icmp .eq 13, 3) := by decide +kernel
theorem dX12_token_240 : decode cX12_token 240 = .ok (.aload_n 0, 1) := by decide +kernel
theorem dX12_token_241 : decode cX12_token 241 = .ok (.dup, 1) := by decide +kernel
theorem dX12_token_242 : decode cX12_token 242 = .ok (.getfield 146, 3) := by decide +kernel
theorem dX12_token_245 : decode cX12_token 245 = .ok (.iload_n 2, 1) := by decide +kernel
theorem dX12_token_246 : decode cX12_token 246 = .ok (.iadd, 1) := by decide +kernel
theorem dX12_token_247 : decode cX12_token 247 = .ok (.putfield 146, 3) := by decide +kernel
theorem dX12_token_250 : decode cX12_token 250 = .ok (.return_, 1) := by decide +kernel
theorem dX12_wrong_0 : decode cX12_wrong 0 = .ok (.aload_n 0, 1) := by decide +kernel
theorem dX12_wrong_1 : decode cX12_wrong 1 = .ok (.getfield 179, 3) := by decide +kernel
theorem dX12_wrong_4 : decode cX12_wrong 4 = .ok (.ifCond .le 4, 3) := by decide +kernel
theorem dX12_wrong_7 : decode cX12_wrong 7 = .ok (.return_, 1) := by decide +kernel
theorem dX12_wrong_8 : decode cX12_wrong 8 = .ok (.aload_n 0, 1) := by decide +kernel
theorem dX12_wrong_9 : decode cX12_wrong 9 = .ok (.aload_n 0, 1) := by decide +kernel
theorem dX12_wrong_10 : decode cX12_wrong 10 = .ok (.getfield 166, 3) := by decide +kernel
theorem dX12_wrong_13 : decode cX12_wrong 13 = .ok (.iconst 3, 1) := by decide +kernel
theorem dX12_wrong_14 : decode cX12_wrong 14 = .ok (.if_icmp .ne 7, 3) := by decide +kernel
theorem dX12_wrong_17 : decode cX12_wrong 17 = .ok (.iconst 1, 1) := by decide +kernel
theorem dX12_wrong_18 : decode cX12_wrong 18 = .ok (.goto 4, 3) := by decide +kernel
theorem dX12_wrong_21 : decode cX12_wrong 21 = .ok (.iload_n 1, 1) := by decide +kernel
theorem dX12_wrong_22 : decode cX12_wrong 22 = .ok (.putfield 179, 3) := by decide +kernel
theorem dX12_wrong_25 : decode cX12_wrong 25 = .ok (.aload_n 0, 1) := by decide +kernel
theorem dX12_wrong_26 : decode cX12_wrong 26 = .ok (.aload_n 0, 1) := by decide +kernel
theorem dX12_wrong_27 : decode cX12_wrong 27 = .ok (.getfield 156, 3) := by decide +kernel
theorem dX12_wrong_30 : decode cX12_wrong 30 = .ok (.putfield 13, 3) := by decide +kernel
theorem dX12_wrong_33 : decode cX12_wrong 33 = .ok (.return_, 1) := by decide +kernel
theorem dX12_isWord_0 : decode cX12_isWord 0 = .ok (.aload_n 0, 1) := by decide +kernel
theorem dX12_isWord_1 : decode cX12_isWord 1 = .ok (.getfield 166, 3) := by decide +kernel
theorem dX12_isWord_4 : decode cX12_isWord 4 = .ok (.iconst 1, 1) := by decide +kernel
theorem dX12_isWord_5 : decode cX12_isWord 5 = .ok (.if_icmp .ne 16, 3) := by decide +kernel
theorem dX12_isWord_8 : decode cX12_isWord 8 = .ok (.aload_n 0, 1) := by decide +kernel
theorem dX12_isWord_9 : decode cX12_isWord 9 = .ok (.getfield 159, 3) := by decide +kernel
theorem dX12_isWord_12 : decode cX12_isWord 12 = .ok (.lload_n 1, 1) := by decide +kernel
theorem dX12_isWord_13 : decode cX12_isWord 13 = .ok (.lcmp, 1) := by decide +kernel
theorem dX12_isWord_14 : decode cX12_isWord 14 = .ok (.ifCond .ne 7, 3) := by decide +kernel
theorem dX12_isWord_17 : decode cX12_isWord 17 = .ok (.iconst 1, 1) := by decide +kernel
theorem dX12_isWord_18 : decode cX12_isWord 18 = .ok (.goto 4, 3) := by decide +kernel
theorem dX12_isWord_21 : decode cX12_isWord 21 = .ok (.iconst 0, 1) := by decide +kernel
theorem dX12_isWord_22 : decode cX12_isWord 22 = .ok (.ireturn, 1) := by decide +kernel
theorem dX12_isOwn_0 : decode cX12_isOwn 0 = .ok (.aload_n 0, 1) := by decide +kernel
theorem dX12_isOwn_1 : decode cX12_isOwn 1 = .ok (.getfield 159, 3) := by decide +kernel
theorem dX12_isOwn_4 : decode cX12_isOwn 4 = .ok (.ldc2_w 182, 3) := by decide +kernel
theorem dX12_isOwn_7 : decode cX12_isOwn 7 = .ok (.lcmp, 1) := by decide +kernel
theorem dX12_isOwn_8 : decode cX12_isOwn 8 = .ok (.ifCond .eq 201, 3) := by decide +kernel
theorem dX12_isOwn_11 : decode cX12_isOwn 11 = .ok (.aload_n 0, 1) := by decide +kernel
theorem dX12_isOwn_12 : decode cX12_isOwn 12 = .ok (.getfield 159, 3) := by decide +kernel
theorem dX12_isOwn_15 : decode cX12_isOwn 15 = .ok (.ldc2_w 184, 3) := by decide +kernel
theorem dX12_isOwn_18 : decode cX12_isOwn 18 = .ok (.lcmp, 1) := by decide +kernel
theorem dX12_isOwn_19 : decode cX12_isOwn 19 = .ok (.ifCond .eq 190, 3) := by decide +kernel
theorem dX12_isOwn_22 : decode cX12_isOwn 22 = .ok (.aload_n 0, 1) := by decide +kernel
theorem dX12_isOwn_23 : decode cX12_isOwn 23 = .ok (.getfield 159, 3) := by decide +kernel
theorem dX12_isOwn_26 : decode cX12_isOwn 26 = .ok (.ldc2_w 186, 3) := by decide +kernel
theorem dX12_isOwn_29 : decode cX12_isOwn 29 = .ok (.lcmp, 1) := by decide +kernel
theorem dX12_isOwn_30 : decode cX12_isOwn 30 = .ok (.ifCond .eq 179, 3) := by decide +kernel
theorem dX12_isOwn_33 : decode cX12_isOwn 33 = .ok (.aload_n 0, 1) := by decide +kernel
theorem dX12_isOwn_34 : decode cX12_isOwn 34 = .ok (.getfield 159, 3) := by decide +kernel
theorem dX12_isOwn_37 : decode cX12_isOwn 37 = .ok (.ldc2_w 188, 3) := by decide +kernel
theorem dX12_isOwn_40 : decode cX12_isOwn 40 = .ok (.lcmp, 1) := by decide +kernel
theorem dX12_isOwn_41 : decode cX12_isOwn 41 = .ok (.ifCond .eq 168, 3) := by decide +kernel
theorem dX12_isOwn_44 : decode cX12_isOwn 44 = .ok (.aload_n 0, 1) := by decide +kernel
theorem dX12_isOwn_45 : decode cX12_isOwn 45 = .ok (.getfield 159, 3) := by decide +kernel
theorem dX12_isOwn_48 : decode cX12_isOwn 48 = .ok (.ldc2_w 190, 3) := by decide +kernel
theorem dX12_isOwn_51 : decode cX12_isOwn 51 = .ok (.lcmp, 1) := by decide +kernel
theorem dX12_isOwn_52 : decode cX12_isOwn 52 = .ok (.ifCond .eq 157, 3) := by decide +kernel
theorem dX12_isOwn_55 : decode cX12_isOwn 55 = .ok (.aload_n 0, 1) := by decide +kernel
theorem dX12_isOwn_56 : decode cX12_isOwn 56 = .ok (.getfield 159, 3) := by decide +kernel
theorem dX12_isOwn_59 : decode cX12_isOwn 59 = .ok (.ldc2_w 192, 3) := by decide +kernel
theorem dX12_isOwn_62 : decode cX12_isOwn 62 = .ok (.lcmp, 1) := by decide +kernel
theorem dX12_isOwn_63 : decode cX12_isOwn 63 = .ok (.ifCond .eq 146, 3) := by decide +kernel
theorem dX12_isOwn_66 : decode cX12_isOwn 66 = .ok (.aload_n 0, 1) := by decide +kernel
theorem dX12_isOwn_67 : decode cX12_isOwn 67 = .ok (.getfield 159, 3) := by decide +kernel
theorem dX12_isOwn_70 : decode cX12_isOwn 70 = .ok (.ldc2_w 194, 3) := by decide +kernel
theorem dX12_isOwn_73 : decode cX12_isOwn 73 = .ok (.lcmp, 1) := by decide +kernel
theorem dX12_isOwn_74 : decode cX12_isOwn 74 = .ok (.ifCond .eq 135, 3) := by decide +kernel
theorem dX12_isOwn_77 : decode cX12_isOwn 77 = .ok (.aload_n 0, 1) := by decide +kernel
theorem dX12_isOwn_78 : decode cX12_isOwn 78 = .ok (.getfield 159, 3) := by decide +kernel
theorem dX12_isOwn_81 : decode cX12_isOwn 81 = .ok (.ldc2_w 196, 3) := by decide +kernel
theorem dX12_isOwn_84 : decode cX12_isOwn 84 = .ok (.lcmp, 1) := by decide +kernel
theorem dX12_isOwn_85 : decode cX12_isOwn 85 = .ok (.ifCond .eq 124, 3) := by decide +kernel
theorem dX12_isOwn_88 : decode cX12_isOwn 88 = .ok (.aload_n 0, 1) := by decide +kernel
theorem dX12_isOwn_89 : decode cX12_isOwn 89 = .ok (.getfield 159, 3) := by decide +kernel
theorem dX12_isOwn_92 : decode cX12_isOwn 92 = .ok (.ldc2_w 198, 3) := by decide +kernel
theorem dX12_isOwn_95 : decode cX12_isOwn 95 = .ok (.lcmp, 1) := by decide +kernel
theorem dX12_isOwn_96 : decode cX12_isOwn 96 = .ok (.ifCond .eq 113, 3) := by decide +kernel
theorem dX12_isOwn_99 : decode cX12_isOwn 99 = .ok (.aload_n 0, 1) := by decide +kernel
theorem dX12_isOwn_100 : decode cX12_isOwn 100 = .ok (.getfield 159, 3) := by decide +kernel
theorem dX12_isOwn_103 : decode cX12_isOwn 103 = .ok (.ldc2_w 200, 3) := by decide +kernel
theorem dX12_isOwn_106 : decode cX12_isOwn 106 = .ok (.lcmp, 1) := by decide +kernel
theorem dX12_isOwn_107 : decode cX12_isOwn 107 = .ok (.ifCond .eq 102, 3) := by decide +kernel
theorem dX12_isOwn_110 : decode cX12_isOwn 110 = .ok (.aload_n 0, 1) := by decide +kernel
theorem dX12_isOwn_111 : decode cX12_isOwn 111 = .ok (.getfield 159, 3) := by decide +kernel
theorem dX12_isOwn_114 : decode cX12_isOwn 114 = .ok (.ldc2_w 202, 3) := by decide +kernel
theorem dX12_isOwn_117 : decode cX12_isOwn 117 = .ok (.lcmp, 1) := by decide +kernel
theorem dX12_isOwn_118 : decode cX12_isOwn 118 = .ok (.ifCond .eq 91, 3) := by decide +kernel
theorem dX12_isOwn_121 : decode cX12_isOwn 121 = .ok (.aload_n 0, 1) := by decide +kernel
theorem dX12_isOwn_122 : decode cX12_isOwn 122 = .ok (.getfield 159, 3) := by decide +kernel
theorem dX12_isOwn_125 : decode cX12_isOwn 125 = .ok (.ldc2_w 204, 3) := by decide +kernel
theorem dX12_isOwn_128 : decode cX12_isOwn 128 = .ok (.lcmp, 1) := by decide +kernel
theorem dX12_isOwn_129 : decode cX12_isOwn 129 = .ok (.ifCond .eq 80, 3) := by decide +kernel
theorem dX12_isOwn_132 : decode cX12_isOwn 132 = .ok (.aload_n 0, 1) := by decide +kernel
theorem dX12_isOwn_133 : decode cX12_isOwn 133 = .ok (.getfield 159, 3) := by decide +kernel
theorem dX12_isOwn_136 : decode cX12_isOwn 136 = .ok (.ldc2_w 206, 3) := by decide +kernel
theorem dX12_isOwn_139 : decode cX12_isOwn 139 = .ok (.lcmp, 1) := by decide +kernel
theorem dX12_isOwn_140 : decode cX12_isOwn 140 = .ok (.ifCond .eq 69, 3) := by decide +kernel
theorem dX12_isOwn_143 : decode cX12_isOwn 143 = .ok (.aload_n 0, 1) := by decide +kernel
theorem dX12_isOwn_144 : decode cX12_isOwn 144 = .ok (.getfield 159, 3) := by decide +kernel
theorem dX12_isOwn_147 : decode cX12_isOwn 147 = .ok (.ldc2_w 208, 3) := by decide +kernel
theorem dX12_isOwn_150 : decode cX12_isOwn 150 = .ok (.lcmp, 1) := by decide +kernel
theorem dX12_isOwn_151 : decode cX12_isOwn 151 = .ok (.ifCond .eq 58, 3) := by decide +kernel
theorem dX12_isOwn_154 : decode cX12_isOwn 154 = .ok (.aload_n 0, 1) := by decide +kernel
theorem dX12_isOwn_155 : decode cX12_isOwn 155 = .ok (.getfield 159, 3) := by decide +kernel
theorem dX12_isOwn_158 : decode cX12_isOwn 158 = .ok (.ldc2_w 210, 3) := by decide +kernel
theorem dX12_isOwn_161 : decode cX12_isOwn 161 = .ok (.lcmp, 1) := by decide +kernel
theorem dX12_isOwn_162 : decode cX12_isOwn 162 = .ok (.ifCond .eq 47, 3) := by decide +kernel
theorem dX12_isOwn_165 : decode cX12_isOwn 165 = .ok (.aload_n 0, 1) := by decide +kernel
theorem dX12_isOwn_166 : decode cX12_isOwn 166 = .ok (.getfield 159, 3) := by decide +kernel
theorem dX12_isOwn_169 : decode cX12_isOwn 169 = .ok (.ldc2_w 212, 3) := by decide +kernel
theorem dX12_isOwn_172 : decode cX12_isOwn 172 = .ok (.lcmp, 1) := by decide +kernel
theorem dX12_isOwn_173 : decode cX12_isOwn 173 = .ok (.ifCond .eq 36, 3) := by decide +kernel
theorem dX12_isOwn_176 : decode cX12_isOwn 176 = .ok (.aload_n 0, 1) := by decide +kernel
theorem dX12_isOwn_177 : decode cX12_isOwn 177 = .ok (.getfield 159, 3) := by decide +kernel
theorem dX12_isOwn_180 : decode cX12_isOwn 180 = .ok (.ldc2_w 214, 3) := by decide +kernel
theorem dX12_isOwn_183 : decode cX12_isOwn 183 = .ok (.lcmp, 1) := by decide +kernel
theorem dX12_isOwn_184 : decode cX12_isOwn 184 = .ok (.ifCond .eq 25, 3) := by decide +kernel
theorem dX12_isOwn_187 : decode cX12_isOwn 187 = .ok (.aload_n 0, 1) := by decide +kernel
theorem dX12_isOwn_188 : decode cX12_isOwn 188 = .ok (.getfield 159, 3) := by decide +kernel
theorem dX12_isOwn_191 : decode cX12_isOwn 191 = .ok (.ldc2_w 216, 3) := by decide +kernel
theorem dX12_isOwn_194 : decode cX12_isOwn 194 = .ok (.lcmp, 1) := by decide +kernel
theorem dX12_isOwn_195 : decode cX12_isOwn 195 = .ok (.ifCond .eq 14, 3) := by decide +kernel
theorem dX12_isOwn_198 : decode cX12_isOwn 198 = .ok (.aload_n 0, 1) := by decide +kernel
theorem dX12_isOwn_199 : decode cX12_isOwn 199 = .ok (.getfield 159, 3) := by decide +kernel
theorem dX12_isOwn_202 : decode cX12_isOwn 202 = .ok (.ldc2_w 218, 3) := by decide +kernel
theorem dX12_isOwn_205 : decode cX12_isOwn 205 = .ok (.lcmp, 1) := by decide +kernel
theorem dX12_isOwn_206 : decode cX12_isOwn 206 = .ok (.ifCond .ne 7, 3) := by decide +kernel
theorem dX12_isOwn_209 : decode cX12_isOwn 209 = .ok (.iconst 1, 1) := by decide +kernel
theorem dX12_isOwn_210 : decode cX12_isOwn 210 = .ok (.goto 4, 3) := by decide +kernel
theorem dX12_isOwn_213 : decode cX12_isOwn 213 = .ok (.iconst 0, 1) := by decide +kernel
theorem dX12_isOwn_214 : decode cX12_isOwn 214 = .ok (.ireturn, 1) := by decide +kernel
theorem dX12_isName_0 : decode cX12_isName 0 = .ok (.aload_n 0, 1) := by decide +kernel
theorem dX12_isName_1 : decode cX12_isName 1 = .ok (.getfield 166, 3) := by decide +kernel
theorem dX12_isName_4 : decode cX12_isName 4 = .ok (.iconst 1, 1) := by decide +kernel
theorem dX12_isName_5 : decode cX12_isName 5 = .ok (.if_icmp .ne 14, 3) := by decide +kernel
theorem dX12_isName_8 : decode cX12_isName 8 = .ok (.aload_n 0, 1) := by decide +kernel
theorem dX12_isName_9 : decode cX12_isName 9 = .ok (.invokevirtual 220, 3) := by decide +kernel
theorem dX12_isName_12 : decode cX12_isName 12 = .ok (.ifCond .ne 7, 3) := by decide +kernel
theorem dX12_isName_15 : decode cX12_isName 15 = .ok (.iconst 1, 1) := by decide +kernel
theorem dX12_isName_16 : decode cX12_isName 16 = .ok (.goto 4, 3) := by decide +kernel
theorem dX12_isName_19 : decode cX12_isName 19 = .ok (.iconst 0, 1) := by decide +kernel
theorem dX12_isName_20 : decode cX12_isName 20 = .ok (.ireturn, 1) := by decide +kernel
theorem dX12_want_0 : decode cX12_want 0 = .ok (.aload_n 0, 1) := by decide +kernel
theorem dX12_want_1 : decode cX12_want 1 = .ok (.getfield 179, 3) := by decide +kernel
theorem dX12_want_4 : decode cX12_want 4 = .ok (.ifCond .le 4, 3) := by decide +kernel
theorem dX12_want_7 : decode cX12_want 7 = .ok (.return_, 1) := by decide +kernel
theorem dX12_want_8 : decode cX12_want 8 = .ok (.aload_n 0, 1) := by decide +kernel
theorem dX12_want_9 : decode cX12_want 9 = .ok (.lload_n 1, 1) := by decide +kernel
theorem dX12_want_10 : decode cX12_want 10 = .ok (.invokevirtual 224, 3) := by decide +kernel
theorem dX12_want_13 : decode cX12_want 13 = .ok (.ifCond .ne 11, 3) := by decide +kernel
theorem dX12_want_16 : decode cX12_want 16 = .ok (.aload_n 0, 1) := by decide +kernel
theorem dX12_want_17 : decode cX12_want 17 = .ok (.iconst 2, 1) := by decide +kernel
theorem dX12_want_18 : decode cX12_want 18 = .ok (.invokevirtual 228, 3) := by decide +kernel
theorem dX12_want_21 : decode cX12_want 21 = .ok (.goto 7, 3) := by decide +kernel
theorem dX12_want_24 : decode cX12_want 24 = .ok (.aload_n 0, 1) := by decide +kernel
theorem dX12_want_25 : decode cX12_want 25 = .ok (.invokevirtual 231, 3) := by decide +kernel
theorem dX12_want_28 : decode cX12_want 28 = .ok (.return_, 1) := by decide +kernel
theorem dX12_toldNumber_0 : decode cX12_toldNumber 0 = .ok (.aload_n 0, 1) := by decide +kernel
theorem dX12_toldNumber_1 : decode cX12_toldNumber 1 = .ok (.getfield 179, 3) := by decide +kernel
theorem dX12_toldNumber_4 : decode cX12_toldNumber 4 = .ok (.ifCond .le 5, 3) := by decide +kernel
theorem dX12_toldNumber_7 : decode cX12_toldNumber 7 = .ok (.iconst 0, 1) := by decide +kernel
theorem dX12_toldNumber_8 : decode cX12_toldNumber 8 = .ok (.ireturn, 1) := by decide +kernel
theorem dX12_toldNumber_9 : decode cX12_toldNumber 9 = .ok (.aload_n 0, 1) := by decide +kernel
theorem dX12_toldNumber_10 : decode cX12_toldNumber 10 = .ok (.getfield 166, 3) := by decide +kernel
theorem dX12_toldNumber_13 : decode cX12_toldNumber 13 = .ok (.iconst 2, 1) := by decide +kernel
theorem dX12_toldNumber_14 : decode cX12_toldNumber 14 = .ok (.if_icmp .eq 11, 3) := by decide +kernel
theorem dX12_toldNumber_17 : decode cX12_toldNumber 17 = .ok (.aload_n 0, 1) := by decide +kernel
theorem dX12_toldNumber_18 : decode cX12_toldNumber 18 = .ok (.iconst 2, 1) := by decide +kernel
theorem dX12_toldNumber_19 : decode cX12_toldNumber 19 = .ok (.invokevirtual 228, 3) := by decide +kernel
theorem dX12_toldNumber_22 : decode cX12_toldNumber 22 = .ok (.goto 24, 3) := by decide +kernel
theorem dX12_toldNumber_25 : decode cX12_toldNumber 25 = .ok (.aload_n 0, 1) := by decide +kernel
theorem dX12_toldNumber_26 : decode cX12_toldNumber 26 = .ok (.getfield 163, 3) := by decide +kernel
theorem dX12_toldNumber_29 : decode cX12_toldNumber 29 = .ok (.iload_n 1, 1) := by decide +kernel
theorem dX12_toldNumber_30 : decode cX12_toldNumber 30 = .ok (.if_icmp .lt 11, 3) := by decide +kernel
theorem dX12_toldNumber_33 : decode cX12_toldNumber 33 = .ok (.aload_n 0, 1) := by decide +kernel
theorem dX12_toldNumber_34 : decode cX12_toldNumber 34 = .ok (.getfield 163, 3) := by decide +kernel
theorem dX12_toldNumber_37 : decode cX12_toldNumber 37 = .ok (.iload_n 2, 1) := by decide +kernel
theorem dX12_toldNumber_38 : decode cX12_toldNumber 38 = .ok (.if_icmp .le 8, 3) := by decide +kernel
theorem dX12_toldNumber_41 : decode cX12_toldNumber 41 = .ok (.aload_n 0, 1) := by decide +kernel
theorem dX12_toldNumber_42 : decode cX12_toldNumber 42 = .ok (.iconst 4, 1) := by decide +kernel
theorem dX12_toldNumber_43 : decode cX12_toldNumber 43 = .ok (.invokevirtual 228, 3) := by decide +kernel
theorem dX12_toldNumber_46 : decode cX12_toldNumber 46 = .ok (.aload_n 0, 1) := by decide +kernel
theorem dX12_toldNumber_47 : decode cX12_toldNumber 47 = .ok (.getfield 163, 3) := by decide +kernel
theorem dX12_toldNumber_50 : decode cX12_toldNumber 50 = .ok (.istore_n 3, 1) := by decide +kernel
theorem dX12_toldNumber_51 : decode cX12_toldNumber 51 = .ok (.aload_n 0, 1) := by decide +kernel
theorem dX12_toldNumber_52 : decode cX12_toldNumber 52 = .ok (.getfield 179, 3) := by decide +kernel
theorem dX12_toldNumber_55 : decode cX12_toldNumber 55 = .ok (.ifCond .ne 7, 3) := by decide +kernel
theorem dX12_toldNumber_58 : decode cX12_toldNumber 58 = .ok (.aload_n 0, 1) := by decide +kernel
theorem dX12_toldNumber_59 : decode cX12_toldNumber 59 = .ok (.invokevirtual 231, 3) := by decide +kernel
theorem dX12_toldNumber_62 : decode cX12_toldNumber 62 = .ok (.iload_n 3, 1) := by decide +kernel
theorem dX12_toldNumber_63 : decode cX12_toldNumber 63 = .ok (.ireturn, 1) := by decide +kernel
theorem dX12_told_0 : decode cX12_told 0 = .ok (.aload_n 0, 1) := by decide +kernel
theorem dX12_told_1 : decode cX12_told 1 = .ok (.lload_n 1, 1) := by decide +kernel
theorem dX12_told_2 : decode cX12_told 2 = .ok (.invokevirtual 234, 3) := by decide +kernel
theorem dX12_told_5 : decode cX12_told 5 = .ok (.aload_n 0, 1) := by decide +kernel
theorem dX12_told_6 : decode cX12_told 6 = .ok (.iload_n 3, 1) := by decide +kernel
theorem dX12_told_7 : decode cX12_told 7 = .ok (.iload 4, 2) := by decide +kernel
theorem dX12_told_9 : decode cX12_told 9 = .ok (.invokevirtual 238, 3) := by decide +kernel
theorem dX12_told_12 : decode cX12_told 12 = .ok (.ireturn, 1) := by decide +kernel
theorem dX12_option_0 : decode cX12_option 0 = .ok (.aload_n 0, 1) := by decide +kernel
theorem dX12_option_1 : decode cX12_option 1 = .ok (.getfield 179, 3) := by decide +kernel
theorem dX12_option_4 : decode cX12_option 4 = .ok (.ifCond .ne 21, 3) := by decide +kernel
theorem dX12_option_7 : decode cX12_option 7 = .ok (.aload_n 0, 1) := by decide +kernel
theorem dX12_option_8 : decode cX12_option 8 = .ok (.lload_n 1, 1) := by decide +kernel
theorem dX12_option_9 : decode cX12_option 9 = .ok (.invokevirtual 224, 3) := by decide +kernel
theorem dX12_option_12 : decode cX12_option 12 = .ok (.ifCond .eq 13, 3) := by decide +kernel
theorem dX12_option_15 : decode cX12_option 15 = .ok (.aload_n 0, 1) := by decide +kernel
theorem dX12_option_16 : decode cX12_option 16 = .ok (.lload_n 1, 1) := by decide +kernel
theorem dX12_option_17 : decode cX12_option 17 = .ok (.iconst 0, 1) := by decide +kernel
theorem dX12_option_18 : decode cX12_option 18 = .ok (.iload_n 3, 1) := by decide +kernel
theorem dX12_option_19 : decode cX12_option 19 = .ok (.invokevirtual 242, 3) := by decide +kernel
theorem dX12_option_22 : decode cX12_option 22 = .ok (.goto 5, 3) := by decide +kernel
theorem dX12_option_25 : decode cX12_option 25 = .ok (.iload 4, 2) := by decide +kernel
theorem dX12_option_27 : decode cX12_option 27 = .ok (.ireturn, 1) := by decide +kernel
theorem dX12_newName_0 : decode cX12_newName 0 = .ok (.aload_n 0, 1) := by decide +kernel
theorem dX12_newName_1 : decode cX12_newName 1 = .ok (.invokevirtual 231, 3) := by decide +kernel
theorem dX12_newName_4 : decode cX12_newName 4 = .ok (.aload_n 0, 1) := by decide +kernel
theorem dX12_newName_5 : decode cX12_newName 5 = .ok (.invokevirtual 246, 3) := by decide +kernel
theorem dX12_newName_8 : decode cX12_newName 8 = .ok (.ifCond .ne 8, 3) := by decide +kernel
theorem dX12_newName_11 : decode cX12_newName 11 = .ok (.aload_n 0, 1) := by decide +kernel
theorem dX12_newName_12 : decode cX12_newName 12 = .ok (.iconst 2, 1) := by decide +kernel
theorem dX12_newName_13 : decode cX12_newName 13 = .ok (.invokevirtual 228, 3) := by decide +kernel
theorem dX12_newName_16 : decode cX12_newName 16 = .ok (.iconst 0, 1) := by decide +kernel
theorem dX12_newName_17 : decode cX12_newName 17 = .ok (.istore_n 3, 1) := by decide +kernel
theorem dX12_newName_18 : decode cX12_newName 18 = .ok (.iload_n 3, 1) := by decide +kernel
theorem dX12_newName_19 : decode cX12_newName 19 = .ok (.iload_n 2, 1) := by decide +kernel
theorem dX12_newName_20 : decode cX12_newName 20 = .ok (.if_icmp .ge 37, 3) := by decide +kernel
theorem dX12_newName_23 : decode cX12_newName 23 = .ok (.aload_n 0, 1) := by decide +kernel
theorem dX12_newName_24 : decode cX12_newName 24 = .ok (.getfield 179, 3) := by decide +kernel
theorem dX12_newName_27 : decode cX12_newName 27 = .ok (.ifCond .ne 30, 3) := by decide +kernel
theorem dX12_newName_30 : decode cX12_newName 30 = .ok (.aload_n 0, 1) := by decide +kernel
theorem dX12_newName_31 : decode cX12_newName 31 = .ok (.getfield 17, 3) := by decide +kernel
theorem dX12_newName_34 : decode cX12_newName 34 = .ok (.iload_n 1, 1) := by decide +kernel
theorem dX12_newName_35 : decode cX12_newName 35 = .ok (.iload_n 3, 1) := by decide +kernel
theorem dX12_newName_36 : decode cX12_newName 36 = .ok (.iadd, 1) := by decide +kernel
theorem dX12_newName_37 : decode cX12_newName 37 = .ok (.laload, 1) := by decide +kernel
theorem dX12_newName_38 : decode cX12_newName 38 = .ok (.aload_n 0, 1) := by decide +kernel
theorem dX12_newName_39 : decode cX12_newName 39 = .ok (.getfield 159, 3) := by decide +kernel
theorem dX12_newName_42 : decode cX12_newName 42 = .ok (.lcmp, 1) := by decide +kernel
theorem dX12_newName_43 : decode cX12_newName 43 = .ok (.ifCond .ne 8, 3) := by decide +kernel
theorem dX12_newName_46 : decode cX12_newName 46 = .ok (.aload_n 0, 1) := by decide +kernel
theorem dX12_newName_47 : decode cX12_newName 47 = .ok (.iconst 3, 1) := by decide +kernel
theorem dX12_newName_48 : decode cX12_newName 48 = .ok (.invokevirtual 228, 3) := by decide +kernel
theorem dX12_newName_51 : decode cX12_newName 51 = .ok (.iinc 3 1, 3) := by decide +kernel
theorem dX12_newName_54 : decode cX12_newName 54 = .ok (.goto (-36), 3) := by decide +kernel
theorem dX12_newName_57 : decode cX12_newName 57 = .ok (.aload_n 0, 1) := by decide +kernel
theorem dX12_newName_58 : decode cX12_newName 58 = .ok (.getfield 179, 3) := by decide +kernel
theorem dX12_newName_61 : decode cX12_newName 61 = .ok (.ifCond .le 4, 3) := by decide +kernel
theorem dX12_newName_64 : decode cX12_newName 64 = .ok (.return_, 1) := by decide +kernel
theorem dX12_newName_65 : decode cX12_newName 65 = .ok (.aload_n 0, 1) := by decide +kernel
theorem dX12_newName_66 : decode cX12_newName 66 = .ok (.getfield 17, 3) := by decide +kernel
theorem dX12_newName_69 : decode cX12_newName 69 = .ok (.iload_n 1, 1) := by decide +kernel
theorem dX12_newName_70 : decode cX12_newName 70 = .ok (.iload_n 2, 1) := by decide +kernel
theorem dX12_newName_71 : decode cX12_newName 71 = .ok (.iadd, 1) := by decide +kernel
theorem dX12_newName_72 : decode cX12_newName 72 = .ok (.aload_n 0, 1) := by decide +kernel
theorem dX12_newName_73 : decode cX12_newName 73 = .ok (.getfield 159, 3) := by decide +kernel
theorem dX12_newName_76 : decode cX12_newName 76 = .ok (.lastore, 1) := by decide +kernel
theorem dX12_newName_77 : decode cX12_newName 77 = .ok (.aload_n 0, 1) := by decide +kernel
theorem dX12_newName_78 : decode cX12_newName 78 = .ok (.invokevirtual 231, 3) := by decide +kernel
theorem dX12_newName_81 : decode cX12_newName 81 = .ok (.return_, 1) := by decide +kernel
theorem dX12_add_0 : decode cX12_add 0 = .ok (.aload_n 0, 1) := by decide +kernel
theorem dX12_add_1 : decode cX12_add 1 = .ok (.getfield 21, 3) := by decide +kernel
theorem dX12_add_4 : decode cX12_add 4 = .ok (.sipush 320, 3) := by decide +kernel
theorem dX12_add_7 : decode cX12_add 7 = .ok (.aload_n 0, 1) := by decide +kernel
theorem dX12_add_8 : decode cX12_add 8 = .ok (.getfield 249, 3) := by decide +kernel
theorem dX12_add_11 : decode cX12_add 11 = .ok (.imul, 1) := by decide +kernel
theorem dX12_add_12 : decode cX12_add 12 = .ok (.aload_n 0, 1) := by decide +kernel
theorem dX12_add_13 : decode cX12_add 13 = .ok (.getfield 27, 3) := by decide +kernel
theorem dX12_add_16 : decode cX12_add 16 = .ok (.aload_n 0, 1) := by decide +kernel
theorem dX12_add_17 : decode cX12_add 17 = .ok (.getfield 249, 3) := by decide +kernel
theorem dX12_add_20 : decode cX12_add 20 = .ok (.iaload, 1) := by decide +kernel
theorem dX12_add_21 : decode cX12_add 21 = .ok (.iadd, 1) := by decide +kernel
theorem dX12_add_22 : decode cX12_add 22 = .ok (.iload_n 1, 1) := by decide +kernel
theorem dX12_add_23 : decode cX12_add 23 = .ok (.iastore, 1) := by decide +kernel
theorem dX12_add_24 : decode cX12_add 24 = .ok (.aload_n 0, 1) := by decide +kernel
theorem dX12_add_25 : decode cX12_add 25 = .ok (.getfield 24, 3) := by decide +kernel
theorem dX12_add_28 : decode cX12_add 28 = .ok (.sipush 320, 3) := by decide +kernel
theorem dX12_add_31 : decode cX12_add 31 = .ok (.aload_n 0, 1) := by decide +kernel
theorem dX12_add_32 : decode cX12_add 32 = .ok (.getfield 249, 3) := by decide +kernel
theorem dX12_add_35 : decode cX12_add 35 = .ok (.imul, 1) := by decide +kernel
theorem dX12_add_36 : decode cX12_add 36 = .ok (.aload_n 0, 1) := by decide +kernel
theorem dX12_add_37 : decode cX12_add 37 = .ok (.getfield 27, 3) := by decide +kernel
theorem dX12_add_40 : decode cX12_add 40 = .ok (.aload_n 0, 1) := by decide +kernel
theorem dX12_add_41 : decode cX12_add 41 = .ok (.getfield 249, 3) := by decide +kernel
theorem dX12_add_44 : decode cX12_add 44 = .ok (.iaload, 1) := by decide +kernel
theorem dX12_add_45 : decode cX12_add 45 = .ok (.iadd, 1) := by decide +kernel
theorem dX12_add_46 : decode cX12_add 46 = .ok (.iload_n 2, 1) := by decide +kernel
theorem dX12_add_47 : decode cX12_add 47 = .ok (.iastore, 1) := by decide +kernel
theorem dX12_add_48 : decode cX12_add 48 = .ok (.aload_n 0, 1) := by decide +kernel
theorem dX12_add_49 : decode cX12_add 49 = .ok (.getfield 27, 3) := by decide +kernel
theorem dX12_add_52 : decode cX12_add 52 = .ok (.aload_n 0, 1) := by decide +kernel
theorem dX12_add_53 : decode cX12_add 53 = .ok (.getfield 249, 3) := by decide +kernel
theorem dX12_add_56 : decode cX12_add 56 = .ok (.dup2, 1) := by decide +kernel
theorem dX12_add_57 : decode cX12_add 57 = .ok (.iaload, 1) := by decide +kernel
theorem dX12_add_58 : decode cX12_add 58 = .ok (.iconst 1, 1) := by decide +kernel
theorem dX12_add_59 : decode cX12_add 59 = .ok (.iadd, 1) := by decide +kernel
theorem dX12_add_60 : decode cX12_add 60 = .ok (.iastore, 1) := by decide +kernel
theorem dX12_add_61 : decode cX12_add 61 = .ok (.return_, 1) := by decide +kernel
theorem dX12_tight_0 : decode cX12_tight 0 = .ok (.iload_n 0, 1) := by decide +kernel
theorem dX12_tight_1 : decode cX12_tight 1 = .ok (.lookupswitch 85 #[(21, 79), (38, 77), (43, 83), (45, 83), (60, 81), (61, 81), (62, 81), (124, 75)], 75) := by decide +kernel
theorem dX12_tight_76 : decode cX12_tight 76 = .ok (.iconst 1, 1) := by decide +kernel
theorem dX12_tight_77 : decode cX12_tight 77 = .ok (.ireturn, 1) := by decide +kernel
theorem dX12_tight_78 : decode cX12_tight 78 = .ok (.iconst 2, 1) := by decide +kernel
theorem dX12_tight_79 : decode cX12_tight 79 = .ok (.ireturn, 1) := by decide +kernel
theorem dX12_tight_80 : decode cX12_tight 80 = .ok (.iconst 3, 1) := by decide +kernel
theorem dX12_tight_81 : decode cX12_tight 81 = .ok (.ireturn, 1) := by decide +kernel
theorem dX12_tight_82 : decode cX12_tight 82 = .ok (.iconst 4, 1) := by decide +kernel
theorem dX12_tight_83 : decode cX12_tight 83 = .ok (.ireturn, 1) := by decide +kernel
theorem dX12_tight_84 : decode cX12_tight 84 = .ok (.iconst 5, 1) := by decide +kernel
theorem dX12_tight_85 : decode cX12_tight 85 = .ok (.ireturn, 1) := by decide +kernel
theorem dX12_tight_86 : decode cX12_tight 86 = .ok (.bipush 6, 2) := by decide +kernel
theorem dX12_tight_88 : decode cX12_tight 88 = .ok (.ireturn, 1) := by decide +kernel
theorem dX12_close_0 : decode cX12_close 0 = .ok (.aload_n 0, 1) := by decide +kernel
theorem dX12_close_1 : decode cX12_close 1 = .ok (.getfield 252, 3) := by decide +kernel
theorem dX12_close_4 : decode cX12_close 4 = .ok (.ifCond .le 97, 3) := by decide +kernel
theorem dX12_close_7 : decode cX12_close 7 = .ok (.aload_n 0, 1) := by decide +kernel
theorem dX12_close_8 : decode cX12_close 8 = .ok (.getfield 39, 3) := by decide +kernel
theorem dX12_close_11 : decode cX12_close 11 = .ok (.aload_n 0, 1) := by decide +kernel
theorem dX12_close_12 : decode cX12_close 12 = .ok (.getfield 252, 3) := by decide +kernel
theorem dX12_close_15 : decode cX12_close 15 = .ok (.iconst 1, 1) := by decide +kernel
theorem dX12_close_16 : decode cX12_close 16 = .ok (.isub, 1) := by decide +kernel
theorem dX12_close_17 : decode cX12_close 17 = .ok (.iaload, 1) := by decide +kernel
theorem dX12_close_18 : decode cX12_close 18 = .ok (.bipush 20, 2) := by decide +kernel
theorem dX12_close_20 : decode cX12_close 20 = .ok (.if_icmp .eq 81, 3) := by decide +kernel
theorem dX12_close_23 : decode cX12_close 23 = .ok (.aload_n 0, 1) := by decide +kernel
theorem dX12_close_24 : decode cX12_close 24 = .ok (.getfield 39, 3) := by decide +kernel
theorem dX12_close_27 : decode cX12_close 27 = .ok (.aload_n 0, 1) := by decide +kernel
theorem dX12_close_28 : decode cX12_close 28 = .ok (.getfield 252, 3) := by decide +kernel
theorem dX12_close_31 : decode cX12_close 31 = .ok (.iconst 1, 1) := by decide +kernel
theorem dX12_close_32 : decode cX12_close 32 = .ok (.isub, 1) := by decide +kernel
theorem dX12_close_33 : decode cX12_close 33 = .ok (.iaload, 1) := by decide +kernel
theorem dX12_close_34 : decode cX12_close 34 = .ok (.invokestatic 255, 3) := by decide +kernel
theorem dX12_close_37 : decode cX12_close 37 = .ok (.iload_n 1, 1) := by decide +kernel
theorem dX12_close_38 : decode cX12_close 38 = .ok (.if_icmp .lt 63, 3) := by decide +kernel
theorem dX12_close_41 : decode cX12_close 41 = .ok (.aload_n 0, 1) := by decide +kernel
theorem dX12_close_42 : decode cX12_close 42 = .ok (.dup, 1) := by decide +kernel
theorem dX12_close_43 : decode cX12_close 43 = .ok (.getfield 252, 3) := by decide +kernel
theorem dX12_close_46 : decode cX12_close 46 = .ok (.iconst 1, 1) := by decide +kernel
theorem dX12_close_47 : decode cX12_close 47 = .ok (.isub, 1) := by decide +kernel
theorem dX12_close_48 : decode cX12_close 48 = .ok (.putfield 252, 3) := by decide +kernel
theorem dX12_close_51 : decode cX12_close 51 = .ok (.aload_n 0, 1) := by decide +kernel
theorem dX12_close_52 : decode cX12_close 52 = .ok (.getfield 39, 3) := by decide +kernel
theorem dX12_close_55 : decode cX12_close 55 = .ok (.aload_n 0, 1) := by decide +kernel
theorem dX12_close_56 : decode cX12_close 56 = .ok (.getfield 252, 3) := by decide +kernel
theorem dX12_close_59 : decode cX12_close 59 = .ok (.iaload, 1) := by decide +kernel
theorem dX12_close_60 : decode cX12_close 60 = .ok (.bipush 21, 2) := by decide +kernel
theorem dX12_close_62 : decode cX12_close 62 = .ok (.if_icmp .ne 22, 3) := by decide +kernel
theorem dX12_close_65 : decode cX12_close 65 = .ok (.aload_n 0, 1) := by decide +kernel
theorem dX12_close_66 : decode cX12_close 66 = .ok (.iconst 2, 1) := by decide +kernel
theorem dX12_close_67 : decode cX12_close 67 = .ok (.iconst 0, 1) := by decide +kernel
theorem dX12_close_68 : decode cX12_close 68 = .ok (.invokevirtual 258, 3) := by decide +kernel
theorem dX12_close_71 : decode cX12_close 71 = .ok (.aload_n 0, 1) := by decide +kernel
theorem dX12_close_72 : decode cX12_close 72 = .ok (.dup, 1) := by decide +kernel
theorem dX12_close_73 : decode cX12_close 73 = .ok (.getfield 262, 3) := by decide +kernel
theorem dX12_close_76 : decode cX12_close 76 = .ok (.iconst 1, 1) := by decide +kernel
theorem dX12_close_77 : decode cX12_close 77 = .ok (.isub, 1) := by decide +kernel
theorem dX12_close_78 : decode cX12_close 78 = .ok (.putfield 262, 3) := by decide +kernel
theorem dX12_close_81 : decode cX12_close 81 = .ok (.goto (-81), 3) := by decide +kernel
theorem dX12_close_84 : decode cX12_close 84 = .ok (.aload_n 0, 1) := by decide +kernel
theorem dX12_close_85 : decode cX12_close 85 = .ok (.iconst 3, 1) := by decide +kernel
theorem dX12_close_86 : decode cX12_close 86 = .ok (.aload_n 0, 1) := by decide +kernel
theorem dX12_close_87 : decode cX12_close 87 = .ok (.getfield 39, 3) := by decide +kernel
theorem dX12_close_90 : decode cX12_close 90 = .ok (.aload_n 0, 1) := by decide +kernel
theorem dX12_close_91 : decode cX12_close 91 = .ok (.getfield 252, 3) := by decide +kernel
theorem dX12_close_94 : decode cX12_close 94 = .ok (.iaload, 1) := by decide +kernel
theorem dX12_close_95 : decode cX12_close 95 = .ok (.invokevirtual 258, 3) := by decide +kernel
theorem dX12_close_98 : decode cX12_close 98 = .ok (.goto (-98), 3) := by decide +kernel
theorem dX12_close_101 : decode cX12_close 101 = .ok (.return_, 1) := by decide +kernel
theorem dX12_hasRelation_0 : decode cX12_hasRelation 0 = .ok (.aload_n 0, 1) := by decide +kernel
theorem dX12_hasRelation_1 : decode cX12_hasRelation 1 = .ok (.getfield 252, 3) := by decide +kernel
theorem dX12_hasRelation_4 : decode cX12_hasRelation 4 = .ok (.iconst 1, 1) := by decide +kernel
theorem dX12_hasRelation_5 : decode cX12_hasRelation 5 = .ok (.isub, 1) := by decide +kernel
theorem dX12_hasRelation_6 : decode cX12_hasRelation 6 = .ok (.istore_n 1, 1) := by decide +kernel
theorem dX12_hasRelation_7 : decode cX12_hasRelation 7 = .ok (.iload_n 1, 1) := by decide +kernel
theorem dX12_hasRelation_8 : decode cX12_hasRelation 8 = .ok (.ifCond .lt 33, 3) := by decide +kernel
theorem dX12_hasRelation_11 : decode cX12_hasRelation 11 = .ok (.aload_n 0, 1) := by decide +kernel
theorem dX12_hasRelation_12 : decode cX12_hasRelation 12 = .ok (.getfield 39, 3) := by decide +kernel
theorem dX12_hasRelation_15 : decode cX12_hasRelation 15 = .ok (.iload_n 1, 1) := by decide +kernel
theorem dX12_hasRelation_16 : decode cX12_hasRelation 16 = .ok (.iaload, 1) := by decide +kernel
theorem dX12_hasRelation_17 : decode cX12_hasRelation 17 = .ok (.bipush 20, 2) := by decide +kernel
theorem dX12_hasRelation_19 : decode cX12_hasRelation 19 = .ok (.if_icmp .eq 22, 3) := by decide +kernel
theorem dX12_hasRelation_22 : decode cX12_hasRelation 22 = .ok (.aload_n 0, 1) := by decide +kernel
theorem dX12_hasRelation_23 : decode cX12_hasRelation 23 = .ok (.getfield 39, 3) := by decide +kernel
theorem dX12_hasRelation_26 : decode cX12_hasRelation 26 = .ok (.iload_n 1, 1) := by decide +kernel
theorem dX12_hasRelation_27 : decode cX12_hasRelation 27 = .ok (.iaload, 1) := by decide +kernel
theorem dX12_hasRelation_28 : decode cX12_hasRelation 28 = .ok (.invokestatic 255, 3) := by decide +kernel
theorem dX12_hasRelation_31 : decode cX12_hasRelation 31 = .ok (.iconst 4, 1) := by decide +kernel
theorem dX12_hasRelation_32 : decode cX12_hasRelation 32 = .ok (.if_icmp .le 9, 3) := by decide +kernel
theorem dX12_hasRelation_35 : decode cX12_hasRelation 35 = .ok (.iinc 1 (-1), 3) := by decide +kernel
theorem dX12_hasRelation_38 : decode cX12_hasRelation 38 = .ok (.goto (-31), 3) := by decide +kernel
theorem dX12_hasRelation_41 : decode cX12_hasRelation 41 = .ok (.iload_n 1, 1) := by decide +kernel
theorem dX12_hasRelation_42 : decode cX12_hasRelation 42 = .ok (.ifCond .lt 31, 3) := by decide +kernel
theorem dX12_hasRelation_45 : decode cX12_hasRelation 45 = .ok (.aload_n 0, 1) := by decide +kernel
theorem dX12_hasRelation_46 : decode cX12_hasRelation 46 = .ok (.getfield 39, 3) := by decide +kernel
theorem dX12_hasRelation_49 : decode cX12_hasRelation 49 = .ok (.iload_n 1, 1) := by decide +kernel
theorem dX12_hasRelation_50 : decode cX12_hasRelation 50 = .ok (.iaload, 1) := by decide +kernel
theorem dX12_hasRelation_51 : decode cX12_hasRelation 51 = .ok (.bipush 20, 2) := by decide +kernel
theorem dX12_hasRelation_53 : decode cX12_hasRelation 53 = .ok (.if_icmp .eq 20, 3) := by decide +kernel
theorem dX12_hasRelation_56 : decode cX12_hasRelation 56 = .ok (.aload_n 0, 1) := by decide +kernel
theorem dX12_hasRelation_57 : decode cX12_hasRelation 57 = .ok (.getfield 39, 3) := by decide +kernel
theorem dX12_hasRelation_60 : decode cX12_hasRelation 60 = .ok (.iload_n 1, 1) := by decide +kernel
theorem dX12_hasRelation_61 : decode cX12_hasRelation 61 = .ok (.iaload, 1) := by decide +kernel
theorem dX12_hasRelation_62 : decode cX12_hasRelation 62 = .ok (.invokestatic 255, 3) := by decide +kernel
theorem dX12_hasRelation_65 : decode cX12_hasRelation 65 = .ok (.iconst 4, 1) := by decide +kernel
theorem dX12_hasRelation_66 : decode cX12_hasRelation 66 = .ok (.if_icmp .ne 7, 3) := by decide +kernel
theorem dX12_hasRelation_69 : decode cX12_hasRelation 69 = .ok (.iconst 1, 1) := by decide +kernel
theorem dX12_hasRelation_70 : decode cX12_hasRelation 70 = .ok (.goto 4, 3) := by decide +kernel
theorem dX12_hasRelation_73 : decode cX12_hasRelation 73 = .ok (.iconst 0, 1) := by decide +kernel
theorem dX12_hasRelation_74 : decode cX12_hasRelation 74 = .ok (.ireturn, 1) := by decide +kernel
theorem dX12_mayNot_0 : decode cX12_mayNot 0 = .ok (.aload_n 0, 1) := by decide +kernel
theorem dX12_mayNot_1 : decode cX12_mayNot 1 = .ok (.getfield 252, 3) := by decide +kernel
theorem dX12_mayNot_4 : decode cX12_mayNot 4 = .ok (.ifCond .eq 37, 3) := by decide +kernel
theorem dX12_mayNot_7 : decode cX12_mayNot 7 = .ok (.aload_n 0, 1) := by decide +kernel
theorem dX12_mayNot_8 : decode cX12_mayNot 8 = .ok (.getfield 39, 3) := by decide +kernel
theorem dX12_mayNot_11 : decode cX12_mayNot 11 = .ok (.aload_n 0, 1) := by decide +kernel
theorem dX12_mayNot_12 : decode cX12_mayNot 12 = .ok (.getfield 252, 3) := by decide +kernel
theorem dX12_mayNot_15 : decode cX12_mayNot 15 = .ok (.iconst 1, 1) := by decide +kernel
theorem dX12_mayNot_16 : decode cX12_mayNot 16 = .ok (.isub, 1) := by decide +kernel
theorem dX12_mayNot_17 : decode cX12_mayNot 17 = .ok (.iaload, 1) := by decide +kernel
theorem dX12_mayNot_18 : decode cX12_mayNot 18 = .ok (.bipush 20, 2) := by decide +kernel
theorem dX12_mayNot_20 : decode cX12_mayNot 20 = .ok (.if_icmp .eq 21, 3) := by decide +kernel
theorem dX12_mayNot_23 : decode cX12_mayNot 23 = .ok (.aload_n 0, 1) := by decide +kernel
theorem dX12_mayNot_24 : decode cX12_mayNot 24 = .ok (.getfield 39, 3) := by decide +kernel
theorem dX12_mayNot_27 : decode cX12_mayNot 27 = .ok (.aload_n 0, 1) := by decide +kernel
theorem dX12_mayNot_28 : decode cX12_mayNot 28 = .ok (.getfield 252, 3) := by decide +kernel
theorem dX12_mayNot_31 : decode cX12_mayNot 31 = .ok (.iconst 1, 1) := by decide +kernel
theorem dX12_mayNot_32 : decode cX12_mayNot 32 = .ok (.isub, 1) := by decide +kernel
theorem dX12_mayNot_33 : decode cX12_mayNot 33 = .ok (.iaload, 1) := by decide +kernel
theorem dX12_mayNot_34 : decode cX12_mayNot 34 = .ok (.invokestatic 255, 3) := by decide +kernel
theorem dX12_mayNot_37 : decode cX12_mayNot 37 = .ok (.iconst 4, 1) := by decide +kernel
theorem dX12_mayNot_38 : decode cX12_mayNot 38 = .ok (.if_icmp .ge 7, 3) := by decide +kernel
theorem dX12_mayNot_41 : decode cX12_mayNot 41 = .ok (.iconst 1, 1) := by decide +kernel
theorem dX12_mayNot_42 : decode cX12_mayNot 42 = .ok (.goto 4, 3) := by decide +kernel
theorem dX12_mayNot_45 : decode cX12_mayNot 45 = .ok (.iconst 0, 1) := by decide +kernel
theorem dX12_mayNot_46 : decode cX12_mayNot 46 = .ok (.ireturn, 1) := by decide +kernel
theorem dX12_asked_0 : decode cX12_asked 0 = .ok (.aload_n 0, 1) := by decide +kernel
theorem dX12_asked_1 : decode cX12_asked 1 = .ok (.getfield 166, 3) := by decide +kernel
theorem dX12_asked_4 : decode cX12_asked 4 = .ok (.iconst 1, 1) := by decide +kernel
theorem dX12_asked_5 : decode cX12_asked 5 = .ok (.if_icmp .eq 5, 3) := by decide +kernel
theorem dX12_asked_8 : decode cX12_asked 8 = .ok (.iconst (-1), 1) := by decide +kernel
theorem dX12_asked_9 : decode cX12_asked 9 = .ok (.ireturn, 1) := by decide +kernel
theorem dX12_asked_10 : decode cX12_asked 10 = .ok (.aload_n 0, 1) := by decide +kernel
theorem dX12_asked_11 : decode cX12_asked 11 = .ok (.getfield 159, 3) := by decide +kernel
theorem dX12_asked_14 : decode cX12_asked 14 = .ok (.ldc2_w 204, 3) := by decide +kernel
theorem dX12_asked_17 : decode cX12_asked 17 = .ok (.lcmp, 1) := by decide +kernel
theorem dX12_asked_18 : decode cX12_asked 18 = .ok (.ifCond .ne 5, 3) := by decide +kernel
theorem dX12_asked_21 : decode cX12_asked 21 = .ok (.iconst 0, 1) := by decide +kernel
theorem dX12_asked_22 : decode cX12_asked 22 = .ok (.ireturn, 1) := by decide +kernel
theorem dX12_asked_23 : decode cX12_asked 23 = .ok (.aload_n 0, 1) := by decide +kernel
theorem dX12_asked_24 : decode cX12_asked 24 = .ok (.getfield 159, 3) := by decide +kernel
theorem dX12_asked_27 : decode cX12_asked 27 = .ok (.ldc2_w 206, 3) := by decide +kernel
theorem dX12_asked_30 : decode cX12_asked 30 = .ok (.lcmp, 1) := by decide +kernel
theorem dX12_asked_31 : decode cX12_asked 31 = .ok (.ifCond .ne 5, 3) := by decide +kernel
theorem dX12_asked_34 : decode cX12_asked 34 = .ok (.iconst 1, 1) := by decide +kernel
theorem dX12_asked_35 : decode cX12_asked 35 = .ok (.ireturn, 1) := by decide +kernel
theorem dX12_asked_36 : decode cX12_asked 36 = .ok (.aload_n 0, 1) := by decide +kernel
theorem dX12_asked_37 : decode cX12_asked 37 = .ok (.getfield 159, 3) := by decide +kernel
theorem dX12_asked_40 : decode cX12_asked 40 = .ok (.ldc2_w 192, 3) := by decide +kernel
theorem dX12_asked_43 : decode cX12_asked 43 = .ok (.lcmp, 1) := by decide +kernel
theorem dX12_asked_44 : decode cX12_asked 44 = .ok (.ifCond .ne 5, 3) := by decide +kernel
theorem dX12_asked_47 : decode cX12_asked 47 = .ok (.iconst 2, 1) := by decide +kernel
theorem dX12_asked_48 : decode cX12_asked 48 = .ok (.ireturn, 1) := by decide +kernel
theorem dX12_asked_49 : decode cX12_asked 49 = .ok (.aload_n 0, 1) := by decide +kernel
theorem dX12_asked_50 : decode cX12_asked 50 = .ok (.getfield 159, 3) := by decide +kernel
theorem dX12_asked_53 : decode cX12_asked 53 = .ok (.ldc2_w 208, 3) := by decide +kernel
theorem dX12_asked_56 : decode cX12_asked 56 = .ok (.lcmp, 1) := by decide +kernel
theorem dX12_asked_57 : decode cX12_asked 57 = .ok (.ifCond .ne 5, 3) := by decide +kernel
theorem dX12_asked_60 : decode cX12_asked 60 = .ok (.iconst 3, 1) := by decide +kernel
theorem dX12_asked_61 : decode cX12_asked 61 = .ok (.ireturn, 1) := by decide +kernel
theorem dX12_asked_62 : decode cX12_asked 62 = .ok (.aload_n 0, 1) := by decide +kernel
theorem dX12_asked_63 : decode cX12_asked 63 = .ok (.getfield 159, 3) := by decide +kernel
theorem dX12_asked_66 : decode cX12_asked 66 = .ok (.ldc2_w 210, 3) := by decide +kernel
theorem dX12_asked_69 : decode cX12_asked 69 = .ok (.lcmp, 1) := by decide +kernel
theorem dX12_asked_70 : decode cX12_asked 70 = .ok (.ifCond .ne 5, 3) := by decide +kernel
theorem dX12_asked_73 : decode cX12_asked 73 = .ok (.iconst 4, 1) := by decide +kernel
theorem dX12_asked_74 : decode cX12_asked 74 = .ok (.ireturn, 1) := by decide +kernel
theorem dX12_asked_75 : decode cX12_asked 75 = .ok (.aload_n 0, 1) := by decide +kernel
theorem dX12_asked_76 : decode cX12_asked 76 = .ok (.getfield 159, 3) := by decide +kernel
theorem dX12_asked_79 : decode cX12_asked 79 = .ok (.ldc2_w 212, 3) := by decide +kernel
theorem dX12_asked_82 : decode cX12_asked 82 = .ok (.lcmp, 1) := by decide +kernel
theorem dX12_asked_83 : decode cX12_asked 83 = .ok (.ifCond .ne 7, 3) := by decide +kernel
theorem dX12_asked_86 : decode cX12_asked 86 = .ok (.iconst 5, 1) := by decide +kernel
theorem dX12_asked_87 : decode cX12_asked 87 = .ok (.goto 4, 3) := by decide +kernel
theorem dX12_asked_90 : decode cX12_asked 90 = .ok (.iconst (-1), 1) := by decide +kernel
theorem dX12_asked_91 : decode cX12_asked 91 = .ok (.ireturn, 1) := by decide +kernel
theorem dX12_isFull_0 : decode cX12_isFull 0 = .ok (.aload_n 0, 1) := by decide +kernel
theorem dX12_isFull_1 : decode cX12_isFull 1 = .ok (.getfield 265, 3) := by decide +kernel
theorem dX12_isFull_4 : decode cX12_isFull 4 = .ok (.bipush 60, 2) := by decide +kernel
theorem dX12_isFull_6 : decode cX12_isFull 6 = .ok (.if_icmp .eq 12, 3) := by decide +kernel
theorem dX12_isFull_9 : decode cX12_isFull 9 = .ok (.aload_n 0, 1) := by decide +kernel
theorem dX12_isFull_10 : decode cX12_isFull 10 = .ok (.getfield 268, 3) := by decide +kernel
theorem dX12_isFull_13 : decode cX12_isFull 13 = .ok (.bipush 30, 2) := by decide +kernel
theorem dX12_isFull_15 : decode cX12_isFull 15 = .ok (.if_icmp .ne 7, 3) := by decide +kernel
theorem dX12_isFull_18 : decode cX12_isFull 18 = .ok (.iconst 1, 1) := by decide +kernel
theorem dX12_isFull_19 : decode cX12_isFull 19 = .ok (.goto 4, 3) := by decide +kernel
theorem dX12_isFull_22 : decode cX12_isFull 22 = .ok (.iconst 0, 1) := by decide +kernel
theorem dX12_isFull_23 : decode cX12_isFull 23 = .ok (.ireturn, 1) := by decide +kernel
theorem dX12_countUnit_0 : decode cX12_countUnit 0 = .ok (.aload_n 0, 1) := by decide +kernel
theorem dX12_countUnit_1 : decode cX12_countUnit 1 = .ok (.dup, 1) := by decide +kernel
theorem dX12_countUnit_2 : decode cX12_countUnit 2 = .ok (.getfield 265, 3) := by decide +kernel
theorem dX12_countUnit_5 : decode cX12_countUnit 5 = .ok (.iconst 1, 1) := by decide +kernel
theorem dX12_countUnit_6 : decode cX12_countUnit 6 = .ok (.iadd, 1) := by decide +kernel
theorem dX12_countUnit_7 : decode cX12_countUnit 7 = .ok (.putfield 265, 3) := by decide +kernel
theorem dX12_countUnit_10 : decode cX12_countUnit 10 = .ok (.aload_n 0, 1) := by decide +kernel
theorem dX12_countUnit_11 : decode cX12_countUnit 11 = .ok (.dup, 1) := by decide +kernel
theorem dX12_countUnit_12 : decode cX12_countUnit 12 = .ok (.getfield 268, 3) := by decide +kernel
theorem dX12_countUnit_15 : decode cX12_countUnit 15 = .ok (.iconst 1, 1) := by decide +kernel
theorem dX12_countUnit_16 : decode cX12_countUnit 16 = .ok (.iadd, 1) := by decide +kernel
theorem dX12_countUnit_17 : decode cX12_countUnit 17 = .ok (.putfield 268, 3) := by decide +kernel
theorem dX12_countUnit_20 : decode cX12_countUnit 20 = .ok (.return_, 1) := by decide +kernel
theorem dX12_openUp_0 : decode cX12_openUp 0 = .ok (.aload_n 0, 1) := by decide +kernel
theorem dX12_openUp_1 : decode cX12_openUp 1 = .ok (.getfield 39, 3) := by decide +kernel
theorem dX12_openUp_4 : decode cX12_openUp 4 = .ok (.aload_n 0, 1) := by decide +kernel
theorem dX12_openUp_5 : decode cX12_openUp 5 = .ok (.getfield 252, 3) := by decide +kernel
theorem dX12_openUp_8 : decode cX12_openUp 8 = .ok (.iload_n 1, 1) := by decide +kernel
theorem dX12_openUp_9 : decode cX12_openUp 9 = .ok (.iastore, 1) := by decide +kernel
theorem dX12_openUp_10 : decode cX12_openUp 10 = .ok (.aload_n 0, 1) := by decide +kernel
theorem dX12_openUp_11 : decode cX12_openUp 11 = .ok (.dup, 1) := by decide +kernel
theorem dX12_openUp_12 : decode cX12_openUp 12 = .ok (.getfield 252, 3) := by decide +kernel
theorem dX12_openUp_15 : decode cX12_openUp 15 = .ok (.iconst 1, 1) := by decide +kernel
theorem dX12_openUp_16 : decode cX12_openUp 16 = .ok (.iadd, 1) := by decide +kernel
theorem dX12_openUp_17 : decode cX12_openUp 17 = .ok (.putfield 252, 3) := by decide +kernel
theorem dX12_openUp_20 : decode cX12_openUp 20 = .ok (.aload_n 0, 1) := by decide +kernel
theorem dX12_openUp_21 : decode cX12_openUp 21 = .ok (.dup, 1) := by decide +kernel
theorem dX12_openUp_22 : decode cX12_openUp 22 = .ok (.getfield 262, 3) := by decide +kernel
theorem dX12_openUp_25 : decode cX12_openUp 25 = .ok (.iconst 1, 1) := by decide +kernel
theorem dX12_openUp_26 : decode cX12_openUp 26 = .ok (.iadd, 1) := by decide +kernel
theorem dX12_openUp_27 : decode cX12_openUp 27 = .ok (.putfield 262, 3) := by decide +kernel
theorem dX12_openUp_30 : decode cX12_openUp 30 = .ok (.aload_n 0, 1) := by decide +kernel
theorem dX12_openUp_31 : decode cX12_openUp 31 = .ok (.getfield 179, 3) := by decide +kernel
theorem dX12_openUp_34 : decode cX12_openUp 34 = .ok (.ifCond .ne 7, 3) := by decide +kernel
theorem dX12_openUp_37 : decode cX12_openUp 37 = .ok (.aload_n 0, 1) := by decide +kernel
theorem dX12_openUp_38 : decode cX12_openUp 38 = .ok (.invokevirtual 231, 3) := by decide +kernel
theorem dX12_openUp_41 : decode cX12_openUp 41 = .ok (.return_, 1) := by decide +kernel
theorem dX12_unit_0 : decode cX12_unit 0 = .ok (.iconst 1, 1) := by decide +kernel
theorem dX12_unit_1 : decode cX12_unit 1 = .ok (.istore_n 1, 1) := by decide +kernel
theorem dX12_unit_2 : decode cX12_unit 2 = .ok (.iload_n 1, 1) := by decide +kernel
theorem dX12_unit_3 : decode cX12_unit 3 = .ok (.ifCond .eq 98, 3) := by decide +kernel
theorem dX12_unit_6 : decode cX12_unit 6 = .ok (.aload_n 0, 1) := by decide +kernel
theorem dX12_unit_7 : decode cX12_unit 7 = .ok (.getfield 179, 3) := by decide +kernel
theorem dX12_unit_10 : decode cX12_unit 10 = .ok (.ifCond .ne 91, 3) := by decide +kernel
theorem dX12_unit_13 : decode cX12_unit 13 = .ok (.aload_n 0, 1) := by decide +kernel
theorem dX12_unit_14 : decode cX12_unit 14 = .ok (.ldc2_w 218, 3) := by decide +kernel
theorem dX12_unit_17 : decode cX12_unit 17 = .ok (.invokevirtual 224, 3) := by decide +kernel
theorem dX12_unit_20 : decode cX12_unit 20 = .ok (.ifCond .eq 33, 3) := by decide +kernel
theorem dX12_unit_23 : decode cX12_unit 23 = .ok (.aload_n 0, 1) := by decide +kernel
theorem dX12_unit_24 : decode cX12_unit 24 = .ok (.invokevirtual 271, 3) := by decide +kernel
theorem dX12_unit_27 : decode cX12_unit 27 = .ok (.ifCond .eq 26, 3) := by decide +kernel
theorem dX12_unit_30 : decode cX12_unit 30 = .ok (.aload_n 0, 1) := by decide +kernel
theorem dX12_unit_31 : decode cX12_unit 31 = .ok (.getfield 262, 3) := by decide +kernel
theorem dX12_unit_34 : decode cX12_unit 34 = .ok (.bipush 6, 2) := by decide +kernel
theorem dX12_unit_36 : decode cX12_unit 36 = .ok (.if_icmp .le 8, 3) := by decide +kernel
theorem dX12_unit_39 : decode cX12_unit 39 = .ok (.aload_n 0, 1) := by decide +kernel
theorem dX12_unit_40 : decode cX12_unit 40 = .ok (.iconst 2, 1) := by decide +kernel
theorem dX12_unit_41 : decode cX12_unit 41 = .ok (.invokevirtual 228, 3) := by decide +kernel
theorem dX12_unit_44 : decode cX12_unit 44 = .ok (.aload_n 0, 1) := by decide +kernel
theorem dX12_unit_45 : decode cX12_unit 45 = .ok (.bipush 21, 2) := by decide +kernel
theorem dX12_unit_47 : decode cX12_unit 47 = .ok (.invokevirtual 274, 3) := by decide +kernel
theorem dX12_unit_50 : decode cX12_unit 50 = .ok (.goto (-48), 3) := by decide +kernel
theorem dX12_unit_53 : decode cX12_unit 53 = .ok (.aload_n 0, 1) := by decide +kernel
theorem dX12_unit_54 : decode cX12_unit 54 = .ok (.getfield 166, 3) := by decide +kernel
theorem dX12_unit_57 : decode cX12_unit 57 = .ok (.bipush 40, 2) := by decide +kernel
theorem dX12_unit_59 : decode cX12_unit 59 = .ok (.if_icmp .ne 37, 3) := by decide +kernel
theorem dX12_unit_62 : decode cX12_unit 62 = .ok (.aload_n 0, 1) := by decide +kernel
theorem dX12_unit_63 : decode cX12_unit 63 = .ok (.invokevirtual 277, 3) := by decide +kernel
theorem dX12_unit_66 : decode cX12_unit 66 = .ok (.ifCond .ne 12, 3) := by decide +kernel
theorem dX12_unit_69 : decode cX12_unit 69 = .ok (.aload_n 0, 1) := by decide +kernel
theorem dX12_unit_70 : decode cX12_unit 70 = .ok (.getfield 262, 3) := by decide +kernel
theorem dX12_unit_73 : decode cX12_unit 73 = .ok (.bipush 6, 2) := by decide +kernel
theorem dX12_unit_75 : decode cX12_unit 75 = .ok (.if_icmp .le 8, 3) := by decide +kernel
theorem dX12_unit_78 : decode cX12_unit 78 = .ok (.aload_n 0, 1) := by decide +kernel
theorem dX12_unit_79 : decode cX12_unit 79 = .ok (.iconst 2, 1) := by decide +kernel
theorem dX12_unit_80 : decode cX12_unit 80 = .ok (.invokevirtual 228, 3) := by decide +kernel
theorem dX12_unit_83 : decode cX12_unit 83 = .ok (.aload_n 0, 1) := by decide +kernel
theorem dX12_unit_84 : decode cX12_unit 84 = .ok (.invokevirtual 280, 3) := by decide +kernel
theorem dX12_unit_87 : decode cX12_unit 87 = .ok (.aload_n 0, 1) := by decide +kernel
theorem dX12_unit_88 : decode cX12_unit 88 = .ok (.bipush 20, 2) := by decide +kernel
theorem dX12_unit_90 : decode cX12_unit 90 = .ok (.invokevirtual 274, 3) := by decide +kernel
theorem dX12_unit_93 : decode cX12_unit 93 = .ok (.goto (-91), 3) := by decide +kernel
theorem dX12_unit_96 : decode cX12_unit 96 = .ok (.iconst 0, 1) := by decide +kernel
theorem dX12_unit_97 : decode cX12_unit 97 = .ok (.istore_n 1, 1) := by decide +kernel
theorem dX12_unit_98 : decode cX12_unit 98 = .ok (.goto (-96), 3) := by decide +kernel
theorem dX12_unit_101 : decode cX12_unit 101 = .ok (.aload_n 0, 1) := by decide +kernel
theorem dX12_unit_102 : decode cX12_unit 102 = .ok (.getfield 179, 3) := by decide +kernel
theorem dX12_unit_105 : decode cX12_unit 105 = .ok (.ifCond .le 4, 3) := by decide +kernel
theorem dX12_unit_108 : decode cX12_unit 108 = .ok (.return_, 1) := by decide +kernel
theorem dX12_unit_109 : decode cX12_unit 109 = .ok (.aload_n 0, 1) := by decide +kernel
theorem dX12_unit_110 : decode cX12_unit 110 = .ok (.invokevirtual 283, 3) := by decide +kernel
theorem dX12_unit_113 : decode cX12_unit 113 = .ok (.istore_n 2, 1) := by decide +kernel
theorem dX12_unit_114 : decode cX12_unit 114 = .ok (.aload_n 0, 1) := by decide +kernel
theorem dX12_unit_115 : decode cX12_unit 115 = .ok (.getfield 166, 3) := by decide +kernel
theorem dX12_unit_118 : decode cX12_unit 118 = .ok (.iconst 2, 1) := by decide +kernel
theorem dX12_unit_119 : decode cX12_unit 119 = .ok (.if_icmp .eq 7, 3) := by decide +kernel
theorem dX12_unit_122 : decode cX12_unit 122 = .ok (.iload_n 2, 1) := by decide +kernel
theorem dX12_unit_123 : decode cX12_unit 123 = .ok (.ifCond .lt 10, 3) := by decide +kernel
theorem dX12_unit_126 : decode cX12_unit 126 = .ok (.aload_n 0, 1) := by decide +kernel
theorem dX12_unit_127 : decode cX12_unit 127 = .ok (.invokevirtual 277, 3) := by decide +kernel
theorem dX12_unit_130 : decode cX12_unit 130 = .ok (.ifCond .eq 8, 3) := by decide +kernel
theorem dX12_unit_133 : decode cX12_unit 133 = .ok (.aload_n 0, 1) := by decide +kernel
theorem dX12_unit_134 : decode cX12_unit 134 = .ok (.iconst 2, 1) := by decide +kernel
theorem dX12_unit_135 : decode cX12_unit 135 = .ok (.invokevirtual 228, 3) := by decide +kernel
theorem dX12_unit_138 : decode cX12_unit 138 = .ok (.aload_n 0, 1) := by decide +kernel
theorem dX12_unit_139 : decode cX12_unit 139 = .ok (.getfield 179, 3) := by decide +kernel
theorem dX12_unit_142 : decode cX12_unit 142 = .ok (.ifCond .le 4, 3) := by decide +kernel
theorem dX12_unit_145 : decode cX12_unit 145 = .ok (.return_, 1) := by decide +kernel
theorem dX12_unit_146 : decode cX12_unit 146 = .ok (.aload_n 0, 1) := by decide +kernel
theorem dX12_unit_147 : decode cX12_unit 147 = .ok (.invokevirtual 280, 3) := by decide +kernel
theorem dX12_unit_150 : decode cX12_unit 150 = .ok (.aload_n 0, 1) := by decide +kernel
theorem dX12_unit_151 : decode cX12_unit 151 = .ok (.iload_n 2, 1) := by decide +kernel
theorem dX12_unit_152 : decode cX12_unit 152 = .ok (.ifCond .ge 7, 3) := by decide +kernel
theorem dX12_unit_155 : decode cX12_unit 155 = .ok (.iconst 0, 1) := by decide +kernel
theorem dX12_unit_156 : decode cX12_unit 156 = .ok (.goto 4, 3) := by decide +kernel
theorem dX12_unit_159 : decode cX12_unit 159 = .ok (.iconst 1, 1) := by decide +kernel
theorem dX12_unit_160 : decode cX12_unit 160 = .ok (.iload_n 2, 1) := by decide +kernel
theorem dX12_unit_161 : decode cX12_unit 161 = .ok (.ifCond .ge 10, 3) := by decide +kernel
theorem dX12_unit_164 : decode cX12_unit 164 = .ok (.aload_n 0, 1) := by decide +kernel
theorem dX12_unit_165 : decode cX12_unit 165 = .ok (.getfield 163, 3) := by decide +kernel
theorem dX12_unit_168 : decode cX12_unit 168 = .ok (.goto 4, 3) := by decide +kernel
theorem dX12_unit_171 : decode cX12_unit 171 = .ok (.iload_n 2, 1) := by decide +kernel
theorem dX12_unit_172 : decode cX12_unit 172 = .ok (.invokevirtual 258, 3) := by decide +kernel
theorem dX12_unit_175 : decode cX12_unit 175 = .ok (.aload_n 0, 1) := by decide +kernel
theorem dX12_unit_176 : decode cX12_unit 176 = .ok (.invokevirtual 231, 3) := by decide +kernel
theorem dX12_unit_179 : decode cX12_unit 179 = .ok (.return_, 1) := by decide +kernel
theorem dX12_sign_0 : decode cX12_sign 0 = .ok (.aload_n 0, 1) := by decide +kernel
theorem dX12_sign_1 : decode cX12_sign 1 = .ok (.ldc2_w 214, 3) := by decide +kernel
theorem dX12_sign_4 : decode cX12_sign 4 = .ok (.invokevirtual 224, 3) := by decide +kernel
theorem dX12_sign_7 : decode cX12_sign 7 = .ok (.ifCond .eq 6, 3) := by decide +kernel
theorem dX12_sign_10 : decode cX12_sign 10 = .ok (.bipush 38, 2) := by decide +kernel
theorem dX12_sign_12 : decode cX12_sign 12 = .ok (.ireturn, 1) := by decide +kernel
theorem dX12_sign_13 : decode cX12_sign 13 = .ok (.aload_n 0, 1) := by decide +kernel
theorem dX12_sign_14 : decode cX12_sign 14 = .ok (.ldc2_w 216, 3) := by decide +kernel
theorem dX12_sign_17 : decode cX12_sign 17 = .ok (.invokevirtual 224, 3) := by decide +kernel
theorem dX12_sign_20 : decode cX12_sign 20 = .ok (.ifCond .eq 6, 3) := by decide +kernel
theorem dX12_sign_23 : decode cX12_sign 23 = .ok (.bipush 124, 2) := by decide +kernel
theorem dX12_sign_25 : decode cX12_sign 25 = .ok (.ireturn, 1) := by decide +kernel
theorem dX12_sign_26 : decode cX12_sign 26 = .ok (.aload_n 0, 1) := by decide +kernel
theorem dX12_sign_27 : decode cX12_sign 27 = .ok (.getfield 166, 3) := by decide +kernel
theorem dX12_sign_30 : decode cX12_sign 30 = .ok (.bipush 60, 2) := by decide +kernel
theorem dX12_sign_32 : decode cX12_sign 32 = .ok (.if_icmp .eq 66, 3) := by decide +kernel
theorem dX12_sign_35 : decode cX12_sign 35 = .ok (.aload_n 0, 1) := by decide +kernel
theorem dX12_sign_36 : decode cX12_sign 36 = .ok (.getfield 166, 3) := by decide +kernel
theorem dX12_sign_39 : decode cX12_sign 39 = .ok (.bipush 62, 2) := by decide +kernel
theorem dX12_sign_41 : decode cX12_sign 41 = .ok (.if_icmp .eq 57, 3) := by decide +kernel
theorem dX12_sign_44 : decode cX12_sign 44 = .ok (.aload_n 0, 1) := by decide +kernel
theorem dX12_sign_45 : decode cX12_sign 45 = .ok (.getfield 166, 3) := by decide +kernel
theorem dX12_sign_48 : decode cX12_sign 48 = .ok (.bipush 61, 2) := by decide +kernel
theorem dX12_sign_50 : decode cX12_sign 50 = .ok (.if_icmp .eq 48, 3) := by decide +kernel
theorem dX12_sign_53 : decode cX12_sign 53 = .ok (.aload_n 0, 1) := by decide +kernel
theorem dX12_sign_54 : decode cX12_sign 54 = .ok (.getfield 166, 3) := by decide +kernel
theorem dX12_sign_57 : decode cX12_sign 57 = .ok (.bipush 43, 2) := by decide +kernel
theorem dX12_sign_59 : decode cX12_sign 59 = .ok (.if_icmp .eq 39, 3) := by decide +kernel
theorem dX12_sign_62 : decode cX12_sign 62 = .ok (.aload_n 0, 1) := by decide +kernel
theorem dX12_sign_63 : decode cX12_sign 63 = .ok (.getfield 166, 3) := by decide +kernel
theorem dX12_sign_66 : decode cX12_sign 66 = .ok (.bipush 45, 2) := by decide +kernel
theorem dX12_sign_68 : decode cX12_sign 68 = .ok (.if_icmp .eq 30, 3) := by decide +kernel
theorem dX12_sign_71 : decode cX12_sign 71 = .ok (.aload_n 0, 1) := by decide +kernel
theorem dX12_sign_72 : decode cX12_sign 72 = .ok (.getfield 166, 3) := by decide +kernel
theorem dX12_sign_75 : decode cX12_sign 75 = .ok (.bipush 42, 2) := by decide +kernel
theorem dX12_sign_77 : decode cX12_sign 77 = .ok (.if_icmp .eq 21, 3) := by decide +kernel
theorem dX12_sign_80 : decode cX12_sign 80 = .ok (.aload_n 0, 1) := by decide +kernel
theorem dX12_sign_81 : decode cX12_sign 81 = .ok (.getfield 166, 3) := by decide +kernel
theorem dX12_sign_84 : decode cX12_sign 84 = .ok (.bipush 47, 2) := by decide +kernel
theorem dX12_sign_86 : decode cX12_sign 86 = .ok (.if_icmp .eq 12, 3) := by decide +kernel
theorem dX12_sign_89 : decode cX12_sign 89 = .ok (.aload_n 0, 1) := by decide +kernel
theorem dX12_sign_90 : decode cX12_sign 90 = .ok (.getfield 166, 3) := by decide +kernel
theorem dX12_sign_93 : decode cX12_sign 93 = .ok (.bipush 37, 2) := by decide +kernel
theorem dX12_sign_95 : decode cX12_sign 95 = .ok (.if_icmp .ne 10, 3) := by decide +kernel
theorem dX12_sign_98 : decode cX12_sign 98 = .ok (.aload_n 0, 1) := by decide +kernel
theorem dX12_sign_99 : decode cX12_sign 99 = .ok (.getfield 166, 3) := by decide +kernel
theorem dX12_sign_102 : decode cX12_sign 102 = .ok (.goto 4, 3) := by decide +kernel
theorem dX12_sign_105 : decode cX12_sign 105 = .ok (.iconst 0, 1) := by decide +kernel
theorem dX12_sign_106 : decode cX12_sign 106 = .ok (.ireturn, 1) := by decide +kernel
theorem dX12_hasBracket_0 : decode cX12_hasBracket 0 = .ok (.iconst 0, 1) := by decide +kernel
theorem dX12_hasBracket_1 : decode cX12_hasBracket 1 = .ok (.istore_n 1, 1) := by decide +kernel
theorem dX12_hasBracket_2 : decode cX12_hasBracket 2 = .ok (.iconst 0, 1) := by decide +kernel
theorem dX12_hasBracket_3 : decode cX12_hasBracket 3 = .ok (.istore_n 2, 1) := by decide +kernel
theorem dX12_hasBracket_4 : decode cX12_hasBracket 4 = .ok (.iload_n 2, 1) := by decide +kernel
theorem dX12_hasBracket_5 : decode cX12_hasBracket 5 = .ok (.aload_n 0, 1) := by decide +kernel
theorem dX12_hasBracket_6 : decode cX12_hasBracket 6 = .ok (.getfield 252, 3) := by decide +kernel
theorem dX12_hasBracket_9 : decode cX12_hasBracket 9 = .ok (.if_icmp .ge 30, 3) := by decide +kernel
theorem dX12_hasBracket_12 : decode cX12_hasBracket 12 = .ok (.iload_n 1, 1) := by decide +kernel
theorem dX12_hasBracket_13 : decode cX12_hasBracket 13 = .ok (.ifCond .ne 14, 3) := by decide +kernel
theorem dX12_hasBracket_16 : decode cX12_hasBracket 16 = .ok (.aload_n 0, 1) := by decide +kernel
theorem dX12_hasBracket_17 : decode cX12_hasBracket 17 = .ok (.getfield 39, 3) := by decide +kernel
theorem dX12_hasBracket_20 : decode cX12_hasBracket 20 = .ok (.iload_n 2, 1) := by decide +kernel
theorem dX12_hasBracket_21 : decode cX12_hasBracket 21 = .ok (.iaload, 1) := by decide +kernel
theorem dX12_hasBracket_22 : decode cX12_hasBracket 22 = .ok (.bipush 20, 2) := by decide +kernel
theorem dX12_hasBracket_24 : decode cX12_hasBracket 24 = .ok (.if_icmp .ne 7, 3) := by decide +kernel
theorem dX12_hasBracket_27 : decode cX12_hasBracket 27 = .ok (.iconst 1, 1) := by decide +kernel
theorem dX12_hasBracket_28 : decode cX12_hasBracket 28 = .ok (.goto 4, 3) := by decide +kernel
theorem dX12_hasBracket_31 : decode cX12_hasBracket 31 = .ok (.iconst 0, 1) := by decide +kernel
theorem dX12_hasBracket_32 : decode cX12_hasBracket 32 = .ok (.istore_n 1, 1) := by decide +kernel
theorem dX12_hasBracket_33 : decode cX12_hasBracket 33 = .ok (.iinc 2 1, 3) := by decide +kernel
theorem dX12_hasBracket_36 : decode cX12_hasBracket 36 = .ok (.goto (-32), 3) := by decide +kernel
theorem dX12_hasBracket_39 : decode cX12_hasBracket 39 = .ok (.iload_n 1, 1) := by decide +kernel
theorem dX12_hasBracket_40 : decode cX12_hasBracket 40 = .ok (.ireturn, 1) := by decide +kernel
theorem dX12_formula_0 : decode cX12_formula 0 = .ok (.aload_n 0, 1) := by decide +kernel
theorem dX12_formula_1 : decode cX12_formula 1 = .ok (.invokevirtual 231, 3) := by decide +kernel
theorem dX12_formula_4 : decode cX12_formula 4 = .ok (.aload_n 0, 1) := by decide +kernel
theorem dX12_formula_5 : decode cX12_formula 5 = .ok (.iload_n 1, 1) := by decide +kernel
theorem dX12_formula_6 : decode cX12_formula 6 = .ok (.putfield 249, 3) := by decide +kernel
theorem dX12_formula_9 : decode cX12_formula 9 = .ok (.aload_n 0, 1) := by decide +kernel
theorem dX12_formula_10 : decode cX12_formula 10 = .ok (.getfield 45, 3) := by decide +kernel
theorem dX12_formula_13 : decode cX12_formula 13 = .ok (.aload_n 0, 1) := by decide +kernel
theorem dX12_formula_14 : decode cX12_formula 14 = .ok (.getfield 249, 3) := by decide +kernel
theorem dX12_formula_17 : decode cX12_formula 17 = .ok (.iconst 1, 1) := by decide +kernel
theorem dX12_formula_18 : decode cX12_formula 18 = .ok (.bastore, 1) := by decide +kernel
theorem dX12_formula_19 : decode cX12_formula 19 = .ok (.aload_n 0, 1) := by decide +kernel
theorem dX12_formula_20 : decode cX12_formula 20 = .ok (.getfield 27, 3) := by decide +kernel
theorem dX12_formula_23 : decode cX12_formula 23 = .ok (.aload_n 0, 1) := by decide +kernel
theorem dX12_formula_24 : decode cX12_formula 24 = .ok (.getfield 249, 3) := by decide +kernel
theorem dX12_formula_27 : decode cX12_formula 27 = .ok (.iconst 0, 1) := by decide +kernel
theorem dX12_formula_28 : decode cX12_formula 28 = .ok (.iastore, 1) := by decide +kernel
theorem dX12_formula_29 : decode cX12_formula 29 = .ok (.aload_n 0, 1) := by decide +kernel
theorem dX12_formula_30 : decode cX12_formula 30 = .ok (.iconst 0, 1) := by decide +kernel
theorem dX12_formula_31 : decode cX12_formula 31 = .ok (.putfield 252, 3) := by decide +kernel
theorem dX12_formula_34 : decode cX12_formula 34 = .ok (.aload_n 0, 1) := by decide +kernel
theorem dX12_formula_35 : decode cX12_formula 35 = .ok (.iconst 0, 1) := by decide +kernel
theorem dX12_formula_36 : decode cX12_formula 36 = .ok (.putfield 262, 3) := by decide +kernel
theorem dX12_formula_39 : decode cX12_formula 39 = .ok (.aload_n 0, 1) := by decide +kernel
theorem dX12_formula_40 : decode cX12_formula 40 = .ok (.iconst 0, 1) := by decide +kernel
theorem dX12_formula_41 : decode cX12_formula 41 = .ok (.putfield 268, 3) := by decide +kernel
theorem dX12_formula_44 : decode cX12_formula 44 = .ok (.aload_n 0, 1) := by decide +kernel
theorem dX12_formula_45 : decode cX12_formula 45 = .ok (.invokevirtual 287, 3) := by decide +kernel
theorem dX12_formula_48 : decode cX12_formula 48 = .ok (.iconst 1, 1) := by decide +kernel
theorem dX12_formula_49 : decode cX12_formula 49 = .ok (.istore_n 2, 1) := by decide +kernel
theorem dX12_formula_50 : decode cX12_formula 50 = .ok (.iload_n 2, 1) := by decide +kernel
theorem dX12_formula_51 : decode cX12_formula 51 = .ok (.ifCond .eq 126, 3) := by decide +kernel
theorem dX12_formula_54 : decode cX12_formula 54 = .ok (.aload_n 0, 1) := by decide +kernel
theorem dX12_formula_55 : decode cX12_formula 55 = .ok (.getfield 179, 3) := by decide +kernel
theorem dX12_formula_58 : decode cX12_formula 58 = .ok (.ifCond .ne 119, 3) := by decide +kernel
theorem dX12_formula_61 : decode cX12_formula 61 = .ok (.aload_n 0, 1) := by decide +kernel
theorem dX12_formula_62 : decode cX12_formula 62 = .ok (.invokevirtual 290, 3) := by decide +kernel
theorem dX12_formula_65 : decode cX12_formula 65 = .ok (.istore_n 3, 1) := by decide +kernel
theorem dX12_formula_66 : decode cX12_formula 66 = .ok (.aload_n 0, 1) := by decide +kernel
theorem dX12_formula_67 : decode cX12_formula 67 = .ok (.getfield 166, 3) := by decide +kernel
theorem dX12_formula_70 : decode cX12_formula 70 = .ok (.bipush 41, 2) := by decide +kernel
theorem dX12_formula_72 : decode cX12_formula 72 = .ok (.if_icmp .ne 42, 3) := by decide +kernel
theorem dX12_formula_75 : decode cX12_formula 75 = .ok (.aload_n 0, 1) := by decide +kernel
theorem dX12_formula_76 : decode cX12_formula 76 = .ok (.invokevirtual 293, 3) := by decide +kernel
theorem dX12_formula_79 : decode cX12_formula 79 = .ok (.ifCond .eq 35, 3) := by decide +kernel
theorem dX12_formula_82 : decode cX12_formula 82 = .ok (.aload_n 0, 1) := by decide +kernel
theorem dX12_formula_83 : decode cX12_formula 83 = .ok (.iconst 0, 1) := by decide +kernel
theorem dX12_formula_84 : decode cX12_formula 84 = .ok (.invokevirtual 296, 3) := by decide +kernel
theorem dX12_formula_87 : decode cX12_formula 87 = .ok (.aload_n 0, 1) := by decide +kernel
theorem dX12_formula_88 : decode cX12_formula 88 = .ok (.dup, 1) := by decide +kernel
theorem dX12_formula_89 : decode cX12_formula 89 = .ok (.getfield 252, 3) := by decide +kernel
theorem dX12_formula_92 : decode cX12_formula 92 = .ok (.iconst 1, 1) := by decide +kernel
theorem dX12_formula_93 : decode cX12_formula 93 = .ok (.isub, 1) := by decide +kernel
theorem dX12_formula_94 : decode cX12_formula 94 = .ok (.putfield 252, 3) := by decide +kernel
theorem dX12_formula_97 : decode cX12_formula 97 = .ok (.aload_n 0, 1) := by decide +kernel
theorem dX12_formula_98 : decode cX12_formula 98 = .ok (.dup, 1) := by decide +kernel
theorem dX12_formula_99 : decode cX12_formula 99 = .ok (.getfield 262, 3) := by decide +kernel
theorem dX12_formula_102 : decode cX12_formula 102 = .ok (.iconst 1, 1) := by decide +kernel
theorem dX12_formula_103 : decode cX12_formula 103 = .ok (.isub, 1) := by decide +kernel
theorem dX12_formula_104 : decode cX12_formula 104 = .ok (.putfield 262, 3) := by decide +kernel
theorem dX12_formula_107 : decode cX12_formula 107 = .ok (.aload_n 0, 1) := by decide +kernel
theorem dX12_formula_108 : decode cX12_formula 108 = .ok (.invokevirtual 231, 3) := by decide +kernel
theorem dX12_formula_111 : decode cX12_formula 111 = .ok (.goto 63, 3) := by decide +kernel
theorem dX12_formula_114 : decode cX12_formula 114 = .ok (.iload_n 3, 1) := by decide +kernel
theorem dX12_formula_115 : decode cX12_formula 115 = .ok (.ifCond .eq 57, 3) := by decide +kernel
theorem dX12_formula_118 : decode cX12_formula 118 = .ok (.iload_n 3, 1) := by decide +kernel
theorem dX12_formula_119 : decode cX12_formula 119 = .ok (.invokestatic 255, 3) := by decide +kernel
theorem dX12_formula_122 : decode cX12_formula 122 = .ok (.iconst 4, 1) := by decide +kernel
theorem dX12_formula_123 : decode cX12_formula 123 = .ok (.if_icmp .ne 10, 3) := by decide +kernel
theorem dX12_formula_126 : decode cX12_formula 126 = .ok (.aload_n 0, 1) := by decide +kernel
theorem dX12_formula_127 : decode cX12_formula 127 = .ok (.invokevirtual 299, 3) := by decide +kernel
theorem dX12_formula_130 : decode cX12_formula 130 = .ok (.ifCond .ne 42, 3) := by decide +kernel
theorem dX12_formula_133 : decode cX12_formula 133 = .ok (.aload_n 0, 1) := by decide +kernel
theorem dX12_formula_134 : decode cX12_formula 134 = .ok (.iload_n 3, 1) := by decide +kernel
theorem dX12_formula_135 : decode cX12_formula 135 = .ok (.invokestatic 255, 3) := by decide +kernel
theorem dX12_formula_138 : decode cX12_formula 138 = .ok (.invokevirtual 296, 3) := by decide +kernel
theorem dX12_formula_141 : decode cX12_formula 141 = .ok (.aload_n 0, 1) := by decide +kernel
theorem dX12_formula_142 : decode cX12_formula 142 = .ok (.getfield 39, 3) := by decide +kernel
theorem dX12_formula_145 : decode cX12_formula 145 = .ok (.aload_n 0, 1) := by decide +kernel
theorem dX12_formula_146 : decode cX12_formula 146 = .ok (.getfield 252, 3) := by decide +kernel
theorem dX12_formula_149 : decode cX12_formula 149 = .ok (.iload_n 3, 1) := by decide +kernel
theorem dX12_formula_150 : decode cX12_formula 150 = .ok (.iastore, 1) := by decide +kernel
theorem dX12_formula_151 : decode cX12_formula 151 = .ok (.aload_n 0, 1) := by decide +kernel
theorem dX12_formula_152 : decode cX12_formula 152 = .ok (.dup, 1) := by decide +kernel
theorem dX12_formula_153 : decode cX12_formula 153 = .ok (.getfield 252, 3) := by decide +kernel
theorem dX12_formula_156 : decode cX12_formula 156 = .ok (.iconst 1, 1) := by decide +kernel
theorem dX12_formula_157 : decode cX12_formula 157 = .ok (.iadd, 1) := by decide +kernel
theorem dX12_formula_158 : decode cX12_formula 158 = .ok (.putfield 252, 3) := by decide +kernel
theorem dX12_formula_161 : decode cX12_formula 161 = .ok (.aload_n 0, 1) := by decide +kernel
theorem dX12_formula_162 : decode cX12_formula 162 = .ok (.invokevirtual 231, 3) := by decide +kernel
theorem dX12_formula_165 : decode cX12_formula 165 = .ok (.aload_n 0, 1) := by decide +kernel
theorem dX12_formula_166 : decode cX12_formula 166 = .ok (.invokevirtual 287, 3) := by decide +kernel
theorem dX12_formula_169 : decode cX12_formula 169 = .ok (.goto 5, 3) := by decide +kernel
theorem dX12_formula_172 : decode cX12_formula 172 = .ok (.iconst 0, 1) := by decide +kernel
theorem dX12_formula_173 : decode cX12_formula 173 = .ok (.istore_n 2, 1) := by decide +kernel
theorem dX12_formula_174 : decode cX12_formula 174 = .ok (.goto (-124), 3) := by decide +kernel
theorem dX12_formula_177 : decode cX12_formula 177 = .ok (.aload_n 0, 1) := by decide +kernel
theorem dX12_formula_178 : decode cX12_formula 178 = .ok (.getfield 179, 3) := by decide +kernel
theorem dX12_formula_181 : decode cX12_formula 181 = .ok (.ifCond .ne 15, 3) := by decide +kernel
theorem dX12_formula_184 : decode cX12_formula 184 = .ok (.aload_n 0, 1) := by decide +kernel
theorem dX12_formula_185 : decode cX12_formula 185 = .ok (.invokevirtual 293, 3) := by decide +kernel
theorem dX12_formula_188 : decode cX12_formula 188 = .ok (.ifCond .eq 8, 3) := by decide +kernel
theorem dX12_formula_191 : decode cX12_formula 191 = .ok (.aload_n 0, 1) := by decide +kernel
theorem dX12_formula_192 : decode cX12_formula 192 = .ok (.iconst 2, 1) := by decide +kernel
theorem dX12_formula_193 : decode cX12_formula 193 = .ok (.invokevirtual 228, 3) := by decide +kernel
theorem dX12_formula_196 : decode cX12_formula 196 = .ok (.aload_n 0, 1) := by decide +kernel
theorem dX12_formula_197 : decode cX12_formula 197 = .ok (.getfield 179, 3) := by decide +kernel
theorem dX12_formula_200 : decode cX12_formula 200 = .ok (.ifCond .ne 8, 3) := by decide +kernel
theorem dX12_formula_203 : decode cX12_formula 203 = .ok (.aload_n 0, 1) := by decide +kernel
theorem dX12_formula_204 : decode cX12_formula 204 = .ok (.iconst 0, 1) := by decide +kernel
theorem dX12_formula_205 : decode cX12_formula 205 = .ok (.invokevirtual 296, 3) := by decide +kernel
theorem dX12_formula_208 : decode cX12_formula 208 = .ok (.return_, 1) := by decide +kernel
theorem dX12_truth_0 : decode cX12_truth 0 = .ok (.iload_n 0, 1) := by decide +kernel
theorem dX12_truth_1 : decode cX12_truth 1 = .ok (.ifCond .eq 7, 3) := by decide +kernel
theorem dX12_truth_4 : decode cX12_truth 4 = .ok (.iconst 1, 1) := by decide +kernel
theorem dX12_truth_5 : decode cX12_truth 5 = .ok (.goto 4, 3) := by decide +kernel
theorem dX12_truth_8 : decode cX12_truth 8 = .ok (.iconst 0, 1) := by decide +kernel
theorem dX12_truth_9 : decode cX12_truth 9 = .ok (.ireturn, 1) := by decide +kernel
theorem dX12_done_0 : decode cX12_done 0 = .ok (.iload_n 0, 1) := by decide +kernel
theorem dX12_done_1 : decode cX12_done 1 = .ok (.tableswitch 214 37 62 #[143, 197, 214, 214, 214, 127, 119, 214, 123, 214, 131, 214, 214, 214, 214, 214, 214, 214, 214, 214, 214, 214, 214, 155, 183, 169], 119) := by decide +kernel
theorem dX12_done_120 : decode cX12_done 120 = .ok (.iload_n 1, 1) := by decide +kernel
theorem dX12_done_121 : decode cX12_done 121 = .ok (.iload_n 2, 1) := by decide +kernel
theorem dX12_done_122 : decode cX12_done 122 = .ok (.iadd, 1) := by decide +kernel
theorem dX12_done_123 : decode cX12_done 123 = .ok (.ireturn, 1) := by decide +kernel
theorem dX12_done_124 : decode cX12_done 124 = .ok (.iload_n 1, 1) := by decide +kernel
theorem dX12_done_125 : decode cX12_done 125 = .ok (.iload_n 2, 1) := by decide +kernel
theorem dX12_done_126 : decode cX12_done 126 = .ok (.isub, 1) := by decide +kernel
theorem dX12_done_127 : decode cX12_done 127 = .ok (.ireturn, 1) := by decide +kernel
theorem dX12_done_128 : decode cX12_done 128 = .ok (.iload_n 1, 1) := by decide +kernel
theorem dX12_done_129 : decode cX12_done 129 = .ok (.iload_n 2, 1) := by decide +kernel
theorem dX12_done_130 : decode cX12_done 130 = .ok (.imul, 1) := by decide +kernel
theorem dX12_done_131 : decode cX12_done 131 = .ok (.ireturn, 1) := by decide +kernel
theorem dX12_done_132 : decode cX12_done 132 = .ok (.iload_n 2, 1) := by decide +kernel
theorem dX12_done_133 : decode cX12_done 133 = .ok (.ifCond .ne 7, 3) := by decide +kernel
theorem dX12_done_136 : decode cX12_done 136 = .ok (.iconst 0, 1) := by decide +kernel
theorem dX12_done_137 : decode cX12_done 137 = .ok (.goto 6, 3) := by decide +kernel
theorem dX12_done_140 : decode cX12_done 140 = .ok (.iload_n 1, 1) := by decide +kernel
theorem dX12_done_141 : decode cX12_done 141 = .ok (.iload_n 2, 1) := by decide +kernel
theorem dX12_done_142 : decode cX12_done 142 = .ok (.idiv, 1) := by decide +kernel
theorem dX12_done_143 : decode cX12_done 143 = .ok (.ireturn, 1) := by decide +kernel
theorem dX12_done_144 : decode cX12_done 144 = .ok (.iload_n 2, 1) := by decide +kernel
theorem dX12_done_145 : decode cX12_done 145 = .ok (.ifCond .ne 7, 3) := by decide +kernel
theorem dX12_done_148 : decode cX12_done 148 = .ok (.iconst 0, 1) := by decide +kernel
theorem dX12_done_149 : decode cX12_done 149 = .ok (.goto 6, 3) := by decide +kernel
theorem dX12_done_152 : decode cX12_done 152 = .ok (.iload_n 1, 1) := by decide +kernel
theorem dX12_done_153 : decode cX12_done 153 = .ok (.iload_n 2, 1) := by decide +kernel
theorem dX12_done_154 : decode cX12_done 154 = .ok (.irem, 1) := by decide +kernel
theorem dX12_done_155 : decode cX12_done 155 = .ok (.ireturn, 1) := by decide +kernel
theorem dX12_done_156 : decode cX12_done 156 = .ok (.iload_n 1, 1) := by decide +kernel
theorem dX12_done_157 : decode cX12_done 157 = .ok (.iload_n 2, 1) := by decide +kernel
theorem dX12_done_158 : decode cX12_done 158 = .ok (.if_icmp .ge 7, 3) := by decide +kernel
theorem dX12_done_161 : decode cX12_done 161 = .ok (.iconst 1, 1) := by decide +kernel
theorem dX12_done_162 : decode cX12_done 162 = .ok (.goto 4, 3) := by decide +kernel
theorem dX12_done_165 : decode cX12_done 165 = .ok (.iconst 0, 1) := by decide +kernel
theorem dX12_done_166 : decode cX12_done 166 = .ok (.invokestatic 302, 3) := by decide +kernel
theorem dX12_done_169 : decode cX12_done 169 = .ok (.ireturn, 1) := by decide +kernel
theorem dX12_done_170 : decode cX12_done 170 = .ok (.iload_n 1, 1) := by decide +kernel
theorem dX12_done_171 : decode cX12_done 171 = .ok (.iload_n 2, 1) := by decide +kernel
theorem dX12_done_172 : decode cX12_done 172 = .ok (.if_icmp .le 7, 3) := by decide +kernel
theorem dX12_done_175 : decode cX12_done 175 = .ok (.iconst 1, 1) := by decide +kernel
theorem dX12_done_176 : decode cX12_done 176 = .ok (.goto 4, 3) := by decide +kernel
theorem dX12_done_179 : decode cX12_done 179 = .ok (.iconst 0, 1) := by decide +kernel
theorem dX12_done_180 : decode cX12_done 180 = .ok (.invokestatic 302, 3) := by decide +kernel
theorem dX12_done_183 : decode cX12_done 183 = .ok (.ireturn, 1) := by decide +kernel
theorem dX12_done_184 : decode cX12_done 184 = .ok (.iload_n 1, 1) := by decide +kernel
theorem dX12_done_185 : decode cX12_done 185 = .ok (.iload_n 2, 1) := by decide +kernel
theorem dX12_done_186 : decode cX12_done 186 = .ok (.if_icmp .ne 7, 3) := by decide +kernel
theorem dX12_done_189 : decode cX12_done 189 = .ok (.iconst 1, 1) := by decide +kernel
theorem dX12_done_190 : decode cX12_done 190 = .ok (.goto 4, 3) := by decide +kernel
theorem dX12_done_193 : decode cX12_done 193 = .ok (.iconst 0, 1) := by decide +kernel
theorem dX12_done_194 : decode cX12_done 194 = .ok (.invokestatic 302, 3) := by decide +kernel
theorem dX12_done_197 : decode cX12_done 197 = .ok (.ireturn, 1) := by decide +kernel
theorem dX12_done_198 : decode cX12_done 198 = .ok (.iload_n 1, 1) := by decide +kernel
theorem dX12_done_199 : decode cX12_done 199 = .ok (.ifCond .eq 11, 3) := by decide +kernel
theorem dX12_done_202 : decode cX12_done 202 = .ok (.iload_n 2, 1) := by decide +kernel
theorem dX12_done_203 : decode cX12_done 203 = .ok (.ifCond .eq 7, 3) := by decide +kernel
theorem dX12_done_206 : decode cX12_done 206 = .ok (.iconst 1, 1) := by decide +kernel
theorem dX12_done_207 : decode cX12_done 207 = .ok (.goto 4, 3) := by decide +kernel
theorem dX12_done_210 : decode cX12_done 210 = .ok (.iconst 0, 1) := by decide +kernel
theorem dX12_done_211 : decode cX12_done 211 = .ok (.invokestatic 302, 3) := by decide +kernel
theorem dX12_done_214 : decode cX12_done 214 = .ok (.ireturn, 1) := by decide +kernel
theorem dX12_done_215 : decode cX12_done 215 = .ok (.iload_n 1, 1) := by decide +kernel
theorem dX12_done_216 : decode cX12_done 216 = .ok (.ifCond .ne 7, 3) := by decide +kernel
theorem dX12_done_219 : decode cX12_done 219 = .ok (.iload_n 2, 1) := by decide +kernel
theorem dX12_done_220 : decode cX12_done 220 = .ok (.ifCond .eq 7, 3) := by decide +kernel
theorem dX12_done_223 : decode cX12_done 223 = .ok (.iconst 1, 1) := by decide +kernel
theorem dX12_done_224 : decode cX12_done 224 = .ok (.goto 4, 3) := by decide +kernel
theorem dX12_done_227 : decode cX12_done 227 = .ok (.iconst 0, 1) := by decide +kernel
theorem dX12_done_228 : decode cX12_done 228 = .ok (.invokestatic 302, 3) := by decide +kernel
theorem dX12_done_231 : decode cX12_done 231 = .ok (.ireturn, 1) := by decide +kernel
theorem dX12_worked_0 : decode cX12_worked 0 = .ok (.iconst 0, 1) := by decide +kernel
theorem dX12_worked_1 : decode cX12_worked 1 = .ok (.istore_n 3, 1) := by decide +kernel
theorem dX12_worked_2 : decode cX12_worked 2 = .ok (.aload_n 0, 1) := by decide +kernel
theorem dX12_worked_3 : decode cX12_worked 3 = .ok (.getfield 42, 3) := by decide +kernel
theorem dX12_worked_6 : decode cX12_worked 6 = .ok (.iconst 0, 1) := by decide +kernel
theorem dX12_worked_7 : decode cX12_worked 7 = .ok (.iload_n 2, 1) := by decide +kernel
theorem dX12_worked_8 : decode cX12_worked 8 = .ok (.iastore, 1) := by decide +kernel
theorem dX12_worked_9 : decode cX12_worked 9 = .ok (.sipush 320, 3) := by decide +kernel
theorem dX12_worked_12 : decode cX12_worked 12 = .ok (.iload_n 1, 1) := by decide +kernel
theorem dX12_worked_13 : decode cX12_worked 13 = .ok (.imul, 1) := by decide +kernel
theorem dX12_worked_14 : decode cX12_worked 14 = .ok (.istore 4, 2) := by decide +kernel
theorem dX12_worked_16 : decode cX12_worked 16 = .ok (.iload 4, 2) := by decide +kernel
theorem dX12_worked_18 : decode cX12_worked 18 = .ok (.sipush 320, 3) := by decide +kernel
theorem dX12_worked_21 : decode cX12_worked 21 = .ok (.iload_n 1, 1) := by decide +kernel
theorem dX12_worked_22 : decode cX12_worked 22 = .ok (.imul, 1) := by decide +kernel
theorem dX12_worked_23 : decode cX12_worked 23 = .ok (.aload_n 0, 1) := by decide +kernel
theorem dX12_worked_24 : decode cX12_worked 24 = .ok (.getfield 36, 3) := by decide +kernel
theorem dX12_worked_27 : decode cX12_worked 27 = .ok (.iload_n 1, 1) := by decide +kernel
theorem dX12_worked_28 : decode cX12_worked 28 = .ok (.iaload, 1) := by decide +kernel
theorem dX12_worked_29 : decode cX12_worked 29 = .ok (.iadd, 1) := by decide +kernel
theorem dX12_worked_30 : decode cX12_worked 30 = .ok (.if_icmp .ge 150, 3) := by decide +kernel
theorem dX12_worked_33 : decode cX12_worked 33 = .ok (.aload_n 0, 1) := by decide +kernel
theorem dX12_worked_34 : decode cX12_worked 34 = .ok (.getfield 30, 3) := by decide +kernel
theorem dX12_worked_37 : decode cX12_worked 37 = .ok (.iload 4, 2) := by decide +kernel
theorem dX12_worked_39 : decode cX12_worked 39 = .ok (.iaload, 1) := by decide +kernel
theorem dX12_worked_40 : decode cX12_worked 40 = .ok (.ifCond .eq 14, 3) := by decide +kernel
theorem dX12_worked_43 : decode cX12_worked 43 = .ok (.aload_n 0, 1) := by decide +kernel
theorem dX12_worked_44 : decode cX12_worked 44 = .ok (.getfield 30, 3) := by decide +kernel
theorem dX12_worked_47 : decode cX12_worked 47 = .ok (.iload 4, 2) := by decide +kernel
theorem dX12_worked_49 : decode cX12_worked 49 = .ok (.iaload, 1) := by decide +kernel
theorem dX12_worked_50 : decode cX12_worked 50 = .ok (.iconst 1, 1) := by decide +kernel
theorem dX12_worked_51 : decode cX12_worked 51 = .ok (.if_icmp .ne 47, 3) := by decide +kernel
theorem dX12_worked_54 : decode cX12_worked 54 = .ok (.aload_n 0, 1) := by decide +kernel
theorem dX12_worked_55 : decode cX12_worked 55 = .ok (.getfield 42, 3) := by decide +kernel
theorem dX12_worked_58 : decode cX12_worked 58 = .ok (.iload_n 3, 1) := by decide +kernel
theorem dX12_worked_59 : decode cX12_worked 59 = .ok (.aload_n 0, 1) := by decide +kernel
theorem dX12_worked_60 : decode cX12_worked 60 = .ok (.getfield 30, 3) := by decide +kernel
theorem dX12_worked_63 : decode cX12_worked 63 = .ok (.iload 4, 2) := by decide +kernel
theorem dX12_worked_65 : decode cX12_worked 65 = .ok (.iaload, 1) := by decide +kernel
theorem dX12_worked_66 : decode cX12_worked 66 = .ok (.ifCond .ne 13, 3) := by decide +kernel
theorem dX12_worked_69 : decode cX12_worked 69 = .ok (.aload_n 0, 1) := by decide +kernel
theorem dX12_worked_70 : decode cX12_worked 70 = .ok (.getfield 33, 3) := by decide +kernel
theorem dX12_worked_73 : decode cX12_worked 73 = .ok (.iload 4, 2) := by decide +kernel
theorem dX12_worked_75 : decode cX12_worked 75 = .ok (.iaload, 1) := by decide +kernel
theorem dX12_worked_76 : decode cX12_worked 76 = .ok (.goto 15, 3) := by decide +kernel
theorem dX12_worked_79 : decode cX12_worked 79 = .ok (.aload_n 0, 1) := by decide +kernel
theorem dX12_worked_80 : decode cX12_worked 80 = .ok (.getfield 49, 3) := by decide +kernel
theorem dX12_worked_83 : decode cX12_worked 83 = .ok (.aload_n 0, 1) := by decide +kernel
theorem dX12_worked_84 : decode cX12_worked 84 = .ok (.getfield 33, 3) := by decide +kernel
theorem dX12_worked_87 : decode cX12_worked 87 = .ok (.iload 4, 2) := by decide +kernel
theorem dX12_worked_89 : decode cX12_worked 89 = .ok (.iaload, 1) := by decide +kernel
theorem dX12_worked_90 : decode cX12_worked 90 = .ok (.iaload, 1) := by decide +kernel
theorem dX12_worked_91 : decode cX12_worked 91 = .ok (.iastore, 1) := by decide +kernel
theorem dX12_worked_92 : decode cX12_worked 92 = .ok (.iinc 3 1, 3) := by decide +kernel
theorem dX12_worked_95 : decode cX12_worked 95 = .ok (.goto 79, 3) := by decide +kernel
theorem dX12_worked_98 : decode cX12_worked 98 = .ok (.aload_n 0, 1) := by decide +kernel
theorem dX12_worked_99 : decode cX12_worked 99 = .ok (.getfield 30, 3) := by decide +kernel
theorem dX12_worked_102 : decode cX12_worked 102 = .ok (.iload 4, 2) := by decide +kernel
theorem dX12_worked_104 : decode cX12_worked 104 = .ok (.iaload, 1) := by decide +kernel
theorem dX12_worked_105 : decode cX12_worked 105 = .ok (.iconst 2, 1) := by decide +kernel
theorem dX12_worked_106 : decode cX12_worked 106 = .ok (.if_icmp .ne 33, 3) := by decide +kernel
theorem dX12_worked_109 : decode cX12_worked 109 = .ok (.aload_n 0, 1) := by decide +kernel
theorem dX12_worked_110 : decode cX12_worked 110 = .ok (.getfield 42, 3) := by decide +kernel
theorem dX12_worked_113 : decode cX12_worked 113 = .ok (.iload_n 3, 1) := by decide +kernel
theorem dX12_worked_114 : decode cX12_worked 114 = .ok (.iconst 1, 1) := by decide +kernel
theorem dX12_worked_115 : decode cX12_worked 115 = .ok (.isub, 1) := by decide +kernel
theorem dX12_worked_116 : decode cX12_worked 116 = .ok (.aload_n 0, 1) := by decide +kernel
theorem dX12_worked_117 : decode cX12_worked 117 = .ok (.getfield 42, 3) := by decide +kernel
theorem dX12_worked_120 : decode cX12_worked 120 = .ok (.iload_n 3, 1) := by decide +kernel
theorem dX12_worked_121 : decode cX12_worked 121 = .ok (.iconst 1, 1) := by decide +kernel
theorem dX12_worked_122 : decode cX12_worked 122 = .ok (.isub, 1) := by decide +kernel
theorem dX12_worked_123 : decode cX12_worked 123 = .ok (.iaload, 1) := by decide +kernel
theorem dX12_worked_124 : decode cX12_worked 124 = .ok (.ifCond .ne 7, 3) := by decide +kernel
theorem dX12_worked_127 : decode cX12_worked 127 = .ok (.iconst 1, 1) := by decide +kernel
theorem dX12_worked_128 : decode cX12_worked 128 = .ok (.goto 4, 3) := by decide +kernel
theorem dX12_worked_131 : decode cX12_worked 131 = .ok (.iconst 0, 1) := by decide +kernel
theorem dX12_worked_132 : decode cX12_worked 132 = .ok (.invokestatic 302, 3) := by decide +kernel
theorem dX12_worked_135 : decode cX12_worked 135 = .ok (.iastore, 1) := by decide +kernel
theorem dX12_worked_136 : decode cX12_worked 136 = .ok (.goto 38, 3) := by decide +kernel
theorem dX12_worked_139 : decode cX12_worked 139 = .ok (.iinc 3 (-1), 3) := by decide +kernel
theorem dX12_worked_142 : decode cX12_worked 142 = .ok (.aload_n 0, 1) := by decide +kernel
theorem dX12_worked_143 : decode cX12_worked 143 = .ok (.getfield 42, 3) := by decide +kernel
theorem dX12_worked_146 : decode cX12_worked 146 = .ok (.iload_n 3, 1) := by decide +kernel
theorem dX12_worked_147 : decode cX12_worked 147 = .ok (.iconst 1, 1) := by decide +kernel
theorem dX12_worked_148 : decode cX12_worked 148 = .ok (.isub, 1) := by decide +kernel
theorem dX12_worked_149 : decode cX12_worked 149 = .ok (.aload_n 0, 1) := by decide +kernel
theorem dX12_worked_150 : decode cX12_worked 150 = .ok (.getfield 33, 3) := by decide +kernel
theorem dX12_worked_153 : decode cX12_worked 153 = .ok (.iload 4, 2) := by decide +kernel
theorem dX12_worked_155 : decode cX12_worked 155 = .ok (.iaload, 1) := by decide +kernel
theorem dX12_worked_156 : decode cX12_worked 156 = .ok (.aload_n 0, 1) := by decide +kernel
theorem dX12_worked_157 : decode cX12_worked 157 = .ok (.getfield 42, 3) := by decide +kernel
theorem dX12_worked_160 : decode cX12_worked 160 = .ok (.iload_n 3, 1) := by decide +kernel
theorem dX12_worked_161 : decode cX12_worked 161 = .ok (.iconst 1, 1) := by decide +kernel
theorem dX12_worked_162 : decode cX12_worked 162 = .ok (.isub, 1) := by decide +kernel
theorem dX12_worked_163 : decode cX12_worked 163 = .ok (.iaload, 1) := by decide +kernel
theorem dX12_worked_164 : decode cX12_worked 164 = .ok (.aload_n 0, 1) := by decide +kernel
theorem dX12_worked_165 : decode cX12_worked 165 = .ok (.getfield 42, 3) := by decide +kernel
theorem dX12_worked_168 : decode cX12_worked 168 = .ok (.iload_n 3, 1) := by decide +kernel
theorem dX12_worked_169 : decode cX12_worked 169 = .ok (.iaload, 1) := by decide +kernel
theorem dX12_worked_170 : decode cX12_worked 170 = .ok (.invokestatic 306, 3) := by decide +kernel
theorem dX12_worked_173 : decode cX12_worked 173 = .ok (.iastore, 1) := by decide +kernel
theorem dX12_worked_174 : decode cX12_worked 174 = .ok (.iinc 4 1, 3) := by decide +kernel
theorem dX12_worked_177 : decode cX12_worked 177 = .ok (.goto (-161), 3) := by decide +kernel
theorem dX12_worked_180 : decode cX12_worked 180 = .ok (.aload_n 0, 1) := by decide +kernel
theorem dX12_worked_181 : decode cX12_worked 181 = .ok (.getfield 42, 3) := by decide +kernel
theorem dX12_worked_184 : decode cX12_worked 184 = .ok (.iconst 0, 1) := by decide +kernel
theorem dX12_worked_185 : decode cX12_worked 185 = .ok (.iaload, 1) := by decide +kernel
theorem dX12_worked_186 : decode cX12_worked 186 = .ok (.ireturn, 1) := by decide +kernel
theorem dX12_readTier_0 : decode cX12_readTier 0 = .ok (.aload_n 0, 1) := by decide +kernel
theorem dX12_readTier_1 : decode cX12_readTier 1 = .ok (.iconst 0, 1) := by decide +kernel
theorem dX12_readTier_2 : decode cX12_readTier 2 = .ok (.aload_n 0, 1) := by decide +kernel
theorem dX12_readTier_3 : decode cX12_readTier 3 = .ok (.getfield 310, 3) := by decide +kernel
theorem dX12_readTier_6 : decode cX12_readTier 6 = .ok (.invokevirtual 313, 3) := by decide +kernel
theorem dX12_readTier_9 : decode cX12_readTier 9 = .ok (.aload_n 0, 1) := by decide +kernel
theorem dX12_readTier_10 : decode cX12_readTier 10 = .ok (.getfield 310, 3) := by decide +kernel
theorem dX12_readTier_13 : decode cX12_readTier 13 = .ok (.istore_n 1, 1) := by decide +kernel
theorem dX12_readTier_14 : decode cX12_readTier 14 = .ok (.aload_n 0, 1) := by decide +kernel
theorem dX12_readTier_15 : decode cX12_readTier 15 = .ok (.getfield 52, 3) := by decide +kernel
theorem dX12_readTier_18 : decode cX12_readTier 18 = .ok (.iload_n 1, 1) := by decide +kernel
theorem dX12_readTier_19 : decode cX12_readTier 19 = .ok (.aload_n 0, 1) := by decide +kernel
theorem dX12_readTier_20 : decode cX12_readTier 20 = .ok (.iconst 1, 1) := by decide +kernel
theorem dX12_readTier_21 : decode cX12_readTier 21 = .ok (.bipush 8, 2) := by decide +kernel
theorem dX12_readTier_23 : decode cX12_readTier 23 = .ok (.invokevirtual 238, 3) := by decide +kernel
theorem dX12_readTier_26 : decode cX12_readTier 26 = .ok (.iastore, 1) := by decide +kernel
theorem dX12_readTier_27 : decode cX12_readTier 27 = .ok (.aload_n 0, 1) := by decide +kernel
theorem dX12_readTier_28 : decode cX12_readTier 28 = .ok (.getfield 55, 3) := by decide +kernel
theorem dX12_readTier_31 : decode cX12_readTier 31 = .ok (.iload_n 1, 1) := by decide +kernel
theorem dX12_readTier_32 : decode cX12_readTier 32 = .ok (.aload_n 0, 1) := by decide +kernel
theorem dX12_readTier_33 : decode cX12_readTier 33 = .ok (.ldc2_w 184, 3) := by decide +kernel
theorem dX12_readTier_36 : decode cX12_readTier 36 = .ok (.iconst 1, 1) := by decide +kernel
theorem dX12_readTier_37 : decode cX12_readTier 37 = .ok (.bipush 8, 2) := by decide +kernel
theorem dX12_readTier_39 : decode cX12_readTier 39 = .ok (.invokevirtual 242, 3) := by decide +kernel
theorem dX12_readTier_42 : decode cX12_readTier 42 = .ok (.iastore, 1) := by decide +kernel
theorem dX12_readTier_43 : decode cX12_readTier 43 = .ok (.aload_n 0, 1) := by decide +kernel
theorem dX12_readTier_44 : decode cX12_readTier 44 = .ok (.getfield 58, 3) := by decide +kernel
theorem dX12_readTier_47 : decode cX12_readTier 47 = .ok (.iload_n 1, 1) := by decide +kernel
theorem dX12_readTier_48 : decode cX12_readTier 48 = .ok (.aload_n 0, 1) := by decide +kernel
theorem dX12_readTier_49 : decode cX12_readTier 49 = .ok (.ldc2_w 186, 3) := by decide +kernel
theorem dX12_readTier_52 : decode cX12_readTier 52 = .ok (.iconst 1, 1) := by decide +kernel
theorem dX12_readTier_53 : decode cX12_readTier 53 = .ok (.bipush 9, 2) := by decide +kernel
theorem dX12_readTier_55 : decode cX12_readTier 55 = .ok (.invokevirtual 242, 3) := by decide +kernel
theorem dX12_readTier_58 : decode cX12_readTier 58 = .ok (.iastore, 1) := by decide +kernel
theorem dX12_readTier_59 : decode cX12_readTier 59 = .ok (.aload_n 0, 1) := by decide +kernel
theorem dX12_readTier_60 : decode cX12_readTier 60 = .ok (.getfield 179, 3) := by decide +kernel
theorem dX12_readTier_63 : decode cX12_readTier 63 = .ok (.ifCond .ne 13, 3) := by decide +kernel
theorem dX12_readTier_66 : decode cX12_readTier 66 = .ok (.aload_n 0, 1) := by decide +kernel
theorem dX12_readTier_67 : decode cX12_readTier 67 = .ok (.dup, 1) := by decide +kernel
theorem dX12_readTier_68 : decode cX12_readTier 68 = .ok (.getfield 310, 3) := by decide +kernel
theorem dX12_readTier_71 : decode cX12_readTier 71 = .ok (.iconst 1, 1) := by decide +kernel
theorem dX12_readTier_72 : decode cX12_readTier 72 = .ok (.iadd, 1) := by decide +kernel
theorem dX12_readTier_73 : decode cX12_readTier 73 = .ok (.putfield 310, 3) := by decide +kernel
theorem dX12_readTier_76 : decode cX12_readTier 76 = .ok (.return_, 1) := by decide +kernel
theorem dX12_readGuest_0 : decode cX12_readGuest 0 = .ok (.aload_n 0, 1) := by decide +kernel
theorem dX12_readGuest_1 : decode cX12_readGuest 1 = .ok (.iconst 3, 1) := by decide +kernel
theorem dX12_readGuest_2 : decode cX12_readGuest 2 = .ok (.aload_n 0, 1) := by decide +kernel
theorem dX12_readGuest_3 : decode cX12_readGuest 3 = .ok (.getfield 316, 3) := by decide +kernel
theorem dX12_readGuest_6 : decode cX12_readGuest 6 = .ok (.invokevirtual 313, 3) := by decide +kernel
theorem dX12_readGuest_9 : decode cX12_readGuest 9 = .ok (.aload_n 0, 1) := by decide +kernel
theorem dX12_readGuest_10 : decode cX12_readGuest 10 = .ok (.getfield 316, 3) := by decide +kernel
theorem dX12_readGuest_13 : decode cX12_readGuest 13 = .ok (.istore_n 1, 1) := by decide +kernel
theorem dX12_readGuest_14 : decode cX12_readGuest 14 = .ok (.aload_n 0, 1) := by decide +kernel
theorem dX12_readGuest_15 : decode cX12_readGuest 15 = .ok (.getfield 70, 3) := by decide +kernel
theorem dX12_readGuest_18 : decode cX12_readGuest 18 = .ok (.iload_n 1, 1) := by decide +kernel
theorem dX12_readGuest_19 : decode cX12_readGuest 19 = .ok (.aload_n 0, 1) := by decide +kernel
theorem dX12_readGuest_20 : decode cX12_readGuest 20 = .ok (.ldc2_w 190, 3) := by decide +kernel
theorem dX12_readGuest_23 : decode cX12_readGuest 23 = .ok (.iconst 0, 1) := by decide +kernel
theorem dX12_readGuest_24 : decode cX12_readGuest 24 = .ok (.sipush 999, 3) := by decide +kernel
theorem dX12_readGuest_27 : decode cX12_readGuest 27 = .ok (.invokevirtual 242, 3) := by decide +kernel
theorem dX12_readGuest_30 : decode cX12_readGuest 30 = .ok (.iastore, 1) := by decide +kernel
theorem dX12_readGuest_31 : decode cX12_readGuest 31 = .ok (.aload_n 0, 1) := by decide +kernel
theorem dX12_readGuest_32 : decode cX12_readGuest 32 = .ok (.getfield 73, 3) := by decide +kernel
theorem dX12_readGuest_35 : decode cX12_readGuest 35 = .ok (.iload_n 1, 1) := by decide +kernel
theorem dX12_readGuest_36 : decode cX12_readGuest 36 = .ok (.aload_n 0, 1) := by decide +kernel
theorem dX12_readGuest_37 : decode cX12_readGuest 37 = .ok (.ldc2_w 192, 3) := by decide +kernel
theorem dX12_readGuest_40 : decode cX12_readGuest 40 = .ok (.bipush 9, 2) := by decide +kernel
theorem dX12_readGuest_42 : decode cX12_readGuest 42 = .ok (.iconst 0, 1) := by decide +kernel
theorem dX12_readGuest_43 : decode cX12_readGuest 43 = .ok (.invokevirtual 319, 3) := by decide +kernel
theorem dX12_readGuest_46 : decode cX12_readGuest 46 = .ok (.iastore, 1) := by decide +kernel
theorem dX12_readGuest_47 : decode cX12_readGuest 47 = .ok (.aload_n 0, 1) := by decide +kernel
theorem dX12_readGuest_48 : decode cX12_readGuest 48 = .ok (.getfield 76, 3) := by decide +kernel
theorem dX12_readGuest_51 : decode cX12_readGuest 51 = .ok (.iload_n 1, 1) := by decide +kernel
theorem dX12_readGuest_52 : decode cX12_readGuest 52 = .ok (.aload_n 0, 1) := by decide +kernel
theorem dX12_readGuest_53 : decode cX12_readGuest 53 = .ok (.ldc2_w 194, 3) := by decide +kernel
theorem dX12_readGuest_56 : decode cX12_readGuest 56 = .ok (.bipush 100, 2) := by decide +kernel
theorem dX12_readGuest_58 : decode cX12_readGuest 58 = .ok (.bipush 100, 2) := by decide +kernel
theorem dX12_readGuest_60 : decode cX12_readGuest 60 = .ok (.invokevirtual 319, 3) := by decide +kernel
theorem dX12_readGuest_63 : decode cX12_readGuest 63 = .ok (.iastore, 1) := by decide +kernel
theorem dX12_readGuest_64 : decode cX12_readGuest 64 = .ok (.aload_n 0, 1) := by decide +kernel
theorem dX12_readGuest_65 : decode cX12_readGuest 65 = .ok (.getfield 179, 3) := by decide +kernel
theorem dX12_readGuest_68 : decode cX12_readGuest 68 = .ok (.ifCond .ne 13, 3) := by decide +kernel
theorem dX12_readGuest_71 : decode cX12_readGuest 71 = .ok (.aload_n 0, 1) := by decide +kernel
theorem dX12_readGuest_72 : decode cX12_readGuest 72 = .ok (.dup, 1) := by decide +kernel
theorem dX12_readGuest_73 : decode cX12_readGuest 73 = .ok (.getfield 316, 3) := by decide +kernel
theorem dX12_readGuest_76 : decode cX12_readGuest 76 = .ok (.iconst 1, 1) := by decide +kernel
theorem dX12_readGuest_77 : decode cX12_readGuest 77 = .ok (.iadd, 1) := by decide +kernel
theorem dX12_readGuest_78 : decode cX12_readGuest 78 = .ok (.putfield 316, 3) := by decide +kernel
theorem dX12_readGuest_81 : decode cX12_readGuest 81 = .ok (.return_, 1) := by decide +kernel
theorem dX12_readLine_0 : decode cX12_readLine 0 = .ok (.aload_n 0, 1) := by decide +kernel
theorem dX12_readLine_1 : decode cX12_readLine 1 = .ok (.ldc2_w 182, 3) := by decide +kernel
theorem dX12_readLine_4 : decode cX12_readLine 4 = .ok (.invokevirtual 224, 3) := by decide +kernel
theorem dX12_readLine_7 : decode cX12_readLine 7 = .ok (.ifCond .eq 18, 3) := by decide +kernel
theorem dX12_readLine_10 : decode cX12_readLine 10 = .ok (.aload_n 0, 1) := by decide +kernel
theorem dX12_readLine_11 : decode cX12_readLine 11 = .ok (.getfield 310, 3) := by decide +kernel
theorem dX12_readLine_14 : decode cX12_readLine 14 = .ok (.iconst 3, 1) := by decide +kernel
theorem dX12_readLine_15 : decode cX12_readLine 15 = .ok (.if_icmp .ge 10, 3) := by decide +kernel
theorem dX12_readLine_18 : decode cX12_readLine 18 = .ok (.aload_n 0, 1) := by decide +kernel
theorem dX12_readLine_19 : decode cX12_readLine 19 = .ok (.invokevirtual 322, 3) := by decide +kernel
theorem dX12_readLine_22 : decode cX12_readLine 22 = .ok (.goto 167, 3) := by decide +kernel
theorem dX12_readLine_25 : decode cX12_readLine 25 = .ok (.aload_n 0, 1) := by decide +kernel
theorem dX12_readLine_26 : decode cX12_readLine 26 = .ok (.ldc2_w 188, 3) := by decide +kernel
theorem dX12_readLine_29 : decode cX12_readLine 29 = .ok (.invokevirtual 224, 3) := by decide +kernel
theorem dX12_readLine_32 : decode cX12_readLine 32 = .ok (.ifCond .eq 19, 3) := by decide +kernel
theorem dX12_readLine_35 : decode cX12_readLine 35 = .ok (.aload_n 0, 1) := by decide +kernel
theorem dX12_readLine_36 : decode cX12_readLine 36 = .ok (.getfield 316, 3) := by decide +kernel
theorem dX12_readLine_39 : decode cX12_readLine 39 = .ok (.bipush 6, 2) := by decide +kernel
theorem dX12_readLine_41 : decode cX12_readLine 41 = .ok (.if_icmp .ge 10, 3) := by decide +kernel
theorem dX12_readLine_44 : decode cX12_readLine 44 = .ok (.aload_n 0, 1) := by decide +kernel
theorem dX12_readLine_45 : decode cX12_readLine 45 = .ok (.invokevirtual 325, 3) := by decide +kernel
theorem dX12_readLine_48 : decode cX12_readLine 48 = .ok (.goto 141, 3) := by decide +kernel
theorem dX12_readLine_51 : decode cX12_readLine 51 = .ok (.aload_n 0, 1) := by decide +kernel
theorem dX12_readLine_52 : decode cX12_readLine 52 = .ok (.ldc2_w 196, 3) := by decide +kernel
theorem dX12_readLine_55 : decode cX12_readLine 55 = .ok (.invokevirtual 224, 3) := by decide +kernel
theorem dX12_readLine_58 : decode cX12_readLine 58 = .ok (.ifCond .eq 20, 3) := by decide +kernel
theorem dX12_readLine_61 : decode cX12_readLine 61 = .ok (.aload_n 0, 1) := by decide +kernel
theorem dX12_readLine_62 : decode cX12_readLine 62 = .ok (.getfield 45, 3) := by decide +kernel
theorem dX12_readLine_65 : decode cX12_readLine 65 = .ok (.iconst 0, 1) := by decide +kernel
theorem dX12_readLine_66 : decode cX12_readLine 66 = .ok (.baload, 1) := by decide +kernel
theorem dX12_readLine_67 : decode cX12_readLine 67 = .ok (.ifCond .ne 11, 3) := by decide +kernel
theorem dX12_readLine_70 : decode cX12_readLine 70 = .ok (.aload_n 0, 1) := by decide +kernel
theorem dX12_readLine_71 : decode cX12_readLine 71 = .ok (.iconst 0, 1) := by decide +kernel
theorem dX12_readLine_72 : decode cX12_readLine 72 = .ok (.invokevirtual 328, 3) := by decide +kernel
theorem dX12_readLine_75 : decode cX12_readLine 75 = .ok (.goto 114, 3) := by decide +kernel
theorem dX12_readLine_78 : decode cX12_readLine 78 = .ok (.aload_n 0, 1) := by decide +kernel
theorem dX12_readLine_79 : decode cX12_readLine 79 = .ok (.ldc2_w 198, 3) := by decide +kernel
theorem dX12_readLine_82 : decode cX12_readLine 82 = .ok (.invokevirtual 224, 3) := by decide +kernel
theorem dX12_readLine_85 : decode cX12_readLine 85 = .ok (.ifCond .eq 20, 3) := by decide +kernel
theorem dX12_readLine_88 : decode cX12_readLine 88 = .ok (.aload_n 0, 1) := by decide +kernel
theorem dX12_readLine_89 : decode cX12_readLine 89 = .ok (.getfield 45, 3) := by decide +kernel
theorem dX12_readLine_92 : decode cX12_readLine 92 = .ok (.iconst 1, 1) := by decide +kernel
theorem dX12_readLine_93 : decode cX12_readLine 93 = .ok (.baload, 1) := by decide +kernel
theorem dX12_readLine_94 : decode cX12_readLine 94 = .ok (.ifCond .ne 11, 3) := by decide +kernel
theorem dX12_readLine_97 : decode cX12_readLine 97 = .ok (.aload_n 0, 1) := by decide +kernel
theorem dX12_readLine_98 : decode cX12_readLine 98 = .ok (.iconst 1, 1) := by decide +kernel
theorem dX12_readLine_99 : decode cX12_readLine 99 = .ok (.invokevirtual 328, 3) := by decide +kernel
theorem dX12_readLine_102 : decode cX12_readLine 102 = .ok (.goto 87, 3) := by decide +kernel
theorem dX12_readLine_105 : decode cX12_readLine 105 = .ok (.aload_n 0, 1) := by decide +kernel
theorem dX12_readLine_106 : decode cX12_readLine 106 = .ok (.ldc2_w 200, 3) := by decide +kernel
theorem dX12_readLine_109 : decode cX12_readLine 109 = .ok (.invokevirtual 224, 3) := by decide +kernel
theorem dX12_readLine_112 : decode cX12_readLine 112 = .ok (.ifCond .eq 32, 3) := by decide +kernel
theorem dX12_readLine_115 : decode cX12_readLine 115 = .ok (.aload_n 0, 1) := by decide +kernel
theorem dX12_readLine_116 : decode cX12_readLine 116 = .ok (.getfield 331, 3) := by decide +kernel
theorem dX12_readLine_119 : decode cX12_readLine 119 = .ok (.ifCond .ne 25, 3) := by decide +kernel
theorem dX12_readLine_122 : decode cX12_readLine 122 = .ok (.aload_n 0, 1) := by decide +kernel
theorem dX12_readLine_123 : decode cX12_readLine 123 = .ok (.iconst 1, 1) := by decide +kernel
theorem dX12_readLine_124 : decode cX12_readLine 124 = .ok (.putfield 331, 3) := by decide +kernel
theorem dX12_readLine_127 : decode cX12_readLine 127 = .ok (.aload_n 0, 1) := by decide +kernel
theorem dX12_readLine_128 : decode cX12_readLine 128 = .ok (.aload_n 0, 1) := by decide +kernel
theorem dX12_readLine_129 : decode cX12_readLine 129 = .ok (.ldc2_w 200, 3) := by decide +kernel
theorem dX12_readLine_132 : decode cX12_readLine 132 = .ok (.iconst 0, 1) := by decide +kernel
theorem dX12_readLine_133 : decode cX12_readLine 133 = .ok (.bipush 60, 2) := by decide +kernel
theorem dX12_readLine_135 : decode cX12_readLine 135 = .ok (.invokevirtual 242, 3) := by decide +kernel
theorem dX12_readLine_138 : decode cX12_readLine 138 = .ok (.putfield 335, 3) := by decide +kernel
theorem dX12_readLine_141 : decode cX12_readLine 141 = .ok (.goto 48, 3) := by decide +kernel
theorem dX12_readLine_144 : decode cX12_readLine 144 = .ok (.aload_n 0, 1) := by decide +kernel
theorem dX12_readLine_145 : decode cX12_readLine 145 = .ok (.ldc2_w 202, 3) := by decide +kernel
theorem dX12_readLine_148 : decode cX12_readLine 148 = .ok (.invokevirtual 224, 3) := by decide +kernel
theorem dX12_readLine_151 : decode cX12_readLine 151 = .ok (.ifCond .eq 33, 3) := by decide +kernel
theorem dX12_readLine_154 : decode cX12_readLine 154 = .ok (.aload_n 0, 1) := by decide +kernel
theorem dX12_readLine_155 : decode cX12_readLine 155 = .ok (.getfield 338, 3) := by decide +kernel
theorem dX12_readLine_158 : decode cX12_readLine 158 = .ok (.ifCond .ne 26, 3) := by decide +kernel
theorem dX12_readLine_161 : decode cX12_readLine 161 = .ok (.aload_n 0, 1) := by decide +kernel
theorem dX12_readLine_162 : decode cX12_readLine 162 = .ok (.iconst 1, 1) := by decide +kernel
theorem dX12_readLine_163 : decode cX12_readLine 163 = .ok (.putfield 338, 3) := by decide +kernel
theorem dX12_readLine_166 : decode cX12_readLine 166 = .ok (.aload_n 0, 1) := by decide +kernel
theorem dX12_readLine_167 : decode cX12_readLine 167 = .ok (.aload_n 0, 1) := by decide +kernel
theorem dX12_readLine_168 : decode cX12_readLine 168 = .ok (.ldc2_w 202, 3) := by decide +kernel
theorem dX12_readLine_171 : decode cX12_readLine 171 = .ok (.iconst 0, 1) := by decide +kernel
theorem dX12_readLine_172 : decode cX12_readLine 172 = .ok (.sipush 999, 3) := by decide +kernel
theorem dX12_readLine_175 : decode cX12_readLine 175 = .ok (.invokevirtual 242, 3) := by decide +kernel
theorem dX12_readLine_178 : decode cX12_readLine 178 = .ok (.putfield 341, 3) := by decide +kernel
theorem dX12_readLine_181 : decode cX12_readLine 181 = .ok (.goto 8, 3) := by decide +kernel
theorem dX12_readLine_184 : decode cX12_readLine 184 = .ok (.aload_n 0, 1) := by decide +kernel
theorem dX12_readLine_185 : decode cX12_readLine 185 = .ok (.iconst 2, 1) := by decide +kernel
theorem dX12_readLine_186 : decode cX12_readLine 186 = .ok (.invokevirtual 228, 3) := by decide +kernel
theorem dX12_readLine_189 : decode cX12_readLine 189 = .ok (.aload_n 0, 1) := by decide +kernel
theorem dX12_readLine_190 : decode cX12_readLine 190 = .ok (.getfield 179, 3) := by decide +kernel
theorem dX12_readLine_193 : decode cX12_readLine 193 = .ok (.ifCond .ne 17, 3) := by decide +kernel
theorem dX12_readLine_196 : decode cX12_readLine 196 = .ok (.aload_n 0, 1) := by decide +kernel
theorem dX12_readLine_197 : decode cX12_readLine 197 = .ok (.getfield 166, 3) := by decide +kernel
theorem dX12_readLine_200 : decode cX12_readLine 200 = .ok (.bipush 59, 2) := by decide +kernel
theorem dX12_readLine_202 : decode cX12_readLine 202 = .ok (.if_icmp .eq 8, 3) := by decide +kernel
theorem dX12_readLine_205 : decode cX12_readLine 205 = .ok (.aload_n 0, 1) := by decide +kernel
theorem dX12_readLine_206 : decode cX12_readLine 206 = .ok (.iconst 2, 1) := by decide +kernel
theorem dX12_readLine_207 : decode cX12_readLine 207 = .ok (.invokevirtual 228, 3) := by decide +kernel
theorem dX12_readLine_210 : decode cX12_readLine 210 = .ok (.aload_n 0, 1) := by decide +kernel
theorem dX12_readLine_211 : decode cX12_readLine 211 = .ok (.getfield 179, 3) := by decide +kernel
theorem dX12_readLine_214 : decode cX12_readLine 214 = .ok (.ifCond .ne 7, 3) := by decide +kernel
theorem dX12_readLine_217 : decode cX12_readLine 217 = .ok (.aload_n 0, 1) := by decide +kernel
theorem dX12_readLine_218 : decode cX12_readLine 218 = .ok (.invokevirtual 231, 3) := by decide +kernel
theorem dX12_readLine_221 : decode cX12_readLine 221 = .ok (.return_, 1) := by decide +kernel
theorem dX12_readAll_0 : decode cX12_readAll 0 = .ok (.aload_n 0, 1) := by decide +kernel
theorem dX12_readAll_1 : decode cX12_readAll 1 = .ok (.aload_n 0, 1) := by decide +kernel
theorem dX12_readAll_2 : decode cX12_readAll 2 = .ok (.getfield 139, 3) := by decide +kernel
theorem dX12_readAll_5 : decode cX12_readAll 5 = .ok (.putfield 149, 3) := by decide +kernel
theorem dX12_readAll_8 : decode cX12_readAll 8 = .ok (.aload_n 0, 1) := by decide +kernel
theorem dX12_readAll_9 : decode cX12_readAll 9 = .ok (.iconst 0, 1) := by decide +kernel
theorem dX12_readAll_10 : decode cX12_readAll 10 = .ok (.putfield 139, 3) := by decide +kernel
theorem dX12_readAll_13 : decode cX12_readAll 13 = .ok (.aload_n 0, 1) := by decide +kernel
theorem dX12_readAll_14 : decode cX12_readAll 14 = .ok (.iconst 0, 1) := by decide +kernel
theorem dX12_readAll_15 : decode cX12_readAll 15 = .ok (.putfield 146, 3) := by decide +kernel
theorem dX12_readAll_18 : decode cX12_readAll 18 = .ok (.aload_n 0, 1) := by decide +kernel
theorem dX12_readAll_19 : decode cX12_readAll 19 = .ok (.iconst 0, 1) := by decide +kernel
theorem dX12_readAll_20 : decode cX12_readAll 20 = .ok (.putfield 179, 3) := by decide +kernel
theorem dX12_readAll_23 : decode cX12_readAll 23 = .ok (.aload_n 0, 1) := by decide +kernel
theorem dX12_readAll_24 : decode cX12_readAll 24 = .ok (.iconst (-1), 1) := by decide +kernel
theorem dX12_readAll_25 : decode cX12_readAll 25 = .ok (.putfield 13, 3) := by decide +kernel
theorem dX12_readAll_28 : decode cX12_readAll 28 = .ok (.aload_n 0, 1) := by decide +kernel
theorem dX12_readAll_29 : decode cX12_readAll 29 = .ok (.iconst 0, 1) := by decide +kernel
theorem dX12_readAll_30 : decode cX12_readAll 30 = .ok (.putfield 310, 3) := by decide +kernel
theorem dX12_readAll_33 : decode cX12_readAll 33 = .ok (.aload_n 0, 1) := by decide +kernel
theorem dX12_readAll_34 : decode cX12_readAll 34 = .ok (.iconst 0, 1) := by decide +kernel
theorem dX12_readAll_35 : decode cX12_readAll 35 = .ok (.putfield 316, 3) := by decide +kernel
theorem dX12_readAll_38 : decode cX12_readAll 38 = .ok (.aload_n 0, 1) := by decide +kernel
theorem dX12_readAll_39 : decode cX12_readAll 39 = .ok (.iconst 1, 1) := by decide +kernel
theorem dX12_readAll_40 : decode cX12_readAll 40 = .ok (.putfield 335, 3) := by decide +kernel
theorem dX12_readAll_43 : decode cX12_readAll 43 = .ok (.aload_n 0, 1) := by decide +kernel
theorem dX12_readAll_44 : decode cX12_readAll 44 = .ok (.iconst 0, 1) := by decide +kernel
theorem dX12_readAll_45 : decode cX12_readAll 45 = .ok (.putfield 341, 3) := by decide +kernel
theorem dX12_readAll_48 : decode cX12_readAll 48 = .ok (.aload_n 0, 1) := by decide +kernel
theorem dX12_readAll_49 : decode cX12_readAll 49 = .ok (.iconst 0, 1) := by decide +kernel
theorem dX12_readAll_50 : decode cX12_readAll 50 = .ok (.putfield 331, 3) := by decide +kernel
theorem dX12_readAll_53 : decode cX12_readAll 53 = .ok (.aload_n 0, 1) := by decide +kernel
theorem dX12_readAll_54 : decode cX12_readAll 54 = .ok (.iconst 0, 1) := by decide +kernel
theorem dX12_readAll_55 : decode cX12_readAll 55 = .ok (.putfield 338, 3) := by decide +kernel
theorem dX12_readAll_58 : decode cX12_readAll 58 = .ok (.aload_n 0, 1) := by decide +kernel
theorem dX12_readAll_59 : decode cX12_readAll 59 = .ok (.getfield 45, 3) := by decide +kernel
theorem dX12_readAll_62 : decode cX12_readAll 62 = .ok (.iconst 0, 1) := by decide +kernel
theorem dX12_readAll_63 : decode cX12_readAll 63 = .ok (.iconst 0, 1) := by decide +kernel
theorem dX12_readAll_64 : decode cX12_readAll 64 = .ok (.bastore, 1) := by decide +kernel
theorem dX12_readAll_65 : decode cX12_readAll 65 = .ok (.aload_n 0, 1) := by decide +kernel
theorem dX12_readAll_66 : decode cX12_readAll 66 = .ok (.getfield 45, 3) := by decide +kernel
theorem dX12_readAll_69 : decode cX12_readAll 69 = .ok (.iconst 1, 1) := by decide +kernel
theorem dX12_readAll_70 : decode cX12_readAll 70 = .ok (.iconst 0, 1) := by decide +kernel
theorem dX12_readAll_71 : decode cX12_readAll 71 = .ok (.bastore, 1) := by decide +kernel
theorem dX12_readAll_72 : decode cX12_readAll 72 = .ok (.aload_n 0, 1) := by decide +kernel
theorem dX12_readAll_73 : decode cX12_readAll 73 = .ok (.iconst 0, 1) := by decide +kernel
theorem dX12_readAll_74 : decode cX12_readAll 74 = .ok (.putfield 265, 3) := by decide +kernel
theorem dX12_readAll_77 : decode cX12_readAll 77 = .ok (.aload_n 0, 1) := by decide +kernel
theorem dX12_readAll_78 : decode cX12_readAll 78 = .ok (.invokevirtual 231, 3) := by decide +kernel
theorem dX12_readAll_81 : decode cX12_readAll 81 = .ok (.aload_n 0, 1) := by decide +kernel
theorem dX12_readAll_82 : decode cX12_readAll 82 = .ok (.getfield 179, 3) := by decide +kernel
theorem dX12_readAll_85 : decode cX12_readAll 85 = .ok (.ifCond .ne 17, 3) := by decide +kernel
theorem dX12_readAll_88 : decode cX12_readAll 88 = .ok (.aload_n 0, 1) := by decide +kernel
theorem dX12_readAll_89 : decode cX12_readAll 89 = .ok (.getfield 166, 3) := by decide +kernel
theorem dX12_readAll_92 : decode cX12_readAll 92 = .ok (.ifCond .eq 10, 3) := by decide +kernel
theorem dX12_readAll_95 : decode cX12_readAll 95 = .ok (.aload_n 0, 1) := by decide +kernel
theorem dX12_readAll_96 : decode cX12_readAll 96 = .ok (.invokevirtual 344, 3) := by decide +kernel
theorem dX12_readAll_99 : decode cX12_readAll 99 = .ok (.goto (-18), 3) := by decide +kernel
theorem dX12_readAll_102 : decode cX12_readAll 102 = .ok (.return_, 1) := by decide +kernel
theorem dX12_cake_0 : decode cX12_cake 0 = .ok (.aload_n 0, 1) := by decide +kernel
theorem dX12_cake_1 : decode cX12_cake 1 = .ok (.invokevirtual 347, 3) := by decide +kernel
theorem dX12_cake_4 : decode cX12_cake 4 = .ok (.aload_n 0, 1) := by decide +kernel
theorem dX12_cake_5 : decode cX12_cake 5 = .ok (.getfield 179, 3) := by decide +kernel
theorem dX12_cake_8 : decode cX12_cake 8 = .ok (.ifCond .le 5, 3) := by decide +kernel
theorem dX12_cake_11 : decode cX12_cake 11 = .ok (.iconst (-1), 1) := by decide +kernel
theorem dX12_cake_12 : decode cX12_cake 12 = .ok (.ireturn, 1) := by decide +kernel
theorem dX12_cake_13 : decode cX12_cake 13 = .ok (.aload_n 0, 1) := by decide +kernel
theorem dX12_cake_14 : decode cX12_cake 14 = .ok (.aload_n 0, 1) := by decide +kernel
theorem dX12_cake_15 : decode cX12_cake 15 = .ok (.getfield 310, 3) := by decide +kernel
theorem dX12_cake_18 : decode cX12_cake 18 = .ok (.putfield 350, 3) := by decide +kernel
theorem dX12_cake_21 : decode cX12_cake 21 = .ok (.aload_n 0, 1) := by decide +kernel
theorem dX12_cake_22 : decode cX12_cake 22 = .ok (.aload_n 0, 1) := by decide +kernel
theorem dX12_cake_23 : decode cX12_cake 23 = .ok (.getfield 316, 3) := by decide +kernel
theorem dX12_cake_26 : decode cX12_cake 26 = .ok (.putfield 353, 3) := by decide +kernel
theorem dX12_cake_29 : decode cX12_cake 29 = .ok (.aload_n 0, 1) := by decide +kernel
theorem dX12_cake_30 : decode cX12_cake 30 = .ok (.aload_n 0, 1) := by decide +kernel
theorem dX12_cake_31 : decode cX12_cake 31 = .ok (.getfield 335, 3) := by decide +kernel
theorem dX12_cake_34 : decode cX12_cake 34 = .ok (.putfield 88, 3) := by decide +kernel
theorem dX12_cake_37 : decode cX12_cake 37 = .ok (.aload_n 0, 1) := by decide +kernel
theorem dX12_cake_38 : decode cX12_cake 38 = .ok (.aload_n 0, 1) := by decide +kernel
theorem dX12_cake_39 : decode cX12_cake 39 = .ok (.getfield 265, 3) := by decide +kernel
theorem dX12_cake_42 : decode cX12_cake 42 = .ok (.putfield 356, 3) := by decide +kernel
theorem dX12_cake_45 : decode cX12_cake 45 = .ok (.iconst 0, 1) := by decide +kernel
theorem dX12_cake_46 : decode cX12_cake 46 = .ok (.istore_n 1, 1) := by decide +kernel
theorem dX12_cake_47 : decode cX12_cake 47 = .ok (.iload_n 1, 1) := by decide +kernel
theorem dX12_cake_48 : decode cX12_cake 48 = .ok (.iconst 2, 1) := by decide +kernel
theorem dX12_cake_49 : decode cX12_cake 49 = .ok (.if_icmp .ge 86, 3) := by decide +kernel
theorem dX12_cake_52 : decode cX12_cake 52 = .ok (.aload_n 0, 1) := by decide +kernel
theorem dX12_cake_53 : decode cX12_cake 53 = .ok (.getfield 36, 3) := by decide +kernel
theorem dX12_cake_56 : decode cX12_cake 56 = .ok (.iload_n 1, 1) := by decide +kernel
theorem dX12_cake_57 : decode cX12_cake 57 = .ok (.aload_n 0, 1) := by decide +kernel
theorem dX12_cake_58 : decode cX12_cake 58 = .ok (.getfield 45, 3) := by decide +kernel
theorem dX12_cake_61 : decode cX12_cake 61 = .ok (.iload_n 1, 1) := by decide +kernel
theorem dX12_cake_62 : decode cX12_cake 62 = .ok (.baload, 1) := by decide +kernel
theorem dX12_cake_63 : decode cX12_cake 63 = .ok (.ifCond .eq 12, 3) := by decide +kernel
theorem dX12_cake_66 : decode cX12_cake 66 = .ok (.aload_n 0, 1) := by decide +kernel
theorem dX12_cake_67 : decode cX12_cake 67 = .ok (.getfield 27, 3) := by decide +kernel
theorem dX12_cake_70 : decode cX12_cake 70 = .ok (.iload_n 1, 1) := by decide +kernel
theorem dX12_cake_71 : decode cX12_cake 71 = .ok (.iaload, 1) := by decide +kernel
theorem dX12_cake_72 : decode cX12_cake 72 = .ok (.goto 4, 3) := by decide +kernel
theorem dX12_cake_75 : decode cX12_cake 75 = .ok (.iconst 0, 1) := by decide +kernel
theorem dX12_cake_76 : decode cX12_cake 76 = .ok (.iastore, 1) := by decide +kernel
theorem dX12_cake_77 : decode cX12_cake 77 = .ok (.sipush 320, 3) := by decide +kernel
theorem dX12_cake_80 : decode cX12_cake 80 = .ok (.iload_n 1, 1) := by decide +kernel
theorem dX12_cake_81 : decode cX12_cake 81 = .ok (.imul, 1) := by decide +kernel
theorem dX12_cake_82 : decode cX12_cake 82 = .ok (.istore_n 2, 1) := by decide +kernel
theorem dX12_cake_83 : decode cX12_cake 83 = .ok (.iload_n 2, 1) := by decide +kernel
theorem dX12_cake_84 : decode cX12_cake 84 = .ok (.sipush 320, 3) := by decide +kernel
theorem dX12_cake_87 : decode cX12_cake 87 = .ok (.iload_n 1, 1) := by decide +kernel
theorem dX12_cake_88 : decode cX12_cake 88 = .ok (.imul, 1) := by decide +kernel
theorem dX12_cake_89 : decode cX12_cake 89 = .ok (.aload_n 0, 1) := by decide +kernel
theorem dX12_cake_90 : decode cX12_cake 90 = .ok (.getfield 36, 3) := by decide +kernel
theorem dX12_cake_93 : decode cX12_cake 93 = .ok (.iload_n 1, 1) := by decide +kernel
theorem dX12_cake_94 : decode cX12_cake 94 = .ok (.iaload, 1) := by decide +kernel
theorem dX12_cake_95 : decode cX12_cake 95 = .ok (.iadd, 1) := by decide +kernel
theorem dX12_cake_96 : decode cX12_cake 96 = .ok (.if_icmp .ge 33, 3) := by decide +kernel
theorem dX12_cake_99 : decode cX12_cake 99 = .ok (.aload_n 0, 1) := by decide +kernel
theorem dX12_cake_100 : decode cX12_cake 100 = .ok (.getfield 30, 3) := by decide +kernel
theorem dX12_cake_103 : decode cX12_cake 103 = .ok (.iload_n 2, 1) := by decide +kernel
theorem dX12_cake_104 : decode cX12_cake 104 = .ok (.aload_n 0, 1) := by decide +kernel
theorem dX12_cake_105 : decode cX12_cake 105 = .ok (.getfield 21, 3) := by decide +kernel
theorem dX12_cake_108 : decode cX12_cake 108 = .ok (.iload_n 2, 1) := by decide +kernel
theorem dX12_cake_109 : decode cX12_cake 109 = .ok (.iaload, 1) := by decide +kernel
theorem dX12_cake_110 : decode cX12_cake 110 = .ok (.iastore, 1) := by decide +kernel
theorem dX12_cake_111 : decode cX12_cake 111 = .ok (.aload_n 0, 1) := by decide +kernel
theorem dX12_cake_112 : decode cX12_cake 112 = .ok (.getfield 33, 3) := by decide +kernel
theorem dX12_cake_115 : decode cX12_cake 115 = .ok (.iload_n 2, 1) := by decide +kernel
theorem dX12_cake_116 : decode cX12_cake 116 = .ok (.aload_n 0, 1) := by decide +kernel
theorem dX12_cake_117 : decode cX12_cake 117 = .ok (.getfield 24, 3) := by decide +kernel
theorem dX12_cake_120 : decode cX12_cake 120 = .ok (.iload_n 2, 1) := by decide +kernel
theorem dX12_cake_121 : decode cX12_cake 121 = .ok (.iaload, 1) := by decide +kernel
theorem dX12_cake_122 : decode cX12_cake 122 = .ok (.iastore, 1) := by decide +kernel
theorem dX12_cake_123 : decode cX12_cake 123 = .ok (.iinc 2 1, 3) := by decide +kernel
theorem dX12_cake_126 : decode cX12_cake 126 = .ok (.goto (-43), 3) := by decide +kernel
theorem dX12_cake_129 : decode cX12_cake 129 = .ok (.iinc 1 1, 3) := by decide +kernel
theorem dX12_cake_132 : decode cX12_cake 132 = .ok (.goto (-85), 3) := by decide +kernel
theorem dX12_cake_135 : decode cX12_cake 135 = .ok (.iconst 0, 1) := by decide +kernel
theorem dX12_cake_136 : decode cX12_cake 136 = .ok (.istore_n 1, 1) := by decide +kernel
theorem dX12_cake_137 : decode cX12_cake 137 = .ok (.iload_n 1, 1) := by decide +kernel
theorem dX12_cake_138 : decode cX12_cake 138 = .ok (.sipush 171, 3) := by decide +kernel
theorem dX12_cake_141 : decode cX12_cake 141 = .ok (.if_icmp .ge 16, 3) := by decide +kernel
theorem dX12_cake_144 : decode cX12_cake 144 = .ok (.aload_n 0, 1) := by decide +kernel
theorem dX12_cake_145 : decode cX12_cake 145 = .ok (.getfield 91, 3) := by decide +kernel
theorem dX12_cake_148 : decode cX12_cake 148 = .ok (.iload_n 1, 1) := by decide +kernel
theorem dX12_cake_149 : decode cX12_cake 149 = .ok (.iconst 0, 1) := by decide +kernel
theorem dX12_cake_150 : decode cX12_cake 150 = .ok (.iastore, 1) := by decide +kernel
theorem dX12_cake_151 : decode cX12_cake 151 = .ok (.iinc 1 1, 3) := by decide +kernel
theorem dX12_cake_154 : decode cX12_cake 154 = .ok (.goto (-17), 3) := by decide +kernel
theorem dX12_cake_157 : decode cX12_cake 157 = .ok (.iconst 0, 1) := by decide +kernel
theorem dX12_cake_158 : decode cX12_cake 158 = .ok (.istore_n 1, 1) := by decide +kernel
theorem dX12_cake_159 : decode cX12_cake 159 = .ok (.iload_n 1, 1) := by decide +kernel
theorem dX12_cake_160 : decode cX12_cake 160 = .ok (.aload_n 0, 1) := by decide +kernel
theorem dX12_cake_161 : decode cX12_cake 161 = .ok (.getfield 350, 3) := by decide +kernel
theorem dX12_cake_164 : decode cX12_cake 164 = .ok (.if_icmp .ge 102, 3) := by decide +kernel
theorem dX12_cake_167 : decode cX12_cake 167 = .ok (.aload_n 0, 1) := by decide +kernel
theorem dX12_cake_168 : decode cX12_cake 168 = .ok (.getfield 61, 3) := by decide +kernel
theorem dX12_cake_171 : decode cX12_cake 171 = .ok (.iload_n 1, 1) := by decide +kernel
theorem dX12_cake_172 : decode cX12_cake 172 = .ok (.aload_n 0, 1) := by decide +kernel
theorem dX12_cake_173 : decode cX12_cake 173 = .ok (.getfield 52, 3) := by decide +kernel
theorem dX12_cake_176 : decode cX12_cake 176 = .ok (.iload_n 1, 1) := by decide +kernel
theorem dX12_cake_177 : decode cX12_cake 177 = .ok (.iaload, 1) := by decide +kernel
theorem dX12_cake_178 : decode cX12_cake 178 = .ok (.iastore, 1) := by decide +kernel
theorem dX12_cake_179 : decode cX12_cake 179 = .ok (.aload_n 0, 1) := by decide +kernel
theorem dX12_cake_180 : decode cX12_cake 180 = .ok (.getfield 64, 3) := by decide +kernel
theorem dX12_cake_183 : decode cX12_cake 183 = .ok (.iload_n 1, 1) := by decide +kernel
theorem dX12_cake_184 : decode cX12_cake 184 = .ok (.aload_n 0, 1) := by decide +kernel
theorem dX12_cake_185 : decode cX12_cake 185 = .ok (.getfield 55, 3) := by decide +kernel
theorem dX12_cake_188 : decode cX12_cake 188 = .ok (.iload_n 1, 1) := by decide +kernel
theorem dX12_cake_189 : decode cX12_cake 189 = .ok (.iaload, 1) := by decide +kernel
theorem dX12_cake_190 : decode cX12_cake 190 = .ok (.iastore, 1) := by decide +kernel
theorem dX12_cake_191 : decode cX12_cake 191 = .ok (.aload_n 0, 1) := by decide +kernel
theorem dX12_cake_192 : decode cX12_cake 192 = .ok (.getfield 67, 3) := by decide +kernel
theorem dX12_cake_195 : decode cX12_cake 195 = .ok (.iload_n 1, 1) := by decide +kernel
theorem dX12_cake_196 : decode cX12_cake 196 = .ok (.aload_n 0, 1) := by decide +kernel
theorem dX12_cake_197 : decode cX12_cake 197 = .ok (.getfield 58, 3) := by decide +kernel
theorem dX12_cake_200 : decode cX12_cake 200 = .ok (.iload_n 1, 1) := by decide +kernel
theorem dX12_cake_201 : decode cX12_cake 201 = .ok (.iaload, 1) := by decide +kernel
theorem dX12_cake_202 : decode cX12_cake 202 = .ok (.iastore, 1) := by decide +kernel
theorem dX12_cake_203 : decode cX12_cake 203 = .ok (.aload_n 0, 1) := by decide +kernel
theorem dX12_cake_204 : decode cX12_cake 204 = .ok (.getfield 91, 3) := by decide +kernel
theorem dX12_cake_207 : decode cX12_cake 207 = .ok (.bipush 7, 2) := by decide +kernel
theorem dX12_cake_209 : decode cX12_cake 209 = .ok (.iload_n 1, 1) := by decide +kernel
theorem dX12_cake_210 : decode cX12_cake 210 = .ok (.imul, 1) := by decide +kernel
theorem dX12_cake_211 : decode cX12_cake 211 = .ok (.iload_n 1, 1) := by decide +kernel
theorem dX12_cake_212 : decode cX12_cake 212 = .ok (.iastore, 1) := by decide +kernel
theorem dX12_cake_213 : decode cX12_cake 213 = .ok (.aload_n 0, 1) := by decide +kernel
theorem dX12_cake_214 : decode cX12_cake 214 = .ok (.getfield 91, 3) := by decide +kernel
theorem dX12_cake_217 : decode cX12_cake 217 = .ok (.bipush 7, 2) := by decide +kernel
theorem dX12_cake_219 : decode cX12_cake 219 = .ok (.iload_n 1, 1) := by decide +kernel
theorem dX12_cake_220 : decode cX12_cake 220 = .ok (.imul, 1) := by decide +kernel
theorem dX12_cake_221 : decode cX12_cake 221 = .ok (.iconst 3, 1) := by decide +kernel
theorem dX12_cake_222 : decode cX12_cake 222 = .ok (.iadd, 1) := by decide +kernel
theorem dX12_cake_223 : decode cX12_cake 223 = .ok (.aload_n 0, 1) := by decide +kernel
theorem dX12_cake_224 : decode cX12_cake 224 = .ok (.getfield 61, 3) := by decide +kernel
theorem dX12_cake_227 : decode cX12_cake 227 = .ok (.iload_n 1, 1) := by decide +kernel
theorem dX12_cake_228 : decode cX12_cake 228 = .ok (.iaload, 1) := by decide +kernel
theorem dX12_cake_229 : decode cX12_cake 229 = .ok (.iastore, 1) := by decide +kernel
theorem dX12_cake_230 : decode cX12_cake 230 = .ok (.aload_n 0, 1) := by decide +kernel
theorem dX12_cake_231 : decode cX12_cake 231 = .ok (.getfield 91, 3) := by decide +kernel
theorem dX12_cake_234 : decode cX12_cake 234 = .ok (.bipush 7, 2) := by decide +kernel
theorem dX12_cake_236 : decode cX12_cake 236 = .ok (.iload_n 1, 1) := by decide +kernel
theorem dX12_cake_237 : decode cX12_cake 237 = .ok (.imul, 1) := by decide +kernel
theorem dX12_cake_238 : decode cX12_cake 238 = .ok (.iconst 4, 1) := by decide +kernel
theorem dX12_cake_239 : decode cX12_cake 239 = .ok (.iadd, 1) := by decide +kernel
theorem dX12_cake_240 : decode cX12_cake 240 = .ok (.aload_n 0, 1) := by decide +kernel
theorem dX12_cake_241 : decode cX12_cake 241 = .ok (.getfield 64, 3) := by decide +kernel
theorem dX12_cake_244 : decode cX12_cake 244 = .ok (.iload_n 1, 1) := by decide +kernel
theorem dX12_cake_245 : decode cX12_cake 245 = .ok (.iaload, 1) := by decide +kernel
theorem dX12_cake_246 : decode cX12_cake 246 = .ok (.iastore, 1) := by decide +kernel
theorem dX12_cake_247 : decode cX12_cake 247 = .ok (.aload_n 0, 1) := by decide +kernel
theorem dX12_cake_248 : decode cX12_cake 248 = .ok (.getfield 91, 3) := by decide +kernel
theorem dX12_cake_251 : decode cX12_cake 251 = .ok (.bipush 7, 2) := by decide +kernel
theorem dX12_cake_253 : decode cX12_cake 253 = .ok (.iload_n 1, 1) := by decide +kernel
theorem dX12_cake_254 : decode cX12_cake 254 = .ok (.imul, 1) := by decide +kernel
theorem dX12_cake_255 : decode cX12_cake 255 = .ok (.bipush 6, 2) := by decide +kernel
theorem dX12_cake_257 : decode cX12_cake 257 = .ok (.iadd, 1) := by decide +kernel
theorem dX12_cake_258 : decode cX12_cake 258 = .ok (.iconst (-1), 1) := by decide +kernel
theorem dX12_cake_259 : decode cX12_cake 259 = .ok (.iastore, 1) := by decide +kernel
theorem dX12_cake_260 : decode cX12_cake 260 = .ok (.iinc 1 1, 3) := by decide +kernel
theorem dX12_cake_263 : decode cX12_cake 263 = .ok (.goto (-104), 3) := by decide +kernel
theorem dX12_cake_266 : decode cX12_cake 266 = .ok (.iconst 0, 1) := by decide +kernel
theorem dX12_cake_267 : decode cX12_cake 267 = .ok (.istore_n 1, 1) := by decide +kernel
theorem dX12_cake_268 : decode cX12_cake 268 = .ok (.iload_n 1, 1) := by decide +kernel
theorem dX12_cake_269 : decode cX12_cake 269 = .ok (.aload_n 0, 1) := by decide +kernel
theorem dX12_cake_270 : decode cX12_cake 270 = .ok (.getfield 353, 3) := by decide +kernel
theorem dX12_cake_273 : decode cX12_cake 273 = .ok (.if_icmp .ge 45, 3) := by decide +kernel
theorem dX12_cake_276 : decode cX12_cake 276 = .ok (.aload_n 0, 1) := by decide +kernel
theorem dX12_cake_277 : decode cX12_cake 277 = .ok (.getfield 79, 3) := by decide +kernel
theorem dX12_cake_280 : decode cX12_cake 280 = .ok (.iload_n 1, 1) := by decide +kernel
theorem dX12_cake_281 : decode cX12_cake 281 = .ok (.aload_n 0, 1) := by decide +kernel
theorem dX12_cake_282 : decode cX12_cake 282 = .ok (.getfield 70, 3) := by decide +kernel
theorem dX12_cake_285 : decode cX12_cake 285 = .ok (.iload_n 1, 1) := by decide +kernel
theorem dX12_cake_286 : decode cX12_cake 286 = .ok (.iaload, 1) := by decide +kernel
theorem dX12_cake_287 : decode cX12_cake 287 = .ok (.iastore, 1) := by decide +kernel
theorem dX12_cake_288 : decode cX12_cake 288 = .ok (.aload_n 0, 1) := by decide +kernel
theorem dX12_cake_289 : decode cX12_cake 289 = .ok (.getfield 82, 3) := by decide +kernel
theorem dX12_cake_292 : decode cX12_cake 292 = .ok (.iload_n 1, 1) := by decide +kernel
theorem dX12_cake_293 : decode cX12_cake 293 = .ok (.aload_n 0, 1) := by decide +kernel
theorem dX12_cake_294 : decode cX12_cake 294 = .ok (.getfield 73, 3) := by decide +kernel
theorem dX12_cake_297 : decode cX12_cake 297 = .ok (.iload_n 1, 1) := by decide +kernel
theorem dX12_cake_298 : decode cX12_cake 298 = .ok (.iaload, 1) := by decide +kernel
theorem dX12_cake_299 : decode cX12_cake 299 = .ok (.iastore, 1) := by decide +kernel
theorem dX12_cake_300 : decode cX12_cake 300 = .ok (.aload_n 0, 1) := by decide +kernel
theorem dX12_cake_301 : decode cX12_cake 301 = .ok (.getfield 85, 3) := by decide +kernel
theorem dX12_cake_304 : decode cX12_cake 304 = .ok (.iload_n 1, 1) := by decide +kernel
theorem dX12_cake_305 : decode cX12_cake 305 = .ok (.aload_n 0, 1) := by decide +kernel
theorem dX12_cake_306 : decode cX12_cake 306 = .ok (.getfield 76, 3) := by decide +kernel
theorem dX12_cake_309 : decode cX12_cake 309 = .ok (.iload_n 1, 1) := by decide +kernel
theorem dX12_cake_310 : decode cX12_cake 310 = .ok (.iaload, 1) := by decide +kernel
theorem dX12_cake_311 : decode cX12_cake 311 = .ok (.iastore, 1) := by decide +kernel
theorem dX12_cake_312 : decode cX12_cake 312 = .ok (.iinc 1 1, 3) := by decide +kernel
theorem dX12_cake_315 : decode cX12_cake 315 = .ok (.goto (-47), 3) := by decide +kernel
theorem dX12_cake_318 : decode cX12_cake 318 = .ok (.aload_n 0, 1) := by decide +kernel
theorem dX12_cake_319 : decode cX12_cake 319 = .ok (.getfield 91, 3) := by decide +kernel
theorem dX12_cake_322 : decode cX12_cake 322 = .ok (.sipush 168, 3) := by decide +kernel
theorem dX12_cake_325 : decode cX12_cake 325 = .ok (.aload_n 0, 1) := by decide +kernel
theorem dX12_cake_326 : decode cX12_cake 326 = .ok (.getfield 350, 3) := by decide +kernel
theorem dX12_cake_329 : decode cX12_cake 329 = .ok (.iastore, 1) := by decide +kernel
theorem dX12_cake_330 : decode cX12_cake 330 = .ok (.aload_n 0, 1) := by decide +kernel
theorem dX12_cake_331 : decode cX12_cake 331 = .ok (.getfield 91, 3) := by decide +kernel
theorem dX12_cake_334 : decode cX12_cake 334 = .ok (.sipush 170, 3) := by decide +kernel
theorem dX12_cake_337 : decode cX12_cake 337 = .ok (.aload_n 0, 1) := by decide +kernel
theorem dX12_cake_338 : decode cX12_cake 338 = .ok (.getfield 341, 3) := by decide +kernel
theorem dX12_cake_341 : decode cX12_cake 341 = .ok (.iastore, 1) := by decide +kernel
theorem dX12_cake_342 : decode cX12_cake 342 = .ok (.aload_n 0, 1) := by decide +kernel
theorem dX12_cake_343 : decode cX12_cake 343 = .ok (.iconst 0, 1) := by decide +kernel
theorem dX12_cake_344 : decode cX12_cake 344 = .ok (.putfield 359, 3) := by decide +kernel
theorem dX12_cake_347 : decode cX12_cake 347 = .ok (.aload_n 0, 1) := by decide +kernel
theorem dX12_cake_348 : decode cX12_cake 348 = .ok (.iconst 0, 1) := by decide +kernel
theorem dX12_cake_349 : decode cX12_cake 349 = .ok (.putfield 362, 3) := by decide +kernel
theorem dX12_cake_352 : decode cX12_cake 352 = .ok (.aload_n 0, 1) := by decide +kernel
theorem dX12_cake_353 : decode cX12_cake 353 = .ok (.iconst 0, 1) := by decide +kernel
theorem dX12_cake_354 : decode cX12_cake 354 = .ok (.putfield 365, 3) := by decide +kernel
theorem dX12_cake_357 : decode cX12_cake 357 = .ok (.aload_n 0, 1) := by decide +kernel
theorem dX12_cake_358 : decode cX12_cake 358 = .ok (.iconst 0, 1) := by decide +kernel
theorem dX12_cake_359 : decode cX12_cake 359 = .ok (.putfield 368, 3) := by decide +kernel
theorem dX12_cake_362 : decode cX12_cake 362 = .ok (.iconst 0, 1) := by decide +kernel
theorem dX12_cake_363 : decode cX12_cake 363 = .ok (.istore_n 1, 1) := by decide +kernel
theorem dX12_cake_364 : decode cX12_cake 364 = .ok (.iload_n 1, 1) := by decide +kernel
theorem dX12_cake_365 : decode cX12_cake 365 = .ok (.iconst 3, 1) := by decide +kernel
theorem dX12_cake_366 : decode cX12_cake 366 = .ok (.if_icmp .ge 16, 3) := by decide +kernel
theorem dX12_cake_369 : decode cX12_cake 369 = .ok (.aload_n 0, 1) := by decide +kernel
theorem dX12_cake_370 : decode cX12_cake 370 = .ok (.getfield 133, 3) := by decide +kernel
theorem dX12_cake_373 : decode cX12_cake 373 = .ok (.iload_n 1, 1) := by decide +kernel
theorem dX12_cake_374 : decode cX12_cake 374 = .ok (.iconst 0, 1) := by decide +kernel
theorem dX12_cake_375 : decode cX12_cake 375 = .ok (.bastore, 1) := by decide +kernel
theorem dX12_cake_376 : decode cX12_cake 376 = .ok (.iinc 1 1, 3) := by decide +kernel
theorem dX12_cake_379 : decode cX12_cake 379 = .ok (.goto (-15), 3) := by decide +kernel
theorem dX12_cake_382 : decode cX12_cake 382 = .ok (.aload_n 0, 1) := by decide +kernel
theorem dX12_cake_383 : decode cX12_cake 383 = .ok (.getfield 350, 3) := by decide +kernel
theorem dX12_cake_386 : decode cX12_cake 386 = .ok (.ireturn, 1) := by decide +kernel
theorem dX12_fault_0 : decode cX12_fault 0 = .ok (.iload_n 1, 1) := by decide +kernel
theorem dX12_fault_1 : decode cX12_fault 1 = .ok (.ifCond .ne 10, 3) := by decide +kernel
theorem dX12_fault_4 : decode cX12_fault 4 = .ok (.aload_n 0, 1) := by decide +kernel
theorem dX12_fault_5 : decode cX12_fault 5 = .ok (.getfield 179, 3) := by decide +kernel
theorem dX12_fault_8 : decode cX12_fault 8 = .ok (.goto 16, 3) := by decide +kernel
theorem dX12_fault_11 : decode cX12_fault 11 = .ok (.iload_n 1, 1) := by decide +kernel
theorem dX12_fault_12 : decode cX12_fault 12 = .ok (.iconst 1, 1) := by decide +kernel
theorem dX12_fault_13 : decode cX12_fault 13 = .ok (.if_icmp .ne 10, 3) := by decide +kernel
theorem dX12_fault_16 : decode cX12_fault 16 = .ok (.aload_n 0, 1) := by decide +kernel
theorem dX12_fault_17 : decode cX12_fault 17 = .ok (.getfield 13, 3) := by decide +kernel
theorem dX12_fault_20 : decode cX12_fault 20 = .ok (.goto 4, 3) := by decide +kernel
theorem dX12_fault_23 : decode cX12_fault 23 = .ok (.iconst (-1), 1) := by decide +kernel
theorem dX12_fault_24 : decode cX12_fault 24 = .ok (.ireturn, 1) := by decide +kernel
theorem dX12_isIn_0 : decode cX12_isIn 0 = .ok (.iload_n 0, 1) := by decide +kernel
theorem dX12_isIn_1 : decode cX12_isIn 1 = .ok (.iload_n 1, 1) := by decide +kernel
theorem dX12_isIn_2 : decode cX12_isIn 2 = .ok (.if_icmp .lt 12, 3) := by decide +kernel
theorem dX12_isIn_5 : decode cX12_isIn 5 = .ok (.iload_n 0, 1) := by decide +kernel
theorem dX12_isIn_6 : decode cX12_isIn 6 = .ok (.iload_n 2, 1) := by decide +kernel
theorem dX12_isIn_7 : decode cX12_isIn 7 = .ok (.if_icmp .gt 7, 3) := by decide +kernel
theorem dX12_isIn_10 : decode cX12_isIn 10 = .ok (.iconst 1, 1) := by decide +kernel
theorem dX12_isIn_11 : decode cX12_isIn 11 = .ok (.goto 4, 3) := by decide +kernel
theorem dX12_isIn_14 : decode cX12_isIn 14 = .ok (.iconst 0, 1) := by decide +kernel
theorem dX12_isIn_15 : decode cX12_isIn 15 = .ok (.ireturn, 1) := by decide +kernel
theorem dX12_isTier_0 : decode cX12_isTier 0 = .ok (.iload_n 1, 1) := by decide +kernel
theorem dX12_isTier_1 : decode cX12_isTier 1 = .ok (.iconst 0, 1) := by decide +kernel
theorem dX12_isTier_2 : decode cX12_isTier 2 = .ok (.aload_n 0, 1) := by decide +kernel
theorem dX12_isTier_3 : decode cX12_isTier 3 = .ok (.getfield 350, 3) := by decide +kernel
theorem dX12_isTier_6 : decode cX12_isTier 6 = .ok (.iconst 1, 1) := by decide +kernel
theorem dX12_isTier_7 : decode cX12_isTier 7 = .ok (.isub, 1) := by decide +kernel
theorem dX12_isTier_8 : decode cX12_isTier 8 = .ok (.invokestatic 371, 3) := by decide +kernel
theorem dX12_isTier_11 : decode cX12_isTier 11 = .ok (.ireturn, 1) := by decide +kernel
theorem dX12_isGuest_0 : decode cX12_isGuest 0 = .ok (.iload_n 1, 1) := by decide +kernel
theorem dX12_isGuest_1 : decode cX12_isGuest 1 = .ok (.iconst 0, 1) := by decide +kernel
theorem dX12_isGuest_2 : decode cX12_isGuest 2 = .ok (.aload_n 0, 1) := by decide +kernel
theorem dX12_isGuest_3 : decode cX12_isGuest 3 = .ok (.getfield 353, 3) := by decide +kernel
theorem dX12_isGuest_6 : decode cX12_isGuest 6 = .ok (.iconst 1, 1) := by decide +kernel
theorem dX12_isGuest_7 : decode cX12_isGuest 7 = .ok (.isub, 1) := by decide +kernel
theorem dX12_isGuest_8 : decode cX12_isGuest 8 = .ok (.invokestatic 371, 3) := by decide +kernel
theorem dX12_isGuest_11 : decode cX12_isGuest 11 = .ok (.ireturn, 1) := by decide +kernel
theorem dX12_isPiece_0 : decode cX12_isPiece 0 = .ok (.iload_n 1, 1) := by decide +kernel
theorem dX12_isPiece_1 : decode cX12_isPiece 1 = .ok (.iconst 0, 1) := by decide +kernel
theorem dX12_isPiece_2 : decode cX12_isPiece 2 = .ok (.aload_n 0, 1) := by decide +kernel
theorem dX12_isPiece_3 : decode cX12_isPiece 3 = .ok (.getfield 91, 3) := by decide +kernel
theorem dX12_isPiece_6 : decode cX12_isPiece 6 = .ok (.sipush 168, 3) := by decide +kernel
theorem dX12_isPiece_9 : decode cX12_isPiece 9 = .ok (.iaload, 1) := by decide +kernel
theorem dX12_isPiece_10 : decode cX12_isPiece 10 = .ok (.iconst 1, 1) := by decide +kernel
theorem dX12_isPiece_11 : decode cX12_isPiece 11 = .ok (.isub, 1) := by decide +kernel
theorem dX12_isPiece_12 : decode cX12_isPiece 12 = .ok (.invokestatic 371, 3) := by decide +kernel
theorem dX12_isPiece_15 : decode cX12_isPiece 15 = .ok (.ireturn, 1) := by decide +kernel
theorem dX12_load_0 : decode cX12_load 0 = .ok (.iconst 0, 1) := by decide +kernel
theorem dX12_load_1 : decode cX12_load 1 = .ok (.istore_n 1, 1) := by decide +kernel
theorem dX12_load_2 : decode cX12_load 2 = .ok (.iload_n 1, 1) := by decide +kernel
theorem dX12_load_3 : decode cX12_load 3 = .ok (.sipush 171, 3) := by decide +kernel
theorem dX12_load_6 : decode cX12_load 6 = .ok (.if_icmp .ge 21, 3) := by decide +kernel
theorem dX12_load_9 : decode cX12_load 9 = .ok (.aload_n 0, 1) := by decide +kernel
theorem dX12_load_10 : decode cX12_load 10 = .ok (.getfield 94, 3) := by decide +kernel
theorem dX12_load_13 : decode cX12_load 13 = .ok (.iload_n 1, 1) := by decide +kernel
theorem dX12_load_14 : decode cX12_load 14 = .ok (.aload_n 0, 1) := by decide +kernel
theorem dX12_load_15 : decode cX12_load 15 = .ok (.getfield 91, 3) := by decide +kernel
theorem dX12_load_18 : decode cX12_load 18 = .ok (.iload_n 1, 1) := by decide +kernel
theorem dX12_load_19 : decode cX12_load 19 = .ok (.iaload, 1) := by decide +kernel
theorem dX12_load_20 : decode cX12_load 20 = .ok (.iastore, 1) := by decide +kernel
theorem dX12_load_21 : decode cX12_load 21 = .ok (.iinc 1 1, 3) := by decide +kernel
theorem dX12_load_24 : decode cX12_load 24 = .ok (.goto (-22), 3) := by decide +kernel
theorem dX12_load_27 : decode cX12_load 27 = .ok (.return_, 1) := by decide +kernel
theorem dX12_areaOf_0 : decode cX12_areaOf 0 = .ok (.aload_n 0, 1) := by decide +kernel
theorem dX12_areaOf_1 : decode cX12_areaOf 1 = .ok (.getfield 94, 3) := by decide +kernel
theorem dX12_areaOf_4 : decode cX12_areaOf 4 = .ok (.bipush 7, 2) := by decide +kernel
theorem dX12_areaOf_6 : decode cX12_areaOf 6 = .ok (.iload_n 1, 1) := by decide +kernel
theorem dX12_areaOf_7 : decode cX12_areaOf 7 = .ok (.imul, 1) := by decide +kernel
theorem dX12_areaOf_8 : decode cX12_areaOf 8 = .ok (.iconst 3, 1) := by decide +kernel
theorem dX12_areaOf_9 : decode cX12_areaOf 9 = .ok (.iadd, 1) := by decide +kernel
theorem dX12_areaOf_10 : decode cX12_areaOf 10 = .ok (.iaload, 1) := by decide +kernel
theorem dX12_areaOf_11 : decode cX12_areaOf 11 = .ok (.aload_n 0, 1) := by decide +kernel
theorem dX12_areaOf_12 : decode cX12_areaOf 12 = .ok (.getfield 94, 3) := by decide +kernel
theorem dX12_areaOf_15 : decode cX12_areaOf 15 = .ok (.bipush 7, 2) := by decide +kernel
theorem dX12_areaOf_17 : decode cX12_areaOf 17 = .ok (.iload_n 1, 1) := by decide +kernel
theorem dX12_areaOf_18 : decode cX12_areaOf 18 = .ok (.imul, 1) := by decide +kernel
theorem dX12_areaOf_19 : decode cX12_areaOf 19 = .ok (.iconst 4, 1) := by decide +kernel
theorem dX12_areaOf_20 : decode cX12_areaOf 20 = .ok (.iadd, 1) := by decide +kernel
theorem dX12_areaOf_21 : decode cX12_areaOf 21 = .ok (.iaload, 1) := by decide +kernel
theorem dX12_areaOf_22 : decode cX12_areaOf 22 = .ok (.imul, 1) := by decide +kernel
theorem dX12_areaOf_23 : decode cX12_areaOf 23 = .ok (.aload_n 0, 1) := by decide +kernel
theorem dX12_areaOf_24 : decode cX12_areaOf 24 = .ok (.getfield 67, 3) := by decide +kernel
theorem dX12_areaOf_27 : decode cX12_areaOf 27 = .ok (.aload_n 0, 1) := by decide +kernel
theorem dX12_areaOf_28 : decode cX12_areaOf 28 = .ok (.getfield 94, 3) := by decide +kernel
theorem dX12_areaOf_31 : decode cX12_areaOf 31 = .ok (.bipush 7, 2) := by decide +kernel
theorem dX12_areaOf_33 : decode cX12_areaOf 33 = .ok (.iload_n 1, 1) := by decide +kernel
theorem dX12_areaOf_34 : decode cX12_areaOf 34 = .ok (.imul, 1) := by decide +kernel
theorem dX12_areaOf_35 : decode cX12_areaOf 35 = .ok (.iaload, 1) := by decide +kernel
theorem dX12_areaOf_36 : decode cX12_areaOf 36 = .ok (.iaload, 1) := by decide +kernel
theorem dX12_areaOf_37 : decode cX12_areaOf 37 = .ok (.imul, 1) := by decide +kernel
theorem dX12_areaOf_38 : decode cX12_areaOf 38 = .ok (.ireturn, 1) := by decide +kernel
theorem dX12_icingOf_0 : decode cX12_icingOf 0 = .ok (.aload_n 0, 1) := by decide +kernel
theorem dX12_icingOf_1 : decode cX12_icingOf 1 = .ok (.getfield 94, 3) := by decide +kernel
theorem dX12_icingOf_4 : decode cX12_icingOf 4 = .ok (.bipush 7, 2) := by decide +kernel
theorem dX12_icingOf_6 : decode cX12_icingOf 6 = .ok (.iload_n 1, 1) := by decide +kernel
theorem dX12_icingOf_7 : decode cX12_icingOf 7 = .ok (.imul, 1) := by decide +kernel
theorem dX12_icingOf_8 : decode cX12_icingOf 8 = .ok (.iaload, 1) := by decide +kernel
theorem dX12_icingOf_9 : decode cX12_icingOf 9 = .ok (.istore_n 2, 1) := by decide +kernel
theorem dX12_icingOf_10 : decode cX12_icingOf 10 = .ok (.aload_n 0, 1) := by decide +kernel
theorem dX12_icingOf_11 : decode cX12_icingOf 11 = .ok (.getfield 94, 3) := by decide +kernel
theorem dX12_icingOf_14 : decode cX12_icingOf 14 = .ok (.bipush 7, 2) := by decide +kernel
theorem dX12_icingOf_16 : decode cX12_icingOf 16 = .ok (.iload_n 1, 1) := by decide +kernel
theorem dX12_icingOf_17 : decode cX12_icingOf 17 = .ok (.imul, 1) := by decide +kernel
theorem dX12_icingOf_18 : decode cX12_icingOf 18 = .ok (.iconst 1, 1) := by decide +kernel
theorem dX12_icingOf_19 : decode cX12_icingOf 19 = .ok (.iadd, 1) := by decide +kernel
theorem dX12_icingOf_20 : decode cX12_icingOf 20 = .ok (.iaload, 1) := by decide +kernel
theorem dX12_icingOf_21 : decode cX12_icingOf 21 = .ok (.istore_n 3, 1) := by decide +kernel
theorem dX12_icingOf_22 : decode cX12_icingOf 22 = .ok (.aload_n 0, 1) := by decide +kernel
theorem dX12_icingOf_23 : decode cX12_icingOf 23 = .ok (.getfield 94, 3) := by decide +kernel
theorem dX12_icingOf_26 : decode cX12_icingOf 26 = .ok (.bipush 7, 2) := by decide +kernel
theorem dX12_icingOf_28 : decode cX12_icingOf 28 = .ok (.iload_n 1, 1) := by decide +kernel
theorem dX12_icingOf_29 : decode cX12_icingOf 29 = .ok (.imul, 1) := by decide +kernel
theorem dX12_icingOf_30 : decode cX12_icingOf 30 = .ok (.iconst 2, 1) := by decide +kernel
theorem dX12_icingOf_31 : decode cX12_icingOf 31 = .ok (.iadd, 1) := by decide +kernel
theorem dX12_icingOf_32 : decode cX12_icingOf 32 = .ok (.iaload, 1) := by decide +kernel
theorem dX12_icingOf_33 : decode cX12_icingOf 33 = .ok (.istore 4, 2) := by decide +kernel
theorem dX12_icingOf_35 : decode cX12_icingOf 35 = .ok (.aload_n 0, 1) := by decide +kernel
theorem dX12_icingOf_36 : decode cX12_icingOf 36 = .ok (.getfield 94, 3) := by decide +kernel
theorem dX12_icingOf_39 : decode cX12_icingOf 39 = .ok (.bipush 7, 2) := by decide +kernel
theorem dX12_icingOf_41 : decode cX12_icingOf 41 = .ok (.iload_n 1, 1) := by decide +kernel
theorem dX12_icingOf_42 : decode cX12_icingOf 42 = .ok (.imul, 1) := by decide +kernel
theorem dX12_icingOf_43 : decode cX12_icingOf 43 = .ok (.iconst 3, 1) := by decide +kernel
theorem dX12_icingOf_44 : decode cX12_icingOf 44 = .ok (.iadd, 1) := by decide +kernel
theorem dX12_icingOf_45 : decode cX12_icingOf 45 = .ok (.iaload, 1) := by decide +kernel
theorem dX12_icingOf_46 : decode cX12_icingOf 46 = .ok (.istore 5, 2) := by decide +kernel
theorem dX12_icingOf_48 : decode cX12_icingOf 48 = .ok (.aload_n 0, 1) := by decide +kernel
theorem dX12_icingOf_49 : decode cX12_icingOf 49 = .ok (.getfield 94, 3) := by decide +kernel
theorem dX12_icingOf_52 : decode cX12_icingOf 52 = .ok (.bipush 7, 2) := by decide +kernel
theorem dX12_icingOf_54 : decode cX12_icingOf 54 = .ok (.iload_n 1, 1) := by decide +kernel
theorem dX12_icingOf_55 : decode cX12_icingOf 55 = .ok (.imul, 1) := by decide +kernel
theorem dX12_icingOf_56 : decode cX12_icingOf 56 = .ok (.iconst 4, 1) := by decide +kernel
theorem dX12_icingOf_57 : decode cX12_icingOf 57 = .ok (.iadd, 1) := by decide +kernel
theorem dX12_icingOf_58 : decode cX12_icingOf 58 = .ok (.iaload, 1) := by decide +kernel
theorem dX12_icingOf_59 : decode cX12_icingOf 59 = .ok (.istore 6, 2) := by decide +kernel
theorem dX12_icingOf_61 : decode cX12_icingOf 61 = .ok (.iload 5, 2) := by decide +kernel
theorem dX12_icingOf_63 : decode cX12_icingOf 63 = .ok (.iload 4, 2) := by decide +kernel
theorem dX12_icingOf_65 : decode cX12_icingOf 65 = .ok (.ifCond .ne 7, 3) := by decide +kernel
theorem dX12_icingOf_68 : decode cX12_icingOf 68 = .ok (.iconst 1, 1) := by decide +kernel
theorem dX12_icingOf_69 : decode cX12_icingOf 69 = .ok (.goto 4, 3) := by decide +kernel
theorem dX12_icingOf_72 : decode cX12_icingOf 72 = .ok (.iconst 0, 1) := by decide +kernel
theorem dX12_icingOf_73 : decode cX12_icingOf 73 = .ok (.invokestatic 302, 3) := by decide +kernel
theorem dX12_icingOf_76 : decode cX12_icingOf 76 = .ok (.iload 4, 2) := by decide +kernel
theorem dX12_icingOf_78 : decode cX12_icingOf 78 = .ok (.iload 6, 2) := by decide +kernel
theorem dX12_icingOf_80 : decode cX12_icingOf 80 = .ok (.iadd, 1) := by decide +kernel
theorem dX12_icingOf_81 : decode cX12_icingOf 81 = .ok (.aload_n 0, 1) := by decide +kernel
theorem dX12_icingOf_82 : decode cX12_icingOf 82 = .ok (.getfield 64, 3) := by decide +kernel
theorem dX12_icingOf_85 : decode cX12_icingOf 85 = .ok (.iload_n 2, 1) := by decide +kernel
theorem dX12_icingOf_86 : decode cX12_icingOf 86 = .ok (.iaload, 1) := by decide +kernel
theorem dX12_icingOf_87 : decode cX12_icingOf 87 = .ok (.if_icmp .ne 7, 3) := by decide +kernel
theorem dX12_icingOf_90 : decode cX12_icingOf 90 = .ok (.iconst 1, 1) := by decide +kernel
theorem dX12_icingOf_91 : decode cX12_icingOf 91 = .ok (.goto 4, 3) := by decide +kernel
theorem dX12_icingOf_94 : decode cX12_icingOf 94 = .ok (.iconst 0, 1) := by decide +kernel
theorem dX12_icingOf_95 : decode cX12_icingOf 95 = .ok (.invokestatic 302, 3) := by decide +kernel
theorem dX12_icingOf_98 : decode cX12_icingOf 98 = .ok (.iadd, 1) := by decide +kernel
theorem dX12_icingOf_99 : decode cX12_icingOf 99 = .ok (.imul, 1) := by decide +kernel
theorem dX12_icingOf_100 : decode cX12_icingOf 100 = .ok (.iload 6, 2) := by decide +kernel
theorem dX12_icingOf_102 : decode cX12_icingOf 102 = .ok (.iload_n 3, 1) := by decide +kernel
theorem dX12_icingOf_103 : decode cX12_icingOf 103 = .ok (.ifCond .ne 7, 3) := by decide +kernel
theorem dX12_icingOf_106 : decode cX12_icingOf 106 = .ok (.iconst 1, 1) := by decide +kernel
theorem dX12_icingOf_107 : decode cX12_icingOf 107 = .ok (.goto 4, 3) := by decide +kernel
theorem dX12_icingOf_110 : decode cX12_icingOf 110 = .ok (.iconst 0, 1) := by decide +kernel
theorem dX12_icingOf_111 : decode cX12_icingOf 111 = .ok (.invokestatic 302, 3) := by decide +kernel
theorem dX12_icingOf_114 : decode cX12_icingOf 114 = .ok (.iload_n 3, 1) := by decide +kernel
theorem dX12_icingOf_115 : decode cX12_icingOf 115 = .ok (.iload 5, 2) := by decide +kernel
theorem dX12_icingOf_117 : decode cX12_icingOf 117 = .ok (.iadd, 1) := by decide +kernel
theorem dX12_icingOf_118 : decode cX12_icingOf 118 = .ok (.aload_n 0, 1) := by decide +kernel
theorem dX12_icingOf_119 : decode cX12_icingOf 119 = .ok (.getfield 61, 3) := by decide +kernel
theorem dX12_icingOf_122 : decode cX12_icingOf 122 = .ok (.iload_n 2, 1) := by decide +kernel
theorem dX12_icingOf_123 : decode cX12_icingOf 123 = .ok (.iaload, 1) := by decide +kernel
theorem dX12_icingOf_124 : decode cX12_icingOf 124 = .ok (.if_icmp .ne 7, 3) := by decide +kernel
theorem dX12_icingOf_127 : decode cX12_icingOf 127 = .ok (.iconst 1, 1) := by decide +kernel
theorem dX12_icingOf_128 : decode cX12_icingOf 128 = .ok (.goto 4, 3) := by decide +kernel
theorem dX12_icingOf_131 : decode cX12_icingOf 131 = .ok (.iconst 0, 1) := by decide +kernel
theorem dX12_icingOf_132 : decode cX12_icingOf 132 = .ok (.invokestatic 302, 3) := by decide +kernel
theorem dX12_icingOf_135 : decode cX12_icingOf 135 = .ok (.iadd, 1) := by decide +kernel
theorem dX12_icingOf_136 : decode cX12_icingOf 136 = .ok (.imul, 1) := by decide +kernel
theorem dX12_icingOf_137 : decode cX12_icingOf 137 = .ok (.iadd, 1) := by decide +kernel
theorem dX12_icingOf_138 : decode cX12_icingOf 138 = .ok (.ireturn, 1) := by decide +kernel
theorem dX12_askOf_0 : decode cX12_askOf 0 = .ok (.aload_n 0, 1) := by decide +kernel
theorem dX12_askOf_1 : decode cX12_askOf 1 = .ok (.getfield 49, 3) := by decide +kernel
theorem dX12_askOf_4 : decode cX12_askOf 4 = .ok (.iconst 0, 1) := by decide +kernel
theorem dX12_askOf_5 : decode cX12_askOf 5 = .ok (.aload_n 0, 1) := by decide +kernel
theorem dX12_askOf_6 : decode cX12_askOf 6 = .ok (.iload_n 1, 1) := by decide +kernel
theorem dX12_askOf_7 : decode cX12_askOf 7 = .ok (.invokevirtual 375, 3) := by decide +kernel
theorem dX12_askOf_10 : decode cX12_askOf 10 = .ok (.iastore, 1) := by decide +kernel
theorem dX12_askOf_11 : decode cX12_askOf 11 = .ok (.aload_n 0, 1) := by decide +kernel
theorem dX12_askOf_12 : decode cX12_askOf 12 = .ok (.getfield 49, 3) := by decide +kernel
theorem dX12_askOf_15 : decode cX12_askOf 15 = .ok (.iconst 1, 1) := by decide +kernel
theorem dX12_askOf_16 : decode cX12_askOf 16 = .ok (.aload_n 0, 1) := by decide +kernel
theorem dX12_askOf_17 : decode cX12_askOf 17 = .ok (.iload_n 1, 1) := by decide +kernel
theorem dX12_askOf_18 : decode cX12_askOf 18 = .ok (.invokevirtual 378, 3) := by decide +kernel
theorem dX12_askOf_21 : decode cX12_askOf 21 = .ok (.iastore, 1) := by decide +kernel
theorem dX12_askOf_22 : decode cX12_askOf 22 = .ok (.aload_n 0, 1) := by decide +kernel
theorem dX12_askOf_23 : decode cX12_askOf 23 = .ok (.getfield 49, 3) := by decide +kernel
theorem dX12_askOf_26 : decode cX12_askOf 26 = .ok (.iconst 2, 1) := by decide +kernel
theorem dX12_askOf_27 : decode cX12_askOf 27 = .ok (.iload_n 2, 1) := by decide +kernel
theorem dX12_askOf_28 : decode cX12_askOf 28 = .ok (.iastore, 1) := by decide +kernel
theorem dX12_askOf_29 : decode cX12_askOf 29 = .ok (.aload_n 0, 1) := by decide +kernel
theorem dX12_askOf_30 : decode cX12_askOf 30 = .ok (.getfield 49, 3) := by decide +kernel
theorem dX12_askOf_33 : decode cX12_askOf 33 = .ok (.iconst 3, 1) := by decide +kernel
theorem dX12_askOf_34 : decode cX12_askOf 34 = .ok (.aload_n 0, 1) := by decide +kernel
theorem dX12_askOf_35 : decode cX12_askOf 35 = .ok (.getfield 94, 3) := by decide +kernel
theorem dX12_askOf_38 : decode cX12_askOf 38 = .ok (.bipush 7, 2) := by decide +kernel
theorem dX12_askOf_40 : decode cX12_askOf 40 = .ok (.iload_n 1, 1) := by decide +kernel
theorem dX12_askOf_41 : decode cX12_askOf 41 = .ok (.imul, 1) := by decide +kernel
theorem dX12_askOf_42 : decode cX12_askOf 42 = .ok (.iconst 5, 1) := by decide +kernel
theorem dX12_askOf_43 : decode cX12_askOf 43 = .ok (.iadd, 1) := by decide +kernel
theorem dX12_askOf_44 : decode cX12_askOf 44 = .ok (.iaload, 1) := by decide +kernel
theorem dX12_askOf_45 : decode cX12_askOf 45 = .ok (.iastore, 1) := by decide +kernel
theorem dX12_askOf_46 : decode cX12_askOf 46 = .ok (.aload_n 0, 1) := by decide +kernel
theorem dX12_askOf_47 : decode cX12_askOf 47 = .ok (.getfield 49, 3) := by decide +kernel
theorem dX12_askOf_50 : decode cX12_askOf 50 = .ok (.iconst 4, 1) := by decide +kernel
theorem dX12_askOf_51 : decode cX12_askOf 51 = .ok (.iload_n 3, 1) := by decide +kernel
theorem dX12_askOf_52 : decode cX12_askOf 52 = .ok (.iastore, 1) := by decide +kernel
theorem dX12_askOf_53 : decode cX12_askOf 53 = .ok (.aload_n 0, 1) := by decide +kernel
theorem dX12_askOf_54 : decode cX12_askOf 54 = .ok (.getfield 49, 3) := by decide +kernel
theorem dX12_askOf_57 : decode cX12_askOf 57 = .ok (.iconst 5, 1) := by decide +kernel
theorem dX12_askOf_58 : decode cX12_askOf 58 = .ok (.aload_n 0, 1) := by decide +kernel
theorem dX12_askOf_59 : decode cX12_askOf 59 = .ok (.getfield 94, 3) := by decide +kernel
theorem dX12_askOf_62 : decode cX12_askOf 62 = .ok (.sipush 169, 3) := by decide +kernel
theorem dX12_askOf_65 : decode cX12_askOf 65 = .ok (.iaload, 1) := by decide +kernel
theorem dX12_askOf_66 : decode cX12_askOf 66 = .ok (.iastore, 1) := by decide +kernel
theorem dX12_askOf_67 : decode cX12_askOf 67 = .ok (.return_, 1) := by decide +kernel
theorem dX12_worthOf_0 : decode cX12_worthOf 0 = .ok (.aload_n 0, 1) := by decide +kernel
theorem dX12_worthOf_1 : decode cX12_worthOf 1 = .ok (.iload_n 2, 1) := by decide +kernel
theorem dX12_worthOf_2 : decode cX12_worthOf 2 = .ok (.aload_n 0, 1) := by decide +kernel
theorem dX12_worthOf_3 : decode cX12_worthOf 3 = .ok (.getfield 82, 3) := by decide +kernel
theorem dX12_worthOf_6 : decode cX12_worthOf 6 = .ok (.iload_n 1, 1) := by decide +kernel
theorem dX12_worthOf_7 : decode cX12_worthOf 7 = .ok (.iaload, 1) := by decide +kernel
theorem dX12_worthOf_8 : decode cX12_worthOf 8 = .ok (.iconst 0, 1) := by decide +kernel
theorem dX12_worthOf_9 : decode cX12_worthOf 9 = .ok (.invokevirtual 381, 3) := by decide +kernel
theorem dX12_worthOf_12 : decode cX12_worthOf 12 = .ok (.aload_n 0, 1) := by decide +kernel
theorem dX12_worthOf_13 : decode cX12_worthOf 13 = .ok (.iconst 0, 1) := by decide +kernel
theorem dX12_worthOf_14 : decode cX12_worthOf 14 = .ok (.aload_n 0, 1) := by decide +kernel
theorem dX12_worthOf_15 : decode cX12_worthOf 15 = .ok (.getfield 49, 3) := by decide +kernel
theorem dX12_worthOf_18 : decode cX12_worthOf 18 = .ok (.iconst 0, 1) := by decide +kernel
theorem dX12_worthOf_19 : decode cX12_worthOf 19 = .ok (.iaload, 1) := by decide +kernel
theorem dX12_worthOf_20 : decode cX12_worthOf 20 = .ok (.invokevirtual 385, 3) := by decide +kernel
theorem dX12_worthOf_23 : decode cX12_worthOf 23 = .ok (.ireturn, 1) := by decide +kernel
theorem dX12_isFree_0 : decode cX12_isFree 0 = .ok (.aload_n 0, 1) := by decide +kernel
theorem dX12_isFree_1 : decode cX12_isFree 1 = .ok (.getfield 94, 3) := by decide +kernel
theorem dX12_isFree_4 : decode cX12_isFree 4 = .ok (.bipush 7, 2) := by decide +kernel
theorem dX12_isFree_6 : decode cX12_isFree 6 = .ok (.iload_n 1, 1) := by decide +kernel
theorem dX12_isFree_7 : decode cX12_isFree 7 = .ok (.imul, 1) := by decide +kernel
theorem dX12_isFree_8 : decode cX12_isFree 8 = .ok (.bipush 6, 2) := by decide +kernel
theorem dX12_isFree_10 : decode cX12_isFree 10 = .ok (.iadd, 1) := by decide +kernel
theorem dX12_isFree_11 : decode cX12_isFree 11 = .ok (.iaload, 1) := by decide +kernel
theorem dX12_isFree_12 : decode cX12_isFree 12 = .ok (.iconst (-1), 1) := by decide +kernel
theorem dX12_isFree_13 : decode cX12_isFree 13 = .ok (.if_icmp .ne 7, 3) := by decide +kernel
theorem dX12_isFree_16 : decode cX12_isFree 16 = .ok (.iconst 1, 1) := by decide +kernel
theorem dX12_isFree_17 : decode cX12_isFree 17 = .ok (.goto 4, 3) := by decide +kernel
theorem dX12_isFree_20 : decode cX12_isFree 20 = .ok (.iconst 0, 1) := by decide +kernel
theorem dX12_isFree_21 : decode cX12_isFree 21 = .ok (.ireturn, 1) := by decide +kernel
theorem dX12_pieceOf_0 : decode cX12_pieceOf 0 = .ok (.iconst (-1), 1) := by decide +kernel
theorem dX12_pieceOf_1 : decode cX12_pieceOf 1 = .ok (.istore_n 2, 1) := by decide +kernel
theorem dX12_pieceOf_2 : decode cX12_pieceOf 2 = .ok (.iconst 0, 1) := by decide +kernel
theorem dX12_pieceOf_3 : decode cX12_pieceOf 3 = .ok (.istore_n 3, 1) := by decide +kernel
theorem dX12_pieceOf_4 : decode cX12_pieceOf 4 = .ok (.iload_n 3, 1) := by decide +kernel
theorem dX12_pieceOf_5 : decode cX12_pieceOf 5 = .ok (.aload_n 0, 1) := by decide +kernel
theorem dX12_pieceOf_6 : decode cX12_pieceOf 6 = .ok (.getfield 94, 3) := by decide +kernel
theorem dX12_pieceOf_9 : decode cX12_pieceOf 9 = .ok (.sipush 168, 3) := by decide +kernel
theorem dX12_pieceOf_12 : decode cX12_pieceOf 12 = .ok (.iaload, 1) := by decide +kernel
theorem dX12_pieceOf_13 : decode cX12_pieceOf 13 = .ok (.if_icmp .ge 27, 3) := by decide +kernel
theorem dX12_pieceOf_16 : decode cX12_pieceOf 16 = .ok (.aload_n 0, 1) := by decide +kernel
theorem dX12_pieceOf_17 : decode cX12_pieceOf 17 = .ok (.getfield 94, 3) := by decide +kernel
theorem dX12_pieceOf_20 : decode cX12_pieceOf 20 = .ok (.bipush 7, 2) := by decide +kernel
theorem dX12_pieceOf_22 : decode cX12_pieceOf 22 = .ok (.iload_n 3, 1) := by decide +kernel
theorem dX12_pieceOf_23 : decode cX12_pieceOf 23 = .ok (.imul, 1) := by decide +kernel
theorem dX12_pieceOf_24 : decode cX12_pieceOf 24 = .ok (.bipush 6, 2) := by decide +kernel
theorem dX12_pieceOf_26 : decode cX12_pieceOf 26 = .ok (.iadd, 1) := by decide +kernel
theorem dX12_pieceOf_27 : decode cX12_pieceOf 27 = .ok (.iaload, 1) := by decide +kernel
theorem dX12_pieceOf_28 : decode cX12_pieceOf 28 = .ok (.iload_n 1, 1) := by decide +kernel
theorem dX12_pieceOf_29 : decode cX12_pieceOf 29 = .ok (.if_icmp .ne 5, 3) := by decide +kernel
theorem dX12_pieceOf_32 : decode cX12_pieceOf 32 = .ok (.iload_n 3, 1) := by decide +kernel
theorem dX12_pieceOf_33 : decode cX12_pieceOf 33 = .ok (.istore_n 2, 1) := by decide +kernel
theorem dX12_pieceOf_34 : decode cX12_pieceOf 34 = .ok (.iinc 3 1, 3) := by decide +kernel
theorem dX12_pieceOf_37 : decode cX12_pieceOf 37 = .ok (.goto (-33), 3) := by decide +kernel
theorem dX12_pieceOf_40 : decode cX12_pieceOf 40 = .ok (.iload_n 2, 1) := by decide +kernel
theorem dX12_pieceOf_41 : decode cX12_pieceOf 41 = .ok (.ireturn, 1) := by decide +kernel
theorem dX12_canCut_0 : decode cX12_canCut 0 = .ok (.iload_n 1, 1) := by decide +kernel
theorem dX12_canCut_1 : decode cX12_canCut 1 = .ok (.ifCond .lt 78, 3) := by decide +kernel
theorem dX12_canCut_4 : decode cX12_canCut 4 = .ok (.iload_n 1, 1) := by decide +kernel
theorem dX12_canCut_5 : decode cX12_canCut 5 = .ok (.aload_n 0, 1) := by decide +kernel
theorem dX12_canCut_6 : decode cX12_canCut 6 = .ok (.getfield 94, 3) := by decide +kernel
theorem dX12_canCut_9 : decode cX12_canCut 9 = .ok (.sipush 168, 3) := by decide +kernel
theorem dX12_canCut_12 : decode cX12_canCut 12 = .ok (.iaload, 1) := by decide +kernel
theorem dX12_canCut_13 : decode cX12_canCut 13 = .ok (.if_icmp .ge 66, 3) := by decide +kernel
theorem dX12_canCut_16 : decode cX12_canCut 16 = .ok (.aload_n 0, 1) := by decide +kernel
theorem dX12_canCut_17 : decode cX12_canCut 17 = .ok (.getfield 94, 3) := by decide +kernel
theorem dX12_canCut_20 : decode cX12_canCut 20 = .ok (.sipush 168, 3) := by decide +kernel
theorem dX12_canCut_23 : decode cX12_canCut 23 = .ok (.iaload, 1) := by decide +kernel
theorem dX12_canCut_24 : decode cX12_canCut 24 = .ok (.bipush 24, 2) := by decide +kernel
theorem dX12_canCut_26 : decode cX12_canCut 26 = .ok (.if_icmp .ge 53, 3) := by decide +kernel
theorem dX12_canCut_29 : decode cX12_canCut 29 = .ok (.iload_n 2, 1) := by decide +kernel
theorem dX12_canCut_30 : decode cX12_canCut 30 = .ok (.iconst 0, 1) := by decide +kernel
theorem dX12_canCut_31 : decode cX12_canCut 31 = .ok (.iconst 1, 1) := by decide +kernel
theorem dX12_canCut_32 : decode cX12_canCut 32 = .ok (.invokestatic 371, 3) := by decide +kernel
theorem dX12_canCut_35 : decode cX12_canCut 35 = .ok (.ifCond .eq 44, 3) := by decide +kernel
theorem dX12_canCut_38 : decode cX12_canCut 38 = .ok (.aload_n 0, 1) := by decide +kernel
theorem dX12_canCut_39 : decode cX12_canCut 39 = .ok (.iload_n 1, 1) := by decide +kernel
theorem dX12_canCut_40 : decode cX12_canCut 40 = .ok (.invokevirtual 388, 3) := by decide +kernel
theorem dX12_canCut_43 : decode cX12_canCut 43 = .ok (.ifCond .eq 36, 3) := by decide +kernel
theorem dX12_canCut_46 : decode cX12_canCut 46 = .ok (.iload_n 3, 1) := by decide +kernel
theorem dX12_canCut_47 : decode cX12_canCut 47 = .ok (.iconst 1, 1) := by decide +kernel
theorem dX12_canCut_48 : decode cX12_canCut 48 = .ok (.aload_n 0, 1) := by decide +kernel
theorem dX12_canCut_49 : decode cX12_canCut 49 = .ok (.getfield 94, 3) := by decide +kernel
theorem dX12_canCut_52 : decode cX12_canCut 52 = .ok (.bipush 7, 2) := by decide +kernel
theorem dX12_canCut_54 : decode cX12_canCut 54 = .ok (.iload_n 1, 1) := by decide +kernel
theorem dX12_canCut_55 : decode cX12_canCut 55 = .ok (.imul, 1) := by decide +kernel
theorem dX12_canCut_56 : decode cX12_canCut 56 = .ok (.iload_n 2, 1) := by decide +kernel
theorem dX12_canCut_57 : decode cX12_canCut 57 = .ok (.ifCond .ne 7, 3) := by decide +kernel
theorem dX12_canCut_60 : decode cX12_canCut 60 = .ok (.iconst 3, 1) := by decide +kernel
theorem dX12_canCut_61 : decode cX12_canCut 61 = .ok (.goto 4, 3) := by decide +kernel
theorem dX12_canCut_64 : decode cX12_canCut 64 = .ok (.iconst 4, 1) := by decide +kernel
theorem dX12_canCut_65 : decode cX12_canCut 65 = .ok (.iadd, 1) := by decide +kernel
theorem dX12_canCut_66 : decode cX12_canCut 66 = .ok (.iaload, 1) := by decide +kernel
theorem dX12_canCut_67 : decode cX12_canCut 67 = .ok (.iconst 1, 1) := by decide +kernel
theorem dX12_canCut_68 : decode cX12_canCut 68 = .ok (.isub, 1) := by decide +kernel
theorem dX12_canCut_69 : decode cX12_canCut 69 = .ok (.invokestatic 371, 3) := by decide +kernel
theorem dX12_canCut_72 : decode cX12_canCut 72 = .ok (.ifCond .eq 7, 3) := by decide +kernel
theorem dX12_canCut_75 : decode cX12_canCut 75 = .ok (.iconst 1, 1) := by decide +kernel
theorem dX12_canCut_76 : decode cX12_canCut 76 = .ok (.goto 4, 3) := by decide +kernel
theorem dX12_canCut_79 : decode cX12_canCut 79 = .ok (.iconst 0, 1) := by decide +kernel
theorem dX12_canCut_80 : decode cX12_canCut 80 = .ok (.ireturn, 1) := by decide +kernel
theorem dX12_goCut_0 : decode cX12_goCut 0 = .ok (.aload_n 0, 1) := by decide +kernel
theorem dX12_goCut_1 : decode cX12_goCut 1 = .ok (.getfield 94, 3) := by decide +kernel
theorem dX12_goCut_4 : decode cX12_goCut 4 = .ok (.sipush 168, 3) := by decide +kernel
theorem dX12_goCut_7 : decode cX12_goCut 7 = .ok (.iaload, 1) := by decide +kernel
theorem dX12_goCut_8 : decode cX12_goCut 8 = .ok (.istore 4, 2) := by decide +kernel
theorem dX12_goCut_10 : decode cX12_goCut 10 = .ok (.iconst 0, 1) := by decide +kernel
theorem dX12_goCut_11 : decode cX12_goCut 11 = .ok (.istore 5, 2) := by decide +kernel
theorem dX12_goCut_13 : decode cX12_goCut 13 = .ok (.iload 5, 2) := by decide +kernel
theorem dX12_goCut_15 : decode cX12_goCut 15 = .ok (.bipush 7, 2) := by decide +kernel
theorem dX12_goCut_17 : decode cX12_goCut 17 = .ok (.if_icmp .ge 34, 3) := by decide +kernel
theorem dX12_goCut_20 : decode cX12_goCut 20 = .ok (.aload_n 0, 1) := by decide +kernel
theorem dX12_goCut_21 : decode cX12_goCut 21 = .ok (.getfield 94, 3) := by decide +kernel
theorem dX12_goCut_24 : decode cX12_goCut 24 = .ok (.bipush 7, 2) := by decide +kernel
theorem dX12_goCut_26 : decode cX12_goCut 26 = .ok (.iload 4, 2) := by decide +kernel
theorem dX12_goCut_28 : decode cX12_goCut 28 = .ok (.imul, 1) := by decide +kernel
theorem dX12_goCut_29 : decode cX12_goCut 29 = .ok (.iload 5, 2) := by decide +kernel
theorem dX12_goCut_31 : decode cX12_goCut 31 = .ok (.iadd, 1) := by decide +kernel
theorem dX12_goCut_32 : decode cX12_goCut 32 = .ok (.aload_n 0, 1) := by decide +kernel
theorem dX12_goCut_33 : decode cX12_goCut 33 = .ok (.getfield 94, 3) := by decide +kernel
theorem dX12_goCut_36 : decode cX12_goCut 36 = .ok (.bipush 7, 2) := by decide +kernel
theorem dX12_goCut_38 : decode cX12_goCut 38 = .ok (.iload_n 1, 1) := by decide +kernel
theorem dX12_goCut_39 : decode cX12_goCut 39 = .ok (.imul, 1) := by decide +kernel
theorem dX12_goCut_40 : decode cX12_goCut 40 = .ok (.iload 5, 2) := by decide +kernel
theorem dX12_goCut_42 : decode cX12_goCut 42 = .ok (.iadd, 1) := by decide +kernel
theorem dX12_goCut_43 : decode cX12_goCut 43 = .ok (.iaload, 1) := by decide +kernel
theorem dX12_goCut_44 : decode cX12_goCut 44 = .ok (.iastore, 1) := by decide +kernel
theorem dX12_goCut_45 : decode cX12_goCut 45 = .ok (.iinc 5 1, 3) := by decide +kernel
theorem dX12_goCut_48 : decode cX12_goCut 48 = .ok (.goto (-35), 3) := by decide +kernel
theorem dX12_goCut_51 : decode cX12_goCut 51 = .ok (.iload_n 2, 1) := by decide +kernel
theorem dX12_goCut_52 : decode cX12_goCut 52 = .ok (.ifCond .ne 7, 3) := by decide +kernel
theorem dX12_goCut_55 : decode cX12_goCut 55 = .ok (.iconst 3, 1) := by decide +kernel
theorem dX12_goCut_56 : decode cX12_goCut 56 = .ok (.goto 4, 3) := by decide +kernel
theorem dX12_goCut_59 : decode cX12_goCut 59 = .ok (.iconst 4, 1) := by decide +kernel
theorem dX12_goCut_60 : decode cX12_goCut 60 = .ok (.istore 5, 2) := by decide +kernel
theorem dX12_goCut_62 : decode cX12_goCut 62 = .ok (.iload_n 2, 1) := by decide +kernel
theorem dX12_goCut_63 : decode cX12_goCut 63 = .ok (.ifCond .ne 7, 3) := by decide +kernel
theorem dX12_goCut_66 : decode cX12_goCut 66 = .ok (.iconst 1, 1) := by decide +kernel
theorem dX12_goCut_67 : decode cX12_goCut 67 = .ok (.goto 4, 3) := by decide +kernel
theorem dX12_goCut_70 : decode cX12_goCut 70 = .ok (.iconst 2, 1) := by decide +kernel
theorem dX12_goCut_71 : decode cX12_goCut 71 = .ok (.istore 6, 2) := by decide +kernel
theorem dX12_goCut_73 : decode cX12_goCut 73 = .ok (.aload_n 0, 1) := by decide +kernel
theorem dX12_goCut_74 : decode cX12_goCut 74 = .ok (.getfield 94, 3) := by decide +kernel
theorem dX12_goCut_77 : decode cX12_goCut 77 = .ok (.bipush 7, 2) := by decide +kernel
theorem dX12_goCut_79 : decode cX12_goCut 79 = .ok (.iload 4, 2) := by decide +kernel
theorem dX12_goCut_81 : decode cX12_goCut 81 = .ok (.imul, 1) := by decide +kernel
theorem dX12_goCut_82 : decode cX12_goCut 82 = .ok (.iload 6, 2) := by decide +kernel
theorem dX12_goCut_84 : decode cX12_goCut 84 = .ok (.iadd, 1) := by decide +kernel
theorem dX12_goCut_85 : decode cX12_goCut 85 = .ok (.dup2, 1) := by decide +kernel
theorem dX12_goCut_86 : decode cX12_goCut 86 = .ok (.iaload, 1) := by decide +kernel
theorem dX12_goCut_87 : decode cX12_goCut 87 = .ok (.iload_n 3, 1) := by decide +kernel
theorem dX12_goCut_88 : decode cX12_goCut 88 = .ok (.iadd, 1) := by decide +kernel
theorem dX12_goCut_89 : decode cX12_goCut 89 = .ok (.iastore, 1) := by decide +kernel
theorem dX12_goCut_90 : decode cX12_goCut 90 = .ok (.aload_n 0, 1) := by decide +kernel
theorem dX12_goCut_91 : decode cX12_goCut 91 = .ok (.getfield 94, 3) := by decide +kernel
theorem dX12_goCut_94 : decode cX12_goCut 94 = .ok (.bipush 7, 2) := by decide +kernel
theorem dX12_goCut_96 : decode cX12_goCut 96 = .ok (.iload 4, 2) := by decide +kernel
theorem dX12_goCut_98 : decode cX12_goCut 98 = .ok (.imul, 1) := by decide +kernel
theorem dX12_goCut_99 : decode cX12_goCut 99 = .ok (.iload 5, 2) := by decide +kernel
theorem dX12_goCut_101 : decode cX12_goCut 101 = .ok (.iadd, 1) := by decide +kernel
theorem dX12_goCut_102 : decode cX12_goCut 102 = .ok (.dup2, 1) := by decide +kernel
theorem dX12_goCut_103 : decode cX12_goCut 103 = .ok (.iaload, 1) := by decide +kernel
theorem dX12_goCut_104 : decode cX12_goCut 104 = .ok (.iload_n 3, 1) := by decide +kernel
theorem dX12_goCut_105 : decode cX12_goCut 105 = .ok (.isub, 1) := by decide +kernel
theorem dX12_goCut_106 : decode cX12_goCut 106 = .ok (.iastore, 1) := by decide +kernel
theorem dX12_goCut_107 : decode cX12_goCut 107 = .ok (.aload_n 0, 1) := by decide +kernel
theorem dX12_goCut_108 : decode cX12_goCut 108 = .ok (.getfield 94, 3) := by decide +kernel
theorem dX12_goCut_111 : decode cX12_goCut 111 = .ok (.bipush 7, 2) := by decide +kernel
theorem dX12_goCut_113 : decode cX12_goCut 113 = .ok (.iload_n 1, 1) := by decide +kernel
theorem dX12_goCut_114 : decode cX12_goCut 114 = .ok (.imul, 1) := by decide +kernel
theorem dX12_goCut_115 : decode cX12_goCut 115 = .ok (.iload 5, 2) := by decide +kernel
theorem dX12_goCut_117 : decode cX12_goCut 117 = .ok (.iadd, 1) := by decide +kernel
theorem dX12_goCut_118 : decode cX12_goCut 118 = .ok (.iload_n 3, 1) := by decide +kernel
theorem dX12_goCut_119 : decode cX12_goCut 119 = .ok (.iastore, 1) := by decide +kernel
theorem dX12_goCut_120 : decode cX12_goCut 120 = .ok (.aload_n 0, 1) := by decide +kernel
theorem dX12_goCut_121 : decode cX12_goCut 121 = .ok (.getfield 94, 3) := by decide +kernel
theorem dX12_goCut_124 : decode cX12_goCut 124 = .ok (.sipush 168, 3) := by decide +kernel
theorem dX12_goCut_127 : decode cX12_goCut 127 = .ok (.dup2, 1) := by decide +kernel
theorem dX12_goCut_128 : decode cX12_goCut 128 = .ok (.iaload, 1) := by decide +kernel
theorem dX12_goCut_129 : decode cX12_goCut 129 = .ok (.iconst 1, 1) := by decide +kernel
theorem dX12_goCut_130 : decode cX12_goCut 130 = .ok (.iadd, 1) := by decide +kernel
theorem dX12_goCut_131 : decode cX12_goCut 131 = .ok (.iastore, 1) := by decide +kernel
theorem dX12_goCut_132 : decode cX12_goCut 132 = .ok (.iload 4, 2) := by decide +kernel
theorem dX12_goCut_134 : decode cX12_goCut 134 = .ok (.ireturn, 1) := by decide +kernel
theorem dX12_slipOf_0 : decode cX12_slipOf 0 = .ok (.aload_n 0, 1) := by decide +kernel
theorem dX12_slipOf_1 : decode cX12_slipOf 1 = .ok (.iload_n 1, 1) := by decide +kernel
theorem dX12_slipOf_2 : decode cX12_slipOf 2 = .ok (.iconst 0, 1) := by decide +kernel
theorem dX12_slipOf_3 : decode cX12_slipOf 3 = .ok (.aload_n 0, 1) := by decide +kernel
theorem dX12_slipOf_4 : decode cX12_slipOf 4 = .ok (.getfield 94, 3) := by decide +kernel
theorem dX12_slipOf_7 : decode cX12_slipOf 7 = .ok (.bipush 7, 2) := by decide +kernel
theorem dX12_slipOf_9 : decode cX12_slipOf 9 = .ok (.iload_n 1, 1) := by decide +kernel
theorem dX12_slipOf_10 : decode cX12_slipOf 10 = .ok (.imul, 1) := by decide +kernel
theorem dX12_slipOf_11 : decode cX12_slipOf 11 = .ok (.iload_n 2, 1) := by decide +kernel
theorem dX12_slipOf_12 : decode cX12_slipOf 12 = .ok (.ifCond .ne 7, 3) := by decide +kernel
theorem dX12_slipOf_15 : decode cX12_slipOf 15 = .ok (.iconst 4, 1) := by decide +kernel
theorem dX12_slipOf_16 : decode cX12_slipOf 16 = .ok (.goto 4, 3) := by decide +kernel
theorem dX12_slipOf_19 : decode cX12_slipOf 19 = .ok (.iconst 3, 1) := by decide +kernel
theorem dX12_slipOf_20 : decode cX12_slipOf 20 = .ok (.iadd, 1) := by decide +kernel
theorem dX12_slipOf_21 : decode cX12_slipOf 21 = .ok (.iaload, 1) := by decide +kernel
theorem dX12_slipOf_22 : decode cX12_slipOf 22 = .ok (.invokevirtual 381, 3) := by decide +kernel
theorem dX12_slipOf_25 : decode cX12_slipOf 25 = .ok (.aload_n 0, 1) := by decide +kernel
theorem dX12_slipOf_26 : decode cX12_slipOf 26 = .ok (.iconst 1, 1) := by decide +kernel
theorem dX12_slipOf_27 : decode cX12_slipOf 27 = .ok (.iconst 0, 1) := by decide +kernel
theorem dX12_slipOf_28 : decode cX12_slipOf 28 = .ok (.invokevirtual 385, 3) := by decide +kernel
theorem dX12_slipOf_31 : decode cX12_slipOf 31 = .ok (.istore_n 3, 1) := by decide +kernel
theorem dX12_slipOf_32 : decode cX12_slipOf 32 = .ok (.iload_n 3, 1) := by decide +kernel
theorem dX12_slipOf_33 : decode cX12_slipOf 33 = .ok (.ifCond .ge 7, 3) := by decide +kernel
theorem dX12_slipOf_36 : decode cX12_slipOf 36 = .ok (.iconst 0, 1) := by decide +kernel
theorem dX12_slipOf_37 : decode cX12_slipOf 37 = .ok (.goto 15, 3) := by decide +kernel
theorem dX12_slipOf_40 : decode cX12_slipOf 40 = .ok (.iload_n 3, 1) := by decide +kernel
theorem dX12_slipOf_41 : decode cX12_slipOf 41 = .ok (.bipush 100, 2) := by decide +kernel
theorem dX12_slipOf_43 : decode cX12_slipOf 43 = .ok (.if_icmp .le 8, 3) := by decide +kernel
theorem dX12_slipOf_46 : decode cX12_slipOf 46 = .ok (.bipush 100, 2) := by decide +kernel
theorem dX12_slipOf_48 : decode cX12_slipOf 48 = .ok (.goto 4, 3) := by decide +kernel
theorem dX12_slipOf_51 : decode cX12_slipOf 51 = .ok (.iload_n 3, 1) := by decide +kernel
theorem dX12_slipOf_52 : decode cX12_slipOf 52 = .ok (.ireturn, 1) := by decide +kernel
theorem dX12_piece_0 : decode cX12_piece 0 = .ok (.aload_n 0, 1) := by decide +kernel
theorem dX12_piece_1 : decode cX12_piece 1 = .ok (.iload_n 1, 1) := by decide +kernel
theorem dX12_piece_2 : decode cX12_piece 2 = .ok (.invokevirtual 391, 3) := by decide +kernel
theorem dX12_piece_5 : decode cX12_piece 5 = .ok (.ifCond .ne 6, 3) := by decide +kernel
theorem dX12_piece_8 : decode cX12_piece 8 = .ok (.bipush (-2), 2) := by decide +kernel
theorem dX12_piece_10 : decode cX12_piece 10 = .ok (.ireturn, 1) := by decide +kernel
theorem dX12_piece_11 : decode cX12_piece 11 = .ok (.aload_n 0, 1) := by decide +kernel
theorem dX12_piece_12 : decode cX12_piece 12 = .ok (.invokevirtual 394, 3) := by decide +kernel
theorem dX12_piece_15 : decode cX12_piece 15 = .ok (.iload_n 2, 1) := by decide +kernel
theorem dX12_piece_16 : decode cX12_piece 16 = .ok (.tableswitch 147 0 8 #[52, 62, 74, 86, 98, 110, 116, 122, 134], 52) := by decide +kernel
theorem dX12_piece_68 : decode cX12_piece 68 = .ok (.aload_n 0, 1) := by decide +kernel
theorem dX12_piece_69 : decode cX12_piece 69 = .ok (.getfield 94, 3) := by decide +kernel
theorem dX12_piece_72 : decode cX12_piece 72 = .ok (.bipush 7, 2) := by decide +kernel
theorem dX12_piece_74 : decode cX12_piece 74 = .ok (.iload_n 1, 1) := by decide +kernel
theorem dX12_piece_75 : decode cX12_piece 75 = .ok (.imul, 1) := by decide +kernel
theorem dX12_piece_76 : decode cX12_piece 76 = .ok (.iaload, 1) := by decide +kernel
theorem dX12_piece_77 : decode cX12_piece 77 = .ok (.ireturn, 1) := by decide +kernel
theorem dX12_piece_78 : decode cX12_piece 78 = .ok (.aload_n 0, 1) := by decide +kernel
theorem dX12_piece_79 : decode cX12_piece 79 = .ok (.getfield 94, 3) := by decide +kernel
theorem dX12_piece_82 : decode cX12_piece 82 = .ok (.bipush 7, 2) := by decide +kernel
theorem dX12_piece_84 : decode cX12_piece 84 = .ok (.iload_n 1, 1) := by decide +kernel
theorem dX12_piece_85 : decode cX12_piece 85 = .ok (.imul, 1) := by decide +kernel
theorem dX12_piece_86 : decode cX12_piece 86 = .ok (.iconst 1, 1) := by decide +kernel
theorem dX12_piece_87 : decode cX12_piece 87 = .ok (.iadd, 1) := by decide +kernel
theorem dX12_piece_88 : decode cX12_piece 88 = .ok (.iaload, 1) := by decide +kernel
theorem dX12_piece_89 : decode cX12_piece 89 = .ok (.ireturn, 1) := by decide +kernel
theorem dX12_piece_90 : decode cX12_piece 90 = .ok (.aload_n 0, 1) := by decide +kernel
theorem dX12_piece_91 : decode cX12_piece 91 = .ok (.getfield 94, 3) := by decide +kernel
theorem dX12_piece_94 : decode cX12_piece 94 = .ok (.bipush 7, 2) := by decide +kernel
theorem dX12_piece_96 : decode cX12_piece 96 = .ok (.iload_n 1, 1) := by decide +kernel
theorem dX12_piece_97 : decode cX12_piece 97 = .ok (.imul, 1) := by decide +kernel
theorem dX12_piece_98 : decode cX12_piece 98 = .ok (.iconst 2, 1) := by decide +kernel
theorem dX12_piece_99 : decode cX12_piece 99 = .ok (.iadd, 1) := by decide +kernel
theorem dX12_piece_100 : decode cX12_piece 100 = .ok (.iaload, 1) := by decide +kernel
theorem dX12_piece_101 : decode cX12_piece 101 = .ok (.ireturn, 1) := by decide +kernel
theorem dX12_piece_102 : decode cX12_piece 102 = .ok (.aload_n 0, 1) := by decide +kernel
theorem dX12_piece_103 : decode cX12_piece 103 = .ok (.getfield 94, 3) := by decide +kernel
theorem dX12_piece_106 : decode cX12_piece 106 = .ok (.bipush 7, 2) := by decide +kernel
theorem dX12_piece_108 : decode cX12_piece 108 = .ok (.iload_n 1, 1) := by decide +kernel
theorem dX12_piece_109 : decode cX12_piece 109 = .ok (.imul, 1) := by decide +kernel
theorem dX12_piece_110 : decode cX12_piece 110 = .ok (.iconst 3, 1) := by decide +kernel
theorem dX12_piece_111 : decode cX12_piece 111 = .ok (.iadd, 1) := by decide +kernel
theorem dX12_piece_112 : decode cX12_piece 112 = .ok (.iaload, 1) := by decide +kernel
theorem dX12_piece_113 : decode cX12_piece 113 = .ok (.ireturn, 1) := by decide +kernel
theorem dX12_piece_114 : decode cX12_piece 114 = .ok (.aload_n 0, 1) := by decide +kernel
theorem dX12_piece_115 : decode cX12_piece 115 = .ok (.getfield 94, 3) := by decide +kernel
theorem dX12_piece_118 : decode cX12_piece 118 = .ok (.bipush 7, 2) := by decide +kernel
theorem dX12_piece_120 : decode cX12_piece 120 = .ok (.iload_n 1, 1) := by decide +kernel
theorem dX12_piece_121 : decode cX12_piece 121 = .ok (.imul, 1) := by decide +kernel
theorem dX12_piece_122 : decode cX12_piece 122 = .ok (.iconst 4, 1) := by decide +kernel
theorem dX12_piece_123 : decode cX12_piece 123 = .ok (.iadd, 1) := by decide +kernel
theorem dX12_piece_124 : decode cX12_piece 124 = .ok (.iaload, 1) := by decide +kernel
theorem dX12_piece_125 : decode cX12_piece 125 = .ok (.ireturn, 1) := by decide +kernel
theorem dX12_piece_126 : decode cX12_piece 126 = .ok (.aload_n 0, 1) := by decide +kernel
theorem dX12_piece_127 : decode cX12_piece 127 = .ok (.iload_n 1, 1) := by decide +kernel
theorem dX12_piece_128 : decode cX12_piece 128 = .ok (.invokevirtual 375, 3) := by decide +kernel
theorem dX12_piece_131 : decode cX12_piece 131 = .ok (.ireturn, 1) := by decide +kernel
theorem dX12_piece_132 : decode cX12_piece 132 = .ok (.aload_n 0, 1) := by decide +kernel
theorem dX12_piece_133 : decode cX12_piece 133 = .ok (.iload_n 1, 1) := by decide +kernel
theorem dX12_piece_134 : decode cX12_piece 134 = .ok (.invokevirtual 378, 3) := by decide +kernel
theorem dX12_piece_137 : decode cX12_piece 137 = .ok (.ireturn, 1) := by decide +kernel
theorem dX12_piece_138 : decode cX12_piece 138 = .ok (.aload_n 0, 1) := by decide +kernel
theorem dX12_piece_139 : decode cX12_piece 139 = .ok (.getfield 94, 3) := by decide +kernel
theorem dX12_piece_142 : decode cX12_piece 142 = .ok (.bipush 7, 2) := by decide +kernel
theorem dX12_piece_144 : decode cX12_piece 144 = .ok (.iload_n 1, 1) := by decide +kernel
theorem dX12_piece_145 : decode cX12_piece 145 = .ok (.imul, 1) := by decide +kernel
theorem dX12_piece_146 : decode cX12_piece 146 = .ok (.iconst 5, 1) := by decide +kernel
theorem dX12_piece_147 : decode cX12_piece 147 = .ok (.iadd, 1) := by decide +kernel
theorem dX12_piece_148 : decode cX12_piece 148 = .ok (.iaload, 1) := by decide +kernel
theorem dX12_piece_149 : decode cX12_piece 149 = .ok (.ireturn, 1) := by decide +kernel
theorem dX12_piece_150 : decode cX12_piece 150 = .ok (.aload_n 0, 1) := by decide +kernel
theorem dX12_piece_151 : decode cX12_piece 151 = .ok (.getfield 94, 3) := by decide +kernel
theorem dX12_piece_154 : decode cX12_piece 154 = .ok (.bipush 7, 2) := by decide +kernel
theorem dX12_piece_156 : decode cX12_piece 156 = .ok (.iload_n 1, 1) := by decide +kernel
theorem dX12_piece_157 : decode cX12_piece 157 = .ok (.imul, 1) := by decide +kernel
theorem dX12_piece_158 : decode cX12_piece 158 = .ok (.bipush 6, 2) := by decide +kernel
theorem dX12_piece_160 : decode cX12_piece 160 = .ok (.iadd, 1) := by decide +kernel
theorem dX12_piece_161 : decode cX12_piece 161 = .ok (.iaload, 1) := by decide +kernel
theorem dX12_piece_162 : decode cX12_piece 162 = .ok (.ireturn, 1) := by decide +kernel
theorem dX12_piece_163 : decode cX12_piece 163 = .ok (.bipush (-2), 2) := by decide +kernel
theorem dX12_piece_165 : decode cX12_piece 165 = .ok (.ireturn, 1) := by decide +kernel
theorem dX12_guest_0 : decode cX12_guest 0 = .ok (.aload_n 0, 1) := by decide +kernel
theorem dX12_guest_1 : decode cX12_guest 1 = .ok (.iload_n 1, 1) := by decide +kernel
theorem dX12_guest_2 : decode cX12_guest 2 = .ok (.invokevirtual 397, 3) := by decide +kernel
theorem dX12_guest_5 : decode cX12_guest 5 = .ok (.ifCond .ne 6, 3) := by decide +kernel
theorem dX12_guest_8 : decode cX12_guest 8 = .ok (.bipush (-2), 2) := by decide +kernel
theorem dX12_guest_10 : decode cX12_guest 10 = .ok (.ireturn, 1) := by decide +kernel
theorem dX12_guest_11 : decode cX12_guest 11 = .ok (.aload_n 0, 1) := by decide +kernel
theorem dX12_guest_12 : decode cX12_guest 12 = .ok (.invokevirtual 394, 3) := by decide +kernel
theorem dX12_guest_15 : decode cX12_guest 15 = .ok (.aload_n 0, 1) := by decide +kernel
theorem dX12_guest_16 : decode cX12_guest 16 = .ok (.iload_n 1, 1) := by decide +kernel
theorem dX12_guest_17 : decode cX12_guest 17 = .ok (.invokevirtual 400, 3) := by decide +kernel
theorem dX12_guest_20 : decode cX12_guest 20 = .ok (.istore_n 3, 1) := by decide +kernel
theorem dX12_guest_21 : decode cX12_guest 21 = .ok (.iload_n 2, 1) := by decide +kernel
theorem dX12_guest_22 : decode cX12_guest 22 = .ok (.tableswitch 72 0 4 #[34, 41, 48, 55, 57], 34) := by decide +kernel
theorem dX12_guest_56 : decode cX12_guest 56 = .ok (.aload_n 0, 1) := by decide +kernel
theorem dX12_guest_57 : decode cX12_guest 57 = .ok (.getfield 79, 3) := by decide +kernel
theorem dX12_guest_60 : decode cX12_guest 60 = .ok (.iload_n 1, 1) := by decide +kernel
theorem dX12_guest_61 : decode cX12_guest 61 = .ok (.iaload, 1) := by decide +kernel
theorem dX12_guest_62 : decode cX12_guest 62 = .ok (.ireturn, 1) := by decide +kernel
theorem dX12_guest_63 : decode cX12_guest 63 = .ok (.aload_n 0, 1) := by decide +kernel
theorem dX12_guest_64 : decode cX12_guest 64 = .ok (.getfield 82, 3) := by decide +kernel
theorem dX12_guest_67 : decode cX12_guest 67 = .ok (.iload_n 1, 1) := by decide +kernel
theorem dX12_guest_68 : decode cX12_guest 68 = .ok (.iaload, 1) := by decide +kernel
theorem dX12_guest_69 : decode cX12_guest 69 = .ok (.ireturn, 1) := by decide +kernel
theorem dX12_guest_70 : decode cX12_guest 70 = .ok (.aload_n 0, 1) := by decide +kernel
theorem dX12_guest_71 : decode cX12_guest 71 = .ok (.getfield 85, 3) := by decide +kernel
theorem dX12_guest_74 : decode cX12_guest 74 = .ok (.iload_n 1, 1) := by decide +kernel
theorem dX12_guest_75 : decode cX12_guest 75 = .ok (.iaload, 1) := by decide +kernel
theorem dX12_guest_76 : decode cX12_guest 76 = .ok (.ireturn, 1) := by decide +kernel
theorem dX12_guest_77 : decode cX12_guest 77 = .ok (.iload_n 3, 1) := by decide +kernel
theorem dX12_guest_78 : decode cX12_guest 78 = .ok (.ireturn, 1) := by decide +kernel
theorem dX12_guest_79 : decode cX12_guest 79 = .ok (.iload_n 3, 1) := by decide +kernel
theorem dX12_guest_80 : decode cX12_guest 80 = .ok (.ifCond .ge 7, 3) := by decide +kernel
theorem dX12_guest_83 : decode cX12_guest 83 = .ok (.iconst 0, 1) := by decide +kernel
theorem dX12_guest_84 : decode cX12_guest 84 = .ok (.goto 9, 3) := by decide +kernel
theorem dX12_guest_87 : decode cX12_guest 87 = .ok (.aload_n 0, 1) := by decide +kernel
theorem dX12_guest_88 : decode cX12_guest 88 = .ok (.iload_n 1, 1) := by decide +kernel
theorem dX12_guest_89 : decode cX12_guest 89 = .ok (.iload_n 3, 1) := by decide +kernel
theorem dX12_guest_90 : decode cX12_guest 90 = .ok (.invokevirtual 403, 3) := by decide +kernel
theorem dX12_guest_93 : decode cX12_guest 93 = .ok (.ireturn, 1) := by decide +kernel
theorem dX12_guest_94 : decode cX12_guest 94 = .ok (.bipush (-2), 2) := by decide +kernel
theorem dX12_guest_96 : decode cX12_guest 96 = .ok (.ireturn, 1) := by decide +kernel
theorem dX12_worth_0 : decode cX12_worth 0 = .ok (.aload_n 0, 1) := by decide +kernel
theorem dX12_worth_1 : decode cX12_worth 1 = .ok (.iload_n 1, 1) := by decide +kernel
theorem dX12_worth_2 : decode cX12_worth 2 = .ok (.invokevirtual 397, 3) := by decide +kernel
theorem dX12_worth_5 : decode cX12_worth 5 = .ok (.ifCond .eq 11, 3) := by decide +kernel
theorem dX12_worth_8 : decode cX12_worth 8 = .ok (.aload_n 0, 1) := by decide +kernel
theorem dX12_worth_9 : decode cX12_worth 9 = .ok (.iload_n 2, 1) := by decide +kernel
theorem dX12_worth_10 : decode cX12_worth 10 = .ok (.invokevirtual 391, 3) := by decide +kernel
theorem dX12_worth_13 : decode cX12_worth 13 = .ok (.ifCond .ne 7, 3) := by decide +kernel
theorem dX12_worth_16 : decode cX12_worth 16 = .ok (.ldc_w 406, 3) := by decide +kernel
theorem dX12_worth_19 : decode cX12_worth 19 = .ok (.ireturn, 1) := by decide +kernel
theorem dX12_worth_20 : decode cX12_worth 20 = .ok (.aload_n 0, 1) := by decide +kernel
theorem dX12_worth_21 : decode cX12_worth 21 = .ok (.invokevirtual 394, 3) := by decide +kernel
theorem dX12_worth_24 : decode cX12_worth 24 = .ok (.aload_n 0, 1) := by decide +kernel
theorem dX12_worth_25 : decode cX12_worth 25 = .ok (.iload_n 1, 1) := by decide +kernel
theorem dX12_worth_26 : decode cX12_worth 26 = .ok (.iload_n 2, 1) := by decide +kernel
theorem dX12_worth_27 : decode cX12_worth 27 = .ok (.invokevirtual 403, 3) := by decide +kernel
theorem dX12_worth_30 : decode cX12_worth 30 = .ok (.ireturn, 1) := by decide +kernel
theorem dX12_slip_0 : decode cX12_slip 0 = .ok (.aload_n 0, 1) := by decide +kernel
theorem dX12_slip_1 : decode cX12_slip 1 = .ok (.invokevirtual 394, 3) := by decide +kernel
theorem dX12_slip_4 : decode cX12_slip 4 = .ok (.aload_n 0, 1) := by decide +kernel
theorem dX12_slip_5 : decode cX12_slip 5 = .ok (.iload_n 1, 1) := by decide +kernel
theorem dX12_slip_6 : decode cX12_slip 6 = .ok (.iload_n 2, 1) := by decide +kernel
theorem dX12_slip_7 : decode cX12_slip 7 = .ok (.iload_n 3, 1) := by decide +kernel
theorem dX12_slip_8 : decode cX12_slip 8 = .ok (.invokevirtual 407, 3) := by decide +kernel
theorem dX12_slip_11 : decode cX12_slip 11 = .ok (.ifCond .eq 12, 3) := by decide +kernel
theorem dX12_slip_14 : decode cX12_slip 14 = .ok (.aload_n 0, 1) := by decide +kernel
theorem dX12_slip_15 : decode cX12_slip 15 = .ok (.iload_n 1, 1) := by decide +kernel
theorem dX12_slip_16 : decode cX12_slip 16 = .ok (.iload_n 2, 1) := by decide +kernel
theorem dX12_slip_17 : decode cX12_slip 17 = .ok (.invokevirtual 410, 3) := by decide +kernel
theorem dX12_slip_20 : decode cX12_slip 20 = .ok (.goto 4, 3) := by decide +kernel
theorem dX12_slip_23 : decode cX12_slip 23 = .ok (.iconst (-1), 1) := by decide +kernel
theorem dX12_slip_24 : decode cX12_slip 24 = .ok (.ireturn, 1) := by decide +kernel
theorem dX12_act_0 : decode cX12_act 0 = .ok (.aload_n 0, 1) := by decide +kernel
theorem dX12_act_1 : decode cX12_act 1 = .ok (.getfield 359, 3) := by decide +kernel
theorem dX12_act_4 : decode cX12_act 4 = .ok (.bipush 40, 2) := by decide +kernel
theorem dX12_act_6 : decode cX12_act 6 = .ok (.if_icmp .ne 44, 3) := by decide +kernel
theorem dX12_act_9 : decode cX12_act 9 = .ok (.iconst 0, 1) := by decide +kernel
theorem dX12_act_10 : decode cX12_act 10 = .ok (.istore_n 1, 1) := by decide +kernel
theorem dX12_act_11 : decode cX12_act 11 = .ok (.iload_n 1, 1) := by decide +kernel
theorem dX12_act_12 : decode cX12_act 12 = .ok (.sipush 6669, 3) := by decide +kernel
theorem dX12_act_15 : decode cX12_act 15 = .ok (.if_icmp .ge 25, 3) := by decide +kernel
theorem dX12_act_18 : decode cX12_act 18 = .ok (.aload_n 0, 1) := by decide +kernel
theorem dX12_act_19 : decode cX12_act 19 = .ok (.getfield 97, 3) := by decide +kernel
theorem dX12_act_22 : decode cX12_act 22 = .ok (.iload_n 1, 1) := by decide +kernel
theorem dX12_act_23 : decode cX12_act 23 = .ok (.aload_n 0, 1) := by decide +kernel
theorem dX12_act_24 : decode cX12_act 24 = .ok (.getfield 97, 3) := by decide +kernel
theorem dX12_act_27 : decode cX12_act 27 = .ok (.sipush 171, 3) := by decide +kernel
theorem dX12_act_30 : decode cX12_act 30 = .ok (.iload_n 1, 1) := by decide +kernel
theorem dX12_act_31 : decode cX12_act 31 = .ok (.iadd, 1) := by decide +kernel
theorem dX12_act_32 : decode cX12_act 32 = .ok (.iaload, 1) := by decide +kernel
theorem dX12_act_33 : decode cX12_act 33 = .ok (.iastore, 1) := by decide +kernel
theorem dX12_act_34 : decode cX12_act 34 = .ok (.iinc 1 1, 3) := by decide +kernel
theorem dX12_act_37 : decode cX12_act 37 = .ok (.goto (-26), 3) := by decide +kernel
theorem dX12_act_40 : decode cX12_act 40 = .ok (.aload_n 0, 1) := by decide +kernel
theorem dX12_act_41 : decode cX12_act 41 = .ok (.dup, 1) := by decide +kernel
theorem dX12_act_42 : decode cX12_act 42 = .ok (.getfield 359, 3) := by decide +kernel
theorem dX12_act_45 : decode cX12_act 45 = .ok (.iconst 1, 1) := by decide +kernel
theorem dX12_act_46 : decode cX12_act 46 = .ok (.isub, 1) := by decide +kernel
theorem dX12_act_47 : decode cX12_act 47 = .ok (.putfield 359, 3) := by decide +kernel
theorem dX12_act_50 : decode cX12_act 50 = .ok (.iconst 0, 1) := by decide +kernel
theorem dX12_act_51 : decode cX12_act 51 = .ok (.istore_n 1, 1) := by decide +kernel
theorem dX12_act_52 : decode cX12_act 52 = .ok (.iload_n 1, 1) := by decide +kernel
theorem dX12_act_53 : decode cX12_act 53 = .ok (.sipush 171, 3) := by decide +kernel
theorem dX12_act_56 : decode cX12_act 56 = .ok (.if_icmp .ge 30, 3) := by decide +kernel
theorem dX12_act_59 : decode cX12_act 59 = .ok (.aload_n 0, 1) := by decide +kernel
theorem dX12_act_60 : decode cX12_act 60 = .ok (.getfield 97, 3) := by decide +kernel
theorem dX12_act_63 : decode cX12_act 63 = .ok (.sipush 171, 3) := by decide +kernel
theorem dX12_act_66 : decode cX12_act 66 = .ok (.aload_n 0, 1) := by decide +kernel
theorem dX12_act_67 : decode cX12_act 67 = .ok (.getfield 359, 3) := by decide +kernel
theorem dX12_act_70 : decode cX12_act 70 = .ok (.imul, 1) := by decide +kernel
theorem dX12_act_71 : decode cX12_act 71 = .ok (.iload_n 1, 1) := by decide +kernel
theorem dX12_act_72 : decode cX12_act 72 = .ok (.iadd, 1) := by decide +kernel
theorem dX12_act_73 : decode cX12_act 73 = .ok (.aload_n 0, 1) := by decide +kernel
theorem dX12_act_74 : decode cX12_act 74 = .ok (.getfield 91, 3) := by decide +kernel
theorem dX12_act_77 : decode cX12_act 77 = .ok (.iload_n 1, 1) := by decide +kernel
theorem dX12_act_78 : decode cX12_act 78 = .ok (.iaload, 1) := by decide +kernel
theorem dX12_act_79 : decode cX12_act 79 = .ok (.iastore, 1) := by decide +kernel
theorem dX12_act_80 : decode cX12_act 80 = .ok (.iinc 1 1, 3) := by decide +kernel
theorem dX12_act_83 : decode cX12_act 83 = .ok (.goto (-31), 3) := by decide +kernel
theorem dX12_act_86 : decode cX12_act 86 = .ok (.aload_n 0, 1) := by decide +kernel
theorem dX12_act_87 : decode cX12_act 87 = .ok (.dup, 1) := by decide +kernel
theorem dX12_act_88 : decode cX12_act 88 = .ok (.getfield 359, 3) := by decide +kernel
theorem dX12_act_91 : decode cX12_act 91 = .ok (.iconst 1, 1) := by decide +kernel
theorem dX12_act_92 : decode cX12_act 92 = .ok (.iadd, 1) := by decide +kernel
theorem dX12_act_93 : decode cX12_act 93 = .ok (.putfield 359, 3) := by decide +kernel
theorem dX12_act_96 : decode cX12_act 96 = .ok (.aload_n 0, 1) := by decide +kernel
theorem dX12_act_97 : decode cX12_act 97 = .ok (.iconst 0, 1) := by decide +kernel
theorem dX12_act_98 : decode cX12_act 98 = .ok (.putfield 362, 3) := by decide +kernel
theorem dX12_act_101 : decode cX12_act 101 = .ok (.return_, 1) := by decide +kernel
theorem dX12_turnAbout_0 : decode cX12_turnAbout 0 = .ok (.iconst 0, 1) := by decide +kernel
theorem dX12_turnAbout_1 : decode cX12_turnAbout 1 = .ok (.istore_n 2, 1) := by decide +kernel
theorem dX12_turnAbout_2 : decode cX12_turnAbout 2 = .ok (.iload_n 2, 1) := by decide +kernel
theorem dX12_turnAbout_3 : decode cX12_turnAbout 3 = .ok (.sipush 171, 3) := by decide +kernel
theorem dX12_turnAbout_6 : decode cX12_turnAbout 6 = .ok (.if_icmp .ge 39, 3) := by decide +kernel
theorem dX12_turnAbout_9 : decode cX12_turnAbout 9 = .ok (.aload_n 0, 1) := by decide +kernel
theorem dX12_turnAbout_10 : decode cX12_turnAbout 10 = .ok (.getfield 97, 3) := by decide +kernel
theorem dX12_turnAbout_13 : decode cX12_turnAbout 13 = .ok (.iload_n 1, 1) := by decide +kernel
theorem dX12_turnAbout_14 : decode cX12_turnAbout 14 = .ok (.iload_n 2, 1) := by decide +kernel
theorem dX12_turnAbout_15 : decode cX12_turnAbout 15 = .ok (.iadd, 1) := by decide +kernel
theorem dX12_turnAbout_16 : decode cX12_turnAbout 16 = .ok (.iaload, 1) := by decide +kernel
theorem dX12_turnAbout_17 : decode cX12_turnAbout 17 = .ok (.istore_n 3, 1) := by decide +kernel
theorem dX12_turnAbout_18 : decode cX12_turnAbout 18 = .ok (.aload_n 0, 1) := by decide +kernel
theorem dX12_turnAbout_19 : decode cX12_turnAbout 19 = .ok (.getfield 97, 3) := by decide +kernel
theorem dX12_turnAbout_22 : decode cX12_turnAbout 22 = .ok (.iload_n 1, 1) := by decide +kernel
theorem dX12_turnAbout_23 : decode cX12_turnAbout 23 = .ok (.iload_n 2, 1) := by decide +kernel
theorem dX12_turnAbout_24 : decode cX12_turnAbout 24 = .ok (.iadd, 1) := by decide +kernel
theorem dX12_turnAbout_25 : decode cX12_turnAbout 25 = .ok (.aload_n 0, 1) := by decide +kernel
theorem dX12_turnAbout_26 : decode cX12_turnAbout 26 = .ok (.getfield 91, 3) := by decide +kernel
theorem dX12_turnAbout_29 : decode cX12_turnAbout 29 = .ok (.iload_n 2, 1) := by decide +kernel
theorem dX12_turnAbout_30 : decode cX12_turnAbout 30 = .ok (.iaload, 1) := by decide +kernel
theorem dX12_turnAbout_31 : decode cX12_turnAbout 31 = .ok (.iastore, 1) := by decide +kernel
theorem dX12_turnAbout_32 : decode cX12_turnAbout 32 = .ok (.aload_n 0, 1) := by decide +kernel
theorem dX12_turnAbout_33 : decode cX12_turnAbout 33 = .ok (.getfield 91, 3) := by decide +kernel
theorem dX12_turnAbout_36 : decode cX12_turnAbout 36 = .ok (.iload_n 2, 1) := by decide +kernel
theorem dX12_turnAbout_37 : decode cX12_turnAbout 37 = .ok (.iload_n 3, 1) := by decide +kernel
theorem dX12_turnAbout_38 : decode cX12_turnAbout 38 = .ok (.iastore, 1) := by decide +kernel
theorem dX12_turnAbout_39 : decode cX12_turnAbout 39 = .ok (.iinc 2 1, 3) := by decide +kernel
theorem dX12_turnAbout_42 : decode cX12_turnAbout 42 = .ok (.goto (-40), 3) := by decide +kernel
theorem dX12_turnAbout_45 : decode cX12_turnAbout 45 = .ok (.return_, 1) := by decide +kernel
theorem dX12_cut_0 : decode cX12_cut 0 = .ok (.aload_n 0, 1) := by decide +kernel
theorem dX12_cut_1 : decode cX12_cut 1 = .ok (.invokevirtual 394, 3) := by decide +kernel
theorem dX12_cut_4 : decode cX12_cut 4 = .ok (.aload_n 0, 1) := by decide +kernel
theorem dX12_cut_5 : decode cX12_cut 5 = .ok (.iload_n 1, 1) := by decide +kernel
theorem dX12_cut_6 : decode cX12_cut 6 = .ok (.iload_n 2, 1) := by decide +kernel
theorem dX12_cut_7 : decode cX12_cut 7 = .ok (.iload_n 3, 1) := by decide +kernel
theorem dX12_cut_8 : decode cX12_cut 8 = .ok (.invokevirtual 407, 3) := by decide +kernel
theorem dX12_cut_11 : decode cX12_cut 11 = .ok (.ifCond .ne 5, 3) := by decide +kernel
theorem dX12_cut_14 : decode cX12_cut 14 = .ok (.iconst (-1), 1) := by decide +kernel
theorem dX12_cut_15 : decode cX12_cut 15 = .ok (.ireturn, 1) := by decide +kernel
theorem dX12_cut_16 : decode cX12_cut 16 = .ok (.aload_n 0, 1) := by decide +kernel
theorem dX12_cut_17 : decode cX12_cut 17 = .ok (.invokevirtual 413, 3) := by decide +kernel
theorem dX12_cut_20 : decode cX12_cut 20 = .ok (.aload_n 0, 1) := by decide +kernel
theorem dX12_cut_21 : decode cX12_cut 21 = .ok (.iload_n 1, 1) := by decide +kernel
theorem dX12_cut_22 : decode cX12_cut 22 = .ok (.iload_n 2, 1) := by decide +kernel
theorem dX12_cut_23 : decode cX12_cut 23 = .ok (.invokevirtual 410, 3) := by decide +kernel
theorem dX12_cut_26 : decode cX12_cut 26 = .ok (.istore 4, 2) := by decide +kernel
theorem dX12_cut_28 : decode cX12_cut 28 = .ok (.aload_n 0, 1) := by decide +kernel
theorem dX12_cut_29 : decode cX12_cut 29 = .ok (.iload_n 1, 1) := by decide +kernel
theorem dX12_cut_30 : decode cX12_cut 30 = .ok (.iload_n 2, 1) := by decide +kernel
theorem dX12_cut_31 : decode cX12_cut 31 = .ok (.iload_n 3, 1) := by decide +kernel
theorem dX12_cut_32 : decode cX12_cut 32 = .ok (.invokevirtual 416, 3) := by decide +kernel
theorem dX12_cut_35 : decode cX12_cut 35 = .ok (.istore 5, 2) := by decide +kernel
theorem dX12_cut_37 : decode cX12_cut 37 = .ok (.aload_n 0, 1) := by decide +kernel
theorem dX12_cut_38 : decode cX12_cut 38 = .ok (.getfield 94, 3) := by decide +kernel
theorem dX12_cut_41 : decode cX12_cut 41 = .ok (.sipush 170, 3) := by decide +kernel
theorem dX12_cut_44 : decode cX12_cut 44 = .ok (.aload_n 0, 1) := by decide +kernel
theorem dX12_cut_45 : decode cX12_cut 45 = .ok (.getfield 94, 3) := by decide +kernel
theorem dX12_cut_48 : decode cX12_cut 48 = .ok (.sipush 170, 3) := by decide +kernel
theorem dX12_cut_51 : decode cX12_cut 51 = .ok (.iaload, 1) := by decide +kernel
theorem dX12_cut_52 : decode cX12_cut 52 = .ok (.sipush 137, 3) := by decide +kernel
theorem dX12_cut_55 : decode cX12_cut 55 = .ok (.imul, 1) := by decide +kernel
theorem dX12_cut_56 : decode cX12_cut 56 = .ok (.bipush 71, 2) := by decide +kernel
theorem dX12_cut_58 : decode cX12_cut 58 = .ok (.iadd, 1) := by decide +kernel
theorem dX12_cut_59 : decode cX12_cut 59 = .ok (.sipush 1000, 3) := by decide +kernel
theorem dX12_cut_62 : decode cX12_cut 62 = .ok (.irem, 1) := by decide +kernel
theorem dX12_cut_63 : decode cX12_cut 63 = .ok (.iastore, 1) := by decide +kernel
theorem dX12_cut_64 : decode cX12_cut 64 = .ok (.aload_n 0, 1) := by decide +kernel
theorem dX12_cut_65 : decode cX12_cut 65 = .ok (.getfield 94, 3) := by decide +kernel
theorem dX12_cut_68 : decode cX12_cut 68 = .ok (.sipush 170, 3) := by decide +kernel
theorem dX12_cut_71 : decode cX12_cut 71 = .ok (.iaload, 1) := by decide +kernel
theorem dX12_cut_72 : decode cX12_cut 72 = .ok (.bipush 100, 2) := by decide +kernel
theorem dX12_cut_74 : decode cX12_cut 74 = .ok (.irem, 1) := by decide +kernel
theorem dX12_cut_75 : decode cX12_cut 75 = .ok (.iload 4, 2) := by decide +kernel
theorem dX12_cut_77 : decode cX12_cut 77 = .ok (.if_icmp .ge 16, 3) := by decide +kernel
theorem dX12_cut_80 : decode cX12_cut 80 = .ok (.aload_n 0, 1) := by decide +kernel
theorem dX12_cut_81 : decode cX12_cut 81 = .ok (.getfield 94, 3) := by decide +kernel
theorem dX12_cut_84 : decode cX12_cut 84 = .ok (.bipush 7, 2) := by decide +kernel
theorem dX12_cut_86 : decode cX12_cut 86 = .ok (.iload 5, 2) := by decide +kernel
theorem dX12_cut_88 : decode cX12_cut 88 = .ok (.imul, 1) := by decide +kernel
theorem dX12_cut_89 : decode cX12_cut 89 = .ok (.iconst 5, 1) := by decide +kernel
theorem dX12_cut_90 : decode cX12_cut 90 = .ok (.iadd, 1) := by decide +kernel
theorem dX12_cut_91 : decode cX12_cut 91 = .ok (.iconst 1, 1) := by decide +kernel
theorem dX12_cut_92 : decode cX12_cut 92 = .ok (.iastore, 1) := by decide +kernel
theorem dX12_cut_93 : decode cX12_cut 93 = .ok (.aload_n 0, 1) := by decide +kernel
theorem dX12_cut_94 : decode cX12_cut 94 = .ok (.getfield 94, 3) := by decide +kernel
theorem dX12_cut_97 : decode cX12_cut 97 = .ok (.sipush 169, 3) := by decide +kernel
theorem dX12_cut_100 : decode cX12_cut 100 = .ok (.dup2, 1) := by decide +kernel
theorem dX12_cut_101 : decode cX12_cut 101 = .ok (.iaload, 1) := by decide +kernel
theorem dX12_cut_102 : decode cX12_cut 102 = .ok (.aload_n 0, 1) := by decide +kernel
theorem dX12_cut_103 : decode cX12_cut 103 = .ok (.getfield 88, 3) := by decide +kernel
theorem dX12_cut_106 : decode cX12_cut 106 = .ok (.iadd, 1) := by decide +kernel
theorem dX12_cut_107 : decode cX12_cut 107 = .ok (.iastore, 1) := by decide +kernel
theorem dX12_cut_108 : decode cX12_cut 108 = .ok (.iconst 0, 1) := by decide +kernel
theorem dX12_cut_109 : decode cX12_cut 109 = .ok (.istore 6, 2) := by decide +kernel
theorem dX12_cut_111 : decode cX12_cut 111 = .ok (.iload 6, 2) := by decide +kernel
theorem dX12_cut_113 : decode cX12_cut 113 = .ok (.sipush 171, 3) := by decide +kernel
theorem dX12_cut_116 : decode cX12_cut 116 = .ok (.if_icmp .ge 23, 3) := by decide +kernel
theorem dX12_cut_119 : decode cX12_cut 119 = .ok (.aload_n 0, 1) := by decide +kernel
theorem dX12_cut_120 : decode cX12_cut 120 = .ok (.getfield 91, 3) := by decide +kernel
theorem dX12_cut_123 : decode cX12_cut 123 = .ok (.iload 6, 2) := by decide +kernel
theorem dX12_cut_125 : decode cX12_cut 125 = .ok (.aload_n 0, 1) := by decide +kernel
theorem dX12_cut_126 : decode cX12_cut 126 = .ok (.getfield 94, 3) := by decide +kernel
theorem dX12_cut_129 : decode cX12_cut 129 = .ok (.iload 6, 2) := by decide +kernel
theorem dX12_cut_131 : decode cX12_cut 131 = .ok (.iaload, 1) := by decide +kernel
theorem dX12_cut_132 : decode cX12_cut 132 = .ok (.iastore, 1) := by decide +kernel
theorem dX12_cut_133 : decode cX12_cut 133 = .ok (.iinc 6 1, 3) := by decide +kernel
theorem dX12_cut_136 : decode cX12_cut 136 = .ok (.goto (-25), 3) := by decide +kernel
theorem dX12_cut_139 : decode cX12_cut 139 = .ok (.iload 5, 2) := by decide +kernel
theorem dX12_cut_141 : decode cX12_cut 141 = .ok (.ireturn, 1) := by decide +kernel
theorem dX12_give_0 : decode cX12_give 0 = .ok (.aload_n 0, 1) := by decide +kernel
theorem dX12_give_1 : decode cX12_give 1 = .ok (.invokevirtual 394, 3) := by decide +kernel
theorem dX12_give_4 : decode cX12_give 4 = .ok (.aload_n 0, 1) := by decide +kernel
theorem dX12_give_5 : decode cX12_give 5 = .ok (.iload_n 1, 1) := by decide +kernel
theorem dX12_give_6 : decode cX12_give 6 = .ok (.invokevirtual 391, 3) := by decide +kernel
theorem dX12_give_9 : decode cX12_give 9 = .ok (.ifCond .eq 27, 3) := by decide +kernel
theorem dX12_give_12 : decode cX12_give 12 = .ok (.aload_n 0, 1) := by decide +kernel
theorem dX12_give_13 : decode cX12_give 13 = .ok (.iload_n 2, 1) := by decide +kernel
theorem dX12_give_14 : decode cX12_give 14 = .ok (.invokevirtual 397, 3) := by decide +kernel
theorem dX12_give_17 : decode cX12_give 17 = .ok (.ifCond .eq 19, 3) := by decide +kernel
theorem dX12_give_20 : decode cX12_give 20 = .ok (.aload_n 0, 1) := by decide +kernel
theorem dX12_give_21 : decode cX12_give 21 = .ok (.iload_n 1, 1) := by decide +kernel
theorem dX12_give_22 : decode cX12_give 22 = .ok (.invokevirtual 388, 3) := by decide +kernel
theorem dX12_give_25 : decode cX12_give 25 = .ok (.ifCond .eq 11, 3) := by decide +kernel
theorem dX12_give_28 : decode cX12_give 28 = .ok (.aload_n 0, 1) := by decide +kernel
theorem dX12_give_29 : decode cX12_give 29 = .ok (.iload_n 2, 1) := by decide +kernel
theorem dX12_give_30 : decode cX12_give 30 = .ok (.invokevirtual 400, 3) := by decide +kernel
theorem dX12_give_33 : decode cX12_give 33 = .ok (.ifCond .lt 5, 3) := by decide +kernel
theorem dX12_give_36 : decode cX12_give 36 = .ok (.iconst (-1), 1) := by decide +kernel
theorem dX12_give_37 : decode cX12_give 37 = .ok (.ireturn, 1) := by decide +kernel
theorem dX12_give_38 : decode cX12_give 38 = .ok (.aload_n 0, 1) := by decide +kernel
theorem dX12_give_39 : decode cX12_give 39 = .ok (.invokevirtual 413, 3) := by decide +kernel
theorem dX12_give_42 : decode cX12_give 42 = .ok (.aload_n 0, 1) := by decide +kernel
theorem dX12_give_43 : decode cX12_give 43 = .ok (.getfield 91, 3) := by decide +kernel
theorem dX12_give_46 : decode cX12_give 46 = .ok (.bipush 7, 2) := by decide +kernel
theorem dX12_give_48 : decode cX12_give 48 = .ok (.iload_n 1, 1) := by decide +kernel
theorem dX12_give_49 : decode cX12_give 49 = .ok (.imul, 1) := by decide +kernel
theorem dX12_give_50 : decode cX12_give 50 = .ok (.bipush 6, 2) := by decide +kernel
theorem dX12_give_52 : decode cX12_give 52 = .ok (.iadd, 1) := by decide +kernel
theorem dX12_give_53 : decode cX12_give 53 = .ok (.iload_n 2, 1) := by decide +kernel
theorem dX12_give_54 : decode cX12_give 54 = .ok (.iastore, 1) := by decide +kernel
theorem dX12_give_55 : decode cX12_give 55 = .ok (.iconst 0, 1) := by decide +kernel
theorem dX12_give_56 : decode cX12_give 56 = .ok (.istore_n 3, 1) := by decide +kernel
theorem dX12_give_57 : decode cX12_give 57 = .ok (.iconst 0, 1) := by decide +kernel
theorem dX12_give_58 : decode cX12_give 58 = .ok (.istore 4, 2) := by decide +kernel
theorem dX12_give_60 : decode cX12_give 60 = .ok (.iload 4, 2) := by decide +kernel
theorem dX12_give_62 : decode cX12_give 62 = .ok (.aload_n 0, 1) := by decide +kernel
theorem dX12_give_63 : decode cX12_give 63 = .ok (.getfield 91, 3) := by decide +kernel
theorem dX12_give_66 : decode cX12_give 66 = .ok (.sipush 168, 3) := by decide +kernel
theorem dX12_give_69 : decode cX12_give 69 = .ok (.iaload, 1) := by decide +kernel
theorem dX12_give_70 : decode cX12_give 70 = .ok (.if_icmp .ge 37, 3) := by decide +kernel
theorem dX12_give_73 : decode cX12_give 73 = .ok (.iload_n 3, 1) := by decide +kernel
theorem dX12_give_74 : decode cX12_give 74 = .ok (.aload_n 0, 1) := by decide +kernel
theorem dX12_give_75 : decode cX12_give 75 = .ok (.getfield 91, 3) := by decide +kernel
theorem dX12_give_78 : decode cX12_give 78 = .ok (.bipush 7, 2) := by decide +kernel
theorem dX12_give_80 : decode cX12_give 80 = .ok (.iload 4, 2) := by decide +kernel
theorem dX12_give_82 : decode cX12_give 82 = .ok (.imul, 1) := by decide +kernel
theorem dX12_give_83 : decode cX12_give 83 = .ok (.bipush 6, 2) := by decide +kernel
theorem dX12_give_85 : decode cX12_give 85 = .ok (.iadd, 1) := by decide +kernel
theorem dX12_give_86 : decode cX12_give 86 = .ok (.iaload, 1) := by decide +kernel
theorem dX12_give_87 : decode cX12_give 87 = .ok (.iconst (-1), 1) := by decide +kernel
theorem dX12_give_88 : decode cX12_give 88 = .ok (.if_icmp .eq 7, 3) := by decide +kernel
theorem dX12_give_91 : decode cX12_give 91 = .ok (.iconst 1, 1) := by decide +kernel
theorem dX12_give_92 : decode cX12_give 92 = .ok (.goto 4, 3) := by decide +kernel
theorem dX12_give_95 : decode cX12_give 95 = .ok (.iconst 0, 1) := by decide +kernel
theorem dX12_give_96 : decode cX12_give 96 = .ok (.invokestatic 302, 3) := by decide +kernel
theorem dX12_give_99 : decode cX12_give 99 = .ok (.iadd, 1) := by decide +kernel
theorem dX12_give_100 : decode cX12_give 100 = .ok (.istore_n 3, 1) := by decide +kernel
theorem dX12_give_101 : decode cX12_give 101 = .ok (.iinc 4 1, 3) := by decide +kernel
theorem dX12_give_104 : decode cX12_give 104 = .ok (.goto (-44), 3) := by decide +kernel
theorem dX12_give_107 : decode cX12_give 107 = .ok (.iload_n 3, 1) := by decide +kernel
theorem dX12_give_108 : decode cX12_give 108 = .ok (.ireturn, 1) := by decide +kernel
theorem dX12_back_0 : decode cX12_back 0 = .ok (.aload_n 0, 1) := by decide +kernel
theorem dX12_back_1 : decode cX12_back 1 = .ok (.invokevirtual 394, 3) := by decide +kernel
theorem dX12_back_4 : decode cX12_back 4 = .ok (.aload_n 0, 1) := by decide +kernel
theorem dX12_back_5 : decode cX12_back 5 = .ok (.iload_n 1, 1) := by decide +kernel
theorem dX12_back_6 : decode cX12_back 6 = .ok (.invokevirtual 397, 3) := by decide +kernel
theorem dX12_back_9 : decode cX12_back 9 = .ok (.ifCond .eq 11, 3) := by decide +kernel
theorem dX12_back_12 : decode cX12_back 12 = .ok (.aload_n 0, 1) := by decide +kernel
theorem dX12_back_13 : decode cX12_back 13 = .ok (.iload_n 1, 1) := by decide +kernel
theorem dX12_back_14 : decode cX12_back 14 = .ok (.invokevirtual 400, 3) := by decide +kernel
theorem dX12_back_17 : decode cX12_back 17 = .ok (.goto 4, 3) := by decide +kernel
theorem dX12_back_20 : decode cX12_back 20 = .ok (.iconst (-1), 1) := by decide +kernel
theorem dX12_back_21 : decode cX12_back 21 = .ok (.istore_n 2, 1) := by decide +kernel
theorem dX12_back_22 : decode cX12_back 22 = .ok (.iload_n 2, 1) := by decide +kernel
theorem dX12_back_23 : decode cX12_back 23 = .ok (.ifCond .ge 5, 3) := by decide +kernel
theorem dX12_back_26 : decode cX12_back 26 = .ok (.iconst (-1), 1) := by decide +kernel
theorem dX12_back_27 : decode cX12_back 27 = .ok (.ireturn, 1) := by decide +kernel
theorem dX12_back_28 : decode cX12_back 28 = .ok (.aload_n 0, 1) := by decide +kernel
theorem dX12_back_29 : decode cX12_back 29 = .ok (.invokevirtual 413, 3) := by decide +kernel
theorem dX12_back_32 : decode cX12_back 32 = .ok (.aload_n 0, 1) := by decide +kernel
theorem dX12_back_33 : decode cX12_back 33 = .ok (.getfield 91, 3) := by decide +kernel
theorem dX12_back_36 : decode cX12_back 36 = .ok (.bipush 7, 2) := by decide +kernel
theorem dX12_back_38 : decode cX12_back 38 = .ok (.iload_n 2, 1) := by decide +kernel
theorem dX12_back_39 : decode cX12_back 39 = .ok (.imul, 1) := by decide +kernel
theorem dX12_back_40 : decode cX12_back 40 = .ok (.bipush 6, 2) := by decide +kernel
theorem dX12_back_42 : decode cX12_back 42 = .ok (.iadd, 1) := by decide +kernel
theorem dX12_back_43 : decode cX12_back 43 = .ok (.iconst (-1), 1) := by decide +kernel
theorem dX12_back_44 : decode cX12_back 44 = .ok (.iastore, 1) := by decide +kernel
theorem dX12_back_45 : decode cX12_back 45 = .ok (.iload_n 2, 1) := by decide +kernel
theorem dX12_back_46 : decode cX12_back 46 = .ok (.ireturn, 1) := by decide +kernel
theorem dX12_exchange_0 : decode cX12_exchange 0 = .ok (.aload_n 0, 1) := by decide +kernel
theorem dX12_exchange_1 : decode cX12_exchange 1 = .ok (.invokevirtual 394, 3) := by decide +kernel
theorem dX12_exchange_4 : decode cX12_exchange 4 = .ok (.aload_n 0, 1) := by decide +kernel
theorem dX12_exchange_5 : decode cX12_exchange 5 = .ok (.iload_n 1, 1) := by decide +kernel
theorem dX12_exchange_6 : decode cX12_exchange 6 = .ok (.invokevirtual 397, 3) := by decide +kernel
theorem dX12_exchange_9 : decode cX12_exchange 9 = .ok (.ifCond .eq 32, 3) := by decide +kernel
theorem dX12_exchange_12 : decode cX12_exchange 12 = .ok (.aload_n 0, 1) := by decide +kernel
theorem dX12_exchange_13 : decode cX12_exchange 13 = .ok (.iload_n 2, 1) := by decide +kernel
theorem dX12_exchange_14 : decode cX12_exchange 14 = .ok (.invokevirtual 397, 3) := by decide +kernel
theorem dX12_exchange_17 : decode cX12_exchange 17 = .ok (.ifCond .eq 24, 3) := by decide +kernel
theorem dX12_exchange_20 : decode cX12_exchange 20 = .ok (.iload_n 1, 1) := by decide +kernel
theorem dX12_exchange_21 : decode cX12_exchange 21 = .ok (.iload_n 2, 1) := by decide +kernel
theorem dX12_exchange_22 : decode cX12_exchange 22 = .ok (.if_icmp .eq 19, 3) := by decide +kernel
theorem dX12_exchange_25 : decode cX12_exchange 25 = .ok (.aload_n 0, 1) := by decide +kernel
theorem dX12_exchange_26 : decode cX12_exchange 26 = .ok (.iload_n 1, 1) := by decide +kernel
theorem dX12_exchange_27 : decode cX12_exchange 27 = .ok (.invokevirtual 400, 3) := by decide +kernel
theorem dX12_exchange_30 : decode cX12_exchange 30 = .ok (.ifCond .lt 11, 3) := by decide +kernel
theorem dX12_exchange_33 : decode cX12_exchange 33 = .ok (.aload_n 0, 1) := by decide +kernel
theorem dX12_exchange_34 : decode cX12_exchange 34 = .ok (.iload_n 2, 1) := by decide +kernel
theorem dX12_exchange_35 : decode cX12_exchange 35 = .ok (.invokevirtual 400, 3) := by decide +kernel
theorem dX12_exchange_38 : decode cX12_exchange 38 = .ok (.ifCond .ge 5, 3) := by decide +kernel
theorem dX12_exchange_41 : decode cX12_exchange 41 = .ok (.iconst (-1), 1) := by decide +kernel
theorem dX12_exchange_42 : decode cX12_exchange 42 = .ok (.ireturn, 1) := by decide +kernel
theorem dX12_exchange_43 : decode cX12_exchange 43 = .ok (.aload_n 0, 1) := by decide +kernel
theorem dX12_exchange_44 : decode cX12_exchange 44 = .ok (.invokevirtual 413, 3) := by decide +kernel
theorem dX12_exchange_47 : decode cX12_exchange 47 = .ok (.aload_n 0, 1) := by decide +kernel
theorem dX12_exchange_48 : decode cX12_exchange 48 = .ok (.getfield 91, 3) := by decide +kernel
theorem dX12_exchange_51 : decode cX12_exchange 51 = .ok (.bipush 7, 2) := by decide +kernel
theorem dX12_exchange_53 : decode cX12_exchange 53 = .ok (.aload_n 0, 1) := by decide +kernel
theorem dX12_exchange_54 : decode cX12_exchange 54 = .ok (.iload_n 1, 1) := by decide +kernel
theorem dX12_exchange_55 : decode cX12_exchange 55 = .ok (.invokevirtual 400, 3) := by decide +kernel
theorem dX12_exchange_58 : decode cX12_exchange 58 = .ok (.imul, 1) := by decide +kernel
theorem dX12_exchange_59 : decode cX12_exchange 59 = .ok (.bipush 6, 2) := by decide +kernel
theorem dX12_exchange_61 : decode cX12_exchange 61 = .ok (.iadd, 1) := by decide +kernel
theorem dX12_exchange_62 : decode cX12_exchange 62 = .ok (.iload_n 2, 1) := by decide +kernel
theorem dX12_exchange_63 : decode cX12_exchange 63 = .ok (.iastore, 1) := by decide +kernel
theorem dX12_exchange_64 : decode cX12_exchange 64 = .ok (.aload_n 0, 1) := by decide +kernel
theorem dX12_exchange_65 : decode cX12_exchange 65 = .ok (.getfield 91, 3) := by decide +kernel
theorem dX12_exchange_68 : decode cX12_exchange 68 = .ok (.bipush 7, 2) := by decide +kernel
theorem dX12_exchange_70 : decode cX12_exchange 70 = .ok (.aload_n 0, 1) := by decide +kernel
theorem dX12_exchange_71 : decode cX12_exchange 71 = .ok (.iload_n 2, 1) := by decide +kernel
theorem dX12_exchange_72 : decode cX12_exchange 72 = .ok (.invokevirtual 400, 3) := by decide +kernel
theorem dX12_exchange_75 : decode cX12_exchange 75 = .ok (.imul, 1) := by decide +kernel
theorem dX12_exchange_76 : decode cX12_exchange 76 = .ok (.bipush 6, 2) := by decide +kernel
theorem dX12_exchange_78 : decode cX12_exchange 78 = .ok (.iadd, 1) := by decide +kernel
theorem dX12_exchange_79 : decode cX12_exchange 79 = .ok (.iload_n 1, 1) := by decide +kernel
theorem dX12_exchange_80 : decode cX12_exchange 80 = .ok (.iastore, 1) := by decide +kernel
theorem dX12_exchange_81 : decode cX12_exchange 81 = .ok (.aload_n 0, 1) := by decide +kernel
theorem dX12_exchange_82 : decode cX12_exchange 82 = .ok (.iload_n 2, 1) := by decide +kernel
theorem dX12_exchange_83 : decode cX12_exchange 83 = .ok (.invokevirtual 400, 3) := by decide +kernel
theorem dX12_exchange_86 : decode cX12_exchange 86 = .ok (.ireturn, 1) := by decide +kernel
theorem dX12_undo_0 : decode cX12_undo 0 = .ok (.aload_n 0, 1) := by decide +kernel
theorem dX12_undo_1 : decode cX12_undo 1 = .ok (.getfield 359, 3) := by decide +kernel
theorem dX12_undo_4 : decode cX12_undo 4 = .ok (.ifCond .ne 5, 3) := by decide +kernel
theorem dX12_undo_7 : decode cX12_undo 7 = .ok (.iconst 0, 1) := by decide +kernel
theorem dX12_undo_8 : decode cX12_undo 8 = .ok (.ireturn, 1) := by decide +kernel
theorem dX12_undo_9 : decode cX12_undo 9 = .ok (.aload_n 0, 1) := by decide +kernel
theorem dX12_undo_10 : decode cX12_undo 10 = .ok (.dup, 1) := by decide +kernel
theorem dX12_undo_11 : decode cX12_undo 11 = .ok (.getfield 359, 3) := by decide +kernel
theorem dX12_undo_14 : decode cX12_undo 14 = .ok (.iconst 1, 1) := by decide +kernel
theorem dX12_undo_15 : decode cX12_undo 15 = .ok (.isub, 1) := by decide +kernel
theorem dX12_undo_16 : decode cX12_undo 16 = .ok (.putfield 359, 3) := by decide +kernel
theorem dX12_undo_19 : decode cX12_undo 19 = .ok (.aload_n 0, 1) := by decide +kernel
theorem dX12_undo_20 : decode cX12_undo 20 = .ok (.dup, 1) := by decide +kernel
theorem dX12_undo_21 : decode cX12_undo 21 = .ok (.getfield 362, 3) := by decide +kernel
theorem dX12_undo_24 : decode cX12_undo 24 = .ok (.iconst 1, 1) := by decide +kernel
theorem dX12_undo_25 : decode cX12_undo 25 = .ok (.iadd, 1) := by decide +kernel
theorem dX12_undo_26 : decode cX12_undo 26 = .ok (.putfield 362, 3) := by decide +kernel
theorem dX12_undo_29 : decode cX12_undo 29 = .ok (.aload_n 0, 1) := by decide +kernel
theorem dX12_undo_30 : decode cX12_undo 30 = .ok (.sipush 171, 3) := by decide +kernel
theorem dX12_undo_33 : decode cX12_undo 33 = .ok (.aload_n 0, 1) := by decide +kernel
theorem dX12_undo_34 : decode cX12_undo 34 = .ok (.getfield 359, 3) := by decide +kernel
theorem dX12_undo_37 : decode cX12_undo 37 = .ok (.imul, 1) := by decide +kernel
theorem dX12_undo_38 : decode cX12_undo 38 = .ok (.invokevirtual 419, 3) := by decide +kernel
theorem dX12_undo_41 : decode cX12_undo 41 = .ok (.iconst 1, 1) := by decide +kernel
theorem dX12_undo_42 : decode cX12_undo 42 = .ok (.ireturn, 1) := by decide +kernel
theorem dX12_redo_0 : decode cX12_redo 0 = .ok (.aload_n 0, 1) := by decide +kernel
theorem dX12_redo_1 : decode cX12_redo 1 = .ok (.getfield 362, 3) := by decide +kernel
theorem dX12_redo_4 : decode cX12_redo 4 = .ok (.ifCond .ne 5, 3) := by decide +kernel
theorem dX12_redo_7 : decode cX12_redo 7 = .ok (.iconst 0, 1) := by decide +kernel
theorem dX12_redo_8 : decode cX12_redo 8 = .ok (.ireturn, 1) := by decide +kernel
theorem dX12_redo_9 : decode cX12_redo 9 = .ok (.aload_n 0, 1) := by decide +kernel
theorem dX12_redo_10 : decode cX12_redo 10 = .ok (.sipush 171, 3) := by decide +kernel
theorem dX12_redo_13 : decode cX12_redo 13 = .ok (.aload_n 0, 1) := by decide +kernel
theorem dX12_redo_14 : decode cX12_redo 14 = .ok (.getfield 359, 3) := by decide +kernel
theorem dX12_redo_17 : decode cX12_redo 17 = .ok (.imul, 1) := by decide +kernel
theorem dX12_redo_18 : decode cX12_redo 18 = .ok (.invokevirtual 419, 3) := by decide +kernel
theorem dX12_redo_21 : decode cX12_redo 21 = .ok (.aload_n 0, 1) := by decide +kernel
theorem dX12_redo_22 : decode cX12_redo 22 = .ok (.dup, 1) := by decide +kernel
theorem dX12_redo_23 : decode cX12_redo 23 = .ok (.getfield 359, 3) := by decide +kernel
theorem dX12_redo_26 : decode cX12_redo 26 = .ok (.iconst 1, 1) := by decide +kernel
theorem dX12_redo_27 : decode cX12_redo 27 = .ok (.iadd, 1) := by decide +kernel
theorem dX12_redo_28 : decode cX12_redo 28 = .ok (.putfield 359, 3) := by decide +kernel
theorem dX12_redo_31 : decode cX12_redo 31 = .ok (.aload_n 0, 1) := by decide +kernel
theorem dX12_redo_32 : decode cX12_redo 32 = .ok (.dup, 1) := by decide +kernel
theorem dX12_redo_33 : decode cX12_redo 33 = .ok (.getfield 362, 3) := by decide +kernel
theorem dX12_redo_36 : decode cX12_redo 36 = .ok (.iconst 1, 1) := by decide +kernel
theorem dX12_redo_37 : decode cX12_redo 37 = .ok (.isub, 1) := by decide +kernel
theorem dX12_redo_38 : decode cX12_redo 38 = .ok (.putfield 362, 3) := by decide +kernel
theorem dX12_redo_41 : decode cX12_redo 41 = .ok (.iconst 1, 1) := by decide +kernel
theorem dX12_redo_42 : decode cX12_redo 42 = .ok (.ireturn, 1) := by decide +kernel
theorem dX12_put_0 : decode cX12_put 0 = .ok (.iload_n 1, 1) := by decide +kernel
theorem dX12_put_1 : decode cX12_put 1 = .ok (.istore_n 3, 1) := by decide +kernel
theorem dX12_put_2 : decode cX12_put 2 = .ok (.iload_n 3, 1) := by decide +kernel
theorem dX12_put_3 : decode cX12_put 3 = .ok (.ifCond .le 26, 3) := by decide +kernel
theorem dX12_put_6 : decode cX12_put 6 = .ok (.aload_n 0, 1) := by decide +kernel
theorem dX12_put_7 : decode cX12_put 7 = .ok (.iload_n 3, 1) := by decide +kernel
theorem dX12_put_8 : decode cX12_put 8 = .ok (.iconst 1, 1) := by decide +kernel
theorem dX12_put_9 : decode cX12_put 9 = .ok (.isub, 1) := by decide +kernel
theorem dX12_put_10 : decode cX12_put 10 = .ok (.iaload, 1) := by decide +kernel
theorem dX12_put_11 : decode cX12_put 11 = .ok (.iload_n 2, 1) := by decide +kernel
theorem dX12_put_12 : decode cX12_put 12 = .ok (.if_icmp .le 17, 3) := by decide +kernel
theorem dX12_put_15 : decode cX12_put 15 = .ok (.aload_n 0, 1) := by decide +kernel
theorem dX12_put_16 : decode cX12_put 16 = .ok (.iload_n 3, 1) := by decide +kernel
theorem dX12_put_17 : decode cX12_put 17 = .ok (.aload_n 0, 1) := by decide +kernel
theorem dX12_put_18 : decode cX12_put 18 = .ok (.iload_n 3, 1) := by decide +kernel
theorem dX12_put_19 : decode cX12_put 19 = .ok (.iconst 1, 1) := by decide +kernel
theorem dX12_put_20 : decode cX12_put 20 = .ok (.isub, 1) := by decide +kernel
theorem dX12_put_21 : decode cX12_put 21 = .ok (.iaload, 1) := by decide +kernel
theorem dX12_put_22 : decode cX12_put 22 = .ok (.iastore, 1) := by decide +kernel
theorem dX12_put_23 : decode cX12_put 23 = .ok (.iinc 3 (-1), 3) := by decide +kernel
theorem dX12_put_26 : decode cX12_put 26 = .ok (.goto (-24), 3) := by decide +kernel
theorem dX12_put_29 : decode cX12_put 29 = .ok (.aload_n 0, 1) := by decide +kernel
theorem dX12_put_30 : decode cX12_put 30 = .ok (.iload_n 3, 1) := by decide +kernel
theorem dX12_put_31 : decode cX12_put 31 = .ok (.iload_n 2, 1) := by decide +kernel
theorem dX12_put_32 : decode cX12_put 32 = .ok (.iastore, 1) := by decide +kernel
theorem dX12_put_33 : decode cX12_put 33 = .ok (.return_, 1) := by decide +kernel
theorem dX12_servedBut_0 : decode cX12_servedBut 0 = .ok (.aload_n 0, 1) := by decide +kernel
theorem dX12_servedBut_1 : decode cX12_servedBut 1 = .ok (.iconst 0, 1) := by decide +kernel
theorem dX12_servedBut_2 : decode cX12_servedBut 2 = .ok (.putfield 422, 3) := by decide +kernel
theorem dX12_servedBut_5 : decode cX12_servedBut 5 = .ok (.aload_n 0, 1) := by decide +kernel
theorem dX12_servedBut_6 : decode cX12_servedBut 6 = .ok (.iconst 0, 1) := by decide +kernel
theorem dX12_servedBut_7 : decode cX12_servedBut 7 = .ok (.putfield 425, 3) := by decide +kernel
theorem dX12_servedBut_10 : decode cX12_servedBut 10 = .ok (.iconst 0, 1) := by decide +kernel
theorem dX12_servedBut_11 : decode cX12_servedBut 11 = .ok (.istore_n 3, 1) := by decide +kernel
theorem dX12_servedBut_12 : decode cX12_servedBut 12 = .ok (.iload_n 3, 1) := by decide +kernel
theorem dX12_servedBut_13 : decode cX12_servedBut 13 = .ok (.aload_n 0, 1) := by decide +kernel
theorem dX12_servedBut_14 : decode cX12_servedBut 14 = .ok (.getfield 353, 3) := by decide +kernel
theorem dX12_servedBut_17 : decode cX12_servedBut 17 = .ok (.if_icmp .ge 75, 3) := by decide +kernel
theorem dX12_servedBut_20 : decode cX12_servedBut 20 = .ok (.iload_n 3, 1) := by decide +kernel
theorem dX12_servedBut_21 : decode cX12_servedBut 21 = .ok (.iload_n 1, 1) := by decide +kernel
theorem dX12_servedBut_22 : decode cX12_servedBut 22 = .ok (.if_icmp .eq 64, 3) := by decide +kernel
theorem dX12_servedBut_25 : decode cX12_servedBut 25 = .ok (.aload_n 0, 1) := by decide +kernel
theorem dX12_servedBut_26 : decode cX12_servedBut 26 = .ok (.iload_n 3, 1) := by decide +kernel
theorem dX12_servedBut_27 : decode cX12_servedBut 27 = .ok (.invokevirtual 400, 3) := by decide +kernel
theorem dX12_servedBut_30 : decode cX12_servedBut 30 = .ok (.ifCond .lt 6, 3) := by decide +kernel
theorem dX12_servedBut_33 : decode cX12_servedBut 33 = .ok (.goto 53, 3) := by decide +kernel
theorem dX12_servedBut_36 : decode cX12_servedBut 36 = .ok (.aload_n 0, 1) := by decide +kernel
theorem dX12_servedBut_37 : decode cX12_servedBut 37 = .ok (.getfield 100, 3) := by decide +kernel
theorem dX12_servedBut_40 : decode cX12_servedBut 40 = .ok (.aload_n 0, 1) := by decide +kernel
theorem dX12_servedBut_41 : decode cX12_servedBut 41 = .ok (.getfield 422, 3) := by decide +kernel
theorem dX12_servedBut_44 : decode cX12_servedBut 44 = .ok (.aload_n 0, 1) := by decide +kernel
theorem dX12_servedBut_45 : decode cX12_servedBut 45 = .ok (.getfield 79, 3) := by decide +kernel
theorem dX12_servedBut_48 : decode cX12_servedBut 48 = .ok (.iload_n 3, 1) := by decide +kernel
theorem dX12_servedBut_49 : decode cX12_servedBut 49 = .ok (.iaload, 1) := by decide +kernel
theorem dX12_servedBut_50 : decode cX12_servedBut 50 = .ok (.aload_n 0, 1) := by decide +kernel
theorem dX12_servedBut_51 : decode cX12_servedBut 51 = .ok (.getfield 428, 3) := by decide +kernel
theorem dX12_servedBut_54 : decode cX12_servedBut 54 = .ok (.iadd, 1) := by decide +kernel
theorem dX12_servedBut_55 : decode cX12_servedBut 55 = .ok (.ifCond .ge 7, 3) := by decide +kernel
theorem dX12_servedBut_58 : decode cX12_servedBut 58 = .ok (.iconst 0, 1) := by decide +kernel
theorem dX12_servedBut_59 : decode cX12_servedBut 59 = .ok (.goto 14, 3) := by decide +kernel
theorem dX12_servedBut_62 : decode cX12_servedBut 62 = .ok (.aload_n 0, 1) := by decide +kernel
theorem dX12_servedBut_63 : decode cX12_servedBut 63 = .ok (.getfield 79, 3) := by decide +kernel
theorem dX12_servedBut_66 : decode cX12_servedBut 66 = .ok (.iload_n 3, 1) := by decide +kernel
theorem dX12_servedBut_67 : decode cX12_servedBut 67 = .ok (.iaload, 1) := by decide +kernel
theorem dX12_servedBut_68 : decode cX12_servedBut 68 = .ok (.aload_n 0, 1) := by decide +kernel
theorem dX12_servedBut_69 : decode cX12_servedBut 69 = .ok (.getfield 428, 3) := by decide +kernel
theorem dX12_servedBut_72 : decode cX12_servedBut 72 = .ok (.iadd, 1) := by decide +kernel
theorem dX12_servedBut_73 : decode cX12_servedBut 73 = .ok (.invokestatic 431, 3) := by decide +kernel
theorem dX12_servedBut_76 : decode cX12_servedBut 76 = .ok (.aload_n 0, 1) := by decide +kernel
theorem dX12_servedBut_77 : decode cX12_servedBut 77 = .ok (.dup, 1) := by decide +kernel
theorem dX12_servedBut_78 : decode cX12_servedBut 78 = .ok (.getfield 422, 3) := by decide +kernel
theorem dX12_servedBut_81 : decode cX12_servedBut 81 = .ok (.iconst 1, 1) := by decide +kernel
theorem dX12_servedBut_82 : decode cX12_servedBut 82 = .ok (.iadd, 1) := by decide +kernel
theorem dX12_servedBut_83 : decode cX12_servedBut 83 = .ok (.putfield 422, 3) := by decide +kernel
theorem dX12_servedBut_86 : decode cX12_servedBut 86 = .ok (.iinc 3 1, 3) := by decide +kernel
theorem dX12_servedBut_89 : decode cX12_servedBut 89 = .ok (.goto (-77), 3) := by decide +kernel
theorem dX12_servedBut_92 : decode cX12_servedBut 92 = .ok (.iconst 0, 1) := by decide +kernel
theorem dX12_servedBut_93 : decode cX12_servedBut 93 = .ok (.istore_n 3, 1) := by decide +kernel
theorem dX12_servedBut_94 : decode cX12_servedBut 94 = .ok (.iload_n 3, 1) := by decide +kernel
theorem dX12_servedBut_95 : decode cX12_servedBut 95 = .ok (.aload_n 0, 1) := by decide +kernel
theorem dX12_servedBut_96 : decode cX12_servedBut 96 = .ok (.getfield 94, 3) := by decide +kernel
theorem dX12_servedBut_99 : decode cX12_servedBut 99 = .ok (.sipush 168, 3) := by decide +kernel
theorem dX12_servedBut_102 : decode cX12_servedBut 102 = .ok (.iaload, 1) := by decide +kernel
theorem dX12_servedBut_103 : decode cX12_servedBut 103 = .ok (.if_icmp .ge 51, 3) := by decide +kernel
theorem dX12_servedBut_106 : decode cX12_servedBut 106 = .ok (.iload_n 3, 1) := by decide +kernel
theorem dX12_servedBut_107 : decode cX12_servedBut 107 = .ok (.iload_n 2, 1) := by decide +kernel
theorem dX12_servedBut_108 : decode cX12_servedBut 108 = .ok (.if_icmp .eq 40, 3) := by decide +kernel
theorem dX12_servedBut_111 : decode cX12_servedBut 111 = .ok (.aload_n 0, 1) := by decide +kernel
theorem dX12_servedBut_112 : decode cX12_servedBut 112 = .ok (.iload_n 3, 1) := by decide +kernel
theorem dX12_servedBut_113 : decode cX12_servedBut 113 = .ok (.invokevirtual 388, 3) := by decide +kernel
theorem dX12_servedBut_116 : decode cX12_servedBut 116 = .ok (.ifCond .ne 6, 3) := by decide +kernel
theorem dX12_servedBut_119 : decode cX12_servedBut 119 = .ok (.goto 29, 3) := by decide +kernel
theorem dX12_servedBut_122 : decode cX12_servedBut 122 = .ok (.aload_n 0, 1) := by decide +kernel
theorem dX12_servedBut_123 : decode cX12_servedBut 123 = .ok (.getfield 103, 3) := by decide +kernel
theorem dX12_servedBut_126 : decode cX12_servedBut 126 = .ok (.aload_n 0, 1) := by decide +kernel
theorem dX12_servedBut_127 : decode cX12_servedBut 127 = .ok (.getfield 425, 3) := by decide +kernel
theorem dX12_servedBut_130 : decode cX12_servedBut 130 = .ok (.aload_n 0, 1) := by decide +kernel
theorem dX12_servedBut_131 : decode cX12_servedBut 131 = .ok (.iload_n 3, 1) := by decide +kernel
theorem dX12_servedBut_132 : decode cX12_servedBut 132 = .ok (.invokevirtual 375, 3) := by decide +kernel
theorem dX12_servedBut_135 : decode cX12_servedBut 135 = .ok (.invokestatic 431, 3) := by decide +kernel
theorem dX12_servedBut_138 : decode cX12_servedBut 138 = .ok (.aload_n 0, 1) := by decide +kernel
theorem dX12_servedBut_139 : decode cX12_servedBut 139 = .ok (.dup, 1) := by decide +kernel
theorem dX12_servedBut_140 : decode cX12_servedBut 140 = .ok (.getfield 425, 3) := by decide +kernel
theorem dX12_servedBut_143 : decode cX12_servedBut 143 = .ok (.iconst 1, 1) := by decide +kernel
theorem dX12_servedBut_144 : decode cX12_servedBut 144 = .ok (.iadd, 1) := by decide +kernel
theorem dX12_servedBut_145 : decode cX12_servedBut 145 = .ok (.putfield 425, 3) := by decide +kernel
theorem dX12_servedBut_148 : decode cX12_servedBut 148 = .ok (.iinc 3 1, 3) := by decide +kernel
theorem dX12_servedBut_151 : decode cX12_servedBut 151 = .ok (.goto (-57), 3) := by decide +kernel
theorem dX12_servedBut_154 : decode cX12_servedBut 154 = .ok (.iconst 0, 1) := by decide +kernel
theorem dX12_servedBut_155 : decode cX12_servedBut 155 = .ok (.istore_n 3, 1) := by decide +kernel
theorem dX12_servedBut_156 : decode cX12_servedBut 156 = .ok (.iconst 0, 1) := by decide +kernel
theorem dX12_servedBut_157 : decode cX12_servedBut 157 = .ok (.istore 4, 2) := by decide +kernel
theorem dX12_servedBut_159 : decode cX12_servedBut 159 = .ok (.iload 4, 2) := by decide +kernel
theorem dX12_servedBut_161 : decode cX12_servedBut 161 = .ok (.aload_n 0, 1) := by decide +kernel
theorem dX12_servedBut_162 : decode cX12_servedBut 162 = .ok (.getfield 425, 3) := by decide +kernel
theorem dX12_servedBut_165 : decode cX12_servedBut 165 = .ok (.if_icmp .ge 36, 3) := by decide +kernel
theorem dX12_servedBut_168 : decode cX12_servedBut 168 = .ok (.iload_n 3, 1) := by decide +kernel
theorem dX12_servedBut_169 : decode cX12_servedBut 169 = .ok (.aload_n 0, 1) := by decide +kernel
theorem dX12_servedBut_170 : decode cX12_servedBut 170 = .ok (.getfield 422, 3) := by decide +kernel
theorem dX12_servedBut_173 : decode cX12_servedBut 173 = .ok (.if_icmp .ge 28, 3) := by decide +kernel
theorem dX12_servedBut_176 : decode cX12_servedBut 176 = .ok (.aload_n 0, 1) := by decide +kernel
theorem dX12_servedBut_177 : decode cX12_servedBut 177 = .ok (.getfield 103, 3) := by decide +kernel
theorem dX12_servedBut_180 : decode cX12_servedBut 180 = .ok (.iload 4, 2) := by decide +kernel
theorem dX12_servedBut_182 : decode cX12_servedBut 182 = .ok (.iaload, 1) := by decide +kernel
theorem dX12_servedBut_183 : decode cX12_servedBut 183 = .ok (.aload_n 0, 1) := by decide +kernel
theorem dX12_servedBut_184 : decode cX12_servedBut 184 = .ok (.getfield 100, 3) := by decide +kernel
theorem dX12_servedBut_187 : decode cX12_servedBut 187 = .ok (.iload_n 3, 1) := by decide +kernel
theorem dX12_servedBut_188 : decode cX12_servedBut 188 = .ok (.iaload, 1) := by decide +kernel
theorem dX12_servedBut_189 : decode cX12_servedBut 189 = .ok (.if_icmp .lt 6, 3) := by decide +kernel
theorem dX12_servedBut_192 : decode cX12_servedBut 192 = .ok (.iinc 3 1, 3) := by decide +kernel
theorem dX12_servedBut_195 : decode cX12_servedBut 195 = .ok (.iinc 4 1, 3) := by decide +kernel
theorem dX12_servedBut_198 : decode cX12_servedBut 198 = .ok (.goto (-39), 3) := by decide +kernel
theorem dX12_servedBut_201 : decode cX12_servedBut 201 = .ok (.iload_n 3, 1) := by decide +kernel
theorem dX12_servedBut_202 : decode cX12_servedBut 202 = .ok (.ireturn, 1) := by decide +kernel
theorem dX12_feeds_0 : decode cX12_feeds 0 = .ok (.aload_n 0, 1) := by decide +kernel
theorem dX12_feeds_1 : decode cX12_feeds 1 = .ok (.iload_n 1, 1) := by decide +kernel
theorem dX12_feeds_2 : decode cX12_feeds 2 = .ok (.invokevirtual 397, 3) := by decide +kernel
theorem dX12_feeds_5 : decode cX12_feeds 5 = .ok (.ifCond .ne 5, 3) := by decide +kernel
theorem dX12_feeds_8 : decode cX12_feeds 8 = .ok (.iconst (-1), 1) := by decide +kernel
theorem dX12_feeds_9 : decode cX12_feeds 9 = .ok (.ireturn, 1) := by decide +kernel
theorem dX12_feeds_10 : decode cX12_feeds 10 = .ok (.aload_n 0, 1) := by decide +kernel
theorem dX12_feeds_11 : decode cX12_feeds 11 = .ok (.invokevirtual 394, 3) := by decide +kernel
theorem dX12_feeds_14 : decode cX12_feeds 14 = .ok (.iconst 0, 1) := by decide +kernel
theorem dX12_feeds_15 : decode cX12_feeds 15 = .ok (.istore_n 2, 1) := by decide +kernel
theorem dX12_feeds_16 : decode cX12_feeds 16 = .ok (.iconst 0, 1) := by decide +kernel
theorem dX12_feeds_17 : decode cX12_feeds 17 = .ok (.istore_n 3, 1) := by decide +kernel
theorem dX12_feeds_18 : decode cX12_feeds 18 = .ok (.iload_n 3, 1) := by decide +kernel
theorem dX12_feeds_19 : decode cX12_feeds 19 = .ok (.aload_n 0, 1) := by decide +kernel
theorem dX12_feeds_20 : decode cX12_feeds 20 = .ok (.getfield 94, 3) := by decide +kernel
theorem dX12_feeds_23 : decode cX12_feeds 23 = .ok (.sipush 168, 3) := by decide +kernel
theorem dX12_feeds_26 : decode cX12_feeds 26 = .ok (.iaload, 1) := by decide +kernel
theorem dX12_feeds_27 : decode cX12_feeds 27 = .ok (.if_icmp .ge 44, 3) := by decide +kernel
theorem dX12_feeds_30 : decode cX12_feeds 30 = .ok (.iload_n 2, 1) := by decide +kernel
theorem dX12_feeds_31 : decode cX12_feeds 31 = .ok (.aload_n 0, 1) := by decide +kernel
theorem dX12_feeds_32 : decode cX12_feeds 32 = .ok (.iload_n 3, 1) := by decide +kernel
theorem dX12_feeds_33 : decode cX12_feeds 33 = .ok (.invokevirtual 388, 3) := by decide +kernel
theorem dX12_feeds_36 : decode cX12_feeds 36 = .ok (.ifCond .eq 21, 3) := by decide +kernel
theorem dX12_feeds_39 : decode cX12_feeds 39 = .ok (.aload_n 0, 1) := by decide +kernel
theorem dX12_feeds_40 : decode cX12_feeds 40 = .ok (.iload_n 3, 1) := by decide +kernel
theorem dX12_feeds_41 : decode cX12_feeds 41 = .ok (.invokevirtual 375, 3) := by decide +kernel
theorem dX12_feeds_44 : decode cX12_feeds 44 = .ok (.aload_n 0, 1) := by decide +kernel
theorem dX12_feeds_45 : decode cX12_feeds 45 = .ok (.getfield 79, 3) := by decide +kernel
theorem dX12_feeds_48 : decode cX12_feeds 48 = .ok (.iload_n 1, 1) := by decide +kernel
theorem dX12_feeds_49 : decode cX12_feeds 49 = .ok (.iaload, 1) := by decide +kernel
theorem dX12_feeds_50 : decode cX12_feeds 50 = .ok (.if_icmp .lt 7, 3) := by decide +kernel
theorem dX12_feeds_53 : decode cX12_feeds 53 = .ok (.iconst 1, 1) := by decide +kernel
theorem dX12_feeds_54 : decode cX12_feeds 54 = .ok (.goto 4, 3) := by decide +kernel
theorem dX12_feeds_57 : decode cX12_feeds 57 = .ok (.iconst 0, 1) := by decide +kernel
theorem dX12_feeds_58 : decode cX12_feeds 58 = .ok (.invokestatic 302, 3) := by decide +kernel
theorem dX12_feeds_61 : decode cX12_feeds 61 = .ok (.iload_n 3, 1) := by decide +kernel
theorem dX12_feeds_62 : decode cX12_feeds 62 = .ok (.ishl, 1) := by decide +kernel
theorem dX12_feeds_63 : decode cX12_feeds 63 = .ok (.ior, 1) := by decide +kernel
theorem dX12_feeds_64 : decode cX12_feeds 64 = .ok (.istore_n 2, 1) := by decide +kernel
theorem dX12_feeds_65 : decode cX12_feeds 65 = .ok (.iinc 3 1, 3) := by decide +kernel
theorem dX12_feeds_68 : decode cX12_feeds 68 = .ok (.goto (-50), 3) := by decide +kernel
theorem dX12_feeds_71 : decode cX12_feeds 71 = .ok (.iload_n 2, 1) := by decide +kernel
theorem dX12_feeds_72 : decode cX12_feeds 72 = .ok (.ireturn, 1) := by decide +kernel
theorem dX12_served_0 : decode cX12_served 0 = .ok (.aload_n 0, 1) := by decide +kernel
theorem dX12_served_1 : decode cX12_served 1 = .ok (.invokevirtual 394, 3) := by decide +kernel
theorem dX12_served_4 : decode cX12_served 4 = .ok (.aload_n 0, 1) := by decide +kernel
theorem dX12_served_5 : decode cX12_served 5 = .ok (.iconst (-1), 1) := by decide +kernel
theorem dX12_served_6 : decode cX12_served 6 = .ok (.iconst (-1), 1) := by decide +kernel
theorem dX12_served_7 : decode cX12_served 7 = .ok (.invokevirtual 435, 3) := by decide +kernel
theorem dX12_served_10 : decode cX12_served 10 = .ok (.ireturn, 1) := by decide +kernel
theorem dX12_next_0 : decode cX12_next 0 = .ok (.iload_n 1, 1) := by decide +kernel
theorem dX12_next_1 : decode cX12_next 1 = .ok (.iconst 0, 1) := by decide +kernel
theorem dX12_next_2 : decode cX12_next 2 = .ok (.iconst 3, 1) := by decide +kernel
theorem dX12_next_3 : decode cX12_next 3 = .ok (.invokestatic 371, 3) := by decide +kernel
theorem dX12_next_6 : decode cX12_next 6 = .ok (.ifCond .ne 5, 3) := by decide +kernel
theorem dX12_next_9 : decode cX12_next 9 = .ok (.iconst (-1), 1) := by decide +kernel
theorem dX12_next_10 : decode cX12_next 10 = .ok (.ireturn, 1) := by decide +kernel
theorem dX12_next_11 : decode cX12_next 11 = .ok (.iconst (-1), 1) := by decide +kernel
theorem dX12_next_12 : decode cX12_next 12 = .ok (.istore_n 2, 1) := by decide +kernel
theorem dX12_next_13 : decode cX12_next 13 = .ok (.iconst 0, 1) := by decide +kernel
theorem dX12_next_14 : decode cX12_next 14 = .ok (.istore_n 3, 1) := by decide +kernel
theorem dX12_next_15 : decode cX12_next 15 = .ok (.iconst 0, 1) := by decide +kernel
theorem dX12_next_16 : decode cX12_next 16 = .ok (.istore 4, 2) := by decide +kernel
theorem dX12_next_18 : decode cX12_next 18 = .ok (.iload 4, 2) := by decide +kernel
theorem dX12_next_20 : decode cX12_next 20 = .ok (.aload_n 0, 1) := by decide +kernel
theorem dX12_next_21 : decode cX12_next 21 = .ok (.getfield 91, 3) := by decide +kernel
theorem dX12_next_24 : decode cX12_next 24 = .ok (.sipush 168, 3) := by decide +kernel
theorem dX12_next_27 : decode cX12_next 27 = .ok (.iaload, 1) := by decide +kernel
theorem dX12_next_28 : decode cX12_next 28 = .ok (.if_icmp .ge 97, 3) := by decide +kernel
theorem dX12_next_31 : decode cX12_next 31 = .ok (.iconst 0, 1) := by decide +kernel
theorem dX12_next_32 : decode cX12_next 32 = .ok (.istore 5, 2) := by decide +kernel
theorem dX12_next_34 : decode cX12_next 34 = .ok (.iload 5, 2) := by decide +kernel
theorem dX12_next_36 : decode cX12_next 36 = .ok (.bipush 16, 2) := by decide +kernel
theorem dX12_next_38 : decode cX12_next 38 = .ok (.if_icmp .ge 81, 3) := by decide +kernel
theorem dX12_next_41 : decode cX12_next 41 = .ok (.aload_n 0, 1) := by decide +kernel
theorem dX12_next_42 : decode cX12_next 42 = .ok (.invokevirtual 394, 3) := by decide +kernel
theorem dX12_next_45 : decode cX12_next 45 = .ok (.aload_n 0, 1) := by decide +kernel
theorem dX12_next_46 : decode cX12_next 46 = .ok (.iload 4, 2) := by decide +kernel
theorem dX12_next_48 : decode cX12_next 48 = .ok (.iload 5, 2) := by decide +kernel
theorem dX12_next_50 : decode cX12_next 50 = .ok (.bipush 8, 2) := by decide +kernel
theorem dX12_next_52 : decode cX12_next 52 = .ok (.idiv, 1) := by decide +kernel
theorem dX12_next_53 : decode cX12_next 53 = .ok (.iload 5, 2) := by decide +kernel
theorem dX12_next_55 : decode cX12_next 55 = .ok (.bipush 8, 2) := by decide +kernel
theorem dX12_next_57 : decode cX12_next 57 = .ok (.irem, 1) := by decide +kernel
theorem dX12_next_58 : decode cX12_next 58 = .ok (.invokevirtual 407, 3) := by decide +kernel
theorem dX12_next_61 : decode cX12_next 61 = .ok (.ifCond .ne 6, 3) := by decide +kernel
theorem dX12_next_64 : decode cX12_next 64 = .ok (.goto 49, 3) := by decide +kernel
theorem dX12_next_67 : decode cX12_next 67 = .ok (.aload_n 0, 1) := by decide +kernel
theorem dX12_next_68 : decode cX12_next 68 = .ok (.iload 4, 2) := by decide +kernel
theorem dX12_next_70 : decode cX12_next 70 = .ok (.iload 5, 2) := by decide +kernel
theorem dX12_next_72 : decode cX12_next 72 = .ok (.bipush 8, 2) := by decide +kernel
theorem dX12_next_74 : decode cX12_next 74 = .ok (.idiv, 1) := by decide +kernel
theorem dX12_next_75 : decode cX12_next 75 = .ok (.iload 5, 2) := by decide +kernel
theorem dX12_next_77 : decode cX12_next 77 = .ok (.bipush 8, 2) := by decide +kernel
theorem dX12_next_79 : decode cX12_next 79 = .ok (.irem, 1) := by decide +kernel
theorem dX12_next_80 : decode cX12_next 80 = .ok (.invokevirtual 416, 3) := by decide +kernel
theorem dX12_next_83 : decode cX12_next 83 = .ok (.pop, 1) := by decide +kernel
theorem dX12_next_84 : decode cX12_next 84 = .ok (.aload_n 0, 1) := by decide +kernel
theorem dX12_next_85 : decode cX12_next 85 = .ok (.iconst (-1), 1) := by decide +kernel
theorem dX12_next_86 : decode cX12_next 86 = .ok (.iconst (-1), 1) := by decide +kernel
theorem dX12_next_87 : decode cX12_next 87 = .ok (.invokevirtual 435, 3) := by decide +kernel
theorem dX12_next_90 : decode cX12_next 90 = .ok (.istore 6, 2) := by decide +kernel
theorem dX12_next_92 : decode cX12_next 92 = .ok (.iload 6, 2) := by decide +kernel
theorem dX12_next_94 : decode cX12_next 94 = .ok (.iload_n 2, 1) := by decide +kernel
theorem dX12_next_95 : decode cX12_next 95 = .ok (.if_icmp .gt 6, 3) := by decide +kernel
theorem dX12_next_98 : decode cX12_next 98 = .ok (.goto 15, 3) := by decide +kernel
theorem dX12_next_101 : decode cX12_next 101 = .ok (.iload 6, 2) := by decide +kernel
theorem dX12_next_103 : decode cX12_next 103 = .ok (.istore_n 2, 1) := by decide +kernel
theorem dX12_next_104 : decode cX12_next 104 = .ok (.bipush 16, 2) := by decide +kernel
theorem dX12_next_106 : decode cX12_next 106 = .ok (.iload 4, 2) := by decide +kernel
theorem dX12_next_108 : decode cX12_next 108 = .ok (.imul, 1) := by decide +kernel
theorem dX12_next_109 : decode cX12_next 109 = .ok (.iload 5, 2) := by decide +kernel
theorem dX12_next_111 : decode cX12_next 111 = .ok (.iadd, 1) := by decide +kernel
theorem dX12_next_112 : decode cX12_next 112 = .ok (.istore_n 3, 1) := by decide +kernel
theorem dX12_next_113 : decode cX12_next 113 = .ok (.iinc 5 1, 3) := by decide +kernel
theorem dX12_next_116 : decode cX12_next 116 = .ok (.goto (-82), 3) := by decide +kernel
theorem dX12_next_119 : decode cX12_next 119 = .ok (.iinc 4 1, 3) := by decide +kernel
theorem dX12_next_122 : decode cX12_next 122 = .ok (.goto (-104), 3) := by decide +kernel
theorem dX12_next_125 : decode cX12_next 125 = .ok (.iload_n 2, 1) := by decide +kernel
theorem dX12_next_126 : decode cX12_next 126 = .ok (.ifCond .ge 5, 3) := by decide +kernel
theorem dX12_next_129 : decode cX12_next 129 = .ok (.iconst (-1), 1) := by decide +kernel
theorem dX12_next_130 : decode cX12_next 130 = .ok (.ireturn, 1) := by decide +kernel
theorem dX12_next_131 : decode cX12_next 131 = .ok (.iload_n 1, 1) := by decide +kernel
theorem dX12_next_132 : decode cX12_next 132 = .ok (.ifCond .ne 10, 3) := by decide +kernel
theorem dX12_next_135 : decode cX12_next 135 = .ok (.iload_n 3, 1) := by decide +kernel
theorem dX12_next_136 : decode cX12_next 136 = .ok (.bipush 16, 2) := by decide +kernel
theorem dX12_next_138 : decode cX12_next 138 = .ok (.idiv, 1) := by decide +kernel
theorem dX12_next_139 : decode cX12_next 139 = .ok (.goto 30, 3) := by decide +kernel
theorem dX12_next_142 : decode cX12_next 142 = .ok (.iload_n 1, 1) := by decide +kernel
theorem dX12_next_143 : decode cX12_next 143 = .ok (.iconst 1, 1) := by decide +kernel
theorem dX12_next_144 : decode cX12_next 144 = .ok (.if_icmp .ne 12, 3) := by decide +kernel
theorem dX12_next_147 : decode cX12_next 147 = .ok (.iload_n 3, 1) := by decide +kernel
theorem dX12_next_148 : decode cX12_next 148 = .ok (.bipush 8, 2) := by decide +kernel
theorem dX12_next_150 : decode cX12_next 150 = .ok (.idiv, 1) := by decide +kernel
theorem dX12_next_151 : decode cX12_next 151 = .ok (.iconst 2, 1) := by decide +kernel
theorem dX12_next_152 : decode cX12_next 152 = .ok (.irem, 1) := by decide +kernel
theorem dX12_next_153 : decode cX12_next 153 = .ok (.goto 16, 3) := by decide +kernel
theorem dX12_next_156 : decode cX12_next 156 = .ok (.iload_n 1, 1) := by decide +kernel
theorem dX12_next_157 : decode cX12_next 157 = .ok (.iconst 2, 1) := by decide +kernel
theorem dX12_next_158 : decode cX12_next 158 = .ok (.if_icmp .ne 10, 3) := by decide +kernel
theorem dX12_next_161 : decode cX12_next 161 = .ok (.iload_n 3, 1) := by decide +kernel
theorem dX12_next_162 : decode cX12_next 162 = .ok (.bipush 8, 2) := by decide +kernel
theorem dX12_next_164 : decode cX12_next 164 = .ok (.irem, 1) := by decide +kernel
theorem dX12_next_165 : decode cX12_next 165 = .ok (.goto 4, 3) := by decide +kernel
theorem dX12_next_168 : decode cX12_next 168 = .ok (.iload_n 2, 1) := by decide +kernel
theorem dX12_next_169 : decode cX12_next 169 = .ok (.ireturn, 1) := by decide +kernel
theorem dX12_isEnvied_0 : decode cX12_isEnvied 0 = .ok (.aload_n 0, 1) := by decide +kernel
theorem dX12_isEnvied_1 : decode cX12_isEnvied 1 = .ok (.iload_n 1, 1) := by decide +kernel
theorem dX12_isEnvied_2 : decode cX12_isEnvied 2 = .ok (.invokevirtual 400, 3) := by decide +kernel
theorem dX12_isEnvied_5 : decode cX12_isEnvied 5 = .ok (.istore_n 3, 1) := by decide +kernel
theorem dX12_isEnvied_6 : decode cX12_isEnvied 6 = .ok (.aload_n 0, 1) := by decide +kernel
theorem dX12_isEnvied_7 : decode cX12_isEnvied 7 = .ok (.iload_n 2, 1) := by decide +kernel
theorem dX12_isEnvied_8 : decode cX12_isEnvied 8 = .ok (.invokevirtual 400, 3) := by decide +kernel
theorem dX12_isEnvied_11 : decode cX12_isEnvied 11 = .ok (.istore 4, 2) := by decide +kernel
theorem dX12_isEnvied_13 : decode cX12_isEnvied 13 = .ok (.iload_n 1, 1) := by decide +kernel
theorem dX12_isEnvied_14 : decode cX12_isEnvied 14 = .ok (.iload_n 2, 1) := by decide +kernel
theorem dX12_isEnvied_15 : decode cX12_isEnvied 15 = .ok (.if_icmp .eq 8, 3) := by decide +kernel
theorem dX12_isEnvied_18 : decode cX12_isEnvied 18 = .ok (.iload 4, 2) := by decide +kernel
theorem dX12_isEnvied_20 : decode cX12_isEnvied 20 = .ok (.ifCond .ge 5, 3) := by decide +kernel
theorem dX12_isEnvied_23 : decode cX12_isEnvied 23 = .ok (.iconst 0, 1) := by decide +kernel
theorem dX12_isEnvied_24 : decode cX12_isEnvied 24 = .ok (.ireturn, 1) := by decide +kernel
theorem dX12_isEnvied_25 : decode cX12_isEnvied 25 = .ok (.iload_n 3, 1) := by decide +kernel
theorem dX12_isEnvied_26 : decode cX12_isEnvied 26 = .ok (.ifCond .ge 21, 3) := by decide +kernel
theorem dX12_isEnvied_29 : decode cX12_isEnvied 29 = .ok (.aload_n 0, 1) := by decide +kernel
theorem dX12_isEnvied_30 : decode cX12_isEnvied 30 = .ok (.iload_n 1, 1) := by decide +kernel
theorem dX12_isEnvied_31 : decode cX12_isEnvied 31 = .ok (.iload 4, 2) := by decide +kernel
theorem dX12_isEnvied_33 : decode cX12_isEnvied 33 = .ok (.invokevirtual 403, 3) := by decide +kernel
theorem dX12_isEnvied_36 : decode cX12_isEnvied 36 = .ok (.ifCond .le 7, 3) := by decide +kernel
theorem dX12_isEnvied_39 : decode cX12_isEnvied 39 = .ok (.iconst 1, 1) := by decide +kernel
theorem dX12_isEnvied_40 : decode cX12_isEnvied 40 = .ok (.goto 28, 3) := by decide +kernel
theorem dX12_isEnvied_43 : decode cX12_isEnvied 43 = .ok (.iconst 0, 1) := by decide +kernel
theorem dX12_isEnvied_44 : decode cX12_isEnvied 44 = .ok (.goto 24, 3) := by decide +kernel
theorem dX12_isEnvied_47 : decode cX12_isEnvied 47 = .ok (.aload_n 0, 1) := by decide +kernel
theorem dX12_isEnvied_48 : decode cX12_isEnvied 48 = .ok (.iload_n 1, 1) := by decide +kernel
theorem dX12_isEnvied_49 : decode cX12_isEnvied 49 = .ok (.iload 4, 2) := by decide +kernel
theorem dX12_isEnvied_51 : decode cX12_isEnvied 51 = .ok (.invokevirtual 403, 3) := by decide +kernel
theorem dX12_isEnvied_54 : decode cX12_isEnvied 54 = .ok (.aload_n 0, 1) := by decide +kernel
theorem dX12_isEnvied_55 : decode cX12_isEnvied 55 = .ok (.iload_n 1, 1) := by decide +kernel
theorem dX12_isEnvied_56 : decode cX12_isEnvied 56 = .ok (.iload_n 3, 1) := by decide +kernel
theorem dX12_isEnvied_57 : decode cX12_isEnvied 57 = .ok (.invokevirtual 403, 3) := by decide +kernel
theorem dX12_isEnvied_60 : decode cX12_isEnvied 60 = .ok (.if_icmp .le 7, 3) := by decide +kernel
theorem dX12_isEnvied_63 : decode cX12_isEnvied 63 = .ok (.iconst 1, 1) := by decide +kernel
theorem dX12_isEnvied_64 : decode cX12_isEnvied 64 = .ok (.goto 4, 3) := by decide +kernel
theorem dX12_isEnvied_67 : decode cX12_isEnvied 67 = .ok (.iconst 0, 1) := by decide +kernel
theorem dX12_isEnvied_68 : decode cX12_isEnvied 68 = .ok (.ireturn, 1) := by decide +kernel
theorem dX12_enviedBy_0 : decode cX12_enviedBy 0 = .ok (.iconst 0, 1) := by decide +kernel
