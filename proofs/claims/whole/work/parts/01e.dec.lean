theorem dX12_enviedBy_1 : decode cX12_enviedBy 1 = .ok (.istore_n 2, 1) := by decide +kernel
theorem dX12_enviedBy_2 : decode cX12_enviedBy 2 = .ok (.iconst 0, 1) := by decide +kernel
theorem dX12_enviedBy_3 : decode cX12_enviedBy 3 = .ok (.istore_n 3, 1) := by decide +kernel
theorem dX12_enviedBy_4 : decode cX12_enviedBy 4 = .ok (.iload_n 3, 1) := by decide +kernel
theorem dX12_enviedBy_5 : decode cX12_enviedBy 5 = .ok (.aload_n 0, 1) := by decide +kernel
theorem dX12_enviedBy_6 : decode cX12_enviedBy 6 = .ok (.getfield 353, 3) := by decide +kernel
theorem dX12_enviedBy_9 : decode cX12_enviedBy 9 = .ok (.if_icmp .ge 23, 3) := by decide +kernel
theorem dX12_enviedBy_12 : decode cX12_enviedBy 12 = .ok (.iload_n 2, 1) := by decide +kernel
theorem dX12_enviedBy_13 : decode cX12_enviedBy 13 = .ok (.aload_n 0, 1) := by decide +kernel
theorem dX12_enviedBy_14 : decode cX12_enviedBy 14 = .ok (.iload_n 1, 1) := by decide +kernel
theorem dX12_enviedBy_15 : decode cX12_enviedBy 15 = .ok (.iload_n 3, 1) := by decide +kernel
theorem dX12_enviedBy_16 : decode cX12_enviedBy 16 = .ok (.invokevirtual 438, 3) := by decide +kernel
theorem dX12_enviedBy_19 : decode cX12_enviedBy 19 = .ok (.invokestatic 302, 3) := by decide +kernel
theorem dX12_enviedBy_22 : decode cX12_enviedBy 22 = .ok (.iload_n 3, 1) := by decide +kernel
theorem dX12_enviedBy_23 : decode cX12_enviedBy 23 = .ok (.ishl, 1) := by decide +kernel
theorem dX12_enviedBy_24 : decode cX12_enviedBy 24 = .ok (.ior, 1) := by decide +kernel
theorem dX12_enviedBy_25 : decode cX12_enviedBy 25 = .ok (.istore_n 2, 1) := by decide +kernel
theorem dX12_enviedBy_26 : decode cX12_enviedBy 26 = .ok (.iinc 3 1, 3) := by decide +kernel
theorem dX12_enviedBy_29 : decode cX12_enviedBy 29 = .ok (.goto (-25), 3) := by decide +kernel
theorem dX12_enviedBy_32 : decode cX12_enviedBy 32 = .ok (.iload_n 2, 1) := by decide +kernel
theorem dX12_enviedBy_33 : decode cX12_enviedBy 33 = .ok (.ireturn, 1) := by decide +kernel
theorem dX12_allEnvies_0 : decode cX12_allEnvies 0 = .ok (.iconst 0, 1) := by decide +kernel
theorem dX12_allEnvies_1 : decode cX12_allEnvies 1 = .ok (.istore_n 1, 1) := by decide +kernel
theorem dX12_allEnvies_2 : decode cX12_allEnvies 2 = .ok (.iconst 0, 1) := by decide +kernel
theorem dX12_allEnvies_3 : decode cX12_allEnvies 3 = .ok (.istore_n 2, 1) := by decide +kernel
theorem dX12_allEnvies_4 : decode cX12_allEnvies 4 = .ok (.iload_n 2, 1) := by decide +kernel
theorem dX12_allEnvies_5 : decode cX12_allEnvies 5 = .ok (.aload_n 0, 1) := by decide +kernel
theorem dX12_allEnvies_6 : decode cX12_allEnvies 6 = .ok (.getfield 353, 3) := by decide +kernel
theorem dX12_allEnvies_9 : decode cX12_allEnvies 9 = .ok (.if_icmp .ge 37, 3) := by decide +kernel
theorem dX12_allEnvies_12 : decode cX12_allEnvies 12 = .ok (.iconst 0, 1) := by decide +kernel
theorem dX12_allEnvies_13 : decode cX12_allEnvies 13 = .ok (.istore_n 3, 1) := by decide +kernel
theorem dX12_allEnvies_14 : decode cX12_allEnvies 14 = .ok (.iload_n 3, 1) := by decide +kernel
theorem dX12_allEnvies_15 : decode cX12_allEnvies 15 = .ok (.aload_n 0, 1) := by decide +kernel
theorem dX12_allEnvies_16 : decode cX12_allEnvies 16 = .ok (.getfield 353, 3) := by decide +kernel
theorem dX12_allEnvies_19 : decode cX12_allEnvies 19 = .ok (.if_icmp .ge 21, 3) := by decide +kernel
theorem dX12_allEnvies_22 : decode cX12_allEnvies 22 = .ok (.iload_n 1, 1) := by decide +kernel
theorem dX12_allEnvies_23 : decode cX12_allEnvies 23 = .ok (.aload_n 0, 1) := by decide +kernel
theorem dX12_allEnvies_24 : decode cX12_allEnvies 24 = .ok (.iload_n 2, 1) := by decide +kernel
theorem dX12_allEnvies_25 : decode cX12_allEnvies 25 = .ok (.iload_n 3, 1) := by decide +kernel
theorem dX12_allEnvies_26 : decode cX12_allEnvies 26 = .ok (.invokevirtual 438, 3) := by decide +kernel
theorem dX12_allEnvies_29 : decode cX12_allEnvies 29 = .ok (.invokestatic 302, 3) := by decide +kernel
theorem dX12_allEnvies_32 : decode cX12_allEnvies 32 = .ok (.iadd, 1) := by decide +kernel
theorem dX12_allEnvies_33 : decode cX12_allEnvies 33 = .ok (.istore_n 1, 1) := by decide +kernel
theorem dX12_allEnvies_34 : decode cX12_allEnvies 34 = .ok (.iinc 3 1, 3) := by decide +kernel
theorem dX12_allEnvies_37 : decode cX12_allEnvies 37 = .ok (.goto (-23), 3) := by decide +kernel
theorem dX12_allEnvies_40 : decode cX12_allEnvies 40 = .ok (.iinc 2 1, 3) := by decide +kernel
theorem dX12_allEnvies_43 : decode cX12_allEnvies 43 = .ok (.goto (-39), 3) := by decide +kernel
theorem dX12_allEnvies_46 : decode cX12_allEnvies 46 = .ok (.iload_n 1, 1) := by decide +kernel
theorem dX12_allEnvies_47 : decode cX12_allEnvies 47 = .ok (.ireturn, 1) := by decide +kernel
theorem dX12_envies_0 : decode cX12_envies 0 = .ok (.aload_n 0, 1) := by decide +kernel
theorem dX12_envies_1 : decode cX12_envies 1 = .ok (.iload_n 1, 1) := by decide +kernel
theorem dX12_envies_2 : decode cX12_envies 2 = .ok (.invokevirtual 397, 3) := by decide +kernel
theorem dX12_envies_5 : decode cX12_envies 5 = .ok (.ifCond .ne 5, 3) := by decide +kernel
theorem dX12_envies_8 : decode cX12_envies 8 = .ok (.iconst (-1), 1) := by decide +kernel
theorem dX12_envies_9 : decode cX12_envies 9 = .ok (.ireturn, 1) := by decide +kernel
theorem dX12_envies_10 : decode cX12_envies 10 = .ok (.aload_n 0, 1) := by decide +kernel
theorem dX12_envies_11 : decode cX12_envies 11 = .ok (.invokevirtual 394, 3) := by decide +kernel
theorem dX12_envies_14 : decode cX12_envies 14 = .ok (.aload_n 0, 1) := by decide +kernel
theorem dX12_envies_15 : decode cX12_envies 15 = .ok (.iload_n 1, 1) := by decide +kernel
theorem dX12_envies_16 : decode cX12_envies 16 = .ok (.invokevirtual 442, 3) := by decide +kernel
theorem dX12_envies_19 : decode cX12_envies 19 = .ok (.ireturn, 1) := by decide +kernel
theorem dX12_quarrel_0 : decode cX12_quarrel 0 = .ok (.aload_n 0, 1) := by decide +kernel
theorem dX12_quarrel_1 : decode cX12_quarrel 1 = .ok (.invokevirtual 394, 3) := by decide +kernel
theorem dX12_quarrel_4 : decode cX12_quarrel 4 = .ok (.aload_n 0, 1) := by decide +kernel
theorem dX12_quarrel_5 : decode cX12_quarrel 5 = .ok (.invokevirtual 445, 3) := by decide +kernel
theorem dX12_quarrel_8 : decode cX12_quarrel 8 = .ok (.ireturn, 1) := by decide +kernel
theorem dX12_calm_0 : decode cX12_calm 0 = .ok (.iload_n 1, 1) := by decide +kernel
theorem dX12_calm_1 : decode cX12_calm 1 = .ok (.iconst 0, 1) := by decide +kernel
theorem dX12_calm_2 : decode cX12_calm 2 = .ok (.iconst 2, 1) := by decide +kernel
theorem dX12_calm_3 : decode cX12_calm 3 = .ok (.invokestatic 371, 3) := by decide +kernel
theorem dX12_calm_6 : decode cX12_calm 6 = .ok (.ifCond .ne 5, 3) := by decide +kernel
theorem dX12_calm_9 : decode cX12_calm 9 = .ok (.iconst (-1), 1) := by decide +kernel
theorem dX12_calm_10 : decode cX12_calm 10 = .ok (.ireturn, 1) := by decide +kernel
theorem dX12_calm_11 : decode cX12_calm 11 = .ok (.aload_n 0, 1) := by decide +kernel
theorem dX12_calm_12 : decode cX12_calm 12 = .ok (.invokevirtual 394, 3) := by decide +kernel
theorem dX12_calm_15 : decode cX12_calm 15 = .ok (.aload_n 0, 1) := by decide +kernel
theorem dX12_calm_16 : decode cX12_calm 16 = .ok (.invokevirtual 445, 3) := by decide +kernel
theorem dX12_calm_19 : decode cX12_calm 19 = .ok (.istore_n 2, 1) := by decide +kernel
theorem dX12_calm_20 : decode cX12_calm 20 = .ok (.iconst (-1), 1) := by decide +kernel
theorem dX12_calm_21 : decode cX12_calm 21 = .ok (.istore_n 3, 1) := by decide +kernel
theorem dX12_calm_22 : decode cX12_calm 22 = .ok (.iconst 0, 1) := by decide +kernel
theorem dX12_calm_23 : decode cX12_calm 23 = .ok (.istore 4, 2) := by decide +kernel
theorem dX12_calm_25 : decode cX12_calm 25 = .ok (.iload 4, 2) := by decide +kernel
theorem dX12_calm_27 : decode cX12_calm 27 = .ok (.aload_n 0, 1) := by decide +kernel
theorem dX12_calm_28 : decode cX12_calm 28 = .ok (.getfield 353, 3) := by decide +kernel
theorem dX12_calm_31 : decode cX12_calm 31 = .ok (.if_icmp .ge 120, 3) := by decide +kernel
theorem dX12_calm_34 : decode cX12_calm 34 = .ok (.iload 4, 2) := by decide +kernel
theorem dX12_calm_36 : decode cX12_calm 36 = .ok (.iconst 1, 1) := by decide +kernel
theorem dX12_calm_37 : decode cX12_calm 37 = .ok (.iadd, 1) := by decide +kernel
theorem dX12_calm_38 : decode cX12_calm 38 = .ok (.istore 5, 2) := by decide +kernel
theorem dX12_calm_40 : decode cX12_calm 40 = .ok (.iload 5, 2) := by decide +kernel
theorem dX12_calm_42 : decode cX12_calm 42 = .ok (.aload_n 0, 1) := by decide +kernel
theorem dX12_calm_43 : decode cX12_calm 43 = .ok (.getfield 353, 3) := by decide +kernel
theorem dX12_calm_46 : decode cX12_calm 46 = .ok (.if_icmp .ge 99, 3) := by decide +kernel
theorem dX12_calm_49 : decode cX12_calm 49 = .ok (.aload_n 0, 1) := by decide +kernel
theorem dX12_calm_50 : decode cX12_calm 50 = .ok (.invokevirtual 394, 3) := by decide +kernel
theorem dX12_calm_53 : decode cX12_calm 53 = .ok (.aload_n 0, 1) := by decide +kernel
theorem dX12_calm_54 : decode cX12_calm 54 = .ok (.iload 4, 2) := by decide +kernel
theorem dX12_calm_56 : decode cX12_calm 56 = .ok (.invokevirtual 400, 3) := by decide +kernel
theorem dX12_calm_59 : decode cX12_calm 59 = .ok (.istore 6, 2) := by decide +kernel
theorem dX12_calm_61 : decode cX12_calm 61 = .ok (.aload_n 0, 1) := by decide +kernel
theorem dX12_calm_62 : decode cX12_calm 62 = .ok (.iload 5, 2) := by decide +kernel
theorem dX12_calm_64 : decode cX12_calm 64 = .ok (.invokevirtual 400, 3) := by decide +kernel
theorem dX12_calm_67 : decode cX12_calm 67 = .ok (.istore 7, 2) := by decide +kernel
theorem dX12_calm_69 : decode cX12_calm 69 = .ok (.iload 6, 2) := by decide +kernel
theorem dX12_calm_71 : decode cX12_calm 71 = .ok (.ifCond .lt 68, 3) := by decide +kernel
theorem dX12_calm_74 : decode cX12_calm 74 = .ok (.iload 7, 2) := by decide +kernel
theorem dX12_calm_76 : decode cX12_calm 76 = .ok (.ifCond .ge 6, 3) := by decide +kernel
theorem dX12_calm_79 : decode cX12_calm 79 = .ok (.goto 60, 3) := by decide +kernel
theorem dX12_calm_82 : decode cX12_calm 82 = .ok (.aload_n 0, 1) := by decide +kernel
theorem dX12_calm_83 : decode cX12_calm 83 = .ok (.getfield 94, 3) := by decide +kernel
theorem dX12_calm_86 : decode cX12_calm 86 = .ok (.bipush 7, 2) := by decide +kernel
theorem dX12_calm_88 : decode cX12_calm 88 = .ok (.iload 6, 2) := by decide +kernel
theorem dX12_calm_90 : decode cX12_calm 90 = .ok (.imul, 1) := by decide +kernel
theorem dX12_calm_91 : decode cX12_calm 91 = .ok (.bipush 6, 2) := by decide +kernel
theorem dX12_calm_93 : decode cX12_calm 93 = .ok (.iadd, 1) := by decide +kernel
theorem dX12_calm_94 : decode cX12_calm 94 = .ok (.iload 5, 2) := by decide +kernel
theorem dX12_calm_96 : decode cX12_calm 96 = .ok (.iastore, 1) := by decide +kernel
theorem dX12_calm_97 : decode cX12_calm 97 = .ok (.aload_n 0, 1) := by decide +kernel
theorem dX12_calm_98 : decode cX12_calm 98 = .ok (.getfield 94, 3) := by decide +kernel
theorem dX12_calm_101 : decode cX12_calm 101 = .ok (.bipush 7, 2) := by decide +kernel
theorem dX12_calm_103 : decode cX12_calm 103 = .ok (.iload 7, 2) := by decide +kernel
theorem dX12_calm_105 : decode cX12_calm 105 = .ok (.imul, 1) := by decide +kernel
theorem dX12_calm_106 : decode cX12_calm 106 = .ok (.bipush 6, 2) := by decide +kernel
theorem dX12_calm_108 : decode cX12_calm 108 = .ok (.iadd, 1) := by decide +kernel
theorem dX12_calm_109 : decode cX12_calm 109 = .ok (.iload 4, 2) := by decide +kernel
theorem dX12_calm_111 : decode cX12_calm 111 = .ok (.iastore, 1) := by decide +kernel
theorem dX12_calm_112 : decode cX12_calm 112 = .ok (.aload_n 0, 1) := by decide +kernel
theorem dX12_calm_113 : decode cX12_calm 113 = .ok (.invokevirtual 445, 3) := by decide +kernel
theorem dX12_calm_116 : decode cX12_calm 116 = .ok (.istore 8, 2) := by decide +kernel
theorem dX12_calm_118 : decode cX12_calm 118 = .ok (.iload 8, 2) := by decide +kernel
theorem dX12_calm_120 : decode cX12_calm 120 = .ok (.iload_n 2, 1) := by decide +kernel
theorem dX12_calm_121 : decode cX12_calm 121 = .ok (.if_icmp .lt 6, 3) := by decide +kernel
theorem dX12_calm_124 : decode cX12_calm 124 = .ok (.goto 15, 3) := by decide +kernel
theorem dX12_calm_127 : decode cX12_calm 127 = .ok (.iload 8, 2) := by decide +kernel
theorem dX12_calm_129 : decode cX12_calm 129 = .ok (.istore_n 2, 1) := by decide +kernel
theorem dX12_calm_130 : decode cX12_calm 130 = .ok (.bipush 6, 2) := by decide +kernel
theorem dX12_calm_132 : decode cX12_calm 132 = .ok (.iload 4, 2) := by decide +kernel
theorem dX12_calm_134 : decode cX12_calm 134 = .ok (.imul, 1) := by decide +kernel
theorem dX12_calm_135 : decode cX12_calm 135 = .ok (.iload 5, 2) := by decide +kernel
theorem dX12_calm_137 : decode cX12_calm 137 = .ok (.iadd, 1) := by decide +kernel
theorem dX12_calm_138 : decode cX12_calm 138 = .ok (.istore_n 3, 1) := by decide +kernel
theorem dX12_calm_139 : decode cX12_calm 139 = .ok (.iinc 5 1, 3) := by decide +kernel
theorem dX12_calm_142 : decode cX12_calm 142 = .ok (.goto (-102), 3) := by decide +kernel
theorem dX12_calm_145 : decode cX12_calm 145 = .ok (.iinc 4 1, 3) := by decide +kernel
theorem dX12_calm_148 : decode cX12_calm 148 = .ok (.goto (-123), 3) := by decide +kernel
theorem dX12_calm_151 : decode cX12_calm 151 = .ok (.iload_n 3, 1) := by decide +kernel
theorem dX12_calm_152 : decode cX12_calm 152 = .ok (.ifCond .ge 7, 3) := by decide +kernel
theorem dX12_calm_155 : decode cX12_calm 155 = .ok (.iconst (-1), 1) := by decide +kernel
theorem dX12_calm_156 : decode cX12_calm 156 = .ok (.goto 27, 3) := by decide +kernel
theorem dX12_calm_159 : decode cX12_calm 159 = .ok (.iload_n 1, 1) := by decide +kernel
theorem dX12_calm_160 : decode cX12_calm 160 = .ok (.ifCond .ne 10, 3) := by decide +kernel
theorem dX12_calm_163 : decode cX12_calm 163 = .ok (.iload_n 3, 1) := by decide +kernel
theorem dX12_calm_164 : decode cX12_calm 164 = .ok (.bipush 6, 2) := by decide +kernel
theorem dX12_calm_166 : decode cX12_calm 166 = .ok (.idiv, 1) := by decide +kernel
theorem dX12_calm_167 : decode cX12_calm 167 = .ok (.goto 16, 3) := by decide +kernel
theorem dX12_calm_170 : decode cX12_calm 170 = .ok (.iload_n 1, 1) := by decide +kernel
theorem dX12_calm_171 : decode cX12_calm 171 = .ok (.iconst 1, 1) := by decide +kernel
theorem dX12_calm_172 : decode cX12_calm 172 = .ok (.if_icmp .ne 10, 3) := by decide +kernel
theorem dX12_calm_175 : decode cX12_calm 175 = .ok (.iload_n 3, 1) := by decide +kernel
theorem dX12_calm_176 : decode cX12_calm 176 = .ok (.bipush 6, 2) := by decide +kernel
theorem dX12_calm_178 : decode cX12_calm 178 = .ok (.irem, 1) := by decide +kernel
theorem dX12_calm_179 : decode cX12_calm 179 = .ok (.goto 4, 3) := by decide +kernel
theorem dX12_calm_182 : decode cX12_calm 182 = .ok (.iload_n 2, 1) := by decide +kernel
theorem dX12_calm_183 : decode cX12_calm 183 = .ok (.ireturn, 1) := by decide +kernel
theorem dX12_layHalve_0 : decode cX12_layHalve 0 = .ok (.aload_n 0, 1) := by decide +kernel
theorem dX12_layHalve_1 : decode cX12_layHalve 1 = .ok (.iconst (-1), 1) := by decide +kernel
theorem dX12_layHalve_2 : decode cX12_layHalve 2 = .ok (.putfield 448, 3) := by decide +kernel
theorem dX12_layHalve_5 : decode cX12_layHalve 5 = .ok (.iconst 0, 1) := by decide +kernel
theorem dX12_layHalve_6 : decode cX12_layHalve 6 = .ok (.istore 4, 2) := by decide +kernel
theorem dX12_layHalve_8 : decode cX12_layHalve 8 = .ok (.iload 4, 2) := by decide +kernel
theorem dX12_layHalve_10 : decode cX12_layHalve 10 = .ok (.bipush 16, 2) := by decide +kernel
theorem dX12_layHalve_12 : decode cX12_layHalve 12 = .ok (.if_icmp .ge 133, 3) := by decide +kernel
theorem dX12_layHalve_15 : decode cX12_layHalve 15 = .ok (.aload_n 0, 1) := by decide +kernel
theorem dX12_layHalve_16 : decode cX12_layHalve 16 = .ok (.invokevirtual 394, 3) := by decide +kernel
theorem dX12_layHalve_19 : decode cX12_layHalve 19 = .ok (.aload_n 0, 1) := by decide +kernel
theorem dX12_layHalve_20 : decode cX12_layHalve 20 = .ok (.iload_n 1, 1) := by decide +kernel
theorem dX12_layHalve_21 : decode cX12_layHalve 21 = .ok (.iload 4, 2) := by decide +kernel
theorem dX12_layHalve_23 : decode cX12_layHalve 23 = .ok (.bipush 8, 2) := by decide +kernel
theorem dX12_layHalve_25 : decode cX12_layHalve 25 = .ok (.idiv, 1) := by decide +kernel
theorem dX12_layHalve_26 : decode cX12_layHalve 26 = .ok (.iload 4, 2) := by decide +kernel
theorem dX12_layHalve_28 : decode cX12_layHalve 28 = .ok (.bipush 8, 2) := by decide +kernel
theorem dX12_layHalve_30 : decode cX12_layHalve 30 = .ok (.irem, 1) := by decide +kernel
theorem dX12_layHalve_31 : decode cX12_layHalve 31 = .ok (.invokevirtual 407, 3) := by decide +kernel
theorem dX12_layHalve_34 : decode cX12_layHalve 34 = .ok (.ifCond .ne 6, 3) := by decide +kernel
theorem dX12_layHalve_37 : decode cX12_layHalve 37 = .ok (.goto 102, 3) := by decide +kernel
theorem dX12_layHalve_40 : decode cX12_layHalve 40 = .ok (.aload_n 0, 1) := by decide +kernel
theorem dX12_layHalve_41 : decode cX12_layHalve 41 = .ok (.iload_n 1, 1) := by decide +kernel
theorem dX12_layHalve_42 : decode cX12_layHalve 42 = .ok (.iload 4, 2) := by decide +kernel
theorem dX12_layHalve_44 : decode cX12_layHalve 44 = .ok (.bipush 8, 2) := by decide +kernel
theorem dX12_layHalve_46 : decode cX12_layHalve 46 = .ok (.idiv, 1) := by decide +kernel
theorem dX12_layHalve_47 : decode cX12_layHalve 47 = .ok (.iload 4, 2) := by decide +kernel
theorem dX12_layHalve_49 : decode cX12_layHalve 49 = .ok (.bipush 8, 2) := by decide +kernel
theorem dX12_layHalve_51 : decode cX12_layHalve 51 = .ok (.irem, 1) := by decide +kernel
theorem dX12_layHalve_52 : decode cX12_layHalve 52 = .ok (.invokevirtual 416, 3) := by decide +kernel
theorem dX12_layHalve_55 : decode cX12_layHalve 55 = .ok (.istore 5, 2) := by decide +kernel
theorem dX12_layHalve_57 : decode cX12_layHalve 57 = .ok (.aload_n 0, 1) := by decide +kernel
theorem dX12_layHalve_58 : decode cX12_layHalve 58 = .ok (.iload_n 3, 1) := by decide +kernel
theorem dX12_layHalve_59 : decode cX12_layHalve 59 = .ok (.iload 5, 2) := by decide +kernel
theorem dX12_layHalve_61 : decode cX12_layHalve 61 = .ok (.invokevirtual 403, 3) := by decide +kernel
theorem dX12_layHalve_64 : decode cX12_layHalve 64 = .ok (.aload_n 0, 1) := by decide +kernel
theorem dX12_layHalve_65 : decode cX12_layHalve 65 = .ok (.iload_n 3, 1) := by decide +kernel
theorem dX12_layHalve_66 : decode cX12_layHalve 66 = .ok (.iload_n 1, 1) := by decide +kernel
theorem dX12_layHalve_67 : decode cX12_layHalve 67 = .ok (.invokevirtual 403, 3) := by decide +kernel
theorem dX12_layHalve_70 : decode cX12_layHalve 70 = .ok (.if_icmp .le 7, 3) := by decide +kernel
theorem dX12_layHalve_73 : decode cX12_layHalve 73 = .ok (.iconst 1, 1) := by decide +kernel
theorem dX12_layHalve_74 : decode cX12_layHalve 74 = .ok (.goto 4, 3) := by decide +kernel
theorem dX12_layHalve_77 : decode cX12_layHalve 77 = .ok (.iconst 0, 1) := by decide +kernel
theorem dX12_layHalve_78 : decode cX12_layHalve 78 = .ok (.invokestatic 302, 3) := by decide +kernel
theorem dX12_layHalve_81 : decode cX12_layHalve 81 = .ok (.istore 6, 2) := by decide +kernel
theorem dX12_layHalve_83 : decode cX12_layHalve 83 = .ok (.aload_n 0, 1) := by decide +kernel
theorem dX12_layHalve_84 : decode cX12_layHalve 84 = .ok (.iload_n 2, 1) := by decide +kernel
theorem dX12_layHalve_85 : decode cX12_layHalve 85 = .ok (.iload 6, 2) := by decide +kernel
theorem dX12_layHalve_87 : decode cX12_layHalve 87 = .ok (.iconst 1, 1) := by decide +kernel
theorem dX12_layHalve_88 : decode cX12_layHalve 88 = .ok (.if_icmp .ne 7, 3) := by decide +kernel
theorem dX12_layHalve_91 : decode cX12_layHalve 91 = .ok (.iload_n 1, 1) := by decide +kernel
theorem dX12_layHalve_92 : decode cX12_layHalve 92 = .ok (.goto 5, 3) := by decide +kernel
theorem dX12_layHalve_95 : decode cX12_layHalve 95 = .ok (.iload 5, 2) := by decide +kernel
theorem dX12_layHalve_97 : decode cX12_layHalve 97 = .ok (.invokevirtual 403, 3) := by decide +kernel
theorem dX12_layHalve_100 : decode cX12_layHalve 100 = .ok (.istore 7, 2) := by decide +kernel
theorem dX12_layHalve_102 : decode cX12_layHalve 102 = .ok (.aload_n 0, 1) := by decide +kernel
theorem dX12_layHalve_103 : decode cX12_layHalve 103 = .ok (.getfield 448, 3) := by decide +kernel
theorem dX12_layHalve_106 : decode cX12_layHalve 106 = .ok (.ifCond .lt 15, 3) := by decide +kernel
theorem dX12_layHalve_109 : decode cX12_layHalve 109 = .ok (.iload 7, 2) := by decide +kernel
theorem dX12_layHalve_111 : decode cX12_layHalve 111 = .ok (.aload_n 0, 1) := by decide +kernel
theorem dX12_layHalve_112 : decode cX12_layHalve 112 = .ok (.getfield 451, 3) := by decide +kernel
theorem dX12_layHalve_115 : decode cX12_layHalve 115 = .ok (.if_icmp .gt 6, 3) := by decide +kernel
theorem dX12_layHalve_118 : decode cX12_layHalve 118 = .ok (.goto 21, 3) := by decide +kernel
theorem dX12_layHalve_121 : decode cX12_layHalve 121 = .ok (.aload_n 0, 1) := by decide +kernel
theorem dX12_layHalve_122 : decode cX12_layHalve 122 = .ok (.iload 4, 2) := by decide +kernel
theorem dX12_layHalve_124 : decode cX12_layHalve 124 = .ok (.putfield 448, 3) := by decide +kernel
theorem dX12_layHalve_127 : decode cX12_layHalve 127 = .ok (.aload_n 0, 1) := by decide +kernel
theorem dX12_layHalve_128 : decode cX12_layHalve 128 = .ok (.iload 6, 2) := by decide +kernel
theorem dX12_layHalve_130 : decode cX12_layHalve 130 = .ok (.putfield 454, 3) := by decide +kernel
theorem dX12_layHalve_133 : decode cX12_layHalve 133 = .ok (.aload_n 0, 1) := by decide +kernel
theorem dX12_layHalve_134 : decode cX12_layHalve 134 = .ok (.iload 7, 2) := by decide +kernel
theorem dX12_layHalve_136 : decode cX12_layHalve 136 = .ok (.putfield 451, 3) := by decide +kernel
theorem dX12_layHalve_139 : decode cX12_layHalve 139 = .ok (.iinc 4 1, 3) := by decide +kernel
theorem dX12_layHalve_142 : decode cX12_layHalve 142 = .ok (.goto (-134), 3) := by decide +kernel
theorem dX12_layHalve_145 : decode cX12_layHalve 145 = .ok (.return_, 1) := by decide +kernel
theorem dX12_canHalve_0 : decode cX12_canHalve 0 = .ok (.aload_n 0, 1) := by decide +kernel
theorem dX12_canHalve_1 : decode cX12_canHalve 1 = .ok (.iload_n 1, 1) := by decide +kernel
theorem dX12_canHalve_2 : decode cX12_canHalve 2 = .ok (.invokevirtual 391, 3) := by decide +kernel
theorem dX12_canHalve_5 : decode cX12_canHalve 5 = .ok (.ifCond .eq 28, 3) := by decide +kernel
theorem dX12_canHalve_8 : decode cX12_canHalve 8 = .ok (.aload_n 0, 1) := by decide +kernel
theorem dX12_canHalve_9 : decode cX12_canHalve 9 = .ok (.iload_n 2, 1) := by decide +kernel
theorem dX12_canHalve_10 : decode cX12_canHalve 10 = .ok (.invokevirtual 397, 3) := by decide +kernel
theorem dX12_canHalve_13 : decode cX12_canHalve 13 = .ok (.ifCond .eq 20, 3) := by decide +kernel
theorem dX12_canHalve_16 : decode cX12_canHalve 16 = .ok (.aload_n 0, 1) := by decide +kernel
theorem dX12_canHalve_17 : decode cX12_canHalve 17 = .ok (.iload_n 3, 1) := by decide +kernel
theorem dX12_canHalve_18 : decode cX12_canHalve 18 = .ok (.invokevirtual 397, 3) := by decide +kernel
theorem dX12_canHalve_21 : decode cX12_canHalve 21 = .ok (.ifCond .eq 12, 3) := by decide +kernel
theorem dX12_canHalve_24 : decode cX12_canHalve 24 = .ok (.iload_n 2, 1) := by decide +kernel
theorem dX12_canHalve_25 : decode cX12_canHalve 25 = .ok (.iload_n 3, 1) := by decide +kernel
theorem dX12_canHalve_26 : decode cX12_canHalve 26 = .ok (.if_icmp .eq 7, 3) := by decide +kernel
theorem dX12_canHalve_29 : decode cX12_canHalve 29 = .ok (.iconst 1, 1) := by decide +kernel
theorem dX12_canHalve_30 : decode cX12_canHalve 30 = .ok (.goto 4, 3) := by decide +kernel
theorem dX12_canHalve_33 : decode cX12_canHalve 33 = .ok (.iconst 0, 1) := by decide +kernel
theorem dX12_canHalve_34 : decode cX12_canHalve 34 = .ok (.ireturn, 1) := by decide +kernel
theorem dX12_halve_0 : decode cX12_halve 0 = .ok (.aload_n 0, 1) := by decide +kernel
theorem dX12_halve_1 : decode cX12_halve 1 = .ok (.iload_n 1, 1) := by decide +kernel
theorem dX12_halve_2 : decode cX12_halve 2 = .ok (.iload_n 2, 1) := by decide +kernel
theorem dX12_halve_3 : decode cX12_halve 3 = .ok (.iload_n 3, 1) := by decide +kernel
theorem dX12_halve_4 : decode cX12_halve 4 = .ok (.invokevirtual 457, 3) := by decide +kernel
theorem dX12_halve_7 : decode cX12_halve 7 = .ok (.ifCond .eq 13, 3) := by decide +kernel
theorem dX12_halve_10 : decode cX12_halve 10 = .ok (.iload 4, 2) := by decide +kernel
theorem dX12_halve_12 : decode cX12_halve 12 = .ok (.iconst 0, 1) := by decide +kernel
theorem dX12_halve_13 : decode cX12_halve 13 = .ok (.iconst 2, 1) := by decide +kernel
theorem dX12_halve_14 : decode cX12_halve 14 = .ok (.invokestatic 371, 3) := by decide +kernel
theorem dX12_halve_17 : decode cX12_halve 17 = .ok (.ifCond .ne 5, 3) := by decide +kernel
theorem dX12_halve_20 : decode cX12_halve 20 = .ok (.iconst (-1), 1) := by decide +kernel
theorem dX12_halve_21 : decode cX12_halve 21 = .ok (.ireturn, 1) := by decide +kernel
theorem dX12_halve_22 : decode cX12_halve 22 = .ok (.aload_n 0, 1) := by decide +kernel
theorem dX12_halve_23 : decode cX12_halve 23 = .ok (.iload_n 1, 1) := by decide +kernel
theorem dX12_halve_24 : decode cX12_halve 24 = .ok (.iload_n 2, 1) := by decide +kernel
theorem dX12_halve_25 : decode cX12_halve 25 = .ok (.iload_n 3, 1) := by decide +kernel
theorem dX12_halve_26 : decode cX12_halve 26 = .ok (.invokevirtual 460, 3) := by decide +kernel
theorem dX12_halve_29 : decode cX12_halve 29 = .ok (.aload_n 0, 1) := by decide +kernel
theorem dX12_halve_30 : decode cX12_halve 30 = .ok (.getfield 448, 3) := by decide +kernel
theorem dX12_halve_33 : decode cX12_halve 33 = .ok (.ifCond .ge 7, 3) := by decide +kernel
theorem dX12_halve_36 : decode cX12_halve 36 = .ok (.iconst (-1), 1) := by decide +kernel
theorem dX12_halve_37 : decode cX12_halve 37 = .ok (.goto 38, 3) := by decide +kernel
theorem dX12_halve_40 : decode cX12_halve 40 = .ok (.iload 4, 2) := by decide +kernel
theorem dX12_halve_42 : decode cX12_halve 42 = .ok (.ifCond .ne 13, 3) := by decide +kernel
theorem dX12_halve_45 : decode cX12_halve 45 = .ok (.aload_n 0, 1) := by decide +kernel
theorem dX12_halve_46 : decode cX12_halve 46 = .ok (.getfield 448, 3) := by decide +kernel
theorem dX12_halve_49 : decode cX12_halve 49 = .ok (.bipush 8, 2) := by decide +kernel
theorem dX12_halve_51 : decode cX12_halve 51 = .ok (.idiv, 1) := by decide +kernel
theorem dX12_halve_52 : decode cX12_halve 52 = .ok (.goto 23, 3) := by decide +kernel
theorem dX12_halve_55 : decode cX12_halve 55 = .ok (.iload 4, 2) := by decide +kernel
theorem dX12_halve_57 : decode cX12_halve 57 = .ok (.iconst 1, 1) := by decide +kernel
theorem dX12_halve_58 : decode cX12_halve 58 = .ok (.if_icmp .ne 13, 3) := by decide +kernel
theorem dX12_halve_61 : decode cX12_halve 61 = .ok (.aload_n 0, 1) := by decide +kernel
theorem dX12_halve_62 : decode cX12_halve 62 = .ok (.getfield 448, 3) := by decide +kernel
theorem dX12_halve_65 : decode cX12_halve 65 = .ok (.bipush 8, 2) := by decide +kernel
theorem dX12_halve_67 : decode cX12_halve 67 = .ok (.irem, 1) := by decide +kernel
theorem dX12_halve_68 : decode cX12_halve 68 = .ok (.goto 7, 3) := by decide +kernel
theorem dX12_halve_71 : decode cX12_halve 71 = .ok (.aload_n 0, 1) := by decide +kernel
theorem dX12_halve_72 : decode cX12_halve 72 = .ok (.getfield 454, 3) := by decide +kernel
theorem dX12_halve_75 : decode cX12_halve 75 = .ok (.ireturn, 1) := by decide +kernel
theorem dX12_share_0 : decode cX12_share 0 = .ok (.aload_n 0, 1) := by decide +kernel
theorem dX12_share_1 : decode cX12_share 1 = .ok (.iload_n 1, 1) := by decide +kernel
theorem dX12_share_2 : decode cX12_share 2 = .ok (.iload_n 2, 1) := by decide +kernel
theorem dX12_share_3 : decode cX12_share 3 = .ok (.iload_n 3, 1) := by decide +kernel
theorem dX12_share_4 : decode cX12_share 4 = .ok (.invokevirtual 457, 3) := by decide +kernel
theorem dX12_share_7 : decode cX12_share 7 = .ok (.ifCond .ne 7, 3) := by decide +kernel
theorem dX12_share_10 : decode cX12_share 10 = .ok (.ldc_w 406, 3) := by decide +kernel
theorem dX12_share_13 : decode cX12_share 13 = .ok (.ireturn, 1) := by decide +kernel
theorem dX12_share_14 : decode cX12_share 14 = .ok (.aload_n 0, 1) := by decide +kernel
theorem dX12_share_15 : decode cX12_share 15 = .ok (.iload_n 1, 1) := by decide +kernel
theorem dX12_share_16 : decode cX12_share 16 = .ok (.iload_n 2, 1) := by decide +kernel
theorem dX12_share_17 : decode cX12_share 17 = .ok (.iload_n 3, 1) := by decide +kernel
theorem dX12_share_18 : decode cX12_share 18 = .ok (.invokevirtual 460, 3) := by decide +kernel
theorem dX12_share_21 : decode cX12_share 21 = .ok (.aload_n 0, 1) := by decide +kernel
theorem dX12_share_22 : decode cX12_share 22 = .ok (.getfield 448, 3) := by decide +kernel
theorem dX12_share_25 : decode cX12_share 25 = .ok (.ifCond .ge 9, 3) := by decide +kernel
theorem dX12_share_28 : decode cX12_share 28 = .ok (.ldc_w 406, 3) := by decide +kernel
theorem dX12_share_31 : decode cX12_share 31 = .ok (.goto 7, 3) := by decide +kernel
theorem dX12_share_34 : decode cX12_share 34 = .ok (.aload_n 0, 1) := by decide +kernel
theorem dX12_share_35 : decode cX12_share 35 = .ok (.getfield 451, 3) := by decide +kernel
theorem dX12_share_38 : decode cX12_share 38 = .ok (.ireturn, 1) := by decide +kernel
theorem dX12_layWorths_0 : decode cX12_layWorths 0 = .ok (.aload_n 0, 1) := by decide +kernel
theorem dX12_layWorths_1 : decode cX12_layWorths 1 = .ok (.invokevirtual 394, 3) := by decide +kernel
theorem dX12_layWorths_4 : decode cX12_layWorths 4 = .ok (.iconst 0, 1) := by decide +kernel
theorem dX12_layWorths_5 : decode cX12_layWorths 5 = .ok (.istore_n 1, 1) := by decide +kernel
theorem dX12_layWorths_6 : decode cX12_layWorths 6 = .ok (.iload_n 1, 1) := by decide +kernel
theorem dX12_layWorths_7 : decode cX12_layWorths 7 = .ok (.aload_n 0, 1) := by decide +kernel
theorem dX12_layWorths_8 : decode cX12_layWorths 8 = .ok (.getfield 353, 3) := by decide +kernel
theorem dX12_layWorths_11 : decode cX12_layWorths 11 = .ok (.if_icmp .ge 46, 3) := by decide +kernel
theorem dX12_layWorths_14 : decode cX12_layWorths 14 = .ok (.iconst 0, 1) := by decide +kernel
theorem dX12_layWorths_15 : decode cX12_layWorths 15 = .ok (.istore_n 2, 1) := by decide +kernel
theorem dX12_layWorths_16 : decode cX12_layWorths 16 = .ok (.iload_n 2, 1) := by decide +kernel
theorem dX12_layWorths_17 : decode cX12_layWorths 17 = .ok (.aload_n 0, 1) := by decide +kernel
theorem dX12_layWorths_18 : decode cX12_layWorths 18 = .ok (.getfield 94, 3) := by decide +kernel
theorem dX12_layWorths_21 : decode cX12_layWorths 21 = .ok (.sipush 168, 3) := by decide +kernel
theorem dX12_layWorths_24 : decode cX12_layWorths 24 = .ok (.iaload, 1) := by decide +kernel
theorem dX12_layWorths_25 : decode cX12_layWorths 25 = .ok (.if_icmp .ge 26, 3) := by decide +kernel
theorem dX12_layWorths_28 : decode cX12_layWorths 28 = .ok (.aload_n 0, 1) := by decide +kernel
theorem dX12_layWorths_29 : decode cX12_layWorths 29 = .ok (.getfield 106, 3) := by decide +kernel
theorem dX12_layWorths_32 : decode cX12_layWorths 32 = .ok (.bipush 24, 2) := by decide +kernel
theorem dX12_layWorths_34 : decode cX12_layWorths 34 = .ok (.iload_n 1, 1) := by decide +kernel
theorem dX12_layWorths_35 : decode cX12_layWorths 35 = .ok (.imul, 1) := by decide +kernel
theorem dX12_layWorths_36 : decode cX12_layWorths 36 = .ok (.iload_n 2, 1) := by decide +kernel
theorem dX12_layWorths_37 : decode cX12_layWorths 37 = .ok (.iadd, 1) := by decide +kernel
theorem dX12_layWorths_38 : decode cX12_layWorths 38 = .ok (.aload_n 0, 1) := by decide +kernel
theorem dX12_layWorths_39 : decode cX12_layWorths 39 = .ok (.iload_n 1, 1) := by decide +kernel
theorem dX12_layWorths_40 : decode cX12_layWorths 40 = .ok (.iload_n 2, 1) := by decide +kernel
theorem dX12_layWorths_41 : decode cX12_layWorths 41 = .ok (.invokevirtual 403, 3) := by decide +kernel
theorem dX12_layWorths_44 : decode cX12_layWorths 44 = .ok (.iastore, 1) := by decide +kernel
theorem dX12_layWorths_45 : decode cX12_layWorths 45 = .ok (.iinc 2 1, 3) := by decide +kernel
theorem dX12_layWorths_48 : decode cX12_layWorths 48 = .ok (.goto (-32), 3) := by decide +kernel
theorem dX12_layWorths_51 : decode cX12_layWorths 51 = .ok (.iinc 1 1, 3) := by decide +kernel
theorem dX12_layWorths_54 : decode cX12_layWorths 54 = .ok (.goto (-48), 3) := by decide +kernel
theorem dX12_layWorths_57 : decode cX12_layWorths 57 = .ok (.return_, 1) := by decide +kernel
theorem dX12_bestFor_0 : decode cX12_bestFor 0 = .ok (.iconst (-1), 1) := by decide +kernel
theorem dX12_bestFor_1 : decode cX12_bestFor 1 = .ok (.istore_n 3, 1) := by decide +kernel
theorem dX12_bestFor_2 : decode cX12_bestFor 2 = .ok (.iconst 0, 1) := by decide +kernel
theorem dX12_bestFor_3 : decode cX12_bestFor 3 = .ok (.istore 4, 2) := by decide +kernel
theorem dX12_bestFor_5 : decode cX12_bestFor 5 = .ok (.iload 4, 2) := by decide +kernel
theorem dX12_bestFor_7 : decode cX12_bestFor 7 = .ok (.aload_n 0, 1) := by decide +kernel
theorem dX12_bestFor_8 : decode cX12_bestFor 8 = .ok (.getfield 94, 3) := by decide +kernel
theorem dX12_bestFor_11 : decode cX12_bestFor 11 = .ok (.sipush 168, 3) := by decide +kernel
theorem dX12_bestFor_14 : decode cX12_bestFor 14 = .ok (.iaload, 1) := by decide +kernel
theorem dX12_bestFor_15 : decode cX12_bestFor 15 = .ok (.if_icmp .ge 60, 3) := by decide +kernel
theorem dX12_bestFor_18 : decode cX12_bestFor 18 = .ok (.aload_n 0, 1) := by decide +kernel
theorem dX12_bestFor_19 : decode cX12_bestFor 19 = .ok (.iload 4, 2) := by decide +kernel
theorem dX12_bestFor_21 : decode cX12_bestFor 21 = .ok (.invokevirtual 388, 3) := by decide +kernel
theorem dX12_bestFor_24 : decode cX12_bestFor 24 = .ok (.ifCond .eq 45, 3) := by decide +kernel
theorem dX12_bestFor_27 : decode cX12_bestFor 27 = .ok (.iload_n 2, 1) := by decide +kernel
theorem dX12_bestFor_28 : decode cX12_bestFor 28 = .ok (.iload 4, 2) := by decide +kernel
theorem dX12_bestFor_30 : decode cX12_bestFor 30 = .ok (.ishr, 1) := by decide +kernel
theorem dX12_bestFor_31 : decode cX12_bestFor 31 = .ok (.iconst 1, 1) := by decide +kernel
theorem dX12_bestFor_32 : decode cX12_bestFor 32 = .ok (.iand, 1) := by decide +kernel
theorem dX12_bestFor_33 : decode cX12_bestFor 33 = .ok (.ifCond .ne 36, 3) := by decide +kernel
theorem dX12_bestFor_36 : decode cX12_bestFor 36 = .ok (.iload_n 3, 1) := by decide +kernel
theorem dX12_bestFor_37 : decode cX12_bestFor 37 = .ok (.ifCond .lt 29, 3) := by decide +kernel
theorem dX12_bestFor_40 : decode cX12_bestFor 40 = .ok (.aload_n 0, 1) := by decide +kernel
theorem dX12_bestFor_41 : decode cX12_bestFor 41 = .ok (.getfield 106, 3) := by decide +kernel
theorem dX12_bestFor_44 : decode cX12_bestFor 44 = .ok (.bipush 24, 2) := by decide +kernel
theorem dX12_bestFor_46 : decode cX12_bestFor 46 = .ok (.iload_n 1, 1) := by decide +kernel
theorem dX12_bestFor_47 : decode cX12_bestFor 47 = .ok (.imul, 1) := by decide +kernel
theorem dX12_bestFor_48 : decode cX12_bestFor 48 = .ok (.iload 4, 2) := by decide +kernel
theorem dX12_bestFor_50 : decode cX12_bestFor 50 = .ok (.iadd, 1) := by decide +kernel
theorem dX12_bestFor_51 : decode cX12_bestFor 51 = .ok (.iaload, 1) := by decide +kernel
theorem dX12_bestFor_52 : decode cX12_bestFor 52 = .ok (.aload_n 0, 1) := by decide +kernel
theorem dX12_bestFor_53 : decode cX12_bestFor 53 = .ok (.getfield 106, 3) := by decide +kernel
theorem dX12_bestFor_56 : decode cX12_bestFor 56 = .ok (.bipush 24, 2) := by decide +kernel
theorem dX12_bestFor_58 : decode cX12_bestFor 58 = .ok (.iload_n 1, 1) := by decide +kernel
theorem dX12_bestFor_59 : decode cX12_bestFor 59 = .ok (.imul, 1) := by decide +kernel
theorem dX12_bestFor_60 : decode cX12_bestFor 60 = .ok (.iload_n 3, 1) := by decide +kernel
theorem dX12_bestFor_61 : decode cX12_bestFor 61 = .ok (.iadd, 1) := by decide +kernel
theorem dX12_bestFor_62 : decode cX12_bestFor 62 = .ok (.iaload, 1) := by decide +kernel
theorem dX12_bestFor_63 : decode cX12_bestFor 63 = .ok (.if_icmp .le 6, 3) := by decide +kernel
theorem dX12_bestFor_66 : decode cX12_bestFor 66 = .ok (.iload 4, 2) := by decide +kernel
theorem dX12_bestFor_68 : decode cX12_bestFor 68 = .ok (.istore_n 3, 1) := by decide +kernel
theorem dX12_bestFor_69 : decode cX12_bestFor 69 = .ok (.iinc 4 1, 3) := by decide +kernel
theorem dX12_bestFor_72 : decode cX12_bestFor 72 = .ok (.goto (-67), 3) := by decide +kernel
theorem dX12_bestFor_75 : decode cX12_bestFor 75 = .ok (.iload_n 3, 1) := by decide +kernel
theorem dX12_bestFor_76 : decode cX12_bestFor 76 = .ok (.ireturn, 1) := by decide +kernel
theorem dX12_picks_0 : decode cX12_picks 0 = .ok (.aload_n 0, 1) := by decide +kernel
theorem dX12_picks_1 : decode cX12_picks 1 = .ok (.invokevirtual 463, 3) := by decide +kernel
theorem dX12_picks_4 : decode cX12_picks 4 = .ok (.iconst 0, 1) := by decide +kernel
theorem dX12_picks_5 : decode cX12_picks 5 = .ok (.istore_n 1, 1) := by decide +kernel
theorem dX12_picks_6 : decode cX12_picks 6 = .ok (.iconst 0, 1) := by decide +kernel
theorem dX12_picks_7 : decode cX12_picks 7 = .ok (.istore_n 2, 1) := by decide +kernel
theorem dX12_picks_8 : decode cX12_picks 8 = .ok (.iconst 0, 1) := by decide +kernel
theorem dX12_picks_9 : decode cX12_picks 9 = .ok (.istore_n 3, 1) := by decide +kernel
theorem dX12_picks_10 : decode cX12_picks 10 = .ok (.iload_n 3, 1) := by decide +kernel
theorem dX12_picks_11 : decode cX12_picks 11 = .ok (.aload_n 0, 1) := by decide +kernel
theorem dX12_picks_12 : decode cX12_picks 12 = .ok (.getfield 353, 3) := by decide +kernel
theorem dX12_picks_15 : decode cX12_picks 15 = .ok (.if_icmp .ge 55, 3) := by decide +kernel
theorem dX12_picks_18 : decode cX12_picks 18 = .ok (.aload_n 0, 1) := by decide +kernel
theorem dX12_picks_19 : decode cX12_picks 19 = .ok (.iload_n 3, 1) := by decide +kernel
theorem dX12_picks_20 : decode cX12_picks 20 = .ok (.invokevirtual 400, 3) := by decide +kernel
theorem dX12_picks_23 : decode cX12_picks 23 = .ok (.ifCond .lt 7, 3) := by decide +kernel
theorem dX12_picks_26 : decode cX12_picks 26 = .ok (.iconst (-1), 1) := by decide +kernel
theorem dX12_picks_27 : decode cX12_picks 27 = .ok (.goto 9, 3) := by decide +kernel
theorem dX12_picks_30 : decode cX12_picks 30 = .ok (.aload_n 0, 1) := by decide +kernel
theorem dX12_picks_31 : decode cX12_picks 31 = .ok (.iload_n 3, 1) := by decide +kernel
theorem dX12_picks_32 : decode cX12_picks 32 = .ok (.iload_n 1, 1) := by decide +kernel
theorem dX12_picks_33 : decode cX12_picks 33 = .ok (.invokevirtual 466, 3) := by decide +kernel
theorem dX12_picks_36 : decode cX12_picks 36 = .ok (.istore 4, 2) := by decide +kernel
theorem dX12_picks_38 : decode cX12_picks 38 = .ok (.aload_n 0, 1) := by decide +kernel
theorem dX12_picks_39 : decode cX12_picks 39 = .ok (.getfield 115, 3) := by decide +kernel
theorem dX12_picks_42 : decode cX12_picks 42 = .ok (.iload_n 3, 1) := by decide +kernel
theorem dX12_picks_43 : decode cX12_picks 43 = .ok (.iload 4, 2) := by decide +kernel
theorem dX12_picks_45 : decode cX12_picks 45 = .ok (.iastore, 1) := by decide +kernel
theorem dX12_picks_46 : decode cX12_picks 46 = .ok (.iload 4, 2) := by decide +kernel
theorem dX12_picks_48 : decode cX12_picks 48 = .ok (.ifCond .ge 6, 3) := by decide +kernel
theorem dX12_picks_51 : decode cX12_picks 51 = .ok (.goto 13, 3) := by decide +kernel
theorem dX12_picks_54 : decode cX12_picks 54 = .ok (.iload_n 1, 1) := by decide +kernel
theorem dX12_picks_55 : decode cX12_picks 55 = .ok (.iconst 1, 1) := by decide +kernel
theorem dX12_picks_56 : decode cX12_picks 56 = .ok (.iload 4, 2) := by decide +kernel
theorem dX12_picks_58 : decode cX12_picks 58 = .ok (.ishl, 1) := by decide +kernel
theorem dX12_picks_59 : decode cX12_picks 59 = .ok (.ior, 1) := by decide +kernel
theorem dX12_picks_60 : decode cX12_picks 60 = .ok (.istore_n 1, 1) := by decide +kernel
theorem dX12_picks_61 : decode cX12_picks 61 = .ok (.iinc 2 1, 3) := by decide +kernel
theorem dX12_picks_64 : decode cX12_picks 64 = .ok (.iinc 3 1, 3) := by decide +kernel
theorem dX12_picks_67 : decode cX12_picks 67 = .ok (.goto (-57), 3) := by decide +kernel
theorem dX12_picks_70 : decode cX12_picks 70 = .ok (.aload_n 0, 1) := by decide +kernel
theorem dX12_picks_71 : decode cX12_picks 71 = .ok (.aload_n 0, 1) := by decide +kernel
theorem dX12_picks_72 : decode cX12_picks 72 = .ok (.getfield 353, 3) := by decide +kernel
theorem dX12_picks_75 : decode cX12_picks 75 = .ok (.putfield 368, 3) := by decide +kernel
theorem dX12_picks_78 : decode cX12_picks 78 = .ok (.iload_n 2, 1) := by decide +kernel
theorem dX12_picks_79 : decode cX12_picks 79 = .ok (.ireturn, 1) := by decide +kernel
theorem dX12_leastBy_0 : decode cX12_leastBy 0 = .ok (.iconst 0, 1) := by decide +kernel
theorem dX12_leastBy_1 : decode cX12_leastBy 1 = .ok (.istore_n 2, 1) := by decide +kernel
theorem dX12_leastBy_2 : decode cX12_leastBy 2 = .ok (.ldc_w 406, 3) := by decide +kernel
theorem dX12_leastBy_5 : decode cX12_leastBy 5 = .ok (.istore_n 3, 1) := by decide +kernel
theorem dX12_leastBy_6 : decode cX12_leastBy 6 = .ok (.iconst 0, 1) := by decide +kernel
theorem dX12_leastBy_7 : decode cX12_leastBy 7 = .ok (.istore 4, 2) := by decide +kernel
theorem dX12_leastBy_9 : decode cX12_leastBy 9 = .ok (.iload 4, 2) := by decide +kernel
theorem dX12_leastBy_11 : decode cX12_leastBy 11 = .ok (.iload_n 1, 1) := by decide +kernel
theorem dX12_leastBy_12 : decode cX12_leastBy 12 = .ok (.if_icmp .ge 78, 3) := by decide +kernel
theorem dX12_leastBy_15 : decode cX12_leastBy 15 = .ok (.aload_n 0, 1) := by decide +kernel
theorem dX12_leastBy_16 : decode cX12_leastBy 16 = .ok (.aload_n 0, 1) := by decide +kernel
theorem dX12_leastBy_17 : decode cX12_leastBy 17 = .ok (.getfield 109, 3) := by decide +kernel
theorem dX12_leastBy_20 : decode cX12_leastBy 20 = .ok (.iload 4, 2) := by decide +kernel
theorem dX12_leastBy_22 : decode cX12_leastBy 22 = .ok (.iaload, 1) := by decide +kernel
theorem dX12_leastBy_23 : decode cX12_leastBy 23 = .ok (.iload_n 2, 1) := by decide +kernel
theorem dX12_leastBy_24 : decode cX12_leastBy 24 = .ok (.invokevirtual 466, 3) := by decide +kernel
theorem dX12_leastBy_27 : decode cX12_leastBy 27 = .ok (.istore 5, 2) := by decide +kernel
theorem dX12_leastBy_29 : decode cX12_leastBy 29 = .ok (.iload 5, 2) := by decide +kernel
theorem dX12_leastBy_31 : decode cX12_leastBy 31 = .ok (.ifCond .ge 7, 3) := by decide +kernel
theorem dX12_leastBy_34 : decode cX12_leastBy 34 = .ok (.iconst 0, 1) := by decide +kernel
theorem dX12_leastBy_35 : decode cX12_leastBy 35 = .ok (.goto 21, 3) := by decide +kernel
theorem dX12_leastBy_38 : decode cX12_leastBy 38 = .ok (.aload_n 0, 1) := by decide +kernel
theorem dX12_leastBy_39 : decode cX12_leastBy 39 = .ok (.getfield 106, 3) := by decide +kernel
theorem dX12_leastBy_42 : decode cX12_leastBy 42 = .ok (.bipush 24, 2) := by decide +kernel
theorem dX12_leastBy_44 : decode cX12_leastBy 44 = .ok (.aload_n 0, 1) := by decide +kernel
theorem dX12_leastBy_45 : decode cX12_leastBy 45 = .ok (.getfield 109, 3) := by decide +kernel
theorem dX12_leastBy_48 : decode cX12_leastBy 48 = .ok (.iload 4, 2) := by decide +kernel
theorem dX12_leastBy_50 : decode cX12_leastBy 50 = .ok (.iaload, 1) := by decide +kernel
theorem dX12_leastBy_51 : decode cX12_leastBy 51 = .ok (.imul, 1) := by decide +kernel
theorem dX12_leastBy_52 : decode cX12_leastBy 52 = .ok (.iload 5, 2) := by decide +kernel
theorem dX12_leastBy_54 : decode cX12_leastBy 54 = .ok (.iadd, 1) := by decide +kernel
theorem dX12_leastBy_55 : decode cX12_leastBy 55 = .ok (.iaload, 1) := by decide +kernel
theorem dX12_leastBy_56 : decode cX12_leastBy 56 = .ok (.istore 6, 2) := by decide +kernel
theorem dX12_leastBy_58 : decode cX12_leastBy 58 = .ok (.iload 5, 2) := by decide +kernel
theorem dX12_leastBy_60 : decode cX12_leastBy 60 = .ok (.ifCond .lt 10, 3) := by decide +kernel
theorem dX12_leastBy_63 : decode cX12_leastBy 63 = .ok (.iload_n 2, 1) := by decide +kernel
theorem dX12_leastBy_64 : decode cX12_leastBy 64 = .ok (.iconst 1, 1) := by decide +kernel
theorem dX12_leastBy_65 : decode cX12_leastBy 65 = .ok (.iload 5, 2) := by decide +kernel
theorem dX12_leastBy_67 : decode cX12_leastBy 67 = .ok (.ishl, 1) := by decide +kernel
theorem dX12_leastBy_68 : decode cX12_leastBy 68 = .ok (.ior, 1) := by decide +kernel
theorem dX12_leastBy_69 : decode cX12_leastBy 69 = .ok (.istore_n 2, 1) := by decide +kernel
theorem dX12_leastBy_70 : decode cX12_leastBy 70 = .ok (.iload 4, 2) := by decide +kernel
theorem dX12_leastBy_72 : decode cX12_leastBy 72 = .ok (.ifCond .eq 9, 3) := by decide +kernel
theorem dX12_leastBy_75 : decode cX12_leastBy 75 = .ok (.iload 6, 2) := by decide +kernel
theorem dX12_leastBy_77 : decode cX12_leastBy 77 = .ok (.iload_n 3, 1) := by decide +kernel
theorem dX12_leastBy_78 : decode cX12_leastBy 78 = .ok (.if_icmp .ge 6, 3) := by decide +kernel
theorem dX12_leastBy_81 : decode cX12_leastBy 81 = .ok (.iload 6, 2) := by decide +kernel
theorem dX12_leastBy_83 : decode cX12_leastBy 83 = .ok (.istore_n 3, 1) := by decide +kernel
theorem dX12_leastBy_84 : decode cX12_leastBy 84 = .ok (.iinc 4 1, 3) := by decide +kernel
theorem dX12_leastBy_87 : decode cX12_leastBy 87 = .ok (.goto (-78), 3) := by decide +kernel
theorem dX12_leastBy_90 : decode cX12_leastBy 90 = .ok (.iload_n 3, 1) := by decide +kernel
theorem dX12_leastBy_91 : decode cX12_leastBy 91 = .ok (.ireturn, 1) := by decide +kernel
theorem dX12_layTurn_0 : decode cX12_layTurn 0 = .ok (.iload_n 2, 1) := by decide +kernel
theorem dX12_layTurn_1 : decode cX12_layTurn 1 = .ok (.istore 4, 2) := by decide +kernel
theorem dX12_layTurn_3 : decode cX12_layTurn 3 = .ok (.iconst 0, 1) := by decide +kernel
theorem dX12_layTurn_4 : decode cX12_layTurn 4 = .ok (.istore 5, 2) := by decide +kernel
theorem dX12_layTurn_6 : decode cX12_layTurn 6 = .ok (.iload_n 1, 1) := by decide +kernel
theorem dX12_layTurn_7 : decode cX12_layTurn 7 = .ok (.iconst 1, 1) := by decide +kernel
theorem dX12_layTurn_8 : decode cX12_layTurn 8 = .ok (.isub, 1) := by decide +kernel
theorem dX12_layTurn_9 : decode cX12_layTurn 9 = .ok (.istore 6, 2) := by decide +kernel
theorem dX12_layTurn_11 : decode cX12_layTurn 11 = .ok (.iload 6, 2) := by decide +kernel
theorem dX12_layTurn_13 : decode cX12_layTurn 13 = .ok (.ifCond .lt 42, 3) := by decide +kernel
theorem dX12_layTurn_16 : decode cX12_layTurn 16 = .ok (.aload_n 0, 1) := by decide +kernel
theorem dX12_layTurn_17 : decode cX12_layTurn 17 = .ok (.getfield 109, 3) := by decide +kernel
theorem dX12_layTurn_20 : decode cX12_layTurn 20 = .ok (.iload 6, 2) := by decide +kernel
theorem dX12_layTurn_22 : decode cX12_layTurn 22 = .ok (.iload 4, 2) := by decide +kernel
theorem dX12_layTurn_24 : decode cX12_layTurn 24 = .ok (.bipush 6, 2) := by decide +kernel
theorem dX12_layTurn_26 : decode cX12_layTurn 26 = .ok (.irem, 1) := by decide +kernel
theorem dX12_layTurn_27 : decode cX12_layTurn 27 = .ok (.iastore, 1) := by decide +kernel
theorem dX12_layTurn_28 : decode cX12_layTurn 28 = .ok (.iload 4, 2) := by decide +kernel
theorem dX12_layTurn_30 : decode cX12_layTurn 30 = .ok (.bipush 6, 2) := by decide +kernel
theorem dX12_layTurn_32 : decode cX12_layTurn 32 = .ok (.idiv, 1) := by decide +kernel
theorem dX12_layTurn_33 : decode cX12_layTurn 33 = .ok (.istore 4, 2) := by decide +kernel
theorem dX12_layTurn_35 : decode cX12_layTurn 35 = .ok (.iload 5, 2) := by decide +kernel
theorem dX12_layTurn_37 : decode cX12_layTurn 37 = .ok (.iconst 1, 1) := by decide +kernel
theorem dX12_layTurn_38 : decode cX12_layTurn 38 = .ok (.aload_n 0, 1) := by decide +kernel
theorem dX12_layTurn_39 : decode cX12_layTurn 39 = .ok (.getfield 109, 3) := by decide +kernel
theorem dX12_layTurn_42 : decode cX12_layTurn 42 = .ok (.iload 6, 2) := by decide +kernel
theorem dX12_layTurn_44 : decode cX12_layTurn 44 = .ok (.iaload, 1) := by decide +kernel
theorem dX12_layTurn_45 : decode cX12_layTurn 45 = .ok (.ishl, 1) := by decide +kernel
theorem dX12_layTurn_46 : decode cX12_layTurn 46 = .ok (.ior, 1) := by decide +kernel
theorem dX12_layTurn_47 : decode cX12_layTurn 47 = .ok (.istore 5, 2) := by decide +kernel
theorem dX12_layTurn_49 : decode cX12_layTurn 49 = .ok (.iinc 6 (-1), 3) := by decide +kernel
theorem dX12_layTurn_52 : decode cX12_layTurn 52 = .ok (.goto (-41), 3) := by decide +kernel
theorem dX12_layTurn_55 : decode cX12_layTurn 55 = .ok (.iload 5, 2) := by decide +kernel
theorem dX12_layTurn_57 : decode cX12_layTurn 57 = .ok (.iload_n 3, 1) := by decide +kernel
theorem dX12_layTurn_58 : decode cX12_layTurn 58 = .ok (.if_icmp .ne 7, 3) := by decide +kernel
theorem dX12_layTurn_61 : decode cX12_layTurn 61 = .ok (.iconst 1, 1) := by decide +kernel
theorem dX12_layTurn_62 : decode cX12_layTurn 62 = .ok (.goto 4, 3) := by decide +kernel
theorem dX12_layTurn_65 : decode cX12_layTurn 65 = .ok (.iconst 0, 1) := by decide +kernel
theorem dX12_layTurn_66 : decode cX12_layTurn 66 = .ok (.ireturn, 1) := by decide +kernel
theorem dX12_order_0 : decode cX12_order 0 = .ok (.aload_n 0, 1) := by decide +kernel
theorem dX12_order_1 : decode cX12_order 1 = .ok (.iconst 0, 1) := by decide +kernel
theorem dX12_order_2 : decode cX12_order 2 = .ok (.putfield 368, 3) := by decide +kernel
theorem dX12_order_5 : decode cX12_order 5 = .ok (.aload_n 0, 1) := by decide +kernel
theorem dX12_order_6 : decode cX12_order 6 = .ok (.invokevirtual 463, 3) := by decide +kernel
theorem dX12_order_9 : decode cX12_order 9 = .ok (.iconst 0, 1) := by decide +kernel
theorem dX12_order_10 : decode cX12_order 10 = .ok (.istore_n 1, 1) := by decide +kernel
theorem dX12_order_11 : decode cX12_order 11 = .ok (.iconst 0, 1) := by decide +kernel
theorem dX12_order_12 : decode cX12_order 12 = .ok (.istore_n 2, 1) := by decide +kernel
theorem dX12_order_13 : decode cX12_order 13 = .ok (.iconst 1, 1) := by decide +kernel
theorem dX12_order_14 : decode cX12_order 14 = .ok (.istore_n 3, 1) := by decide +kernel
theorem dX12_order_15 : decode cX12_order 15 = .ok (.iconst 0, 1) := by decide +kernel
theorem dX12_order_16 : decode cX12_order 16 = .ok (.istore 4, 2) := by decide +kernel
theorem dX12_order_18 : decode cX12_order 18 = .ok (.iload 4, 2) := by decide +kernel
theorem dX12_order_20 : decode cX12_order 20 = .ok (.aload_n 0, 1) := by decide +kernel
theorem dX12_order_21 : decode cX12_order 21 = .ok (.getfield 353, 3) := by decide +kernel
theorem dX12_order_24 : decode cX12_order 24 = .ok (.if_icmp .ge 36, 3) := by decide +kernel
theorem dX12_order_27 : decode cX12_order 27 = .ok (.aload_n 0, 1) := by decide +kernel
theorem dX12_order_28 : decode cX12_order 28 = .ok (.iload 4, 2) := by decide +kernel
theorem dX12_order_30 : decode cX12_order 30 = .ok (.invokevirtual 400, 3) := by decide +kernel
theorem dX12_order_33 : decode cX12_order 33 = .ok (.ifCond .lt 6, 3) := by decide +kernel
theorem dX12_order_36 : decode cX12_order 36 = .ok (.goto 18, 3) := by decide +kernel
theorem dX12_order_39 : decode cX12_order 39 = .ok (.iload_n 1, 1) := by decide +kernel
theorem dX12_order_40 : decode cX12_order 40 = .ok (.iconst 1, 1) := by decide +kernel
theorem dX12_order_41 : decode cX12_order 41 = .ok (.iload 4, 2) := by decide +kernel
theorem dX12_order_43 : decode cX12_order 43 = .ok (.ishl, 1) := by decide +kernel
theorem dX12_order_44 : decode cX12_order 44 = .ok (.ior, 1) := by decide +kernel
theorem dX12_order_45 : decode cX12_order 45 = .ok (.istore_n 1, 1) := by decide +kernel
theorem dX12_order_46 : decode cX12_order 46 = .ok (.iinc 2 1, 3) := by decide +kernel
theorem dX12_order_49 : decode cX12_order 49 = .ok (.iload_n 3, 1) := by decide +kernel
theorem dX12_order_50 : decode cX12_order 50 = .ok (.bipush 6, 2) := by decide +kernel
theorem dX12_order_52 : decode cX12_order 52 = .ok (.imul, 1) := by decide +kernel
theorem dX12_order_53 : decode cX12_order 53 = .ok (.istore_n 3, 1) := by decide +kernel
theorem dX12_order_54 : decode cX12_order 54 = .ok (.iinc 4 1, 3) := by decide +kernel
theorem dX12_order_57 : decode cX12_order 57 = .ok (.goto (-39), 3) := by decide +kernel
theorem dX12_order_60 : decode cX12_order 60 = .ok (.iload_n 2, 1) := by decide +kernel
theorem dX12_order_61 : decode cX12_order 61 = .ok (.ifCond .ne 7, 3) := by decide +kernel
theorem dX12_order_64 : decode cX12_order 64 = .ok (.ldc_w 406, 3) := by decide +kernel
theorem dX12_order_67 : decode cX12_order 67 = .ok (.ireturn, 1) := by decide +kernel
theorem dX12_order_68 : decode cX12_order 68 = .ok (.ldc_w 406, 3) := by decide +kernel
theorem dX12_order_71 : decode cX12_order 71 = .ok (.istore 4, 2) := by decide +kernel
theorem dX12_order_73 : decode cX12_order 73 = .ok (.iconst 0, 1) := by decide +kernel
theorem dX12_order_74 : decode cX12_order 74 = .ok (.istore 5, 2) := by decide +kernel
theorem dX12_order_76 : decode cX12_order 76 = .ok (.iconst 0, 1) := by decide +kernel
theorem dX12_order_77 : decode cX12_order 77 = .ok (.istore 6, 2) := by decide +kernel
theorem dX12_order_79 : decode cX12_order 79 = .ok (.iload 6, 2) := by decide +kernel
theorem dX12_order_81 : decode cX12_order 81 = .ok (.iload_n 3, 1) := by decide +kernel
theorem dX12_order_82 : decode cX12_order 82 = .ok (.if_icmp .ge 81, 3) := by decide +kernel
theorem dX12_order_85 : decode cX12_order 85 = .ok (.aload_n 0, 1) := by decide +kernel
theorem dX12_order_86 : decode cX12_order 86 = .ok (.iload_n 2, 1) := by decide +kernel
theorem dX12_order_87 : decode cX12_order 87 = .ok (.iload 6, 2) := by decide +kernel
theorem dX12_order_89 : decode cX12_order 89 = .ok (.iload_n 1, 1) := by decide +kernel
theorem dX12_order_90 : decode cX12_order 90 = .ok (.invokevirtual 469, 3) := by decide +kernel
theorem dX12_order_93 : decode cX12_order 93 = .ok (.ifCond .ne 6, 3) := by decide +kernel
theorem dX12_order_96 : decode cX12_order 96 = .ok (.goto 61, 3) := by decide +kernel
theorem dX12_order_99 : decode cX12_order 99 = .ok (.aload_n 0, 1) := by decide +kernel
theorem dX12_order_100 : decode cX12_order 100 = .ok (.iload_n 2, 1) := by decide +kernel
theorem dX12_order_101 : decode cX12_order 101 = .ok (.invokevirtual 472, 3) := by decide +kernel
theorem dX12_order_104 : decode cX12_order 104 = .ok (.istore 7, 2) := by decide +kernel
theorem dX12_order_106 : decode cX12_order 106 = .ok (.iload 5, 2) := by decide +kernel
theorem dX12_order_108 : decode cX12_order 108 = .ok (.ifCond .eq 13, 3) := by decide +kernel
theorem dX12_order_111 : decode cX12_order 111 = .ok (.iload 7, 2) := by decide +kernel
theorem dX12_order_113 : decode cX12_order 113 = .ok (.iload 4, 2) := by decide +kernel
theorem dX12_order_115 : decode cX12_order 115 = .ok (.if_icmp .gt 6, 3) := by decide +kernel
theorem dX12_order_118 : decode cX12_order 118 = .ok (.goto 39, 3) := by decide +kernel
theorem dX12_order_121 : decode cX12_order 121 = .ok (.iconst 1, 1) := by decide +kernel
theorem dX12_order_122 : decode cX12_order 122 = .ok (.istore 5, 2) := by decide +kernel
theorem dX12_order_124 : decode cX12_order 124 = .ok (.iload 7, 2) := by decide +kernel
theorem dX12_order_126 : decode cX12_order 126 = .ok (.istore 4, 2) := by decide +kernel
theorem dX12_order_128 : decode cX12_order 128 = .ok (.iconst 0, 1) := by decide +kernel
theorem dX12_order_129 : decode cX12_order 129 = .ok (.istore 8, 2) := by decide +kernel
theorem dX12_order_131 : decode cX12_order 131 = .ok (.iload 8, 2) := by decide +kernel
theorem dX12_order_133 : decode cX12_order 133 = .ok (.iload_n 2, 1) := by decide +kernel
theorem dX12_order_134 : decode cX12_order 134 = .ok (.if_icmp .ge 23, 3) := by decide +kernel
theorem dX12_order_137 : decode cX12_order 137 = .ok (.aload_n 0, 1) := by decide +kernel
theorem dX12_order_138 : decode cX12_order 138 = .ok (.getfield 112, 3) := by decide +kernel
theorem dX12_order_141 : decode cX12_order 141 = .ok (.iload 8, 2) := by decide +kernel
theorem dX12_order_143 : decode cX12_order 143 = .ok (.aload_n 0, 1) := by decide +kernel
theorem dX12_order_144 : decode cX12_order 144 = .ok (.getfield 109, 3) := by decide +kernel
theorem dX12_order_147 : decode cX12_order 147 = .ok (.iload 8, 2) := by decide +kernel
theorem dX12_order_149 : decode cX12_order 149 = .ok (.iaload, 1) := by decide +kernel
theorem dX12_order_150 : decode cX12_order 150 = .ok (.iastore, 1) := by decide +kernel
theorem dX12_order_151 : decode cX12_order 151 = .ok (.iinc 8 1, 3) := by decide +kernel
theorem dX12_order_154 : decode cX12_order 154 = .ok (.goto (-23), 3) := by decide +kernel
theorem dX12_order_157 : decode cX12_order 157 = .ok (.iinc 6 1, 3) := by decide +kernel
theorem dX12_order_160 : decode cX12_order 160 = .ok (.goto (-81), 3) := by decide +kernel
theorem dX12_order_163 : decode cX12_order 163 = .ok (.iconst 0, 1) := by decide +kernel
theorem dX12_order_164 : decode cX12_order 164 = .ok (.istore 6, 2) := by decide +kernel
theorem dX12_order_166 : decode cX12_order 166 = .ok (.iload 6, 2) := by decide +kernel
theorem dX12_order_168 : decode cX12_order 168 = .ok (.iload_n 2, 1) := by decide +kernel
theorem dX12_order_169 : decode cX12_order 169 = .ok (.if_icmp .ge 23, 3) := by decide +kernel
theorem dX12_order_172 : decode cX12_order 172 = .ok (.aload_n 0, 1) := by decide +kernel
theorem dX12_order_173 : decode cX12_order 173 = .ok (.getfield 115, 3) := by decide +kernel
theorem dX12_order_176 : decode cX12_order 176 = .ok (.iload 6, 2) := by decide +kernel
theorem dX12_order_178 : decode cX12_order 178 = .ok (.aload_n 0, 1) := by decide +kernel
theorem dX12_order_179 : decode cX12_order 179 = .ok (.getfield 112, 3) := by decide +kernel
theorem dX12_order_182 : decode cX12_order 182 = .ok (.iload 6, 2) := by decide +kernel
theorem dX12_order_184 : decode cX12_order 184 = .ok (.iaload, 1) := by decide +kernel
theorem dX12_order_185 : decode cX12_order 185 = .ok (.iastore, 1) := by decide +kernel
theorem dX12_order_186 : decode cX12_order 186 = .ok (.iinc 6 1, 3) := by decide +kernel
theorem dX12_order_189 : decode cX12_order 189 = .ok (.goto (-23), 3) := by decide +kernel
theorem dX12_order_192 : decode cX12_order 192 = .ok (.aload_n 0, 1) := by decide +kernel
theorem dX12_order_193 : decode cX12_order 193 = .ok (.iload_n 2, 1) := by decide +kernel
theorem dX12_order_194 : decode cX12_order 194 = .ok (.putfield 368, 3) := by decide +kernel
theorem dX12_order_197 : decode cX12_order 197 = .ok (.iload 4, 2) := by decide +kernel
theorem dX12_order_199 : decode cX12_order 199 = .ok (.ireturn, 1) := by decide +kernel
theorem dX12_isGrid_0 : decode cX12_isGrid 0 = .ok (.aload_n 0, 1) := by decide +kernel
theorem dX12_isGrid_1 : decode cX12_isGrid 1 = .ok (.getfield 61, 3) := by decide +kernel
theorem dX12_isGrid_4 : decode cX12_isGrid 4 = .ok (.iload_n 1, 1) := by decide +kernel
theorem dX12_isGrid_5 : decode cX12_isGrid 5 = .ok (.iaload, 1) := by decide +kernel
theorem dX12_isGrid_6 : decode cX12_isGrid 6 = .ok (.iload_n 2, 1) := by decide +kernel
theorem dX12_isGrid_7 : decode cX12_isGrid 7 = .ok (.irem, 1) := by decide +kernel
theorem dX12_isGrid_8 : decode cX12_isGrid 8 = .ok (.ifCond .ne 18, 3) := by decide +kernel
theorem dX12_isGrid_11 : decode cX12_isGrid 11 = .ok (.aload_n 0, 1) := by decide +kernel
theorem dX12_isGrid_12 : decode cX12_isGrid 12 = .ok (.getfield 64, 3) := by decide +kernel
theorem dX12_isGrid_15 : decode cX12_isGrid 15 = .ok (.iload_n 1, 1) := by decide +kernel
theorem dX12_isGrid_16 : decode cX12_isGrid 16 = .ok (.iaload, 1) := by decide +kernel
theorem dX12_isGrid_17 : decode cX12_isGrid 17 = .ok (.iload_n 3, 1) := by decide +kernel
theorem dX12_isGrid_18 : decode cX12_isGrid 18 = .ok (.irem, 1) := by decide +kernel
theorem dX12_isGrid_19 : decode cX12_isGrid 19 = .ok (.ifCond .ne 7, 3) := by decide +kernel
theorem dX12_isGrid_22 : decode cX12_isGrid 22 = .ok (.iconst 1, 1) := by decide +kernel
theorem dX12_isGrid_23 : decode cX12_isGrid 23 = .ok (.goto 4, 3) := by decide +kernel
theorem dX12_isGrid_26 : decode cX12_isGrid 26 = .ok (.iconst 0, 1) := by decide +kernel
theorem dX12_isGrid_27 : decode cX12_isGrid 27 = .ok (.ireturn, 1) := by decide +kernel
theorem dX12_gridIcing_0 : decode cX12_gridIcing 0 = .ok (.aload_n 0, 1) := by decide +kernel
theorem dX12_gridIcing_1 : decode cX12_gridIcing 1 = .ok (.getfield 61, 3) := by decide +kernel
theorem dX12_gridIcing_4 : decode cX12_gridIcing 4 = .ok (.iload_n 1, 1) := by decide +kernel
theorem dX12_gridIcing_5 : decode cX12_gridIcing 5 = .ok (.iaload, 1) := by decide +kernel
theorem dX12_gridIcing_6 : decode cX12_gridIcing 6 = .ok (.iload_n 2, 1) := by decide +kernel
theorem dX12_gridIcing_7 : decode cX12_gridIcing 7 = .ok (.idiv, 1) := by decide +kernel
theorem dX12_gridIcing_8 : decode cX12_gridIcing 8 = .ok (.iload 5, 2) := by decide +kernel
theorem dX12_gridIcing_10 : decode cX12_gridIcing 10 = .ok (.ifCond .ne 7, 3) := by decide +kernel
theorem dX12_gridIcing_13 : decode cX12_gridIcing 13 = .ok (.iconst 1, 1) := by decide +kernel
theorem dX12_gridIcing_14 : decode cX12_gridIcing 14 = .ok (.goto 4, 3) := by decide +kernel
theorem dX12_gridIcing_17 : decode cX12_gridIcing 17 = .ok (.iconst 0, 1) := by decide +kernel
theorem dX12_gridIcing_18 : decode cX12_gridIcing 18 = .ok (.invokestatic 302, 3) := by decide +kernel
theorem dX12_gridIcing_21 : decode cX12_gridIcing 21 = .ok (.iload 5, 2) := by decide +kernel
theorem dX12_gridIcing_23 : decode cX12_gridIcing 23 = .ok (.iload_n 3, 1) := by decide +kernel
theorem dX12_gridIcing_24 : decode cX12_gridIcing 24 = .ok (.iconst 1, 1) := by decide +kernel
theorem dX12_gridIcing_25 : decode cX12_gridIcing 25 = .ok (.isub, 1) := by decide +kernel
theorem dX12_gridIcing_26 : decode cX12_gridIcing 26 = .ok (.if_icmp .ne 7, 3) := by decide +kernel
theorem dX12_gridIcing_29 : decode cX12_gridIcing 29 = .ok (.iconst 1, 1) := by decide +kernel
theorem dX12_gridIcing_30 : decode cX12_gridIcing 30 = .ok (.goto 4, 3) := by decide +kernel
theorem dX12_gridIcing_33 : decode cX12_gridIcing 33 = .ok (.iconst 0, 1) := by decide +kernel
theorem dX12_gridIcing_34 : decode cX12_gridIcing 34 = .ok (.invokestatic 302, 3) := by decide +kernel
theorem dX12_gridIcing_37 : decode cX12_gridIcing 37 = .ok (.iadd, 1) := by decide +kernel
theorem dX12_gridIcing_38 : decode cX12_gridIcing 38 = .ok (.imul, 1) := by decide +kernel
theorem dX12_gridIcing_39 : decode cX12_gridIcing 39 = .ok (.aload_n 0, 1) := by decide +kernel
theorem dX12_gridIcing_40 : decode cX12_gridIcing 40 = .ok (.getfield 64, 3) := by decide +kernel
theorem dX12_gridIcing_43 : decode cX12_gridIcing 43 = .ok (.iload_n 1, 1) := by decide +kernel
theorem dX12_gridIcing_44 : decode cX12_gridIcing 44 = .ok (.iaload, 1) := by decide +kernel
theorem dX12_gridIcing_45 : decode cX12_gridIcing 45 = .ok (.iload_n 3, 1) := by decide +kernel
theorem dX12_gridIcing_46 : decode cX12_gridIcing 46 = .ok (.idiv, 1) := by decide +kernel
theorem dX12_gridIcing_47 : decode cX12_gridIcing 47 = .ok (.iload 4, 2) := by decide +kernel
theorem dX12_gridIcing_49 : decode cX12_gridIcing 49 = .ok (.ifCond .ne 7, 3) := by decide +kernel
theorem dX12_gridIcing_52 : decode cX12_gridIcing 52 = .ok (.iconst 1, 1) := by decide +kernel
theorem dX12_gridIcing_53 : decode cX12_gridIcing 53 = .ok (.goto 4, 3) := by decide +kernel
theorem dX12_gridIcing_56 : decode cX12_gridIcing 56 = .ok (.iconst 0, 1) := by decide +kernel
theorem dX12_gridIcing_57 : decode cX12_gridIcing 57 = .ok (.invokestatic 302, 3) := by decide +kernel
theorem dX12_gridIcing_60 : decode cX12_gridIcing 60 = .ok (.iload 4, 2) := by decide +kernel
theorem dX12_gridIcing_62 : decode cX12_gridIcing 62 = .ok (.iload_n 2, 1) := by decide +kernel
theorem dX12_gridIcing_63 : decode cX12_gridIcing 63 = .ok (.iconst 1, 1) := by decide +kernel
theorem dX12_gridIcing_64 : decode cX12_gridIcing 64 = .ok (.isub, 1) := by decide +kernel
theorem dX12_gridIcing_65 : decode cX12_gridIcing 65 = .ok (.if_icmp .ne 7, 3) := by decide +kernel
theorem dX12_gridIcing_68 : decode cX12_gridIcing 68 = .ok (.iconst 1, 1) := by decide +kernel
theorem dX12_gridIcing_69 : decode cX12_gridIcing 69 = .ok (.goto 4, 3) := by decide +kernel
theorem dX12_gridIcing_72 : decode cX12_gridIcing 72 = .ok (.iconst 0, 1) := by decide +kernel
theorem dX12_gridIcing_73 : decode cX12_gridIcing 73 = .ok (.invokestatic 302, 3) := by decide +kernel
theorem dX12_gridIcing_76 : decode cX12_gridIcing 76 = .ok (.iadd, 1) := by decide +kernel
theorem dX12_gridIcing_77 : decode cX12_gridIcing 77 = .ok (.imul, 1) := by decide +kernel
theorem dX12_gridIcing_78 : decode cX12_gridIcing 78 = .ok (.iadd, 1) := by decide +kernel
theorem dX12_gridIcing_79 : decode cX12_gridIcing 79 = .ok (.ireturn, 1) := by decide +kernel
theorem dX12_gridUneven_0 : decode cX12_gridUneven 0 = .ok (.bipush 33, 2) := by decide +kernel
theorem dX12_gridUneven_2 : decode cX12_gridUneven 2 = .ok (.istore 4, 2) := by decide +kernel
theorem dX12_gridUneven_4 : decode cX12_gridUneven 4 = .ok (.iconst 0, 1) := by decide +kernel
theorem dX12_gridUneven_5 : decode cX12_gridUneven 5 = .ok (.istore 5, 2) := by decide +kernel
theorem dX12_gridUneven_7 : decode cX12_gridUneven 7 = .ok (.iconst 0, 1) := by decide +kernel
theorem dX12_gridUneven_8 : decode cX12_gridUneven 8 = .ok (.istore 6, 2) := by decide +kernel
theorem dX12_gridUneven_10 : decode cX12_gridUneven 10 = .ok (.iload 6, 2) := by decide +kernel
theorem dX12_gridUneven_12 : decode cX12_gridUneven 12 = .ok (.iload_n 2, 1) := by decide +kernel
theorem dX12_gridUneven_13 : decode cX12_gridUneven 13 = .ok (.if_icmp .ge 69, 3) := by decide +kernel
theorem dX12_gridUneven_16 : decode cX12_gridUneven 16 = .ok (.iconst 0, 1) := by decide +kernel
theorem dX12_gridUneven_17 : decode cX12_gridUneven 17 = .ok (.istore 7, 2) := by decide +kernel
theorem dX12_gridUneven_19 : decode cX12_gridUneven 19 = .ok (.iload 7, 2) := by decide +kernel
theorem dX12_gridUneven_21 : decode cX12_gridUneven 21 = .ok (.iload_n 3, 1) := by decide +kernel
theorem dX12_gridUneven_22 : decode cX12_gridUneven 22 = .ok (.if_icmp .ge 54, 3) := by decide +kernel
theorem dX12_gridUneven_25 : decode cX12_gridUneven 25 = .ok (.aload_n 0, 1) := by decide +kernel
theorem dX12_gridUneven_26 : decode cX12_gridUneven 26 = .ok (.iload_n 1, 1) := by decide +kernel
theorem dX12_gridUneven_27 : decode cX12_gridUneven 27 = .ok (.iload_n 2, 1) := by decide +kernel
theorem dX12_gridUneven_28 : decode cX12_gridUneven 28 = .ok (.iload_n 3, 1) := by decide +kernel
theorem dX12_gridUneven_29 : decode cX12_gridUneven 29 = .ok (.iload 6, 2) := by decide +kernel
theorem dX12_gridUneven_31 : decode cX12_gridUneven 31 = .ok (.iload 7, 2) := by decide +kernel
theorem dX12_gridUneven_33 : decode cX12_gridUneven 33 = .ok (.invokevirtual 475, 3) := by decide +kernel
theorem dX12_gridUneven_36 : decode cX12_gridUneven 36 = .ok (.istore 8, 2) := by decide +kernel
theorem dX12_gridUneven_38 : decode cX12_gridUneven 38 = .ok (.iload 8, 2) := by decide +kernel
theorem dX12_gridUneven_40 : decode cX12_gridUneven 40 = .ok (.iload 4, 2) := by decide +kernel
theorem dX12_gridUneven_42 : decode cX12_gridUneven 42 = .ok (.if_icmp .ge 8, 3) := by decide +kernel
theorem dX12_gridUneven_45 : decode cX12_gridUneven 45 = .ok (.iload 8, 2) := by decide +kernel
theorem dX12_gridUneven_47 : decode cX12_gridUneven 47 = .ok (.goto 5, 3) := by decide +kernel
theorem dX12_gridUneven_50 : decode cX12_gridUneven 50 = .ok (.iload 4, 2) := by decide +kernel
theorem dX12_gridUneven_52 : decode cX12_gridUneven 52 = .ok (.istore 4, 2) := by decide +kernel
theorem dX12_gridUneven_54 : decode cX12_gridUneven 54 = .ok (.iload 8, 2) := by decide +kernel
theorem dX12_gridUneven_56 : decode cX12_gridUneven 56 = .ok (.iload 5, 2) := by decide +kernel
theorem dX12_gridUneven_58 : decode cX12_gridUneven 58 = .ok (.if_icmp .le 8, 3) := by decide +kernel
theorem dX12_gridUneven_61 : decode cX12_gridUneven 61 = .ok (.iload 8, 2) := by decide +kernel
theorem dX12_gridUneven_63 : decode cX12_gridUneven 63 = .ok (.goto 5, 3) := by decide +kernel
theorem dX12_gridUneven_66 : decode cX12_gridUneven 66 = .ok (.iload 5, 2) := by decide +kernel
theorem dX12_gridUneven_68 : decode cX12_gridUneven 68 = .ok (.istore 5, 2) := by decide +kernel
theorem dX12_gridUneven_70 : decode cX12_gridUneven 70 = .ok (.iinc 7 1, 3) := by decide +kernel
theorem dX12_gridUneven_73 : decode cX12_gridUneven 73 = .ok (.goto (-54), 3) := by decide +kernel
theorem dX12_gridUneven_76 : decode cX12_gridUneven 76 = .ok (.iinc 6 1, 3) := by decide +kernel
theorem dX12_gridUneven_79 : decode cX12_gridUneven 79 = .ok (.goto (-69), 3) := by decide +kernel
theorem dX12_gridUneven_82 : decode cX12_gridUneven 82 = .ok (.iload 5, 2) := by decide +kernel
theorem dX12_gridUneven_84 : decode cX12_gridUneven 84 = .ok (.iload 4, 2) := by decide +kernel
theorem dX12_gridUneven_86 : decode cX12_gridUneven 86 = .ok (.isub, 1) := by decide +kernel
theorem dX12_gridUneven_87 : decode cX12_gridUneven 87 = .ok (.ireturn, 1) := by decide +kernel
theorem dX12_grid_0 : decode cX12_grid 0 = .ok (.aload_n 0, 1) := by decide +kernel
theorem dX12_grid_1 : decode cX12_grid 1 = .ok (.iload_n 1, 1) := by decide +kernel
theorem dX12_grid_2 : decode cX12_grid 2 = .ok (.invokevirtual 479, 3) := by decide +kernel
theorem dX12_grid_5 : decode cX12_grid 5 = .ok (.ifCond .eq 22, 3) := by decide +kernel
theorem dX12_grid_8 : decode cX12_grid 8 = .ok (.iload_n 2, 1) := by decide +kernel
theorem dX12_grid_9 : decode cX12_grid 9 = .ok (.iconst 1, 1) := by decide +kernel
theorem dX12_grid_10 : decode cX12_grid 10 = .ok (.bipush 64, 2) := by decide +kernel
theorem dX12_grid_12 : decode cX12_grid 12 = .ok (.invokestatic 371, 3) := by decide +kernel
theorem dX12_grid_15 : decode cX12_grid 15 = .ok (.ifCond .eq 12, 3) := by decide +kernel
theorem dX12_grid_18 : decode cX12_grid 18 = .ok (.iload_n 3, 1) := by decide +kernel
theorem dX12_grid_19 : decode cX12_grid 19 = .ok (.iconst 0, 1) := by decide +kernel
theorem dX12_grid_20 : decode cX12_grid 20 = .ok (.iconst 3, 1) := by decide +kernel
theorem dX12_grid_21 : decode cX12_grid 21 = .ok (.invokestatic 371, 3) := by decide +kernel
theorem dX12_grid_24 : decode cX12_grid 24 = .ok (.ifCond .ne 5, 3) := by decide +kernel
theorem dX12_grid_27 : decode cX12_grid 27 = .ok (.iconst (-1), 1) := by decide +kernel
theorem dX12_grid_28 : decode cX12_grid 28 = .ok (.ireturn, 1) := by decide +kernel
theorem dX12_grid_29 : decode cX12_grid 29 = .ok (.iconst (-1), 1) := by decide +kernel
theorem dX12_grid_30 : decode cX12_grid 30 = .ok (.istore 4, 2) := by decide +kernel
theorem dX12_grid_32 : decode cX12_grid 32 = .ok (.iconst 1, 1) := by decide +kernel
theorem dX12_grid_33 : decode cX12_grid 33 = .ok (.istore 5, 2) := by decide +kernel
theorem dX12_grid_35 : decode cX12_grid 35 = .ok (.iload 5, 2) := by decide +kernel
theorem dX12_grid_37 : decode cX12_grid 37 = .ok (.bipush 8, 2) := by decide +kernel
theorem dX12_grid_39 : decode cX12_grid 39 = .ok (.if_icmp .gt 107, 3) := by decide +kernel
theorem dX12_grid_42 : decode cX12_grid 42 = .ok (.iload_n 2, 1) := by decide +kernel
theorem dX12_grid_43 : decode cX12_grid 43 = .ok (.iload 5, 2) := by decide +kernel
theorem dX12_grid_45 : decode cX12_grid 45 = .ok (.idiv, 1) := by decide +kernel
theorem dX12_grid_46 : decode cX12_grid 46 = .ok (.istore 6, 2) := by decide +kernel
theorem dX12_grid_48 : decode cX12_grid 48 = .ok (.iload 5, 2) := by decide +kernel
theorem dX12_grid_50 : decode cX12_grid 50 = .ok (.iload 6, 2) := by decide +kernel
theorem dX12_grid_52 : decode cX12_grid 52 = .ok (.imul, 1) := by decide +kernel
theorem dX12_grid_53 : decode cX12_grid 53 = .ok (.iload_n 2, 1) := by decide +kernel
theorem dX12_grid_54 : decode cX12_grid 54 = .ok (.if_icmp .ne 86, 3) := by decide +kernel
theorem dX12_grid_57 : decode cX12_grid 57 = .ok (.iload 6, 2) := by decide +kernel
theorem dX12_grid_59 : decode cX12_grid 59 = .ok (.bipush 8, 2) := by decide +kernel
theorem dX12_grid_61 : decode cX12_grid 61 = .ok (.if_icmp .gt 79, 3) := by decide +kernel
theorem dX12_grid_64 : decode cX12_grid 64 = .ok (.aload_n 0, 1) := by decide +kernel
theorem dX12_grid_65 : decode cX12_grid 65 = .ok (.iload_n 1, 1) := by decide +kernel
theorem dX12_grid_66 : decode cX12_grid 66 = .ok (.iload 5, 2) := by decide +kernel
theorem dX12_grid_68 : decode cX12_grid 68 = .ok (.iload 6, 2) := by decide +kernel
theorem dX12_grid_70 : decode cX12_grid 70 = .ok (.invokevirtual 482, 3) := by decide +kernel
theorem dX12_grid_73 : decode cX12_grid 73 = .ok (.ifCond .ne 6, 3) := by decide +kernel
theorem dX12_grid_76 : decode cX12_grid 76 = .ok (.goto 64, 3) := by decide +kernel
theorem dX12_grid_79 : decode cX12_grid 79 = .ok (.iload 4, 2) := by decide +kernel
theorem dX12_grid_81 : decode cX12_grid 81 = .ok (.ifCond .ge 7, 3) := by decide +kernel
theorem dX12_grid_84 : decode cX12_grid 84 = .ok (.iconst (-1), 1) := by decide +kernel
theorem dX12_grid_85 : decode cX12_grid 85 = .ok (.goto 16, 3) := by decide +kernel
theorem dX12_grid_88 : decode cX12_grid 88 = .ok (.iload 5, 2) := by decide +kernel
theorem dX12_grid_90 : decode cX12_grid 90 = .ok (.iload 6, 2) := by decide +kernel
theorem dX12_grid_92 : decode cX12_grid 92 = .ok (.iadd, 1) := by decide +kernel
theorem dX12_grid_93 : decode cX12_grid 93 = .ok (.iload 4, 2) := by decide +kernel
theorem dX12_grid_95 : decode cX12_grid 95 = .ok (.isub, 1) := by decide +kernel
theorem dX12_grid_96 : decode cX12_grid 96 = .ok (.iload_n 2, 1) := by decide +kernel
theorem dX12_grid_97 : decode cX12_grid 97 = .ok (.iload 4, 2) := by decide +kernel
theorem dX12_grid_99 : decode cX12_grid 99 = .ok (.idiv, 1) := by decide +kernel
theorem dX12_grid_100 : decode cX12_grid 100 = .ok (.isub, 1) := by decide +kernel
theorem dX12_grid_101 : decode cX12_grid 101 = .ok (.istore 7, 2) := by decide +kernel
theorem dX12_grid_103 : decode cX12_grid 103 = .ok (.iload 7, 2) := by decide +kernel
theorem dX12_grid_105 : decode cX12_grid 105 = .ok (.ifCond .lt 31, 3) := by decide +kernel
theorem dX12_grid_108 : decode cX12_grid 108 = .ok (.iload 7, 2) := by decide +kernel
theorem dX12_grid_110 : decode cX12_grid 110 = .ok (.ifCond .ne 30, 3) := by decide +kernel
theorem dX12_grid_113 : decode cX12_grid 113 = .ok (.aload_n 0, 1) := by decide +kernel
theorem dX12_grid_114 : decode cX12_grid 114 = .ok (.iload_n 1, 1) := by decide +kernel
theorem dX12_grid_115 : decode cX12_grid 115 = .ok (.iload 5, 2) := by decide +kernel
theorem dX12_grid_117 : decode cX12_grid 117 = .ok (.iload 6, 2) := by decide +kernel
theorem dX12_grid_119 : decode cX12_grid 119 = .ok (.invokevirtual 485, 3) := by decide +kernel
theorem dX12_grid_122 : decode cX12_grid 122 = .ok (.aload_n 0, 1) := by decide +kernel
theorem dX12_grid_123 : decode cX12_grid 123 = .ok (.iload_n 1, 1) := by decide +kernel
theorem dX12_grid_124 : decode cX12_grid 124 = .ok (.iload 4, 2) := by decide +kernel
theorem dX12_grid_126 : decode cX12_grid 126 = .ok (.iload_n 2, 1) := by decide +kernel
theorem dX12_grid_127 : decode cX12_grid 127 = .ok (.iload 4, 2) := by decide +kernel
theorem dX12_grid_129 : decode cX12_grid 129 = .ok (.idiv, 1) := by decide +kernel
theorem dX12_grid_130 : decode cX12_grid 130 = .ok (.invokevirtual 485, 3) := by decide +kernel
theorem dX12_grid_133 : decode cX12_grid 133 = .ok (.if_icmp .ge 7, 3) := by decide +kernel
theorem dX12_grid_136 : decode cX12_grid 136 = .ok (.iload 5, 2) := by decide +kernel
theorem dX12_grid_138 : decode cX12_grid 138 = .ok (.istore 4, 2) := by decide +kernel
theorem dX12_grid_140 : decode cX12_grid 140 = .ok (.iinc 5 1, 3) := by decide +kernel
theorem dX12_grid_143 : decode cX12_grid 143 = .ok (.goto (-108), 3) := by decide +kernel
theorem dX12_grid_146 : decode cX12_grid 146 = .ok (.iload 4, 2) := by decide +kernel
theorem dX12_grid_148 : decode cX12_grid 148 = .ok (.ifCond .ge 5, 3) := by decide +kernel
theorem dX12_grid_151 : decode cX12_grid 151 = .ok (.iconst (-1), 1) := by decide +kernel
theorem dX12_grid_152 : decode cX12_grid 152 = .ok (.ireturn, 1) := by decide +kernel
theorem dX12_grid_153 : decode cX12_grid 153 = .ok (.iload_n 2, 1) := by decide +kernel
theorem dX12_grid_154 : decode cX12_grid 154 = .ok (.iload 4, 2) := by decide +kernel
theorem dX12_grid_156 : decode cX12_grid 156 = .ok (.idiv, 1) := by decide +kernel
theorem dX12_grid_157 : decode cX12_grid 157 = .ok (.istore 5, 2) := by decide +kernel
theorem dX12_grid_159 : decode cX12_grid 159 = .ok (.iload_n 3, 1) := by decide +kernel
theorem dX12_grid_160 : decode cX12_grid 160 = .ok (.ifCond .ne 8, 3) := by decide +kernel
theorem dX12_grid_163 : decode cX12_grid 163 = .ok (.iload 4, 2) := by decide +kernel
theorem dX12_grid_165 : decode cX12_grid 165 = .ok (.goto 37, 3) := by decide +kernel
theorem dX12_grid_168 : decode cX12_grid 168 = .ok (.iload_n 3, 1) := by decide +kernel
theorem dX12_grid_169 : decode cX12_grid 169 = .ok (.iconst 1, 1) := by decide +kernel
theorem dX12_grid_170 : decode cX12_grid 170 = .ok (.if_icmp .ne 8, 3) := by decide +kernel
theorem dX12_grid_173 : decode cX12_grid 173 = .ok (.iload 5, 2) := by decide +kernel
theorem dX12_grid_175 : decode cX12_grid 175 = .ok (.goto 27, 3) := by decide +kernel
theorem dX12_grid_178 : decode cX12_grid 178 = .ok (.iload_n 3, 1) := by decide +kernel
theorem dX12_grid_179 : decode cX12_grid 179 = .ok (.iconst 2, 1) := by decide +kernel
theorem dX12_grid_180 : decode cX12_grid 180 = .ok (.if_icmp .ne 13, 3) := by decide +kernel
theorem dX12_grid_183 : decode cX12_grid 183 = .ok (.iload 4, 2) := by decide +kernel
theorem dX12_grid_185 : decode cX12_grid 185 = .ok (.iload 5, 2) := by decide +kernel
theorem dX12_grid_187 : decode cX12_grid 187 = .ok (.iadd, 1) := by decide +kernel
theorem dX12_grid_188 : decode cX12_grid 188 = .ok (.iconst 2, 1) := by decide +kernel
theorem dX12_grid_189 : decode cX12_grid 189 = .ok (.isub, 1) := by decide +kernel
theorem dX12_grid_190 : decode cX12_grid 190 = .ok (.goto 12, 3) := by decide +kernel
theorem dX12_grid_193 : decode cX12_grid 193 = .ok (.aload_n 0, 1) := by decide +kernel
theorem dX12_grid_194 : decode cX12_grid 194 = .ok (.iload_n 1, 1) := by decide +kernel
theorem dX12_grid_195 : decode cX12_grid 195 = .ok (.iload 4, 2) := by decide +kernel
theorem dX12_grid_197 : decode cX12_grid 197 = .ok (.iload 5, 2) := by decide +kernel
theorem dX12_grid_199 : decode cX12_grid 199 = .ok (.invokevirtual 485, 3) := by decide +kernel
theorem dX12_grid_202 : decode cX12_grid 202 = .ok (.ireturn, 1) := by decide +kernel
theorem dX12_ways_0 : decode cX12_ways 0 = .ok (.aload_n 0, 1) := by decide +kernel
theorem dX12_ways_1 : decode cX12_ways 1 = .ok (.iload_n 1, 1) := by decide +kernel
theorem dX12_ways_2 : decode cX12_ways 2 = .ok (.invokevirtual 479, 3) := by decide +kernel
theorem dX12_ways_5 : decode cX12_ways 5 = .ok (.ifCond .eq 13, 3) := by decide +kernel
theorem dX12_ways_8 : decode cX12_ways 8 = .ok (.iload_n 2, 1) := by decide +kernel
theorem dX12_ways_9 : decode cX12_ways 9 = .ok (.iconst 1, 1) := by decide +kernel
theorem dX12_ways_10 : decode cX12_ways 10 = .ok (.bipush 64, 2) := by decide +kernel
theorem dX12_ways_12 : decode cX12_ways 12 = .ok (.invokestatic 371, 3) := by decide +kernel
theorem dX12_ways_15 : decode cX12_ways 15 = .ok (.ifCond .ne 5, 3) := by decide +kernel
theorem dX12_ways_18 : decode cX12_ways 18 = .ok (.iconst (-1), 1) := by decide +kernel
theorem dX12_ways_19 : decode cX12_ways 19 = .ok (.ireturn, 1) := by decide +kernel
theorem dX12_ways_20 : decode cX12_ways 20 = .ok (.iconst 0, 1) := by decide +kernel
theorem dX12_ways_21 : decode cX12_ways 21 = .ok (.istore_n 3, 1) := by decide +kernel
theorem dX12_ways_22 : decode cX12_ways 22 = .ok (.iconst 1, 1) := by decide +kernel
theorem dX12_ways_23 : decode cX12_ways 23 = .ok (.istore 4, 2) := by decide +kernel
theorem dX12_ways_25 : decode cX12_ways 25 = .ok (.iload 4, 2) := by decide +kernel
theorem dX12_ways_27 : decode cX12_ways 27 = .ok (.bipush 8, 2) := by decide +kernel
theorem dX12_ways_29 : decode cX12_ways 29 = .ok (.if_icmp .gt 57, 3) := by decide +kernel
theorem dX12_ways_32 : decode cX12_ways 32 = .ok (.iconst 1, 1) := by decide +kernel
theorem dX12_ways_33 : decode cX12_ways 33 = .ok (.istore 5, 2) := by decide +kernel
theorem dX12_ways_35 : decode cX12_ways 35 = .ok (.iload 5, 2) := by decide +kernel
theorem dX12_ways_37 : decode cX12_ways 37 = .ok (.bipush 8, 2) := by decide +kernel
theorem dX12_ways_39 : decode cX12_ways 39 = .ok (.if_icmp .gt 41, 3) := by decide +kernel
theorem dX12_ways_42 : decode cX12_ways 42 = .ok (.iload_n 3, 1) := by decide +kernel
theorem dX12_ways_43 : decode cX12_ways 43 = .ok (.iload 4, 2) := by decide +kernel
theorem dX12_ways_45 : decode cX12_ways 45 = .ok (.iload 5, 2) := by decide +kernel
theorem dX12_ways_47 : decode cX12_ways 47 = .ok (.imul, 1) := by decide +kernel
theorem dX12_ways_48 : decode cX12_ways 48 = .ok (.iload_n 2, 1) := by decide +kernel
theorem dX12_ways_49 : decode cX12_ways 49 = .ok (.if_icmp .ne 19, 3) := by decide +kernel
theorem dX12_ways_52 : decode cX12_ways 52 = .ok (.aload_n 0, 1) := by decide +kernel
theorem dX12_ways_53 : decode cX12_ways 53 = .ok (.iload_n 1, 1) := by decide +kernel
theorem dX12_ways_54 : decode cX12_ways 54 = .ok (.iload 4, 2) := by decide +kernel
theorem dX12_ways_56 : decode cX12_ways 56 = .ok (.iload 5, 2) := by decide +kernel
theorem dX12_ways_58 : decode cX12_ways 58 = .ok (.invokevirtual 482, 3) := by decide +kernel
theorem dX12_ways_61 : decode cX12_ways 61 = .ok (.ifCond .eq 7, 3) := by decide +kernel
theorem dX12_ways_64 : decode cX12_ways 64 = .ok (.iconst 1, 1) := by decide +kernel
theorem dX12_ways_65 : decode cX12_ways 65 = .ok (.goto 4, 3) := by decide +kernel
theorem dX12_ways_68 : decode cX12_ways 68 = .ok (.iconst 0, 1) := by decide +kernel
theorem dX12_ways_69 : decode cX12_ways 69 = .ok (.invokestatic 302, 3) := by decide +kernel
theorem dX12_ways_72 : decode cX12_ways 72 = .ok (.iadd, 1) := by decide +kernel
theorem dX12_ways_73 : decode cX12_ways 73 = .ok (.istore_n 3, 1) := by decide +kernel
theorem dX12_ways_74 : decode cX12_ways 74 = .ok (.iinc 5 1, 3) := by decide +kernel
theorem dX12_ways_77 : decode cX12_ways 77 = .ok (.goto (-42), 3) := by decide +kernel
theorem dX12_ways_80 : decode cX12_ways 80 = .ok (.iinc 4 1, 3) := by decide +kernel
theorem dX12_ways_83 : decode cX12_ways 83 = .ok (.goto (-58), 3) := by decide +kernel
theorem dX12_ways_86 : decode cX12_ways 86 = .ok (.iload_n 3, 1) := by decide +kernel
theorem dX12_ways_87 : decode cX12_ways 87 = .ok (.ireturn, 1) := by decide +kernel
theorem dX12_most_0 : decode cX12_most 0 = .ok (.aload_n 0, 1) := by decide +kernel
theorem dX12_most_1 : decode cX12_most 1 = .ok (.iload_n 1, 1) := by decide +kernel
theorem dX12_most_2 : decode cX12_most 2 = .ok (.invokevirtual 479, 3) := by decide +kernel
theorem dX12_most_5 : decode cX12_most 5 = .ok (.ifCond .eq 14, 3) := by decide +kernel
theorem dX12_most_8 : decode cX12_most 8 = .ok (.iload_n 2, 1) := by decide +kernel
theorem dX12_most_9 : decode cX12_most 9 = .ok (.iconst 1, 1) := by decide +kernel
theorem dX12_most_10 : decode cX12_most 10 = .ok (.sipush 999, 3) := by decide +kernel
theorem dX12_most_13 : decode cX12_most 13 = .ok (.invokestatic 371, 3) := by decide +kernel
theorem dX12_most_16 : decode cX12_most 16 = .ok (.ifCond .ne 5, 3) := by decide +kernel
theorem dX12_most_19 : decode cX12_most 19 = .ok (.iconst (-1), 1) := by decide +kernel
theorem dX12_most_20 : decode cX12_most 20 = .ok (.ireturn, 1) := by decide +kernel
theorem dX12_most_21 : decode cX12_most 21 = .ok (.iconst (-1), 1) := by decide +kernel
theorem dX12_most_22 : decode cX12_most 22 = .ok (.istore_n 3, 1) := by decide +kernel
theorem dX12_most_23 : decode cX12_most 23 = .ok (.iconst 1, 1) := by decide +kernel
theorem dX12_most_24 : decode cX12_most 24 = .ok (.istore 4, 2) := by decide +kernel
theorem dX12_most_26 : decode cX12_most 26 = .ok (.iload 4, 2) := by decide +kernel
theorem dX12_most_28 : decode cX12_most 28 = .ok (.bipush 8, 2) := by decide +kernel
theorem dX12_most_30 : decode cX12_most 30 = .ok (.if_icmp .gt 89, 3) := by decide +kernel
theorem dX12_most_33 : decode cX12_most 33 = .ok (.iconst 1, 1) := by decide +kernel
theorem dX12_most_34 : decode cX12_most 34 = .ok (.istore 5, 2) := by decide +kernel
theorem dX12_most_36 : decode cX12_most 36 = .ok (.iload 5, 2) := by decide +kernel
theorem dX12_most_38 : decode cX12_most 38 = .ok (.bipush 8, 2) := by decide +kernel
theorem dX12_most_40 : decode cX12_most 40 = .ok (.if_icmp .gt 73, 3) := by decide +kernel
theorem dX12_most_43 : decode cX12_most 43 = .ok (.aload_n 0, 1) := by decide +kernel
theorem dX12_most_44 : decode cX12_most 44 = .ok (.iload_n 1, 1) := by decide +kernel
theorem dX12_most_45 : decode cX12_most 45 = .ok (.iload 4, 2) := by decide +kernel
theorem dX12_most_47 : decode cX12_most 47 = .ok (.iload 5, 2) := by decide +kernel
theorem dX12_most_49 : decode cX12_most 49 = .ok (.invokevirtual 482, 3) := by decide +kernel
theorem dX12_most_52 : decode cX12_most 52 = .ok (.ifCond .eq 55, 3) := by decide +kernel
theorem dX12_most_55 : decode cX12_most 55 = .ok (.aload_n 0, 1) := by decide +kernel
theorem dX12_most_56 : decode cX12_most 56 = .ok (.getfield 61, 3) := by decide +kernel
theorem dX12_most_59 : decode cX12_most 59 = .ok (.iload_n 1, 1) := by decide +kernel
theorem dX12_most_60 : decode cX12_most 60 = .ok (.iaload, 1) := by decide +kernel
theorem dX12_most_61 : decode cX12_most 61 = .ok (.iload 4, 2) := by decide +kernel
theorem dX12_most_63 : decode cX12_most 63 = .ok (.idiv, 1) := by decide +kernel
theorem dX12_most_64 : decode cX12_most 64 = .ok (.aload_n 0, 1) := by decide +kernel
theorem dX12_most_65 : decode cX12_most 65 = .ok (.getfield 64, 3) := by decide +kernel
theorem dX12_most_68 : decode cX12_most 68 = .ok (.iload_n 1, 1) := by decide +kernel
theorem dX12_most_69 : decode cX12_most 69 = .ok (.iaload, 1) := by decide +kernel
theorem dX12_most_70 : decode cX12_most 70 = .ok (.iload 5, 2) := by decide +kernel
theorem dX12_most_72 : decode cX12_most 72 = .ok (.idiv, 1) := by decide +kernel
theorem dX12_most_73 : decode cX12_most 73 = .ok (.imul, 1) := by decide +kernel
theorem dX12_most_74 : decode cX12_most 74 = .ok (.aload_n 0, 1) := by decide +kernel
theorem dX12_most_75 : decode cX12_most 75 = .ok (.getfield 67, 3) := by decide +kernel
theorem dX12_most_78 : decode cX12_most 78 = .ok (.iload_n 1, 1) := by decide +kernel
theorem dX12_most_79 : decode cX12_most 79 = .ok (.iaload, 1) := by decide +kernel
theorem dX12_most_80 : decode cX12_most 80 = .ok (.imul, 1) := by decide +kernel
theorem dX12_most_81 : decode cX12_most 81 = .ok (.iload_n 2, 1) := by decide +kernel
theorem dX12_most_82 : decode cX12_most 82 = .ok (.if_icmp .ge 6, 3) := by decide +kernel
theorem dX12_most_85 : decode cX12_most 85 = .ok (.goto 22, 3) := by decide +kernel
theorem dX12_most_88 : decode cX12_most 88 = .ok (.iload 4, 2) := by decide +kernel
theorem dX12_most_90 : decode cX12_most 90 = .ok (.iload 5, 2) := by decide +kernel
theorem dX12_most_92 : decode cX12_most 92 = .ok (.imul, 1) := by decide +kernel
theorem dX12_most_93 : decode cX12_most 93 = .ok (.iload_n 3, 1) := by decide +kernel
theorem dX12_most_94 : decode cX12_most 94 = .ok (.if_icmp .le 11, 3) := by decide +kernel
theorem dX12_most_97 : decode cX12_most 97 = .ok (.iload 4, 2) := by decide +kernel
theorem dX12_most_99 : decode cX12_most 99 = .ok (.iload 5, 2) := by decide +kernel
theorem dX12_most_101 : decode cX12_most 101 = .ok (.imul, 1) := by decide +kernel
theorem dX12_most_102 : decode cX12_most 102 = .ok (.goto 4, 3) := by decide +kernel
theorem dX12_most_105 : decode cX12_most 105 = .ok (.iload_n 3, 1) := by decide +kernel
theorem dX12_most_106 : decode cX12_most 106 = .ok (.istore_n 3, 1) := by decide +kernel
theorem dX12_most_107 : decode cX12_most 107 = .ok (.iinc 5 1, 3) := by decide +kernel
theorem dX12_most_110 : decode cX12_most 110 = .ok (.goto (-74), 3) := by decide +kernel
theorem dX12_most_113 : decode cX12_most 113 = .ok (.iinc 4 1, 3) := by decide +kernel
theorem dX12_most_116 : decode cX12_most 116 = .ok (.goto (-90), 3) := by decide +kernel
theorem dX12_most_119 : decode cX12_most 119 = .ok (.iload_n 3, 1) := by decide +kernel
theorem dX12_most_120 : decode cX12_most 120 = .ok (.ireturn, 1) := by decide +kernel
theorem dX12_room_0 : decode cX12_room 0 = .ok (.aload_n 0, 1) := by decide +kernel
theorem dX12_room_1 : decode cX12_room 1 = .ok (.invokevirtual 394, 3) := by decide +kernel
theorem dX12_room_4 : decode cX12_room 4 = .ok (.aload_n 0, 1) := by decide +kernel
theorem dX12_room_5 : decode cX12_room 5 = .ok (.iload_n 1, 1) := by decide +kernel
theorem dX12_room_6 : decode cX12_room 6 = .ok (.invokevirtual 397, 3) := by decide +kernel
theorem dX12_room_9 : decode cX12_room 9 = .ok (.ifCond .eq 11, 3) := by decide +kernel
theorem dX12_room_12 : decode cX12_room 12 = .ok (.aload_n 0, 1) := by decide +kernel
theorem dX12_room_13 : decode cX12_room 13 = .ok (.iload_n 1, 1) := by decide +kernel
theorem dX12_room_14 : decode cX12_room 14 = .ok (.invokevirtual 400, 3) := by decide +kernel
theorem dX12_room_17 : decode cX12_room 17 = .ok (.ifCond .lt 5, 3) := by decide +kernel
theorem dX12_room_20 : decode cX12_room 20 = .ok (.iconst (-1), 1) := by decide +kernel
theorem dX12_room_21 : decode cX12_room 21 = .ok (.ireturn, 1) := by decide +kernel
theorem dX12_room_22 : decode cX12_room 22 = .ok (.aload_n 0, 1) := by decide +kernel
theorem dX12_room_23 : decode cX12_room 23 = .ok (.iconst (-1), 1) := by decide +kernel
theorem dX12_room_24 : decode cX12_room 24 = .ok (.iconst (-1), 1) := by decide +kernel
theorem dX12_room_25 : decode cX12_room 25 = .ok (.invokevirtual 435, 3) := by decide +kernel
theorem dX12_room_28 : decode cX12_room 28 = .ok (.istore_n 2, 1) := by decide +kernel
theorem dX12_room_29 : decode cX12_room 29 = .ok (.iconst (-1), 1) := by decide +kernel
theorem dX12_room_30 : decode cX12_room 30 = .ok (.istore_n 3, 1) := by decide +kernel
theorem dX12_room_31 : decode cX12_room 31 = .ok (.iconst 0, 1) := by decide +kernel
theorem dX12_room_32 : decode cX12_room 32 = .ok (.istore 4, 2) := by decide +kernel
theorem dX12_room_34 : decode cX12_room 34 = .ok (.iload 4, 2) := by decide +kernel
theorem dX12_room_36 : decode cX12_room 36 = .ok (.aload_n 0, 1) := by decide +kernel
theorem dX12_room_37 : decode cX12_room 37 = .ok (.getfield 94, 3) := by decide +kernel
theorem dX12_room_40 : decode cX12_room 40 = .ok (.sipush 168, 3) := by decide +kernel
theorem dX12_room_43 : decode cX12_room 43 = .ok (.iaload, 1) := by decide +kernel
theorem dX12_room_44 : decode cX12_room 44 = .ok (.if_icmp .ge 102, 3) := by decide +kernel
theorem dX12_room_47 : decode cX12_room 47 = .ok (.aload_n 0, 1) := by decide +kernel
theorem dX12_room_48 : decode cX12_room 48 = .ok (.iload 4, 2) := by decide +kernel
theorem dX12_room_50 : decode cX12_room 50 = .ok (.invokevirtual 388, 3) := by decide +kernel
theorem dX12_room_53 : decode cX12_room 53 = .ok (.ifCond .eq 87, 3) := by decide +kernel
theorem dX12_room_56 : decode cX12_room 56 = .ok (.aload_n 0, 1) := by decide +kernel
theorem dX12_room_57 : decode cX12_room 57 = .ok (.iload 4, 2) := by decide +kernel
theorem dX12_room_59 : decode cX12_room 59 = .ok (.invokevirtual 375, 3) := by decide +kernel
theorem dX12_room_62 : decode cX12_room 62 = .ok (.aload_n 0, 1) := by decide +kernel
theorem dX12_room_63 : decode cX12_room 63 = .ok (.getfield 79, 3) := by decide +kernel
theorem dX12_room_66 : decode cX12_room 66 = .ok (.iload_n 1, 1) := by decide +kernel
theorem dX12_room_67 : decode cX12_room 67 = .ok (.iaload, 1) := by decide +kernel
theorem dX12_room_68 : decode cX12_room 68 = .ok (.if_icmp .lt 72, 3) := by decide +kernel
theorem dX12_room_71 : decode cX12_room 71 = .ok (.aload_n 0, 1) := by decide +kernel
theorem dX12_room_72 : decode cX12_room 72 = .ok (.iload_n 1, 1) := by decide +kernel
theorem dX12_room_73 : decode cX12_room 73 = .ok (.iload 4, 2) := by decide +kernel
theorem dX12_room_75 : decode cX12_room 75 = .ok (.invokevirtual 435, 3) := by decide +kernel
theorem dX12_room_78 : decode cX12_room 78 = .ok (.iconst 1, 1) := by decide +kernel
theorem dX12_room_79 : decode cX12_room 79 = .ok (.iadd, 1) := by decide +kernel
theorem dX12_room_80 : decode cX12_room 80 = .ok (.iload_n 2, 1) := by decide +kernel
theorem dX12_room_81 : decode cX12_room 81 = .ok (.if_icmp .ge 6, 3) := by decide +kernel
theorem dX12_room_84 : decode cX12_room 84 = .ok (.goto 56, 3) := by decide +kernel
theorem dX12_room_87 : decode cX12_room 87 = .ok (.aload_n 0, 1) := by decide +kernel
theorem dX12_room_88 : decode cX12_room 88 = .ok (.iload 4, 2) := by decide +kernel
theorem dX12_room_90 : decode cX12_room 90 = .ok (.invokevirtual 375, 3) := by decide +kernel
theorem dX12_room_93 : decode cX12_room 93 = .ok (.sipush 999, 3) := by decide +kernel
theorem dX12_room_96 : decode cX12_room 96 = .ok (.if_icmp .ge 12, 3) := by decide +kernel
theorem dX12_room_99 : decode cX12_room 99 = .ok (.aload_n 0, 1) := by decide +kernel
theorem dX12_room_100 : decode cX12_room 100 = .ok (.iload 4, 2) := by decide +kernel
theorem dX12_room_102 : decode cX12_room 102 = .ok (.invokevirtual 375, 3) := by decide +kernel
theorem dX12_room_105 : decode cX12_room 105 = .ok (.goto 6, 3) := by decide +kernel
theorem dX12_room_108 : decode cX12_room 108 = .ok (.sipush 999, 3) := by decide +kernel
theorem dX12_room_111 : decode cX12_room 111 = .ok (.istore 5, 2) := by decide +kernel
theorem dX12_room_113 : decode cX12_room 113 = .ok (.iload 5, 2) := by decide +kernel
theorem dX12_room_115 : decode cX12_room 115 = .ok (.aload_n 0, 1) := by decide +kernel
theorem dX12_room_116 : decode cX12_room 116 = .ok (.getfield 79, 3) := by decide +kernel
theorem dX12_room_119 : decode cX12_room 119 = .ok (.iload_n 1, 1) := by decide +kernel
theorem dX12_room_120 : decode cX12_room 120 = .ok (.iaload, 1) := by decide +kernel
theorem dX12_room_121 : decode cX12_room 121 = .ok (.isub, 1) := by decide +kernel
theorem dX12_room_122 : decode cX12_room 122 = .ok (.iload_n 3, 1) := by decide +kernel
theorem dX12_room_123 : decode cX12_room 123 = .ok (.if_icmp .le 15, 3) := by decide +kernel
theorem dX12_room_126 : decode cX12_room 126 = .ok (.iload 5, 2) := by decide +kernel
theorem dX12_room_128 : decode cX12_room 128 = .ok (.aload_n 0, 1) := by decide +kernel
theorem dX12_room_129 : decode cX12_room 129 = .ok (.getfield 79, 3) := by decide +kernel
theorem dX12_room_132 : decode cX12_room 132 = .ok (.iload_n 1, 1) := by decide +kernel
theorem dX12_room_133 : decode cX12_room 133 = .ok (.iaload, 1) := by decide +kernel
theorem dX12_room_134 : decode cX12_room 134 = .ok (.isub, 1) := by decide +kernel
theorem dX12_room_135 : decode cX12_room 135 = .ok (.goto 4, 3) := by decide +kernel
theorem dX12_room_138 : decode cX12_room 138 = .ok (.iload_n 3, 1) := by decide +kernel
theorem dX12_room_139 : decode cX12_room 139 = .ok (.istore_n 3, 1) := by decide +kernel
theorem dX12_room_140 : decode cX12_room 140 = .ok (.iinc 4 1, 3) := by decide +kernel
theorem dX12_room_143 : decode cX12_room 143 = .ok (.goto (-109), 3) := by decide +kernel
theorem dX12_room_146 : decode cX12_room 146 = .ok (.iload_n 3, 1) := by decide +kernel
theorem dX12_room_147 : decode cX12_room 147 = .ok (.ireturn, 1) := by decide +kernel
theorem dX12_best_0 : decode cX12_best 0 = .ok (.aload_n 0, 1) := by decide +kernel
theorem dX12_best_1 : decode cX12_best 1 = .ok (.iload_n 1, 1) := by decide +kernel
theorem dX12_best_2 : decode cX12_best 2 = .ok (.invokevirtual 397, 3) := by decide +kernel
theorem dX12_best_5 : decode cX12_best 5 = .ok (.ifCond .ne 5, 3) := by decide +kernel
theorem dX12_best_8 : decode cX12_best 8 = .ok (.iconst (-1), 1) := by decide +kernel
theorem dX12_best_9 : decode cX12_best 9 = .ok (.ireturn, 1) := by decide +kernel
theorem dX12_best_10 : decode cX12_best 10 = .ok (.aload_n 0, 1) := by decide +kernel
theorem dX12_best_11 : decode cX12_best 11 = .ok (.invokevirtual 463, 3) := by decide +kernel
theorem dX12_best_14 : decode cX12_best 14 = .ok (.aload_n 0, 1) := by decide +kernel
theorem dX12_best_15 : decode cX12_best 15 = .ok (.iload_n 1, 1) := by decide +kernel
theorem dX12_best_16 : decode cX12_best 16 = .ok (.iconst 0, 1) := by decide +kernel
theorem dX12_best_17 : decode cX12_best 17 = .ok (.invokevirtual 466, 3) := by decide +kernel
theorem dX12_best_20 : decode cX12_best 20 = .ok (.ireturn, 1) := by decide +kernel
theorem dX12_hasCell_0 : decode cX12_hasCell 0 = .ok (.iload_n 3, 1) := by decide +kernel
theorem dX12_hasCell_1 : decode cX12_hasCell 1 = .ok (.aload_n 0, 1) := by decide +kernel
theorem dX12_hasCell_2 : decode cX12_hasCell 2 = .ok (.getfield 94, 3) := by decide +kernel
theorem dX12_hasCell_5 : decode cX12_hasCell 5 = .ok (.bipush 7, 2) := by decide +kernel
theorem dX12_hasCell_7 : decode cX12_hasCell 7 = .ok (.iload_n 1, 1) := by decide +kernel
theorem dX12_hasCell_8 : decode cX12_hasCell 8 = .ok (.imul, 1) := by decide +kernel
theorem dX12_hasCell_9 : decode cX12_hasCell 9 = .ok (.iconst 1, 1) := by decide +kernel
theorem dX12_hasCell_10 : decode cX12_hasCell 10 = .ok (.iadd, 1) := by decide +kernel
theorem dX12_hasCell_11 : decode cX12_hasCell 11 = .ok (.iaload, 1) := by decide +kernel
theorem dX12_hasCell_12 : decode cX12_hasCell 12 = .ok (.isub, 1) := by decide +kernel
theorem dX12_hasCell_13 : decode cX12_hasCell 13 = .ok (.istore 5, 2) := by decide +kernel
theorem dX12_hasCell_15 : decode cX12_hasCell 15 = .ok (.iload 4, 2) := by decide +kernel
theorem dX12_hasCell_17 : decode cX12_hasCell 17 = .ok (.aload_n 0, 1) := by decide +kernel
theorem dX12_hasCell_18 : decode cX12_hasCell 18 = .ok (.getfield 94, 3) := by decide +kernel
theorem dX12_hasCell_21 : decode cX12_hasCell 21 = .ok (.bipush 7, 2) := by decide +kernel
theorem dX12_hasCell_23 : decode cX12_hasCell 23 = .ok (.iload_n 1, 1) := by decide +kernel
theorem dX12_hasCell_24 : decode cX12_hasCell 24 = .ok (.imul, 1) := by decide +kernel
theorem dX12_hasCell_25 : decode cX12_hasCell 25 = .ok (.iconst 2, 1) := by decide +kernel
theorem dX12_hasCell_26 : decode cX12_hasCell 26 = .ok (.iadd, 1) := by decide +kernel
theorem dX12_hasCell_27 : decode cX12_hasCell 27 = .ok (.iaload, 1) := by decide +kernel
theorem dX12_hasCell_28 : decode cX12_hasCell 28 = .ok (.isub, 1) := by decide +kernel
theorem dX12_hasCell_29 : decode cX12_hasCell 29 = .ok (.istore 6, 2) := by decide +kernel
theorem dX12_hasCell_31 : decode cX12_hasCell 31 = .ok (.aload_n 0, 1) := by decide +kernel
theorem dX12_hasCell_32 : decode cX12_hasCell 32 = .ok (.getfield 94, 3) := by decide +kernel
theorem dX12_hasCell_35 : decode cX12_hasCell 35 = .ok (.bipush 7, 2) := by decide +kernel
theorem dX12_hasCell_37 : decode cX12_hasCell 37 = .ok (.iload_n 1, 1) := by decide +kernel
theorem dX12_hasCell_38 : decode cX12_hasCell 38 = .ok (.imul, 1) := by decide +kernel
theorem dX12_hasCell_39 : decode cX12_hasCell 39 = .ok (.iaload, 1) := by decide +kernel
theorem dX12_hasCell_40 : decode cX12_hasCell 40 = .ok (.iload_n 2, 1) := by decide +kernel
theorem dX12_hasCell_41 : decode cX12_hasCell 41 = .ok (.if_icmp .ne 49, 3) := by decide +kernel
theorem dX12_hasCell_44 : decode cX12_hasCell 44 = .ok (.iload 5, 2) := by decide +kernel
theorem dX12_hasCell_46 : decode cX12_hasCell 46 = .ok (.ifCond .lt 44, 3) := by decide +kernel
theorem dX12_hasCell_49 : decode cX12_hasCell 49 = .ok (.iload 5, 2) := by decide +kernel
theorem dX12_hasCell_51 : decode cX12_hasCell 51 = .ok (.aload_n 0, 1) := by decide +kernel
theorem dX12_hasCell_52 : decode cX12_hasCell 52 = .ok (.getfield 94, 3) := by decide +kernel
theorem dX12_hasCell_55 : decode cX12_hasCell 55 = .ok (.bipush 7, 2) := by decide +kernel
theorem dX12_hasCell_57 : decode cX12_hasCell 57 = .ok (.iload_n 1, 1) := by decide +kernel
theorem dX12_hasCell_58 : decode cX12_hasCell 58 = .ok (.imul, 1) := by decide +kernel
theorem dX12_hasCell_59 : decode cX12_hasCell 59 = .ok (.iconst 3, 1) := by decide +kernel
theorem dX12_hasCell_60 : decode cX12_hasCell 60 = .ok (.iadd, 1) := by decide +kernel
theorem dX12_hasCell_61 : decode cX12_hasCell 61 = .ok (.iaload, 1) := by decide +kernel
theorem dX12_hasCell_62 : decode cX12_hasCell 62 = .ok (.if_icmp .ge 28, 3) := by decide +kernel
theorem dX12_hasCell_65 : decode cX12_hasCell 65 = .ok (.iload 6, 2) := by decide +kernel
theorem dX12_hasCell_67 : decode cX12_hasCell 67 = .ok (.ifCond .lt 23, 3) := by decide +kernel
theorem dX12_hasCell_70 : decode cX12_hasCell 70 = .ok (.iload 6, 2) := by decide +kernel
theorem dX12_hasCell_72 : decode cX12_hasCell 72 = .ok (.aload_n 0, 1) := by decide +kernel
theorem dX12_hasCell_73 : decode cX12_hasCell 73 = .ok (.getfield 94, 3) := by decide +kernel
theorem dX12_hasCell_76 : decode cX12_hasCell 76 = .ok (.bipush 7, 2) := by decide +kernel
theorem dX12_hasCell_78 : decode cX12_hasCell 78 = .ok (.iload_n 1, 1) := by decide +kernel
theorem dX12_hasCell_79 : decode cX12_hasCell 79 = .ok (.imul, 1) := by decide +kernel
theorem dX12_hasCell_80 : decode cX12_hasCell 80 = .ok (.iconst 4, 1) := by decide +kernel
theorem dX12_hasCell_81 : decode cX12_hasCell 81 = .ok (.iadd, 1) := by decide +kernel
theorem dX12_hasCell_82 : decode cX12_hasCell 82 = .ok (.iaload, 1) := by decide +kernel
theorem dX12_hasCell_83 : decode cX12_hasCell 83 = .ok (.if_icmp .ge 7, 3) := by decide +kernel
theorem dX12_hasCell_86 : decode cX12_hasCell 86 = .ok (.iconst 1, 1) := by decide +kernel
theorem dX12_hasCell_87 : decode cX12_hasCell 87 = .ok (.goto 4, 3) := by decide +kernel
theorem dX12_hasCell_90 : decode cX12_hasCell 90 = .ok (.iconst 0, 1) := by decide +kernel
theorem dX12_hasCell_91 : decode cX12_hasCell 91 = .ok (.ireturn, 1) := by decide +kernel
theorem dX12_where_0 : decode cX12_where 0 = .ok (.aload_n 0, 1) := by decide +kernel
theorem dX12_where_1 : decode cX12_where 1 = .ok (.iload_n 1, 1) := by decide +kernel
theorem dX12_where_2 : decode cX12_where 2 = .ok (.invokevirtual 479, 3) := by decide +kernel
theorem dX12_where_5 : decode cX12_where 5 = .ok (.ifCond .eq 35, 3) := by decide +kernel
theorem dX12_where_8 : decode cX12_where 8 = .ok (.iload_n 2, 1) := by decide +kernel
theorem dX12_where_9 : decode cX12_where 9 = .ok (.iconst 0, 1) := by decide +kernel
theorem dX12_where_10 : decode cX12_where 10 = .ok (.aload_n 0, 1) := by decide +kernel
theorem dX12_where_11 : decode cX12_where 11 = .ok (.getfield 61, 3) := by decide +kernel
theorem dX12_where_14 : decode cX12_where 14 = .ok (.iload_n 1, 1) := by decide +kernel
theorem dX12_where_15 : decode cX12_where 15 = .ok (.iaload, 1) := by decide +kernel
theorem dX12_where_16 : decode cX12_where 16 = .ok (.iconst 1, 1) := by decide +kernel
theorem dX12_where_17 : decode cX12_where 17 = .ok (.isub, 1) := by decide +kernel
theorem dX12_where_18 : decode cX12_where 18 = .ok (.invokestatic 371, 3) := by decide +kernel
theorem dX12_where_21 : decode cX12_where 21 = .ok (.ifCond .eq 19, 3) := by decide +kernel
theorem dX12_where_24 : decode cX12_where 24 = .ok (.iload_n 3, 1) := by decide +kernel
theorem dX12_where_25 : decode cX12_where 25 = .ok (.iconst 0, 1) := by decide +kernel
theorem dX12_where_26 : decode cX12_where 26 = .ok (.aload_n 0, 1) := by decide +kernel
theorem dX12_where_27 : decode cX12_where 27 = .ok (.getfield 64, 3) := by decide +kernel
theorem dX12_where_30 : decode cX12_where 30 = .ok (.iload_n 1, 1) := by decide +kernel
theorem dX12_where_31 : decode cX12_where 31 = .ok (.iaload, 1) := by decide +kernel
theorem dX12_where_32 : decode cX12_where 32 = .ok (.iconst 1, 1) := by decide +kernel
theorem dX12_where_33 : decode cX12_where 33 = .ok (.isub, 1) := by decide +kernel
theorem dX12_where_34 : decode cX12_where 34 = .ok (.invokestatic 371, 3) := by decide +kernel
theorem dX12_where_37 : decode cX12_where 37 = .ok (.ifCond .ne 5, 3) := by decide +kernel
theorem dX12_where_40 : decode cX12_where 40 = .ok (.iconst (-1), 1) := by decide +kernel
theorem dX12_where_41 : decode cX12_where 41 = .ok (.ireturn, 1) := by decide +kernel
theorem dX12_where_42 : decode cX12_where 42 = .ok (.aload_n 0, 1) := by decide +kernel
theorem dX12_where_43 : decode cX12_where 43 = .ok (.invokevirtual 394, 3) := by decide +kernel
theorem dX12_where_46 : decode cX12_where 46 = .ok (.iconst (-1), 1) := by decide +kernel
theorem dX12_where_47 : decode cX12_where 47 = .ok (.istore 4, 2) := by decide +kernel
theorem dX12_where_49 : decode cX12_where 49 = .ok (.iconst 0, 1) := by decide +kernel
theorem dX12_where_50 : decode cX12_where 50 = .ok (.istore 5, 2) := by decide +kernel
theorem dX12_where_52 : decode cX12_where 52 = .ok (.iload 5, 2) := by decide +kernel
theorem dX12_where_54 : decode cX12_where 54 = .ok (.aload_n 0, 1) := by decide +kernel
theorem dX12_where_55 : decode cX12_where 55 = .ok (.getfield 94, 3) := by decide +kernel
theorem dX12_where_58 : decode cX12_where 58 = .ok (.sipush 168, 3) := by decide +kernel
theorem dX12_where_61 : decode cX12_where 61 = .ok (.iaload, 1) := by decide +kernel
theorem dX12_where_62 : decode cX12_where 62 = .ok (.if_icmp .ge 25, 3) := by decide +kernel
theorem dX12_where_65 : decode cX12_where 65 = .ok (.aload_n 0, 1) := by decide +kernel
theorem dX12_where_66 : decode cX12_where 66 = .ok (.iload 5, 2) := by decide +kernel
theorem dX12_where_68 : decode cX12_where 68 = .ok (.iload_n 1, 1) := by decide +kernel
theorem dX12_where_69 : decode cX12_where 69 = .ok (.iload_n 2, 1) := by decide +kernel
theorem dX12_where_70 : decode cX12_where 70 = .ok (.iload_n 3, 1) := by decide +kernel
theorem dX12_where_71 : decode cX12_where 71 = .ok (.invokevirtual 488, 3) := by decide +kernel
theorem dX12_where_74 : decode cX12_where 74 = .ok (.ifCond .eq 7, 3) := by decide +kernel
theorem dX12_where_77 : decode cX12_where 77 = .ok (.iload 5, 2) := by decide +kernel
theorem dX12_where_79 : decode cX12_where 79 = .ok (.istore 4, 2) := by decide +kernel
theorem dX12_where_81 : decode cX12_where 81 = .ok (.iinc 5 1, 3) := by decide +kernel
theorem dX12_where_84 : decode cX12_where 84 = .ok (.goto (-32), 3) := by decide +kernel
theorem dX12_where_87 : decode cX12_where 87 = .ok (.iload 4, 2) := by decide +kernel
theorem dX12_where_89 : decode cX12_where 89 = .ok (.ireturn, 1) := by decide +kernel
theorem dX12_hungry_0 : decode cX12_hungry 0 = .ok (.aload_n 0, 1) := by decide +kernel
theorem dX12_hungry_1 : decode cX12_hungry 1 = .ok (.invokevirtual 394, 3) := by decide +kernel
theorem dX12_hungry_4 : decode cX12_hungry 4 = .ok (.iconst 0, 1) := by decide +kernel
theorem dX12_hungry_5 : decode cX12_hungry 5 = .ok (.istore_n 1, 1) := by decide +kernel
theorem dX12_hungry_6 : decode cX12_hungry 6 = .ok (.iconst 0, 1) := by decide +kernel
theorem dX12_hungry_7 : decode cX12_hungry 7 = .ok (.istore_n 2, 1) := by decide +kernel
theorem dX12_hungry_8 : decode cX12_hungry 8 = .ok (.iload_n 2, 1) := by decide +kernel
theorem dX12_hungry_9 : decode cX12_hungry 9 = .ok (.aload_n 0, 1) := by decide +kernel
theorem dX12_hungry_10 : decode cX12_hungry 10 = .ok (.getfield 353, 3) := by decide +kernel
theorem dX12_hungry_13 : decode cX12_hungry 13 = .ok (.if_icmp .ge 38, 3) := by decide +kernel
theorem dX12_hungry_16 : decode cX12_hungry 16 = .ok (.iload_n 1, 1) := by decide +kernel
theorem dX12_hungry_17 : decode cX12_hungry 17 = .ok (.aload_n 0, 1) := by decide +kernel
theorem dX12_hungry_18 : decode cX12_hungry 18 = .ok (.iload_n 2, 1) := by decide +kernel
theorem dX12_hungry_19 : decode cX12_hungry 19 = .ok (.invokevirtual 400, 3) := by decide +kernel
theorem dX12_hungry_22 : decode cX12_hungry 22 = .ok (.ifCond .ge 15, 3) := by decide +kernel
theorem dX12_hungry_25 : decode cX12_hungry 25 = .ok (.aload_n 0, 1) := by decide +kernel
theorem dX12_hungry_26 : decode cX12_hungry 26 = .ok (.iload_n 2, 1) := by decide +kernel
theorem dX12_hungry_27 : decode cX12_hungry 27 = .ok (.invokevirtual 492, 3) := by decide +kernel
theorem dX12_hungry_30 : decode cX12_hungry 30 = .ok (.ifCond .ne 7, 3) := by decide +kernel
theorem dX12_hungry_33 : decode cX12_hungry 33 = .ok (.iconst 1, 1) := by decide +kernel
theorem dX12_hungry_34 : decode cX12_hungry 34 = .ok (.goto 4, 3) := by decide +kernel
theorem dX12_hungry_37 : decode cX12_hungry 37 = .ok (.iconst 0, 1) := by decide +kernel
theorem dX12_hungry_38 : decode cX12_hungry 38 = .ok (.invokestatic 302, 3) := by decide +kernel
theorem dX12_hungry_41 : decode cX12_hungry 41 = .ok (.iload_n 2, 1) := by decide +kernel
theorem dX12_hungry_42 : decode cX12_hungry 42 = .ok (.ishl, 1) := by decide +kernel
theorem dX12_hungry_43 : decode cX12_hungry 43 = .ok (.ior, 1) := by decide +kernel
theorem dX12_hungry_44 : decode cX12_hungry 44 = .ok (.istore_n 1, 1) := by decide +kernel
theorem dX12_hungry_45 : decode cX12_hungry 45 = .ok (.iinc 2 1, 3) := by decide +kernel
theorem dX12_hungry_48 : decode cX12_hungry 48 = .ok (.goto (-40), 3) := by decide +kernel
theorem dX12_hungry_51 : decode cX12_hungry 51 = .ok (.iload_n 1, 1) := by decide +kernel
theorem dX12_hungry_52 : decode cX12_hungry 52 = .ok (.ireturn, 1) := by decide +kernel
theorem dX12_law_0 : decode cX12_law 0 = .ok (.iload_n 1, 1) := by decide +kernel
theorem dX12_law_1 : decode cX12_law 1 = .ok (.bipush (-99), 2) := by decide +kernel
theorem dX12_law_3 : decode cX12_law 3 = .ok (.bipush 99, 2) := by decide +kernel
theorem dX12_law_5 : decode cX12_law 5 = .ok (.invokestatic 371, 3) := by decide +kernel
theorem dX12_law_8 : decode cX12_law 8 = .ok (.ifCond .ne 5, 3) := by decide +kernel
theorem dX12_law_11 : decode cX12_law 11 = .ok (.iconst (-1), 1) := by decide +kernel
theorem dX12_law_12 : decode cX12_law 12 = .ok (.ireturn, 1) := by decide +kernel
theorem dX12_law_13 : decode cX12_law 13 = .ok (.aload_n 0, 1) := by decide +kernel
theorem dX12_law_14 : decode cX12_law 14 = .ok (.invokevirtual 394, 3) := by decide +kernel
theorem dX12_law_17 : decode cX12_law 17 = .ok (.aload_n 0, 1) := by decide +kernel
theorem dX12_law_18 : decode cX12_law 18 = .ok (.iload_n 1, 1) := by decide +kernel
theorem dX12_law_19 : decode cX12_law 19 = .ok (.putfield 428, 3) := by decide +kernel
theorem dX12_law_22 : decode cX12_law 22 = .ok (.aload_n 0, 1) := by decide +kernel
theorem dX12_law_23 : decode cX12_law 23 = .ok (.iconst (-1), 1) := by decide +kernel
theorem dX12_law_24 : decode cX12_law 24 = .ok (.iconst (-1), 1) := by decide +kernel
theorem dX12_law_25 : decode cX12_law 25 = .ok (.invokevirtual 435, 3) := by decide +kernel
theorem dX12_law_28 : decode cX12_law 28 = .ok (.istore_n 2, 1) := by decide +kernel
theorem dX12_law_29 : decode cX12_law 29 = .ok (.aload_n 0, 1) := by decide +kernel
theorem dX12_law_30 : decode cX12_law 30 = .ok (.iconst 0, 1) := by decide +kernel
theorem dX12_law_31 : decode cX12_law 31 = .ok (.putfield 428, 3) := by decide +kernel
theorem dX12_law_34 : decode cX12_law 34 = .ok (.iload_n 2, 1) := by decide +kernel
theorem dX12_law_35 : decode cX12_law 35 = .ok (.ireturn, 1) := by decide +kernel
theorem dX12_left_0 : decode cX12_left 0 = .ok (.aload_n 0, 1) := by decide +kernel
theorem dX12_left_1 : decode cX12_left 1 = .ok (.invokevirtual 394, 3) := by decide +kernel
theorem dX12_left_4 : decode cX12_left 4 = .ok (.iconst 0, 1) := by decide +kernel
theorem dX12_left_5 : decode cX12_left 5 = .ok (.istore_n 1, 1) := by decide +kernel
theorem dX12_left_6 : decode cX12_left 6 = .ok (.iconst 0, 1) := by decide +kernel
theorem dX12_left_7 : decode cX12_left 7 = .ok (.istore_n 2, 1) := by decide +kernel
theorem dX12_left_8 : decode cX12_left 8 = .ok (.iload_n 2, 1) := by decide +kernel
theorem dX12_left_9 : decode cX12_left 9 = .ok (.aload_n 0, 1) := by decide +kernel
theorem dX12_left_10 : decode cX12_left 10 = .ok (.getfield 94, 3) := by decide +kernel
theorem dX12_left_13 : decode cX12_left 13 = .ok (.sipush 168, 3) := by decide +kernel
theorem dX12_left_16 : decode cX12_left 16 = .ok (.iaload, 1) := by decide +kernel
theorem dX12_left_17 : decode cX12_left 17 = .ok (.if_icmp .ge 29, 3) := by decide +kernel
theorem dX12_left_20 : decode cX12_left 20 = .ok (.iload_n 1, 1) := by decide +kernel
theorem dX12_left_21 : decode cX12_left 21 = .ok (.aload_n 0, 1) := by decide +kernel
theorem dX12_left_22 : decode cX12_left 22 = .ok (.iload_n 2, 1) := by decide +kernel
theorem dX12_left_23 : decode cX12_left 23 = .ok (.invokevirtual 388, 3) := by decide +kernel
theorem dX12_left_26 : decode cX12_left 26 = .ok (.ifCond .eq 11, 3) := by decide +kernel
theorem dX12_left_29 : decode cX12_left 29 = .ok (.aload_n 0, 1) := by decide +kernel
theorem dX12_left_30 : decode cX12_left 30 = .ok (.iload_n 2, 1) := by decide +kernel
theorem dX12_left_31 : decode cX12_left 31 = .ok (.invokevirtual 375, 3) := by decide +kernel
theorem dX12_left_34 : decode cX12_left 34 = .ok (.goto 4, 3) := by decide +kernel
theorem dX12_left_37 : decode cX12_left 37 = .ok (.iconst 0, 1) := by decide +kernel
theorem dX12_left_38 : decode cX12_left 38 = .ok (.iadd, 1) := by decide +kernel
theorem dX12_left_39 : decode cX12_left 39 = .ok (.istore_n 1, 1) := by decide +kernel
theorem dX12_left_40 : decode cX12_left 40 = .ok (.iinc 2 1, 3) := by decide +kernel
theorem dX12_left_43 : decode cX12_left 43 = .ok (.goto (-35), 3) := by decide +kernel
theorem dX12_left_46 : decode cX12_left 46 = .ok (.iload_n 1, 1) := by decide +kernel
theorem dX12_left_47 : decode cX12_left 47 = .ok (.ireturn, 1) := by decide +kernel
theorem dX12_iced_0 : decode cX12_iced 0 = .ok (.iload_n 1, 1) := by decide +kernel
theorem dX12_iced_1 : decode cX12_iced 1 = .ok (.iconst 0, 1) := by decide +kernel
theorem dX12_iced_2 : decode cX12_iced 2 = .ok (.bipush 32, 2) := by decide +kernel
theorem dX12_iced_4 : decode cX12_iced 4 = .ok (.invokestatic 371, 3) := by decide +kernel
theorem dX12_iced_7 : decode cX12_iced 7 = .ok (.ifCond .ne 5, 3) := by decide +kernel
theorem dX12_iced_10 : decode cX12_iced 10 = .ok (.iconst (-1), 1) := by decide +kernel
theorem dX12_iced_11 : decode cX12_iced 11 = .ok (.ireturn, 1) := by decide +kernel
theorem dX12_iced_12 : decode cX12_iced 12 = .ok (.aload_n 0, 1) := by decide +kernel
theorem dX12_iced_13 : decode cX12_iced 13 = .ok (.invokevirtual 394, 3) := by decide +kernel
theorem dX12_iced_16 : decode cX12_iced 16 = .ok (.iconst 0, 1) := by decide +kernel
theorem dX12_iced_17 : decode cX12_iced 17 = .ok (.istore_n 2, 1) := by decide +kernel
theorem dX12_iced_18 : decode cX12_iced 18 = .ok (.iconst 0, 1) := by decide +kernel
theorem dX12_iced_19 : decode cX12_iced 19 = .ok (.istore_n 3, 1) := by decide +kernel
theorem dX12_iced_20 : decode cX12_iced 20 = .ok (.iload_n 3, 1) := by decide +kernel
theorem dX12_iced_21 : decode cX12_iced 21 = .ok (.aload_n 0, 1) := by decide +kernel
theorem dX12_iced_22 : decode cX12_iced 22 = .ok (.getfield 94, 3) := by decide +kernel
theorem dX12_iced_25 : decode cX12_iced 25 = .ok (.sipush 168, 3) := by decide +kernel
theorem dX12_iced_28 : decode cX12_iced 28 = .ok (.iaload, 1) := by decide +kernel
theorem dX12_iced_29 : decode cX12_iced 29 = .ok (.if_icmp .ge 39, 3) := by decide +kernel
theorem dX12_iced_32 : decode cX12_iced 32 = .ok (.iload_n 2, 1) := by decide +kernel
theorem dX12_iced_33 : decode cX12_iced 33 = .ok (.aload_n 0, 1) := by decide +kernel
theorem dX12_iced_34 : decode cX12_iced 34 = .ok (.iload_n 3, 1) := by decide +kernel
theorem dX12_iced_35 : decode cX12_iced 35 = .ok (.invokevirtual 388, 3) := by decide +kernel
theorem dX12_iced_38 : decode cX12_iced 38 = .ok (.ifCond .eq 16, 3) := by decide +kernel
theorem dX12_iced_41 : decode cX12_iced 41 = .ok (.aload_n 0, 1) := by decide +kernel
theorem dX12_iced_42 : decode cX12_iced 42 = .ok (.iload_n 3, 1) := by decide +kernel
theorem dX12_iced_43 : decode cX12_iced 43 = .ok (.invokevirtual 378, 3) := by decide +kernel
theorem dX12_iced_46 : decode cX12_iced 46 = .ok (.iload_n 1, 1) := by decide +kernel
theorem dX12_iced_47 : decode cX12_iced 47 = .ok (.if_icmp .lt 7, 3) := by decide +kernel
theorem dX12_iced_50 : decode cX12_iced 50 = .ok (.iconst 1, 1) := by decide +kernel
theorem dX12_iced_51 : decode cX12_iced 51 = .ok (.goto 4, 3) := by decide +kernel
theorem dX12_iced_54 : decode cX12_iced 54 = .ok (.iconst 0, 1) := by decide +kernel
theorem dX12_iced_55 : decode cX12_iced 55 = .ok (.invokestatic 302, 3) := by decide +kernel
theorem dX12_iced_58 : decode cX12_iced 58 = .ok (.iload_n 3, 1) := by decide +kernel
theorem dX12_iced_59 : decode cX12_iced 59 = .ok (.ishl, 1) := by decide +kernel
theorem dX12_iced_60 : decode cX12_iced 60 = .ok (.ior, 1) := by decide +kernel
theorem dX12_iced_61 : decode cX12_iced 61 = .ok (.istore_n 2, 1) := by decide +kernel
theorem dX12_iced_62 : decode cX12_iced 62 = .ok (.iinc 3 1, 3) := by decide +kernel
theorem dX12_iced_65 : decode cX12_iced 65 = .ok (.goto (-45), 3) := by decide +kernel
theorem dX12_iced_68 : decode cX12_iced 68 = .ok (.iload_n 2, 1) := by decide +kernel
theorem dX12_iced_69 : decode cX12_iced 69 = .ok (.ireturn, 1) := by decide +kernel
theorem dX12_divisor_0 : decode cX12_divisor 0 = .ok (.iload_n 0, 1) := by decide +kernel
theorem dX12_divisor_1 : decode cX12_divisor 1 = .ok (.istore_n 2, 1) := by decide +kernel
theorem dX12_divisor_2 : decode cX12_divisor 2 = .ok (.iload_n 1, 1) := by decide +kernel
theorem dX12_divisor_3 : decode cX12_divisor 3 = .ok (.istore_n 3, 1) := by decide +kernel
theorem dX12_divisor_4 : decode cX12_divisor 4 = .ok (.iload_n 3, 1) := by decide +kernel
theorem dX12_divisor_5 : decode cX12_divisor 5 = .ok (.ifCond .le 16, 3) := by decide +kernel
theorem dX12_divisor_8 : decode cX12_divisor 8 = .ok (.iload_n 2, 1) := by decide +kernel
theorem dX12_divisor_9 : decode cX12_divisor 9 = .ok (.iload_n 3, 1) := by decide +kernel
theorem dX12_divisor_10 : decode cX12_divisor 10 = .ok (.irem, 1) := by decide +kernel
theorem dX12_divisor_11 : decode cX12_divisor 11 = .ok (.istore 4, 2) := by decide +kernel
theorem dX12_divisor_13 : decode cX12_divisor 13 = .ok (.iload_n 3, 1) := by decide +kernel
theorem dX12_divisor_14 : decode cX12_divisor 14 = .ok (.istore_n 2, 1) := by decide +kernel
theorem dX12_divisor_15 : decode cX12_divisor 15 = .ok (.iload 4, 2) := by decide +kernel
theorem dX12_divisor_17 : decode cX12_divisor 17 = .ok (.istore_n 3, 1) := by decide +kernel
theorem dX12_divisor_18 : decode cX12_divisor 18 = .ok (.goto (-14), 3) := by decide +kernel
theorem dX12_divisor_21 : decode cX12_divisor 21 = .ok (.iload_n 2, 1) := by decide +kernel
theorem dX12_divisor_22 : decode cX12_divisor 22 = .ok (.ireturn, 1) := by decide +kernel
theorem dX12_come_0 : decode cX12_come 0 = .ok (.iload_n 1, 1) := by decide +kernel
theorem dX12_come_1 : decode cX12_come 1 = .ok (.iconst 0, 1) := by decide +kernel
theorem dX12_come_2 : decode cX12_come 2 = .ok (.iconst 1, 1) := by decide +kernel
theorem dX12_come_3 : decode cX12_come 3 = .ok (.aload_n 0, 1) := by decide +kernel
theorem dX12_come_4 : decode cX12_come 4 = .ok (.getfield 353, 3) := by decide +kernel
theorem dX12_come_7 : decode cX12_come 7 = .ok (.ishl, 1) := by decide +kernel
theorem dX12_come_8 : decode cX12_come 8 = .ok (.iconst 1, 1) := by decide +kernel
theorem dX12_come_9 : decode cX12_come 9 = .ok (.isub, 1) := by decide +kernel
theorem dX12_come_10 : decode cX12_come 10 = .ok (.invokestatic 371, 3) := by decide +kernel
theorem dX12_come_13 : decode cX12_come 13 = .ok (.ifCond .eq 12, 3) := by decide +kernel
theorem dX12_come_16 : decode cX12_come 16 = .ok (.iload_n 2, 1) := by decide +kernel
theorem dX12_come_17 : decode cX12_come 17 = .ok (.iconst 0, 1) := by decide +kernel
theorem dX12_come_18 : decode cX12_come 18 = .ok (.iconst 1, 1) := by decide +kernel
theorem dX12_come_19 : decode cX12_come 19 = .ok (.invokestatic 371, 3) := by decide +kernel
theorem dX12_come_22 : decode cX12_come 22 = .ok (.ifCond .ne 5, 3) := by decide +kernel
theorem dX12_come_25 : decode cX12_come 25 = .ok (.iconst (-1), 1) := by decide +kernel
theorem dX12_come_26 : decode cX12_come 26 = .ok (.ireturn, 1) := by decide +kernel
theorem dX12_come_27 : decode cX12_come 27 = .ok (.iconst 0, 1) := by decide +kernel
theorem dX12_come_28 : decode cX12_come 28 = .ok (.istore_n 3, 1) := by decide +kernel
theorem dX12_come_29 : decode cX12_come 29 = .ok (.iconst 1, 1) := by decide +kernel
theorem dX12_come_30 : decode cX12_come 30 = .ok (.istore 4, 2) := by decide +kernel
theorem dX12_come_32 : decode cX12_come 32 = .ok (.iconst 1, 1) := by decide +kernel
theorem dX12_come_33 : decode cX12_come 33 = .ok (.istore 5, 2) := by decide +kernel
theorem dX12_come_35 : decode cX12_come 35 = .ok (.iconst 0, 1) := by decide +kernel
theorem dX12_come_36 : decode cX12_come 36 = .ok (.istore 6, 2) := by decide +kernel
theorem dX12_come_38 : decode cX12_come 38 = .ok (.iload 6, 2) := by decide +kernel
theorem dX12_come_40 : decode cX12_come 40 = .ok (.aload_n 0, 1) := by decide +kernel
theorem dX12_come_41 : decode cX12_come 41 = .ok (.getfield 353, 3) := by decide +kernel
theorem dX12_come_44 : decode cX12_come 44 = .ok (.if_icmp .ge 50, 3) := by decide +kernel
theorem dX12_come_47 : decode cX12_come 47 = .ok (.iload_n 1, 1) := by decide +kernel
theorem dX12_come_48 : decode cX12_come 48 = .ok (.iload 6, 2) := by decide +kernel
theorem dX12_come_50 : decode cX12_come 50 = .ok (.ishr, 1) := by decide +kernel
theorem dX12_come_51 : decode cX12_come 51 = .ok (.iconst 1, 1) := by decide +kernel
theorem dX12_come_52 : decode cX12_come 52 = .ok (.iand, 1) := by decide +kernel
theorem dX12_come_53 : decode cX12_come 53 = .ok (.ifCond .ne 6, 3) := by decide +kernel
theorem dX12_come_56 : decode cX12_come 56 = .ok (.goto 32, 3) := by decide +kernel
theorem dX12_come_59 : decode cX12_come 59 = .ok (.iinc 3 1, 3) := by decide +kernel
theorem dX12_come_62 : decode cX12_come 62 = .ok (.iload_n 3, 1) := by decide +kernel
theorem dX12_come_63 : decode cX12_come 63 = .ok (.iconst 4, 1) := by decide +kernel
theorem dX12_come_64 : decode cX12_come 64 = .ok (.if_icmp .le 5, 3) := by decide +kernel
theorem dX12_come_67 : decode cX12_come 67 = .ok (.iconst (-1), 1) := by decide +kernel
theorem dX12_come_68 : decode cX12_come 68 = .ok (.ireturn, 1) := by decide +kernel
theorem dX12_come_69 : decode cX12_come 69 = .ok (.iload 4, 2) := by decide +kernel
theorem dX12_come_71 : decode cX12_come 71 = .ok (.aload_n 0, 1) := by decide +kernel
theorem dX12_come_72 : decode cX12_come 72 = .ok (.getfield 85, 3) := by decide +kernel
theorem dX12_come_75 : decode cX12_come 75 = .ok (.iload 6, 2) := by decide +kernel
theorem dX12_come_77 : decode cX12_come 77 = .ok (.iaload, 1) := by decide +kernel
theorem dX12_come_78 : decode cX12_come 78 = .ok (.imul, 1) := by decide +kernel
theorem dX12_come_79 : decode cX12_come 79 = .ok (.istore 4, 2) := by decide +kernel
theorem dX12_come_81 : decode cX12_come 81 = .ok (.iload 5, 2) := by decide +kernel
theorem dX12_come_83 : decode cX12_come 83 = .ok (.bipush 100, 2) := by decide +kernel
theorem dX12_come_85 : decode cX12_come 85 = .ok (.imul, 1) := by decide +kernel
theorem dX12_come_86 : decode cX12_come 86 = .ok (.istore 5, 2) := by decide +kernel
theorem dX12_come_88 : decode cX12_come 88 = .ok (.iinc 6 1, 3) := by decide +kernel
theorem dX12_come_91 : decode cX12_come 91 = .ok (.goto (-53), 3) := by decide +kernel
theorem dX12_come_94 : decode cX12_come 94 = .ok (.iload 5, 2) := by decide +kernel
theorem dX12_come_96 : decode cX12_come 96 = .ok (.iload 4, 2) := by decide +kernel
theorem dX12_come_98 : decode cX12_come 98 = .ok (.invokestatic 495, 3) := by decide +kernel
theorem dX12_come_101 : decode cX12_come 101 = .ok (.istore 6, 2) := by decide +kernel
theorem dX12_come_103 : decode cX12_come 103 = .ok (.iload_n 2, 1) := by decide +kernel
theorem dX12_come_104 : decode cX12_come 104 = .ok (.ifCond .ne 11, 3) := by decide +kernel
theorem dX12_come_107 : decode cX12_come 107 = .ok (.iload 4, 2) := by decide +kernel
theorem dX12_come_109 : decode cX12_come 109 = .ok (.iload 6, 2) := by decide +kernel
theorem dX12_come_111 : decode cX12_come 111 = .ok (.idiv, 1) := by decide +kernel
theorem dX12_come_112 : decode cX12_come 112 = .ok (.goto 8, 3) := by decide +kernel
theorem dX12_come_115 : decode cX12_come 115 = .ok (.iload 5, 2) := by decide +kernel
theorem dX12_come_117 : decode cX12_come 117 = .ok (.iload 6, 2) := by decide +kernel
theorem dX12_come_119 : decode cX12_come 119 = .ok (.idiv, 1) := by decide +kernel
theorem dX12_come_120 : decode cX12_come 120 = .ok (.ireturn, 1) := by decide +kernel
theorem dX12_lies_0 : decode cX12_lies 0 = .ok (.iload_n 1, 1) := by decide +kernel
theorem dX12_lies_1 : decode cX12_lies 1 = .ok (.iconst 0, 1) := by decide +kernel
theorem dX12_lies_2 : decode cX12_lies 2 = .ok (.aload_n 0, 1) := by decide +kernel
theorem dX12_lies_3 : decode cX12_lies 3 = .ok (.getfield 368, 3) := by decide +kernel
theorem dX12_lies_6 : decode cX12_lies 6 = .ok (.iconst 1, 1) := by decide +kernel
theorem dX12_lies_7 : decode cX12_lies 7 = .ok (.isub, 1) := by decide +kernel
theorem dX12_lies_8 : decode cX12_lies 8 = .ok (.invokestatic 371, 3) := by decide +kernel
theorem dX12_lies_11 : decode cX12_lies 11 = .ok (.ifCond .eq 12, 3) := by decide +kernel
theorem dX12_lies_14 : decode cX12_lies 14 = .ok (.aload_n 0, 1) := by decide +kernel
theorem dX12_lies_15 : decode cX12_lies 15 = .ok (.getfield 115, 3) := by decide +kernel
theorem dX12_lies_18 : decode cX12_lies 18 = .ok (.iload_n 1, 1) := by decide +kernel
theorem dX12_lies_19 : decode cX12_lies 19 = .ok (.iaload, 1) := by decide +kernel
theorem dX12_lies_20 : decode cX12_lies 20 = .ok (.goto 5, 3) := by decide +kernel
theorem dX12_lies_23 : decode cX12_lies 23 = .ok (.bipush (-2), 2) := by decide +kernel
theorem dX12_lies_25 : decode cX12_lies 25 = .ok (.ireturn, 1) := by decide +kernel
theorem dX12_tell_0 : decode cX12_tell 0 = .ok (.aload_n 0, 1) := by decide +kernel
theorem dX12_tell_1 : decode cX12_tell 1 = .ok (.getfield 365, 3) := by decide +kernel
theorem dX12_tell_4 : decode cX12_tell 4 = .ok (.bipush 30, 2) := by decide +kernel
theorem dX12_tell_6 : decode cX12_tell 6 = .ok (.if_icmp .eq 10, 3) := by decide +kernel
theorem dX12_tell_9 : decode cX12_tell 9 = .ok (.aload_n 0, 1) := by decide +kernel
theorem dX12_tell_10 : decode cX12_tell 10 = .ok (.getfield 350, 3) := by decide +kernel
theorem dX12_tell_13 : decode cX12_tell 13 = .ok (.ifCond .ne 5, 3) := by decide +kernel
theorem dX12_tell_16 : decode cX12_tell 16 = .ok (.iconst (-1), 1) := by decide +kernel
theorem dX12_tell_17 : decode cX12_tell 17 = .ok (.ireturn, 1) := by decide +kernel
theorem dX12_tell_18 : decode cX12_tell 18 = .ok (.aload_n 0, 1) := by decide +kernel
theorem dX12_tell_19 : decode cX12_tell 19 = .ok (.getfield 118, 3) := by decide +kernel
theorem dX12_tell_22 : decode cX12_tell 22 = .ok (.aload_n 0, 1) := by decide +kernel
theorem dX12_tell_23 : decode cX12_tell 23 = .ok (.getfield 365, 3) := by decide +kernel
theorem dX12_tell_26 : decode cX12_tell 26 = .ok (.iload_n 1, 1) := by decide +kernel
theorem dX12_tell_27 : decode cX12_tell 27 = .ok (.iastore, 1) := by decide +kernel
theorem dX12_tell_28 : decode cX12_tell 28 = .ok (.aload_n 0, 1) := by decide +kernel
theorem dX12_tell_29 : decode cX12_tell 29 = .ok (.getfield 121, 3) := by decide +kernel
theorem dX12_tell_32 : decode cX12_tell 32 = .ok (.aload_n 0, 1) := by decide +kernel
theorem dX12_tell_33 : decode cX12_tell 33 = .ok (.getfield 365, 3) := by decide +kernel
theorem dX12_tell_36 : decode cX12_tell 36 = .ok (.iload_n 2, 1) := by decide +kernel
theorem dX12_tell_37 : decode cX12_tell 37 = .ok (.iastore, 1) := by decide +kernel
theorem dX12_tell_38 : decode cX12_tell 38 = .ok (.aload_n 0, 1) := by decide +kernel
theorem dX12_tell_39 : decode cX12_tell 39 = .ok (.getfield 130, 3) := by decide +kernel
theorem dX12_tell_42 : decode cX12_tell 42 = .ok (.aload_n 0, 1) := by decide +kernel
theorem dX12_tell_43 : decode cX12_tell 43 = .ok (.getfield 365, 3) := by decide +kernel
theorem dX12_tell_46 : decode cX12_tell 46 = .ok (.iload_n 3, 1) := by decide +kernel
theorem dX12_tell_47 : decode cX12_tell 47 = .ok (.bastore, 1) := by decide +kernel
theorem dX12_tell_48 : decode cX12_tell 48 = .ok (.aload_n 0, 1) := by decide +kernel
theorem dX12_tell_49 : decode cX12_tell 49 = .ok (.getfield 124, 3) := by decide +kernel
theorem dX12_tell_52 : decode cX12_tell 52 = .ok (.aload_n 0, 1) := by decide +kernel
theorem dX12_tell_53 : decode cX12_tell 53 = .ok (.getfield 365, 3) := by decide +kernel
theorem dX12_tell_56 : decode cX12_tell 56 = .ok (.aload_n 0, 1) := by decide +kernel
theorem dX12_tell_57 : decode cX12_tell 57 = .ok (.getfield 498, 3) := by decide +kernel
theorem dX12_tell_60 : decode cX12_tell 60 = .ok (.iastore, 1) := by decide +kernel
theorem dX12_tell_61 : decode cX12_tell 61 = .ok (.aload_n 0, 1) := by decide +kernel
theorem dX12_tell_62 : decode cX12_tell 62 = .ok (.getfield 127, 3) := by decide +kernel
theorem dX12_tell_65 : decode cX12_tell 65 = .ok (.aload_n 0, 1) := by decide +kernel
theorem dX12_tell_66 : decode cX12_tell 66 = .ok (.getfield 365, 3) := by decide +kernel
theorem dX12_tell_69 : decode cX12_tell 69 = .ok (.iconst (-1), 1) := by decide +kernel
theorem dX12_tell_70 : decode cX12_tell 70 = .ok (.iastore, 1) := by decide +kernel
theorem dX12_tell_71 : decode cX12_tell 71 = .ok (.aload_n 0, 1) := by decide +kernel
theorem dX12_tell_72 : decode cX12_tell 72 = .ok (.dup, 1) := by decide +kernel
theorem dX12_tell_73 : decode cX12_tell 73 = .ok (.getfield 365, 3) := by decide +kernel
theorem dX12_tell_76 : decode cX12_tell 76 = .ok (.iconst 1, 1) := by decide +kernel
theorem dX12_tell_77 : decode cX12_tell 77 = .ok (.iadd, 1) := by decide +kernel
theorem dX12_tell_78 : decode cX12_tell 78 = .ok (.putfield 365, 3) := by decide +kernel
theorem dX12_tell_81 : decode cX12_tell 81 = .ok (.aload_n 0, 1) := by decide +kernel
theorem dX12_tell_82 : decode cX12_tell 82 = .ok (.getfield 365, 3) := by decide +kernel
theorem dX12_tell_85 : decode cX12_tell 85 = .ok (.iconst 1, 1) := by decide +kernel
theorem dX12_tell_86 : decode cX12_tell 86 = .ok (.isub, 1) := by decide +kernel
theorem dX12_tell_87 : decode cX12_tell 87 = .ok (.ireturn, 1) := by decide +kernel
theorem dX12_sized_0 : decode cX12_sized 0 = .ok (.iload_n 1, 1) := by decide +kernel
theorem dX12_sized_1 : decode cX12_sized 1 = .ok (.iconst 1, 1) := by decide +kernel
theorem dX12_sized_2 : decode cX12_sized 2 = .ok (.bipush 64, 2) := by decide +kernel
theorem dX12_sized_4 : decode cX12_sized 4 = .ok (.invokestatic 371, 3) := by decide +kernel
theorem dX12_sized_7 : decode cX12_sized 7 = .ok (.ifCond .eq 13, 3) := by decide +kernel
theorem dX12_sized_10 : decode cX12_sized 10 = .ok (.aload_n 0, 1) := by decide +kernel
theorem dX12_sized_11 : decode cX12_sized 11 = .ok (.iconst 0, 1) := by decide +kernel
theorem dX12_sized_12 : decode cX12_sized 12 = .ok (.iload_n 1, 1) := by decide +kernel
theorem dX12_sized_13 : decode cX12_sized 13 = .ok (.iload_n 2, 1) := by decide +kernel
theorem dX12_sized_14 : decode cX12_sized 14 = .ok (.invokevirtual 501, 3) := by decide +kernel
theorem dX12_sized_17 : decode cX12_sized 17 = .ok (.goto 4, 3) := by decide +kernel
theorem dX12_sized_20 : decode cX12_sized 20 = .ok (.iconst (-1), 1) := by decide +kernel
theorem dX12_sized_21 : decode cX12_sized 21 = .ok (.ireturn, 1) := by decide +kernel
theorem dX12_rimmed_0 : decode cX12_rimmed 0 = .ok (.iload_n 1, 1) := by decide +kernel
theorem dX12_rimmed_1 : decode cX12_rimmed 1 = .ok (.iconst 0, 1) := by decide +kernel
theorem dX12_rimmed_2 : decode cX12_rimmed 2 = .ok (.bipush 32, 2) := by decide +kernel
theorem dX12_rimmed_4 : decode cX12_rimmed 4 = .ok (.invokestatic 371, 3) := by decide +kernel
theorem dX12_rimmed_7 : decode cX12_rimmed 7 = .ok (.ifCond .eq 13, 3) := by decide +kernel
theorem dX12_rimmed_10 : decode cX12_rimmed 10 = .ok (.aload_n 0, 1) := by decide +kernel
theorem dX12_rimmed_11 : decode cX12_rimmed 11 = .ok (.iconst 1, 1) := by decide +kernel
theorem dX12_rimmed_12 : decode cX12_rimmed 12 = .ok (.iload_n 1, 1) := by decide +kernel
theorem dX12_rimmed_13 : decode cX12_rimmed 13 = .ok (.iload_n 2, 1) := by decide +kernel
theorem dX12_rimmed_14 : decode cX12_rimmed 14 = .ok (.invokevirtual 501, 3) := by decide +kernel
theorem dX12_rimmed_17 : decode cX12_rimmed 17 = .ok (.goto 4, 3) := by decide +kernel
theorem dX12_rimmed_20 : decode cX12_rimmed 20 = .ok (.iconst (-1), 1) := by decide +kernel
theorem dX12_rimmed_21 : decode cX12_rimmed 21 = .ok (.ireturn, 1) := by decide +kernel
theorem dX12_untell_0 : decode cX12_untell 0 = .ok (.iload_n 1, 1) := by decide +kernel
theorem dX12_untell_1 : decode cX12_untell 1 = .ok (.iconst 0, 1) := by decide +kernel
theorem dX12_untell_2 : decode cX12_untell 2 = .ok (.aload_n 0, 1) := by decide +kernel
theorem dX12_untell_3 : decode cX12_untell 3 = .ok (.getfield 365, 3) := by decide +kernel
theorem dX12_untell_6 : decode cX12_untell 6 = .ok (.iconst 1, 1) := by decide +kernel
theorem dX12_untell_7 : decode cX12_untell 7 = .ok (.isub, 1) := by decide +kernel
theorem dX12_untell_8 : decode cX12_untell 8 = .ok (.invokestatic 371, 3) := by decide +kernel
theorem dX12_untell_11 : decode cX12_untell 11 = .ok (.ifCond .eq 12, 3) := by decide +kernel
theorem dX12_untell_14 : decode cX12_untell 14 = .ok (.aload_n 0, 1) := by decide +kernel
theorem dX12_untell_15 : decode cX12_untell 15 = .ok (.getfield 127, 3) := by decide +kernel
theorem dX12_untell_18 : decode cX12_untell 18 = .ok (.iload_n 1, 1) := by decide +kernel
theorem dX12_untell_19 : decode cX12_untell 19 = .ok (.iaload, 1) := by decide +kernel
theorem dX12_untell_20 : decode cX12_untell 20 = .ok (.ifCond .lt 5, 3) := by decide +kernel
theorem dX12_untell_23 : decode cX12_untell 23 = .ok (.iconst 0, 1) := by decide +kernel
theorem dX12_untell_24 : decode cX12_untell 24 = .ok (.ireturn, 1) := by decide +kernel
theorem dX12_untell_25 : decode cX12_untell 25 = .ok (.aload_n 0, 1) := by decide +kernel
theorem dX12_untell_26 : decode cX12_untell 26 = .ok (.getfield 127, 3) := by decide +kernel
theorem dX12_untell_29 : decode cX12_untell 29 = .ok (.iload_n 1, 1) := by decide +kernel
theorem dX12_untell_30 : decode cX12_untell 30 = .ok (.aload_n 0, 1) := by decide +kernel
theorem dX12_untell_31 : decode cX12_untell 31 = .ok (.getfield 498, 3) := by decide +kernel
theorem dX12_untell_34 : decode cX12_untell 34 = .ok (.iastore, 1) := by decide +kernel
theorem dX12_untell_35 : decode cX12_untell 35 = .ok (.iconst 1, 1) := by decide +kernel
theorem dX12_untell_36 : decode cX12_untell 36 = .ok (.ireturn, 1) := by decide +kernel
theorem dX12_later_0 : decode cX12_later 0 = .ok (.iload_n 1, 1) := by decide +kernel
theorem dX12_later_1 : decode cX12_later 1 = .ok (.ifCond .lt 22, 3) := by decide +kernel
theorem dX12_later_4 : decode cX12_later 4 = .ok (.iload_n 1, 1) := by decide +kernel
theorem dX12_later_5 : decode cX12_later 5 = .ok (.sipush 1000, 3) := by decide +kernel
theorem dX12_later_8 : decode cX12_later 8 = .ok (.if_icmp .gt 15, 3) := by decide +kernel
theorem dX12_later_11 : decode cX12_later 11 = .ok (.aload_n 0, 1) := by decide +kernel
theorem dX12_later_12 : decode cX12_later 12 = .ok (.getfield 498, 3) := by decide +kernel
theorem dX12_later_15 : decode cX12_later 15 = .ok (.iload_n 1, 1) := by decide +kernel
theorem dX12_later_16 : decode cX12_later 16 = .ok (.iadd, 1) := by decide +kernel
theorem dX12_later_17 : decode cX12_later 17 = .ok (.ldc_w 505, 3) := by decide +kernel
theorem dX12_later_20 : decode cX12_later 20 = .ok (.if_icmp .le 5, 3) := by decide +kernel
theorem dX12_later_23 : decode cX12_later 23 = .ok (.iconst (-1), 1) := by decide +kernel
theorem dX12_later_24 : decode cX12_later 24 = .ok (.ireturn, 1) := by decide +kernel
theorem dX12_later_25 : decode cX12_later 25 = .ok (.aload_n 0, 1) := by decide +kernel
theorem dX12_later_26 : decode cX12_later 26 = .ok (.dup, 1) := by decide +kernel
theorem dX12_later_27 : decode cX12_later 27 = .ok (.getfield 498, 3) := by decide +kernel
theorem dX12_later_30 : decode cX12_later 30 = .ok (.iload_n 1, 1) := by decide +kernel
theorem dX12_later_31 : decode cX12_later 31 = .ok (.iadd, 1) := by decide +kernel
theorem dX12_later_32 : decode cX12_later 32 = .ok (.putfield 498, 3) := by decide +kernel
theorem dX12_later_35 : decode cX12_later 35 = .ok (.aload_n 0, 1) := by decide +kernel
theorem dX12_later_36 : decode cX12_later 36 = .ok (.getfield 498, 3) := by decide +kernel
theorem dX12_later_39 : decode cX12_later 39 = .ok (.ireturn, 1) := by decide +kernel
theorem dX12_hasIcing_0 : decode cX12_hasIcing 0 = .ok (.iconst 0, 1) := by decide +kernel
theorem dX12_hasIcing_1 : decode cX12_hasIcing 1 = .ok (.istore 4, 2) := by decide +kernel
theorem dX12_hasIcing_3 : decode cX12_hasIcing 3 = .ok (.iconst 0, 1) := by decide +kernel
theorem dX12_hasIcing_4 : decode cX12_hasIcing 4 = .ok (.istore 5, 2) := by decide +kernel
theorem dX12_hasIcing_6 : decode cX12_hasIcing 6 = .ok (.iload 5, 2) := by decide +kernel
theorem dX12_hasIcing_8 : decode cX12_hasIcing 8 = .ok (.iload_n 1, 1) := by decide +kernel
theorem dX12_hasIcing_9 : decode cX12_hasIcing 9 = .ok (.if_icmp .ge 51, 3) := by decide +kernel
theorem dX12_hasIcing_12 : decode cX12_hasIcing 12 = .ok (.iconst 0, 1) := by decide +kernel
theorem dX12_hasIcing_13 : decode cX12_hasIcing 13 = .ok (.istore 6, 2) := by decide +kernel
theorem dX12_hasIcing_15 : decode cX12_hasIcing 15 = .ok (.iload 6, 2) := by decide +kernel
theorem dX12_hasIcing_17 : decode cX12_hasIcing 17 = .ok (.iload_n 2, 1) := by decide +kernel
theorem dX12_hasIcing_18 : decode cX12_hasIcing 18 = .ok (.if_icmp .ge 36, 3) := by decide +kernel
theorem dX12_hasIcing_21 : decode cX12_hasIcing 21 = .ok (.iload 4, 2) := by decide +kernel
theorem dX12_hasIcing_23 : decode cX12_hasIcing 23 = .ok (.ifCond .ne 18, 3) := by decide +kernel
theorem dX12_hasIcing_26 : decode cX12_hasIcing 26 = .ok (.aload_n 0, 1) := by decide +kernel
theorem dX12_hasIcing_27 : decode cX12_hasIcing 27 = .ok (.iconst 0, 1) := by decide +kernel
theorem dX12_hasIcing_28 : decode cX12_hasIcing 28 = .ok (.iload_n 1, 1) := by decide +kernel
theorem dX12_hasIcing_29 : decode cX12_hasIcing 29 = .ok (.iload_n 2, 1) := by decide +kernel
theorem dX12_hasIcing_30 : decode cX12_hasIcing 30 = .ok (.iload 5, 2) := by decide +kernel
theorem dX12_hasIcing_32 : decode cX12_hasIcing 32 = .ok (.iload 6, 2) := by decide +kernel
theorem dX12_hasIcing_34 : decode cX12_hasIcing 34 = .ok (.invokevirtual 475, 3) := by decide +kernel
theorem dX12_hasIcing_37 : decode cX12_hasIcing 37 = .ok (.iload_n 3, 1) := by decide +kernel
theorem dX12_hasIcing_38 : decode cX12_hasIcing 38 = .ok (.if_icmp .ne 7, 3) := by decide +kernel
theorem dX12_hasIcing_41 : decode cX12_hasIcing 41 = .ok (.iconst 1, 1) := by decide +kernel
theorem dX12_hasIcing_42 : decode cX12_hasIcing 42 = .ok (.goto 4, 3) := by decide +kernel
theorem dX12_hasIcing_45 : decode cX12_hasIcing 45 = .ok (.iconst 0, 1) := by decide +kernel
theorem dX12_hasIcing_46 : decode cX12_hasIcing 46 = .ok (.istore 4, 2) := by decide +kernel
theorem dX12_hasIcing_48 : decode cX12_hasIcing 48 = .ok (.iinc 6 1, 3) := by decide +kernel
theorem dX12_hasIcing_51 : decode cX12_hasIcing 51 = .ok (.goto (-36), 3) := by decide +kernel
theorem dX12_hasIcing_54 : decode cX12_hasIcing 54 = .ok (.iinc 5 1, 3) := by decide +kernel
theorem dX12_hasIcing_57 : decode cX12_hasIcing 57 = .ok (.goto (-51), 3) := by decide +kernel
theorem dX12_hasIcing_60 : decode cX12_hasIcing 60 = .ok (.iload 4, 2) := by decide +kernel
theorem dX12_hasIcing_62 : decode cX12_hasIcing 62 = .ok (.ireturn, 1) := by decide +kernel
theorem dX12_isSo_0 : decode cX12_isSo 0 = .ok (.aload_n 0, 1) := by decide +kernel
theorem dX12_isSo_1 : decode cX12_isSo 1 = .ok (.getfield 118, 3) := by decide +kernel
theorem dX12_isSo_4 : decode cX12_isSo 4 = .ok (.iload_n 1, 1) := by decide +kernel
theorem dX12_isSo_5 : decode cX12_isSo 5 = .ok (.iaload, 1) := by decide +kernel
theorem dX12_isSo_6 : decode cX12_isSo 6 = .ok (.ifCond .ne 37, 3) := by decide +kernel
theorem dX12_isSo_9 : decode cX12_isSo 9 = .ok (.aload_n 0, 1) := by decide +kernel
theorem dX12_isSo_10 : decode cX12_isSo 10 = .ok (.getfield 61, 3) := by decide +kernel
theorem dX12_isSo_13 : decode cX12_isSo 13 = .ok (.iconst 0, 1) := by decide +kernel
theorem dX12_isSo_14 : decode cX12_isSo 14 = .ok (.iaload, 1) := by decide +kernel
theorem dX12_isSo_15 : decode cX12_isSo 15 = .ok (.iload_n 2, 1) := by decide +kernel
theorem dX12_isSo_16 : decode cX12_isSo 16 = .ok (.idiv, 1) := by decide +kernel
theorem dX12_isSo_17 : decode cX12_isSo 17 = .ok (.aload_n 0, 1) := by decide +kernel
theorem dX12_isSo_18 : decode cX12_isSo 18 = .ok (.getfield 64, 3) := by decide +kernel
theorem dX12_isSo_21 : decode cX12_isSo 21 = .ok (.iconst 0, 1) := by decide +kernel
theorem dX12_isSo_22 : decode cX12_isSo 22 = .ok (.iaload, 1) := by decide +kernel
theorem dX12_isSo_23 : decode cX12_isSo 23 = .ok (.iload_n 3, 1) := by decide +kernel
theorem dX12_isSo_24 : decode cX12_isSo 24 = .ok (.idiv, 1) := by decide +kernel
theorem dX12_isSo_25 : decode cX12_isSo 25 = .ok (.imul, 1) := by decide +kernel
theorem dX12_isSo_26 : decode cX12_isSo 26 = .ok (.aload_n 0, 1) := by decide +kernel
theorem dX12_isSo_27 : decode cX12_isSo 27 = .ok (.getfield 121, 3) := by decide +kernel
theorem dX12_isSo_30 : decode cX12_isSo 30 = .ok (.iload_n 1, 1) := by decide +kernel
theorem dX12_isSo_31 : decode cX12_isSo 31 = .ok (.iaload, 1) := by decide +kernel
theorem dX12_isSo_32 : decode cX12_isSo 32 = .ok (.if_icmp .ne 7, 3) := by decide +kernel
theorem dX12_isSo_35 : decode cX12_isSo 35 = .ok (.iconst 1, 1) := by decide +kernel
theorem dX12_isSo_36 : decode cX12_isSo 36 = .ok (.goto 19, 3) := by decide +kernel
theorem dX12_isSo_39 : decode cX12_isSo 39 = .ok (.iconst 0, 1) := by decide +kernel
theorem dX12_isSo_40 : decode cX12_isSo 40 = .ok (.goto 15, 3) := by decide +kernel
theorem dX12_isSo_43 : decode cX12_isSo 43 = .ok (.aload_n 0, 1) := by decide +kernel
theorem dX12_isSo_44 : decode cX12_isSo 44 = .ok (.iload_n 2, 1) := by decide +kernel
theorem dX12_isSo_45 : decode cX12_isSo 45 = .ok (.iload_n 3, 1) := by decide +kernel
theorem dX12_isSo_46 : decode cX12_isSo 46 = .ok (.aload_n 0, 1) := by decide +kernel
theorem dX12_isSo_47 : decode cX12_isSo 47 = .ok (.getfield 121, 3) := by decide +kernel
theorem dX12_isSo_50 : decode cX12_isSo 50 = .ok (.iload_n 1, 1) := by decide +kernel
theorem dX12_isSo_51 : decode cX12_isSo 51 = .ok (.iaload, 1) := by decide +kernel
theorem dX12_isSo_52 : decode cX12_isSo 52 = .ok (.invokevirtual 506, 3) := by decide +kernel
theorem dX12_isSo_55 : decode cX12_isSo 55 = .ok (.ireturn, 1) := by decide +kernel
theorem dX12_isFit_0 : decode cX12_isFit 0 = .ok (.aload_n 0, 1) := by decide +kernel
theorem dX12_isFit_1 : decode cX12_isFit 1 = .ok (.getfield 350, 3) := by decide +kernel
theorem dX12_isFit_4 : decode cX12_isFit 4 = .ok (.ifCond .le 17, 3) := by decide +kernel
theorem dX12_isFit_7 : decode cX12_isFit 7 = .ok (.aload_n 0, 1) := by decide +kernel
theorem dX12_isFit_8 : decode cX12_isFit 8 = .ok (.iconst 0, 1) := by decide +kernel
theorem dX12_isFit_9 : decode cX12_isFit 9 = .ok (.iload_n 1, 1) := by decide +kernel
theorem dX12_isFit_10 : decode cX12_isFit 10 = .ok (.iload_n 2, 1) := by decide +kernel
theorem dX12_isFit_11 : decode cX12_isFit 11 = .ok (.invokevirtual 482, 3) := by decide +kernel
theorem dX12_isFit_14 : decode cX12_isFit 14 = .ok (.ifCond .eq 7, 3) := by decide +kernel
theorem dX12_isFit_17 : decode cX12_isFit 17 = .ok (.iconst 1, 1) := by decide +kernel
theorem dX12_isFit_18 : decode cX12_isFit 18 = .ok (.goto 4, 3) := by decide +kernel
theorem dX12_isFit_21 : decode cX12_isFit 21 = .ok (.iconst 0, 1) := by decide +kernel
theorem dX12_isFit_22 : decode cX12_isFit 22 = .ok (.istore 4, 2) := by decide +kernel
theorem dX12_isFit_24 : decode cX12_isFit 24 = .ok (.iconst 0, 1) := by decide +kernel
theorem dX12_isFit_25 : decode cX12_isFit 25 = .ok (.istore 5, 2) := by decide +kernel
theorem dX12_isFit_27 : decode cX12_isFit 27 = .ok (.iload 5, 2) := by decide +kernel
theorem dX12_isFit_29 : decode cX12_isFit 29 = .ok (.aload_n 0, 1) := by decide +kernel
theorem dX12_isFit_30 : decode cX12_isFit 30 = .ok (.getfield 365, 3) := by decide +kernel
theorem dX12_isFit_33 : decode cX12_isFit 33 = .ok (.if_icmp .ge 74, 3) := by decide +kernel
theorem dX12_isFit_36 : decode cX12_isFit 36 = .ok (.iload 4, 2) := by decide +kernel
theorem dX12_isFit_38 : decode cX12_isFit 38 = .ok (.ifCond .eq 69, 3) := by decide +kernel
theorem dX12_isFit_41 : decode cX12_isFit 41 = .ok (.aload_n 0, 1) := by decide +kernel
theorem dX12_isFit_42 : decode cX12_isFit 42 = .ok (.getfield 124, 3) := by decide +kernel
theorem dX12_isFit_45 : decode cX12_isFit 45 = .ok (.iload 5, 2) := by decide +kernel
theorem dX12_isFit_47 : decode cX12_isFit 47 = .ok (.iaload, 1) := by decide +kernel
theorem dX12_isFit_48 : decode cX12_isFit 48 = .ok (.iload_n 3, 1) := by decide +kernel
theorem dX12_isFit_49 : decode cX12_isFit 49 = .ok (.if_icmp .gt 52, 3) := by decide +kernel
theorem dX12_isFit_52 : decode cX12_isFit 52 = .ok (.aload_n 0, 1) := by decide +kernel
theorem dX12_isFit_53 : decode cX12_isFit 53 = .ok (.getfield 127, 3) := by decide +kernel
theorem dX12_isFit_56 : decode cX12_isFit 56 = .ok (.iload 5, 2) := by decide +kernel
theorem dX12_isFit_58 : decode cX12_isFit 58 = .ok (.iaload, 1) := by decide +kernel
theorem dX12_isFit_59 : decode cX12_isFit 59 = .ok (.ifCond .lt 17, 3) := by decide +kernel
theorem dX12_isFit_62 : decode cX12_isFit 62 = .ok (.aload_n 0, 1) := by decide +kernel
theorem dX12_isFit_63 : decode cX12_isFit 63 = .ok (.getfield 127, 3) := by decide +kernel
theorem dX12_isFit_66 : decode cX12_isFit 66 = .ok (.iload 5, 2) := by decide +kernel
theorem dX12_isFit_68 : decode cX12_isFit 68 = .ok (.iaload, 1) := by decide +kernel
theorem dX12_isFit_69 : decode cX12_isFit 69 = .ok (.iload_n 3, 1) := by decide +kernel
theorem dX12_isFit_70 : decode cX12_isFit 70 = .ok (.if_icmp .gt 6, 3) := by decide +kernel
theorem dX12_isFit_73 : decode cX12_isFit 73 = .ok (.goto 28, 3) := by decide +kernel
theorem dX12_isFit_76 : decode cX12_isFit 76 = .ok (.aload_n 0, 1) := by decide +kernel
theorem dX12_isFit_77 : decode cX12_isFit 77 = .ok (.iload 5, 2) := by decide +kernel
theorem dX12_isFit_79 : decode cX12_isFit 79 = .ok (.iload_n 1, 1) := by decide +kernel
theorem dX12_isFit_80 : decode cX12_isFit 80 = .ok (.iload_n 2, 1) := by decide +kernel
theorem dX12_isFit_81 : decode cX12_isFit 81 = .ok (.invokevirtual 509, 3) := by decide +kernel
theorem dX12_isFit_84 : decode cX12_isFit 84 = .ok (.aload_n 0, 1) := by decide +kernel
theorem dX12_isFit_85 : decode cX12_isFit 85 = .ok (.getfield 130, 3) := by decide +kernel
theorem dX12_isFit_88 : decode cX12_isFit 88 = .ok (.iload 5, 2) := by decide +kernel
theorem dX12_isFit_90 : decode cX12_isFit 90 = .ok (.baload, 1) := by decide +kernel
theorem dX12_isFit_91 : decode cX12_isFit 91 = .ok (.if_icmp .ne 7, 3) := by decide +kernel
theorem dX12_isFit_94 : decode cX12_isFit 94 = .ok (.iconst 1, 1) := by decide +kernel
theorem dX12_isFit_95 : decode cX12_isFit 95 = .ok (.goto 4, 3) := by decide +kernel
theorem dX12_isFit_98 : decode cX12_isFit 98 = .ok (.iconst 0, 1) := by decide +kernel
theorem dX12_isFit_99 : decode cX12_isFit 99 = .ok (.istore 4, 2) := by decide +kernel
theorem dX12_isFit_101 : decode cX12_isFit 101 = .ok (.iinc 5 1, 3) := by decide +kernel
theorem dX12_isFit_104 : decode cX12_isFit 104 = .ok (.goto (-77), 3) := by decide +kernel
theorem dX12_isFit_107 : decode cX12_isFit 107 = .ok (.iload 4, 2) := by decide +kernel
theorem dX12_isFit_109 : decode cX12_isFit 109 = .ok (.ireturn, 1) := by decide +kernel
theorem dX12_fits_0 : decode cX12_fits 0 = .ok (.iconst 0, 1) := by decide +kernel
theorem dX12_fits_1 : decode cX12_fits 1 = .ok (.istore_n 2, 1) := by decide +kernel
theorem dX12_fits_2 : decode cX12_fits 2 = .ok (.iconst 1, 1) := by decide +kernel
theorem dX12_fits_3 : decode cX12_fits 3 = .ok (.istore_n 3, 1) := by decide +kernel
theorem dX12_fits_4 : decode cX12_fits 4 = .ok (.iload_n 3, 1) := by decide +kernel
theorem dX12_fits_5 : decode cX12_fits 5 = .ok (.bipush 8, 2) := by decide +kernel
theorem dX12_fits_7 : decode cX12_fits 7 = .ok (.if_icmp .gt 39, 3) := by decide +kernel
theorem dX12_fits_10 : decode cX12_fits 10 = .ok (.iconst 1, 1) := by decide +kernel
theorem dX12_fits_11 : decode cX12_fits 11 = .ok (.istore 4, 2) := by decide +kernel
theorem dX12_fits_13 : decode cX12_fits 13 = .ok (.iload 4, 2) := by decide +kernel
theorem dX12_fits_15 : decode cX12_fits 15 = .ok (.bipush 8, 2) := by decide +kernel
theorem dX12_fits_17 : decode cX12_fits 17 = .ok (.if_icmp .gt 23, 3) := by decide +kernel
theorem dX12_fits_20 : decode cX12_fits 20 = .ok (.iload_n 2, 1) := by decide +kernel
theorem dX12_fits_21 : decode cX12_fits 21 = .ok (.aload_n 0, 1) := by decide +kernel
theorem dX12_fits_22 : decode cX12_fits 22 = .ok (.iload_n 3, 1) := by decide +kernel
theorem dX12_fits_23 : decode cX12_fits 23 = .ok (.iload 4, 2) := by decide +kernel
theorem dX12_fits_25 : decode cX12_fits 25 = .ok (.iload_n 1, 1) := by decide +kernel
theorem dX12_fits_26 : decode cX12_fits 26 = .ok (.invokevirtual 512, 3) := by decide +kernel
theorem dX12_fits_29 : decode cX12_fits 29 = .ok (.invokestatic 302, 3) := by decide +kernel
theorem dX12_fits_32 : decode cX12_fits 32 = .ok (.iadd, 1) := by decide +kernel
theorem dX12_fits_33 : decode cX12_fits 33 = .ok (.istore_n 2, 1) := by decide +kernel
theorem dX12_fits_34 : decode cX12_fits 34 = .ok (.iinc 4 1, 3) := by decide +kernel
theorem dX12_fits_37 : decode cX12_fits 37 = .ok (.goto (-24), 3) := by decide +kernel
theorem dX12_fits_40 : decode cX12_fits 40 = .ok (.iinc 3 1, 3) := by decide +kernel
theorem dX12_fits_43 : decode cX12_fits 43 = .ok (.goto (-39), 3) := by decide +kernel
theorem dX12_fits_46 : decode cX12_fits 46 = .ok (.iload_n 2, 1) := by decide +kernel
theorem dX12_fits_47 : decode cX12_fits 47 = .ok (.ireturn, 1) := by decide +kernel
theorem dX12_sure_0 : decode cX12_sure 0 = .ok (.iload_n 1, 1) := by decide +kernel
theorem dX12_sure_1 : decode cX12_sure 1 = .ok (.iconst 0, 1) := by decide +kernel
theorem dX12_sure_2 : decode cX12_sure 2 = .ok (.iconst 1, 1) := by decide +kernel
theorem dX12_sure_3 : decode cX12_sure 3 = .ok (.invokestatic 371, 3) := by decide +kernel
theorem dX12_sure_6 : decode cX12_sure 6 = .ok (.ifCond .ne 5, 3) := by decide +kernel
theorem dX12_sure_9 : decode cX12_sure 9 = .ok (.iconst (-1), 1) := by decide +kernel
theorem dX12_sure_10 : decode cX12_sure 10 = .ok (.ireturn, 1) := by decide +kernel
theorem dX12_sure_11 : decode cX12_sure 11 = .ok (.iconst (-1), 1) := by decide +kernel
theorem dX12_sure_12 : decode cX12_sure 12 = .ok (.istore_n 3, 1) := by decide +kernel
theorem dX12_sure_13 : decode cX12_sure 13 = .ok (.iconst 1, 1) := by decide +kernel
theorem dX12_sure_14 : decode cX12_sure 14 = .ok (.istore 4, 2) := by decide +kernel
theorem dX12_sure_16 : decode cX12_sure 16 = .ok (.iload 4, 2) := by decide +kernel
theorem dX12_sure_18 : decode cX12_sure 18 = .ok (.bipush 8, 2) := by decide +kernel
theorem dX12_sure_20 : decode cX12_sure 20 = .ok (.if_icmp .gt 72, 3) := by decide +kernel
theorem dX12_sure_23 : decode cX12_sure 23 = .ok (.iconst 1, 1) := by decide +kernel
theorem dX12_sure_24 : decode cX12_sure 24 = .ok (.istore 5, 2) := by decide +kernel
theorem dX12_sure_26 : decode cX12_sure 26 = .ok (.iload 5, 2) := by decide +kernel
theorem dX12_sure_28 : decode cX12_sure 28 = .ok (.bipush 8, 2) := by decide +kernel
theorem dX12_sure_30 : decode cX12_sure 30 = .ok (.if_icmp .gt 56, 3) := by decide +kernel
theorem dX12_sure_33 : decode cX12_sure 33 = .ok (.aload_n 0, 1) := by decide +kernel
theorem dX12_sure_34 : decode cX12_sure 34 = .ok (.iload 4, 2) := by decide +kernel
theorem dX12_sure_36 : decode cX12_sure 36 = .ok (.iload 5, 2) := by decide +kernel
theorem dX12_sure_38 : decode cX12_sure 38 = .ok (.iload_n 2, 1) := by decide +kernel
theorem dX12_sure_39 : decode cX12_sure 39 = .ok (.invokevirtual 512, 3) := by decide +kernel
theorem dX12_sure_42 : decode cX12_sure 42 = .ok (.ifCond .ne 6, 3) := by decide +kernel
theorem dX12_sure_45 : decode cX12_sure 45 = .ok (.goto 35, 3) := by decide +kernel
theorem dX12_sure_48 : decode cX12_sure 48 = .ok (.iload_n 1, 1) := by decide +kernel
theorem dX12_sure_49 : decode cX12_sure 49 = .ok (.ifCond .ne 8, 3) := by decide +kernel
theorem dX12_sure_52 : decode cX12_sure 52 = .ok (.iload 4, 2) := by decide +kernel
theorem dX12_sure_54 : decode cX12_sure 54 = .ok (.goto 5, 3) := by decide +kernel
theorem dX12_sure_57 : decode cX12_sure 57 = .ok (.iload 5, 2) := by decide +kernel
theorem dX12_sure_59 : decode cX12_sure 59 = .ok (.istore 6, 2) := by decide +kernel
theorem dX12_sure_61 : decode cX12_sure 61 = .ok (.iload_n 3, 1) := by decide +kernel
theorem dX12_sure_62 : decode cX12_sure 62 = .ok (.iconst (-1), 1) := by decide +kernel
theorem dX12_sure_63 : decode cX12_sure 63 = .ok (.if_icmp .eq 9, 3) := by decide +kernel
theorem dX12_sure_66 : decode cX12_sure 66 = .ok (.iload_n 3, 1) := by decide +kernel
theorem dX12_sure_67 : decode cX12_sure 67 = .ok (.iload 6, 2) := by decide +kernel
theorem dX12_sure_69 : decode cX12_sure 69 = .ok (.if_icmp .ne 8, 3) := by decide +kernel
theorem dX12_sure_72 : decode cX12_sure 72 = .ok (.iload 6, 2) := by decide +kernel
theorem dX12_sure_74 : decode cX12_sure 74 = .ok (.goto 5, 3) := by decide +kernel
theorem dX12_sure_77 : decode cX12_sure 77 = .ok (.bipush (-2), 2) := by decide +kernel
theorem dX12_sure_79 : decode cX12_sure 79 = .ok (.istore_n 3, 1) := by decide +kernel
theorem dX12_sure_80 : decode cX12_sure 80 = .ok (.iinc 5 1, 3) := by decide +kernel
theorem dX12_sure_83 : decode cX12_sure 83 = .ok (.goto (-57), 3) := by decide +kernel
theorem dX12_sure_86 : decode cX12_sure 86 = .ok (.iinc 4 1, 3) := by decide +kernel
theorem dX12_sure_89 : decode cX12_sure 89 = .ok (.goto (-73), 3) := by decide +kernel
theorem dX12_sure_92 : decode cX12_sure 92 = .ok (.iload_n 3, 1) := by decide +kernel
theorem dX12_sure_93 : decode cX12_sure 93 = .ok (.ireturn, 1) := by decide +kernel
theorem dX12_leftBy_0 : decode cX12_leftBy 0 = .ok (.iconst 0, 1) := by decide +kernel
theorem dX12_leftBy_1 : decode cX12_leftBy 1 = .ok (.istore_n 3, 1) := by decide +kernel
theorem dX12_leftBy_2 : decode cX12_leftBy 2 = .ok (.iconst 0, 1) := by decide +kernel
theorem dX12_leftBy_3 : decode cX12_leftBy 3 = .ok (.istore 4, 2) := by decide +kernel
theorem dX12_leftBy_5 : decode cX12_leftBy 5 = .ok (.iconst 1, 1) := by decide +kernel
theorem dX12_leftBy_6 : decode cX12_leftBy 6 = .ok (.istore 5, 2) := by decide +kernel
theorem dX12_leftBy_8 : decode cX12_leftBy 8 = .ok (.iload 5, 2) := by decide +kernel
theorem dX12_leftBy_10 : decode cX12_leftBy 10 = .ok (.bipush 8, 2) := by decide +kernel
theorem dX12_leftBy_12 : decode cX12_leftBy 12 = .ok (.if_icmp .gt 61, 3) := by decide +kernel
theorem dX12_leftBy_15 : decode cX12_leftBy 15 = .ok (.iconst 1, 1) := by decide +kernel
theorem dX12_leftBy_16 : decode cX12_leftBy 16 = .ok (.istore 6, 2) := by decide +kernel
theorem dX12_leftBy_18 : decode cX12_leftBy 18 = .ok (.iload 6, 2) := by decide +kernel
theorem dX12_leftBy_20 : decode cX12_leftBy 20 = .ok (.bipush 8, 2) := by decide +kernel
theorem dX12_leftBy_22 : decode cX12_leftBy 22 = .ok (.if_icmp .gt 45, 3) := by decide +kernel
theorem dX12_leftBy_25 : decode cX12_leftBy 25 = .ok (.aload_n 0, 1) := by decide +kernel
theorem dX12_leftBy_26 : decode cX12_leftBy 26 = .ok (.iload 5, 2) := by decide +kernel
theorem dX12_leftBy_28 : decode cX12_leftBy 28 = .ok (.iload 6, 2) := by decide +kernel
theorem dX12_leftBy_30 : decode cX12_leftBy 30 = .ok (.iload_n 2, 1) := by decide +kernel
theorem dX12_leftBy_31 : decode cX12_leftBy 31 = .ok (.invokevirtual 512, 3) := by decide +kernel
theorem dX12_leftBy_34 : decode cX12_leftBy 34 = .ok (.ifCond .ne 6, 3) := by decide +kernel
theorem dX12_leftBy_37 : decode cX12_leftBy 37 = .ok (.goto 24, 3) := by decide +kernel
theorem dX12_leftBy_40 : decode cX12_leftBy 40 = .ok (.aload_n 0, 1) := by decide +kernel
theorem dX12_leftBy_41 : decode cX12_leftBy 41 = .ok (.iload 5, 2) := by decide +kernel
theorem dX12_leftBy_43 : decode cX12_leftBy 43 = .ok (.iload 6, 2) := by decide +kernel
theorem dX12_leftBy_45 : decode cX12_leftBy 45 = .ok (.iload_n 1, 1) := by decide +kernel
theorem dX12_leftBy_46 : decode cX12_leftBy 46 = .ok (.invokevirtual 506, 3) := by decide +kernel
theorem dX12_leftBy_49 : decode cX12_leftBy 49 = .ok (.ifCond .eq 9, 3) := by decide +kernel
theorem dX12_leftBy_52 : decode cX12_leftBy 52 = .ok (.iinc 3 1, 3) := by decide +kernel
theorem dX12_leftBy_55 : decode cX12_leftBy 55 = .ok (.goto 6, 3) := by decide +kernel
theorem dX12_leftBy_58 : decode cX12_leftBy 58 = .ok (.iinc 4 1, 3) := by decide +kernel
theorem dX12_leftBy_61 : decode cX12_leftBy 61 = .ok (.iinc 6 1, 3) := by decide +kernel
theorem dX12_leftBy_64 : decode cX12_leftBy 64 = .ok (.goto (-46), 3) := by decide +kernel
theorem dX12_leftBy_67 : decode cX12_leftBy 67 = .ok (.iinc 5 1, 3) := by decide +kernel
theorem dX12_leftBy_70 : decode cX12_leftBy 70 = .ok (.goto (-62), 3) := by decide +kernel
theorem dX12_leftBy_73 : decode cX12_leftBy 73 = .ok (.iload_n 3, 1) := by decide +kernel
theorem dX12_leftBy_74 : decode cX12_leftBy 74 = .ok (.iload 4, 2) := by decide +kernel
theorem dX12_leftBy_76 : decode cX12_leftBy 76 = .ok (.if_icmp .le 7, 3) := by decide +kernel
theorem dX12_leftBy_79 : decode cX12_leftBy 79 = .ok (.iload_n 3, 1) := by decide +kernel
theorem dX12_leftBy_80 : decode cX12_leftBy 80 = .ok (.goto 5, 3) := by decide +kernel
theorem dX12_leftBy_83 : decode cX12_leftBy 83 = .ok (.iload 4, 2) := by decide +kernel
theorem dX12_leftBy_85 : decode cX12_leftBy 85 = .ok (.ireturn, 1) := by decide +kernel
theorem dX12_ask_0 : decode cX12_ask 0 = .ok (.iload_n 1, 1) := by decide +kernel
theorem dX12_ask_1 : decode cX12_ask 1 = .ok (.iconst 0, 1) := by decide +kernel
theorem dX12_ask_2 : decode cX12_ask 2 = .ok (.iconst 1, 1) := by decide +kernel
theorem dX12_ask_3 : decode cX12_ask 3 = .ok (.invokestatic 371, 3) := by decide +kernel
theorem dX12_ask_6 : decode cX12_ask 6 = .ok (.ifCond .eq 11, 3) := by decide +kernel
theorem dX12_ask_9 : decode cX12_ask 9 = .ok (.aload_n 0, 1) := by decide +kernel
theorem dX12_ask_10 : decode cX12_ask 10 = .ok (.iload_n 2, 1) := by decide +kernel
theorem dX12_ask_11 : decode cX12_ask 11 = .ok (.invokevirtual 515, 3) := by decide +kernel
theorem dX12_ask_14 : decode cX12_ask 14 = .ok (.ifCond .ne 5, 3) := by decide +kernel
theorem dX12_ask_17 : decode cX12_ask 17 = .ok (.iconst (-1), 1) := by decide +kernel
theorem dX12_ask_18 : decode cX12_ask 18 = .ok (.ireturn, 1) := by decide +kernel
theorem dX12_ask_19 : decode cX12_ask 19 = .ok (.iconst 0, 1) := by decide +kernel
theorem dX12_ask_20 : decode cX12_ask 20 = .ok (.istore_n 3, 1) := by decide +kernel
theorem dX12_ask_21 : decode cX12_ask 21 = .ok (.iconst 1, 1) := by decide +kernel
theorem dX12_ask_22 : decode cX12_ask 22 = .ok (.istore 4, 2) := by decide +kernel
theorem dX12_ask_24 : decode cX12_ask 24 = .ok (.iload 4, 2) := by decide +kernel
theorem dX12_ask_26 : decode cX12_ask 26 = .ok (.bipush 32, 2) := by decide +kernel
theorem dX12_ask_28 : decode cX12_ask 28 = .ok (.if_icmp .gt 32, 3) := by decide +kernel
theorem dX12_ask_31 : decode cX12_ask 31 = .ok (.aload_n 0, 1) := by decide +kernel
theorem dX12_ask_32 : decode cX12_ask 32 = .ok (.iload 4, 2) := by decide +kernel
theorem dX12_ask_34 : decode cX12_ask 34 = .ok (.iload_n 2, 1) := by decide +kernel
theorem dX12_ask_35 : decode cX12_ask 35 = .ok (.invokevirtual 518, 3) := by decide +kernel
theorem dX12_ask_38 : decode cX12_ask 38 = .ok (.aload_n 0, 1) := by decide +kernel
theorem dX12_ask_39 : decode cX12_ask 39 = .ok (.iload_n 3, 1) := by decide +kernel
theorem dX12_ask_40 : decode cX12_ask 40 = .ok (.iload_n 2, 1) := by decide +kernel
theorem dX12_ask_41 : decode cX12_ask 41 = .ok (.invokevirtual 518, 3) := by decide +kernel
theorem dX12_ask_44 : decode cX12_ask 44 = .ok (.if_icmp .ge 8, 3) := by decide +kernel
theorem dX12_ask_47 : decode cX12_ask 47 = .ok (.iload 4, 2) := by decide +kernel
theorem dX12_ask_49 : decode cX12_ask 49 = .ok (.goto 4, 3) := by decide +kernel
theorem dX12_ask_52 : decode cX12_ask 52 = .ok (.iload_n 3, 1) := by decide +kernel
theorem dX12_ask_53 : decode cX12_ask 53 = .ok (.istore_n 3, 1) := by decide +kernel
theorem dX12_ask_54 : decode cX12_ask 54 = .ok (.iinc 4 1, 3) := by decide +kernel
theorem dX12_ask_57 : decode cX12_ask 57 = .ok (.goto (-33), 3) := by decide +kernel
theorem dX12_ask_60 : decode cX12_ask 60 = .ok (.iload_n 1, 1) := by decide +kernel
theorem dX12_ask_61 : decode cX12_ask 61 = .ok (.ifCond .ne 7, 3) := by decide +kernel
theorem dX12_ask_64 : decode cX12_ask 64 = .ok (.iload_n 3, 1) := by decide +kernel
theorem dX12_ask_65 : decode cX12_ask 65 = .ok (.goto 9, 3) := by decide +kernel
theorem dX12_ask_68 : decode cX12_ask 68 = .ok (.aload_n 0, 1) := by decide +kernel
theorem dX12_ask_69 : decode cX12_ask 69 = .ok (.iload_n 3, 1) := by decide +kernel
theorem dX12_ask_70 : decode cX12_ask 70 = .ok (.iload_n 2, 1) := by decide +kernel
theorem dX12_ask_71 : decode cX12_ask 71 = .ok (.invokevirtual 518, 3) := by decide +kernel
theorem dX12_ask_74 : decode cX12_ask 74 = .ok (.ireturn, 1) := by decide +kernel
theorem dX12_isBox_0 : decode cX12_isBox 0 = .ok (.iload_n 0, 1) := by decide +kernel
theorem dX12_isBox_1 : decode cX12_isBox 1 = .ok (.ifCond .lt 12, 3) := by decide +kernel
theorem dX12_isBox_4 : decode cX12_isBox 4 = .ok (.iload_n 0, 1) := by decide +kernel
theorem dX12_isBox_5 : decode cX12_isBox 5 = .ok (.iconst 3, 1) := by decide +kernel
theorem dX12_isBox_6 : decode cX12_isBox 6 = .ok (.if_icmp .ge 7, 3) := by decide +kernel
theorem dX12_isBox_9 : decode cX12_isBox 9 = .ok (.iconst 1, 1) := by decide +kernel
theorem dX12_isBox_10 : decode cX12_isBox 10 = .ok (.goto 4, 3) := by decide +kernel
theorem dX12_isBox_13 : decode cX12_isBox 13 = .ok (.iconst 0, 1) := by decide +kernel
theorem dX12_isBox_14 : decode cX12_isBox 14 = .ok (.ireturn, 1) := by decide +kernel
theorem dX12_image_0 : decode cX12_image 0 = .ok (.iload_n 1, 1) := by decide +kernel
theorem dX12_image_1 : decode cX12_image 1 = .ok (.invokestatic 521, 3) := by decide +kernel
theorem dX12_image_4 : decode cX12_image 4 = .ok (.ifCond .ne 5, 3) := by decide +kernel
theorem dX12_image_7 : decode cX12_image 7 = .ok (.iconst (-1), 1) := by decide +kernel
theorem dX12_image_8 : decode cX12_image 8 = .ok (.ireturn, 1) := by decide +kernel
theorem dX12_image_9 : decode cX12_image 9 = .ok (.aload_n 0, 1) := by decide +kernel
theorem dX12_image_10 : decode cX12_image 10 = .ok (.getfield 133, 3) := by decide +kernel
theorem dX12_image_13 : decode cX12_image 13 = .ok (.iload_n 1, 1) := by decide +kernel
theorem dX12_image_14 : decode cX12_image 14 = .ok (.iconst 1, 1) := by decide +kernel
theorem dX12_image_15 : decode cX12_image 15 = .ok (.bastore, 1) := by decide +kernel
theorem dX12_image_16 : decode cX12_image 16 = .ok (.iconst 0, 1) := by decide +kernel
theorem dX12_image_17 : decode cX12_image 17 = .ok (.istore_n 2, 1) := by decide +kernel
theorem dX12_image_18 : decode cX12_image 18 = .ok (.iload_n 2, 1) := by decide +kernel
theorem dX12_image_19 : decode cX12_image 19 = .ok (.sipush 171, 3) := by decide +kernel
theorem dX12_image_22 : decode cX12_image 22 = .ok (.if_icmp .ge 27, 3) := by decide +kernel
theorem dX12_image_25 : decode cX12_image 25 = .ok (.aload_n 0, 1) := by decide +kernel
theorem dX12_image_26 : decode cX12_image 26 = .ok (.getfield 136, 3) := by decide +kernel
theorem dX12_image_29 : decode cX12_image 29 = .ok (.sipush 171, 3) := by decide +kernel
theorem dX12_image_32 : decode cX12_image 32 = .ok (.iload_n 1, 1) := by decide +kernel
theorem dX12_image_33 : decode cX12_image 33 = .ok (.imul, 1) := by decide +kernel
theorem dX12_image_34 : decode cX12_image 34 = .ok (.iload_n 2, 1) := by decide +kernel
theorem dX12_image_35 : decode cX12_image 35 = .ok (.iadd, 1) := by decide +kernel
theorem dX12_image_36 : decode cX12_image 36 = .ok (.aload_n 0, 1) := by decide +kernel
theorem dX12_image_37 : decode cX12_image 37 = .ok (.getfield 91, 3) := by decide +kernel
theorem dX12_image_40 : decode cX12_image 40 = .ok (.iload_n 2, 1) := by decide +kernel
theorem dX12_image_41 : decode cX12_image 41 = .ok (.iaload, 1) := by decide +kernel
theorem dX12_image_42 : decode cX12_image 42 = .ok (.iastore, 1) := by decide +kernel
theorem dX12_image_43 : decode cX12_image 43 = .ok (.iinc 2 1, 3) := by decide +kernel
theorem dX12_image_46 : decode cX12_image 46 = .ok (.goto (-28), 3) := by decide +kernel
theorem dX12_image_49 : decode cX12_image 49 = .ok (.aload_n 0, 1) := by decide +kernel
theorem dX12_image_50 : decode cX12_image 50 = .ok (.getfield 91, 3) := by decide +kernel
theorem dX12_image_53 : decode cX12_image 53 = .ok (.sipush 168, 3) := by decide +kernel
theorem dX12_image_56 : decode cX12_image 56 = .ok (.iaload, 1) := by decide +kernel
theorem dX12_image_57 : decode cX12_image 57 = .ok (.ireturn, 1) := by decide +kernel
theorem dX12_restore_0 : decode cX12_restore 0 = .ok (.iload_n 1, 1) := by decide +kernel
theorem dX12_restore_1 : decode cX12_restore 1 = .ok (.invokestatic 521, 3) := by decide +kernel
theorem dX12_restore_4 : decode cX12_restore 4 = .ok (.ifCond .eq 12, 3) := by decide +kernel
theorem dX12_restore_7 : decode cX12_restore 7 = .ok (.aload_n 0, 1) := by decide +kernel
theorem dX12_restore_8 : decode cX12_restore 8 = .ok (.getfield 133, 3) := by decide +kernel
theorem dX12_restore_11 : decode cX12_restore 11 = .ok (.iload_n 1, 1) := by decide +kernel
theorem dX12_restore_12 : decode cX12_restore 12 = .ok (.baload, 1) := by decide +kernel
theorem dX12_restore_13 : decode cX12_restore 13 = .ok (.ifCond .ne 5, 3) := by decide +kernel
theorem dX12_restore_16 : decode cX12_restore 16 = .ok (.iconst (-1), 1) := by decide +kernel
theorem dX12_restore_17 : decode cX12_restore 17 = .ok (.ireturn, 1) := by decide +kernel
theorem dX12_restore_18 : decode cX12_restore 18 = .ok (.iconst 0, 1) := by decide +kernel
theorem dX12_restore_19 : decode cX12_restore 19 = .ok (.istore_n 2, 1) := by decide +kernel
theorem dX12_restore_20 : decode cX12_restore 20 = .ok (.iload_n 2, 1) := by decide +kernel
theorem dX12_restore_21 : decode cX12_restore 21 = .ok (.sipush 171, 3) := by decide +kernel
theorem dX12_restore_24 : decode cX12_restore 24 = .ok (.if_icmp .ge 27, 3) := by decide +kernel
theorem dX12_restore_27 : decode cX12_restore 27 = .ok (.aload_n 0, 1) := by decide +kernel
theorem dX12_restore_28 : decode cX12_restore 28 = .ok (.getfield 91, 3) := by decide +kernel
theorem dX12_restore_31 : decode cX12_restore 31 = .ok (.iload_n 2, 1) := by decide +kernel
theorem dX12_restore_32 : decode cX12_restore 32 = .ok (.aload_n 0, 1) := by decide +kernel
theorem dX12_restore_33 : decode cX12_restore 33 = .ok (.getfield 136, 3) := by decide +kernel
theorem dX12_restore_36 : decode cX12_restore 36 = .ok (.sipush 171, 3) := by decide +kernel
theorem dX12_restore_39 : decode cX12_restore 39 = .ok (.iload_n 1, 1) := by decide +kernel
theorem dX12_restore_40 : decode cX12_restore 40 = .ok (.imul, 1) := by decide +kernel
theorem dX12_restore_41 : decode cX12_restore 41 = .ok (.iload_n 2, 1) := by decide +kernel
theorem dX12_restore_42 : decode cX12_restore 42 = .ok (.iadd, 1) := by decide +kernel
theorem dX12_restore_43 : decode cX12_restore 43 = .ok (.iaload, 1) := by decide +kernel
theorem dX12_restore_44 : decode cX12_restore 44 = .ok (.iastore, 1) := by decide +kernel
theorem dX12_restore_45 : decode cX12_restore 45 = .ok (.iinc 2 1, 3) := by decide +kernel
theorem dX12_restore_48 : decode cX12_restore 48 = .ok (.goto (-28), 3) := by decide +kernel
theorem dX12_restore_51 : decode cX12_restore 51 = .ok (.aload_n 0, 1) := by decide +kernel
theorem dX12_restore_52 : decode cX12_restore 52 = .ok (.iconst 0, 1) := by decide +kernel
theorem dX12_restore_53 : decode cX12_restore 53 = .ok (.putfield 359, 3) := by decide +kernel
theorem dX12_restore_56 : decode cX12_restore 56 = .ok (.aload_n 0, 1) := by decide +kernel
theorem dX12_restore_57 : decode cX12_restore 57 = .ok (.iconst 0, 1) := by decide +kernel
theorem dX12_restore_58 : decode cX12_restore 58 = .ok (.putfield 362, 3) := by decide +kernel
theorem dX12_restore_61 : decode cX12_restore 61 = .ok (.aload_n 0, 1) := by decide +kernel
theorem dX12_restore_62 : decode cX12_restore 62 = .ok (.getfield 91, 3) := by decide +kernel
theorem dX12_restore_65 : decode cX12_restore 65 = .ok (.sipush 168, 3) := by decide +kernel
theorem dX12_restore_68 : decode cX12_restore 68 = .ok (.iaload, 1) := by decide +kernel
theorem dX12_restore_69 : decode cX12_restore 69 = .ok (.ireturn, 1) := by decide +kernel
theorem dX12_brokenOnes_0 : decode cX12_brokenOnes 0 = .ok (.iconst 0, 1) := by decide +kernel
theorem dX12_brokenOnes_1 : decode cX12_brokenOnes 1 = .ok (.istore_n 1, 1) := by decide +kernel
theorem dX12_brokenOnes_2 : decode cX12_brokenOnes 2 = .ok (.iconst 0, 1) := by decide +kernel
theorem dX12_brokenOnes_3 : decode cX12_brokenOnes 3 = .ok (.istore_n 2, 1) := by decide +kernel
theorem dX12_brokenOnes_4 : decode cX12_brokenOnes 4 = .ok (.iload_n 2, 1) := by decide +kernel
theorem dX12_brokenOnes_5 : decode cX12_brokenOnes 5 = .ok (.aload_n 0, 1) := by decide +kernel
theorem dX12_brokenOnes_6 : decode cX12_brokenOnes 6 = .ok (.getfield 91, 3) := by decide +kernel
theorem dX12_brokenOnes_9 : decode cX12_brokenOnes 9 = .ok (.sipush 168, 3) := by decide +kernel
theorem dX12_brokenOnes_12 : decode cX12_brokenOnes 12 = .ok (.iaload, 1) := by decide +kernel
theorem dX12_brokenOnes_13 : decode cX12_brokenOnes 13 = .ok (.if_icmp .ge 25, 3) := by decide +kernel
theorem dX12_brokenOnes_16 : decode cX12_brokenOnes 16 = .ok (.iload_n 1, 1) := by decide +kernel
theorem dX12_brokenOnes_17 : decode cX12_brokenOnes 17 = .ok (.aload_n 0, 1) := by decide +kernel
theorem dX12_brokenOnes_18 : decode cX12_brokenOnes 18 = .ok (.getfield 91, 3) := by decide +kernel
theorem dX12_brokenOnes_21 : decode cX12_brokenOnes 21 = .ok (.bipush 7, 2) := by decide +kernel
theorem dX12_brokenOnes_23 : decode cX12_brokenOnes 23 = .ok (.iload_n 2, 1) := by decide +kernel
theorem dX12_brokenOnes_24 : decode cX12_brokenOnes 24 = .ok (.imul, 1) := by decide +kernel
theorem dX12_brokenOnes_25 : decode cX12_brokenOnes 25 = .ok (.iconst 5, 1) := by decide +kernel
theorem dX12_brokenOnes_26 : decode cX12_brokenOnes 26 = .ok (.iadd, 1) := by decide +kernel
theorem dX12_brokenOnes_27 : decode cX12_brokenOnes 27 = .ok (.iaload, 1) := by decide +kernel
theorem dX12_brokenOnes_28 : decode cX12_brokenOnes 28 = .ok (.iload_n 2, 1) := by decide +kernel
theorem dX12_brokenOnes_29 : decode cX12_brokenOnes 29 = .ok (.ishl, 1) := by decide +kernel
theorem dX12_brokenOnes_30 : decode cX12_brokenOnes 30 = .ok (.ior, 1) := by decide +kernel
theorem dX12_brokenOnes_31 : decode cX12_brokenOnes 31 = .ok (.istore_n 1, 1) := by decide +kernel
theorem dX12_brokenOnes_32 : decode cX12_brokenOnes 32 = .ok (.iinc 2 1, 3) := by decide +kernel
theorem dX12_brokenOnes_35 : decode cX12_brokenOnes 35 = .ok (.goto (-31), 3) := by decide +kernel
theorem dX12_brokenOnes_38 : decode cX12_brokenOnes 38 = .ok (.iload_n 1, 1) := by decide +kernel
theorem dX12_brokenOnes_39 : decode cX12_brokenOnes 39 = .ok (.ireturn, 1) := by decide +kernel
theorem dX12_about_0 : decode cX12_about 0 = .ok (.iload_n 1, 1) := by decide +kernel
theorem dX12_about_1 : decode cX12_about 1 = .ok (.tableswitch 144 0 12 #[67, 72, 77, 86, 95, 104, 109, 114, 119, 124, 129, 134, 139], 67) := by decide +kernel
theorem dX12_about_68 : decode cX12_about 68 = .ok (.aload_n 0, 1) := by decide +kernel
theorem dX12_about_69 : decode cX12_about 69 = .ok (.getfield 350, 3) := by decide +kernel
theorem dX12_about_72 : decode cX12_about 72 = .ok (.ireturn, 1) := by decide +kernel
theorem dX12_about_73 : decode cX12_about 73 = .ok (.aload_n 0, 1) := by decide +kernel
theorem dX12_about_74 : decode cX12_about 74 = .ok (.getfield 353, 3) := by decide +kernel
theorem dX12_about_77 : decode cX12_about 77 = .ok (.ireturn, 1) := by decide +kernel
theorem dX12_about_78 : decode cX12_about 78 = .ok (.aload_n 0, 1) := by decide +kernel
theorem dX12_about_79 : decode cX12_about 79 = .ok (.getfield 91, 3) := by decide +kernel
theorem dX12_about_82 : decode cX12_about 82 = .ok (.sipush 168, 3) := by decide +kernel
theorem dX12_about_85 : decode cX12_about 85 = .ok (.iaload, 1) := by decide +kernel
theorem dX12_about_86 : decode cX12_about 86 = .ok (.ireturn, 1) := by decide +kernel
theorem dX12_about_87 : decode cX12_about 87 = .ok (.aload_n 0, 1) := by decide +kernel
theorem dX12_about_88 : decode cX12_about 88 = .ok (.getfield 91, 3) := by decide +kernel
theorem dX12_about_91 : decode cX12_about 91 = .ok (.sipush 169, 3) := by decide +kernel
theorem dX12_about_94 : decode cX12_about 94 = .ok (.iaload, 1) := by decide +kernel
theorem dX12_about_95 : decode cX12_about 95 = .ok (.ireturn, 1) := by decide +kernel
theorem dX12_about_96 : decode cX12_about 96 = .ok (.aload_n 0, 1) := by decide +kernel
theorem dX12_about_97 : decode cX12_about 97 = .ok (.getfield 91, 3) := by decide +kernel
theorem dX12_about_100 : decode cX12_about 100 = .ok (.sipush 170, 3) := by decide +kernel
theorem dX12_about_103 : decode cX12_about 103 = .ok (.iaload, 1) := by decide +kernel
theorem dX12_about_104 : decode cX12_about 104 = .ok (.ireturn, 1) := by decide +kernel
theorem dX12_about_105 : decode cX12_about 105 = .ok (.aload_n 0, 1) := by decide +kernel
theorem dX12_about_106 : decode cX12_about 106 = .ok (.invokevirtual 524, 3) := by decide +kernel
theorem dX12_about_109 : decode cX12_about 109 = .ok (.ireturn, 1) := by decide +kernel
theorem dX12_about_110 : decode cX12_about 110 = .ok (.aload_n 0, 1) := by decide +kernel
theorem dX12_about_111 : decode cX12_about 111 = .ok (.getfield 359, 3) := by decide +kernel
theorem dX12_about_114 : decode cX12_about 114 = .ok (.ireturn, 1) := by decide +kernel
theorem dX12_about_115 : decode cX12_about 115 = .ok (.aload_n 0, 1) := by decide +kernel
theorem dX12_about_116 : decode cX12_about 116 = .ok (.getfield 362, 3) := by decide +kernel
theorem dX12_about_119 : decode cX12_about 119 = .ok (.ireturn, 1) := by decide +kernel
theorem dX12_about_120 : decode cX12_about 120 = .ok (.aload_n 0, 1) := by decide +kernel
theorem dX12_about_121 : decode cX12_about 121 = .ok (.getfield 365, 3) := by decide +kernel
theorem dX12_about_124 : decode cX12_about 124 = .ok (.ireturn, 1) := by decide +kernel
theorem dX12_about_125 : decode cX12_about 125 = .ok (.aload_n 0, 1) := by decide +kernel
theorem dX12_about_126 : decode cX12_about 126 = .ok (.getfield 498, 3) := by decide +kernel
theorem dX12_about_129 : decode cX12_about 129 = .ok (.ireturn, 1) := by decide +kernel
theorem dX12_about_130 : decode cX12_about 130 = .ok (.aload_n 0, 1) := by decide +kernel
theorem dX12_about_131 : decode cX12_about 131 = .ok (.getfield 139, 3) := by decide +kernel
theorem dX12_about_134 : decode cX12_about 134 = .ok (.ireturn, 1) := by decide +kernel
theorem dX12_about_135 : decode cX12_about 135 = .ok (.aload_n 0, 1) := by decide +kernel
theorem dX12_about_136 : decode cX12_about 136 = .ok (.getfield 356, 3) := by decide +kernel
theorem dX12_about_139 : decode cX12_about 139 = .ok (.ireturn, 1) := by decide +kernel
theorem dX12_about_140 : decode cX12_about 140 = .ok (.aload_n 0, 1) := by decide +kernel
theorem dX12_about_141 : decode cX12_about 141 = .ok (.getfield 368, 3) := by decide +kernel
theorem dX12_about_144 : decode cX12_about 144 = .ok (.ireturn, 1) := by decide +kernel
theorem dX12_about_145 : decode cX12_about 145 = .ok (.iconst (-1), 1) := by decide +kernel
theorem dX12_about_146 : decode cX12_about 146 = .ok (.ireturn, 1) := by decide +kernel
theorem dL_law_0 : decode cL_law 0 = .ok (.new 7, 3) := by decide +kernel
theorem dL_law_3 : decode cL_law 3 = .ok (.dup, 1) := by decide +kernel
theorem dL_law_4 : decode cL_law 4 = .ok (.invokespecial 9, 3) := by decide +kernel
theorem dL_law_7 : decode cL_law 7 = .ok (.astore_n 1, 1) := by decide +kernel
theorem dL_law_8 : decode cL_law 8 = .ok (.new 10, 3) := by decide +kernel
theorem dL_law_11 : decode cL_law 11 = .ok (.dup, 1) := by decide +kernel
theorem dL_law_12 : decode cL_law 12 = .ok (.invokespecial 12, 3) := by decide +kernel
theorem dL_law_15 : decode cL_law 15 = .ok (.astore_n 2, 1) := by decide +kernel
theorem dL_law_16 : decode cL_law 16 = .ok (.iconst 0, 1) := by decide +kernel
theorem dL_law_17 : decode cL_law 17 = .ok (.istore_n 3, 1) := by decide +kernel
theorem dL_law_18 : decode cL_law 18 = .ok (.iload_n 3, 1) := by decide +kernel
theorem dL_law_19 : decode cL_law 19 = .ok (.aload_n 0, 1) := by decide +kernel
theorem dL_law_20 : decode cL_law 20 = .ok (.arraylength, 1) := by decide +kernel
theorem dL_law_21 : decode cL_law 21 = .ok (.bipush 6, 2) := by decide +kernel
theorem dL_law_23 : decode cL_law 23 = .ok (.isub, 1) := by decide +kernel
theorem dL_law_24 : decode cL_law 24 = .ok (.if_icmp .gt 1504, 3) := by decide +kernel
theorem dL_law_27 : decode cL_law 27 = .ok (.aload_n 0, 1) := by decide +kernel
theorem dL_law_28 : decode cL_law 28 = .ok (.iload_n 3, 1) := by decide +kernel
theorem dL_law_29 : decode cL_law 29 = .ok (.iaload, 1) := by decide +kernel
theorem dL_law_30 : decode cL_law 30 = .ok (.bipush 63, 2) := by decide +kernel
theorem dL_law_32 : decode cL_law 32 = .ok (.iand, 1) := by decide +kernel
theorem dL_law_33 : decode cL_law 33 = .ok (.tableswitch 1489 0 45 #[199, 262, 285, 298, 321, 354, 387, 420, 463, 506, 539, 562, 595, 608, 621, 644, 657, 680, 703, 716, 739, 792, 835, 848, 861, 904, 937, 970, 993, 1016, 1059, 1072, 1095, 1108, 1131, 1164, 1187, 1236, 1285, 1308, 1331, 1354, 1387, 1420, 1443, 1466], 199) := by decide +kernel
theorem dL_law_232 : decode cL_law 232 = .ok (.aload_n 1, 1) := by decide +kernel
theorem dL_law_233 : decode cL_law 233 = .ok (.aload_n 0, 1) := by decide +kernel
theorem dL_law_234 : decode cL_law 234 = .ok (.iload_n 3, 1) := by decide +kernel
theorem dL_law_235 : decode cL_law 235 = .ok (.iconst 1, 1) := by decide +kernel
theorem dL_law_236 : decode cL_law 236 = .ok (.iadd, 1) := by decide +kernel
theorem dL_law_237 : decode cL_law 237 = .ok (.iaload, 1) := by decide +kernel
theorem dL_law_238 : decode cL_law 238 = .ok (.aload_n 0, 1) := by decide +kernel
theorem dL_law_239 : decode cL_law 239 = .ok (.iload_n 3, 1) := by decide +kernel
theorem dL_law_240 : decode cL_law 240 = .ok (.iconst 2, 1) := by decide +kernel
theorem dL_law_241 : decode cL_law 241 = .ok (.iadd, 1) := by decide +kernel
theorem dL_law_242 : decode cL_law 242 = .ok (.iaload, 1) := by decide +kernel
theorem dL_law_243 : decode cL_law 243 = .ok (.aload_n 0, 1) := by decide +kernel
theorem dL_law_244 : decode cL_law 244 = .ok (.iload_n 3, 1) := by decide +kernel
theorem dL_law_245 : decode cL_law 245 = .ok (.iconst 3, 1) := by decide +kernel
theorem dL_law_246 : decode cL_law 246 = .ok (.iadd, 1) := by decide +kernel
theorem dL_law_247 : decode cL_law 247 = .ok (.iaload, 1) := by decide +kernel
theorem dL_law_248 : decode cL_law 248 = .ok (.aload_n 0, 1) := by decide +kernel
theorem dL_law_249 : decode cL_law 249 = .ok (.iload_n 3, 1) := by decide +kernel
theorem dL_law_250 : decode cL_law 250 = .ok (.iconst 4, 1) := by decide +kernel
theorem dL_law_251 : decode cL_law 251 = .ok (.iadd, 1) := by decide +kernel
theorem dL_law_252 : decode cL_law 252 = .ok (.iaload, 1) := by decide +kernel
theorem dL_law_253 : decode cL_law 253 = .ok (.aload_n 0, 1) := by decide +kernel
theorem dL_law_254 : decode cL_law 254 = .ok (.iload_n 3, 1) := by decide +kernel
theorem dL_law_255 : decode cL_law 255 = .ok (.iconst 5, 1) := by decide +kernel
theorem dL_law_256 : decode cL_law 256 = .ok (.iadd, 1) := by decide +kernel
theorem dL_law_257 : decode cL_law 257 = .ok (.iaload, 1) := by decide +kernel
theorem dL_law_258 : decode cL_law 258 = .ok (.invokevirtual 13, 3) := by decide +kernel
theorem dL_law_261 : decode cL_law 261 = .ok (.aload_n 2, 1) := by decide +kernel
theorem dL_law_262 : decode cL_law 262 = .ok (.aload_n 0, 1) := by decide +kernel
theorem dL_law_263 : decode cL_law 263 = .ok (.iload_n 3, 1) := by decide +kernel
theorem dL_law_264 : decode cL_law 264 = .ok (.iconst 1, 1) := by decide +kernel
theorem dL_law_265 : decode cL_law 265 = .ok (.iadd, 1) := by decide +kernel
theorem dL_law_266 : decode cL_law 266 = .ok (.iaload, 1) := by decide +kernel
theorem dL_law_267 : decode cL_law 267 = .ok (.aload_n 0, 1) := by decide +kernel
theorem dL_law_268 : decode cL_law 268 = .ok (.iload_n 3, 1) := by decide +kernel
theorem dL_law_269 : decode cL_law 269 = .ok (.iconst 2, 1) := by decide +kernel
theorem dL_law_270 : decode cL_law 270 = .ok (.iadd, 1) := by decide +kernel
theorem dL_law_271 : decode cL_law 271 = .ok (.iaload, 1) := by decide +kernel
theorem dL_law_272 : decode cL_law 272 = .ok (.aload_n 0, 1) := by decide +kernel
theorem dL_law_273 : decode cL_law 273 = .ok (.iload_n 3, 1) := by decide +kernel
theorem dL_law_274 : decode cL_law 274 = .ok (.iconst 3, 1) := by decide +kernel
theorem dL_law_275 : decode cL_law 275 = .ok (.iadd, 1) := by decide +kernel
theorem dL_law_276 : decode cL_law 276 = .ok (.iaload, 1) := by decide +kernel
theorem dL_law_277 : decode cL_law 277 = .ok (.aload_n 0, 1) := by decide +kernel
theorem dL_law_278 : decode cL_law 278 = .ok (.iload_n 3, 1) := by decide +kernel
theorem dL_law_279 : decode cL_law 279 = .ok (.iconst 4, 1) := by decide +kernel
theorem dL_law_280 : decode cL_law 280 = .ok (.iadd, 1) := by decide +kernel
theorem dL_law_281 : decode cL_law 281 = .ok (.iaload, 1) := by decide +kernel
theorem dL_law_282 : decode cL_law 282 = .ok (.aload_n 0, 1) := by decide +kernel
theorem dL_law_283 : decode cL_law 283 = .ok (.iload_n 3, 1) := by decide +kernel
theorem dL_law_284 : decode cL_law 284 = .ok (.iconst 5, 1) := by decide +kernel
theorem dL_law_285 : decode cL_law 285 = .ok (.iadd, 1) := by decide +kernel
theorem dL_law_286 : decode cL_law 286 = .ok (.iaload, 1) := by decide +kernel
theorem dL_law_287 : decode cL_law 287 = .ok (.invokevirtual 17, 3) := by decide +kernel
theorem dL_law_290 : decode cL_law 290 = .ok (.if_icmp .eq 1232, 3) := by decide +kernel
theorem dL_law_293 : decode cL_law 293 = .ok (.iconst 0, 1) := by decide +kernel
theorem dL_law_294 : decode cL_law 294 = .ok (.ireturn, 1) := by decide +kernel
theorem dL_law_295 : decode cL_law 295 = .ok (.aload_n 1, 1) := by decide +kernel
theorem dL_law_296 : decode cL_law 296 = .ok (.aload_n 0, 1) := by decide +kernel
theorem dL_law_297 : decode cL_law 297 = .ok (.iload_n 3, 1) := by decide +kernel
theorem dL_law_298 : decode cL_law 298 = .ok (.iconst 1, 1) := by decide +kernel
theorem dL_law_299 : decode cL_law 299 = .ok (.iadd, 1) := by decide +kernel
theorem dL_law_300 : decode cL_law 300 = .ok (.iaload, 1) := by decide +kernel
theorem dL_law_301 : decode cL_law 301 = .ok (.invokevirtual 18, 3) := by decide +kernel
theorem dL_law_304 : decode cL_law 304 = .ok (.aload_n 2, 1) := by decide +kernel
theorem dL_law_305 : decode cL_law 305 = .ok (.aload_n 0, 1) := by decide +kernel
theorem dL_law_306 : decode cL_law 306 = .ok (.iload_n 3, 1) := by decide +kernel
theorem dL_law_307 : decode cL_law 307 = .ok (.iconst 1, 1) := by decide +kernel
theorem dL_law_308 : decode cL_law 308 = .ok (.iadd, 1) := by decide +kernel
theorem dL_law_309 : decode cL_law 309 = .ok (.iaload, 1) := by decide +kernel
theorem dL_law_310 : decode cL_law 310 = .ok (.invokevirtual 22, 3) := by decide +kernel
theorem dL_law_313 : decode cL_law 313 = .ok (.if_icmp .eq 1209, 3) := by decide +kernel
theorem dL_law_316 : decode cL_law 316 = .ok (.iconst 0, 1) := by decide +kernel
theorem dL_law_317 : decode cL_law 317 = .ok (.ireturn, 1) := by decide +kernel
theorem dL_law_318 : decode cL_law 318 = .ok (.aload_n 1, 1) := by decide +kernel
theorem dL_law_319 : decode cL_law 319 = .ok (.invokevirtual 23, 3) := by decide +kernel
theorem dL_law_322 : decode cL_law 322 = .ok (.aload_n 2, 1) := by decide +kernel
theorem dL_law_323 : decode cL_law 323 = .ok (.invokevirtual 27, 3) := by decide +kernel
theorem dL_law_326 : decode cL_law 326 = .ok (.if_icmp .eq 1196, 3) := by decide +kernel
theorem dL_law_329 : decode cL_law 329 = .ok (.iconst 0, 1) := by decide +kernel
theorem dL_law_330 : decode cL_law 330 = .ok (.ireturn, 1) := by decide +kernel
theorem dL_law_331 : decode cL_law 331 = .ok (.aload_n 1, 1) := by decide +kernel
theorem dL_law_332 : decode cL_law 332 = .ok (.aload_n 0, 1) := by decide +kernel
theorem dL_law_333 : decode cL_law 333 = .ok (.iload_n 3, 1) := by decide +kernel
theorem dL_law_334 : decode cL_law 334 = .ok (.iconst 1, 1) := by decide +kernel
theorem dL_law_335 : decode cL_law 335 = .ok (.iadd, 1) := by decide +kernel
theorem dL_law_336 : decode cL_law 336 = .ok (.iaload, 1) := by decide +kernel
theorem dL_law_337 : decode cL_law 337 = .ok (.invokevirtual 28, 3) := by decide +kernel
theorem dL_law_340 : decode cL_law 340 = .ok (.aload_n 2, 1) := by decide +kernel
theorem dL_law_341 : decode cL_law 341 = .ok (.aload_n 0, 1) := by decide +kernel
theorem dL_law_342 : decode cL_law 342 = .ok (.iload_n 3, 1) := by decide +kernel
theorem dL_law_343 : decode cL_law 343 = .ok (.iconst 1, 1) := by decide +kernel
theorem dL_law_344 : decode cL_law 344 = .ok (.iadd, 1) := by decide +kernel
theorem dL_law_345 : decode cL_law 345 = .ok (.iaload, 1) := by decide +kernel
theorem dL_law_346 : decode cL_law 346 = .ok (.invokevirtual 31, 3) := by decide +kernel
theorem dL_law_349 : decode cL_law 349 = .ok (.if_icmp .eq 1173, 3) := by decide +kernel
theorem dL_law_352 : decode cL_law 352 = .ok (.iconst 0, 1) := by decide +kernel
theorem dL_law_353 : decode cL_law 353 = .ok (.ireturn, 1) := by decide +kernel
theorem dL_law_354 : decode cL_law 354 = .ok (.aload_n 1, 1) := by decide +kernel
theorem dL_law_355 : decode cL_law 355 = .ok (.aload_n 0, 1) := by decide +kernel
theorem dL_law_356 : decode cL_law 356 = .ok (.iload_n 3, 1) := by decide +kernel
theorem dL_law_357 : decode cL_law 357 = .ok (.iconst 1, 1) := by decide +kernel
theorem dL_law_358 : decode cL_law 358 = .ok (.iadd, 1) := by decide +kernel
theorem dL_law_359 : decode cL_law 359 = .ok (.iaload, 1) := by decide +kernel
theorem dL_law_360 : decode cL_law 360 = .ok (.aload_n 0, 1) := by decide +kernel
theorem dL_law_361 : decode cL_law 361 = .ok (.iload_n 3, 1) := by decide +kernel
theorem dL_law_362 : decode cL_law 362 = .ok (.iconst 2, 1) := by decide +kernel
theorem dL_law_363 : decode cL_law 363 = .ok (.iadd, 1) := by decide +kernel
theorem dL_law_364 : decode cL_law 364 = .ok (.iaload, 1) := by decide +kernel
theorem dL_law_365 : decode cL_law 365 = .ok (.invokevirtual 32, 3) := by decide +kernel
theorem dL_law_368 : decode cL_law 368 = .ok (.aload_n 2, 1) := by decide +kernel
theorem dL_law_369 : decode cL_law 369 = .ok (.aload_n 0, 1) := by decide +kernel
theorem dL_law_370 : decode cL_law 370 = .ok (.iload_n 3, 1) := by decide +kernel
theorem dL_law_371 : decode cL_law 371 = .ok (.iconst 1, 1) := by decide +kernel
theorem dL_law_372 : decode cL_law 372 = .ok (.iadd, 1) := by decide +kernel
theorem dL_law_373 : decode cL_law 373 = .ok (.iaload, 1) := by decide +kernel
theorem dL_law_374 : decode cL_law 374 = .ok (.aload_n 0, 1) := by decide +kernel
theorem dL_law_375 : decode cL_law 375 = .ok (.iload_n 3, 1) := by decide +kernel
theorem dL_law_376 : decode cL_law 376 = .ok (.iconst 2, 1) := by decide +kernel
theorem dL_law_377 : decode cL_law 377 = .ok (.iadd, 1) := by decide +kernel
theorem dL_law_378 : decode cL_law 378 = .ok (.iaload, 1) := by decide +kernel
theorem dL_law_379 : decode cL_law 379 = .ok (.invokevirtual 36, 3) := by decide +kernel
theorem dL_law_382 : decode cL_law 382 = .ok (.if_icmp .eq 1140, 3) := by decide +kernel
theorem dL_law_385 : decode cL_law 385 = .ok (.iconst 0, 1) := by decide +kernel
theorem dL_law_386 : decode cL_law 386 = .ok (.ireturn, 1) := by decide +kernel
theorem dL_law_387 : decode cL_law 387 = .ok (.aload_n 1, 1) := by decide +kernel
theorem dL_law_388 : decode cL_law 388 = .ok (.aload_n 0, 1) := by decide +kernel
theorem dL_law_389 : decode cL_law 389 = .ok (.iload_n 3, 1) := by decide +kernel
theorem dL_law_390 : decode cL_law 390 = .ok (.iconst 1, 1) := by decide +kernel
theorem dL_law_391 : decode cL_law 391 = .ok (.iadd, 1) := by decide +kernel
theorem dL_law_392 : decode cL_law 392 = .ok (.iaload, 1) := by decide +kernel
theorem dL_law_393 : decode cL_law 393 = .ok (.aload_n 0, 1) := by decide +kernel
theorem dL_law_394 : decode cL_law 394 = .ok (.iload_n 3, 1) := by decide +kernel
theorem dL_law_395 : decode cL_law 395 = .ok (.iconst 2, 1) := by decide +kernel
theorem dL_law_396 : decode cL_law 396 = .ok (.iadd, 1) := by decide +kernel
theorem dL_law_397 : decode cL_law 397 = .ok (.iaload, 1) := by decide +kernel
theorem dL_law_398 : decode cL_law 398 = .ok (.invokevirtual 37, 3) := by decide +kernel
theorem dL_law_401 : decode cL_law 401 = .ok (.aload_n 2, 1) := by decide +kernel
theorem dL_law_402 : decode cL_law 402 = .ok (.aload_n 0, 1) := by decide +kernel
theorem dL_law_403 : decode cL_law 403 = .ok (.iload_n 3, 1) := by decide +kernel
theorem dL_law_404 : decode cL_law 404 = .ok (.iconst 1, 1) := by decide +kernel
theorem dL_law_405 : decode cL_law 405 = .ok (.iadd, 1) := by decide +kernel
theorem dL_law_406 : decode cL_law 406 = .ok (.iaload, 1) := by decide +kernel
theorem dL_law_407 : decode cL_law 407 = .ok (.aload_n 0, 1) := by decide +kernel
theorem dL_law_408 : decode cL_law 408 = .ok (.iload_n 3, 1) := by decide +kernel
theorem dL_law_409 : decode cL_law 409 = .ok (.iconst 2, 1) := by decide +kernel
theorem dL_law_410 : decode cL_law 410 = .ok (.iadd, 1) := by decide +kernel
theorem dL_law_411 : decode cL_law 411 = .ok (.iaload, 1) := by decide +kernel
theorem dL_law_412 : decode cL_law 412 = .ok (.invokevirtual 40, 3) := by decide +kernel
theorem dL_law_415 : decode cL_law 415 = .ok (.if_icmp .eq 1107, 3) := by decide +kernel
theorem dL_law_418 : decode cL_law 418 = .ok (.iconst 0, 1) := by decide +kernel
theorem dL_law_419 : decode cL_law 419 = .ok (.ireturn, 1) := by decide +kernel
theorem dL_law_420 : decode cL_law 420 = .ok (.aload_n 1, 1) := by decide +kernel
theorem dL_law_421 : decode cL_law 421 = .ok (.aload_n 0, 1) := by decide +kernel
theorem dL_law_422 : decode cL_law 422 = .ok (.iload_n 3, 1) := by decide +kernel
theorem dL_law_423 : decode cL_law 423 = .ok (.iconst 1, 1) := by decide +kernel
theorem dL_law_424 : decode cL_law 424 = .ok (.iadd, 1) := by decide +kernel
theorem dL_law_425 : decode cL_law 425 = .ok (.iaload, 1) := by decide +kernel
theorem dL_law_426 : decode cL_law 426 = .ok (.aload_n 0, 1) := by decide +kernel
theorem dL_law_427 : decode cL_law 427 = .ok (.iload_n 3, 1) := by decide +kernel
theorem dL_law_428 : decode cL_law 428 = .ok (.iconst 2, 1) := by decide +kernel
theorem dL_law_429 : decode cL_law 429 = .ok (.iadd, 1) := by decide +kernel
theorem dL_law_430 : decode cL_law 430 = .ok (.iaload, 1) := by decide +kernel
theorem dL_law_431 : decode cL_law 431 = .ok (.invokevirtual 41, 3) := by decide +kernel
theorem dL_law_434 : decode cL_law 434 = .ok (.aload_n 2, 1) := by decide +kernel
theorem dL_law_435 : decode cL_law 435 = .ok (.aload_n 0, 1) := by decide +kernel
theorem dL_law_436 : decode cL_law 436 = .ok (.iload_n 3, 1) := by decide +kernel
theorem dL_law_437 : decode cL_law 437 = .ok (.iconst 1, 1) := by decide +kernel
theorem dL_law_438 : decode cL_law 438 = .ok (.iadd, 1) := by decide +kernel
theorem dL_law_439 : decode cL_law 439 = .ok (.iaload, 1) := by decide +kernel
theorem dL_law_440 : decode cL_law 440 = .ok (.aload_n 0, 1) := by decide +kernel
theorem dL_law_441 : decode cL_law 441 = .ok (.iload_n 3, 1) := by decide +kernel
theorem dL_law_442 : decode cL_law 442 = .ok (.iconst 2, 1) := by decide +kernel
theorem dL_law_443 : decode cL_law 443 = .ok (.iadd, 1) := by decide +kernel
theorem dL_law_444 : decode cL_law 444 = .ok (.iaload, 1) := by decide +kernel
theorem dL_law_445 : decode cL_law 445 = .ok (.invokevirtual 44, 3) := by decide +kernel
theorem dL_law_448 : decode cL_law 448 = .ok (.if_icmp .eq 1074, 3) := by decide +kernel
theorem dL_law_451 : decode cL_law 451 = .ok (.iconst 0, 1) := by decide +kernel
theorem dL_law_452 : decode cL_law 452 = .ok (.ireturn, 1) := by decide +kernel
theorem dL_law_453 : decode cL_law 453 = .ok (.aload_n 1, 1) := by decide +kernel
theorem dL_law_454 : decode cL_law 454 = .ok (.aload_n 0, 1) := by decide +kernel
theorem dL_law_455 : decode cL_law 455 = .ok (.iload_n 3, 1) := by decide +kernel
theorem dL_law_456 : decode cL_law 456 = .ok (.iconst 1, 1) := by decide +kernel
theorem dL_law_457 : decode cL_law 457 = .ok (.iadd, 1) := by decide +kernel
theorem dL_law_458 : decode cL_law 458 = .ok (.iaload, 1) := by decide +kernel
theorem dL_law_459 : decode cL_law 459 = .ok (.aload_n 0, 1) := by decide +kernel
theorem dL_law_460 : decode cL_law 460 = .ok (.iload_n 3, 1) := by decide +kernel
theorem dL_law_461 : decode cL_law 461 = .ok (.iconst 2, 1) := by decide +kernel
theorem dL_law_462 : decode cL_law 462 = .ok (.iadd, 1) := by decide +kernel
theorem dL_law_463 : decode cL_law 463 = .ok (.iaload, 1) := by decide +kernel
theorem dL_law_464 : decode cL_law 464 = .ok (.aload_n 0, 1) := by decide +kernel
theorem dL_law_465 : decode cL_law 465 = .ok (.iload_n 3, 1) := by decide +kernel
theorem dL_law_466 : decode cL_law 466 = .ok (.iconst 3, 1) := by decide +kernel
theorem dL_law_467 : decode cL_law 467 = .ok (.iadd, 1) := by decide +kernel
theorem dL_law_468 : decode cL_law 468 = .ok (.iaload, 1) := by decide +kernel
theorem dL_law_469 : decode cL_law 469 = .ok (.invokevirtual 45, 3) := by decide +kernel
theorem dL_law_472 : decode cL_law 472 = .ok (.aload_n 2, 1) := by decide +kernel
theorem dL_law_473 : decode cL_law 473 = .ok (.aload_n 0, 1) := by decide +kernel
theorem dL_law_474 : decode cL_law 474 = .ok (.iload_n 3, 1) := by decide +kernel
theorem dL_law_475 : decode cL_law 475 = .ok (.iconst 1, 1) := by decide +kernel
theorem dL_law_476 : decode cL_law 476 = .ok (.iadd, 1) := by decide +kernel
theorem dL_law_477 : decode cL_law 477 = .ok (.iaload, 1) := by decide +kernel
theorem dL_law_478 : decode cL_law 478 = .ok (.aload_n 0, 1) := by decide +kernel
theorem dL_law_479 : decode cL_law 479 = .ok (.iload_n 3, 1) := by decide +kernel
theorem dL_law_480 : decode cL_law 480 = .ok (.iconst 2, 1) := by decide +kernel
theorem dL_law_481 : decode cL_law 481 = .ok (.iadd, 1) := by decide +kernel
theorem dL_law_482 : decode cL_law 482 = .ok (.iaload, 1) := by decide +kernel
theorem dL_law_483 : decode cL_law 483 = .ok (.aload_n 0, 1) := by decide +kernel
theorem dL_law_484 : decode cL_law 484 = .ok (.iload_n 3, 1) := by decide +kernel
theorem dL_law_485 : decode cL_law 485 = .ok (.iconst 3, 1) := by decide +kernel
theorem dL_law_486 : decode cL_law 486 = .ok (.iadd, 1) := by decide +kernel
theorem dL_law_487 : decode cL_law 487 = .ok (.iaload, 1) := by decide +kernel
theorem dL_law_488 : decode cL_law 488 = .ok (.invokevirtual 49, 3) := by decide +kernel
theorem dL_law_491 : decode cL_law 491 = .ok (.if_icmp .eq 1031, 3) := by decide +kernel
theorem dL_law_494 : decode cL_law 494 = .ok (.iconst 0, 1) := by decide +kernel
theorem dL_law_495 : decode cL_law 495 = .ok (.ireturn, 1) := by decide +kernel
theorem dL_law_496 : decode cL_law 496 = .ok (.aload_n 1, 1) := by decide +kernel
theorem dL_law_497 : decode cL_law 497 = .ok (.aload_n 0, 1) := by decide +kernel
theorem dL_law_498 : decode cL_law 498 = .ok (.iload_n 3, 1) := by decide +kernel
theorem dL_law_499 : decode cL_law 499 = .ok (.iconst 1, 1) := by decide +kernel
theorem dL_law_500 : decode cL_law 500 = .ok (.iadd, 1) := by decide +kernel
theorem dL_law_501 : decode cL_law 501 = .ok (.iaload, 1) := by decide +kernel
theorem dL_law_502 : decode cL_law 502 = .ok (.aload_n 0, 1) := by decide +kernel
theorem dL_law_503 : decode cL_law 503 = .ok (.iload_n 3, 1) := by decide +kernel
theorem dL_law_504 : decode cL_law 504 = .ok (.iconst 2, 1) := by decide +kernel
theorem dL_law_505 : decode cL_law 505 = .ok (.iadd, 1) := by decide +kernel
theorem dL_law_506 : decode cL_law 506 = .ok (.iaload, 1) := by decide +kernel
theorem dL_law_507 : decode cL_law 507 = .ok (.aload_n 0, 1) := by decide +kernel
theorem dL_law_508 : decode cL_law 508 = .ok (.iload_n 3, 1) := by decide +kernel
theorem dL_law_509 : decode cL_law 509 = .ok (.iconst 3, 1) := by decide +kernel
theorem dL_law_510 : decode cL_law 510 = .ok (.iadd, 1) := by decide +kernel
theorem dL_law_511 : decode cL_law 511 = .ok (.iaload, 1) := by decide +kernel
theorem dL_law_512 : decode cL_law 512 = .ok (.invokevirtual 50, 3) := by decide +kernel
theorem dL_law_515 : decode cL_law 515 = .ok (.aload_n 2, 1) := by decide +kernel
theorem dL_law_516 : decode cL_law 516 = .ok (.aload_n 0, 1) := by decide +kernel
theorem dL_law_517 : decode cL_law 517 = .ok (.iload_n 3, 1) := by decide +kernel
theorem dL_law_518 : decode cL_law 518 = .ok (.iconst 1, 1) := by decide +kernel
theorem dL_law_519 : decode cL_law 519 = .ok (.iadd, 1) := by decide +kernel
theorem dL_law_520 : decode cL_law 520 = .ok (.iaload, 1) := by decide +kernel
theorem dL_law_521 : decode cL_law 521 = .ok (.aload_n 0, 1) := by decide +kernel
theorem dL_law_522 : decode cL_law 522 = .ok (.iload_n 3, 1) := by decide +kernel
theorem dL_law_523 : decode cL_law 523 = .ok (.iconst 2, 1) := by decide +kernel
theorem dL_law_524 : decode cL_law 524 = .ok (.iadd, 1) := by decide +kernel
theorem dL_law_525 : decode cL_law 525 = .ok (.iaload, 1) := by decide +kernel
theorem dL_law_526 : decode cL_law 526 = .ok (.aload_n 0, 1) := by decide +kernel
theorem dL_law_527 : decode cL_law 527 = .ok (.iload_n 3, 1) := by decide +kernel
theorem dL_law_528 : decode cL_law 528 = .ok (.iconst 3, 1) := by decide +kernel
theorem dL_law_529 : decode cL_law 529 = .ok (.iadd, 1) := by decide +kernel
theorem dL_law_530 : decode cL_law 530 = .ok (.iaload, 1) := by decide +kernel
theorem dL_law_531 : decode cL_law 531 = .ok (.invokevirtual 53, 3) := by decide +kernel
theorem dL_law_534 : decode cL_law 534 = .ok (.if_icmp .eq 988, 3) := by decide +kernel
theorem dL_law_537 : decode cL_law 537 = .ok (.iconst 0, 1) := by decide +kernel
theorem dL_law_538 : decode cL_law 538 = .ok (.ireturn, 1) := by decide +kernel
theorem dL_law_539 : decode cL_law 539 = .ok (.aload_n 1, 1) := by decide +kernel
theorem dL_law_540 : decode cL_law 540 = .ok (.aload_n 0, 1) := by decide +kernel
theorem dL_law_541 : decode cL_law 541 = .ok (.iload_n 3, 1) := by decide +kernel
theorem dL_law_542 : decode cL_law 542 = .ok (.iconst 1, 1) := by decide +kernel
theorem dL_law_543 : decode cL_law 543 = .ok (.iadd, 1) := by decide +kernel
theorem dL_law_544 : decode cL_law 544 = .ok (.iaload, 1) := by decide +kernel
theorem dL_law_545 : decode cL_law 545 = .ok (.aload_n 0, 1) := by decide +kernel
theorem dL_law_546 : decode cL_law 546 = .ok (.iload_n 3, 1) := by decide +kernel
theorem dL_law_547 : decode cL_law 547 = .ok (.iconst 2, 1) := by decide +kernel
theorem dL_law_548 : decode cL_law 548 = .ok (.iadd, 1) := by decide +kernel
theorem dL_law_549 : decode cL_law 549 = .ok (.iaload, 1) := by decide +kernel
theorem dL_law_550 : decode cL_law 550 = .ok (.invokevirtual 54, 3) := by decide +kernel
theorem dL_law_553 : decode cL_law 553 = .ok (.aload_n 2, 1) := by decide +kernel
theorem dL_law_554 : decode cL_law 554 = .ok (.aload_n 0, 1) := by decide +kernel
theorem dL_law_555 : decode cL_law 555 = .ok (.iload_n 3, 1) := by decide +kernel
theorem dL_law_556 : decode cL_law 556 = .ok (.iconst 1, 1) := by decide +kernel
theorem dL_law_557 : decode cL_law 557 = .ok (.iadd, 1) := by decide +kernel
theorem dL_law_558 : decode cL_law 558 = .ok (.iaload, 1) := by decide +kernel
theorem dL_law_559 : decode cL_law 559 = .ok (.aload_n 0, 1) := by decide +kernel
theorem dL_law_560 : decode cL_law 560 = .ok (.iload_n 3, 1) := by decide +kernel
theorem dL_law_561 : decode cL_law 561 = .ok (.iconst 2, 1) := by decide +kernel
theorem dL_law_562 : decode cL_law 562 = .ok (.iadd, 1) := by decide +kernel
theorem dL_law_563 : decode cL_law 563 = .ok (.iaload, 1) := by decide +kernel
theorem dL_law_564 : decode cL_law 564 = .ok (.invokevirtual 57, 3) := by decide +kernel
theorem dL_law_567 : decode cL_law 567 = .ok (.if_icmp .eq 955, 3) := by decide +kernel
theorem dL_law_570 : decode cL_law 570 = .ok (.iconst 0, 1) := by decide +kernel
theorem dL_law_571 : decode cL_law 571 = .ok (.ireturn, 1) := by decide +kernel
theorem dL_law_572 : decode cL_law 572 = .ok (.aload_n 1, 1) := by decide +kernel
theorem dL_law_573 : decode cL_law 573 = .ok (.aload_n 0, 1) := by decide +kernel
theorem dL_law_574 : decode cL_law 574 = .ok (.iload_n 3, 1) := by decide +kernel
theorem dL_law_575 : decode cL_law 575 = .ok (.iconst 1, 1) := by decide +kernel
theorem dL_law_576 : decode cL_law 576 = .ok (.iadd, 1) := by decide +kernel
theorem dL_law_577 : decode cL_law 577 = .ok (.iaload, 1) := by decide +kernel
theorem dL_law_578 : decode cL_law 578 = .ok (.invokevirtual 58, 3) := by decide +kernel
theorem dL_law_581 : decode cL_law 581 = .ok (.aload_n 2, 1) := by decide +kernel
theorem dL_law_582 : decode cL_law 582 = .ok (.aload_n 0, 1) := by decide +kernel
theorem dL_law_583 : decode cL_law 583 = .ok (.iload_n 3, 1) := by decide +kernel
theorem dL_law_584 : decode cL_law 584 = .ok (.iconst 1, 1) := by decide +kernel
theorem dL_law_585 : decode cL_law 585 = .ok (.iadd, 1) := by decide +kernel
theorem dL_law_586 : decode cL_law 586 = .ok (.iaload, 1) := by decide +kernel
theorem dL_law_587 : decode cL_law 587 = .ok (.invokevirtual 61, 3) := by decide +kernel
theorem dL_law_590 : decode cL_law 590 = .ok (.if_icmp .eq 932, 3) := by decide +kernel
theorem dL_law_593 : decode cL_law 593 = .ok (.iconst 0, 1) := by decide +kernel
theorem dL_law_594 : decode cL_law 594 = .ok (.ireturn, 1) := by decide +kernel
theorem dL_law_595 : decode cL_law 595 = .ok (.aload_n 1, 1) := by decide +kernel
theorem dL_law_596 : decode cL_law 596 = .ok (.aload_n 0, 1) := by decide +kernel
theorem dL_law_597 : decode cL_law 597 = .ok (.iload_n 3, 1) := by decide +kernel
theorem dL_law_598 : decode cL_law 598 = .ok (.iconst 1, 1) := by decide +kernel
theorem dL_law_599 : decode cL_law 599 = .ok (.iadd, 1) := by decide +kernel
theorem dL_law_600 : decode cL_law 600 = .ok (.iaload, 1) := by decide +kernel
theorem dL_law_601 : decode cL_law 601 = .ok (.aload_n 0, 1) := by decide +kernel
theorem dL_law_602 : decode cL_law 602 = .ok (.iload_n 3, 1) := by decide +kernel
theorem dL_law_603 : decode cL_law 603 = .ok (.iconst 2, 1) := by decide +kernel
theorem dL_law_604 : decode cL_law 604 = .ok (.iadd, 1) := by decide +kernel
theorem dL_law_605 : decode cL_law 605 = .ok (.iaload, 1) := by decide +kernel
theorem dL_law_606 : decode cL_law 606 = .ok (.invokevirtual 62, 3) := by decide +kernel
theorem dL_law_609 : decode cL_law 609 = .ok (.aload_n 2, 1) := by decide +kernel
theorem dL_law_610 : decode cL_law 610 = .ok (.aload_n 0, 1) := by decide +kernel
theorem dL_law_611 : decode cL_law 611 = .ok (.iload_n 3, 1) := by decide +kernel
theorem dL_law_612 : decode cL_law 612 = .ok (.iconst 1, 1) := by decide +kernel
theorem dL_law_613 : decode cL_law 613 = .ok (.iadd, 1) := by decide +kernel
theorem dL_law_614 : decode cL_law 614 = .ok (.iaload, 1) := by decide +kernel
theorem dL_law_615 : decode cL_law 615 = .ok (.aload_n 0, 1) := by decide +kernel
theorem dL_law_616 : decode cL_law 616 = .ok (.iload_n 3, 1) := by decide +kernel
theorem dL_law_617 : decode cL_law 617 = .ok (.iconst 2, 1) := by decide +kernel
theorem dL_law_618 : decode cL_law 618 = .ok (.iadd, 1) := by decide +kernel
theorem dL_law_619 : decode cL_law 619 = .ok (.iaload, 1) := by decide +kernel
theorem dL_law_620 : decode cL_law 620 = .ok (.invokevirtual 65, 3) := by decide +kernel
theorem dL_law_623 : decode cL_law 623 = .ok (.if_icmp .eq 899, 3) := by decide +kernel
theorem dL_law_626 : decode cL_law 626 = .ok (.iconst 0, 1) := by decide +kernel
theorem dL_law_627 : decode cL_law 627 = .ok (.ireturn, 1) := by decide +kernel
theorem dL_law_628 : decode cL_law 628 = .ok (.aload_n 1, 1) := by decide +kernel
theorem dL_law_629 : decode cL_law 629 = .ok (.invokevirtual 66, 3) := by decide +kernel
theorem dL_law_632 : decode cL_law 632 = .ok (.aload_n 2, 1) := by decide +kernel
theorem dL_law_633 : decode cL_law 633 = .ok (.invokevirtual 70, 3) := by decide +kernel
theorem dL_law_636 : decode cL_law 636 = .ok (.if_icmp .eq 886, 3) := by decide +kernel
theorem dL_law_639 : decode cL_law 639 = .ok (.iconst 0, 1) := by decide +kernel
theorem dL_law_640 : decode cL_law 640 = .ok (.ireturn, 1) := by decide +kernel
theorem dL_law_641 : decode cL_law 641 = .ok (.aload_n 1, 1) := by decide +kernel
theorem dL_law_642 : decode cL_law 642 = .ok (.invokevirtual 71, 3) := by decide +kernel
theorem dL_law_645 : decode cL_law 645 = .ok (.aload_n 2, 1) := by decide +kernel
theorem dL_law_646 : decode cL_law 646 = .ok (.invokevirtual 74, 3) := by decide +kernel
theorem dL_law_649 : decode cL_law 649 = .ok (.if_icmp .eq 873, 3) := by decide +kernel
theorem dL_law_652 : decode cL_law 652 = .ok (.iconst 0, 1) := by decide +kernel
theorem dL_law_653 : decode cL_law 653 = .ok (.ireturn, 1) := by decide +kernel
theorem dL_law_654 : decode cL_law 654 = .ok (.aload_n 1, 1) := by decide +kernel
theorem dL_law_655 : decode cL_law 655 = .ok (.aload_n 0, 1) := by decide +kernel
theorem dL_law_656 : decode cL_law 656 = .ok (.iload_n 3, 1) := by decide +kernel
theorem dL_law_657 : decode cL_law 657 = .ok (.iconst 1, 1) := by decide +kernel
theorem dL_law_658 : decode cL_law 658 = .ok (.iadd, 1) := by decide +kernel
theorem dL_law_659 : decode cL_law 659 = .ok (.iaload, 1) := by decide +kernel
theorem dL_law_660 : decode cL_law 660 = .ok (.invokevirtual 75, 3) := by decide +kernel
theorem dL_law_663 : decode cL_law 663 = .ok (.aload_n 2, 1) := by decide +kernel
theorem dL_law_664 : decode cL_law 664 = .ok (.aload_n 0, 1) := by decide +kernel
theorem dL_law_665 : decode cL_law 665 = .ok (.iload_n 3, 1) := by decide +kernel
theorem dL_law_666 : decode cL_law 666 = .ok (.iconst 1, 1) := by decide +kernel
theorem dL_law_667 : decode cL_law 667 = .ok (.iadd, 1) := by decide +kernel
theorem dL_law_668 : decode cL_law 668 = .ok (.iaload, 1) := by decide +kernel
theorem dL_law_669 : decode cL_law 669 = .ok (.invokevirtual 78, 3) := by decide +kernel
theorem dL_law_672 : decode cL_law 672 = .ok (.if_icmp .eq 850, 3) := by decide +kernel
theorem dL_law_675 : decode cL_law 675 = .ok (.iconst 0, 1) := by decide +kernel
theorem dL_law_676 : decode cL_law 676 = .ok (.ireturn, 1) := by decide +kernel
theorem dL_law_677 : decode cL_law 677 = .ok (.aload_n 1, 1) := by decide +kernel
theorem dL_law_678 : decode cL_law 678 = .ok (.invokevirtual 79, 3) := by decide +kernel
theorem dL_law_681 : decode cL_law 681 = .ok (.aload_n 2, 1) := by decide +kernel
theorem dL_law_682 : decode cL_law 682 = .ok (.invokevirtual 82, 3) := by decide +kernel
theorem dL_law_685 : decode cL_law 685 = .ok (.if_icmp .eq 837, 3) := by decide +kernel
theorem dL_law_688 : decode cL_law 688 = .ok (.iconst 0, 1) := by decide +kernel
theorem dL_law_689 : decode cL_law 689 = .ok (.ireturn, 1) := by decide +kernel
theorem dL_law_690 : decode cL_law 690 = .ok (.aload_n 1, 1) := by decide +kernel
theorem dL_law_691 : decode cL_law 691 = .ok (.aload_n 0, 1) := by decide +kernel
theorem dL_law_692 : decode cL_law 692 = .ok (.iload_n 3, 1) := by decide +kernel
theorem dL_law_693 : decode cL_law 693 = .ok (.iconst 1, 1) := by decide +kernel
theorem dL_law_694 : decode cL_law 694 = .ok (.iadd, 1) := by decide +kernel
theorem dL_law_695 : decode cL_law 695 = .ok (.iaload, 1) := by decide +kernel
theorem dL_law_696 : decode cL_law 696 = .ok (.invokevirtual 83, 3) := by decide +kernel
theorem dL_law_699 : decode cL_law 699 = .ok (.aload_n 2, 1) := by decide +kernel
theorem dL_law_700 : decode cL_law 700 = .ok (.aload_n 0, 1) := by decide +kernel
theorem dL_law_701 : decode cL_law 701 = .ok (.iload_n 3, 1) := by decide +kernel
theorem dL_law_702 : decode cL_law 702 = .ok (.iconst 1, 1) := by decide +kernel
theorem dL_law_703 : decode cL_law 703 = .ok (.iadd, 1) := by decide +kernel
theorem dL_law_704 : decode cL_law 704 = .ok (.iaload, 1) := by decide +kernel
theorem dL_law_705 : decode cL_law 705 = .ok (.invokevirtual 86, 3) := by decide +kernel
theorem dL_law_708 : decode cL_law 708 = .ok (.if_icmp .eq 814, 3) := by decide +kernel
theorem dL_law_711 : decode cL_law 711 = .ok (.iconst 0, 1) := by decide +kernel
theorem dL_law_712 : decode cL_law 712 = .ok (.ireturn, 1) := by decide +kernel
theorem dL_law_713 : decode cL_law 713 = .ok (.aload_n 1, 1) := by decide +kernel
theorem dL_law_714 : decode cL_law 714 = .ok (.aload_n 0, 1) := by decide +kernel
theorem dL_law_715 : decode cL_law 715 = .ok (.iload_n 3, 1) := by decide +kernel
theorem dL_law_716 : decode cL_law 716 = .ok (.iconst 1, 1) := by decide +kernel
theorem dL_law_717 : decode cL_law 717 = .ok (.iadd, 1) := by decide +kernel
theorem dL_law_718 : decode cL_law 718 = .ok (.iaload, 1) := by decide +kernel
theorem dL_law_719 : decode cL_law 719 = .ok (.invokevirtual 87, 3) := by decide +kernel
theorem dL_law_722 : decode cL_law 722 = .ok (.aload_n 2, 1) := by decide +kernel
theorem dL_law_723 : decode cL_law 723 = .ok (.aload_n 0, 1) := by decide +kernel
theorem dL_law_724 : decode cL_law 724 = .ok (.iload_n 3, 1) := by decide +kernel
theorem dL_law_725 : decode cL_law 725 = .ok (.iconst 1, 1) := by decide +kernel
theorem dL_law_726 : decode cL_law 726 = .ok (.iadd, 1) := by decide +kernel
theorem dL_law_727 : decode cL_law 727 = .ok (.iaload, 1) := by decide +kernel
theorem dL_law_728 : decode cL_law 728 = .ok (.invokevirtual 90, 3) := by decide +kernel
theorem dL_law_731 : decode cL_law 731 = .ok (.if_icmp .eq 791, 3) := by decide +kernel
theorem dL_law_734 : decode cL_law 734 = .ok (.iconst 0, 1) := by decide +kernel
theorem dL_law_735 : decode cL_law 735 = .ok (.ireturn, 1) := by decide +kernel
theorem dL_law_736 : decode cL_law 736 = .ok (.aload_n 1, 1) := by decide +kernel
theorem dL_law_737 : decode cL_law 737 = .ok (.invokevirtual 91, 3) := by decide +kernel
theorem dL_law_740 : decode cL_law 740 = .ok (.aload_n 2, 1) := by decide +kernel
theorem dL_law_741 : decode cL_law 741 = .ok (.invokevirtual 94, 3) := by decide +kernel
theorem dL_law_744 : decode cL_law 744 = .ok (.if_icmp .eq 778, 3) := by decide +kernel
theorem dL_law_747 : decode cL_law 747 = .ok (.iconst 0, 1) := by decide +kernel
theorem dL_law_748 : decode cL_law 748 = .ok (.ireturn, 1) := by decide +kernel
theorem dL_law_749 : decode cL_law 749 = .ok (.aload_n 1, 1) := by decide +kernel
theorem dL_law_750 : decode cL_law 750 = .ok (.aload_n 0, 1) := by decide +kernel
theorem dL_law_751 : decode cL_law 751 = .ok (.iload_n 3, 1) := by decide +kernel
theorem dL_law_752 : decode cL_law 752 = .ok (.iconst 1, 1) := by decide +kernel
theorem dL_law_753 : decode cL_law 753 = .ok (.iadd, 1) := by decide +kernel
theorem dL_law_754 : decode cL_law 754 = .ok (.iaload, 1) := by decide +kernel
theorem dL_law_755 : decode cL_law 755 = .ok (.invokevirtual 95, 3) := by decide +kernel
theorem dL_law_758 : decode cL_law 758 = .ok (.aload_n 2, 1) := by decide +kernel
theorem dL_law_759 : decode cL_law 759 = .ok (.aload_n 0, 1) := by decide +kernel
theorem dL_law_760 : decode cL_law 760 = .ok (.iload_n 3, 1) := by decide +kernel
theorem dL_law_761 : decode cL_law 761 = .ok (.iconst 1, 1) := by decide +kernel
theorem dL_law_762 : decode cL_law 762 = .ok (.iadd, 1) := by decide +kernel
theorem dL_law_763 : decode cL_law 763 = .ok (.iaload, 1) := by decide +kernel
theorem dL_law_764 : decode cL_law 764 = .ok (.invokevirtual 98, 3) := by decide +kernel
theorem dL_law_767 : decode cL_law 767 = .ok (.if_icmp .eq 755, 3) := by decide +kernel
theorem dL_law_770 : decode cL_law 770 = .ok (.iconst 0, 1) := by decide +kernel
theorem dL_law_771 : decode cL_law 771 = .ok (.ireturn, 1) := by decide +kernel
theorem dL_law_772 : decode cL_law 772 = .ok (.aload_n 1, 1) := by decide +kernel
theorem dL_law_773 : decode cL_law 773 = .ok (.aload_n 0, 1) := by decide +kernel
theorem dL_law_774 : decode cL_law 774 = .ok (.iload_n 3, 1) := by decide +kernel
theorem dL_law_775 : decode cL_law 775 = .ok (.iconst 1, 1) := by decide +kernel
theorem dL_law_776 : decode cL_law 776 = .ok (.iadd, 1) := by decide +kernel
theorem dL_law_777 : decode cL_law 777 = .ok (.iaload, 1) := by decide +kernel
theorem dL_law_778 : decode cL_law 778 = .ok (.aload_n 0, 1) := by decide +kernel
theorem dL_law_779 : decode cL_law 779 = .ok (.iload_n 3, 1) := by decide +kernel
theorem dL_law_780 : decode cL_law 780 = .ok (.iconst 2, 1) := by decide +kernel
theorem dL_law_781 : decode cL_law 781 = .ok (.iadd, 1) := by decide +kernel
theorem dL_law_782 : decode cL_law 782 = .ok (.iaload, 1) := by decide +kernel
theorem dL_law_783 : decode cL_law 783 = .ok (.aload_n 0, 1) := by decide +kernel
theorem dL_law_784 : decode cL_law 784 = .ok (.iload_n 3, 1) := by decide +kernel
theorem dL_law_785 : decode cL_law 785 = .ok (.iconst 3, 1) := by decide +kernel
theorem dL_law_786 : decode cL_law 786 = .ok (.iadd, 1) := by decide +kernel
theorem dL_law_787 : decode cL_law 787 = .ok (.iaload, 1) := by decide +kernel
theorem dL_law_788 : decode cL_law 788 = .ok (.aload_n 0, 1) := by decide +kernel
theorem dL_law_789 : decode cL_law 789 = .ok (.iload_n 3, 1) := by decide +kernel
theorem dL_law_790 : decode cL_law 790 = .ok (.iconst 4, 1) := by decide +kernel
theorem dL_law_791 : decode cL_law 791 = .ok (.iadd, 1) := by decide +kernel
theorem dL_law_792 : decode cL_law 792 = .ok (.iaload, 1) := by decide +kernel
theorem dL_law_793 : decode cL_law 793 = .ok (.invokevirtual 99, 3) := by decide +kernel
theorem dL_law_796 : decode cL_law 796 = .ok (.aload_n 2, 1) := by decide +kernel
theorem dL_law_797 : decode cL_law 797 = .ok (.aload_n 0, 1) := by decide +kernel
theorem dL_law_798 : decode cL_law 798 = .ok (.iload_n 3, 1) := by decide +kernel
theorem dL_law_799 : decode cL_law 799 = .ok (.iconst 1, 1) := by decide +kernel
theorem dL_law_800 : decode cL_law 800 = .ok (.iadd, 1) := by decide +kernel
theorem dL_law_801 : decode cL_law 801 = .ok (.iaload, 1) := by decide +kernel
theorem dL_law_802 : decode cL_law 802 = .ok (.aload_n 0, 1) := by decide +kernel
theorem dL_law_803 : decode cL_law 803 = .ok (.iload_n 3, 1) := by decide +kernel
theorem dL_law_804 : decode cL_law 804 = .ok (.iconst 2, 1) := by decide +kernel
theorem dL_law_805 : decode cL_law 805 = .ok (.iadd, 1) := by decide +kernel
theorem dL_law_806 : decode cL_law 806 = .ok (.iaload, 1) := by decide +kernel
theorem dL_law_807 : decode cL_law 807 = .ok (.aload_n 0, 1) := by decide +kernel
theorem dL_law_808 : decode cL_law 808 = .ok (.iload_n 3, 1) := by decide +kernel
theorem dL_law_809 : decode cL_law 809 = .ok (.iconst 3, 1) := by decide +kernel
theorem dL_law_810 : decode cL_law 810 = .ok (.iadd, 1) := by decide +kernel
theorem dL_law_811 : decode cL_law 811 = .ok (.iaload, 1) := by decide +kernel
theorem dL_law_812 : decode cL_law 812 = .ok (.aload_n 0, 1) := by decide +kernel
theorem dL_law_813 : decode cL_law 813 = .ok (.iload_n 3, 1) := by decide +kernel
theorem dL_law_814 : decode cL_law 814 = .ok (.iconst 4, 1) := by decide +kernel
theorem dL_law_815 : decode cL_law 815 = .ok (.iadd, 1) := by decide +kernel
theorem dL_law_816 : decode cL_law 816 = .ok (.iaload, 1) := by decide +kernel
theorem dL_law_817 : decode cL_law 817 = .ok (.invokevirtual 103, 3) := by decide +kernel
theorem dL_law_820 : decode cL_law 820 = .ok (.if_icmp .eq 702, 3) := by decide +kernel
theorem dL_law_823 : decode cL_law 823 = .ok (.iconst 0, 1) := by decide +kernel
theorem dL_law_824 : decode cL_law 824 = .ok (.ireturn, 1) := by decide +kernel
theorem dL_law_825 : decode cL_law 825 = .ok (.aload_n 1, 1) := by decide +kernel
theorem dL_law_826 : decode cL_law 826 = .ok (.aload_n 0, 1) := by decide +kernel
theorem dL_law_827 : decode cL_law 827 = .ok (.iload_n 3, 1) := by decide +kernel
theorem dL_law_828 : decode cL_law 828 = .ok (.iconst 1, 1) := by decide +kernel
theorem dL_law_829 : decode cL_law 829 = .ok (.iadd, 1) := by decide +kernel
theorem dL_law_830 : decode cL_law 830 = .ok (.iaload, 1) := by decide +kernel
theorem dL_law_831 : decode cL_law 831 = .ok (.aload_n 0, 1) := by decide +kernel
theorem dL_law_832 : decode cL_law 832 = .ok (.iload_n 3, 1) := by decide +kernel
theorem dL_law_833 : decode cL_law 833 = .ok (.iconst 2, 1) := by decide +kernel
theorem dL_law_834 : decode cL_law 834 = .ok (.iadd, 1) := by decide +kernel
theorem dL_law_835 : decode cL_law 835 = .ok (.iaload, 1) := by decide +kernel
theorem dL_law_836 : decode cL_law 836 = .ok (.aload_n 0, 1) := by decide +kernel
theorem dL_law_837 : decode cL_law 837 = .ok (.iload_n 3, 1) := by decide +kernel
theorem dL_law_838 : decode cL_law 838 = .ok (.iconst 3, 1) := by decide +kernel
theorem dL_law_839 : decode cL_law 839 = .ok (.iadd, 1) := by decide +kernel
theorem dL_law_840 : decode cL_law 840 = .ok (.iaload, 1) := by decide +kernel
theorem dL_law_841 : decode cL_law 841 = .ok (.invokevirtual 104, 3) := by decide +kernel
theorem dL_law_844 : decode cL_law 844 = .ok (.aload_n 2, 1) := by decide +kernel
theorem dL_law_845 : decode cL_law 845 = .ok (.aload_n 0, 1) := by decide +kernel
theorem dL_law_846 : decode cL_law 846 = .ok (.iload_n 3, 1) := by decide +kernel
theorem dL_law_847 : decode cL_law 847 = .ok (.iconst 1, 1) := by decide +kernel
theorem dL_law_848 : decode cL_law 848 = .ok (.iadd, 1) := by decide +kernel
theorem dL_law_849 : decode cL_law 849 = .ok (.iaload, 1) := by decide +kernel
theorem dL_law_850 : decode cL_law 850 = .ok (.aload_n 0, 1) := by decide +kernel
theorem dL_law_851 : decode cL_law 851 = .ok (.iload_n 3, 1) := by decide +kernel
theorem dL_law_852 : decode cL_law 852 = .ok (.iconst 2, 1) := by decide +kernel
theorem dL_law_853 : decode cL_law 853 = .ok (.iadd, 1) := by decide +kernel
theorem dL_law_854 : decode cL_law 854 = .ok (.iaload, 1) := by decide +kernel
theorem dL_law_855 : decode cL_law 855 = .ok (.aload_n 0, 1) := by decide +kernel
theorem dL_law_856 : decode cL_law 856 = .ok (.iload_n 3, 1) := by decide +kernel
theorem dL_law_857 : decode cL_law 857 = .ok (.iconst 3, 1) := by decide +kernel
theorem dL_law_858 : decode cL_law 858 = .ok (.iadd, 1) := by decide +kernel
theorem dL_law_859 : decode cL_law 859 = .ok (.iaload, 1) := by decide +kernel
theorem dL_law_860 : decode cL_law 860 = .ok (.invokevirtual 107, 3) := by decide +kernel
theorem dL_law_863 : decode cL_law 863 = .ok (.if_icmp .eq 659, 3) := by decide +kernel
theorem dL_law_866 : decode cL_law 866 = .ok (.iconst 0, 1) := by decide +kernel
theorem dL_law_867 : decode cL_law 867 = .ok (.ireturn, 1) := by decide +kernel
theorem dL_law_868 : decode cL_law 868 = .ok (.aload_n 1, 1) := by decide +kernel
theorem dL_law_869 : decode cL_law 869 = .ok (.invokevirtual 108, 3) := by decide +kernel
theorem dL_law_872 : decode cL_law 872 = .ok (.aload_n 2, 1) := by decide +kernel
theorem dL_law_873 : decode cL_law 873 = .ok (.invokevirtual 111, 3) := by decide +kernel
theorem dL_law_876 : decode cL_law 876 = .ok (.if_icmp .eq 646, 3) := by decide +kernel
theorem dL_law_879 : decode cL_law 879 = .ok (.iconst 0, 1) := by decide +kernel
theorem dL_law_880 : decode cL_law 880 = .ok (.ireturn, 1) := by decide +kernel
theorem dL_law_881 : decode cL_law 881 = .ok (.aload_n 1, 1) := by decide +kernel
theorem dL_law_882 : decode cL_law 882 = .ok (.invokevirtual 112, 3) := by decide +kernel
theorem dL_law_885 : decode cL_law 885 = .ok (.aload_n 2, 1) := by decide +kernel
theorem dL_law_886 : decode cL_law 886 = .ok (.invokevirtual 115, 3) := by decide +kernel
theorem dL_law_889 : decode cL_law 889 = .ok (.if_icmp .eq 633, 3) := by decide +kernel
theorem dL_law_892 : decode cL_law 892 = .ok (.iconst 0, 1) := by decide +kernel
theorem dL_law_893 : decode cL_law 893 = .ok (.ireturn, 1) := by decide +kernel
theorem dL_law_894 : decode cL_law 894 = .ok (.aload_n 1, 1) := by decide +kernel
theorem dL_law_895 : decode cL_law 895 = .ok (.aload_n 0, 1) := by decide +kernel
theorem dL_law_896 : decode cL_law 896 = .ok (.iload_n 3, 1) := by decide +kernel
theorem dL_law_897 : decode cL_law 897 = .ok (.iconst 1, 1) := by decide +kernel
theorem dL_law_898 : decode cL_law 898 = .ok (.iadd, 1) := by decide +kernel
theorem dL_law_899 : decode cL_law 899 = .ok (.iaload, 1) := by decide +kernel
theorem dL_law_900 : decode cL_law 900 = .ok (.aload_n 0, 1) := by decide +kernel
theorem dL_law_901 : decode cL_law 901 = .ok (.iload_n 3, 1) := by decide +kernel
theorem dL_law_902 : decode cL_law 902 = .ok (.iconst 2, 1) := by decide +kernel
theorem dL_law_903 : decode cL_law 903 = .ok (.iadd, 1) := by decide +kernel
theorem dL_law_904 : decode cL_law 904 = .ok (.iaload, 1) := by decide +kernel
theorem dL_law_905 : decode cL_law 905 = .ok (.aload_n 0, 1) := by decide +kernel
theorem dL_law_906 : decode cL_law 906 = .ok (.iload_n 3, 1) := by decide +kernel
theorem dL_law_907 : decode cL_law 907 = .ok (.iconst 3, 1) := by decide +kernel
theorem dL_law_908 : decode cL_law 908 = .ok (.iadd, 1) := by decide +kernel
theorem dL_law_909 : decode cL_law 909 = .ok (.iaload, 1) := by decide +kernel
theorem dL_law_910 : decode cL_law 910 = .ok (.invokevirtual 116, 3) := by decide +kernel
theorem dL_law_913 : decode cL_law 913 = .ok (.aload_n 2, 1) := by decide +kernel
theorem dL_law_914 : decode cL_law 914 = .ok (.aload_n 0, 1) := by decide +kernel
theorem dL_law_915 : decode cL_law 915 = .ok (.iload_n 3, 1) := by decide +kernel
theorem dL_law_916 : decode cL_law 916 = .ok (.iconst 1, 1) := by decide +kernel
theorem dL_law_917 : decode cL_law 917 = .ok (.iadd, 1) := by decide +kernel
theorem dL_law_918 : decode cL_law 918 = .ok (.iaload, 1) := by decide +kernel
theorem dL_law_919 : decode cL_law 919 = .ok (.aload_n 0, 1) := by decide +kernel
theorem dL_law_920 : decode cL_law 920 = .ok (.iload_n 3, 1) := by decide +kernel
theorem dL_law_921 : decode cL_law 921 = .ok (.iconst 2, 1) := by decide +kernel
theorem dL_law_922 : decode cL_law 922 = .ok (.iadd, 1) := by decide +kernel
theorem dL_law_923 : decode cL_law 923 = .ok (.iaload, 1) := by decide +kernel
theorem dL_law_924 : decode cL_law 924 = .ok (.aload_n 0, 1) := by decide +kernel
theorem dL_law_925 : decode cL_law 925 = .ok (.iload_n 3, 1) := by decide +kernel
theorem dL_law_926 : decode cL_law 926 = .ok (.iconst 3, 1) := by decide +kernel
theorem dL_law_927 : decode cL_law 927 = .ok (.iadd, 1) := by decide +kernel
theorem dL_law_928 : decode cL_law 928 = .ok (.iaload, 1) := by decide +kernel
theorem dL_law_929 : decode cL_law 929 = .ok (.invokevirtual 119, 3) := by decide +kernel
theorem dL_law_932 : decode cL_law 932 = .ok (.if_icmp .eq 590, 3) := by decide +kernel
theorem dL_law_935 : decode cL_law 935 = .ok (.iconst 0, 1) := by decide +kernel
theorem dL_law_936 : decode cL_law 936 = .ok (.ireturn, 1) := by decide +kernel
theorem dL_law_937 : decode cL_law 937 = .ok (.aload_n 1, 1) := by decide +kernel
theorem dL_law_938 : decode cL_law 938 = .ok (.aload_n 0, 1) := by decide +kernel
theorem dL_law_939 : decode cL_law 939 = .ok (.iload_n 3, 1) := by decide +kernel
theorem dL_law_940 : decode cL_law 940 = .ok (.iconst 1, 1) := by decide +kernel
theorem dL_law_941 : decode cL_law 941 = .ok (.iadd, 1) := by decide +kernel
theorem dL_law_942 : decode cL_law 942 = .ok (.iaload, 1) := by decide +kernel
theorem dL_law_943 : decode cL_law 943 = .ok (.aload_n 0, 1) := by decide +kernel
theorem dL_law_944 : decode cL_law 944 = .ok (.iload_n 3, 1) := by decide +kernel
theorem dL_law_945 : decode cL_law 945 = .ok (.iconst 2, 1) := by decide +kernel
theorem dL_law_946 : decode cL_law 946 = .ok (.iadd, 1) := by decide +kernel
theorem dL_law_947 : decode cL_law 947 = .ok (.iaload, 1) := by decide +kernel
theorem dL_law_948 : decode cL_law 948 = .ok (.invokevirtual 120, 3) := by decide +kernel
theorem dL_law_951 : decode cL_law 951 = .ok (.aload_n 2, 1) := by decide +kernel
theorem dL_law_952 : decode cL_law 952 = .ok (.aload_n 0, 1) := by decide +kernel
theorem dL_law_953 : decode cL_law 953 = .ok (.iload_n 3, 1) := by decide +kernel
theorem dL_law_954 : decode cL_law 954 = .ok (.iconst 1, 1) := by decide +kernel
theorem dL_law_955 : decode cL_law 955 = .ok (.iadd, 1) := by decide +kernel
theorem dL_law_956 : decode cL_law 956 = .ok (.iaload, 1) := by decide +kernel
theorem dL_law_957 : decode cL_law 957 = .ok (.aload_n 0, 1) := by decide +kernel
theorem dL_law_958 : decode cL_law 958 = .ok (.iload_n 3, 1) := by decide +kernel
theorem dL_law_959 : decode cL_law 959 = .ok (.iconst 2, 1) := by decide +kernel
theorem dL_law_960 : decode cL_law 960 = .ok (.iadd, 1) := by decide +kernel
theorem dL_law_961 : decode cL_law 961 = .ok (.iaload, 1) := by decide +kernel
theorem dL_law_962 : decode cL_law 962 = .ok (.invokevirtual 123, 3) := by decide +kernel
theorem dL_law_965 : decode cL_law 965 = .ok (.if_icmp .eq 557, 3) := by decide +kernel
theorem dL_law_968 : decode cL_law 968 = .ok (.iconst 0, 1) := by decide +kernel
theorem dL_law_969 : decode cL_law 969 = .ok (.ireturn, 1) := by decide +kernel
theorem dL_law_970 : decode cL_law 970 = .ok (.aload_n 1, 1) := by decide +kernel
theorem dL_law_971 : decode cL_law 971 = .ok (.aload_n 0, 1) := by decide +kernel
theorem dL_law_972 : decode cL_law 972 = .ok (.iload_n 3, 1) := by decide +kernel
theorem dL_law_973 : decode cL_law 973 = .ok (.iconst 1, 1) := by decide +kernel
theorem dL_law_974 : decode cL_law 974 = .ok (.iadd, 1) := by decide +kernel
theorem dL_law_975 : decode cL_law 975 = .ok (.iaload, 1) := by decide +kernel
theorem dL_law_976 : decode cL_law 976 = .ok (.aload_n 0, 1) := by decide +kernel
theorem dL_law_977 : decode cL_law 977 = .ok (.iload_n 3, 1) := by decide +kernel
theorem dL_law_978 : decode cL_law 978 = .ok (.iconst 2, 1) := by decide +kernel
theorem dL_law_979 : decode cL_law 979 = .ok (.iadd, 1) := by decide +kernel
theorem dL_law_980 : decode cL_law 980 = .ok (.iaload, 1) := by decide +kernel
theorem dL_law_981 : decode cL_law 981 = .ok (.invokevirtual 124, 3) := by decide +kernel
theorem dL_law_984 : decode cL_law 984 = .ok (.aload_n 2, 1) := by decide +kernel
theorem dL_law_985 : decode cL_law 985 = .ok (.aload_n 0, 1) := by decide +kernel
theorem dL_law_986 : decode cL_law 986 = .ok (.iload_n 3, 1) := by decide +kernel
theorem dL_law_987 : decode cL_law 987 = .ok (.iconst 1, 1) := by decide +kernel
theorem dL_law_988 : decode cL_law 988 = .ok (.iadd, 1) := by decide +kernel
theorem dL_law_989 : decode cL_law 989 = .ok (.iaload, 1) := by decide +kernel
theorem dL_law_990 : decode cL_law 990 = .ok (.aload_n 0, 1) := by decide +kernel
theorem dL_law_991 : decode cL_law 991 = .ok (.iload_n 3, 1) := by decide +kernel
theorem dL_law_992 : decode cL_law 992 = .ok (.iconst 2, 1) := by decide +kernel
theorem dL_law_993 : decode cL_law 993 = .ok (.iadd, 1) := by decide +kernel
theorem dL_law_994 : decode cL_law 994 = .ok (.iaload, 1) := by decide +kernel
theorem dL_law_995 : decode cL_law 995 = .ok (.invokevirtual 127, 3) := by decide +kernel
theorem dL_law_998 : decode cL_law 998 = .ok (.if_icmp .eq 524, 3) := by decide +kernel
theorem dL_law_1001 : decode cL_law 1001 = .ok (.iconst 0, 1) := by decide +kernel
theorem dL_law_1002 : decode cL_law 1002 = .ok (.ireturn, 1) := by decide +kernel
theorem dL_law_1003 : decode cL_law 1003 = .ok (.aload_n 1, 1) := by decide +kernel
theorem dL_law_1004 : decode cL_law 1004 = .ok (.aload_n 0, 1) := by decide +kernel
theorem dL_law_1005 : decode cL_law 1005 = .ok (.iload_n 3, 1) := by decide +kernel
theorem dL_law_1006 : decode cL_law 1006 = .ok (.iconst 1, 1) := by decide +kernel
theorem dL_law_1007 : decode cL_law 1007 = .ok (.iadd, 1) := by decide +kernel
theorem dL_law_1008 : decode cL_law 1008 = .ok (.iaload, 1) := by decide +kernel
theorem dL_law_1009 : decode cL_law 1009 = .ok (.invokevirtual 128, 3) := by decide +kernel
theorem dL_law_1012 : decode cL_law 1012 = .ok (.aload_n 2, 1) := by decide +kernel
theorem dL_law_1013 : decode cL_law 1013 = .ok (.aload_n 0, 1) := by decide +kernel
theorem dL_law_1014 : decode cL_law 1014 = .ok (.iload_n 3, 1) := by decide +kernel
theorem dL_law_1015 : decode cL_law 1015 = .ok (.iconst 1, 1) := by decide +kernel
theorem dL_law_1016 : decode cL_law 1016 = .ok (.iadd, 1) := by decide +kernel
theorem dL_law_1017 : decode cL_law 1017 = .ok (.iaload, 1) := by decide +kernel
theorem dL_law_1018 : decode cL_law 1018 = .ok (.invokevirtual 131, 3) := by decide +kernel
theorem dL_law_1021 : decode cL_law 1021 = .ok (.if_icmp .eq 501, 3) := by decide +kernel
theorem dL_law_1024 : decode cL_law 1024 = .ok (.iconst 0, 1) := by decide +kernel
theorem dL_law_1025 : decode cL_law 1025 = .ok (.ireturn, 1) := by decide +kernel
theorem dL_law_1026 : decode cL_law 1026 = .ok (.aload_n 1, 1) := by decide +kernel
theorem dL_law_1027 : decode cL_law 1027 = .ok (.aload_n 0, 1) := by decide +kernel
theorem dL_law_1028 : decode cL_law 1028 = .ok (.iload_n 3, 1) := by decide +kernel
theorem dL_law_1029 : decode cL_law 1029 = .ok (.iconst 1, 1) := by decide +kernel
theorem dL_law_1030 : decode cL_law 1030 = .ok (.iadd, 1) := by decide +kernel
theorem dL_law_1031 : decode cL_law 1031 = .ok (.iaload, 1) := by decide +kernel
theorem dL_law_1032 : decode cL_law 1032 = .ok (.invokevirtual 132, 3) := by decide +kernel
theorem dL_law_1035 : decode cL_law 1035 = .ok (.aload_n 2, 1) := by decide +kernel
theorem dL_law_1036 : decode cL_law 1036 = .ok (.aload_n 0, 1) := by decide +kernel
theorem dL_law_1037 : decode cL_law 1037 = .ok (.iload_n 3, 1) := by decide +kernel
theorem dL_law_1038 : decode cL_law 1038 = .ok (.iconst 1, 1) := by decide +kernel
theorem dL_law_1039 : decode cL_law 1039 = .ok (.iadd, 1) := by decide +kernel
theorem dL_law_1040 : decode cL_law 1040 = .ok (.iaload, 1) := by decide +kernel
theorem dL_law_1041 : decode cL_law 1041 = .ok (.invokevirtual 135, 3) := by decide +kernel
theorem dL_law_1044 : decode cL_law 1044 = .ok (.if_icmp .eq 478, 3) := by decide +kernel
theorem dL_law_1047 : decode cL_law 1047 = .ok (.iconst 0, 1) := by decide +kernel
theorem dL_law_1048 : decode cL_law 1048 = .ok (.ireturn, 1) := by decide +kernel
theorem dL_law_1049 : decode cL_law 1049 = .ok (.aload_n 1, 1) := by decide +kernel
theorem dL_law_1050 : decode cL_law 1050 = .ok (.aload_n 0, 1) := by decide +kernel
theorem dL_law_1051 : decode cL_law 1051 = .ok (.iload_n 3, 1) := by decide +kernel
theorem dL_law_1052 : decode cL_law 1052 = .ok (.iconst 1, 1) := by decide +kernel
theorem dL_law_1053 : decode cL_law 1053 = .ok (.iadd, 1) := by decide +kernel
theorem dL_law_1054 : decode cL_law 1054 = .ok (.iaload, 1) := by decide +kernel
theorem dL_law_1055 : decode cL_law 1055 = .ok (.aload_n 0, 1) := by decide +kernel
theorem dL_law_1056 : decode cL_law 1056 = .ok (.iload_n 3, 1) := by decide +kernel
theorem dL_law_1057 : decode cL_law 1057 = .ok (.iconst 2, 1) := by decide +kernel
theorem dL_law_1058 : decode cL_law 1058 = .ok (.iadd, 1) := by decide +kernel
theorem dL_law_1059 : decode cL_law 1059 = .ok (.iaload, 1) := by decide +kernel
theorem dL_law_1060 : decode cL_law 1060 = .ok (.aload_n 0, 1) := by decide +kernel
theorem dL_law_1061 : decode cL_law 1061 = .ok (.iload_n 3, 1) := by decide +kernel
theorem dL_law_1062 : decode cL_law 1062 = .ok (.iconst 3, 1) := by decide +kernel
theorem dL_law_1063 : decode cL_law 1063 = .ok (.iadd, 1) := by decide +kernel
theorem dL_law_1064 : decode cL_law 1064 = .ok (.iaload, 1) := by decide +kernel
theorem dL_law_1065 : decode cL_law 1065 = .ok (.invokevirtual 136, 3) := by decide +kernel
theorem dL_law_1068 : decode cL_law 1068 = .ok (.aload_n 2, 1) := by decide +kernel
theorem dL_law_1069 : decode cL_law 1069 = .ok (.aload_n 0, 1) := by decide +kernel
theorem dL_law_1070 : decode cL_law 1070 = .ok (.iload_n 3, 1) := by decide +kernel
theorem dL_law_1071 : decode cL_law 1071 = .ok (.iconst 1, 1) := by decide +kernel
theorem dL_law_1072 : decode cL_law 1072 = .ok (.iadd, 1) := by decide +kernel
theorem dL_law_1073 : decode cL_law 1073 = .ok (.iaload, 1) := by decide +kernel
theorem dL_law_1074 : decode cL_law 1074 = .ok (.aload_n 0, 1) := by decide +kernel
theorem dL_law_1075 : decode cL_law 1075 = .ok (.iload_n 3, 1) := by decide +kernel
theorem dL_law_1076 : decode cL_law 1076 = .ok (.iconst 2, 1) := by decide +kernel
theorem dL_law_1077 : decode cL_law 1077 = .ok (.iadd, 1) := by decide +kernel
theorem dL_law_1078 : decode cL_law 1078 = .ok (.iaload, 1) := by decide +kernel
theorem dL_law_1079 : decode cL_law 1079 = .ok (.aload_n 0, 1) := by decide +kernel
theorem dL_law_1080 : decode cL_law 1080 = .ok (.iload_n 3, 1) := by decide +kernel
theorem dL_law_1081 : decode cL_law 1081 = .ok (.iconst 3, 1) := by decide +kernel
theorem dL_law_1082 : decode cL_law 1082 = .ok (.iadd, 1) := by decide +kernel
theorem dL_law_1083 : decode cL_law 1083 = .ok (.iaload, 1) := by decide +kernel
theorem dL_law_1084 : decode cL_law 1084 = .ok (.invokevirtual 139, 3) := by decide +kernel
theorem dL_law_1087 : decode cL_law 1087 = .ok (.if_icmp .eq 435, 3) := by decide +kernel
theorem dL_law_1090 : decode cL_law 1090 = .ok (.iconst 0, 1) := by decide +kernel
theorem dL_law_1091 : decode cL_law 1091 = .ok (.ireturn, 1) := by decide +kernel
theorem dL_law_1092 : decode cL_law 1092 = .ok (.aload_n 1, 1) := by decide +kernel
theorem dL_law_1093 : decode cL_law 1093 = .ok (.invokevirtual 140, 3) := by decide +kernel
theorem dL_law_1096 : decode cL_law 1096 = .ok (.aload_n 2, 1) := by decide +kernel
theorem dL_law_1097 : decode cL_law 1097 = .ok (.invokevirtual 143, 3) := by decide +kernel
theorem dL_law_1100 : decode cL_law 1100 = .ok (.if_icmp .eq 422, 3) := by decide +kernel
theorem dL_law_1103 : decode cL_law 1103 = .ok (.iconst 0, 1) := by decide +kernel
theorem dL_law_1104 : decode cL_law 1104 = .ok (.ireturn, 1) := by decide +kernel
theorem dL_law_1105 : decode cL_law 1105 = .ok (.aload_n 1, 1) := by decide +kernel
theorem dL_law_1106 : decode cL_law 1106 = .ok (.aload_n 0, 1) := by decide +kernel
theorem dL_law_1107 : decode cL_law 1107 = .ok (.iload_n 3, 1) := by decide +kernel
theorem dL_law_1108 : decode cL_law 1108 = .ok (.iconst 1, 1) := by decide +kernel
theorem dL_law_1109 : decode cL_law 1109 = .ok (.iadd, 1) := by decide +kernel
theorem dL_law_1110 : decode cL_law 1110 = .ok (.iaload, 1) := by decide +kernel
theorem dL_law_1111 : decode cL_law 1111 = .ok (.invokevirtual 144, 3) := by decide +kernel
theorem dL_law_1114 : decode cL_law 1114 = .ok (.aload_n 2, 1) := by decide +kernel
theorem dL_law_1115 : decode cL_law 1115 = .ok (.aload_n 0, 1) := by decide +kernel
theorem dL_law_1116 : decode cL_law 1116 = .ok (.iload_n 3, 1) := by decide +kernel
theorem dL_law_1117 : decode cL_law 1117 = .ok (.iconst 1, 1) := by decide +kernel
theorem dL_law_1118 : decode cL_law 1118 = .ok (.iadd, 1) := by decide +kernel
theorem dL_law_1119 : decode cL_law 1119 = .ok (.iaload, 1) := by decide +kernel
theorem dL_law_1120 : decode cL_law 1120 = .ok (.invokevirtual 147, 3) := by decide +kernel
theorem dL_law_1123 : decode cL_law 1123 = .ok (.if_icmp .eq 399, 3) := by decide +kernel
theorem dL_law_1126 : decode cL_law 1126 = .ok (.iconst 0, 1) := by decide +kernel
theorem dL_law_1127 : decode cL_law 1127 = .ok (.ireturn, 1) := by decide +kernel
theorem dL_law_1128 : decode cL_law 1128 = .ok (.aload_n 1, 1) := by decide +kernel
theorem dL_law_1129 : decode cL_law 1129 = .ok (.invokevirtual 148, 3) := by decide +kernel
theorem dL_law_1132 : decode cL_law 1132 = .ok (.aload_n 2, 1) := by decide +kernel
theorem dL_law_1133 : decode cL_law 1133 = .ok (.invokevirtual 151, 3) := by decide +kernel
theorem dL_law_1136 : decode cL_law 1136 = .ok (.if_icmp .eq 386, 3) := by decide +kernel
theorem dL_law_1139 : decode cL_law 1139 = .ok (.iconst 0, 1) := by decide +kernel
theorem dL_law_1140 : decode cL_law 1140 = .ok (.ireturn, 1) := by decide +kernel
theorem dL_law_1141 : decode cL_law 1141 = .ok (.aload_n 1, 1) := by decide +kernel
theorem dL_law_1142 : decode cL_law 1142 = .ok (.aload_n 0, 1) := by decide +kernel
theorem dL_law_1143 : decode cL_law 1143 = .ok (.iload_n 3, 1) := by decide +kernel
theorem dL_law_1144 : decode cL_law 1144 = .ok (.iconst 1, 1) := by decide +kernel
theorem dL_law_1145 : decode cL_law 1145 = .ok (.iadd, 1) := by decide +kernel
theorem dL_law_1146 : decode cL_law 1146 = .ok (.iaload, 1) := by decide +kernel
theorem dL_law_1147 : decode cL_law 1147 = .ok (.invokevirtual 152, 3) := by decide +kernel
theorem dL_law_1150 : decode cL_law 1150 = .ok (.aload_n 2, 1) := by decide +kernel
theorem dL_law_1151 : decode cL_law 1151 = .ok (.aload_n 0, 1) := by decide +kernel
theorem dL_law_1152 : decode cL_law 1152 = .ok (.iload_n 3, 1) := by decide +kernel
theorem dL_law_1153 : decode cL_law 1153 = .ok (.iconst 1, 1) := by decide +kernel
theorem dL_law_1154 : decode cL_law 1154 = .ok (.iadd, 1) := by decide +kernel
theorem dL_law_1155 : decode cL_law 1155 = .ok (.iaload, 1) := by decide +kernel
theorem dL_law_1156 : decode cL_law 1156 = .ok (.invokevirtual 155, 3) := by decide +kernel
theorem dL_law_1159 : decode cL_law 1159 = .ok (.if_icmp .eq 363, 3) := by decide +kernel
theorem dL_law_1162 : decode cL_law 1162 = .ok (.iconst 0, 1) := by decide +kernel
theorem dL_law_1163 : decode cL_law 1163 = .ok (.ireturn, 1) := by decide +kernel
theorem dL_law_1164 : decode cL_law 1164 = .ok (.aload_n 1, 1) := by decide +kernel
theorem dL_law_1165 : decode cL_law 1165 = .ok (.aload_n 0, 1) := by decide +kernel
theorem dL_law_1166 : decode cL_law 1166 = .ok (.iload_n 3, 1) := by decide +kernel
theorem dL_law_1167 : decode cL_law 1167 = .ok (.iconst 1, 1) := by decide +kernel
theorem dL_law_1168 : decode cL_law 1168 = .ok (.iadd, 1) := by decide +kernel
theorem dL_law_1169 : decode cL_law 1169 = .ok (.iaload, 1) := by decide +kernel
theorem dL_law_1170 : decode cL_law 1170 = .ok (.aload_n 0, 1) := by decide +kernel
theorem dL_law_1171 : decode cL_law 1171 = .ok (.iload_n 3, 1) := by decide +kernel
theorem dL_law_1172 : decode cL_law 1172 = .ok (.iconst 2, 1) := by decide +kernel
theorem dL_law_1173 : decode cL_law 1173 = .ok (.iadd, 1) := by decide +kernel
theorem dL_law_1174 : decode cL_law 1174 = .ok (.iaload, 1) := by decide +kernel
theorem dL_law_1175 : decode cL_law 1175 = .ok (.invokevirtual 156, 3) := by decide +kernel
theorem dL_law_1178 : decode cL_law 1178 = .ok (.aload_n 2, 1) := by decide +kernel
theorem dL_law_1179 : decode cL_law 1179 = .ok (.aload_n 0, 1) := by decide +kernel
theorem dL_law_1180 : decode cL_law 1180 = .ok (.iload_n 3, 1) := by decide +kernel
theorem dL_law_1181 : decode cL_law 1181 = .ok (.iconst 1, 1) := by decide +kernel
theorem dL_law_1182 : decode cL_law 1182 = .ok (.iadd, 1) := by decide +kernel
theorem dL_law_1183 : decode cL_law 1183 = .ok (.iaload, 1) := by decide +kernel
theorem dL_law_1184 : decode cL_law 1184 = .ok (.aload_n 0, 1) := by decide +kernel
theorem dL_law_1185 : decode cL_law 1185 = .ok (.iload_n 3, 1) := by decide +kernel
theorem dL_law_1186 : decode cL_law 1186 = .ok (.iconst 2, 1) := by decide +kernel
theorem dL_law_1187 : decode cL_law 1187 = .ok (.iadd, 1) := by decide +kernel
theorem dL_law_1188 : decode cL_law 1188 = .ok (.iaload, 1) := by decide +kernel
theorem dL_law_1189 : decode cL_law 1189 = .ok (.invokevirtual 159, 3) := by decide +kernel
theorem dL_law_1192 : decode cL_law 1192 = .ok (.if_icmp .eq 330, 3) := by decide +kernel
theorem dL_law_1195 : decode cL_law 1195 = .ok (.iconst 0, 1) := by decide +kernel
theorem dL_law_1196 : decode cL_law 1196 = .ok (.ireturn, 1) := by decide +kernel
theorem dL_law_1197 : decode cL_law 1197 = .ok (.aload_n 1, 1) := by decide +kernel
theorem dL_law_1198 : decode cL_law 1198 = .ok (.aload_n 0, 1) := by decide +kernel
theorem dL_law_1199 : decode cL_law 1199 = .ok (.iload_n 3, 1) := by decide +kernel
theorem dL_law_1200 : decode cL_law 1200 = .ok (.iconst 1, 1) := by decide +kernel
theorem dL_law_1201 : decode cL_law 1201 = .ok (.iadd, 1) := by decide +kernel
theorem dL_law_1202 : decode cL_law 1202 = .ok (.iaload, 1) := by decide +kernel
theorem dL_law_1203 : decode cL_law 1203 = .ok (.invokevirtual 160, 3) := by decide +kernel
theorem dL_law_1206 : decode cL_law 1206 = .ok (.aload_n 2, 1) := by decide +kernel
theorem dL_law_1207 : decode cL_law 1207 = .ok (.aload_n 0, 1) := by decide +kernel
theorem dL_law_1208 : decode cL_law 1208 = .ok (.iload_n 3, 1) := by decide +kernel
theorem dL_law_1209 : decode cL_law 1209 = .ok (.iconst 1, 1) := by decide +kernel
theorem dL_law_1210 : decode cL_law 1210 = .ok (.iadd, 1) := by decide +kernel
theorem dL_law_1211 : decode cL_law 1211 = .ok (.iaload, 1) := by decide +kernel
theorem dL_law_1212 : decode cL_law 1212 = .ok (.invokevirtual 163, 3) := by decide +kernel
theorem dL_law_1215 : decode cL_law 1215 = .ok (.if_icmp .eq 307, 3) := by decide +kernel
theorem dL_law_1218 : decode cL_law 1218 = .ok (.iconst 0, 1) := by decide +kernel
theorem dL_law_1219 : decode cL_law 1219 = .ok (.ireturn, 1) := by decide +kernel
theorem dL_law_1220 : decode cL_law 1220 = .ok (.aload_n 1, 1) := by decide +kernel
theorem dL_law_1221 : decode cL_law 1221 = .ok (.aload_n 0, 1) := by decide +kernel
theorem dL_law_1222 : decode cL_law 1222 = .ok (.iload_n 3, 1) := by decide +kernel
theorem dL_law_1223 : decode cL_law 1223 = .ok (.iconst 1, 1) := by decide +kernel
theorem dL_law_1224 : decode cL_law 1224 = .ok (.iadd, 1) := by decide +kernel
theorem dL_law_1225 : decode cL_law 1225 = .ok (.iaload, 1) := by decide +kernel
theorem dL_law_1226 : decode cL_law 1226 = .ok (.aload_n 0, 1) := by decide +kernel
theorem dL_law_1227 : decode cL_law 1227 = .ok (.iload_n 3, 1) := by decide +kernel
theorem dL_law_1228 : decode cL_law 1228 = .ok (.iconst 2, 1) := by decide +kernel
theorem dL_law_1229 : decode cL_law 1229 = .ok (.iadd, 1) := by decide +kernel
theorem dL_law_1230 : decode cL_law 1230 = .ok (.iaload, 1) := by decide +kernel
theorem dL_law_1231 : decode cL_law 1231 = .ok (.ifCond .eq 7, 3) := by decide +kernel
theorem dL_law_1234 : decode cL_law 1234 = .ok (.iconst 1, 1) := by decide +kernel
theorem dL_law_1235 : decode cL_law 1235 = .ok (.goto 4, 3) := by decide +kernel
theorem dL_law_1238 : decode cL_law 1238 = .ok (.iconst 0, 1) := by decide +kernel
theorem dL_law_1239 : decode cL_law 1239 = .ok (.invokevirtual 164, 3) := by decide +kernel
theorem dL_law_1242 : decode cL_law 1242 = .ok (.aload_n 2, 1) := by decide +kernel
theorem dL_law_1243 : decode cL_law 1243 = .ok (.aload_n 0, 1) := by decide +kernel
theorem dL_law_1244 : decode cL_law 1244 = .ok (.iload_n 3, 1) := by decide +kernel
theorem dL_law_1245 : decode cL_law 1245 = .ok (.iconst 1, 1) := by decide +kernel
theorem dL_law_1246 : decode cL_law 1246 = .ok (.iadd, 1) := by decide +kernel
theorem dL_law_1247 : decode cL_law 1247 = .ok (.iaload, 1) := by decide +kernel
theorem dL_law_1248 : decode cL_law 1248 = .ok (.aload_n 0, 1) := by decide +kernel
theorem dL_law_1249 : decode cL_law 1249 = .ok (.iload_n 3, 1) := by decide +kernel
theorem dL_law_1250 : decode cL_law 1250 = .ok (.iconst 2, 1) := by decide +kernel
theorem dL_law_1251 : decode cL_law 1251 = .ok (.iadd, 1) := by decide +kernel
theorem dL_law_1252 : decode cL_law 1252 = .ok (.iaload, 1) := by decide +kernel
theorem dL_law_1253 : decode cL_law 1253 = .ok (.ifCond .eq 7, 3) := by decide +kernel
theorem dL_law_1256 : decode cL_law 1256 = .ok (.iconst 1, 1) := by decide +kernel
theorem dL_law_1257 : decode cL_law 1257 = .ok (.goto 4, 3) := by decide +kernel
theorem dL_law_1260 : decode cL_law 1260 = .ok (.iconst 0, 1) := by decide +kernel
theorem dL_law_1261 : decode cL_law 1261 = .ok (.invokevirtual 168, 3) := by decide +kernel
theorem dL_law_1264 : decode cL_law 1264 = .ok (.if_icmp .eq 258, 3) := by decide +kernel
theorem dL_law_1267 : decode cL_law 1267 = .ok (.iconst 0, 1) := by decide +kernel
theorem dL_law_1268 : decode cL_law 1268 = .ok (.ireturn, 1) := by decide +kernel
theorem dL_law_1269 : decode cL_law 1269 = .ok (.aload_n 1, 1) := by decide +kernel
theorem dL_law_1270 : decode cL_law 1270 = .ok (.aload_n 0, 1) := by decide +kernel
theorem dL_law_1271 : decode cL_law 1271 = .ok (.iload_n 3, 1) := by decide +kernel
theorem dL_law_1272 : decode cL_law 1272 = .ok (.iconst 1, 1) := by decide +kernel
theorem dL_law_1273 : decode cL_law 1273 = .ok (.iadd, 1) := by decide +kernel
theorem dL_law_1274 : decode cL_law 1274 = .ok (.iaload, 1) := by decide +kernel
theorem dL_law_1275 : decode cL_law 1275 = .ok (.aload_n 0, 1) := by decide +kernel
theorem dL_law_1276 : decode cL_law 1276 = .ok (.iload_n 3, 1) := by decide +kernel
theorem dL_law_1277 : decode cL_law 1277 = .ok (.iconst 2, 1) := by decide +kernel
theorem dL_law_1278 : decode cL_law 1278 = .ok (.iadd, 1) := by decide +kernel
theorem dL_law_1279 : decode cL_law 1279 = .ok (.iaload, 1) := by decide +kernel
theorem dL_law_1280 : decode cL_law 1280 = .ok (.ifCond .eq 7, 3) := by decide +kernel
theorem dL_law_1283 : decode cL_law 1283 = .ok (.iconst 1, 1) := by decide +kernel
theorem dL_law_1284 : decode cL_law 1284 = .ok (.goto 4, 3) := by decide +kernel
theorem dL_law_1287 : decode cL_law 1287 = .ok (.iconst 0, 1) := by decide +kernel
theorem dL_law_1288 : decode cL_law 1288 = .ok (.invokevirtual 169, 3) := by decide +kernel
theorem dL_law_1291 : decode cL_law 1291 = .ok (.aload_n 2, 1) := by decide +kernel
theorem dL_law_1292 : decode cL_law 1292 = .ok (.aload_n 0, 1) := by decide +kernel
theorem dL_law_1293 : decode cL_law 1293 = .ok (.iload_n 3, 1) := by decide +kernel
theorem dL_law_1294 : decode cL_law 1294 = .ok (.iconst 1, 1) := by decide +kernel
theorem dL_law_1295 : decode cL_law 1295 = .ok (.iadd, 1) := by decide +kernel
theorem dL_law_1296 : decode cL_law 1296 = .ok (.iaload, 1) := by decide +kernel
theorem dL_law_1297 : decode cL_law 1297 = .ok (.aload_n 0, 1) := by decide +kernel
theorem dL_law_1298 : decode cL_law 1298 = .ok (.iload_n 3, 1) := by decide +kernel
theorem dL_law_1299 : decode cL_law 1299 = .ok (.iconst 2, 1) := by decide +kernel
theorem dL_law_1300 : decode cL_law 1300 = .ok (.iadd, 1) := by decide +kernel
theorem dL_law_1301 : decode cL_law 1301 = .ok (.iaload, 1) := by decide +kernel
theorem dL_law_1302 : decode cL_law 1302 = .ok (.ifCond .eq 7, 3) := by decide +kernel
theorem dL_law_1305 : decode cL_law 1305 = .ok (.iconst 1, 1) := by decide +kernel
theorem dL_law_1306 : decode cL_law 1306 = .ok (.goto 4, 3) := by decide +kernel
theorem dL_law_1309 : decode cL_law 1309 = .ok (.iconst 0, 1) := by decide +kernel
theorem dL_law_1310 : decode cL_law 1310 = .ok (.invokevirtual 172, 3) := by decide +kernel
theorem dL_law_1313 : decode cL_law 1313 = .ok (.if_icmp .eq 209, 3) := by decide +kernel
theorem dL_law_1316 : decode cL_law 1316 = .ok (.iconst 0, 1) := by decide +kernel
theorem dL_law_1317 : decode cL_law 1317 = .ok (.ireturn, 1) := by decide +kernel
theorem dL_law_1318 : decode cL_law 1318 = .ok (.aload_n 1, 1) := by decide +kernel
theorem dL_law_1319 : decode cL_law 1319 = .ok (.aload_n 0, 1) := by decide +kernel
theorem dL_law_1320 : decode cL_law 1320 = .ok (.iload_n 3, 1) := by decide +kernel
theorem dL_law_1321 : decode cL_law 1321 = .ok (.iconst 1, 1) := by decide +kernel
theorem dL_law_1322 : decode cL_law 1322 = .ok (.iadd, 1) := by decide +kernel
theorem dL_law_1323 : decode cL_law 1323 = .ok (.iaload, 1) := by decide +kernel
theorem dL_law_1324 : decode cL_law 1324 = .ok (.invokevirtual 173, 3) := by decide +kernel
theorem dL_law_1327 : decode cL_law 1327 = .ok (.aload_n 2, 1) := by decide +kernel
theorem dL_law_1328 : decode cL_law 1328 = .ok (.aload_n 0, 1) := by decide +kernel
theorem dL_law_1329 : decode cL_law 1329 = .ok (.iload_n 3, 1) := by decide +kernel
theorem dL_law_1330 : decode cL_law 1330 = .ok (.iconst 1, 1) := by decide +kernel
theorem dL_law_1331 : decode cL_law 1331 = .ok (.iadd, 1) := by decide +kernel
theorem dL_law_1332 : decode cL_law 1332 = .ok (.iaload, 1) := by decide +kernel
theorem dL_law_1333 : decode cL_law 1333 = .ok (.invokevirtual 177, 3) := by decide +kernel
theorem dL_law_1336 : decode cL_law 1336 = .ok (.if_icmp .eq 186, 3) := by decide +kernel
theorem dL_law_1339 : decode cL_law 1339 = .ok (.iconst 0, 1) := by decide +kernel
theorem dL_law_1340 : decode cL_law 1340 = .ok (.ireturn, 1) := by decide +kernel
theorem dL_law_1341 : decode cL_law 1341 = .ok (.aload_n 1, 1) := by decide +kernel
theorem dL_law_1342 : decode cL_law 1342 = .ok (.aload_n 0, 1) := by decide +kernel
theorem dL_law_1343 : decode cL_law 1343 = .ok (.iload_n 3, 1) := by decide +kernel
theorem dL_law_1344 : decode cL_law 1344 = .ok (.iconst 1, 1) := by decide +kernel
theorem dL_law_1345 : decode cL_law 1345 = .ok (.iadd, 1) := by decide +kernel
theorem dL_law_1346 : decode cL_law 1346 = .ok (.iaload, 1) := by decide +kernel
theorem dL_law_1347 : decode cL_law 1347 = .ok (.invokevirtual 178, 3) := by decide +kernel
theorem dL_law_1350 : decode cL_law 1350 = .ok (.aload_n 2, 1) := by decide +kernel
theorem dL_law_1351 : decode cL_law 1351 = .ok (.aload_n 0, 1) := by decide +kernel
theorem dL_law_1352 : decode cL_law 1352 = .ok (.iload_n 3, 1) := by decide +kernel
theorem dL_law_1353 : decode cL_law 1353 = .ok (.iconst 1, 1) := by decide +kernel
theorem dL_law_1354 : decode cL_law 1354 = .ok (.iadd, 1) := by decide +kernel
theorem dL_law_1355 : decode cL_law 1355 = .ok (.iaload, 1) := by decide +kernel
theorem dL_law_1356 : decode cL_law 1356 = .ok (.invokevirtual 181, 3) := by decide +kernel
theorem dL_law_1359 : decode cL_law 1359 = .ok (.if_icmp .eq 163, 3) := by decide +kernel
theorem dL_law_1362 : decode cL_law 1362 = .ok (.iconst 0, 1) := by decide +kernel
theorem dL_law_1363 : decode cL_law 1363 = .ok (.ireturn, 1) := by decide +kernel
theorem dL_law_1364 : decode cL_law 1364 = .ok (.aload_n 1, 1) := by decide +kernel
theorem dL_law_1365 : decode cL_law 1365 = .ok (.aload_n 0, 1) := by decide +kernel
theorem dL_law_1366 : decode cL_law 1366 = .ok (.iload_n 3, 1) := by decide +kernel
theorem dL_law_1367 : decode cL_law 1367 = .ok (.iconst 1, 1) := by decide +kernel
theorem dL_law_1368 : decode cL_law 1368 = .ok (.iadd, 1) := by decide +kernel
theorem dL_law_1369 : decode cL_law 1369 = .ok (.iaload, 1) := by decide +kernel
theorem dL_law_1370 : decode cL_law 1370 = .ok (.invokevirtual 182, 3) := by decide +kernel
theorem dL_law_1373 : decode cL_law 1373 = .ok (.aload_n 2, 1) := by decide +kernel
theorem dL_law_1374 : decode cL_law 1374 = .ok (.aload_n 0, 1) := by decide +kernel
theorem dL_law_1375 : decode cL_law 1375 = .ok (.iload_n 3, 1) := by decide +kernel
theorem dL_law_1376 : decode cL_law 1376 = .ok (.iconst 1, 1) := by decide +kernel
theorem dL_law_1377 : decode cL_law 1377 = .ok (.iadd, 1) := by decide +kernel
theorem dL_law_1378 : decode cL_law 1378 = .ok (.iaload, 1) := by decide +kernel
theorem dL_law_1379 : decode cL_law 1379 = .ok (.invokevirtual 185, 3) := by decide +kernel
theorem dL_law_1382 : decode cL_law 1382 = .ok (.if_icmp .eq 140, 3) := by decide +kernel
theorem dL_law_1385 : decode cL_law 1385 = .ok (.iconst 0, 1) := by decide +kernel
theorem dL_law_1386 : decode cL_law 1386 = .ok (.ireturn, 1) := by decide +kernel
theorem dL_law_1387 : decode cL_law 1387 = .ok (.aload_n 1, 1) := by decide +kernel
theorem dL_law_1388 : decode cL_law 1388 = .ok (.aload_n 0, 1) := by decide +kernel
theorem dL_law_1389 : decode cL_law 1389 = .ok (.iload_n 3, 1) := by decide +kernel
theorem dL_law_1390 : decode cL_law 1390 = .ok (.iconst 1, 1) := by decide +kernel
theorem dL_law_1391 : decode cL_law 1391 = .ok (.iadd, 1) := by decide +kernel
theorem dL_law_1392 : decode cL_law 1392 = .ok (.iaload, 1) := by decide +kernel
theorem dL_law_1393 : decode cL_law 1393 = .ok (.aload_n 0, 1) := by decide +kernel
theorem dL_law_1394 : decode cL_law 1394 = .ok (.iload_n 3, 1) := by decide +kernel
theorem dL_law_1395 : decode cL_law 1395 = .ok (.iconst 2, 1) := by decide +kernel
theorem dL_law_1396 : decode cL_law 1396 = .ok (.iadd, 1) := by decide +kernel
theorem dL_law_1397 : decode cL_law 1397 = .ok (.iaload, 1) := by decide +kernel
theorem dL_law_1398 : decode cL_law 1398 = .ok (.invokevirtual 186, 3) := by decide +kernel
theorem dL_law_1401 : decode cL_law 1401 = .ok (.aload_n 2, 1) := by decide +kernel
theorem dL_law_1402 : decode cL_law 1402 = .ok (.aload_n 0, 1) := by decide +kernel
theorem dL_law_1403 : decode cL_law 1403 = .ok (.iload_n 3, 1) := by decide +kernel
theorem dL_law_1404 : decode cL_law 1404 = .ok (.iconst 1, 1) := by decide +kernel
theorem dL_law_1405 : decode cL_law 1405 = .ok (.iadd, 1) := by decide +kernel
theorem dL_law_1406 : decode cL_law 1406 = .ok (.iaload, 1) := by decide +kernel
theorem dL_law_1407 : decode cL_law 1407 = .ok (.aload_n 0, 1) := by decide +kernel
theorem dL_law_1408 : decode cL_law 1408 = .ok (.iload_n 3, 1) := by decide +kernel
theorem dL_law_1409 : decode cL_law 1409 = .ok (.iconst 2, 1) := by decide +kernel
theorem dL_law_1410 : decode cL_law 1410 = .ok (.iadd, 1) := by decide +kernel
theorem dL_law_1411 : decode cL_law 1411 = .ok (.iaload, 1) := by decide +kernel
theorem dL_law_1412 : decode cL_law 1412 = .ok (.invokevirtual 189, 3) := by decide +kernel
theorem dL_law_1415 : decode cL_law 1415 = .ok (.if_icmp .eq 107, 3) := by decide +kernel
theorem dL_law_1418 : decode cL_law 1418 = .ok (.iconst 0, 1) := by decide +kernel
theorem dL_law_1419 : decode cL_law 1419 = .ok (.ireturn, 1) := by decide +kernel
theorem dL_law_1420 : decode cL_law 1420 = .ok (.aload_n 1, 1) := by decide +kernel
theorem dL_law_1421 : decode cL_law 1421 = .ok (.aload_n 0, 1) := by decide +kernel
theorem dL_law_1422 : decode cL_law 1422 = .ok (.iload_n 3, 1) := by decide +kernel
theorem dL_law_1423 : decode cL_law 1423 = .ok (.iconst 1, 1) := by decide +kernel
theorem dL_law_1424 : decode cL_law 1424 = .ok (.iadd, 1) := by decide +kernel
theorem dL_law_1425 : decode cL_law 1425 = .ok (.iaload, 1) := by decide +kernel
theorem dL_law_1426 : decode cL_law 1426 = .ok (.aload_n 0, 1) := by decide +kernel
theorem dL_law_1427 : decode cL_law 1427 = .ok (.iload_n 3, 1) := by decide +kernel
theorem dL_law_1428 : decode cL_law 1428 = .ok (.iconst 2, 1) := by decide +kernel
theorem dL_law_1429 : decode cL_law 1429 = .ok (.iadd, 1) := by decide +kernel
theorem dL_law_1430 : decode cL_law 1430 = .ok (.iaload, 1) := by decide +kernel
theorem dL_law_1431 : decode cL_law 1431 = .ok (.invokevirtual 190, 3) := by decide +kernel
theorem dL_law_1434 : decode cL_law 1434 = .ok (.aload_n 2, 1) := by decide +kernel
theorem dL_law_1435 : decode cL_law 1435 = .ok (.aload_n 0, 1) := by decide +kernel
theorem dL_law_1436 : decode cL_law 1436 = .ok (.iload_n 3, 1) := by decide +kernel
theorem dL_law_1437 : decode cL_law 1437 = .ok (.iconst 1, 1) := by decide +kernel
theorem dL_law_1438 : decode cL_law 1438 = .ok (.iadd, 1) := by decide +kernel
theorem dL_law_1439 : decode cL_law 1439 = .ok (.iaload, 1) := by decide +kernel
theorem dL_law_1440 : decode cL_law 1440 = .ok (.aload_n 0, 1) := by decide +kernel
theorem dL_law_1441 : decode cL_law 1441 = .ok (.iload_n 3, 1) := by decide +kernel
theorem dL_law_1442 : decode cL_law 1442 = .ok (.iconst 2, 1) := by decide +kernel
theorem dL_law_1443 : decode cL_law 1443 = .ok (.iadd, 1) := by decide +kernel
theorem dL_law_1444 : decode cL_law 1444 = .ok (.iaload, 1) := by decide +kernel
theorem dL_law_1445 : decode cL_law 1445 = .ok (.invokevirtual 193, 3) := by decide +kernel
theorem dL_law_1448 : decode cL_law 1448 = .ok (.if_icmp .eq 74, 3) := by decide +kernel
theorem dL_law_1451 : decode cL_law 1451 = .ok (.iconst 0, 1) := by decide +kernel
theorem dL_law_1452 : decode cL_law 1452 = .ok (.ireturn, 1) := by decide +kernel
theorem dL_law_1453 : decode cL_law 1453 = .ok (.aload_n 1, 1) := by decide +kernel
theorem dL_law_1454 : decode cL_law 1454 = .ok (.aload_n 0, 1) := by decide +kernel
theorem dL_law_1455 : decode cL_law 1455 = .ok (.iload_n 3, 1) := by decide +kernel
theorem dL_law_1456 : decode cL_law 1456 = .ok (.iconst 1, 1) := by decide +kernel
theorem dL_law_1457 : decode cL_law 1457 = .ok (.iadd, 1) := by decide +kernel
theorem dL_law_1458 : decode cL_law 1458 = .ok (.iaload, 1) := by decide +kernel
theorem dL_law_1459 : decode cL_law 1459 = .ok (.invokevirtual 194, 3) := by decide +kernel
theorem dL_law_1462 : decode cL_law 1462 = .ok (.aload_n 2, 1) := by decide +kernel
theorem dL_law_1463 : decode cL_law 1463 = .ok (.aload_n 0, 1) := by decide +kernel
theorem dL_law_1464 : decode cL_law 1464 = .ok (.iload_n 3, 1) := by decide +kernel
theorem dL_law_1465 : decode cL_law 1465 = .ok (.iconst 1, 1) := by decide +kernel
theorem dL_law_1466 : decode cL_law 1466 = .ok (.iadd, 1) := by decide +kernel
theorem dL_law_1467 : decode cL_law 1467 = .ok (.iaload, 1) := by decide +kernel
theorem dL_law_1468 : decode cL_law 1468 = .ok (.invokevirtual 197, 3) := by decide +kernel
theorem dL_law_1471 : decode cL_law 1471 = .ok (.if_icmp .eq 51, 3) := by decide +kernel
theorem dL_law_1474 : decode cL_law 1474 = .ok (.iconst 0, 1) := by decide +kernel
theorem dL_law_1475 : decode cL_law 1475 = .ok (.ireturn, 1) := by decide +kernel
theorem dL_law_1476 : decode cL_law 1476 = .ok (.aload_n 1, 1) := by decide +kernel
theorem dL_law_1477 : decode cL_law 1477 = .ok (.aload_n 0, 1) := by decide +kernel
theorem dL_law_1478 : decode cL_law 1478 = .ok (.iload_n 3, 1) := by decide +kernel
theorem dL_law_1479 : decode cL_law 1479 = .ok (.iconst 1, 1) := by decide +kernel
theorem dL_law_1480 : decode cL_law 1480 = .ok (.iadd, 1) := by decide +kernel
theorem dL_law_1481 : decode cL_law 1481 = .ok (.iaload, 1) := by decide +kernel
theorem dL_law_1482 : decode cL_law 1482 = .ok (.invokevirtual 198, 3) := by decide +kernel
theorem dL_law_1485 : decode cL_law 1485 = .ok (.aload_n 2, 1) := by decide +kernel
theorem dL_law_1486 : decode cL_law 1486 = .ok (.aload_n 0, 1) := by decide +kernel
theorem dL_law_1487 : decode cL_law 1487 = .ok (.iload_n 3, 1) := by decide +kernel
theorem dL_law_1488 : decode cL_law 1488 = .ok (.iconst 1, 1) := by decide +kernel
theorem dL_law_1489 : decode cL_law 1489 = .ok (.iadd, 1) := by decide +kernel
theorem dL_law_1490 : decode cL_law 1490 = .ok (.iaload, 1) := by decide +kernel
theorem dL_law_1491 : decode cL_law 1491 = .ok (.invokevirtual 201, 3) := by decide +kernel
theorem dL_law_1494 : decode cL_law 1494 = .ok (.if_icmp .eq 28, 3) := by decide +kernel
theorem dL_law_1497 : decode cL_law 1497 = .ok (.iconst 0, 1) := by decide +kernel
theorem dL_law_1498 : decode cL_law 1498 = .ok (.ireturn, 1) := by decide +kernel
theorem dL_law_1499 : decode cL_law 1499 = .ok (.aload_n 1, 1) := by decide +kernel
theorem dL_law_1500 : decode cL_law 1500 = .ok (.aload_n 0, 1) := by decide +kernel
theorem dL_law_1501 : decode cL_law 1501 = .ok (.iload_n 3, 1) := by decide +kernel
theorem dL_law_1502 : decode cL_law 1502 = .ok (.iconst 1, 1) := by decide +kernel
theorem dL_law_1503 : decode cL_law 1503 = .ok (.iadd, 1) := by decide +kernel
theorem dL_law_1504 : decode cL_law 1504 = .ok (.iaload, 1) := by decide +kernel
theorem dL_law_1505 : decode cL_law 1505 = .ok (.invokevirtual 202, 3) := by decide +kernel
theorem dL_law_1508 : decode cL_law 1508 = .ok (.aload_n 2, 1) := by decide +kernel
theorem dL_law_1509 : decode cL_law 1509 = .ok (.aload_n 0, 1) := by decide +kernel
theorem dL_law_1510 : decode cL_law 1510 = .ok (.iload_n 3, 1) := by decide +kernel
theorem dL_law_1511 : decode cL_law 1511 = .ok (.iconst 1, 1) := by decide +kernel
theorem dL_law_1512 : decode cL_law 1512 = .ok (.iadd, 1) := by decide +kernel
theorem dL_law_1513 : decode cL_law 1513 = .ok (.iaload, 1) := by decide +kernel
theorem dL_law_1514 : decode cL_law 1514 = .ok (.invokevirtual 205, 3) := by decide +kernel
theorem dL_law_1517 : decode cL_law 1517 = .ok (.if_icmp .eq 5, 3) := by decide +kernel
theorem dL_law_1520 : decode cL_law 1520 = .ok (.iconst 0, 1) := by decide +kernel
theorem dL_law_1521 : decode cL_law 1521 = .ok (.ireturn, 1) := by decide +kernel
theorem dL_law_1522 : decode cL_law 1522 = .ok (.iinc 3 6, 3) := by decide +kernel
theorem dL_law_1525 : decode cL_law 1525 = .ok (.goto (-1507), 3) := by decide +kernel
theorem dL_law_1528 : decode cL_law 1528 = .ok (.iconst 1, 1) := by decide +kernel
theorem dL_law_1529 : decode cL_law 1529 = .ok (.ireturn, 1) := by decide +kernel
