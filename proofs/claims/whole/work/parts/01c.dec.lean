theorem dX6_advance_147 : decode cX6_advance 147 = .ok (.putfield 53, 3) := by decide +kernel
theorem dX6_advance_150 : decode cX6_advance 150 = .ok (.return_, 1) := by decide +kernel
theorem dX6_scanWord_0 : decode cX6_scanWord 0 = .ok (.aload_n 0, 1) := by decide +kernel
theorem dX6_scanWord_1 : decode cX6_scanWord 1 = .ok (.lconst 0, 1) := by decide +kernel
theorem dX6_scanWord_2 : decode cX6_scanWord 2 = .ok (.putfield 199, 3) := by decide +kernel
theorem dX6_scanWord_5 : decode cX6_scanWord 5 = .ok (.iconst 0, 1) := by decide +kernel
theorem dX6_scanWord_6 : decode cX6_scanWord 6 = .ok (.istore_n 1, 1) := by decide +kernel
theorem dX6_scanWord_7 : decode cX6_scanWord 7 = .ok (.iload_n 1, 1) := by decide +kernel
theorem dX6_scanWord_8 : decode cX6_scanWord 8 = .ok (.sipush 1600, 3) := by decide +kernel
theorem dX6_scanWord_11 : decode cX6_scanWord 11 = .ok (.if_icmp .ge 52, 3) := by decide +kernel
theorem dX6_scanWord_14 : decode cX6_scanWord 14 = .ok (.aload_n 0, 1) := by decide +kernel
theorem dX6_scanWord_15 : decode cX6_scanWord 15 = .ok (.aload_n 0, 1) := by decide +kernel
theorem dX6_scanWord_16 : decode cX6_scanWord 16 = .ok (.getfield 53, 3) := by decide +kernel
theorem dX6_scanWord_19 : decode cX6_scanWord 19 = .ok (.invokevirtual 212, 3) := by decide +kernel
theorem dX6_scanWord_22 : decode cX6_scanWord 22 = .ok (.invokestatic 219, 3) := by decide +kernel
theorem dX6_scanWord_25 : decode cX6_scanWord 25 = .ok (.ifCond .eq 38, 3) := by decide +kernel
theorem dX6_scanWord_28 : decode cX6_scanWord 28 = .ok (.aload_n 0, 1) := by decide +kernel
theorem dX6_scanWord_29 : decode cX6_scanWord 29 = .ok (.aload_n 0, 1) := by decide +kernel
theorem dX6_scanWord_30 : decode cX6_scanWord 30 = .ok (.getfield 199, 3) := by decide +kernel
theorem dX6_scanWord_33 : decode cX6_scanWord 33 = .ok (.aload_n 0, 1) := by decide +kernel
theorem dX6_scanWord_34 : decode cX6_scanWord 34 = .ok (.aload_n 0, 1) := by decide +kernel
theorem dX6_scanWord_35 : decode cX6_scanWord 35 = .ok (.getfield 53, 3) := by decide +kernel
theorem dX6_scanWord_38 : decode cX6_scanWord 38 = .ok (.invokevirtual 212, 3) := by decide +kernel
theorem dX6_scanWord_41 : decode cX6_scanWord 41 = .ok (.invokestatic 35, 3) := by decide +kernel
theorem dX6_scanWord_44 : decode cX6_scanWord 44 = .ok (.putfield 199, 3) := by decide +kernel
theorem dX6_scanWord_47 : decode cX6_scanWord 47 = .ok (.aload_n 0, 1) := by decide +kernel
theorem dX6_scanWord_48 : decode cX6_scanWord 48 = .ok (.dup, 1) := by decide +kernel
theorem dX6_scanWord_49 : decode cX6_scanWord 49 = .ok (.getfield 53, 3) := by decide +kernel
theorem dX6_scanWord_52 : decode cX6_scanWord 52 = .ok (.iconst 1, 1) := by decide +kernel
theorem dX6_scanWord_53 : decode cX6_scanWord 53 = .ok (.iadd, 1) := by decide +kernel
theorem dX6_scanWord_54 : decode cX6_scanWord 54 = .ok (.putfield 53, 3) := by decide +kernel
theorem dX6_scanWord_57 : decode cX6_scanWord 57 = .ok (.iinc 1 1, 3) := by decide +kernel
theorem dX6_scanWord_60 : decode cX6_scanWord 60 = .ok (.goto (-53), 3) := by decide +kernel
theorem dX6_scanWord_63 : decode cX6_scanWord 63 = .ok (.aload_n 0, 1) := by decide +kernel
theorem dX6_scanWord_64 : decode cX6_scanWord 64 = .ok (.aload_n 0, 1) := by decide +kernel
theorem dX6_scanWord_65 : decode cX6_scanWord 65 = .ok (.getfield 53, 3) := by decide +kernel
theorem dX6_scanWord_68 : decode cX6_scanWord 68 = .ok (.aload_n 0, 1) := by decide +kernel
theorem dX6_scanWord_69 : decode cX6_scanWord 69 = .ok (.getfield 209, 3) := by decide +kernel
theorem dX6_scanWord_72 : decode cX6_scanWord 72 = .ok (.isub, 1) := by decide +kernel
theorem dX6_scanWord_73 : decode cX6_scanWord 73 = .ok (.bipush 8, 2) := by decide +kernel
theorem dX6_scanWord_75 : decode cX6_scanWord 75 = .ok (.if_icmp .le 7, 3) := by decide +kernel
theorem dX6_scanWord_78 : decode cX6_scanWord 78 = .ok (.iconst 4, 1) := by decide +kernel
theorem dX6_scanWord_79 : decode cX6_scanWord 79 = .ok (.goto 4, 3) := by decide +kernel
theorem dX6_scanWord_82 : decode cX6_scanWord 82 = .ok (.iconst 1, 1) := by decide +kernel
theorem dX6_scanWord_83 : decode cX6_scanWord 83 = .ok (.putfield 67, 3) := by decide +kernel
theorem dX6_scanWord_86 : decode cX6_scanWord 86 = .ok (.aload_n 0, 1) := by decide +kernel
theorem dX6_scanWord_87 : decode cX6_scanWord 87 = .ok (.iconst (-1), 1) := by decide +kernel
theorem dX6_scanWord_88 : decode cX6_scanWord 88 = .ok (.putfield 73, 3) := by decide +kernel
theorem dX6_scanWord_91 : decode cX6_scanWord 91 = .ok (.iconst 0, 1) := by decide +kernel
theorem dX6_scanWord_92 : decode cX6_scanWord 92 = .ok (.istore_n 1, 1) := by decide +kernel
theorem dX6_scanWord_93 : decode cX6_scanWord 93 = .ok (.iload_n 1, 1) := by decide +kernel
theorem dX6_scanWord_94 : decode cX6_scanWord 94 = .ok (.bipush 19, 2) := by decide +kernel
theorem dX6_scanWord_96 : decode cX6_scanWord 96 = .ok (.if_icmp .ge 28, 3) := by decide +kernel
theorem dX6_scanWord_99 : decode cX6_scanWord 99 = .ok (.aload_n 0, 1) := by decide +kernel
theorem dX6_scanWord_100 : decode cX6_scanWord 100 = .ok (.getfield 19, 3) := by decide +kernel
theorem dX6_scanWord_103 : decode cX6_scanWord 103 = .ok (.iload_n 1, 1) := by decide +kernel
theorem dX6_scanWord_104 : decode cX6_scanWord 104 = .ok (.laload, 1) := by decide +kernel
theorem dX6_scanWord_105 : decode cX6_scanWord 105 = .ok (.aload_n 0, 1) := by decide +kernel
theorem dX6_scanWord_106 : decode cX6_scanWord 106 = .ok (.getfield 199, 3) := by decide +kernel
theorem dX6_scanWord_109 : decode cX6_scanWord 109 = .ok (.lcmp, 1) := by decide +kernel
theorem dX6_scanWord_110 : decode cX6_scanWord 110 = .ok (.ifCond .ne 8, 3) := by decide +kernel
theorem dX6_scanWord_113 : decode cX6_scanWord 113 = .ok (.aload_n 0, 1) := by decide +kernel
theorem dX6_scanWord_114 : decode cX6_scanWord 114 = .ok (.iload_n 1, 1) := by decide +kernel
theorem dX6_scanWord_115 : decode cX6_scanWord 115 = .ok (.putfield 73, 3) := by decide +kernel
theorem dX6_scanWord_118 : decode cX6_scanWord 118 = .ok (.iinc 1 1, 3) := by decide +kernel
theorem dX6_scanWord_121 : decode cX6_scanWord 121 = .ok (.goto (-28), 3) := by decide +kernel
theorem dX6_scanWord_124 : decode cX6_scanWord 124 = .ok (.return_, 1) := by decide +kernel
theorem dX6_scanNumber_0 : decode cX6_scanNumber 0 = .ok (.aload_n 0, 1) := by decide +kernel
theorem dX6_scanNumber_1 : decode cX6_scanNumber 1 = .ok (.iconst 0, 1) := by decide +kernel
theorem dX6_scanNumber_2 : decode cX6_scanNumber 2 = .ok (.putfield 196, 3) := by decide +kernel
theorem dX6_scanNumber_5 : decode cX6_scanNumber 5 = .ok (.iconst 0, 1) := by decide +kernel
theorem dX6_scanNumber_6 : decode cX6_scanNumber 6 = .ok (.istore_n 1, 1) := by decide +kernel
theorem dX6_scanNumber_7 : decode cX6_scanNumber 7 = .ok (.iload_n 1, 1) := by decide +kernel
theorem dX6_scanNumber_8 : decode cX6_scanNumber 8 = .ok (.sipush 1600, 3) := by decide +kernel
theorem dX6_scanNumber_11 : decode cX6_scanNumber 11 = .ok (.if_icmp .ge 56, 3) := by decide +kernel
theorem dX6_scanNumber_14 : decode cX6_scanNumber 14 = .ok (.aload_n 0, 1) := by decide +kernel
theorem dX6_scanNumber_15 : decode cX6_scanNumber 15 = .ok (.aload_n 0, 1) := by decide +kernel
theorem dX6_scanNumber_16 : decode cX6_scanNumber 16 = .ok (.getfield 53, 3) := by decide +kernel
theorem dX6_scanNumber_19 : decode cX6_scanNumber 19 = .ok (.invokevirtual 212, 3) := by decide +kernel
theorem dX6_scanNumber_22 : decode cX6_scanNumber 22 = .ok (.invokestatic 225, 3) := by decide +kernel
theorem dX6_scanNumber_25 : decode cX6_scanNumber 25 = .ok (.ifCond .eq 42, 3) := by decide +kernel
theorem dX6_scanNumber_28 : decode cX6_scanNumber 28 = .ok (.aload_n 0, 1) := by decide +kernel
theorem dX6_scanNumber_29 : decode cX6_scanNumber 29 = .ok (.aload_n 0, 1) := by decide +kernel
theorem dX6_scanNumber_30 : decode cX6_scanNumber 30 = .ok (.getfield 196, 3) := by decide +kernel
theorem dX6_scanNumber_33 : decode cX6_scanNumber 33 = .ok (.bipush 10, 2) := by decide +kernel
theorem dX6_scanNumber_35 : decode cX6_scanNumber 35 = .ok (.imul, 1) := by decide +kernel
theorem dX6_scanNumber_36 : decode cX6_scanNumber 36 = .ok (.aload_n 0, 1) := by decide +kernel
theorem dX6_scanNumber_37 : decode cX6_scanNumber 37 = .ok (.aload_n 0, 1) := by decide +kernel
theorem dX6_scanNumber_38 : decode cX6_scanNumber 38 = .ok (.getfield 53, 3) := by decide +kernel
theorem dX6_scanNumber_41 : decode cX6_scanNumber 41 = .ok (.invokevirtual 212, 3) := by decide +kernel
theorem dX6_scanNumber_44 : decode cX6_scanNumber 44 = .ok (.bipush 48, 2) := by decide +kernel
theorem dX6_scanNumber_46 : decode cX6_scanNumber 46 = .ok (.isub, 1) := by decide +kernel
theorem dX6_scanNumber_47 : decode cX6_scanNumber 47 = .ok (.iadd, 1) := by decide +kernel
theorem dX6_scanNumber_48 : decode cX6_scanNumber 48 = .ok (.putfield 196, 3) := by decide +kernel
theorem dX6_scanNumber_51 : decode cX6_scanNumber 51 = .ok (.aload_n 0, 1) := by decide +kernel
theorem dX6_scanNumber_52 : decode cX6_scanNumber 52 = .ok (.dup, 1) := by decide +kernel
theorem dX6_scanNumber_53 : decode cX6_scanNumber 53 = .ok (.getfield 53, 3) := by decide +kernel
theorem dX6_scanNumber_56 : decode cX6_scanNumber 56 = .ok (.iconst 1, 1) := by decide +kernel
theorem dX6_scanNumber_57 : decode cX6_scanNumber 57 = .ok (.iadd, 1) := by decide +kernel
theorem dX6_scanNumber_58 : decode cX6_scanNumber 58 = .ok (.putfield 53, 3) := by decide +kernel
theorem dX6_scanNumber_61 : decode cX6_scanNumber 61 = .ok (.iinc 1 1, 3) := by decide +kernel
theorem dX6_scanNumber_64 : decode cX6_scanNumber 64 = .ok (.goto (-57), 3) := by decide +kernel
theorem dX6_scanNumber_67 : decode cX6_scanNumber 67 = .ok (.aload_n 0, 1) := by decide +kernel
theorem dX6_scanNumber_68 : decode cX6_scanNumber 68 = .ok (.aload_n 0, 1) := by decide +kernel
theorem dX6_scanNumber_69 : decode cX6_scanNumber 69 = .ok (.getfield 53, 3) := by decide +kernel
theorem dX6_scanNumber_72 : decode cX6_scanNumber 72 = .ok (.aload_n 0, 1) := by decide +kernel
theorem dX6_scanNumber_73 : decode cX6_scanNumber 73 = .ok (.getfield 209, 3) := by decide +kernel
theorem dX6_scanNumber_76 : decode cX6_scanNumber 76 = .ok (.isub, 1) := by decide +kernel
theorem dX6_scanNumber_77 : decode cX6_scanNumber 77 = .ok (.iconst 4, 1) := by decide +kernel
theorem dX6_scanNumber_78 : decode cX6_scanNumber 78 = .ok (.if_icmp .gt 17, 3) := by decide +kernel
theorem dX6_scanNumber_81 : decode cX6_scanNumber 81 = .ok (.aload_n 0, 1) := by decide +kernel
theorem dX6_scanNumber_82 : decode cX6_scanNumber 82 = .ok (.aload_n 0, 1) := by decide +kernel
theorem dX6_scanNumber_83 : decode cX6_scanNumber 83 = .ok (.getfield 53, 3) := by decide +kernel
theorem dX6_scanNumber_86 : decode cX6_scanNumber 86 = .ok (.invokevirtual 212, 3) := by decide +kernel
theorem dX6_scanNumber_89 : decode cX6_scanNumber 89 = .ok (.invokestatic 219, 3) := by decide +kernel
theorem dX6_scanNumber_92 : decode cX6_scanNumber 92 = .ok (.ifCond .eq 7, 3) := by decide +kernel
theorem dX6_scanNumber_95 : decode cX6_scanNumber 95 = .ok (.iconst 4, 1) := by decide +kernel
theorem dX6_scanNumber_96 : decode cX6_scanNumber 96 = .ok (.goto 4, 3) := by decide +kernel
theorem dX6_scanNumber_99 : decode cX6_scanNumber 99 = .ok (.iconst 2, 1) := by decide +kernel
theorem dX6_scanNumber_100 : decode cX6_scanNumber 100 = .ok (.putfield 67, 3) := by decide +kernel
theorem dX6_scanNumber_103 : decode cX6_scanNumber 103 = .ok (.return_, 1) := by decide +kernel
theorem dX7_init_0 : decode cX7_init 0 = .ok (.aload_n 0, 1) := by decide +kernel
theorem dX7_init_1 : decode cX7_init 1 = .ok (.invokespecial 3, 3) := by decide +kernel
theorem dX7_init_4 : decode cX7_init 4 = .ok (.aload_n 0, 1) := by decide +kernel
theorem dX7_init_5 : decode cX7_init 5 = .ok (.iconst 3, 1) := by decide +kernel
theorem dX7_init_6 : decode cX7_init 6 = .ok (.newarray .long, 2) := by decide +kernel
theorem dX7_init_8 : decode cX7_init 8 = .ok (.putfield 9, 3) := by decide +kernel
theorem dX7_init_11 : decode cX7_init 11 = .ok (.aload_n 0, 1) := by decide +kernel
theorem dX7_init_12 : decode cX7_init 12 = .ok (.iconst 3, 1) := by decide +kernel
theorem dX7_init_13 : decode cX7_init 13 = .ok (.newarray .int, 2) := by decide +kernel
theorem dX7_init_15 : decode cX7_init 15 = .ok (.putfield 15, 3) := by decide +kernel
theorem dX7_init_18 : decode cX7_init 18 = .ok (.aload_n 0, 1) := by decide +kernel
theorem dX7_init_19 : decode cX7_init 19 = .ok (.iconst 3, 1) := by decide +kernel
theorem dX7_init_20 : decode cX7_init 20 = .ok (.newarray .int, 2) := by decide +kernel
theorem dX7_init_22 : decode cX7_init 22 = .ok (.putfield 19, 3) := by decide +kernel
theorem dX7_init_25 : decode cX7_init 25 = .ok (.aload_n 0, 1) := by decide +kernel
theorem dX7_init_26 : decode cX7_init 26 = .ok (.iconst 3, 1) := by decide +kernel
theorem dX7_init_27 : decode cX7_init 27 = .ok (.newarray .int, 2) := by decide +kernel
theorem dX7_init_29 : decode cX7_init 29 = .ok (.putfield 22, 3) := by decide +kernel
theorem dX7_init_32 : decode cX7_init 32 = .ok (.aload_n 0, 1) := by decide +kernel
theorem dX7_init_33 : decode cX7_init 33 = .ok (.bipush 6, 2) := by decide +kernel
theorem dX7_init_35 : decode cX7_init 35 = .ok (.newarray .long, 2) := by decide +kernel
theorem dX7_init_37 : decode cX7_init 37 = .ok (.putfield 25, 3) := by decide +kernel
theorem dX7_init_40 : decode cX7_init 40 = .ok (.aload_n 0, 1) := by decide +kernel
theorem dX7_init_41 : decode cX7_init 41 = .ok (.bipush 6, 2) := by decide +kernel
theorem dX7_init_43 : decode cX7_init 43 = .ok (.newarray .int, 2) := by decide +kernel
theorem dX7_init_45 : decode cX7_init 45 = .ok (.putfield 28, 3) := by decide +kernel
theorem dX7_init_48 : decode cX7_init 48 = .ok (.aload_n 0, 1) := by decide +kernel
theorem dX7_init_49 : decode cX7_init 49 = .ok (.bipush 6, 2) := by decide +kernel
theorem dX7_init_51 : decode cX7_init 51 = .ok (.newarray .int, 2) := by decide +kernel
theorem dX7_init_53 : decode cX7_init 53 = .ok (.putfield 31, 3) := by decide +kernel
theorem dX7_init_56 : decode cX7_init 56 = .ok (.aload_n 0, 1) := by decide +kernel
theorem dX7_init_57 : decode cX7_init 57 = .ok (.bipush 6, 2) := by decide +kernel
theorem dX7_init_59 : decode cX7_init 59 = .ok (.newarray .int, 2) := by decide +kernel
theorem dX7_init_61 : decode cX7_init 61 = .ok (.putfield 34, 3) := by decide +kernel
theorem dX7_init_64 : decode cX7_init 64 = .ok (.aload_n 0, 1) := by decide +kernel
theorem dX7_init_65 : decode cX7_init 65 = .ok (.new 37, 3) := by decide +kernel
theorem dX7_init_68 : decode cX7_init 68 = .ok (.dup, 1) := by decide +kernel
theorem dX7_init_69 : decode cX7_init 69 = .ok (.iconst 1, 1) := by decide +kernel
theorem dX7_init_70 : decode cX7_init 70 = .ok (.invokespecial 39, 3) := by decide +kernel
theorem dX7_init_73 : decode cX7_init 73 = .ok (.putfield 42, 3) := by decide +kernel
theorem dX7_init_76 : decode cX7_init 76 = .ok (.aload_n 0, 1) := by decide +kernel
theorem dX7_init_77 : decode cX7_init 77 = .ok (.new 37, 3) := by decide +kernel
theorem dX7_init_80 : decode cX7_init 80 = .ok (.dup, 1) := by decide +kernel
theorem dX7_init_81 : decode cX7_init 81 = .ok (.iconst 0, 1) := by decide +kernel
theorem dX7_init_82 : decode cX7_init 82 = .ok (.invokespecial 39, 3) := by decide +kernel
theorem dX7_init_85 : decode cX7_init 85 = .ok (.putfield 46, 3) := by decide +kernel
theorem dX7_init_88 : decode cX7_init 88 = .ok (.aload_n 0, 1) := by decide +kernel
theorem dX7_init_89 : decode cX7_init 89 = .ok (.iconst 1, 1) := by decide +kernel
theorem dX7_init_90 : decode cX7_init 90 = .ok (.putfield 49, 3) := by decide +kernel
theorem dX7_init_93 : decode cX7_init 93 = .ok (.return_, 1) := by decide +kernel
theorem dX7_clear_0 : decode cX7_clear 0 = .ok (.aload_n 0, 1) := by decide +kernel
theorem dX7_clear_1 : decode cX7_clear 1 = .ok (.iconst 0, 1) := by decide +kernel
theorem dX7_clear_2 : decode cX7_clear 2 = .ok (.putfield 53, 3) := by decide +kernel
theorem dX7_clear_5 : decode cX7_clear 5 = .ok (.aload_n 0, 1) := by decide +kernel
theorem dX7_clear_6 : decode cX7_clear 6 = .ok (.iconst 0, 1) := by decide +kernel
theorem dX7_clear_7 : decode cX7_clear 7 = .ok (.putfield 56, 3) := by decide +kernel
theorem dX7_clear_10 : decode cX7_clear 10 = .ok (.aload_n 0, 1) := by decide +kernel
theorem dX7_clear_11 : decode cX7_clear 11 = .ok (.getfield 42, 3) := by decide +kernel
theorem dX7_clear_14 : decode cX7_clear 14 = .ok (.iconst 1, 1) := by decide +kernel
theorem dX7_clear_15 : decode cX7_clear 15 = .ok (.invokevirtual 59, 3) := by decide +kernel
theorem dX7_clear_18 : decode cX7_clear 18 = .ok (.aload_n 0, 1) := by decide +kernel
theorem dX7_clear_19 : decode cX7_clear 19 = .ok (.getfield 46, 3) := by decide +kernel
theorem dX7_clear_22 : decode cX7_clear 22 = .ok (.iconst 0, 1) := by decide +kernel
theorem dX7_clear_23 : decode cX7_clear 23 = .ok (.invokevirtual 59, 3) := by decide +kernel
theorem dX7_clear_26 : decode cX7_clear 26 = .ok (.aload_n 0, 1) := by decide +kernel
theorem dX7_clear_27 : decode cX7_clear 27 = .ok (.iconst 1, 1) := by decide +kernel
theorem dX7_clear_28 : decode cX7_clear 28 = .ok (.putfield 49, 3) := by decide +kernel
theorem dX7_clear_31 : decode cX7_clear 31 = .ok (.aload_n 0, 1) := by decide +kernel
theorem dX7_clear_32 : decode cX7_clear 32 = .ok (.iconst 0, 1) := by decide +kernel
theorem dX7_clear_33 : decode cX7_clear 33 = .ok (.putfield 62, 3) := by decide +kernel
theorem dX7_clear_36 : decode cX7_clear 36 = .ok (.aload_n 0, 1) := by decide +kernel
theorem dX7_clear_37 : decode cX7_clear 37 = .ok (.iconst 0, 1) := by decide +kernel
theorem dX7_clear_38 : decode cX7_clear 38 = .ok (.putfield 66, 3) := by decide +kernel
theorem dX7_clear_41 : decode cX7_clear 41 = .ok (.aload_n 0, 1) := by decide +kernel
theorem dX7_clear_42 : decode cX7_clear 42 = .ok (.iconst 0, 1) := by decide +kernel
theorem dX7_clear_43 : decode cX7_clear 43 = .ok (.putfield 69, 3) := by decide +kernel
theorem dX7_clear_46 : decode cX7_clear 46 = .ok (.return_, 1) := by decide +kernel
theorem dX7_takeFrom_0 : decode cX7_takeFrom 0 = .ok (.aload_n 0, 1) := by decide +kernel
theorem dX7_takeFrom_1 : decode cX7_takeFrom 1 = .ok (.aload_n 1, 1) := by decide +kernel
theorem dX7_takeFrom_2 : decode cX7_takeFrom 2 = .ok (.getfield 53, 3) := by decide +kernel
theorem dX7_takeFrom_5 : decode cX7_takeFrom 5 = .ok (.putfield 53, 3) := by decide +kernel
theorem dX7_takeFrom_8 : decode cX7_takeFrom 8 = .ok (.iconst 0, 1) := by decide +kernel
theorem dX7_takeFrom_9 : decode cX7_takeFrom 9 = .ok (.istore_n 2, 1) := by decide +kernel
theorem dX7_takeFrom_10 : decode cX7_takeFrom 10 = .ok (.iload_n 2, 1) := by decide +kernel
theorem dX7_takeFrom_11 : decode cX7_takeFrom 11 = .ok (.iconst 3, 1) := by decide +kernel
theorem dX7_takeFrom_12 : decode cX7_takeFrom 12 = .ok (.if_icmp .ge 45, 3) := by decide +kernel
theorem dX7_takeFrom_15 : decode cX7_takeFrom 15 = .ok (.aload_n 0, 1) := by decide +kernel
theorem dX7_takeFrom_16 : decode cX7_takeFrom 16 = .ok (.getfield 15, 3) := by decide +kernel
theorem dX7_takeFrom_19 : decode cX7_takeFrom 19 = .ok (.iload_n 2, 1) := by decide +kernel
theorem dX7_takeFrom_20 : decode cX7_takeFrom 20 = .ok (.aload_n 1, 1) := by decide +kernel
theorem dX7_takeFrom_21 : decode cX7_takeFrom 21 = .ok (.getfield 15, 3) := by decide +kernel
theorem dX7_takeFrom_24 : decode cX7_takeFrom 24 = .ok (.iload_n 2, 1) := by decide +kernel
theorem dX7_takeFrom_25 : decode cX7_takeFrom 25 = .ok (.iaload, 1) := by decide +kernel
theorem dX7_takeFrom_26 : decode cX7_takeFrom 26 = .ok (.iastore, 1) := by decide +kernel
theorem dX7_takeFrom_27 : decode cX7_takeFrom 27 = .ok (.aload_n 0, 1) := by decide +kernel
theorem dX7_takeFrom_28 : decode cX7_takeFrom 28 = .ok (.getfield 19, 3) := by decide +kernel
theorem dX7_takeFrom_31 : decode cX7_takeFrom 31 = .ok (.iload_n 2, 1) := by decide +kernel
theorem dX7_takeFrom_32 : decode cX7_takeFrom 32 = .ok (.aload_n 1, 1) := by decide +kernel
theorem dX7_takeFrom_33 : decode cX7_takeFrom 33 = .ok (.getfield 19, 3) := by decide +kernel
theorem dX7_takeFrom_36 : decode cX7_takeFrom 36 = .ok (.iload_n 2, 1) := by decide +kernel
theorem dX7_takeFrom_37 : decode cX7_takeFrom 37 = .ok (.iaload, 1) := by decide +kernel
theorem dX7_takeFrom_38 : decode cX7_takeFrom 38 = .ok (.iastore, 1) := by decide +kernel
theorem dX7_takeFrom_39 : decode cX7_takeFrom 39 = .ok (.aload_n 0, 1) := by decide +kernel
theorem dX7_takeFrom_40 : decode cX7_takeFrom 40 = .ok (.getfield 22, 3) := by decide +kernel
theorem dX7_takeFrom_43 : decode cX7_takeFrom 43 = .ok (.iload_n 2, 1) := by decide +kernel
theorem dX7_takeFrom_44 : decode cX7_takeFrom 44 = .ok (.aload_n 1, 1) := by decide +kernel
theorem dX7_takeFrom_45 : decode cX7_takeFrom 45 = .ok (.getfield 22, 3) := by decide +kernel
theorem dX7_takeFrom_48 : decode cX7_takeFrom 48 = .ok (.iload_n 2, 1) := by decide +kernel
theorem dX7_takeFrom_49 : decode cX7_takeFrom 49 = .ok (.iaload, 1) := by decide +kernel
theorem dX7_takeFrom_50 : decode cX7_takeFrom 50 = .ok (.iastore, 1) := by decide +kernel
theorem dX7_takeFrom_51 : decode cX7_takeFrom 51 = .ok (.iinc 2 1, 3) := by decide +kernel
theorem dX7_takeFrom_54 : decode cX7_takeFrom 54 = .ok (.goto (-44), 3) := by decide +kernel
theorem dX7_takeFrom_57 : decode cX7_takeFrom 57 = .ok (.aload_n 0, 1) := by decide +kernel
theorem dX7_takeFrom_58 : decode cX7_takeFrom 58 = .ok (.aload_n 1, 1) := by decide +kernel
theorem dX7_takeFrom_59 : decode cX7_takeFrom 59 = .ok (.getfield 56, 3) := by decide +kernel
theorem dX7_takeFrom_62 : decode cX7_takeFrom 62 = .ok (.putfield 56, 3) := by decide +kernel
theorem dX7_takeFrom_65 : decode cX7_takeFrom 65 = .ok (.iconst 0, 1) := by decide +kernel
theorem dX7_takeFrom_66 : decode cX7_takeFrom 66 = .ok (.istore_n 2, 1) := by decide +kernel
theorem dX7_takeFrom_67 : decode cX7_takeFrom 67 = .ok (.iload_n 2, 1) := by decide +kernel
theorem dX7_takeFrom_68 : decode cX7_takeFrom 68 = .ok (.bipush 6, 2) := by decide +kernel
theorem dX7_takeFrom_70 : decode cX7_takeFrom 70 = .ok (.if_icmp .ge 45, 3) := by decide +kernel
theorem dX7_takeFrom_73 : decode cX7_takeFrom 73 = .ok (.aload_n 0, 1) := by decide +kernel
theorem dX7_takeFrom_74 : decode cX7_takeFrom 74 = .ok (.getfield 28, 3) := by decide +kernel
theorem dX7_takeFrom_77 : decode cX7_takeFrom 77 = .ok (.iload_n 2, 1) := by decide +kernel
theorem dX7_takeFrom_78 : decode cX7_takeFrom 78 = .ok (.aload_n 1, 1) := by decide +kernel
theorem dX7_takeFrom_79 : decode cX7_takeFrom 79 = .ok (.getfield 28, 3) := by decide +kernel
theorem dX7_takeFrom_82 : decode cX7_takeFrom 82 = .ok (.iload_n 2, 1) := by decide +kernel
theorem dX7_takeFrom_83 : decode cX7_takeFrom 83 = .ok (.iaload, 1) := by decide +kernel
theorem dX7_takeFrom_84 : decode cX7_takeFrom 84 = .ok (.iastore, 1) := by decide +kernel
theorem dX7_takeFrom_85 : decode cX7_takeFrom 85 = .ok (.aload_n 0, 1) := by decide +kernel
theorem dX7_takeFrom_86 : decode cX7_takeFrom 86 = .ok (.getfield 31, 3) := by decide +kernel
theorem dX7_takeFrom_89 : decode cX7_takeFrom 89 = .ok (.iload_n 2, 1) := by decide +kernel
theorem dX7_takeFrom_90 : decode cX7_takeFrom 90 = .ok (.aload_n 1, 1) := by decide +kernel
theorem dX7_takeFrom_91 : decode cX7_takeFrom 91 = .ok (.getfield 31, 3) := by decide +kernel
theorem dX7_takeFrom_94 : decode cX7_takeFrom 94 = .ok (.iload_n 2, 1) := by decide +kernel
theorem dX7_takeFrom_95 : decode cX7_takeFrom 95 = .ok (.iaload, 1) := by decide +kernel
theorem dX7_takeFrom_96 : decode cX7_takeFrom 96 = .ok (.iastore, 1) := by decide +kernel
theorem dX7_takeFrom_97 : decode cX7_takeFrom 97 = .ok (.aload_n 0, 1) := by decide +kernel
theorem dX7_takeFrom_98 : decode cX7_takeFrom 98 = .ok (.getfield 34, 3) := by decide +kernel
theorem dX7_takeFrom_101 : decode cX7_takeFrom 101 = .ok (.iload_n 2, 1) := by decide +kernel
theorem dX7_takeFrom_102 : decode cX7_takeFrom 102 = .ok (.aload_n 1, 1) := by decide +kernel
theorem dX7_takeFrom_103 : decode cX7_takeFrom 103 = .ok (.getfield 34, 3) := by decide +kernel
theorem dX7_takeFrom_106 : decode cX7_takeFrom 106 = .ok (.iload_n 2, 1) := by decide +kernel
theorem dX7_takeFrom_107 : decode cX7_takeFrom 107 = .ok (.iaload, 1) := by decide +kernel
theorem dX7_takeFrom_108 : decode cX7_takeFrom 108 = .ok (.iastore, 1) := by decide +kernel
theorem dX7_takeFrom_109 : decode cX7_takeFrom 109 = .ok (.iinc 2 1, 3) := by decide +kernel
theorem dX7_takeFrom_112 : decode cX7_takeFrom 112 = .ok (.goto (-45), 3) := by decide +kernel
theorem dX7_takeFrom_115 : decode cX7_takeFrom 115 = .ok (.aload_n 0, 1) := by decide +kernel
theorem dX7_takeFrom_116 : decode cX7_takeFrom 116 = .ok (.getfield 42, 3) := by decide +kernel
theorem dX7_takeFrom_119 : decode cX7_takeFrom 119 = .ok (.aload_n 1, 1) := by decide +kernel
theorem dX7_takeFrom_120 : decode cX7_takeFrom 120 = .ok (.getfield 42, 3) := by decide +kernel
theorem dX7_takeFrom_123 : decode cX7_takeFrom 123 = .ok (.invokevirtual 72, 3) := by decide +kernel
theorem dX7_takeFrom_126 : decode cX7_takeFrom 126 = .ok (.aload_n 0, 1) := by decide +kernel
theorem dX7_takeFrom_127 : decode cX7_takeFrom 127 = .ok (.getfield 46, 3) := by decide +kernel
theorem dX7_takeFrom_130 : decode cX7_takeFrom 130 = .ok (.aload_n 1, 1) := by decide +kernel
theorem dX7_takeFrom_131 : decode cX7_takeFrom 131 = .ok (.getfield 46, 3) := by decide +kernel
theorem dX7_takeFrom_134 : decode cX7_takeFrom 134 = .ok (.invokevirtual 72, 3) := by decide +kernel
theorem dX7_takeFrom_137 : decode cX7_takeFrom 137 = .ok (.aload_n 0, 1) := by decide +kernel
theorem dX7_takeFrom_138 : decode cX7_takeFrom 138 = .ok (.aload_n 1, 1) := by decide +kernel
theorem dX7_takeFrom_139 : decode cX7_takeFrom 139 = .ok (.getfield 49, 3) := by decide +kernel
theorem dX7_takeFrom_142 : decode cX7_takeFrom 142 = .ok (.putfield 49, 3) := by decide +kernel
theorem dX7_takeFrom_145 : decode cX7_takeFrom 145 = .ok (.aload_n 0, 1) := by decide +kernel
theorem dX7_takeFrom_146 : decode cX7_takeFrom 146 = .ok (.aload_n 1, 1) := by decide +kernel
theorem dX7_takeFrom_147 : decode cX7_takeFrom 147 = .ok (.getfield 66, 3) := by decide +kernel
theorem dX7_takeFrom_150 : decode cX7_takeFrom 150 = .ok (.putfield 66, 3) := by decide +kernel
theorem dX7_takeFrom_153 : decode cX7_takeFrom 153 = .ok (.return_, 1) := by decide +kernel
theorem dX7_addTier_0 : decode cX7_addTier 0 = .ok (.aload_n 0, 1) := by decide +kernel
theorem dX7_addTier_1 : decode cX7_addTier 1 = .ok (.getfield 53, 3) := by decide +kernel
theorem dX7_addTier_4 : decode cX7_addTier 4 = .ok (.iconst 3, 1) := by decide +kernel
theorem dX7_addTier_5 : decode cX7_addTier 5 = .ok (.if_icmp .ge 43, 3) := by decide +kernel
theorem dX7_addTier_8 : decode cX7_addTier 8 = .ok (.aload_n 0, 1) := by decide +kernel
theorem dX7_addTier_9 : decode cX7_addTier 9 = .ok (.getfield 15, 3) := by decide +kernel
theorem dX7_addTier_12 : decode cX7_addTier 12 = .ok (.aload_n 0, 1) := by decide +kernel
theorem dX7_addTier_13 : decode cX7_addTier 13 = .ok (.getfield 53, 3) := by decide +kernel
theorem dX7_addTier_16 : decode cX7_addTier 16 = .ok (.iload_n 1, 1) := by decide +kernel
theorem dX7_addTier_17 : decode cX7_addTier 17 = .ok (.iastore, 1) := by decide +kernel
theorem dX7_addTier_18 : decode cX7_addTier 18 = .ok (.aload_n 0, 1) := by decide +kernel
theorem dX7_addTier_19 : decode cX7_addTier 19 = .ok (.getfield 19, 3) := by decide +kernel
theorem dX7_addTier_22 : decode cX7_addTier 22 = .ok (.aload_n 0, 1) := by decide +kernel
theorem dX7_addTier_23 : decode cX7_addTier 23 = .ok (.getfield 53, 3) := by decide +kernel
theorem dX7_addTier_26 : decode cX7_addTier 26 = .ok (.iload_n 2, 1) := by decide +kernel
theorem dX7_addTier_27 : decode cX7_addTier 27 = .ok (.iastore, 1) := by decide +kernel
theorem dX7_addTier_28 : decode cX7_addTier 28 = .ok (.aload_n 0, 1) := by decide +kernel
theorem dX7_addTier_29 : decode cX7_addTier 29 = .ok (.getfield 22, 3) := by decide +kernel
theorem dX7_addTier_32 : decode cX7_addTier 32 = .ok (.aload_n 0, 1) := by decide +kernel
theorem dX7_addTier_33 : decode cX7_addTier 33 = .ok (.getfield 53, 3) := by decide +kernel
theorem dX7_addTier_36 : decode cX7_addTier 36 = .ok (.iload_n 3, 1) := by decide +kernel
theorem dX7_addTier_37 : decode cX7_addTier 37 = .ok (.iastore, 1) := by decide +kernel
theorem dX7_addTier_38 : decode cX7_addTier 38 = .ok (.aload_n 0, 1) := by decide +kernel
theorem dX7_addTier_39 : decode cX7_addTier 39 = .ok (.dup, 1) := by decide +kernel
theorem dX7_addTier_40 : decode cX7_addTier 40 = .ok (.getfield 53, 3) := by decide +kernel
theorem dX7_addTier_43 : decode cX7_addTier 43 = .ok (.iconst 1, 1) := by decide +kernel
theorem dX7_addTier_44 : decode cX7_addTier 44 = .ok (.iadd, 1) := by decide +kernel
theorem dX7_addTier_45 : decode cX7_addTier 45 = .ok (.putfield 53, 3) := by decide +kernel
theorem dX7_addTier_48 : decode cX7_addTier 48 = .ok (.return_, 1) := by decide +kernel
theorem dX7_addGuest_0 : decode cX7_addGuest 0 = .ok (.aload_n 0, 1) := by decide +kernel
theorem dX7_addGuest_1 : decode cX7_addGuest 1 = .ok (.getfield 56, 3) := by decide +kernel
theorem dX7_addGuest_4 : decode cX7_addGuest 4 = .ok (.bipush 6, 2) := by decide +kernel
theorem dX7_addGuest_6 : decode cX7_addGuest 6 = .ok (.if_icmp .ge 43, 3) := by decide +kernel
theorem dX7_addGuest_9 : decode cX7_addGuest 9 = .ok (.aload_n 0, 1) := by decide +kernel
theorem dX7_addGuest_10 : decode cX7_addGuest 10 = .ok (.getfield 28, 3) := by decide +kernel
theorem dX7_addGuest_13 : decode cX7_addGuest 13 = .ok (.aload_n 0, 1) := by decide +kernel
theorem dX7_addGuest_14 : decode cX7_addGuest 14 = .ok (.getfield 56, 3) := by decide +kernel
theorem dX7_addGuest_17 : decode cX7_addGuest 17 = .ok (.iload_n 1, 1) := by decide +kernel
theorem dX7_addGuest_18 : decode cX7_addGuest 18 = .ok (.iastore, 1) := by decide +kernel
theorem dX7_addGuest_19 : decode cX7_addGuest 19 = .ok (.aload_n 0, 1) := by decide +kernel
theorem dX7_addGuest_20 : decode cX7_addGuest 20 = .ok (.getfield 31, 3) := by decide +kernel
theorem dX7_addGuest_23 : decode cX7_addGuest 23 = .ok (.aload_n 0, 1) := by decide +kernel
theorem dX7_addGuest_24 : decode cX7_addGuest 24 = .ok (.getfield 56, 3) := by decide +kernel
theorem dX7_addGuest_27 : decode cX7_addGuest 27 = .ok (.iload_n 2, 1) := by decide +kernel
theorem dX7_addGuest_28 : decode cX7_addGuest 28 = .ok (.iastore, 1) := by decide +kernel
theorem dX7_addGuest_29 : decode cX7_addGuest 29 = .ok (.aload_n 0, 1) := by decide +kernel
theorem dX7_addGuest_30 : decode cX7_addGuest 30 = .ok (.getfield 34, 3) := by decide +kernel
theorem dX7_addGuest_33 : decode cX7_addGuest 33 = .ok (.aload_n 0, 1) := by decide +kernel
theorem dX7_addGuest_34 : decode cX7_addGuest 34 = .ok (.getfield 56, 3) := by decide +kernel
theorem dX7_addGuest_37 : decode cX7_addGuest 37 = .ok (.iload_n 3, 1) := by decide +kernel
theorem dX7_addGuest_38 : decode cX7_addGuest 38 = .ok (.iastore, 1) := by decide +kernel
theorem dX7_addGuest_39 : decode cX7_addGuest 39 = .ok (.aload_n 0, 1) := by decide +kernel
theorem dX7_addGuest_40 : decode cX7_addGuest 40 = .ok (.dup, 1) := by decide +kernel
theorem dX7_addGuest_41 : decode cX7_addGuest 41 = .ok (.getfield 56, 3) := by decide +kernel
theorem dX7_addGuest_44 : decode cX7_addGuest 44 = .ok (.iconst 1, 1) := by decide +kernel
theorem dX7_addGuest_45 : decode cX7_addGuest 45 = .ok (.iadd, 1) := by decide +kernel
theorem dX7_addGuest_46 : decode cX7_addGuest 46 = .ok (.putfield 56, 3) := by decide +kernel
theorem dX7_addGuest_49 : decode cX7_addGuest 49 = .ok (.return_, 1) := by decide +kernel
theorem dX7_isTier_0 : decode cX7_isTier 0 = .ok (.iload_n 1, 1) := by decide +kernel
theorem dX7_isTier_1 : decode cX7_isTier 1 = .ok (.ifCond .lt 15, 3) := by decide +kernel
theorem dX7_isTier_4 : decode cX7_isTier 4 = .ok (.iload_n 1, 1) := by decide +kernel
theorem dX7_isTier_5 : decode cX7_isTier 5 = .ok (.aload_n 0, 1) := by decide +kernel
theorem dX7_isTier_6 : decode cX7_isTier 6 = .ok (.getfield 53, 3) := by decide +kernel
theorem dX7_isTier_9 : decode cX7_isTier 9 = .ok (.if_icmp .ge 7, 3) := by decide +kernel
theorem dX7_isTier_12 : decode cX7_isTier 12 = .ok (.iconst 1, 1) := by decide +kernel
theorem dX7_isTier_13 : decode cX7_isTier 13 = .ok (.goto 4, 3) := by decide +kernel
theorem dX7_isTier_16 : decode cX7_isTier 16 = .ok (.iconst 0, 1) := by decide +kernel
theorem dX7_isTier_17 : decode cX7_isTier 17 = .ok (.ireturn, 1) := by decide +kernel
theorem dX7_isGuest_0 : decode cX7_isGuest 0 = .ok (.iload_n 1, 1) := by decide +kernel
theorem dX7_isGuest_1 : decode cX7_isGuest 1 = .ok (.ifCond .lt 15, 3) := by decide +kernel
theorem dX7_isGuest_4 : decode cX7_isGuest 4 = .ok (.iload_n 1, 1) := by decide +kernel
theorem dX7_isGuest_5 : decode cX7_isGuest 5 = .ok (.aload_n 0, 1) := by decide +kernel
theorem dX7_isGuest_6 : decode cX7_isGuest 6 = .ok (.getfield 56, 3) := by decide +kernel
theorem dX7_isGuest_9 : decode cX7_isGuest 9 = .ok (.if_icmp .ge 7, 3) := by decide +kernel
theorem dX7_isGuest_12 : decode cX7_isGuest 12 = .ok (.iconst 1, 1) := by decide +kernel
theorem dX7_isGuest_13 : decode cX7_isGuest 13 = .ok (.goto 4, 3) := by decide +kernel
theorem dX7_isGuest_16 : decode cX7_isGuest 16 = .ok (.iconst 0, 1) := by decide +kernel
theorem dX7_isGuest_17 : decode cX7_isGuest 17 = .ok (.ireturn, 1) := by decide +kernel
theorem dX7_areaOf_0 : decode cX7_areaOf 0 = .ok (.aload_n 0, 1) := by decide +kernel
theorem dX7_areaOf_1 : decode cX7_areaOf 1 = .ok (.aload_n 1, 1) := by decide +kernel
theorem dX7_areaOf_2 : decode cX7_areaOf 2 = .ok (.getfield 76, 3) := by decide +kernel
theorem dX7_areaOf_5 : decode cX7_areaOf 5 = .ok (.invokevirtual 81, 3) := by decide +kernel
theorem dX7_areaOf_8 : decode cX7_areaOf 8 = .ok (.ifCond .eq 25, 3) := by decide +kernel
theorem dX7_areaOf_11 : decode cX7_areaOf 11 = .ok (.aload_n 1, 1) := by decide +kernel
theorem dX7_areaOf_12 : decode cX7_areaOf 12 = .ok (.getfield 85, 3) := by decide +kernel
theorem dX7_areaOf_15 : decode cX7_areaOf 15 = .ok (.aload_n 1, 1) := by decide +kernel
theorem dX7_areaOf_16 : decode cX7_areaOf 16 = .ok (.getfield 88, 3) := by decide +kernel
theorem dX7_areaOf_19 : decode cX7_areaOf 19 = .ok (.imul, 1) := by decide +kernel
theorem dX7_areaOf_20 : decode cX7_areaOf 20 = .ok (.aload_n 0, 1) := by decide +kernel
theorem dX7_areaOf_21 : decode cX7_areaOf 21 = .ok (.getfield 22, 3) := by decide +kernel
theorem dX7_areaOf_24 : decode cX7_areaOf 24 = .ok (.aload_n 1, 1) := by decide +kernel
theorem dX7_areaOf_25 : decode cX7_areaOf 25 = .ok (.getfield 76, 3) := by decide +kernel
theorem dX7_areaOf_28 : decode cX7_areaOf 28 = .ok (.iaload, 1) := by decide +kernel
theorem dX7_areaOf_29 : decode cX7_areaOf 29 = .ok (.imul, 1) := by decide +kernel
theorem dX7_areaOf_30 : decode cX7_areaOf 30 = .ok (.goto 4, 3) := by decide +kernel
theorem dX7_areaOf_33 : decode cX7_areaOf 33 = .ok (.iconst 0, 1) := by decide +kernel
theorem dX7_areaOf_34 : decode cX7_areaOf 34 = .ok (.ireturn, 1) := by decide +kernel
theorem dX7_icingOf_0 : decode cX7_icingOf 0 = .ok (.aload_n 0, 1) := by decide +kernel
theorem dX7_icingOf_1 : decode cX7_icingOf 1 = .ok (.aload_n 1, 1) := by decide +kernel
theorem dX7_icingOf_2 : decode cX7_icingOf 2 = .ok (.getfield 76, 3) := by decide +kernel
theorem dX7_icingOf_5 : decode cX7_icingOf 5 = .ok (.invokevirtual 81, 3) := by decide +kernel
theorem dX7_icingOf_8 : decode cX7_icingOf 8 = .ok (.ifCond .ne 5, 3) := by decide +kernel
theorem dX7_icingOf_11 : decode cX7_icingOf 11 = .ok (.iconst 0, 1) := by decide +kernel
theorem dX7_icingOf_12 : decode cX7_icingOf 12 = .ok (.ireturn, 1) := by decide +kernel
theorem dX7_icingOf_13 : decode cX7_icingOf 13 = .ok (.aload_n 1, 1) := by decide +kernel
theorem dX7_icingOf_14 : decode cX7_icingOf 14 = .ok (.getfield 91, 3) := by decide +kernel
theorem dX7_icingOf_17 : decode cX7_icingOf 17 = .ok (.ifCond .ne 10, 3) := by decide +kernel
theorem dX7_icingOf_20 : decode cX7_icingOf 20 = .ok (.aload_n 1, 1) := by decide +kernel
theorem dX7_icingOf_21 : decode cX7_icingOf 21 = .ok (.getfield 88, 3) := by decide +kernel
theorem dX7_icingOf_24 : decode cX7_icingOf 24 = .ok (.goto 4, 3) := by decide +kernel
theorem dX7_icingOf_27 : decode cX7_icingOf 27 = .ok (.iconst 0, 1) := by decide +kernel
theorem dX7_icingOf_28 : decode cX7_icingOf 28 = .ok (.istore_n 2, 1) := by decide +kernel
theorem dX7_icingOf_29 : decode cX7_icingOf 29 = .ok (.aload_n 1, 1) := by decide +kernel
theorem dX7_icingOf_30 : decode cX7_icingOf 30 = .ok (.getfield 91, 3) := by decide +kernel
theorem dX7_icingOf_33 : decode cX7_icingOf 33 = .ok (.aload_n 1, 1) := by decide +kernel
theorem dX7_icingOf_34 : decode cX7_icingOf 34 = .ok (.getfield 85, 3) := by decide +kernel
theorem dX7_icingOf_37 : decode cX7_icingOf 37 = .ok (.iadd, 1) := by decide +kernel
theorem dX7_icingOf_38 : decode cX7_icingOf 38 = .ok (.aload_n 0, 1) := by decide +kernel
theorem dX7_icingOf_39 : decode cX7_icingOf 39 = .ok (.getfield 15, 3) := by decide +kernel
theorem dX7_icingOf_42 : decode cX7_icingOf 42 = .ok (.aload_n 1, 1) := by decide +kernel
theorem dX7_icingOf_43 : decode cX7_icingOf 43 = .ok (.getfield 76, 3) := by decide +kernel
theorem dX7_icingOf_46 : decode cX7_icingOf 46 = .ok (.iaload, 1) := by decide +kernel
theorem dX7_icingOf_47 : decode cX7_icingOf 47 = .ok (.if_icmp .ne 10, 3) := by decide +kernel
theorem dX7_icingOf_50 : decode cX7_icingOf 50 = .ok (.iload_n 2, 1) := by decide +kernel
theorem dX7_icingOf_51 : decode cX7_icingOf 51 = .ok (.aload_n 1, 1) := by decide +kernel
theorem dX7_icingOf_52 : decode cX7_icingOf 52 = .ok (.getfield 88, 3) := by decide +kernel
theorem dX7_icingOf_55 : decode cX7_icingOf 55 = .ok (.iadd, 1) := by decide +kernel
theorem dX7_icingOf_56 : decode cX7_icingOf 56 = .ok (.istore_n 2, 1) := by decide +kernel
theorem dX7_icingOf_57 : decode cX7_icingOf 57 = .ok (.aload_n 1, 1) := by decide +kernel
theorem dX7_icingOf_58 : decode cX7_icingOf 58 = .ok (.getfield 94, 3) := by decide +kernel
theorem dX7_icingOf_61 : decode cX7_icingOf 61 = .ok (.ifCond .ne 10, 3) := by decide +kernel
theorem dX7_icingOf_64 : decode cX7_icingOf 64 = .ok (.iload_n 2, 1) := by decide +kernel
theorem dX7_icingOf_65 : decode cX7_icingOf 65 = .ok (.aload_n 1, 1) := by decide +kernel
theorem dX7_icingOf_66 : decode cX7_icingOf 66 = .ok (.getfield 85, 3) := by decide +kernel
theorem dX7_icingOf_69 : decode cX7_icingOf 69 = .ok (.iadd, 1) := by decide +kernel
theorem dX7_icingOf_70 : decode cX7_icingOf 70 = .ok (.istore_n 2, 1) := by decide +kernel
theorem dX7_icingOf_71 : decode cX7_icingOf 71 = .ok (.aload_n 1, 1) := by decide +kernel
theorem dX7_icingOf_72 : decode cX7_icingOf 72 = .ok (.getfield 94, 3) := by decide +kernel
theorem dX7_icingOf_75 : decode cX7_icingOf 75 = .ok (.aload_n 1, 1) := by decide +kernel
theorem dX7_icingOf_76 : decode cX7_icingOf 76 = .ok (.getfield 88, 3) := by decide +kernel
theorem dX7_icingOf_79 : decode cX7_icingOf 79 = .ok (.iadd, 1) := by decide +kernel
theorem dX7_icingOf_80 : decode cX7_icingOf 80 = .ok (.aload_n 0, 1) := by decide +kernel
theorem dX7_icingOf_81 : decode cX7_icingOf 81 = .ok (.getfield 19, 3) := by decide +kernel
theorem dX7_icingOf_84 : decode cX7_icingOf 84 = .ok (.aload_n 1, 1) := by decide +kernel
theorem dX7_icingOf_85 : decode cX7_icingOf 85 = .ok (.getfield 76, 3) := by decide +kernel
theorem dX7_icingOf_88 : decode cX7_icingOf 88 = .ok (.iaload, 1) := by decide +kernel
theorem dX7_icingOf_89 : decode cX7_icingOf 89 = .ok (.if_icmp .ne 10, 3) := by decide +kernel
theorem dX7_icingOf_92 : decode cX7_icingOf 92 = .ok (.iload_n 2, 1) := by decide +kernel
theorem dX7_icingOf_93 : decode cX7_icingOf 93 = .ok (.aload_n 1, 1) := by decide +kernel
theorem dX7_icingOf_94 : decode cX7_icingOf 94 = .ok (.getfield 85, 3) := by decide +kernel
theorem dX7_icingOf_97 : decode cX7_icingOf 97 = .ok (.iadd, 1) := by decide +kernel
theorem dX7_icingOf_98 : decode cX7_icingOf 98 = .ok (.istore_n 2, 1) := by decide +kernel
theorem dX7_icingOf_99 : decode cX7_icingOf 99 = .ok (.iload_n 2, 1) := by decide +kernel
theorem dX7_icingOf_100 : decode cX7_icingOf 100 = .ok (.ireturn, 1) := by decide +kernel
theorem dX8_init_0 : decode cX8_init 0 = .ok (.aload_n 0, 1) := by decide +kernel
theorem dX8_init_1 : decode cX8_init 1 = .ok (.invokespecial 3, 3) := by decide +kernel
theorem dX8_init_4 : decode cX8_init 4 = .ok (.aload_n 0, 1) := by decide +kernel
theorem dX8_init_5 : decode cX8_init 5 = .ok (.aload_n 1, 1) := by decide +kernel
theorem dX8_init_6 : decode cX8_init 6 = .ok (.putfield 9, 3) := by decide +kernel
theorem dX8_init_9 : decode cX8_init 9 = .ok (.aload_n 0, 1) := by decide +kernel
theorem dX8_init_10 : decode cX8_init 10 = .ok (.aload_n 2, 1) := by decide +kernel
theorem dX8_init_11 : decode cX8_init 11 = .ok (.putfield 15, 3) := by decide +kernel
theorem dX8_init_14 : decode cX8_init 14 = .ok (.aload_n 0, 1) := by decide +kernel
theorem dX8_init_15 : decode cX8_init 15 = .ok (.bipush 6, 2) := by decide +kernel
theorem dX8_init_17 : decode cX8_init 17 = .ok (.newarray .int, 2) := by decide +kernel
theorem dX8_init_19 : decode cX8_init 19 = .ok (.putfield 19, 3) := by decide +kernel
theorem dX8_init_22 : decode cX8_init 22 = .ok (.aload_n 0, 1) := by decide +kernel
theorem dX8_init_23 : decode cX8_init 23 = .ok (.bipush 6, 2) := by decide +kernel
theorem dX8_init_25 : decode cX8_init 25 = .ok (.newarray .int, 2) := by decide +kernel
theorem dX8_init_27 : decode cX8_init 27 = .ok (.putfield 23, 3) := by decide +kernel
theorem dX8_init_30 : decode cX8_init 30 = .ok (.return_, 1) := by decide +kernel
theorem dX8_feeders_0 : decode cX8_feeders 0 = .ok (.iconst 0, 1) := by decide +kernel
theorem dX8_feeders_1 : decode cX8_feeders 1 = .ok (.istore_n 2, 1) := by decide +kernel
theorem dX8_feeders_2 : decode cX8_feeders 2 = .ok (.aload_n 0, 1) := by decide +kernel
theorem dX8_feeders_3 : decode cX8_feeders 3 = .ok (.getfield 9, 3) := by decide +kernel
theorem dX8_feeders_6 : decode cX8_feeders 6 = .ok (.iload_n 1, 1) := by decide +kernel
theorem dX8_feeders_7 : decode cX8_feeders 7 = .ok (.invokevirtual 26, 3) := by decide +kernel
theorem dX8_feeders_10 : decode cX8_feeders 10 = .ok (.ifCond .eq 67, 3) := by decide +kernel
theorem dX8_feeders_13 : decode cX8_feeders 13 = .ok (.iconst 0, 1) := by decide +kernel
theorem dX8_feeders_14 : decode cX8_feeders 14 = .ok (.istore_n 3, 1) := by decide +kernel
theorem dX8_feeders_15 : decode cX8_feeders 15 = .ok (.iload_n 3, 1) := by decide +kernel
theorem dX8_feeders_16 : decode cX8_feeders 16 = .ok (.aload_n 0, 1) := by decide +kernel
theorem dX8_feeders_17 : decode cX8_feeders 17 = .ok (.getfield 15, 3) := by decide +kernel
theorem dX8_feeders_20 : decode cX8_feeders 20 = .ok (.getfield 32, 3) := by decide +kernel
theorem dX8_feeders_23 : decode cX8_feeders 23 = .ok (.if_icmp .ge 54, 3) := by decide +kernel
theorem dX8_feeders_26 : decode cX8_feeders 26 = .ok (.aload_n 0, 1) := by decide +kernel
theorem dX8_feeders_27 : decode cX8_feeders 27 = .ok (.getfield 15, 3) := by decide +kernel
theorem dX8_feeders_30 : decode cX8_feeders 30 = .ok (.iload_n 3, 1) := by decide +kernel
theorem dX8_feeders_31 : decode cX8_feeders 31 = .ok (.invokevirtual 38, 3) := by decide +kernel
theorem dX8_feeders_34 : decode cX8_feeders 34 = .ok (.ifCond .eq 37, 3) := by decide +kernel
theorem dX8_feeders_37 : decode cX8_feeders 37 = .ok (.aload_n 0, 1) := by decide +kernel
theorem dX8_feeders_38 : decode cX8_feeders 38 = .ok (.getfield 9, 3) := by decide +kernel
theorem dX8_feeders_41 : decode cX8_feeders 41 = .ok (.aload_n 0, 1) := by decide +kernel
theorem dX8_feeders_42 : decode cX8_feeders 42 = .ok (.getfield 15, 3) := by decide +kernel
theorem dX8_feeders_45 : decode cX8_feeders 45 = .ok (.getfield 41, 3) := by decide +kernel
theorem dX8_feeders_48 : decode cX8_feeders 48 = .ok (.iload_n 3, 1) := by decide +kernel
theorem dX8_feeders_49 : decode cX8_feeders 49 = .ok (.aaload, 1) := by decide +kernel
theorem dX8_feeders_50 : decode cX8_feeders 50 = .ok (.invokevirtual 45, 3) := by decide +kernel
theorem dX8_feeders_53 : decode cX8_feeders 53 = .ok (.aload_n 0, 1) := by decide +kernel
theorem dX8_feeders_54 : decode cX8_feeders 54 = .ok (.getfield 9, 3) := by decide +kernel
theorem dX8_feeders_57 : decode cX8_feeders 57 = .ok (.getfield 49, 3) := by decide +kernel
theorem dX8_feeders_60 : decode cX8_feeders 60 = .ok (.iload_n 1, 1) := by decide +kernel
theorem dX8_feeders_61 : decode cX8_feeders 61 = .ok (.iaload, 1) := by decide +kernel
theorem dX8_feeders_62 : decode cX8_feeders 62 = .ok (.if_icmp .lt 9, 3) := by decide +kernel
theorem dX8_feeders_65 : decode cX8_feeders 65 = .ok (.iload_n 2, 1) := by decide +kernel
theorem dX8_feeders_66 : decode cX8_feeders 66 = .ok (.iconst 1, 1) := by decide +kernel
theorem dX8_feeders_67 : decode cX8_feeders 67 = .ok (.iload_n 3, 1) := by decide +kernel
theorem dX8_feeders_68 : decode cX8_feeders 68 = .ok (.ishl, 1) := by decide +kernel
theorem dX8_feeders_69 : decode cX8_feeders 69 = .ok (.ior, 1) := by decide +kernel
theorem dX8_feeders_70 : decode cX8_feeders 70 = .ok (.istore_n 2, 1) := by decide +kernel
theorem dX8_feeders_71 : decode cX8_feeders 71 = .ok (.iinc 3 1, 3) := by decide +kernel
theorem dX8_feeders_74 : decode cX8_feeders 74 = .ok (.goto (-59), 3) := by decide +kernel
theorem dX8_feeders_77 : decode cX8_feeders 77 = .ok (.iload_n 2, 1) := by decide +kernel
theorem dX8_feeders_78 : decode cX8_feeders 78 = .ok (.ireturn, 1) := by decide +kernel
theorem dX8_servedIf_0 : decode cX8_servedIf 0 = .ok (.aload_n 0, 1) := by decide +kernel
theorem dX8_servedIf_1 : decode cX8_servedIf 1 = .ok (.iload_n 1, 1) := by decide +kernel
theorem dX8_servedIf_2 : decode cX8_servedIf 2 = .ok (.iconst (-1), 1) := by decide +kernel
theorem dX8_servedIf_3 : decode cX8_servedIf 3 = .ok (.invokevirtual 52, 3) := by decide +kernel
theorem dX8_servedIf_6 : decode cX8_servedIf 6 = .ok (.aload_n 0, 1) := by decide +kernel
theorem dX8_servedIf_7 : decode cX8_servedIf 7 = .ok (.invokevirtual 56, 3) := by decide +kernel
theorem dX8_servedIf_10 : decode cX8_servedIf 10 = .ok (.ireturn, 1) := by decide +kernel
theorem dX8_prepare_0 : decode cX8_prepare 0 = .ok (.aload_n 0, 1) := by decide +kernel
theorem dX8_prepare_1 : decode cX8_prepare 1 = .ok (.iconst 0, 1) := by decide +kernel
theorem dX8_prepare_2 : decode cX8_prepare 2 = .ok (.putfield 60, 3) := by decide +kernel
theorem dX8_prepare_5 : decode cX8_prepare 5 = .ok (.iconst 0, 1) := by decide +kernel
theorem dX8_prepare_6 : decode cX8_prepare 6 = .ok (.istore_n 3, 1) := by decide +kernel
theorem dX8_prepare_7 : decode cX8_prepare 7 = .ok (.iload_n 3, 1) := by decide +kernel
theorem dX8_prepare_8 : decode cX8_prepare 8 = .ok (.aload_n 0, 1) := by decide +kernel
theorem dX8_prepare_9 : decode cX8_prepare 9 = .ok (.getfield 9, 3) := by decide +kernel
theorem dX8_prepare_12 : decode cX8_prepare 12 = .ok (.getfield 63, 3) := by decide +kernel
theorem dX8_prepare_15 : decode cX8_prepare 15 = .ok (.if_icmp .ge 46, 3) := by decide +kernel
theorem dX8_prepare_18 : decode cX8_prepare 18 = .ok (.iload_n 3, 1) := by decide +kernel
theorem dX8_prepare_19 : decode cX8_prepare 19 = .ok (.iload_n 2, 1) := by decide +kernel
theorem dX8_prepare_20 : decode cX8_prepare 20 = .ok (.if_icmp .eq 35, 3) := by decide +kernel
theorem dX8_prepare_23 : decode cX8_prepare 23 = .ok (.aload_n 0, 1) := by decide +kernel
theorem dX8_prepare_24 : decode cX8_prepare 24 = .ok (.getfield 15, 3) := by decide +kernel
theorem dX8_prepare_27 : decode cX8_prepare 27 = .ok (.getfield 66, 3) := by decide +kernel
theorem dX8_prepare_30 : decode cX8_prepare 30 = .ok (.iload_n 3, 1) := by decide +kernel
theorem dX8_prepare_31 : decode cX8_prepare 31 = .ok (.iaload, 1) := by decide +kernel
theorem dX8_prepare_32 : decode cX8_prepare 32 = .ok (.iconst (-1), 1) := by decide +kernel
theorem dX8_prepare_33 : decode cX8_prepare 33 = .ok (.if_icmp .ne 22, 3) := by decide +kernel
theorem dX8_prepare_36 : decode cX8_prepare 36 = .ok (.aload_n 0, 1) := by decide +kernel
theorem dX8_prepare_37 : decode cX8_prepare 37 = .ok (.iconst 0, 1) := by decide +kernel
theorem dX8_prepare_38 : decode cX8_prepare 38 = .ok (.aload_n 0, 1) := by decide +kernel
theorem dX8_prepare_39 : decode cX8_prepare 39 = .ok (.getfield 9, 3) := by decide +kernel
theorem dX8_prepare_42 : decode cX8_prepare 42 = .ok (.getfield 49, 3) := by decide +kernel
theorem dX8_prepare_45 : decode cX8_prepare 45 = .ok (.iload_n 3, 1) := by decide +kernel
theorem dX8_prepare_46 : decode cX8_prepare 46 = .ok (.iaload, 1) := by decide +kernel
theorem dX8_prepare_47 : decode cX8_prepare 47 = .ok (.iload_n 1, 1) := by decide +kernel
theorem dX8_prepare_48 : decode cX8_prepare 48 = .ok (.iadd, 1) := by decide +kernel
theorem dX8_prepare_49 : decode cX8_prepare 49 = .ok (.invokestatic 69, 3) := by decide +kernel
theorem dX8_prepare_52 : decode cX8_prepare 52 = .ok (.invokevirtual 75, 3) := by decide +kernel
theorem dX8_prepare_55 : decode cX8_prepare 55 = .ok (.iinc 3 1, 3) := by decide +kernel
theorem dX8_prepare_58 : decode cX8_prepare 58 = .ok (.goto (-51), 3) := by decide +kernel
theorem dX8_prepare_61 : decode cX8_prepare 61 = .ok (.iconst 0, 1) := by decide +kernel
theorem dX8_prepare_62 : decode cX8_prepare 62 = .ok (.istore_n 3, 1) := by decide +kernel
theorem dX8_prepare_63 : decode cX8_prepare 63 = .ok (.iload_n 3, 1) := by decide +kernel
theorem dX8_prepare_64 : decode cX8_prepare 64 = .ok (.aload_n 0, 1) := by decide +kernel
theorem dX8_prepare_65 : decode cX8_prepare 65 = .ok (.getfield 60, 3) := by decide +kernel
theorem dX8_prepare_68 : decode cX8_prepare 68 = .ok (.if_icmp .ge 16, 3) := by decide +kernel
theorem dX8_prepare_71 : decode cX8_prepare 71 = .ok (.aload_n 0, 1) := by decide +kernel
theorem dX8_prepare_72 : decode cX8_prepare 72 = .ok (.getfield 23, 3) := by decide +kernel
theorem dX8_prepare_75 : decode cX8_prepare 75 = .ok (.iload_n 3, 1) := by decide +kernel
theorem dX8_prepare_76 : decode cX8_prepare 76 = .ok (.iconst 0, 1) := by decide +kernel
theorem dX8_prepare_77 : decode cX8_prepare 77 = .ok (.iastore, 1) := by decide +kernel
theorem dX8_prepare_78 : decode cX8_prepare 78 = .ok (.iinc 3 1, 3) := by decide +kernel
theorem dX8_prepare_81 : decode cX8_prepare 81 = .ok (.goto (-18), 3) := by decide +kernel
theorem dX8_prepare_84 : decode cX8_prepare 84 = .ok (.iconst 0, 1) := by decide +kernel
theorem dX8_prepare_85 : decode cX8_prepare 85 = .ok (.istore_n 3, 1) := by decide +kernel
theorem dX8_prepare_86 : decode cX8_prepare 86 = .ok (.iload_n 3, 1) := by decide +kernel
theorem dX8_prepare_87 : decode cX8_prepare 87 = .ok (.aload_n 0, 1) := by decide +kernel
theorem dX8_prepare_88 : decode cX8_prepare 88 = .ok (.getfield 15, 3) := by decide +kernel
theorem dX8_prepare_91 : decode cX8_prepare 91 = .ok (.getfield 32, 3) := by decide +kernel
theorem dX8_prepare_94 : decode cX8_prepare 94 = .ok (.if_icmp .ge 41, 3) := by decide +kernel
theorem dX8_prepare_97 : decode cX8_prepare 97 = .ok (.aload_n 0, 1) := by decide +kernel
theorem dX8_prepare_98 : decode cX8_prepare 98 = .ok (.getfield 15, 3) := by decide +kernel
theorem dX8_prepare_101 : decode cX8_prepare 101 = .ok (.iload_n 3, 1) := by decide +kernel
theorem dX8_prepare_102 : decode cX8_prepare 102 = .ok (.invokevirtual 38, 3) := by decide +kernel
theorem dX8_prepare_105 : decode cX8_prepare 105 = .ok (.ifCond .eq 24, 3) := by decide +kernel
theorem dX8_prepare_108 : decode cX8_prepare 108 = .ok (.aload_n 0, 1) := by decide +kernel
theorem dX8_prepare_109 : decode cX8_prepare 109 = .ok (.aload_n 0, 1) := by decide +kernel
theorem dX8_prepare_110 : decode cX8_prepare 110 = .ok (.getfield 9, 3) := by decide +kernel
theorem dX8_prepare_113 : decode cX8_prepare 113 = .ok (.aload_n 0, 1) := by decide +kernel
theorem dX8_prepare_114 : decode cX8_prepare 114 = .ok (.getfield 15, 3) := by decide +kernel
theorem dX8_prepare_117 : decode cX8_prepare 117 = .ok (.getfield 41, 3) := by decide +kernel
theorem dX8_prepare_120 : decode cX8_prepare 120 = .ok (.iload_n 3, 1) := by decide +kernel
theorem dX8_prepare_121 : decode cX8_prepare 121 = .ok (.aaload, 1) := by decide +kernel
theorem dX8_prepare_122 : decode cX8_prepare 122 = .ok (.invokevirtual 45, 3) := by decide +kernel
theorem dX8_prepare_125 : decode cX8_prepare 125 = .ok (.iconst 1, 1) := by decide +kernel
theorem dX8_prepare_126 : decode cX8_prepare 126 = .ok (.invokevirtual 79, 3) := by decide +kernel
theorem dX8_prepare_129 : decode cX8_prepare 129 = .ok (.iinc 3 1, 3) := by decide +kernel
theorem dX8_prepare_132 : decode cX8_prepare 132 = .ok (.goto (-46), 3) := by decide +kernel
theorem dX8_prepare_135 : decode cX8_prepare 135 = .ok (.return_, 1) := by decide +kernel
theorem dX8_addWanted_0 : decode cX8_addWanted 0 = .ok (.aload_n 0, 1) := by decide +kernel
theorem dX8_addWanted_1 : decode cX8_addWanted 1 = .ok (.getfield 60, 3) := by decide +kernel
theorem dX8_addWanted_4 : decode cX8_addWanted 4 = .ok (.bipush 6, 2) := by decide +kernel
theorem dX8_addWanted_6 : decode cX8_addWanted 6 = .ok (.if_icmp .lt 4, 3) := by decide +kernel
theorem dX8_addWanted_9 : decode cX8_addWanted 9 = .ok (.return_, 1) := by decide +kernel
theorem dX8_addWanted_10 : decode cX8_addWanted 10 = .ok (.aload_n 0, 1) := by decide +kernel
theorem dX8_addWanted_11 : decode cX8_addWanted 11 = .ok (.getfield 60, 3) := by decide +kernel
theorem dX8_addWanted_14 : decode cX8_addWanted 14 = .ok (.istore_n 2, 1) := by decide +kernel
theorem dX8_addWanted_15 : decode cX8_addWanted 15 = .ok (.iload_n 2, 1) := by decide +kernel
theorem dX8_addWanted_16 : decode cX8_addWanted 16 = .ok (.ifCond .le 35, 3) := by decide +kernel
theorem dX8_addWanted_19 : decode cX8_addWanted 19 = .ok (.aload_n 0, 1) := by decide +kernel
theorem dX8_addWanted_20 : decode cX8_addWanted 20 = .ok (.getfield 19, 3) := by decide +kernel
theorem dX8_addWanted_23 : decode cX8_addWanted 23 = .ok (.iload_n 2, 1) := by decide +kernel
theorem dX8_addWanted_24 : decode cX8_addWanted 24 = .ok (.iconst 1, 1) := by decide +kernel
theorem dX8_addWanted_25 : decode cX8_addWanted 25 = .ok (.isub, 1) := by decide +kernel
theorem dX8_addWanted_26 : decode cX8_addWanted 26 = .ok (.iaload, 1) := by decide +kernel
theorem dX8_addWanted_27 : decode cX8_addWanted 27 = .ok (.iload_n 1, 1) := by decide +kernel
theorem dX8_addWanted_28 : decode cX8_addWanted 28 = .ok (.if_icmp .ge 23, 3) := by decide +kernel
theorem dX8_addWanted_31 : decode cX8_addWanted 31 = .ok (.aload_n 0, 1) := by decide +kernel
theorem dX8_addWanted_32 : decode cX8_addWanted 32 = .ok (.getfield 19, 3) := by decide +kernel
theorem dX8_addWanted_35 : decode cX8_addWanted 35 = .ok (.iload_n 2, 1) := by decide +kernel
theorem dX8_addWanted_36 : decode cX8_addWanted 36 = .ok (.aload_n 0, 1) := by decide +kernel
theorem dX8_addWanted_37 : decode cX8_addWanted 37 = .ok (.getfield 19, 3) := by decide +kernel
theorem dX8_addWanted_40 : decode cX8_addWanted 40 = .ok (.iload_n 2, 1) := by decide +kernel
theorem dX8_addWanted_41 : decode cX8_addWanted 41 = .ok (.iconst 1, 1) := by decide +kernel
theorem dX8_addWanted_42 : decode cX8_addWanted 42 = .ok (.isub, 1) := by decide +kernel
theorem dX8_addWanted_43 : decode cX8_addWanted 43 = .ok (.iaload, 1) := by decide +kernel
theorem dX8_addWanted_44 : decode cX8_addWanted 44 = .ok (.iastore, 1) := by decide +kernel
theorem dX8_addWanted_45 : decode cX8_addWanted 45 = .ok (.iinc 2 (-1), 3) := by decide +kernel
theorem dX8_addWanted_48 : decode cX8_addWanted 48 = .ok (.goto (-33), 3) := by decide +kernel
theorem dX8_addWanted_51 : decode cX8_addWanted 51 = .ok (.aload_n 0, 1) := by decide +kernel
theorem dX8_addWanted_52 : decode cX8_addWanted 52 = .ok (.getfield 19, 3) := by decide +kernel
theorem dX8_addWanted_55 : decode cX8_addWanted 55 = .ok (.iload_n 2, 1) := by decide +kernel
theorem dX8_addWanted_56 : decode cX8_addWanted 56 = .ok (.iload_n 1, 1) := by decide +kernel
theorem dX8_addWanted_57 : decode cX8_addWanted 57 = .ok (.iastore, 1) := by decide +kernel
theorem dX8_addWanted_58 : decode cX8_addWanted 58 = .ok (.aload_n 0, 1) := by decide +kernel
theorem dX8_addWanted_59 : decode cX8_addWanted 59 = .ok (.dup, 1) := by decide +kernel
theorem dX8_addWanted_60 : decode cX8_addWanted 60 = .ok (.getfield 60, 3) := by decide +kernel
theorem dX8_addWanted_63 : decode cX8_addWanted 63 = .ok (.iconst 1, 1) := by decide +kernel
theorem dX8_addWanted_64 : decode cX8_addWanted 64 = .ok (.iadd, 1) := by decide +kernel
theorem dX8_addWanted_65 : decode cX8_addWanted 65 = .ok (.putfield 60, 3) := by decide +kernel
theorem dX8_addWanted_68 : decode cX8_addWanted 68 = .ok (.return_, 1) := by decide +kernel
theorem dX8_count_0 : decode cX8_count 0 = .ok (.iconst 0, 1) := by decide +kernel
theorem dX8_count_1 : decode cX8_count 1 = .ok (.istore_n 3, 1) := by decide +kernel
theorem dX8_count_2 : decode cX8_count 2 = .ok (.iload_n 3, 1) := by decide +kernel
theorem dX8_count_3 : decode cX8_count 3 = .ok (.aload_n 0, 1) := by decide +kernel
theorem dX8_count_4 : decode cX8_count 4 = .ok (.getfield 60, 3) := by decide +kernel
theorem dX8_count_7 : decode cX8_count 7 = .ok (.if_icmp .ge 29, 3) := by decide +kernel
theorem dX8_count_10 : decode cX8_count 10 = .ok (.iload_n 1, 1) := by decide +kernel
theorem dX8_count_11 : decode cX8_count 11 = .ok (.aload_n 0, 1) := by decide +kernel
theorem dX8_count_12 : decode cX8_count 12 = .ok (.getfield 19, 3) := by decide +kernel
theorem dX8_count_15 : decode cX8_count 15 = .ok (.iload_n 3, 1) := by decide +kernel
theorem dX8_count_16 : decode cX8_count 16 = .ok (.iaload, 1) := by decide +kernel
theorem dX8_count_17 : decode cX8_count 17 = .ok (.if_icmp .lt 13, 3) := by decide +kernel
theorem dX8_count_20 : decode cX8_count 20 = .ok (.aload_n 0, 1) := by decide +kernel
theorem dX8_count_21 : decode cX8_count 21 = .ok (.getfield 23, 3) := by decide +kernel
theorem dX8_count_24 : decode cX8_count 24 = .ok (.iload_n 3, 1) := by decide +kernel
theorem dX8_count_25 : decode cX8_count 25 = .ok (.dup2, 1) := by decide +kernel
theorem dX8_count_26 : decode cX8_count 26 = .ok (.iaload, 1) := by decide +kernel
theorem dX8_count_27 : decode cX8_count 27 = .ok (.iload_n 2, 1) := by decide +kernel
theorem dX8_count_28 : decode cX8_count 28 = .ok (.iadd, 1) := by decide +kernel
theorem dX8_count_29 : decode cX8_count 29 = .ok (.iastore, 1) := by decide +kernel
theorem dX8_count_30 : decode cX8_count 30 = .ok (.iinc 3 1, 3) := by decide +kernel
theorem dX8_count_33 : decode cX8_count 33 = .ok (.goto (-31), 3) := by decide +kernel
theorem dX8_count_36 : decode cX8_count 36 = .ok (.return_, 1) := by decide +kernel
theorem dX8_matched_0 : decode cX8_matched 0 = .ok (.iconst 0, 1) := by decide +kernel
theorem dX8_matched_1 : decode cX8_matched 1 = .ok (.istore_n 1, 1) := by decide +kernel
theorem dX8_matched_2 : decode cX8_matched 2 = .ok (.iconst 0, 1) := by decide +kernel
theorem dX8_matched_3 : decode cX8_matched 3 = .ok (.istore_n 2, 1) := by decide +kernel
theorem dX8_matched_4 : decode cX8_matched 4 = .ok (.iload_n 2, 1) := by decide +kernel
theorem dX8_matched_5 : decode cX8_matched 5 = .ok (.aload_n 0, 1) := by decide +kernel
theorem dX8_matched_6 : decode cX8_matched 6 = .ok (.getfield 60, 3) := by decide +kernel
theorem dX8_matched_9 : decode cX8_matched 9 = .ok (.if_icmp .ge 22, 3) := by decide +kernel
theorem dX8_matched_12 : decode cX8_matched 12 = .ok (.aload_n 0, 1) := by decide +kernel
theorem dX8_matched_13 : decode cX8_matched 13 = .ok (.getfield 23, 3) := by decide +kernel
theorem dX8_matched_16 : decode cX8_matched 16 = .ok (.iload_n 2, 1) := by decide +kernel
theorem dX8_matched_17 : decode cX8_matched 17 = .ok (.iaload, 1) := by decide +kernel
theorem dX8_matched_18 : decode cX8_matched 18 = .ok (.iload_n 1, 1) := by decide +kernel
theorem dX8_matched_19 : decode cX8_matched 19 = .ok (.if_icmp .le 6, 3) := by decide +kernel
theorem dX8_matched_22 : decode cX8_matched 22 = .ok (.iinc 1 1, 3) := by decide +kernel
theorem dX8_matched_25 : decode cX8_matched 25 = .ok (.iinc 2 1, 3) := by decide +kernel
theorem dX8_matched_28 : decode cX8_matched 28 = .ok (.goto (-24), 3) := by decide +kernel
theorem dX8_matched_31 : decode cX8_matched 31 = .ok (.iload_n 1, 1) := by decide +kernel
theorem dX8_matched_32 : decode cX8_matched 32 = .ok (.ireturn, 1) := by decide +kernel
theorem dX8_findCut_0 : decode cX8_findCut 0 = .ok (.aload_n 0, 1) := by decide +kernel
theorem dX8_findCut_1 : decode cX8_findCut 1 = .ok (.iconst 0, 1) := by decide +kernel
theorem dX8_findCut_2 : decode cX8_findCut 2 = .ok (.iconst (-1), 1) := by decide +kernel
theorem dX8_findCut_3 : decode cX8_findCut 3 = .ok (.invokevirtual 52, 3) := by decide +kernel
theorem dX8_findCut_6 : decode cX8_findCut 6 = .ok (.aload_n 0, 1) := by decide +kernel
theorem dX8_findCut_7 : decode cX8_findCut 7 = .ok (.iconst (-1), 1) := by decide +kernel
theorem dX8_findCut_8 : decode cX8_findCut 8 = .ok (.putfield 81, 3) := by decide +kernel
theorem dX8_findCut_11 : decode cX8_findCut 11 = .ok (.iconst 0, 1) := by decide +kernel
theorem dX8_findCut_12 : decode cX8_findCut 12 = .ok (.istore_n 1, 1) := by decide +kernel
theorem dX8_findCut_13 : decode cX8_findCut 13 = .ok (.iload_n 1, 1) := by decide +kernel
theorem dX8_findCut_14 : decode cX8_findCut 14 = .ok (.aload_n 0, 1) := by decide +kernel
theorem dX8_findCut_15 : decode cX8_findCut 15 = .ok (.getfield 15, 3) := by decide +kernel
theorem dX8_findCut_18 : decode cX8_findCut 18 = .ok (.getfield 32, 3) := by decide +kernel
theorem dX8_findCut_21 : decode cX8_findCut 21 = .ok (.if_icmp .ge 63, 3) := by decide +kernel
theorem dX8_findCut_24 : decode cX8_findCut 24 = .ok (.aload_n 0, 1) := by decide +kernel
theorem dX8_findCut_25 : decode cX8_findCut 25 = .ok (.getfield 15, 3) := by decide +kernel
theorem dX8_findCut_28 : decode cX8_findCut 28 = .ok (.iload_n 1, 1) := by decide +kernel
theorem dX8_findCut_29 : decode cX8_findCut 29 = .ok (.invokevirtual 84, 3) := by decide +kernel
theorem dX8_findCut_32 : decode cX8_findCut 32 = .ok (.ifCond .eq 46, 3) := by decide +kernel
theorem dX8_findCut_35 : decode cX8_findCut 35 = .ok (.aload_n 0, 1) := by decide +kernel
theorem dX8_findCut_36 : decode cX8_findCut 36 = .ok (.getfield 9, 3) := by decide +kernel
theorem dX8_findCut_39 : decode cX8_findCut 39 = .ok (.aload_n 0, 1) := by decide +kernel
theorem dX8_findCut_40 : decode cX8_findCut 40 = .ok (.getfield 15, 3) := by decide +kernel
theorem dX8_findCut_43 : decode cX8_findCut 43 = .ok (.getfield 41, 3) := by decide +kernel
theorem dX8_findCut_46 : decode cX8_findCut 46 = .ok (.iload_n 1, 1) := by decide +kernel
theorem dX8_findCut_47 : decode cX8_findCut 47 = .ok (.aaload, 1) := by decide +kernel
theorem dX8_findCut_48 : decode cX8_findCut 48 = .ok (.invokevirtual 45, 3) := by decide +kernel
theorem dX8_findCut_51 : decode cX8_findCut 51 = .ok (.istore_n 2, 1) := by decide +kernel
theorem dX8_findCut_52 : decode cX8_findCut 52 = .ok (.aload_n 0, 1) := by decide +kernel
theorem dX8_findCut_53 : decode cX8_findCut 53 = .ok (.iload_n 2, 1) := by decide +kernel
theorem dX8_findCut_54 : decode cX8_findCut 54 = .ok (.iconst (-1), 1) := by decide +kernel
theorem dX8_findCut_55 : decode cX8_findCut 55 = .ok (.invokevirtual 79, 3) := by decide +kernel
theorem dX8_findCut_58 : decode cX8_findCut 58 = .ok (.aload_n 0, 1) := by decide +kernel
theorem dX8_findCut_59 : decode cX8_findCut 59 = .ok (.iload_n 1, 1) := by decide +kernel
theorem dX8_findCut_60 : decode cX8_findCut 60 = .ok (.iconst 0, 1) := by decide +kernel
theorem dX8_findCut_61 : decode cX8_findCut 61 = .ok (.iload_n 2, 1) := by decide +kernel
theorem dX8_findCut_62 : decode cX8_findCut 62 = .ok (.invokevirtual 87, 3) := by decide +kernel
theorem dX8_findCut_65 : decode cX8_findCut 65 = .ok (.aload_n 0, 1) := by decide +kernel
theorem dX8_findCut_66 : decode cX8_findCut 66 = .ok (.iload_n 1, 1) := by decide +kernel
theorem dX8_findCut_67 : decode cX8_findCut 67 = .ok (.iconst 1, 1) := by decide +kernel
theorem dX8_findCut_68 : decode cX8_findCut 68 = .ok (.iload_n 2, 1) := by decide +kernel
theorem dX8_findCut_69 : decode cX8_findCut 69 = .ok (.invokevirtual 87, 3) := by decide +kernel
theorem dX8_findCut_72 : decode cX8_findCut 72 = .ok (.aload_n 0, 1) := by decide +kernel
theorem dX8_findCut_73 : decode cX8_findCut 73 = .ok (.iload_n 2, 1) := by decide +kernel
theorem dX8_findCut_74 : decode cX8_findCut 74 = .ok (.iconst 1, 1) := by decide +kernel
theorem dX8_findCut_75 : decode cX8_findCut 75 = .ok (.invokevirtual 79, 3) := by decide +kernel
theorem dX8_findCut_78 : decode cX8_findCut 78 = .ok (.iinc 1 1, 3) := by decide +kernel
theorem dX8_findCut_81 : decode cX8_findCut 81 = .ok (.goto (-68), 3) := by decide +kernel
theorem dX8_findCut_84 : decode cX8_findCut 84 = .ok (.aload_n 0, 1) := by decide +kernel
theorem dX8_findCut_85 : decode cX8_findCut 85 = .ok (.getfield 81, 3) := by decide +kernel
theorem dX8_findCut_88 : decode cX8_findCut 88 = .ok (.iconst (-1), 1) := by decide +kernel
theorem dX8_findCut_89 : decode cX8_findCut 89 = .ok (.if_icmp .eq 7, 3) := by decide +kernel
theorem dX8_findCut_92 : decode cX8_findCut 92 = .ok (.iconst 1, 1) := by decide +kernel
theorem dX8_findCut_93 : decode cX8_findCut 93 = .ok (.goto 4, 3) := by decide +kernel
theorem dX8_findCut_96 : decode cX8_findCut 96 = .ok (.iconst 0, 1) := by decide +kernel
theorem dX8_findCut_97 : decode cX8_findCut 97 = .ok (.ireturn, 1) := by decide +kernel
theorem dX8_tryCuts_0 : decode cX8_tryCuts 0 = .ok (.aload_n 0, 1) := by decide +kernel
theorem dX8_tryCuts_1 : decode cX8_tryCuts 1 = .ok (.getfield 15, 3) := by decide +kernel
theorem dX8_tryCuts_4 : decode cX8_tryCuts 4 = .ok (.getfield 41, 3) := by decide +kernel
theorem dX8_tryCuts_7 : decode cX8_tryCuts 7 = .ok (.iload_n 1, 1) := by decide +kernel
theorem dX8_tryCuts_8 : decode cX8_tryCuts 8 = .ok (.aaload, 1) := by decide +kernel
theorem dX8_tryCuts_9 : decode cX8_tryCuts 9 = .ok (.iload_n 2, 1) := by decide +kernel
theorem dX8_tryCuts_10 : decode cX8_tryCuts 10 = .ok (.invokevirtual 91, 3) := by decide +kernel
theorem dX8_tryCuts_13 : decode cX8_tryCuts 13 = .ok (.istore 4, 2) := by decide +kernel
theorem dX8_tryCuts_15 : decode cX8_tryCuts 15 = .ok (.iload 4, 2) := by decide +kernel
theorem dX8_tryCuts_17 : decode cX8_tryCuts 17 = .ok (.iconst 1, 1) := by decide +kernel
theorem dX8_tryCuts_18 : decode cX8_tryCuts 18 = .ok (.if_icmp .ge 4, 3) := by decide +kernel
theorem dX8_tryCuts_21 : decode cX8_tryCuts 21 = .ok (.return_, 1) := by decide +kernel
theorem dX8_tryCuts_22 : decode cX8_tryCuts 22 = .ok (.iload_n 3, 1) := by decide +kernel
theorem dX8_tryCuts_23 : decode cX8_tryCuts 23 = .ok (.iload 4, 2) := by decide +kernel
theorem dX8_tryCuts_25 : decode cX8_tryCuts 25 = .ok (.idiv, 1) := by decide +kernel
theorem dX8_tryCuts_26 : decode cX8_tryCuts 26 = .ok (.istore 5, 2) := by decide +kernel
theorem dX8_tryCuts_28 : decode cX8_tryCuts 28 = .ok (.iconst 1, 1) := by decide +kernel
theorem dX8_tryCuts_29 : decode cX8_tryCuts 29 = .ok (.istore 6, 2) := by decide +kernel
theorem dX8_tryCuts_31 : decode cX8_tryCuts 31 = .ok (.iload 6, 2) := by decide +kernel
theorem dX8_tryCuts_33 : decode cX8_tryCuts 33 = .ok (.iload 4, 2) := by decide +kernel
theorem dX8_tryCuts_35 : decode cX8_tryCuts 35 = .ok (.if_icmp .ge 98, 3) := by decide +kernel
theorem dX8_tryCuts_38 : decode cX8_tryCuts 38 = .ok (.aload_n 0, 1) := by decide +kernel
theorem dX8_tryCuts_39 : decode cX8_tryCuts 39 = .ok (.iload 5, 2) := by decide +kernel
theorem dX8_tryCuts_41 : decode cX8_tryCuts 41 = .ok (.iload 6, 2) := by decide +kernel
theorem dX8_tryCuts_43 : decode cX8_tryCuts 43 = .ok (.imul, 1) := by decide +kernel
theorem dX8_tryCuts_44 : decode cX8_tryCuts 44 = .ok (.iconst 1, 1) := by decide +kernel
theorem dX8_tryCuts_45 : decode cX8_tryCuts 45 = .ok (.invokevirtual 79, 3) := by decide +kernel
theorem dX8_tryCuts_48 : decode cX8_tryCuts 48 = .ok (.aload_n 0, 1) := by decide +kernel
theorem dX8_tryCuts_49 : decode cX8_tryCuts 49 = .ok (.iload_n 3, 1) := by decide +kernel
theorem dX8_tryCuts_50 : decode cX8_tryCuts 50 = .ok (.iload 5, 2) := by decide +kernel
theorem dX8_tryCuts_52 : decode cX8_tryCuts 52 = .ok (.iload 6, 2) := by decide +kernel
theorem dX8_tryCuts_54 : decode cX8_tryCuts 54 = .ok (.imul, 1) := by decide +kernel
theorem dX8_tryCuts_55 : decode cX8_tryCuts 55 = .ok (.isub, 1) := by decide +kernel
theorem dX8_tryCuts_56 : decode cX8_tryCuts 56 = .ok (.iconst 1, 1) := by decide +kernel
theorem dX8_tryCuts_57 : decode cX8_tryCuts 57 = .ok (.invokevirtual 79, 3) := by decide +kernel
theorem dX8_tryCuts_60 : decode cX8_tryCuts 60 = .ok (.aload_n 0, 1) := by decide +kernel
theorem dX8_tryCuts_61 : decode cX8_tryCuts 61 = .ok (.invokevirtual 56, 3) := by decide +kernel
theorem dX8_tryCuts_64 : decode cX8_tryCuts 64 = .ok (.istore 7, 2) := by decide +kernel
theorem dX8_tryCuts_66 : decode cX8_tryCuts 66 = .ok (.aload_n 0, 1) := by decide +kernel
theorem dX8_tryCuts_67 : decode cX8_tryCuts 67 = .ok (.iload 5, 2) := by decide +kernel
theorem dX8_tryCuts_69 : decode cX8_tryCuts 69 = .ok (.iload 6, 2) := by decide +kernel
theorem dX8_tryCuts_71 : decode cX8_tryCuts 71 = .ok (.imul, 1) := by decide +kernel
theorem dX8_tryCuts_72 : decode cX8_tryCuts 72 = .ok (.iconst (-1), 1) := by decide +kernel
theorem dX8_tryCuts_73 : decode cX8_tryCuts 73 = .ok (.invokevirtual 79, 3) := by decide +kernel
theorem dX8_tryCuts_76 : decode cX8_tryCuts 76 = .ok (.aload_n 0, 1) := by decide +kernel
theorem dX8_tryCuts_77 : decode cX8_tryCuts 77 = .ok (.iload_n 3, 1) := by decide +kernel
theorem dX8_tryCuts_78 : decode cX8_tryCuts 78 = .ok (.iload 5, 2) := by decide +kernel
theorem dX8_tryCuts_80 : decode cX8_tryCuts 80 = .ok (.iload 6, 2) := by decide +kernel
theorem dX8_tryCuts_82 : decode cX8_tryCuts 82 = .ok (.imul, 1) := by decide +kernel
theorem dX8_tryCuts_83 : decode cX8_tryCuts 83 = .ok (.isub, 1) := by decide +kernel
theorem dX8_tryCuts_84 : decode cX8_tryCuts 84 = .ok (.iconst (-1), 1) := by decide +kernel
theorem dX8_tryCuts_85 : decode cX8_tryCuts 85 = .ok (.invokevirtual 79, 3) := by decide +kernel
theorem dX8_tryCuts_88 : decode cX8_tryCuts 88 = .ok (.aload_n 0, 1) := by decide +kernel
theorem dX8_tryCuts_89 : decode cX8_tryCuts 89 = .ok (.getfield 81, 3) := by decide +kernel
theorem dX8_tryCuts_92 : decode cX8_tryCuts 92 = .ok (.iconst (-1), 1) := by decide +kernel
theorem dX8_tryCuts_93 : decode cX8_tryCuts 93 = .ok (.if_icmp .eq 12, 3) := by decide +kernel
theorem dX8_tryCuts_96 : decode cX8_tryCuts 96 = .ok (.iload 7, 2) := by decide +kernel
theorem dX8_tryCuts_98 : decode cX8_tryCuts 98 = .ok (.aload_n 0, 1) := by decide +kernel
theorem dX8_tryCuts_99 : decode cX8_tryCuts 99 = .ok (.getfield 97, 3) := by decide +kernel
theorem dX8_tryCuts_102 : decode cX8_tryCuts 102 = .ok (.if_icmp .le 25, 3) := by decide +kernel
theorem dX8_tryCuts_105 : decode cX8_tryCuts 105 = .ok (.aload_n 0, 1) := by decide +kernel
theorem dX8_tryCuts_106 : decode cX8_tryCuts 106 = .ok (.iload_n 1, 1) := by decide +kernel
theorem dX8_tryCuts_107 : decode cX8_tryCuts 107 = .ok (.putfield 81, 3) := by decide +kernel
theorem dX8_tryCuts_110 : decode cX8_tryCuts 110 = .ok (.aload_n 0, 1) := by decide +kernel
theorem dX8_tryCuts_111 : decode cX8_tryCuts 111 = .ok (.iload_n 2, 1) := by decide +kernel
theorem dX8_tryCuts_112 : decode cX8_tryCuts 112 = .ok (.putfield 100, 3) := by decide +kernel
theorem dX8_tryCuts_115 : decode cX8_tryCuts 115 = .ok (.aload_n 0, 1) := by decide +kernel
theorem dX8_tryCuts_116 : decode cX8_tryCuts 116 = .ok (.iload 6, 2) := by decide +kernel
theorem dX8_tryCuts_118 : decode cX8_tryCuts 118 = .ok (.putfield 103, 3) := by decide +kernel
theorem dX8_tryCuts_121 : decode cX8_tryCuts 121 = .ok (.aload_n 0, 1) := by decide +kernel
theorem dX8_tryCuts_122 : decode cX8_tryCuts 122 = .ok (.iload 7, 2) := by decide +kernel
theorem dX8_tryCuts_124 : decode cX8_tryCuts 124 = .ok (.putfield 97, 3) := by decide +kernel
theorem dX8_tryCuts_127 : decode cX8_tryCuts 127 = .ok (.iinc 6 1, 3) := by decide +kernel
theorem dX8_tryCuts_130 : decode cX8_tryCuts 130 = .ok (.goto (-99), 3) := by decide +kernel
theorem dX8_tryCuts_133 : decode cX8_tryCuts 133 = .ok (.return_, 1) := by decide +kernel
theorem dX8_roomOf_0 : decode cX8_roomOf 0 = .ok (.aload_n 0, 1) := by decide +kernel
theorem dX8_roomOf_1 : decode cX8_roomOf 1 = .ok (.getfield 9, 3) := by decide +kernel
theorem dX8_roomOf_4 : decode cX8_roomOf 4 = .ok (.iload_n 1, 1) := by decide +kernel
theorem dX8_roomOf_5 : decode cX8_roomOf 5 = .ok (.invokevirtual 26, 3) := by decide +kernel
theorem dX8_roomOf_8 : decode cX8_roomOf 8 = .ok (.ifCond .ne 5, 3) := by decide +kernel
theorem dX8_roomOf_11 : decode cX8_roomOf 11 = .ok (.iconst (-1), 1) := by decide +kernel
theorem dX8_roomOf_12 : decode cX8_roomOf 12 = .ok (.ireturn, 1) := by decide +kernel
theorem dX8_roomOf_13 : decode cX8_roomOf 13 = .ok (.aload_n 0, 1) := by decide +kernel
theorem dX8_roomOf_14 : decode cX8_roomOf 14 = .ok (.iconst 0, 1) := by decide +kernel
theorem dX8_roomOf_15 : decode cX8_roomOf 15 = .ok (.invokevirtual 106, 3) := by decide +kernel
theorem dX8_roomOf_18 : decode cX8_roomOf 18 = .ok (.istore_n 2, 1) := by decide +kernel
theorem dX8_roomOf_19 : decode cX8_roomOf 19 = .ok (.aload_n 0, 1) := by decide +kernel
theorem dX8_roomOf_20 : decode cX8_roomOf 20 = .ok (.getfield 9, 3) := by decide +kernel
theorem dX8_roomOf_23 : decode cX8_roomOf 23 = .ok (.getfield 49, 3) := by decide +kernel
theorem dX8_roomOf_26 : decode cX8_roomOf 26 = .ok (.iload_n 1, 1) := by decide +kernel
theorem dX8_roomOf_27 : decode cX8_roomOf 27 = .ok (.iaload, 1) := by decide +kernel
theorem dX8_roomOf_28 : decode cX8_roomOf 28 = .ok (.istore_n 3, 1) := by decide +kernel
theorem dX8_roomOf_29 : decode cX8_roomOf 29 = .ok (.aload_n 0, 1) := by decide +kernel
theorem dX8_roomOf_30 : decode cX8_roomOf 30 = .ok (.iconst 0, 1) := by decide +kernel
theorem dX8_roomOf_31 : decode cX8_roomOf 31 = .ok (.iload_n 1, 1) := by decide +kernel
theorem dX8_roomOf_32 : decode cX8_roomOf 32 = .ok (.invokevirtual 52, 3) := by decide +kernel
theorem dX8_roomOf_35 : decode cX8_roomOf 35 = .ok (.iconst (-1), 1) := by decide +kernel
theorem dX8_roomOf_36 : decode cX8_roomOf 36 = .ok (.istore 4, 2) := by decide +kernel
theorem dX8_roomOf_38 : decode cX8_roomOf 38 = .ok (.iconst 0, 1) := by decide +kernel
theorem dX8_roomOf_39 : decode cX8_roomOf 39 = .ok (.istore 5, 2) := by decide +kernel
theorem dX8_roomOf_41 : decode cX8_roomOf 41 = .ok (.iload 5, 2) := by decide +kernel
theorem dX8_roomOf_43 : decode cX8_roomOf 43 = .ok (.aload_n 0, 1) := by decide +kernel
theorem dX8_roomOf_44 : decode cX8_roomOf 44 = .ok (.getfield 15, 3) := by decide +kernel
theorem dX8_roomOf_47 : decode cX8_roomOf 47 = .ok (.getfield 32, 3) := by decide +kernel
theorem dX8_roomOf_50 : decode cX8_roomOf 50 = .ok (.if_icmp .ge 79, 3) := by decide +kernel
theorem dX8_roomOf_53 : decode cX8_roomOf 53 = .ok (.aload_n 0, 1) := by decide +kernel
theorem dX8_roomOf_54 : decode cX8_roomOf 54 = .ok (.getfield 9, 3) := by decide +kernel
theorem dX8_roomOf_57 : decode cX8_roomOf 57 = .ok (.aload_n 0, 1) := by decide +kernel
theorem dX8_roomOf_58 : decode cX8_roomOf 58 = .ok (.getfield 15, 3) := by decide +kernel
theorem dX8_roomOf_61 : decode cX8_roomOf 61 = .ok (.getfield 41, 3) := by decide +kernel
theorem dX8_roomOf_64 : decode cX8_roomOf 64 = .ok (.iload 5, 2) := by decide +kernel
theorem dX8_roomOf_66 : decode cX8_roomOf 66 = .ok (.aaload, 1) := by decide +kernel
theorem dX8_roomOf_67 : decode cX8_roomOf 67 = .ok (.invokevirtual 45, 3) := by decide +kernel
theorem dX8_roomOf_70 : decode cX8_roomOf 70 = .ok (.istore 6, 2) := by decide +kernel
theorem dX8_roomOf_72 : decode cX8_roomOf 72 = .ok (.aload_n 0, 1) := by decide +kernel
theorem dX8_roomOf_73 : decode cX8_roomOf 73 = .ok (.getfield 15, 3) := by decide +kernel
theorem dX8_roomOf_76 : decode cX8_roomOf 76 = .ok (.iload 5, 2) := by decide +kernel
theorem dX8_roomOf_78 : decode cX8_roomOf 78 = .ok (.invokevirtual 38, 3) := by decide +kernel
theorem dX8_roomOf_81 : decode cX8_roomOf 81 = .ok (.ifCond .eq 42, 3) := by decide +kernel
theorem dX8_roomOf_84 : decode cX8_roomOf 84 = .ok (.iload 6, 2) := by decide +kernel
theorem dX8_roomOf_86 : decode cX8_roomOf 86 = .ok (.iload_n 3, 1) := by decide +kernel
theorem dX8_roomOf_87 : decode cX8_roomOf 87 = .ok (.isub, 1) := by decide +kernel
theorem dX8_roomOf_88 : decode cX8_roomOf 88 = .ok (.iload 4, 2) := by decide +kernel
theorem dX8_roomOf_90 : decode cX8_roomOf 90 = .ok (.if_icmp .le 33, 3) := by decide +kernel
theorem dX8_roomOf_93 : decode cX8_roomOf 93 = .ok (.aload_n 0, 1) := by decide +kernel
theorem dX8_roomOf_94 : decode cX8_roomOf 94 = .ok (.iload 6, 2) := by decide +kernel
theorem dX8_roomOf_96 : decode cX8_roomOf 96 = .ok (.iconst (-1), 1) := by decide +kernel
theorem dX8_roomOf_97 : decode cX8_roomOf 97 = .ok (.invokevirtual 79, 3) := by decide +kernel
theorem dX8_roomOf_100 : decode cX8_roomOf 100 = .ok (.aload_n 0, 1) := by decide +kernel
theorem dX8_roomOf_101 : decode cX8_roomOf 101 = .ok (.invokevirtual 56, 3) := by decide +kernel
theorem dX8_roomOf_104 : decode cX8_roomOf 104 = .ok (.iconst 1, 1) := by decide +kernel
theorem dX8_roomOf_105 : decode cX8_roomOf 105 = .ok (.iadd, 1) := by decide +kernel
theorem dX8_roomOf_106 : decode cX8_roomOf 106 = .ok (.iload_n 2, 1) := by decide +kernel
theorem dX8_roomOf_107 : decode cX8_roomOf 107 = .ok (.if_icmp .ne 9, 3) := by decide +kernel
theorem dX8_roomOf_110 : decode cX8_roomOf 110 = .ok (.iload 6, 2) := by decide +kernel
theorem dX8_roomOf_112 : decode cX8_roomOf 112 = .ok (.iload_n 3, 1) := by decide +kernel
theorem dX8_roomOf_113 : decode cX8_roomOf 113 = .ok (.isub, 1) := by decide +kernel
theorem dX8_roomOf_114 : decode cX8_roomOf 114 = .ok (.istore 4, 2) := by decide +kernel
theorem dX8_roomOf_116 : decode cX8_roomOf 116 = .ok (.aload_n 0, 1) := by decide +kernel
theorem dX8_roomOf_117 : decode cX8_roomOf 117 = .ok (.iload 6, 2) := by decide +kernel
theorem dX8_roomOf_119 : decode cX8_roomOf 119 = .ok (.iconst 1, 1) := by decide +kernel
theorem dX8_roomOf_120 : decode cX8_roomOf 120 = .ok (.invokevirtual 79, 3) := by decide +kernel
theorem dX8_roomOf_123 : decode cX8_roomOf 123 = .ok (.iinc 5 1, 3) := by decide +kernel
theorem dX8_roomOf_126 : decode cX8_roomOf 126 = .ok (.goto (-85), 3) := by decide +kernel
theorem dX8_roomOf_129 : decode cX8_roomOf 129 = .ok (.iload 4, 2) := by decide +kernel
theorem dX8_roomOf_131 : decode cX8_roomOf 131 = .ok (.ireturn, 1) := by decide +kernel
theorem dX9_init_0 : decode cX9_init 0 = .ok (.aload_n 0, 1) := by decide +kernel
theorem dX9_init_1 : decode cX9_init 1 = .ok (.invokespecial 3, 3) := by decide +kernel
theorem dX9_init_4 : decode cX9_init 4 = .ok (.aload_n 0, 1) := by decide +kernel
theorem dX9_init_5 : decode cX9_init 5 = .ok (.iconst (-1), 1) := by decide +kernel
theorem dX9_init_6 : decode cX9_init 6 = .ok (.putfield 9, 3) := by decide +kernel
theorem dX9_init_9 : decode cX9_init 9 = .ok (.return_, 1) := by decide +kernel
theorem dX9_layWhole_0 : decode cX9_layWhole 0 = .ok (.aload_n 0, 1) := by decide +kernel
theorem dX9_layWhole_1 : decode cX9_layWhole 1 = .ok (.iload_n 1, 1) := by decide +kernel
theorem dX9_layWhole_2 : decode cX9_layWhole 2 = .ok (.putfield 15, 3) := by decide +kernel
theorem dX9_layWhole_5 : decode cX9_layWhole 5 = .ok (.aload_n 0, 1) := by decide +kernel
theorem dX9_layWhole_6 : decode cX9_layWhole 6 = .ok (.iconst 0, 1) := by decide +kernel
theorem dX9_layWhole_7 : decode cX9_layWhole 7 = .ok (.putfield 18, 3) := by decide +kernel
theorem dX9_layWhole_10 : decode cX9_layWhole 10 = .ok (.aload_n 0, 1) := by decide +kernel
theorem dX9_layWhole_11 : decode cX9_layWhole 11 = .ok (.iconst 0, 1) := by decide +kernel
theorem dX9_layWhole_12 : decode cX9_layWhole 12 = .ok (.putfield 21, 3) := by decide +kernel
theorem dX9_layWhole_15 : decode cX9_layWhole 15 = .ok (.aload_n 0, 1) := by decide +kernel
theorem dX9_layWhole_16 : decode cX9_layWhole 16 = .ok (.iload_n 2, 1) := by decide +kernel
theorem dX9_layWhole_17 : decode cX9_layWhole 17 = .ok (.putfield 24, 3) := by decide +kernel
theorem dX9_layWhole_20 : decode cX9_layWhole 20 = .ok (.aload_n 0, 1) := by decide +kernel
theorem dX9_layWhole_21 : decode cX9_layWhole 21 = .ok (.iload_n 3, 1) := by decide +kernel
theorem dX9_layWhole_22 : decode cX9_layWhole 22 = .ok (.putfield 27, 3) := by decide +kernel
theorem dX9_layWhole_25 : decode cX9_layWhole 25 = .ok (.aload_n 0, 1) := by decide +kernel
theorem dX9_layWhole_26 : decode cX9_layWhole 26 = .ok (.iconst 0, 1) := by decide +kernel
theorem dX9_layWhole_27 : decode cX9_layWhole 27 = .ok (.putfield 30, 3) := by decide +kernel
theorem dX9_layWhole_30 : decode cX9_layWhole 30 = .ok (.aload_n 0, 1) := by decide +kernel
theorem dX9_layWhole_31 : decode cX9_layWhole 31 = .ok (.iconst (-1), 1) := by decide +kernel
theorem dX9_layWhole_32 : decode cX9_layWhole 32 = .ok (.putfield 9, 3) := by decide +kernel
theorem dX9_layWhole_35 : decode cX9_layWhole 35 = .ok (.return_, 1) := by decide +kernel
theorem dX9_takeFrom_0 : decode cX9_takeFrom 0 = .ok (.aload_n 0, 1) := by decide +kernel
theorem dX9_takeFrom_1 : decode cX9_takeFrom 1 = .ok (.aload_n 1, 1) := by decide +kernel
theorem dX9_takeFrom_2 : decode cX9_takeFrom 2 = .ok (.getfield 15, 3) := by decide +kernel
theorem dX9_takeFrom_5 : decode cX9_takeFrom 5 = .ok (.putfield 15, 3) := by decide +kernel
theorem dX9_takeFrom_8 : decode cX9_takeFrom 8 = .ok (.aload_n 0, 1) := by decide +kernel
theorem dX9_takeFrom_9 : decode cX9_takeFrom 9 = .ok (.aload_n 1, 1) := by decide +kernel
theorem dX9_takeFrom_10 : decode cX9_takeFrom 10 = .ok (.getfield 18, 3) := by decide +kernel
theorem dX9_takeFrom_13 : decode cX9_takeFrom 13 = .ok (.putfield 18, 3) := by decide +kernel
theorem dX9_takeFrom_16 : decode cX9_takeFrom 16 = .ok (.aload_n 0, 1) := by decide +kernel
theorem dX9_takeFrom_17 : decode cX9_takeFrom 17 = .ok (.aload_n 1, 1) := by decide +kernel
theorem dX9_takeFrom_18 : decode cX9_takeFrom 18 = .ok (.getfield 21, 3) := by decide +kernel
theorem dX9_takeFrom_21 : decode cX9_takeFrom 21 = .ok (.putfield 21, 3) := by decide +kernel
theorem dX9_takeFrom_24 : decode cX9_takeFrom 24 = .ok (.aload_n 0, 1) := by decide +kernel
theorem dX9_takeFrom_25 : decode cX9_takeFrom 25 = .ok (.aload_n 1, 1) := by decide +kernel
theorem dX9_takeFrom_26 : decode cX9_takeFrom 26 = .ok (.getfield 24, 3) := by decide +kernel
theorem dX9_takeFrom_29 : decode cX9_takeFrom 29 = .ok (.putfield 24, 3) := by decide +kernel
theorem dX9_takeFrom_32 : decode cX9_takeFrom 32 = .ok (.aload_n 0, 1) := by decide +kernel
theorem dX9_takeFrom_33 : decode cX9_takeFrom 33 = .ok (.aload_n 1, 1) := by decide +kernel
theorem dX9_takeFrom_34 : decode cX9_takeFrom 34 = .ok (.getfield 27, 3) := by decide +kernel
theorem dX9_takeFrom_37 : decode cX9_takeFrom 37 = .ok (.putfield 27, 3) := by decide +kernel
theorem dX9_takeFrom_40 : decode cX9_takeFrom 40 = .ok (.aload_n 0, 1) := by decide +kernel
theorem dX9_takeFrom_41 : decode cX9_takeFrom 41 = .ok (.aload_n 1, 1) := by decide +kernel
theorem dX9_takeFrom_42 : decode cX9_takeFrom 42 = .ok (.getfield 30, 3) := by decide +kernel
theorem dX9_takeFrom_45 : decode cX9_takeFrom 45 = .ok (.putfield 30, 3) := by decide +kernel
theorem dX9_takeFrom_48 : decode cX9_takeFrom 48 = .ok (.aload_n 0, 1) := by decide +kernel
theorem dX9_takeFrom_49 : decode cX9_takeFrom 49 = .ok (.aload_n 1, 1) := by decide +kernel
theorem dX9_takeFrom_50 : decode cX9_takeFrom 50 = .ok (.getfield 9, 3) := by decide +kernel
theorem dX9_takeFrom_53 : decode cX9_takeFrom 53 = .ok (.putfield 9, 3) := by decide +kernel
theorem dX9_takeFrom_56 : decode cX9_takeFrom 56 = .ok (.return_, 1) := by decide +kernel
theorem dX9_extent_0 : decode cX9_extent 0 = .ok (.iload_n 1, 1) := by decide +kernel
theorem dX9_extent_1 : decode cX9_extent 1 = .ok (.ifCond .ne 10, 3) := by decide +kernel
theorem dX9_extent_4 : decode cX9_extent 4 = .ok (.aload_n 0, 1) := by decide +kernel
theorem dX9_extent_5 : decode cX9_extent 5 = .ok (.getfield 24, 3) := by decide +kernel
theorem dX9_extent_8 : decode cX9_extent 8 = .ok (.goto 7, 3) := by decide +kernel
theorem dX9_extent_11 : decode cX9_extent 11 = .ok (.aload_n 0, 1) := by decide +kernel
theorem dX9_extent_12 : decode cX9_extent 12 = .ok (.getfield 27, 3) := by decide +kernel
theorem dX9_extent_15 : decode cX9_extent 15 = .ok (.ireturn, 1) := by decide +kernel
theorem dX9_along_0 : decode cX9_along 0 = .ok (.iload_n 1, 1) := by decide +kernel
theorem dX9_along_1 : decode cX9_along 1 = .ok (.ifCond .ne 10, 3) := by decide +kernel
theorem dX9_along_4 : decode cX9_along 4 = .ok (.aload_n 0, 1) := by decide +kernel
theorem dX9_along_5 : decode cX9_along 5 = .ok (.getfield 27, 3) := by decide +kernel
theorem dX9_along_8 : decode cX9_along 8 = .ok (.goto 7, 3) := by decide +kernel
theorem dX9_along_11 : decode cX9_along 11 = .ok (.aload_n 0, 1) := by decide +kernel
theorem dX9_along_12 : decode cX9_along 12 = .ok (.getfield 24, 3) := by decide +kernel
theorem dX9_along_15 : decode cX9_along 15 = .ok (.ireturn, 1) := by decide +kernel
theorem dX9_keepAhead_0 : decode cX9_keepAhead 0 = .ok (.iload_n 1, 1) := by decide +kernel
theorem dX9_keepAhead_1 : decode cX9_keepAhead 1 = .ok (.ifCond .ne 11, 3) := by decide +kernel
theorem dX9_keepAhead_4 : decode cX9_keepAhead 4 = .ok (.aload_n 0, 1) := by decide +kernel
theorem dX9_keepAhead_5 : decode cX9_keepAhead 5 = .ok (.iload_n 2, 1) := by decide +kernel
theorem dX9_keepAhead_6 : decode cX9_keepAhead 6 = .ok (.putfield 24, 3) := by decide +kernel
theorem dX9_keepAhead_9 : decode cX9_keepAhead 9 = .ok (.goto 8, 3) := by decide +kernel
theorem dX9_keepAhead_12 : decode cX9_keepAhead 12 = .ok (.aload_n 0, 1) := by decide +kernel
theorem dX9_keepAhead_13 : decode cX9_keepAhead 13 = .ok (.iload_n 2, 1) := by decide +kernel
theorem dX9_keepAhead_14 : decode cX9_keepAhead 14 = .ok (.putfield 27, 3) := by decide +kernel
theorem dX9_keepAhead_17 : decode cX9_keepAhead 17 = .ok (.return_, 1) := by decide +kernel
theorem dX9_keepBehind_0 : decode cX9_keepBehind 0 = .ok (.iload_n 1, 1) := by decide +kernel
theorem dX9_keepBehind_1 : decode cX9_keepBehind 1 = .ok (.ifCond .ne 26, 3) := by decide +kernel
theorem dX9_keepBehind_4 : decode cX9_keepBehind 4 = .ok (.aload_n 0, 1) := by decide +kernel
theorem dX9_keepBehind_5 : decode cX9_keepBehind 5 = .ok (.dup, 1) := by decide +kernel
theorem dX9_keepBehind_6 : decode cX9_keepBehind 6 = .ok (.getfield 18, 3) := by decide +kernel
theorem dX9_keepBehind_9 : decode cX9_keepBehind 9 = .ok (.iload_n 2, 1) := by decide +kernel
theorem dX9_keepBehind_10 : decode cX9_keepBehind 10 = .ok (.iadd, 1) := by decide +kernel
theorem dX9_keepBehind_11 : decode cX9_keepBehind 11 = .ok (.putfield 18, 3) := by decide +kernel
theorem dX9_keepBehind_14 : decode cX9_keepBehind 14 = .ok (.aload_n 0, 1) := by decide +kernel
theorem dX9_keepBehind_15 : decode cX9_keepBehind 15 = .ok (.dup, 1) := by decide +kernel
theorem dX9_keepBehind_16 : decode cX9_keepBehind 16 = .ok (.getfield 24, 3) := by decide +kernel
theorem dX9_keepBehind_19 : decode cX9_keepBehind 19 = .ok (.iload_n 2, 1) := by decide +kernel
theorem dX9_keepBehind_20 : decode cX9_keepBehind 20 = .ok (.isub, 1) := by decide +kernel
theorem dX9_keepBehind_21 : decode cX9_keepBehind 21 = .ok (.putfield 24, 3) := by decide +kernel
theorem dX9_keepBehind_24 : decode cX9_keepBehind 24 = .ok (.goto 23, 3) := by decide +kernel
theorem dX9_keepBehind_27 : decode cX9_keepBehind 27 = .ok (.aload_n 0, 1) := by decide +kernel
theorem dX9_keepBehind_28 : decode cX9_keepBehind 28 = .ok (.dup, 1) := by decide +kernel
theorem dX9_keepBehind_29 : decode cX9_keepBehind 29 = .ok (.getfield 21, 3) := by decide +kernel
theorem dX9_keepBehind_32 : decode cX9_keepBehind 32 = .ok (.iload_n 2, 1) := by decide +kernel
theorem dX9_keepBehind_33 : decode cX9_keepBehind 33 = .ok (.iadd, 1) := by decide +kernel
theorem dX9_keepBehind_34 : decode cX9_keepBehind 34 = .ok (.putfield 21, 3) := by decide +kernel
theorem dX9_keepBehind_37 : decode cX9_keepBehind 37 = .ok (.aload_n 0, 1) := by decide +kernel
theorem dX9_keepBehind_38 : decode cX9_keepBehind 38 = .ok (.dup, 1) := by decide +kernel
theorem dX9_keepBehind_39 : decode cX9_keepBehind 39 = .ok (.getfield 27, 3) := by decide +kernel
theorem dX9_keepBehind_42 : decode cX9_keepBehind 42 = .ok (.iload_n 2, 1) := by decide +kernel
theorem dX9_keepBehind_43 : decode cX9_keepBehind 43 = .ok (.isub, 1) := by decide +kernel
theorem dX9_keepBehind_44 : decode cX9_keepBehind 44 = .ok (.putfield 27, 3) := by decide +kernel
theorem dX9_keepBehind_47 : decode cX9_keepBehind 47 = .ok (.return_, 1) := by decide +kernel
theorem dX9_growBy_0 : decode cX9_growBy 0 = .ok (.iload_n 1, 1) := by decide +kernel
theorem dX9_growBy_1 : decode cX9_growBy 1 = .ok (.ifCond .ne 16, 3) := by decide +kernel
theorem dX9_growBy_4 : decode cX9_growBy 4 = .ok (.aload_n 0, 1) := by decide +kernel
theorem dX9_growBy_5 : decode cX9_growBy 5 = .ok (.dup, 1) := by decide +kernel
theorem dX9_growBy_6 : decode cX9_growBy 6 = .ok (.getfield 24, 3) := by decide +kernel
theorem dX9_growBy_9 : decode cX9_growBy 9 = .ok (.iload_n 2, 1) := by decide +kernel
theorem dX9_growBy_10 : decode cX9_growBy 10 = .ok (.iadd, 1) := by decide +kernel
theorem dX9_growBy_11 : decode cX9_growBy 11 = .ok (.putfield 24, 3) := by decide +kernel
theorem dX9_growBy_14 : decode cX9_growBy 14 = .ok (.goto 13, 3) := by decide +kernel
theorem dX9_growBy_17 : decode cX9_growBy 17 = .ok (.aload_n 0, 1) := by decide +kernel
theorem dX9_growBy_18 : decode cX9_growBy 18 = .ok (.dup, 1) := by decide +kernel
theorem dX9_growBy_19 : decode cX9_growBy 19 = .ok (.getfield 27, 3) := by decide +kernel
theorem dX9_growBy_22 : decode cX9_growBy 22 = .ok (.iload_n 2, 1) := by decide +kernel
theorem dX9_growBy_23 : decode cX9_growBy 23 = .ok (.iadd, 1) := by decide +kernel
theorem dX9_growBy_24 : decode cX9_growBy 24 = .ok (.putfield 27, 3) := by decide +kernel
theorem dX9_growBy_27 : decode cX9_growBy 27 = .ok (.return_, 1) := by decide +kernel
theorem dX9_holds_0 : decode cX9_holds 0 = .ok (.iload_n 1, 1) := by decide +kernel
theorem dX9_holds_1 : decode cX9_holds 1 = .ok (.aload_n 0, 1) := by decide +kernel
theorem dX9_holds_2 : decode cX9_holds 2 = .ok (.getfield 15, 3) := by decide +kernel
theorem dX9_holds_5 : decode cX9_holds 5 = .ok (.if_icmp .ne 49, 3) := by decide +kernel
theorem dX9_holds_8 : decode cX9_holds 8 = .ok (.iload_n 2, 1) := by decide +kernel
theorem dX9_holds_9 : decode cX9_holds 9 = .ok (.aload_n 0, 1) := by decide +kernel
theorem dX9_holds_10 : decode cX9_holds 10 = .ok (.getfield 18, 3) := by decide +kernel
theorem dX9_holds_13 : decode cX9_holds 13 = .ok (.if_icmp .lt 41, 3) := by decide +kernel
theorem dX9_holds_16 : decode cX9_holds 16 = .ok (.iload_n 2, 1) := by decide +kernel
theorem dX9_holds_17 : decode cX9_holds 17 = .ok (.aload_n 0, 1) := by decide +kernel
theorem dX9_holds_18 : decode cX9_holds 18 = .ok (.getfield 18, 3) := by decide +kernel
theorem dX9_holds_21 : decode cX9_holds 21 = .ok (.aload_n 0, 1) := by decide +kernel
theorem dX9_holds_22 : decode cX9_holds 22 = .ok (.getfield 24, 3) := by decide +kernel
theorem dX9_holds_25 : decode cX9_holds 25 = .ok (.iadd, 1) := by decide +kernel
theorem dX9_holds_26 : decode cX9_holds 26 = .ok (.if_icmp .ge 28, 3) := by decide +kernel
theorem dX9_holds_29 : decode cX9_holds 29 = .ok (.iload_n 3, 1) := by decide +kernel
theorem dX9_holds_30 : decode cX9_holds 30 = .ok (.aload_n 0, 1) := by decide +kernel
theorem dX9_holds_31 : decode cX9_holds 31 = .ok (.getfield 21, 3) := by decide +kernel
theorem dX9_holds_34 : decode cX9_holds 34 = .ok (.if_icmp .lt 20, 3) := by decide +kernel
theorem dX9_holds_37 : decode cX9_holds 37 = .ok (.iload_n 3, 1) := by decide +kernel
theorem dX9_holds_38 : decode cX9_holds 38 = .ok (.aload_n 0, 1) := by decide +kernel
theorem dX9_holds_39 : decode cX9_holds 39 = .ok (.getfield 21, 3) := by decide +kernel
theorem dX9_holds_42 : decode cX9_holds 42 = .ok (.aload_n 0, 1) := by decide +kernel
theorem dX9_holds_43 : decode cX9_holds 43 = .ok (.getfield 27, 3) := by decide +kernel
theorem dX9_holds_46 : decode cX9_holds 46 = .ok (.iadd, 1) := by decide +kernel
theorem dX9_holds_47 : decode cX9_holds 47 = .ok (.if_icmp .ge 7, 3) := by decide +kernel
theorem dX9_holds_50 : decode cX9_holds 50 = .ok (.iconst 1, 1) := by decide +kernel
theorem dX9_holds_51 : decode cX9_holds 51 = .ok (.goto 4, 3) := by decide +kernel
theorem dX9_holds_54 : decode cX9_holds 54 = .ok (.iconst 0, 1) := by decide +kernel
theorem dX9_holds_55 : decode cX9_holds 55 = .ok (.ireturn, 1) := by decide +kernel
theorem dX10_init_0 : decode cX10_init 0 = .ok (.aload_n 0, 1) := by decide +kernel
theorem dX10_init_1 : decode cX10_init 1 = .ok (.invokespecial 3, 3) := by decide +kernel
theorem dX10_init_4 : decode cX10_init 4 = .ok (.aload_n 0, 1) := by decide +kernel
theorem dX10_init_5 : decode cX10_init 5 = .ok (.aload_n 1, 1) := by decide +kernel
theorem dX10_init_6 : decode cX10_init 6 = .ok (.putfield 9, 3) := by decide +kernel
theorem dX10_init_9 : decode cX10_init 9 = .ok (.aload_n 0, 1) := by decide +kernel
theorem dX10_init_10 : decode cX10_init 10 = .ok (.aload_n 2, 1) := by decide +kernel
theorem dX10_init_11 : decode cX10_init 11 = .ok (.putfield 15, 3) := by decide +kernel
theorem dX10_init_14 : decode cX10_init 14 = .ok (.aload_n 0, 1) := by decide +kernel
theorem dX10_init_15 : decode cX10_init 15 = .ok (.bipush 7, 2) := by decide +kernel
theorem dX10_init_17 : decode cX10_init 17 = .ok (.newarray .int, 2) := by decide +kernel
theorem dX10_init_19 : decode cX10_init 19 = .ok (.putfield 21, 3) := by decide +kernel
theorem dX10_init_22 : decode cX10_init 22 = .ok (.aload_n 0, 1) := by decide +kernel
theorem dX10_init_23 : decode cX10_init 23 = .ok (.bipush 36, 2) := by decide +kernel
theorem dX10_init_25 : decode cX10_init 25 = .ok (.newarray .int, 2) := by decide +kernel
theorem dX10_init_27 : decode cX10_init 27 = .ok (.putfield 25, 3) := by decide +kernel
theorem dX10_init_30 : decode cX10_init 30 = .ok (.return_, 1) := by decide +kernel
theorem dX10_measure_0 : decode cX10_measure 0 = .ok (.aload_n 0, 1) := by decide +kernel
theorem dX10_measure_1 : decode cX10_measure 1 = .ok (.getfield 21, 3) := by decide +kernel
theorem dX10_measure_4 : decode cX10_measure 4 = .ok (.iconst 1, 1) := by decide +kernel
theorem dX10_measure_5 : decode cX10_measure 5 = .ok (.aload_n 0, 1) := by decide +kernel
theorem dX10_measure_6 : decode cX10_measure 6 = .ok (.getfield 9, 3) := by decide +kernel
theorem dX10_measure_9 : decode cX10_measure 9 = .ok (.aload_n 1, 1) := by decide +kernel
theorem dX10_measure_10 : decode cX10_measure 10 = .ok (.invokevirtual 28, 3) := by decide +kernel
theorem dX10_measure_13 : decode cX10_measure 13 = .ok (.iastore, 1) := by decide +kernel
theorem dX10_measure_14 : decode cX10_measure 14 = .ok (.aload_n 0, 1) := by decide +kernel
theorem dX10_measure_15 : decode cX10_measure 15 = .ok (.getfield 21, 3) := by decide +kernel
theorem dX10_measure_18 : decode cX10_measure 18 = .ok (.iconst 2, 1) := by decide +kernel
theorem dX10_measure_19 : decode cX10_measure 19 = .ok (.aload_n 0, 1) := by decide +kernel
theorem dX10_measure_20 : decode cX10_measure 20 = .ok (.getfield 9, 3) := by decide +kernel
theorem dX10_measure_23 : decode cX10_measure 23 = .ok (.aload_n 1, 1) := by decide +kernel
theorem dX10_measure_24 : decode cX10_measure 24 = .ok (.invokevirtual 34, 3) := by decide +kernel
theorem dX10_measure_27 : decode cX10_measure 27 = .ok (.iastore, 1) := by decide +kernel
theorem dX10_measure_28 : decode cX10_measure 28 = .ok (.aload_n 0, 1) := by decide +kernel
theorem dX10_measure_29 : decode cX10_measure 29 = .ok (.getfield 21, 3) := by decide +kernel
theorem dX10_measure_32 : decode cX10_measure 32 = .ok (.iconst 3, 1) := by decide +kernel
theorem dX10_measure_33 : decode cX10_measure 33 = .ok (.iconst 0, 1) := by decide +kernel
theorem dX10_measure_34 : decode cX10_measure 34 = .ok (.iastore, 1) := by decide +kernel
theorem dX10_measure_35 : decode cX10_measure 35 = .ok (.aload_n 0, 1) := by decide +kernel
theorem dX10_measure_36 : decode cX10_measure 36 = .ok (.getfield 21, 3) := by decide +kernel
theorem dX10_measure_39 : decode cX10_measure 39 = .ok (.iconst 4, 1) := by decide +kernel
theorem dX10_measure_40 : decode cX10_measure 40 = .ok (.aload_n 1, 1) := by decide +kernel
theorem dX10_measure_41 : decode cX10_measure 41 = .ok (.getfield 37, 3) := by decide +kernel
theorem dX10_measure_44 : decode cX10_measure 44 = .ok (.ifCond .eq 7, 3) := by decide +kernel
theorem dX10_measure_47 : decode cX10_measure 47 = .ok (.iconst 1, 1) := by decide +kernel
theorem dX10_measure_48 : decode cX10_measure 48 = .ok (.goto 4, 3) := by decide +kernel
theorem dX10_measure_51 : decode cX10_measure 51 = .ok (.iconst 0, 1) := by decide +kernel
theorem dX10_measure_52 : decode cX10_measure 52 = .ok (.iastore, 1) := by decide +kernel
theorem dX10_measure_53 : decode cX10_measure 53 = .ok (.aload_n 0, 1) := by decide +kernel
theorem dX10_measure_54 : decode cX10_measure 54 = .ok (.getfield 21, 3) := by decide +kernel
theorem dX10_measure_57 : decode cX10_measure 57 = .ok (.iconst 5, 1) := by decide +kernel
theorem dX10_measure_58 : decode cX10_measure 58 = .ok (.iconst 0, 1) := by decide +kernel
theorem dX10_measure_59 : decode cX10_measure 59 = .ok (.iastore, 1) := by decide +kernel
theorem dX10_measure_60 : decode cX10_measure 60 = .ok (.aload_n 0, 1) := by decide +kernel
theorem dX10_measure_61 : decode cX10_measure 61 = .ok (.getfield 21, 3) := by decide +kernel
theorem dX10_measure_64 : decode cX10_measure 64 = .ok (.bipush 6, 2) := by decide +kernel
theorem dX10_measure_66 : decode cX10_measure 66 = .ok (.aload_n 0, 1) := by decide +kernel
theorem dX10_measure_67 : decode cX10_measure 67 = .ok (.getfield 15, 3) := by decide +kernel
theorem dX10_measure_70 : decode cX10_measure 70 = .ok (.getfield 43, 3) := by decide +kernel
theorem dX10_measure_73 : decode cX10_measure 73 = .ok (.iastore, 1) := by decide +kernel
theorem dX10_measure_74 : decode cX10_measure 74 = .ok (.return_, 1) := by decide +kernel
theorem dX10_ofSlab_0 : decode cX10_ofSlab 0 = .ok (.aload_n 0, 1) := by decide +kernel
theorem dX10_ofSlab_1 : decode cX10_ofSlab 1 = .ok (.aload_n 2, 1) := by decide +kernel
theorem dX10_ofSlab_2 : decode cX10_ofSlab 2 = .ok (.invokevirtual 49, 3) := by decide +kernel
theorem dX10_ofSlab_5 : decode cX10_ofSlab 5 = .ok (.aload_n 0, 1) := by decide +kernel
theorem dX10_ofSlab_6 : decode cX10_ofSlab 6 = .ok (.getfield 21, 3) := by decide +kernel
theorem dX10_ofSlab_9 : decode cX10_ofSlab 9 = .ok (.iconst 3, 1) := by decide +kernel
theorem dX10_ofSlab_10 : decode cX10_ofSlab 10 = .ok (.aload_n 0, 1) := by decide +kernel
theorem dX10_ofSlab_11 : decode cX10_ofSlab 11 = .ok (.getfield 9, 3) := by decide +kernel
theorem dX10_ofSlab_14 : decode cX10_ofSlab 14 = .ok (.iload_n 1, 1) := by decide +kernel
theorem dX10_ofSlab_15 : decode cX10_ofSlab 15 = .ok (.invokevirtual 53, 3) := by decide +kernel
theorem dX10_ofSlab_18 : decode cX10_ofSlab 18 = .ok (.ifCond .eq 15, 3) := by decide +kernel
theorem dX10_ofSlab_21 : decode cX10_ofSlab 21 = .ok (.aload_n 0, 1) := by decide +kernel
theorem dX10_ofSlab_22 : decode cX10_ofSlab 22 = .ok (.getfield 9, 3) := by decide +kernel
theorem dX10_ofSlab_25 : decode cX10_ofSlab 25 = .ok (.getfield 57, 3) := by decide +kernel
theorem dX10_ofSlab_28 : decode cX10_ofSlab 28 = .ok (.iload_n 1, 1) := by decide +kernel
theorem dX10_ofSlab_29 : decode cX10_ofSlab 29 = .ok (.iaload, 1) := by decide +kernel
theorem dX10_ofSlab_30 : decode cX10_ofSlab 30 = .ok (.goto 4, 3) := by decide +kernel
theorem dX10_ofSlab_33 : decode cX10_ofSlab 33 = .ok (.iconst 0, 1) := by decide +kernel
theorem dX10_ofSlab_34 : decode cX10_ofSlab 34 = .ok (.iastore, 1) := by decide +kernel
theorem dX10_ofSlab_35 : decode cX10_ofSlab 35 = .ok (.aload_n 0, 1) := by decide +kernel
theorem dX10_ofSlab_36 : decode cX10_ofSlab 36 = .ok (.getfield 9, 3) := by decide +kernel
theorem dX10_ofSlab_39 : decode cX10_ofSlab 39 = .ok (.getfield 60, 3) := by decide +kernel
theorem dX10_ofSlab_42 : decode cX10_ofSlab 42 = .ok (.aload_n 0, 1) := by decide +kernel
theorem dX10_ofSlab_43 : decode cX10_ofSlab 43 = .ok (.getfield 21, 3) := by decide +kernel
theorem dX10_ofSlab_46 : decode cX10_ofSlab 46 = .ok (.invokevirtual 64, 3) := by decide +kernel
theorem dX10_ofSlab_49 : decode cX10_ofSlab 49 = .ok (.ireturn, 1) := by decide +kernel
theorem dX10_ofPiece_0 : decode cX10_ofPiece 0 = .ok (.aload_n 0, 1) := by decide +kernel
theorem dX10_ofPiece_1 : decode cX10_ofPiece 1 = .ok (.getfield 15, 3) := by decide +kernel
theorem dX10_ofPiece_4 : decode cX10_ofPiece 4 = .ok (.iload_n 2, 1) := by decide +kernel
theorem dX10_ofPiece_5 : decode cX10_ofPiece 5 = .ok (.invokevirtual 68, 3) := by decide +kernel
theorem dX10_ofPiece_8 : decode cX10_ofPiece 8 = .ok (.ifCond .eq 20, 3) := by decide +kernel
theorem dX10_ofPiece_11 : decode cX10_ofPiece 11 = .ok (.aload_n 0, 1) := by decide +kernel
theorem dX10_ofPiece_12 : decode cX10_ofPiece 12 = .ok (.iload_n 1, 1) := by decide +kernel
theorem dX10_ofPiece_13 : decode cX10_ofPiece 13 = .ok (.aload_n 0, 1) := by decide +kernel
theorem dX10_ofPiece_14 : decode cX10_ofPiece 14 = .ok (.getfield 15, 3) := by decide +kernel
theorem dX10_ofPiece_17 : decode cX10_ofPiece 17 = .ok (.getfield 71, 3) := by decide +kernel
theorem dX10_ofPiece_20 : decode cX10_ofPiece 20 = .ok (.iload_n 2, 1) := by decide +kernel
theorem dX10_ofPiece_21 : decode cX10_ofPiece 21 = .ok (.aaload, 1) := by decide +kernel
theorem dX10_ofPiece_22 : decode cX10_ofPiece 22 = .ok (.invokevirtual 75, 3) := by decide +kernel
theorem dX10_ofPiece_25 : decode cX10_ofPiece 25 = .ok (.goto 4, 3) := by decide +kernel
theorem dX10_ofPiece_28 : decode cX10_ofPiece 28 = .ok (.iload_n 3, 1) := by decide +kernel
theorem dX10_ofPiece_29 : decode cX10_ofPiece 29 = .ok (.ireturn, 1) := by decide +kernel
theorem dX10_slipOf_0 : decode cX10_slipOf 0 = .ok (.aload_n 0, 1) := by decide +kernel
theorem dX10_slipOf_1 : decode cX10_slipOf 1 = .ok (.getfield 15, 3) := by decide +kernel
theorem dX10_slipOf_4 : decode cX10_slipOf 4 = .ok (.iload_n 1, 1) := by decide +kernel
theorem dX10_slipOf_5 : decode cX10_slipOf 5 = .ok (.invokevirtual 68, 3) := by decide +kernel
theorem dX10_slipOf_8 : decode cX10_slipOf 8 = .ok (.ifCond .ne 5, 3) := by decide +kernel
theorem dX10_slipOf_11 : decode cX10_slipOf 11 = .ok (.iconst 0, 1) := by decide +kernel
theorem dX10_slipOf_12 : decode cX10_slipOf 12 = .ok (.ireturn, 1) := by decide +kernel
theorem dX10_slipOf_13 : decode cX10_slipOf 13 = .ok (.aload_n 0, 1) := by decide +kernel
theorem dX10_slipOf_14 : decode cX10_slipOf 14 = .ok (.aload_n 0, 1) := by decide +kernel
theorem dX10_slipOf_15 : decode cX10_slipOf 15 = .ok (.getfield 15, 3) := by decide +kernel
theorem dX10_slipOf_18 : decode cX10_slipOf 18 = .ok (.getfield 71, 3) := by decide +kernel
theorem dX10_slipOf_21 : decode cX10_slipOf 21 = .ok (.iload_n 1, 1) := by decide +kernel
theorem dX10_slipOf_22 : decode cX10_slipOf 22 = .ok (.aaload, 1) := by decide +kernel
theorem dX10_slipOf_23 : decode cX10_slipOf 23 = .ok (.invokevirtual 49, 3) := by decide +kernel
theorem dX10_slipOf_26 : decode cX10_slipOf 26 = .ok (.aload_n 0, 1) := by decide +kernel
theorem dX10_slipOf_27 : decode cX10_slipOf 27 = .ok (.getfield 21, 3) := by decide +kernel
theorem dX10_slipOf_30 : decode cX10_slipOf 30 = .ok (.iconst 5, 1) := by decide +kernel
theorem dX10_slipOf_31 : decode cX10_slipOf 31 = .ok (.aload_n 0, 1) := by decide +kernel
theorem dX10_slipOf_32 : decode cX10_slipOf 32 = .ok (.getfield 15, 3) := by decide +kernel
theorem dX10_slipOf_35 : decode cX10_slipOf 35 = .ok (.getfield 71, 3) := by decide +kernel
theorem dX10_slipOf_38 : decode cX10_slipOf 38 = .ok (.iload_n 1, 1) := by decide +kernel
theorem dX10_slipOf_39 : decode cX10_slipOf 39 = .ok (.aaload, 1) := by decide +kernel
theorem dX10_slipOf_40 : decode cX10_slipOf 40 = .ok (.iload_n 2, 1) := by decide +kernel
theorem dX10_slipOf_41 : decode cX10_slipOf 41 = .ok (.invokevirtual 79, 3) := by decide +kernel
theorem dX10_slipOf_44 : decode cX10_slipOf 44 = .ok (.iastore, 1) := by decide +kernel
theorem dX10_slipOf_45 : decode cX10_slipOf 45 = .ok (.aload_n 0, 1) := by decide +kernel
theorem dX10_slipOf_46 : decode cX10_slipOf 46 = .ok (.getfield 9, 3) := by decide +kernel
theorem dX10_slipOf_49 : decode cX10_slipOf 49 = .ok (.getfield 83, 3) := by decide +kernel
theorem dX10_slipOf_52 : decode cX10_slipOf 52 = .ok (.aload_n 0, 1) := by decide +kernel
theorem dX10_slipOf_53 : decode cX10_slipOf 53 = .ok (.getfield 21, 3) := by decide +kernel
theorem dX10_slipOf_56 : decode cX10_slipOf 56 = .ok (.invokevirtual 64, 3) := by decide +kernel
theorem dX10_slipOf_59 : decode cX10_slipOf 59 = .ok (.ireturn, 1) := by decide +kernel
theorem dX10_enviedBy_0 : decode cX10_enviedBy 0 = .ok (.aload_n 0, 1) := by decide +kernel
theorem dX10_enviedBy_1 : decode cX10_enviedBy 1 = .ok (.getfield 9, 3) := by decide +kernel
theorem dX10_enviedBy_4 : decode cX10_enviedBy 4 = .ok (.iload_n 1, 1) := by decide +kernel
theorem dX10_enviedBy_5 : decode cX10_enviedBy 5 = .ok (.invokevirtual 53, 3) := by decide +kernel
theorem dX10_enviedBy_8 : decode cX10_enviedBy 8 = .ok (.ifCond .ne 5, 3) := by decide +kernel
theorem dX10_enviedBy_11 : decode cX10_enviedBy 11 = .ok (.iconst 0, 1) := by decide +kernel
theorem dX10_enviedBy_12 : decode cX10_enviedBy 12 = .ok (.ireturn, 1) := by decide +kernel
theorem dX10_enviedBy_13 : decode cX10_enviedBy 13 = .ok (.aload_n 0, 1) := by decide +kernel
theorem dX10_enviedBy_14 : decode cX10_enviedBy 14 = .ok (.iload_n 1, 1) := by decide +kernel
theorem dX10_enviedBy_15 : decode cX10_enviedBy 15 = .ok (.aload_n 0, 1) := by decide +kernel
theorem dX10_enviedBy_16 : decode cX10_enviedBy 16 = .ok (.getfield 15, 3) := by decide +kernel
theorem dX10_enviedBy_19 : decode cX10_enviedBy 19 = .ok (.getfield 86, 3) := by decide +kernel
theorem dX10_enviedBy_22 : decode cX10_enviedBy 22 = .ok (.iload_n 1, 1) := by decide +kernel
theorem dX10_enviedBy_23 : decode cX10_enviedBy 23 = .ok (.iaload, 1) := by decide +kernel
theorem dX10_enviedBy_24 : decode cX10_enviedBy 24 = .ok (.iconst 0, 1) := by decide +kernel
theorem dX10_enviedBy_25 : decode cX10_enviedBy 25 = .ok (.invokevirtual 89, 3) := by decide +kernel
theorem dX10_enviedBy_28 : decode cX10_enviedBy 28 = .ok (.istore_n 2, 1) := by decide +kernel
theorem dX10_enviedBy_29 : decode cX10_enviedBy 29 = .ok (.iconst 0, 1) := by decide +kernel
theorem dX10_enviedBy_30 : decode cX10_enviedBy 30 = .ok (.istore_n 3, 1) := by decide +kernel
theorem dX10_enviedBy_31 : decode cX10_enviedBy 31 = .ok (.iconst 0, 1) := by decide +kernel
theorem dX10_enviedBy_32 : decode cX10_enviedBy 32 = .ok (.istore 4, 2) := by decide +kernel
theorem dX10_enviedBy_34 : decode cX10_enviedBy 34 = .ok (.iload 4, 2) := by decide +kernel
theorem dX10_enviedBy_36 : decode cX10_enviedBy 36 = .ok (.aload_n 0, 1) := by decide +kernel
theorem dX10_enviedBy_37 : decode cX10_enviedBy 37 = .ok (.getfield 9, 3) := by decide +kernel
theorem dX10_enviedBy_40 : decode cX10_enviedBy 40 = .ok (.getfield 93, 3) := by decide +kernel
theorem dX10_enviedBy_43 : decode cX10_enviedBy 43 = .ok (.if_icmp .ge 68, 3) := by decide +kernel
theorem dX10_enviedBy_46 : decode cX10_enviedBy 46 = .ok (.iload 4, 2) := by decide +kernel
theorem dX10_enviedBy_48 : decode cX10_enviedBy 48 = .ok (.iload_n 1, 1) := by decide +kernel
theorem dX10_enviedBy_49 : decode cX10_enviedBy 49 = .ok (.if_icmp .eq 21, 3) := by decide +kernel
theorem dX10_enviedBy_52 : decode cX10_enviedBy 52 = .ok (.aload_n 0, 1) := by decide +kernel
theorem dX10_enviedBy_53 : decode cX10_enviedBy 53 = .ok (.getfield 15, 3) := by decide +kernel
theorem dX10_enviedBy_56 : decode cX10_enviedBy 56 = .ok (.getfield 86, 3) := by decide +kernel
theorem dX10_enviedBy_59 : decode cX10_enviedBy 59 = .ok (.iload 4, 2) := by decide +kernel
theorem dX10_enviedBy_61 : decode cX10_enviedBy 61 = .ok (.iaload, 1) := by decide +kernel
theorem dX10_enviedBy_62 : decode cX10_enviedBy 62 = .ok (.iconst (-1), 1) := by decide +kernel
theorem dX10_enviedBy_63 : decode cX10_enviedBy 63 = .ok (.if_icmp .eq 7, 3) := by decide +kernel
theorem dX10_enviedBy_66 : decode cX10_enviedBy 66 = .ok (.iconst 1, 1) := by decide +kernel
theorem dX10_enviedBy_67 : decode cX10_enviedBy 67 = .ok (.goto 4, 3) := by decide +kernel
theorem dX10_enviedBy_70 : decode cX10_enviedBy 70 = .ok (.iconst 0, 1) := by decide +kernel
theorem dX10_enviedBy_71 : decode cX10_enviedBy 71 = .ok (.istore 5, 2) := by decide +kernel
theorem dX10_enviedBy_73 : decode cX10_enviedBy 73 = .ok (.iload 5, 2) := by decide +kernel
theorem dX10_enviedBy_75 : decode cX10_enviedBy 75 = .ok (.ifCond .eq 30, 3) := by decide +kernel
theorem dX10_enviedBy_78 : decode cX10_enviedBy 78 = .ok (.aload_n 0, 1) := by decide +kernel
theorem dX10_enviedBy_79 : decode cX10_enviedBy 79 = .ok (.iload_n 1, 1) := by decide +kernel
theorem dX10_enviedBy_80 : decode cX10_enviedBy 80 = .ok (.aload_n 0, 1) := by decide +kernel
theorem dX10_enviedBy_81 : decode cX10_enviedBy 81 = .ok (.getfield 15, 3) := by decide +kernel
theorem dX10_enviedBy_84 : decode cX10_enviedBy 84 = .ok (.getfield 86, 3) := by decide +kernel
theorem dX10_enviedBy_87 : decode cX10_enviedBy 87 = .ok (.iload 4, 2) := by decide +kernel
theorem dX10_enviedBy_89 : decode cX10_enviedBy 89 = .ok (.iaload, 1) := by decide +kernel
theorem dX10_enviedBy_90 : decode cX10_enviedBy 90 = .ok (.iconst 0, 1) := by decide +kernel
theorem dX10_enviedBy_91 : decode cX10_enviedBy 91 = .ok (.invokevirtual 89, 3) := by decide +kernel
theorem dX10_enviedBy_94 : decode cX10_enviedBy 94 = .ok (.iload_n 2, 1) := by decide +kernel
theorem dX10_enviedBy_95 : decode cX10_enviedBy 95 = .ok (.if_icmp .le 10, 3) := by decide +kernel
theorem dX10_enviedBy_98 : decode cX10_enviedBy 98 = .ok (.iload_n 3, 1) := by decide +kernel
theorem dX10_enviedBy_99 : decode cX10_enviedBy 99 = .ok (.iconst 1, 1) := by decide +kernel
theorem dX10_enviedBy_100 : decode cX10_enviedBy 100 = .ok (.iload 4, 2) := by decide +kernel
theorem dX10_enviedBy_102 : decode cX10_enviedBy 102 = .ok (.ishl, 1) := by decide +kernel
theorem dX10_enviedBy_103 : decode cX10_enviedBy 103 = .ok (.ior, 1) := by decide +kernel
theorem dX10_enviedBy_104 : decode cX10_enviedBy 104 = .ok (.istore_n 3, 1) := by decide +kernel
theorem dX10_enviedBy_105 : decode cX10_enviedBy 105 = .ok (.iinc 4 1, 3) := by decide +kernel
theorem dX10_enviedBy_108 : decode cX10_enviedBy 108 = .ok (.goto (-74), 3) := by decide +kernel
theorem dX10_enviedBy_111 : decode cX10_enviedBy 111 = .ok (.iload_n 3, 1) := by decide +kernel
theorem dX10_enviedBy_112 : decode cX10_enviedBy 112 = .ok (.ireturn, 1) := by decide +kernel
theorem dX10_findCalm_0 : decode cX10_findCalm 0 = .ok (.iconst 0, 1) := by decide +kernel
theorem dX10_findCalm_1 : decode cX10_findCalm 1 = .ok (.istore_n 1, 1) := by decide +kernel
theorem dX10_findCalm_2 : decode cX10_findCalm 2 = .ok (.iload_n 1, 1) := by decide +kernel
theorem dX10_findCalm_3 : decode cX10_findCalm 3 = .ok (.aload_n 0, 1) := by decide +kernel
theorem dX10_findCalm_4 : decode cX10_findCalm 4 = .ok (.getfield 9, 3) := by decide +kernel
theorem dX10_findCalm_7 : decode cX10_findCalm 7 = .ok (.getfield 93, 3) := by decide +kernel
theorem dX10_findCalm_10 : decode cX10_findCalm 10 = .ok (.if_icmp .ge 54, 3) := by decide +kernel
theorem dX10_findCalm_13 : decode cX10_findCalm 13 = .ok (.iconst 0, 1) := by decide +kernel
theorem dX10_findCalm_14 : decode cX10_findCalm 14 = .ok (.istore_n 2, 1) := by decide +kernel
theorem dX10_findCalm_15 : decode cX10_findCalm 15 = .ok (.iload_n 2, 1) := by decide +kernel
theorem dX10_findCalm_16 : decode cX10_findCalm 16 = .ok (.aload_n 0, 1) := by decide +kernel
theorem dX10_findCalm_17 : decode cX10_findCalm 17 = .ok (.getfield 9, 3) := by decide +kernel
theorem dX10_findCalm_20 : decode cX10_findCalm 20 = .ok (.getfield 93, 3) := by decide +kernel
theorem dX10_findCalm_23 : decode cX10_findCalm 23 = .ok (.if_icmp .ge 35, 3) := by decide +kernel
theorem dX10_findCalm_26 : decode cX10_findCalm 26 = .ok (.aload_n 0, 1) := by decide +kernel
theorem dX10_findCalm_27 : decode cX10_findCalm 27 = .ok (.getfield 25, 3) := by decide +kernel
theorem dX10_findCalm_30 : decode cX10_findCalm 30 = .ok (.iload_n 1, 1) := by decide +kernel
theorem dX10_findCalm_31 : decode cX10_findCalm 31 = .ok (.bipush 6, 2) := by decide +kernel
theorem dX10_findCalm_33 : decode cX10_findCalm 33 = .ok (.imul, 1) := by decide +kernel
theorem dX10_findCalm_34 : decode cX10_findCalm 34 = .ok (.iload_n 2, 1) := by decide +kernel
theorem dX10_findCalm_35 : decode cX10_findCalm 35 = .ok (.iadd, 1) := by decide +kernel
theorem dX10_findCalm_36 : decode cX10_findCalm 36 = .ok (.aload_n 0, 1) := by decide +kernel
theorem dX10_findCalm_37 : decode cX10_findCalm 37 = .ok (.iload_n 1, 1) := by decide +kernel
theorem dX10_findCalm_38 : decode cX10_findCalm 38 = .ok (.aload_n 0, 1) := by decide +kernel
theorem dX10_findCalm_39 : decode cX10_findCalm 39 = .ok (.getfield 15, 3) := by decide +kernel
theorem dX10_findCalm_42 : decode cX10_findCalm 42 = .ok (.getfield 86, 3) := by decide +kernel
theorem dX10_findCalm_45 : decode cX10_findCalm 45 = .ok (.iload_n 2, 1) := by decide +kernel
theorem dX10_findCalm_46 : decode cX10_findCalm 46 = .ok (.iaload, 1) := by decide +kernel
theorem dX10_findCalm_47 : decode cX10_findCalm 47 = .ok (.iconst 0, 1) := by decide +kernel
theorem dX10_findCalm_48 : decode cX10_findCalm 48 = .ok (.invokevirtual 89, 3) := by decide +kernel
theorem dX10_findCalm_51 : decode cX10_findCalm 51 = .ok (.iastore, 1) := by decide +kernel
theorem dX10_findCalm_52 : decode cX10_findCalm 52 = .ok (.iinc 2 1, 3) := by decide +kernel
theorem dX10_findCalm_55 : decode cX10_findCalm 55 = .ok (.goto (-40), 3) := by decide +kernel
theorem dX10_findCalm_58 : decode cX10_findCalm 58 = .ok (.iinc 1 1, 3) := by decide +kernel
theorem dX10_findCalm_61 : decode cX10_findCalm 61 = .ok (.goto (-59), 3) := by decide +kernel
theorem dX10_findCalm_64 : decode cX10_findCalm 64 = .ok (.aload_n 0, 1) := by decide +kernel
theorem dX10_findCalm_65 : decode cX10_findCalm 65 = .ok (.aload_n 0, 1) := by decide +kernel
theorem dX10_findCalm_66 : decode cX10_findCalm 66 = .ok (.iconst 0, 1) := by decide +kernel
theorem dX10_findCalm_67 : decode cX10_findCalm 67 = .ok (.iconst 0, 1) := by decide +kernel
theorem dX10_findCalm_68 : decode cX10_findCalm 68 = .ok (.invokevirtual 96, 3) := by decide +kernel
theorem dX10_findCalm_71 : decode cX10_findCalm 71 = .ok (.putfield 100, 3) := by decide +kernel
theorem dX10_findCalm_74 : decode cX10_findCalm 74 = .ok (.iconst 0, 1) := by decide +kernel
theorem dX10_findCalm_75 : decode cX10_findCalm 75 = .ok (.istore_n 1, 1) := by decide +kernel
theorem dX10_findCalm_76 : decode cX10_findCalm 76 = .ok (.iconst 0, 1) := by decide +kernel
theorem dX10_findCalm_77 : decode cX10_findCalm 77 = .ok (.istore_n 2, 1) := by decide +kernel
theorem dX10_findCalm_78 : decode cX10_findCalm 78 = .ok (.iload_n 2, 1) := by decide +kernel
theorem dX10_findCalm_79 : decode cX10_findCalm 79 = .ok (.aload_n 0, 1) := by decide +kernel
theorem dX10_findCalm_80 : decode cX10_findCalm 80 = .ok (.getfield 9, 3) := by decide +kernel
theorem dX10_findCalm_83 : decode cX10_findCalm 83 = .ok (.getfield 93, 3) := by decide +kernel
theorem dX10_findCalm_86 : decode cX10_findCalm 86 = .ok (.if_icmp .ge 91, 3) := by decide +kernel
theorem dX10_findCalm_89 : decode cX10_findCalm 89 = .ok (.iload_n 2, 1) := by decide +kernel
theorem dX10_findCalm_90 : decode cX10_findCalm 90 = .ok (.iconst 1, 1) := by decide +kernel
theorem dX10_findCalm_91 : decode cX10_findCalm 91 = .ok (.iadd, 1) := by decide +kernel
theorem dX10_findCalm_92 : decode cX10_findCalm 92 = .ok (.istore_n 3, 1) := by decide +kernel
theorem dX10_findCalm_93 : decode cX10_findCalm 93 = .ok (.iload_n 3, 1) := by decide +kernel
theorem dX10_findCalm_94 : decode cX10_findCalm 94 = .ok (.aload_n 0, 1) := by decide +kernel
theorem dX10_findCalm_95 : decode cX10_findCalm 95 = .ok (.getfield 9, 3) := by decide +kernel
theorem dX10_findCalm_98 : decode cX10_findCalm 98 = .ok (.getfield 93, 3) := by decide +kernel
theorem dX10_findCalm_101 : decode cX10_findCalm 101 = .ok (.if_icmp .ge 70, 3) := by decide +kernel
theorem dX10_findCalm_104 : decode cX10_findCalm 104 = .ok (.aload_n 0, 1) := by decide +kernel
theorem dX10_findCalm_105 : decode cX10_findCalm 105 = .ok (.getfield 15, 3) := by decide +kernel
theorem dX10_findCalm_108 : decode cX10_findCalm 108 = .ok (.getfield 86, 3) := by decide +kernel
theorem dX10_findCalm_111 : decode cX10_findCalm 111 = .ok (.iload_n 2, 1) := by decide +kernel
theorem dX10_findCalm_112 : decode cX10_findCalm 112 = .ok (.iaload, 1) := by decide +kernel
theorem dX10_findCalm_113 : decode cX10_findCalm 113 = .ok (.iconst (-1), 1) := by decide +kernel
theorem dX10_findCalm_114 : decode cX10_findCalm 114 = .ok (.if_icmp .eq 51, 3) := by decide +kernel
theorem dX10_findCalm_117 : decode cX10_findCalm 117 = .ok (.aload_n 0, 1) := by decide +kernel
theorem dX10_findCalm_118 : decode cX10_findCalm 118 = .ok (.getfield 15, 3) := by decide +kernel
theorem dX10_findCalm_121 : decode cX10_findCalm 121 = .ok (.getfield 86, 3) := by decide +kernel
theorem dX10_findCalm_124 : decode cX10_findCalm 124 = .ok (.iload_n 3, 1) := by decide +kernel
theorem dX10_findCalm_125 : decode cX10_findCalm 125 = .ok (.iaload, 1) := by decide +kernel
theorem dX10_findCalm_126 : decode cX10_findCalm 126 = .ok (.iconst (-1), 1) := by decide +kernel
theorem dX10_findCalm_127 : decode cX10_findCalm 127 = .ok (.if_icmp .eq 38, 3) := by decide +kernel
theorem dX10_findCalm_130 : decode cX10_findCalm 130 = .ok (.aload_n 0, 1) := by decide +kernel
theorem dX10_findCalm_131 : decode cX10_findCalm 131 = .ok (.iload_n 2, 1) := by decide +kernel
theorem dX10_findCalm_132 : decode cX10_findCalm 132 = .ok (.iload_n 3, 1) := by decide +kernel
theorem dX10_findCalm_133 : decode cX10_findCalm 133 = .ok (.invokevirtual 96, 3) := by decide +kernel
theorem dX10_findCalm_136 : decode cX10_findCalm 136 = .ok (.istore 4, 2) := by decide +kernel
theorem dX10_findCalm_138 : decode cX10_findCalm 138 = .ok (.iload 4, 2) := by decide +kernel
theorem dX10_findCalm_140 : decode cX10_findCalm 140 = .ok (.aload_n 0, 1) := by decide +kernel
theorem dX10_findCalm_141 : decode cX10_findCalm 141 = .ok (.getfield 100, 3) := by decide +kernel
theorem dX10_findCalm_144 : decode cX10_findCalm 144 = .ok (.if_icmp .ge 21, 3) := by decide +kernel
theorem dX10_findCalm_147 : decode cX10_findCalm 147 = .ok (.iconst 1, 1) := by decide +kernel
theorem dX10_findCalm_148 : decode cX10_findCalm 148 = .ok (.istore_n 1, 1) := by decide +kernel
theorem dX10_findCalm_149 : decode cX10_findCalm 149 = .ok (.aload_n 0, 1) := by decide +kernel
theorem dX10_findCalm_150 : decode cX10_findCalm 150 = .ok (.iload_n 2, 1) := by decide +kernel
theorem dX10_findCalm_151 : decode cX10_findCalm 151 = .ok (.putfield 103, 3) := by decide +kernel
theorem dX10_findCalm_154 : decode cX10_findCalm 154 = .ok (.aload_n 0, 1) := by decide +kernel
theorem dX10_findCalm_155 : decode cX10_findCalm 155 = .ok (.iload_n 3, 1) := by decide +kernel
theorem dX10_findCalm_156 : decode cX10_findCalm 156 = .ok (.putfield 106, 3) := by decide +kernel
theorem dX10_findCalm_159 : decode cX10_findCalm 159 = .ok (.aload_n 0, 1) := by decide +kernel
theorem dX10_findCalm_160 : decode cX10_findCalm 160 = .ok (.iload 4, 2) := by decide +kernel
theorem dX10_findCalm_162 : decode cX10_findCalm 162 = .ok (.putfield 100, 3) := by decide +kernel
theorem dX10_findCalm_165 : decode cX10_findCalm 165 = .ok (.iinc 3 1, 3) := by decide +kernel
theorem dX10_findCalm_168 : decode cX10_findCalm 168 = .ok (.goto (-75), 3) := by decide +kernel
theorem dX10_findCalm_171 : decode cX10_findCalm 171 = .ok (.iinc 2 1, 3) := by decide +kernel
theorem dX10_findCalm_174 : decode cX10_findCalm 174 = .ok (.goto (-96), 3) := by decide +kernel
theorem dX10_findCalm_177 : decode cX10_findCalm 177 = .ok (.iload_n 1, 1) := by decide +kernel
theorem dX10_findCalm_178 : decode cX10_findCalm 178 = .ok (.ireturn, 1) := by decide +kernel
theorem dX10_enviesAfter_0 : decode cX10_enviesAfter 0 = .ok (.iconst 0, 1) := by decide +kernel
theorem dX10_enviesAfter_1 : decode cX10_enviesAfter 1 = .ok (.istore_n 3, 1) := by decide +kernel
theorem dX10_enviesAfter_2 : decode cX10_enviesAfter 2 = .ok (.iconst 0, 1) := by decide +kernel
theorem dX10_enviesAfter_3 : decode cX10_enviesAfter 3 = .ok (.istore 4, 2) := by decide +kernel
theorem dX10_enviesAfter_5 : decode cX10_enviesAfter 5 = .ok (.iload 4, 2) := by decide +kernel
theorem dX10_enviesAfter_7 : decode cX10_enviesAfter 7 = .ok (.aload_n 0, 1) := by decide +kernel
theorem dX10_enviesAfter_8 : decode cX10_enviesAfter 8 = .ok (.getfield 9, 3) := by decide +kernel
theorem dX10_enviesAfter_11 : decode cX10_enviesAfter 11 = .ok (.getfield 93, 3) := by decide +kernel
theorem dX10_enviesAfter_14 : decode cX10_enviesAfter 14 = .ok (.if_icmp .ge 110, 3) := by decide +kernel
theorem dX10_enviesAfter_17 : decode cX10_enviesAfter 17 = .ok (.iload 4, 2) := by decide +kernel
theorem dX10_enviesAfter_19 : decode cX10_enviesAfter 19 = .ok (.bipush 6, 2) := by decide +kernel
theorem dX10_enviesAfter_21 : decode cX10_enviesAfter 21 = .ok (.imul, 1) := by decide +kernel
theorem dX10_enviesAfter_22 : decode cX10_enviesAfter 22 = .ok (.istore 5, 2) := by decide +kernel
theorem dX10_enviesAfter_24 : decode cX10_enviesAfter 24 = .ok (.aload_n 0, 1) := by decide +kernel
theorem dX10_enviesAfter_25 : decode cX10_enviesAfter 25 = .ok (.getfield 25, 3) := by decide +kernel
theorem dX10_enviesAfter_28 : decode cX10_enviesAfter 28 = .ok (.iload 5, 2) := by decide +kernel
theorem dX10_enviesAfter_30 : decode cX10_enviesAfter 30 = .ok (.iload 4, 2) := by decide +kernel
theorem dX10_enviesAfter_32 : decode cX10_enviesAfter 32 = .ok (.iload_n 1, 1) := by decide +kernel
theorem dX10_enviesAfter_33 : decode cX10_enviesAfter 33 = .ok (.iload_n 2, 1) := by decide +kernel
theorem dX10_enviesAfter_34 : decode cX10_enviesAfter 34 = .ok (.invokestatic 109, 3) := by decide +kernel
theorem dX10_enviesAfter_37 : decode cX10_enviesAfter 37 = .ok (.iadd, 1) := by decide +kernel
theorem dX10_enviesAfter_38 : decode cX10_enviesAfter 38 = .ok (.iaload, 1) := by decide +kernel
theorem dX10_enviesAfter_39 : decode cX10_enviesAfter 39 = .ok (.istore 6, 2) := by decide +kernel
theorem dX10_enviesAfter_41 : decode cX10_enviesAfter 41 = .ok (.iconst 0, 1) := by decide +kernel
theorem dX10_enviesAfter_42 : decode cX10_enviesAfter 42 = .ok (.istore 7, 2) := by decide +kernel
theorem dX10_enviesAfter_44 : decode cX10_enviesAfter 44 = .ok (.iload 7, 2) := by decide +kernel
theorem dX10_enviesAfter_46 : decode cX10_enviesAfter 46 = .ok (.aload_n 0, 1) := by decide +kernel
theorem dX10_enviesAfter_47 : decode cX10_enviesAfter 47 = .ok (.getfield 9, 3) := by decide +kernel
theorem dX10_enviesAfter_50 : decode cX10_enviesAfter 50 = .ok (.getfield 93, 3) := by decide +kernel
theorem dX10_enviesAfter_53 : decode cX10_enviesAfter 53 = .ok (.if_icmp .ge 65, 3) := by decide +kernel
theorem dX10_enviesAfter_56 : decode cX10_enviesAfter 56 = .ok (.iload 7, 2) := by decide +kernel
theorem dX10_enviesAfter_58 : decode cX10_enviesAfter 58 = .ok (.iload 4, 2) := by decide +kernel
theorem dX10_enviesAfter_60 : decode cX10_enviesAfter 60 = .ok (.if_icmp .eq 21, 3) := by decide +kernel
theorem dX10_enviesAfter_63 : decode cX10_enviesAfter 63 = .ok (.aload_n 0, 1) := by decide +kernel
theorem dX10_enviesAfter_64 : decode cX10_enviesAfter 64 = .ok (.getfield 15, 3) := by decide +kernel
theorem dX10_enviesAfter_67 : decode cX10_enviesAfter 67 = .ok (.getfield 86, 3) := by decide +kernel
theorem dX10_enviesAfter_70 : decode cX10_enviesAfter 70 = .ok (.iload 7, 2) := by decide +kernel
theorem dX10_enviesAfter_72 : decode cX10_enviesAfter 72 = .ok (.iaload, 1) := by decide +kernel
theorem dX10_enviesAfter_73 : decode cX10_enviesAfter 73 = .ok (.iconst (-1), 1) := by decide +kernel
theorem dX10_enviesAfter_74 : decode cX10_enviesAfter 74 = .ok (.if_icmp .eq 7, 3) := by decide +kernel
theorem dX10_enviesAfter_77 : decode cX10_enviesAfter 77 = .ok (.iconst 1, 1) := by decide +kernel
theorem dX10_enviesAfter_78 : decode cX10_enviesAfter 78 = .ok (.goto 4, 3) := by decide +kernel
theorem dX10_enviesAfter_81 : decode cX10_enviesAfter 81 = .ok (.iconst 0, 1) := by decide +kernel
theorem dX10_enviesAfter_82 : decode cX10_enviesAfter 82 = .ok (.istore 8, 2) := by decide +kernel
theorem dX10_enviesAfter_84 : decode cX10_enviesAfter 84 = .ok (.iload 8, 2) := by decide +kernel
theorem dX10_enviesAfter_86 : decode cX10_enviesAfter 86 = .ok (.ifCond .eq 26, 3) := by decide +kernel
theorem dX10_enviesAfter_89 : decode cX10_enviesAfter 89 = .ok (.aload_n 0, 1) := by decide +kernel
theorem dX10_enviesAfter_90 : decode cX10_enviesAfter 90 = .ok (.getfield 25, 3) := by decide +kernel
theorem dX10_enviesAfter_93 : decode cX10_enviesAfter 93 = .ok (.iload 5, 2) := by decide +kernel
theorem dX10_enviesAfter_95 : decode cX10_enviesAfter 95 = .ok (.iload 7, 2) := by decide +kernel
theorem dX10_enviesAfter_97 : decode cX10_enviesAfter 97 = .ok (.iload_n 1, 1) := by decide +kernel
theorem dX10_enviesAfter_98 : decode cX10_enviesAfter 98 = .ok (.iload_n 2, 1) := by decide +kernel
theorem dX10_enviesAfter_99 : decode cX10_enviesAfter 99 = .ok (.invokestatic 109, 3) := by decide +kernel
theorem dX10_enviesAfter_102 : decode cX10_enviesAfter 102 = .ok (.iadd, 1) := by decide +kernel
theorem dX10_enviesAfter_103 : decode cX10_enviesAfter 103 = .ok (.iaload, 1) := by decide +kernel
theorem dX10_enviesAfter_104 : decode cX10_enviesAfter 104 = .ok (.iload 6, 2) := by decide +kernel
theorem dX10_enviesAfter_106 : decode cX10_enviesAfter 106 = .ok (.if_icmp .le 6, 3) := by decide +kernel
theorem dX10_enviesAfter_109 : decode cX10_enviesAfter 109 = .ok (.iinc 3 1, 3) := by decide +kernel
theorem dX10_enviesAfter_112 : decode cX10_enviesAfter 112 = .ok (.iinc 7 1, 3) := by decide +kernel
theorem dX10_enviesAfter_115 : decode cX10_enviesAfter 115 = .ok (.goto (-71), 3) := by decide +kernel
theorem dX10_enviesAfter_118 : decode cX10_enviesAfter 118 = .ok (.iinc 4 1, 3) := by decide +kernel
theorem dX10_enviesAfter_121 : decode cX10_enviesAfter 121 = .ok (.goto (-116), 3) := by decide +kernel
theorem dX10_enviesAfter_124 : decode cX10_enviesAfter 124 = .ok (.iload_n 3, 1) := by decide +kernel
theorem dX10_enviesAfter_125 : decode cX10_enviesAfter 125 = .ok (.ireturn, 1) := by decide +kernel
theorem dX10_exchanged_0 : decode cX10_exchanged 0 = .ok (.iload_n 0, 1) := by decide +kernel
theorem dX10_exchanged_1 : decode cX10_exchanged 1 = .ok (.iload_n 1, 1) := by decide +kernel
theorem dX10_exchanged_2 : decode cX10_exchanged 2 = .ok (.if_icmp .ne 7, 3) := by decide +kernel
theorem dX10_exchanged_5 : decode cX10_exchanged 5 = .ok (.iload_n 2, 1) := by decide +kernel
theorem dX10_exchanged_6 : decode cX10_exchanged 6 = .ok (.goto 13, 3) := by decide +kernel
theorem dX10_exchanged_9 : decode cX10_exchanged 9 = .ok (.iload_n 0, 1) := by decide +kernel
theorem dX10_exchanged_10 : decode cX10_exchanged 10 = .ok (.iload_n 2, 1) := by decide +kernel
theorem dX10_exchanged_11 : decode cX10_exchanged 11 = .ok (.if_icmp .ne 7, 3) := by decide +kernel
theorem dX10_exchanged_14 : decode cX10_exchanged 14 = .ok (.iload_n 1, 1) := by decide +kernel
theorem dX10_exchanged_15 : decode cX10_exchanged 15 = .ok (.goto 4, 3) := by decide +kernel
theorem dX10_exchanged_18 : decode cX10_exchanged 18 = .ok (.iload_n 0, 1) := by decide +kernel
theorem dX10_exchanged_19 : decode cX10_exchanged 19 = .ok (.ireturn, 1) := by decide +kernel
theorem dX11_init_0 : decode cX11_init 0 = .ok (.aload_n 0, 1) := by decide +kernel
theorem dX11_init_1 : decode cX11_init 1 = .ok (.invokespecial 1, 3) := by decide +kernel
theorem dX11_init_4 : decode cX11_init 4 = .ok (.aload_n 0, 1) := by decide +kernel
theorem dX11_init_5 : decode cX11_init 5 = .ok (.sipush 1600, 3) := by decide +kernel
theorem dX11_init_8 : decode cX11_init 8 = .ok (.newarray .byte, 2) := by decide +kernel
theorem dX11_init_10 : decode cX11_init 10 = .ok (.putfield 9, 3) := by decide +kernel
theorem dX11_init_13 : decode cX11_init 13 = .ok (.aload_n 0, 1) := by decide +kernel
theorem dX11_init_14 : decode cX11_init 14 = .ok (.new 13, 3) := by decide +kernel
theorem dX11_init_17 : decode cX11_init 17 = .ok (.dup, 1) := by decide +kernel
theorem dX11_init_18 : decode cX11_init 18 = .ok (.invokespecial 15, 3) := by decide +kernel
theorem dX11_init_21 : decode cX11_init 21 = .ok (.putfield 16, 3) := by decide +kernel
theorem dX11_init_24 : decode cX11_init 24 = .ok (.aload_n 0, 1) := by decide +kernel
theorem dX11_init_25 : decode cX11_init 25 = .ok (.new 13, 3) := by decide +kernel
theorem dX11_init_28 : decode cX11_init 28 = .ok (.dup, 1) := by decide +kernel
theorem dX11_init_29 : decode cX11_init 29 = .ok (.invokespecial 15, 3) := by decide +kernel
theorem dX11_init_32 : decode cX11_init 32 = .ok (.putfield 20, 3) := by decide +kernel
theorem dX11_init_35 : decode cX11_init 35 = .ok (.aload_n 0, 1) := by decide +kernel
theorem dX11_init_36 : decode cX11_init 36 = .ok (.new 23, 3) := by decide +kernel
theorem dX11_init_39 : decode cX11_init 39 = .ok (.dup, 1) := by decide +kernel
theorem dX11_init_40 : decode cX11_init 40 = .ok (.aload_n 0, 1) := by decide +kernel
theorem dX11_init_41 : decode cX11_init 41 = .ok (.getfield 9, 3) := by decide +kernel
theorem dX11_init_44 : decode cX11_init 44 = .ok (.aload_n 0, 1) := by decide +kernel
theorem dX11_init_45 : decode cX11_init 45 = .ok (.getfield 20, 3) := by decide +kernel
theorem dX11_init_48 : decode cX11_init 48 = .ok (.invokespecial 25, 3) := by decide +kernel
theorem dX11_init_51 : decode cX11_init 51 = .ok (.putfield 28, 3) := by decide +kernel
theorem dX11_init_54 : decode cX11_init 54 = .ok (.aload_n 0, 1) := by decide +kernel
theorem dX11_init_55 : decode cX11_init 55 = .ok (.new 32, 3) := by decide +kernel
theorem dX11_init_58 : decode cX11_init 58 = .ok (.dup, 1) := by decide +kernel
theorem dX11_init_59 : decode cX11_init 59 = .ok (.invokespecial 34, 3) := by decide +kernel
theorem dX11_init_62 : decode cX11_init 62 = .ok (.putfield 35, 3) := by decide +kernel
theorem dX11_init_65 : decode cX11_init 65 = .ok (.aload_n 0, 1) := by decide +kernel
theorem dX11_init_66 : decode cX11_init 66 = .ok (.iconst 3, 1) := by decide +kernel
theorem dX11_init_67 : decode cX11_init 67 = .ok (.anewarray 32, 3) := by decide +kernel
theorem dX11_init_70 : decode cX11_init 70 = .ok (.putfield 39, 3) := by decide +kernel
theorem dX11_init_73 : decode cX11_init 73 = .ok (.iconst 0, 1) := by decide +kernel
theorem dX11_init_74 : decode cX11_init 74 = .ok (.istore_n 1, 1) := by decide +kernel
theorem dX11_init_75 : decode cX11_init 75 = .ok (.iload_n 1, 1) := by decide +kernel
theorem dX11_init_76 : decode cX11_init 76 = .ok (.iconst 3, 1) := by decide +kernel
theorem dX11_init_77 : decode cX11_init 77 = .ok (.if_icmp .ge 22, 3) := by decide +kernel
theorem dX11_init_80 : decode cX11_init 80 = .ok (.aload_n 0, 1) := by decide +kernel
theorem dX11_init_81 : decode cX11_init 81 = .ok (.getfield 39, 3) := by decide +kernel
theorem dX11_init_84 : decode cX11_init 84 = .ok (.iload_n 1, 1) := by decide +kernel
theorem dX11_init_85 : decode cX11_init 85 = .ok (.new 32, 3) := by decide +kernel
theorem dX11_init_88 : decode cX11_init 88 = .ok (.dup, 1) := by decide +kernel
theorem dX11_init_89 : decode cX11_init 89 = .ok (.invokespecial 34, 3) := by decide +kernel
theorem dX11_init_92 : decode cX11_init 92 = .ok (.aastore, 1) := by decide +kernel
theorem dX11_init_93 : decode cX11_init 93 = .ok (.iinc 1 1, 3) := by decide +kernel
theorem dX11_init_96 : decode cX11_init 96 = .ok (.goto (-21), 3) := by decide +kernel
theorem dX11_init_99 : decode cX11_init 99 = .ok (.aload_n 0, 1) := by decide +kernel
theorem dX11_init_100 : decode cX11_init 100 = .ok (.new 43, 3) := by decide +kernel
theorem dX11_init_103 : decode cX11_init 103 = .ok (.dup, 1) := by decide +kernel
theorem dX11_init_104 : decode cX11_init 104 = .ok (.aload_n 0, 1) := by decide +kernel
theorem dX11_init_105 : decode cX11_init 105 = .ok (.getfield 16, 3) := by decide +kernel
theorem dX11_init_108 : decode cX11_init 108 = .ok (.aload_n 0, 1) := by decide +kernel
theorem dX11_init_109 : decode cX11_init 109 = .ok (.getfield 35, 3) := by decide +kernel
theorem dX11_init_112 : decode cX11_init 112 = .ok (.invokespecial 45, 3) := by decide +kernel
theorem dX11_init_115 : decode cX11_init 115 = .ok (.putfield 48, 3) := by decide +kernel
theorem dX11_init_118 : decode cX11_init 118 = .ok (.aload_n 0, 1) := by decide +kernel
theorem dX11_init_119 : decode cX11_init 119 = .ok (.new 52, 3) := by decide +kernel
theorem dX11_init_122 : decode cX11_init 122 = .ok (.dup, 1) := by decide +kernel
theorem dX11_init_123 : decode cX11_init 123 = .ok (.aload_n 0, 1) := by decide +kernel
theorem dX11_init_124 : decode cX11_init 124 = .ok (.getfield 16, 3) := by decide +kernel
theorem dX11_init_127 : decode cX11_init 127 = .ok (.aload_n 0, 1) := by decide +kernel
theorem dX11_init_128 : decode cX11_init 128 = .ok (.getfield 35, 3) := by decide +kernel
theorem dX11_init_131 : decode cX11_init 131 = .ok (.aload_n 0, 1) := by decide +kernel
theorem dX11_init_132 : decode cX11_init 132 = .ok (.getfield 48, 3) := by decide +kernel
theorem dX11_init_135 : decode cX11_init 135 = .ok (.invokespecial 54, 3) := by decide +kernel
theorem dX11_init_138 : decode cX11_init 138 = .ok (.putfield 57, 3) := by decide +kernel
theorem dX11_init_141 : decode cX11_init 141 = .ok (.aload_n 0, 1) := by decide +kernel
theorem dX11_init_142 : decode cX11_init 142 = .ok (.new 61, 3) := by decide +kernel
theorem dX11_init_145 : decode cX11_init 145 = .ok (.dup, 1) := by decide +kernel
theorem dX11_init_146 : decode cX11_init 146 = .ok (.aload_n 0, 1) := by decide +kernel
theorem dX11_init_147 : decode cX11_init 147 = .ok (.getfield 16, 3) := by decide +kernel
theorem dX11_init_150 : decode cX11_init 150 = .ok (.aload_n 0, 1) := by decide +kernel
theorem dX11_init_151 : decode cX11_init 151 = .ok (.getfield 35, 3) := by decide +kernel
theorem dX11_init_154 : decode cX11_init 154 = .ok (.invokespecial 63, 3) := by decide +kernel
theorem dX11_init_157 : decode cX11_init 157 = .ok (.putfield 64, 3) := by decide +kernel
theorem dX11_init_160 : decode cX11_init 160 = .ok (.aload_n 0, 1) := by decide +kernel
theorem dX11_init_161 : decode cX11_init 161 = .ok (.new 68, 3) := by decide +kernel
theorem dX11_init_164 : decode cX11_init 164 = .ok (.dup, 1) := by decide +kernel
theorem dX11_init_165 : decode cX11_init 165 = .ok (.aload_n 0, 1) := by decide +kernel
theorem dX11_init_166 : decode cX11_init 166 = .ok (.getfield 16, 3) := by decide +kernel
theorem dX11_init_169 : decode cX11_init 169 = .ok (.aload_n 0, 1) := by decide +kernel
theorem dX11_init_170 : decode cX11_init 170 = .ok (.getfield 35, 3) := by decide +kernel
theorem dX11_init_173 : decode cX11_init 173 = .ok (.aload_n 0, 1) := by decide +kernel
theorem dX11_init_174 : decode cX11_init 174 = .ok (.getfield 48, 3) := by decide +kernel
theorem dX11_init_177 : decode cX11_init 177 = .ok (.invokespecial 70, 3) := by decide +kernel
theorem dX11_init_180 : decode cX11_init 180 = .ok (.putfield 71, 3) := by decide +kernel
theorem dX11_init_183 : decode cX11_init 183 = .ok (.aload_n 0, 1) := by decide +kernel
theorem dX11_init_184 : decode cX11_init 184 = .ok (.new 75, 3) := by decide +kernel
theorem dX11_init_187 : decode cX11_init 187 = .ok (.dup, 1) := by decide +kernel
theorem dX11_init_188 : decode cX11_init 188 = .ok (.invokespecial 77, 3) := by decide +kernel
theorem dX11_init_191 : decode cX11_init 191 = .ok (.putfield 78, 3) := by decide +kernel
theorem dX11_init_194 : decode cX11_init 194 = .ok (.aload_n 0, 1) := by decide +kernel
theorem dX11_init_195 : decode cX11_init 195 = .ok (.new 82, 3) := by decide +kernel
theorem dX11_init_198 : decode cX11_init 198 = .ok (.dup, 1) := by decide +kernel
theorem dX11_init_199 : decode cX11_init 199 = .ok (.aload_n 0, 1) := by decide +kernel
theorem dX11_init_200 : decode cX11_init 200 = .ok (.getfield 16, 3) := by decide +kernel
theorem dX11_init_203 : decode cX11_init 203 = .ok (.aload_n 0, 1) := by decide +kernel
theorem dX11_init_204 : decode cX11_init 204 = .ok (.getfield 78, 3) := by decide +kernel
theorem dX11_init_207 : decode cX11_init 207 = .ok (.invokespecial 84, 3) := by decide +kernel
theorem dX11_init_210 : decode cX11_init 210 = .ok (.putfield 87, 3) := by decide +kernel
theorem dX11_init_213 : decode cX11_init 213 = .ok (.aload_n 0, 1) := by decide +kernel
theorem dX11_init_214 : decode cX11_init 214 = .ok (.bipush 6, 2) := by decide +kernel
theorem dX11_init_216 : decode cX11_init 216 = .ok (.newarray .int, 2) := by decide +kernel
theorem dX11_init_218 : decode cX11_init 218 = .ok (.putfield 91, 3) := by decide +kernel
theorem dX11_init_221 : decode cX11_init 221 = .ok (.return_, 1) := by decide +kernel
theorem dX11_feed_0 : decode cX11_feed 0 = .ok (.aload_n 0, 1) := by decide +kernel
theorem dX11_feed_1 : decode cX11_feed 1 = .ok (.getfield 95, 3) := by decide +kernel
theorem dX11_feed_4 : decode cX11_feed 4 = .ok (.sipush 1580, 3) := by decide +kernel
theorem dX11_feed_7 : decode cX11_feed 7 = .ok (.if_icmp .le 5, 3) := by decide +kernel
theorem dX11_feed_10 : decode cX11_feed 10 = .ok (.iconst (-1), 1) := by decide +kernel
theorem dX11_feed_11 : decode cX11_feed 11 = .ok (.ireturn, 1) := by decide +kernel
theorem dX11_feed_12 : decode cX11_feed 12 = .ok (.aload_n 0, 1) := by decide +kernel
theorem dX11_feed_13 : decode cX11_feed 13 = .ok (.iload_n 1, 1) := by decide +kernel
theorem dX11_feed_14 : decode cX11_feed 14 = .ok (.invokevirtual 99, 3) := by decide +kernel
theorem dX11_feed_17 : decode cX11_feed 17 = .ok (.aload_n 0, 1) := by decide +kernel
theorem dX11_feed_18 : decode cX11_feed 18 = .ok (.iload_n 2, 1) := by decide +kernel
theorem dX11_feed_19 : decode cX11_feed 19 = .ok (.invokevirtual 99, 3) := by decide +kernel
theorem dX11_feed_22 : decode cX11_feed 22 = .ok (.aload_n 0, 1) := by decide +kernel
theorem dX11_feed_23 : decode cX11_feed 23 = .ok (.iload_n 3, 1) := by decide +kernel
theorem dX11_feed_24 : decode cX11_feed 24 = .ok (.invokevirtual 99, 3) := by decide +kernel
theorem dX11_feed_27 : decode cX11_feed 27 = .ok (.aload_n 0, 1) := by decide +kernel
theorem dX11_feed_28 : decode cX11_feed 28 = .ok (.iload 4, 2) := by decide +kernel
theorem dX11_feed_30 : decode cX11_feed 30 = .ok (.invokevirtual 99, 3) := by decide +kernel
theorem dX11_feed_33 : decode cX11_feed 33 = .ok (.aload_n 0, 1) := by decide +kernel
theorem dX11_feed_34 : decode cX11_feed 34 = .ok (.iload 5, 2) := by decide +kernel
theorem dX11_feed_36 : decode cX11_feed 36 = .ok (.invokevirtual 99, 3) := by decide +kernel
theorem dX11_feed_39 : decode cX11_feed 39 = .ok (.aload_n 0, 1) := by decide +kernel
theorem dX11_feed_40 : decode cX11_feed 40 = .ok (.getfield 95, 3) := by decide +kernel
theorem dX11_feed_43 : decode cX11_feed 43 = .ok (.ireturn, 1) := by decide +kernel
theorem dX11_putOnTape_0 : decode cX11_putOnTape 0 = .ok (.bipush 24, 2) := by decide +kernel
theorem dX11_putOnTape_2 : decode cX11_putOnTape 2 = .ok (.istore_n 2, 1) := by decide +kernel
theorem dX11_putOnTape_3 : decode cX11_putOnTape 3 = .ok (.iload_n 2, 1) := by decide +kernel
theorem dX11_putOnTape_4 : decode cX11_putOnTape 4 = .ok (.ifCond .lt 44, 3) := by decide +kernel
theorem dX11_putOnTape_7 : decode cX11_putOnTape 7 = .ok (.aload_n 0, 1) := by decide +kernel
theorem dX11_putOnTape_8 : decode cX11_putOnTape 8 = .ok (.getfield 95, 3) := by decide +kernel
theorem dX11_putOnTape_11 : decode cX11_putOnTape 11 = .ok (.aload_n 0, 1) := by decide +kernel
theorem dX11_putOnTape_12 : decode cX11_putOnTape 12 = .ok (.getfield 9, 3) := by decide +kernel
theorem dX11_putOnTape_15 : decode cX11_putOnTape 15 = .ok (.arraylength, 1) := by decide +kernel
theorem dX11_putOnTape_16 : decode cX11_putOnTape 16 = .ok (.if_icmp .ge 26, 3) := by decide +kernel
theorem dX11_putOnTape_19 : decode cX11_putOnTape 19 = .ok (.aload_n 0, 1) := by decide +kernel
theorem dX11_putOnTape_20 : decode cX11_putOnTape 20 = .ok (.getfield 9, 3) := by decide +kernel
theorem dX11_putOnTape_23 : decode cX11_putOnTape 23 = .ok (.aload_n 0, 1) := by decide +kernel
theorem dX11_putOnTape_24 : decode cX11_putOnTape 24 = .ok (.getfield 95, 3) := by decide +kernel
theorem dX11_putOnTape_27 : decode cX11_putOnTape 27 = .ok (.iload_n 1, 1) := by decide +kernel
theorem dX11_putOnTape_28 : decode cX11_putOnTape 28 = .ok (.iload_n 2, 1) := by decide +kernel
theorem dX11_putOnTape_29 : decode cX11_putOnTape 29 = .ok (.ishr, 1) := by decide +kernel
theorem dX11_putOnTape_30 : decode cX11_putOnTape 30 = .ok (.i2b, 1) := by decide +kernel
theorem dX11_putOnTape_31 : decode cX11_putOnTape 31 = .ok (.bastore, 1) := by decide +kernel
theorem dX11_putOnTape_32 : decode cX11_putOnTape 32 = .ok (.aload_n 0, 1) := by decide +kernel
theorem dX11_putOnTape_33 : decode cX11_putOnTape 33 = .ok (.dup, 1) := by decide +kernel
theorem dX11_putOnTape_34 : decode cX11_putOnTape 34 = .ok (.getfield 95, 3) := by decide +kernel
theorem dX11_putOnTape_37 : decode cX11_putOnTape 37 = .ok (.iconst 1, 1) := by decide +kernel
theorem dX11_putOnTape_38 : decode cX11_putOnTape 38 = .ok (.iadd, 1) := by decide +kernel
theorem dX11_putOnTape_39 : decode cX11_putOnTape 39 = .ok (.putfield 95, 3) := by decide +kernel
theorem dX11_putOnTape_42 : decode cX11_putOnTape 42 = .ok (.iinc 2 (-8), 3) := by decide +kernel
theorem dX11_putOnTape_45 : decode cX11_putOnTape 45 = .ok (.goto (-42), 3) := by decide +kernel
theorem dX11_putOnTape_48 : decode cX11_putOnTape 48 = .ok (.return_, 1) := by decide +kernel
theorem dX11_end_0 : decode cX11_end 0 = .ok (.iload_n 1, 1) := by decide +kernel
theorem dX11_end_1 : decode cX11_end 1 = .ok (.ifCond .lt 11, 3) := by decide +kernel
theorem dX11_end_4 : decode cX11_end 4 = .ok (.iload_n 1, 1) := by decide +kernel
theorem dX11_end_5 : decode cX11_end 5 = .ok (.aload_n 0, 1) := by decide +kernel
theorem dX11_end_6 : decode cX11_end 6 = .ok (.getfield 95, 3) := by decide +kernel
theorem dX11_end_9 : decode cX11_end 9 = .ok (.if_icmp .le 5, 3) := by decide +kernel
theorem dX11_end_12 : decode cX11_end 12 = .ok (.iconst (-1), 1) := by decide +kernel
theorem dX11_end_13 : decode cX11_end 13 = .ok (.ireturn, 1) := by decide +kernel
theorem dX11_end_14 : decode cX11_end 14 = .ok (.aload_n 0, 1) := by decide +kernel
theorem dX11_end_15 : decode cX11_end 15 = .ok (.iload_n 1, 1) := by decide +kernel
theorem dX11_end_16 : decode cX11_end 16 = .ok (.putfield 95, 3) := by decide +kernel
theorem dX11_end_19 : decode cX11_end 19 = .ok (.iload_n 1, 1) := by decide +kernel
theorem dX11_end_20 : decode cX11_end 20 = .ok (.ireturn, 1) := by decide +kernel
theorem dX11_cake_0 : decode cX11_cake 0 = .ok (.aload_n 0, 1) := by decide +kernel
theorem dX11_cake_1 : decode cX11_cake 1 = .ok (.getfield 28, 3) := by decide +kernel
theorem dX11_cake_4 : decode cX11_cake 4 = .ok (.aload_n 0, 1) := by decide +kernel
theorem dX11_cake_5 : decode cX11_cake 5 = .ok (.getfield 95, 3) := by decide +kernel
theorem dX11_cake_8 : decode cX11_cake 8 = .ok (.invokevirtual 103, 3) := by decide +kernel
theorem dX11_cake_11 : decode cX11_cake 11 = .ok (.istore_n 1, 1) := by decide +kernel
theorem dX11_cake_12 : decode cX11_cake 12 = .ok (.aload_n 0, 1) := by decide +kernel
theorem dX11_cake_13 : decode cX11_cake 13 = .ok (.iconst 0, 1) := by decide +kernel
theorem dX11_cake_14 : decode cX11_cake 14 = .ok (.putfield 95, 3) := by decide +kernel
theorem dX11_cake_17 : decode cX11_cake 17 = .ok (.iload_n 1, 1) := by decide +kernel
theorem dX11_cake_18 : decode cX11_cake 18 = .ok (.ifCond .ne 5, 3) := by decide +kernel
theorem dX11_cake_21 : decode cX11_cake 21 = .ok (.iconst (-1), 1) := by decide +kernel
theorem dX11_cake_22 : decode cX11_cake 22 = .ok (.ireturn, 1) := by decide +kernel
theorem dX11_cake_23 : decode cX11_cake 23 = .ok (.aload_n 0, 1) := by decide +kernel
theorem dX11_cake_24 : decode cX11_cake 24 = .ok (.getfield 16, 3) := by decide +kernel
theorem dX11_cake_27 : decode cX11_cake 27 = .ok (.aload_n 0, 1) := by decide +kernel
theorem dX11_cake_28 : decode cX11_cake 28 = .ok (.getfield 20, 3) := by decide +kernel
theorem dX11_cake_31 : decode cX11_cake 31 = .ok (.invokevirtual 107, 3) := by decide +kernel
theorem dX11_cake_34 : decode cX11_cake 34 = .ok (.aload_n 0, 1) := by decide +kernel
theorem dX11_cake_35 : decode cX11_cake 35 = .ok (.getfield 35, 3) := by decide +kernel
theorem dX11_cake_38 : decode cX11_cake 38 = .ok (.aload_n 0, 1) := by decide +kernel
theorem dX11_cake_39 : decode cX11_cake 39 = .ok (.getfield 16, 3) := by decide +kernel
theorem dX11_cake_42 : decode cX11_cake 42 = .ok (.invokevirtual 111, 3) := by decide +kernel
theorem dX11_cake_45 : decode cX11_cake 45 = .ok (.iconst 0, 1) := by decide +kernel
theorem dX11_cake_46 : decode cX11_cake 46 = .ok (.istore_n 2, 1) := by decide +kernel
theorem dX11_cake_47 : decode cX11_cake 47 = .ok (.iload_n 2, 1) := by decide +kernel
theorem dX11_cake_48 : decode cX11_cake 48 = .ok (.aload_n 0, 1) := by decide +kernel
theorem dX11_cake_49 : decode cX11_cake 49 = .ok (.getfield 39, 3) := by decide +kernel
theorem dX11_cake_52 : decode cX11_cake 52 = .ok (.arraylength, 1) := by decide +kernel
theorem dX11_cake_53 : decode cX11_cake 53 = .ok (.if_icmp .ge 19, 3) := by decide +kernel
theorem dX11_cake_56 : decode cX11_cake 56 = .ok (.aload_n 0, 1) := by decide +kernel
theorem dX11_cake_57 : decode cX11_cake 57 = .ok (.getfield 39, 3) := by decide +kernel
theorem dX11_cake_60 : decode cX11_cake 60 = .ok (.iload_n 2, 1) := by decide +kernel
theorem dX11_cake_61 : decode cX11_cake 61 = .ok (.aaload, 1) := by decide +kernel
theorem dX11_cake_62 : decode cX11_cake 62 = .ok (.iconst 0, 1) := by decide +kernel
theorem dX11_cake_63 : decode cX11_cake 63 = .ok (.putfield 114, 3) := by decide +kernel
theorem dX11_cake_66 : decode cX11_cake 66 = .ok (.iinc 2 1, 3) := by decide +kernel
theorem dX11_cake_69 : decode cX11_cake 69 = .ok (.goto (-22), 3) := by decide +kernel
theorem dX11_cake_72 : decode cX11_cake 72 = .ok (.aload_n 0, 1) := by decide +kernel
theorem dX11_cake_73 : decode cX11_cake 73 = .ok (.getfield 57, 3) := by decide +kernel
theorem dX11_cake_76 : decode cX11_cake 76 = .ok (.invokevirtual 118, 3) := by decide +kernel
theorem dX11_cake_79 : decode cX11_cake 79 = .ok (.aload_n 0, 1) := by decide +kernel
theorem dX11_cake_80 : decode cX11_cake 80 = .ok (.getfield 87, 3) := by decide +kernel
theorem dX11_cake_83 : decode cX11_cake 83 = .ok (.invokevirtual 121, 3) := by decide +kernel
theorem dX11_cake_86 : decode cX11_cake 86 = .ok (.aload_n 0, 1) := by decide +kernel
theorem dX11_cake_87 : decode cX11_cake 87 = .ok (.iconst 0, 1) := by decide +kernel
theorem dX11_cake_88 : decode cX11_cake 88 = .ok (.putfield 122, 3) := by decide +kernel
theorem dX11_cake_91 : decode cX11_cake 91 = .ok (.aload_n 0, 1) := by decide +kernel
theorem dX11_cake_92 : decode cX11_cake 92 = .ok (.getfield 16, 3) := by decide +kernel
theorem dX11_cake_95 : decode cX11_cake 95 = .ok (.getfield 125, 3) := by decide +kernel
theorem dX11_cake_98 : decode cX11_cake 98 = .ok (.ireturn, 1) := by decide +kernel
theorem dX11_fault_0 : decode cX11_fault 0 = .ok (.iload_n 1, 1) := by decide +kernel
theorem dX11_fault_1 : decode cX11_fault 1 = .ok (.lookupswitch 43 #[(0, 27), (1, 35)], 27) := by decide +kernel
theorem dX11_fault_28 : decode cX11_fault 28 = .ok (.aload_n 0, 1) := by decide +kernel
theorem dX11_fault_29 : decode cX11_fault 29 = .ok (.getfield 28, 3) := by decide +kernel
theorem dX11_fault_32 : decode cX11_fault 32 = .ok (.getfield 128, 3) := by decide +kernel
theorem dX11_fault_35 : decode cX11_fault 35 = .ok (.ireturn, 1) := by decide +kernel
theorem dX11_fault_36 : decode cX11_fault 36 = .ok (.aload_n 0, 1) := by decide +kernel
theorem dX11_fault_37 : decode cX11_fault 37 = .ok (.getfield 28, 3) := by decide +kernel
theorem dX11_fault_40 : decode cX11_fault 40 = .ok (.getfield 131, 3) := by decide +kernel
theorem dX11_fault_43 : decode cX11_fault 43 = .ok (.ireturn, 1) := by decide +kernel
theorem dX11_fault_44 : decode cX11_fault 44 = .ok (.iconst (-1), 1) := by decide +kernel
theorem dX11_fault_45 : decode cX11_fault 45 = .ok (.ireturn, 1) := by decide +kernel
theorem dX11_piece_0 : decode cX11_piece 0 = .ok (.aload_n 0, 1) := by decide +kernel
theorem dX11_piece_1 : decode cX11_piece 1 = .ok (.getfield 35, 3) := by decide +kernel
theorem dX11_piece_4 : decode cX11_piece 4 = .ok (.iload_n 1, 1) := by decide +kernel
theorem dX11_piece_5 : decode cX11_piece 5 = .ok (.invokevirtual 134, 3) := by decide +kernel
theorem dX11_piece_8 : decode cX11_piece 8 = .ok (.ifCond .ne 6, 3) := by decide +kernel
theorem dX11_piece_11 : decode cX11_piece 11 = .ok (.bipush (-2), 2) := by decide +kernel
theorem dX11_piece_13 : decode cX11_piece 13 = .ok (.ireturn, 1) := by decide +kernel
theorem dX11_piece_14 : decode cX11_piece 14 = .ok (.aload_n 0, 1) := by decide +kernel
theorem dX11_piece_15 : decode cX11_piece 15 = .ok (.getfield 35, 3) := by decide +kernel
theorem dX11_piece_18 : decode cX11_piece 18 = .ok (.getfield 137, 3) := by decide +kernel
theorem dX11_piece_21 : decode cX11_piece 21 = .ok (.iload_n 1, 1) := by decide +kernel
theorem dX11_piece_22 : decode cX11_piece 22 = .ok (.aaload, 1) := by decide +kernel
theorem dX11_piece_23 : decode cX11_piece 23 = .ok (.astore_n 3, 1) := by decide +kernel
theorem dX11_piece_24 : decode cX11_piece 24 = .ok (.iload_n 2, 1) := by decide +kernel
theorem dX11_piece_25 : decode cX11_piece 25 = .ok (.tableswitch 112 0 8 #[51, 56, 61, 66, 71, 76, 85, 94, 107], 51) := by decide +kernel
theorem dX11_piece_76 : decode cX11_piece 76 = .ok (.aload_n 3, 1) := by decide +kernel
theorem dX11_piece_77 : decode cX11_piece 77 = .ok (.getfield 141, 3) := by decide +kernel
theorem dX11_piece_80 : decode cX11_piece 80 = .ok (.ireturn, 1) := by decide +kernel
theorem dX11_piece_81 : decode cX11_piece 81 = .ok (.aload_n 3, 1) := by decide +kernel
theorem dX11_piece_82 : decode cX11_piece 82 = .ok (.getfield 146, 3) := by decide +kernel
theorem dX11_piece_85 : decode cX11_piece 85 = .ok (.ireturn, 1) := by decide +kernel
theorem dX11_piece_86 : decode cX11_piece 86 = .ok (.aload_n 3, 1) := by decide +kernel
theorem dX11_piece_87 : decode cX11_piece 87 = .ok (.getfield 149, 3) := by decide +kernel
theorem dX11_piece_90 : decode cX11_piece 90 = .ok (.ireturn, 1) := by decide +kernel
theorem dX11_piece_91 : decode cX11_piece 91 = .ok (.aload_n 3, 1) := by decide +kernel
theorem dX11_piece_92 : decode cX11_piece 92 = .ok (.getfield 152, 3) := by decide +kernel
theorem dX11_piece_95 : decode cX11_piece 95 = .ok (.ireturn, 1) := by decide +kernel
theorem dX11_piece_96 : decode cX11_piece 96 = .ok (.aload_n 3, 1) := by decide +kernel
theorem dX11_piece_97 : decode cX11_piece 97 = .ok (.getfield 155, 3) := by decide +kernel
theorem dX11_piece_100 : decode cX11_piece 100 = .ok (.ireturn, 1) := by decide +kernel
theorem dX11_piece_101 : decode cX11_piece 101 = .ok (.aload_n 0, 1) := by decide +kernel
theorem dX11_piece_102 : decode cX11_piece 102 = .ok (.getfield 16, 3) := by decide +kernel
theorem dX11_piece_105 : decode cX11_piece 105 = .ok (.aload_n 3, 1) := by decide +kernel
theorem dX11_piece_106 : decode cX11_piece 106 = .ok (.invokevirtual 158, 3) := by decide +kernel
theorem dX11_piece_109 : decode cX11_piece 109 = .ok (.ireturn, 1) := by decide +kernel
theorem dX11_piece_110 : decode cX11_piece 110 = .ok (.aload_n 0, 1) := by decide +kernel
theorem dX11_piece_111 : decode cX11_piece 111 = .ok (.getfield 16, 3) := by decide +kernel
theorem dX11_piece_114 : decode cX11_piece 114 = .ok (.aload_n 3, 1) := by decide +kernel
theorem dX11_piece_115 : decode cX11_piece 115 = .ok (.invokevirtual 162, 3) := by decide +kernel
theorem dX11_piece_118 : decode cX11_piece 118 = .ok (.ireturn, 1) := by decide +kernel
theorem dX11_piece_119 : decode cX11_piece 119 = .ok (.aload_n 3, 1) := by decide +kernel
theorem dX11_piece_120 : decode cX11_piece 120 = .ok (.getfield 165, 3) := by decide +kernel
theorem dX11_piece_123 : decode cX11_piece 123 = .ok (.ifCond .eq 7, 3) := by decide +kernel
theorem dX11_piece_126 : decode cX11_piece 126 = .ok (.iconst 1, 1) := by decide +kernel
theorem dX11_piece_127 : decode cX11_piece 127 = .ok (.goto 4, 3) := by decide +kernel
theorem dX11_piece_130 : decode cX11_piece 130 = .ok (.iconst 0, 1) := by decide +kernel
theorem dX11_piece_131 : decode cX11_piece 131 = .ok (.ireturn, 1) := by decide +kernel
theorem dX11_piece_132 : decode cX11_piece 132 = .ok (.aload_n 3, 1) := by decide +kernel
theorem dX11_piece_133 : decode cX11_piece 133 = .ok (.getfield 168, 3) := by decide +kernel
theorem dX11_piece_136 : decode cX11_piece 136 = .ok (.ireturn, 1) := by decide +kernel
theorem dX11_piece_137 : decode cX11_piece 137 = .ok (.bipush (-2), 2) := by decide +kernel
theorem dX11_piece_139 : decode cX11_piece 139 = .ok (.ireturn, 1) := by decide +kernel
theorem dX11_guest_0 : decode cX11_guest 0 = .ok (.aload_n 0, 1) := by decide +kernel
theorem dX11_guest_1 : decode cX11_guest 1 = .ok (.getfield 16, 3) := by decide +kernel
theorem dX11_guest_4 : decode cX11_guest 4 = .ok (.iload_n 1, 1) := by decide +kernel
theorem dX11_guest_5 : decode cX11_guest 5 = .ok (.invokevirtual 171, 3) := by decide +kernel
theorem dX11_guest_8 : decode cX11_guest 8 = .ok (.ifCond .ne 6, 3) := by decide +kernel
theorem dX11_guest_11 : decode cX11_guest 11 = .ok (.bipush (-2), 2) := by decide +kernel
theorem dX11_guest_13 : decode cX11_guest 13 = .ok (.ireturn, 1) := by decide +kernel
theorem dX11_guest_14 : decode cX11_guest 14 = .ok (.iload_n 2, 1) := by decide +kernel
theorem dX11_guest_15 : decode cX11_guest 15 = .ok (.tableswitch 92 0 4 #[33, 43, 53, 63, 73], 33) := by decide +kernel
theorem dX11_guest_48 : decode cX11_guest 48 = .ok (.aload_n 0, 1) := by decide +kernel
theorem dX11_guest_49 : decode cX11_guest 49 = .ok (.getfield 16, 3) := by decide +kernel
theorem dX11_guest_52 : decode cX11_guest 52 = .ok (.getfield 174, 3) := by decide +kernel
theorem dX11_guest_55 : decode cX11_guest 55 = .ok (.iload_n 1, 1) := by decide +kernel
theorem dX11_guest_56 : decode cX11_guest 56 = .ok (.iaload, 1) := by decide +kernel
theorem dX11_guest_57 : decode cX11_guest 57 = .ok (.ireturn, 1) := by decide +kernel
theorem dX11_guest_58 : decode cX11_guest 58 = .ok (.aload_n 0, 1) := by decide +kernel
theorem dX11_guest_59 : decode cX11_guest 59 = .ok (.getfield 16, 3) := by decide +kernel
theorem dX11_guest_62 : decode cX11_guest 62 = .ok (.getfield 177, 3) := by decide +kernel
theorem dX11_guest_65 : decode cX11_guest 65 = .ok (.iload_n 1, 1) := by decide +kernel
theorem dX11_guest_66 : decode cX11_guest 66 = .ok (.iaload, 1) := by decide +kernel
theorem dX11_guest_67 : decode cX11_guest 67 = .ok (.ireturn, 1) := by decide +kernel
theorem dX11_guest_68 : decode cX11_guest 68 = .ok (.aload_n 0, 1) := by decide +kernel
theorem dX11_guest_69 : decode cX11_guest 69 = .ok (.getfield 16, 3) := by decide +kernel
theorem dX11_guest_72 : decode cX11_guest 72 = .ok (.getfield 180, 3) := by decide +kernel
theorem dX11_guest_75 : decode cX11_guest 75 = .ok (.iload_n 1, 1) := by decide +kernel
theorem dX11_guest_76 : decode cX11_guest 76 = .ok (.iaload, 1) := by decide +kernel
theorem dX11_guest_77 : decode cX11_guest 77 = .ok (.ireturn, 1) := by decide +kernel
theorem dX11_guest_78 : decode cX11_guest 78 = .ok (.aload_n 0, 1) := by decide +kernel
theorem dX11_guest_79 : decode cX11_guest 79 = .ok (.getfield 35, 3) := by decide +kernel
theorem dX11_guest_82 : decode cX11_guest 82 = .ok (.getfield 183, 3) := by decide +kernel
theorem dX11_guest_85 : decode cX11_guest 85 = .ok (.iload_n 1, 1) := by decide +kernel
theorem dX11_guest_86 : decode cX11_guest 86 = .ok (.iaload, 1) := by decide +kernel
theorem dX11_guest_87 : decode cX11_guest 87 = .ok (.ireturn, 1) := by decide +kernel
theorem dX11_guest_88 : decode cX11_guest 88 = .ok (.aload_n 0, 1) := by decide +kernel
theorem dX11_guest_89 : decode cX11_guest 89 = .ok (.getfield 48, 3) := by decide +kernel
theorem dX11_guest_92 : decode cX11_guest 92 = .ok (.iload_n 1, 1) := by decide +kernel
theorem dX11_guest_93 : decode cX11_guest 93 = .ok (.aload_n 0, 1) := by decide +kernel
theorem dX11_guest_94 : decode cX11_guest 94 = .ok (.getfield 35, 3) := by decide +kernel
theorem dX11_guest_97 : decode cX11_guest 97 = .ok (.getfield 183, 3) := by decide +kernel
theorem dX11_guest_100 : decode cX11_guest 100 = .ok (.iload_n 1, 1) := by decide +kernel
theorem dX11_guest_101 : decode cX11_guest 101 = .ok (.iaload, 1) := by decide +kernel
theorem dX11_guest_102 : decode cX11_guest 102 = .ok (.iconst 0, 1) := by decide +kernel
theorem dX11_guest_103 : decode cX11_guest 103 = .ok (.invokevirtual 186, 3) := by decide +kernel
theorem dX11_guest_106 : decode cX11_guest 106 = .ok (.ireturn, 1) := by decide +kernel
theorem dX11_guest_107 : decode cX11_guest 107 = .ok (.bipush (-2), 2) := by decide +kernel
theorem dX11_guest_109 : decode cX11_guest 109 = .ok (.ireturn, 1) := by decide +kernel
theorem dX11_worth_0 : decode cX11_worth 0 = .ok (.aload_n 0, 1) := by decide +kernel
theorem dX11_worth_1 : decode cX11_worth 1 = .ok (.getfield 16, 3) := by decide +kernel
theorem dX11_worth_4 : decode cX11_worth 4 = .ok (.iload_n 1, 1) := by decide +kernel
theorem dX11_worth_5 : decode cX11_worth 5 = .ok (.invokevirtual 171, 3) := by decide +kernel
theorem dX11_worth_8 : decode cX11_worth 8 = .ok (.ifCond .ne 6, 3) := by decide +kernel
theorem dX11_worth_11 : decode cX11_worth 11 = .ok (.ldc 190, 2) := by decide +kernel
theorem dX11_worth_13 : decode cX11_worth 13 = .ok (.ireturn, 1) := by decide +kernel
theorem dX11_worth_14 : decode cX11_worth 14 = .ok (.aload_n 0, 1) := by decide +kernel
theorem dX11_worth_15 : decode cX11_worth 15 = .ok (.getfield 48, 3) := by decide +kernel
theorem dX11_worth_18 : decode cX11_worth 18 = .ok (.iload_n 1, 1) := by decide +kernel
theorem dX11_worth_19 : decode cX11_worth 19 = .ok (.iload_n 2, 1) := by decide +kernel
theorem dX11_worth_20 : decode cX11_worth 20 = .ok (.ldc 190, 2) := by decide +kernel
theorem dX11_worth_22 : decode cX11_worth 22 = .ok (.invokevirtual 186, 3) := by decide +kernel
theorem dX11_worth_25 : decode cX11_worth 25 = .ok (.ireturn, 1) := by decide +kernel
theorem dX11_slip_0 : decode cX11_slip 0 = .ok (.aload_n 0, 1) := by decide +kernel
theorem dX11_slip_1 : decode cX11_slip 1 = .ok (.getfield 35, 3) := by decide +kernel
theorem dX11_slip_4 : decode cX11_slip 4 = .ok (.iload_n 1, 1) := by decide +kernel
theorem dX11_slip_5 : decode cX11_slip 5 = .ok (.iload_n 2, 1) := by decide +kernel
theorem dX11_slip_6 : decode cX11_slip 6 = .ok (.iload_n 3, 1) := by decide +kernel
theorem dX11_slip_7 : decode cX11_slip 7 = .ok (.invokevirtual 191, 3) := by decide +kernel
theorem dX11_slip_10 : decode cX11_slip 10 = .ok (.ifCond .ne 5, 3) := by decide +kernel
theorem dX11_slip_13 : decode cX11_slip 13 = .ok (.iconst (-1), 1) := by decide +kernel
theorem dX11_slip_14 : decode cX11_slip 14 = .ok (.ireturn, 1) := by decide +kernel
theorem dX11_slip_15 : decode cX11_slip 15 = .ok (.iconst 0, 1) := by decide +kernel
theorem dX11_slip_16 : decode cX11_slip 16 = .ok (.bipush 100, 2) := by decide +kernel
theorem dX11_slip_18 : decode cX11_slip 18 = .ok (.aload_n 0, 1) := by decide +kernel
theorem dX11_slip_19 : decode cX11_slip 19 = .ok (.getfield 48, 3) := by decide +kernel
theorem dX11_slip_22 : decode cX11_slip 22 = .ok (.iload_n 1, 1) := by decide +kernel
theorem dX11_slip_23 : decode cX11_slip 23 = .ok (.iload_n 2, 1) := by decide +kernel
theorem dX11_slip_24 : decode cX11_slip 24 = .ok (.invokevirtual 195, 3) := by decide +kernel
theorem dX11_slip_27 : decode cX11_slip 27 = .ok (.invokestatic 199, 3) := by decide +kernel
theorem dX11_slip_30 : decode cX11_slip 30 = .ok (.invokestatic 204, 3) := by decide +kernel
theorem dX11_slip_33 : decode cX11_slip 33 = .ok (.ireturn, 1) := by decide +kernel
theorem dX11_cut_0 : decode cX11_cut 0 = .ok (.aload_n 0, 1) := by decide +kernel
theorem dX11_cut_1 : decode cX11_cut 1 = .ok (.getfield 35, 3) := by decide +kernel
theorem dX11_cut_4 : decode cX11_cut 4 = .ok (.iload_n 1, 1) := by decide +kernel
theorem dX11_cut_5 : decode cX11_cut 5 = .ok (.iload_n 2, 1) := by decide +kernel
theorem dX11_cut_6 : decode cX11_cut 6 = .ok (.iload_n 3, 1) := by decide +kernel
theorem dX11_cut_7 : decode cX11_cut 7 = .ok (.invokevirtual 191, 3) := by decide +kernel
theorem dX11_cut_10 : decode cX11_cut 10 = .ok (.ifCond .ne 5, 3) := by decide +kernel
theorem dX11_cut_13 : decode cX11_cut 13 = .ok (.iconst (-1), 1) := by decide +kernel
theorem dX11_cut_14 : decode cX11_cut 14 = .ok (.ireturn, 1) := by decide +kernel
theorem dX11_cut_15 : decode cX11_cut 15 = .ok (.aload_n 0, 1) := by decide +kernel
theorem dX11_cut_16 : decode cX11_cut 16 = .ok (.getfield 57, 3) := by decide +kernel
theorem dX11_cut_19 : decode cX11_cut 19 = .ok (.iconst 0, 1) := by decide +kernel
theorem dX11_cut_20 : decode cX11_cut 20 = .ok (.iload_n 1, 1) := by decide +kernel
theorem dX11_cut_21 : decode cX11_cut 21 = .ok (.iload_n 2, 1) := by decide +kernel
theorem dX11_cut_22 : decode cX11_cut 22 = .ok (.iload_n 3, 1) := by decide +kernel
theorem dX11_cut_23 : decode cX11_cut 23 = .ok (.invokevirtual 207, 3) := by decide +kernel
theorem dX11_cut_26 : decode cX11_cut 26 = .ok (.aload_n 0, 1) := by decide +kernel
theorem dX11_cut_27 : decode cX11_cut 27 = .ok (.getfield 35, 3) := by decide +kernel
theorem dX11_cut_30 : decode cX11_cut 30 = .ok (.getfield 211, 3) := by decide +kernel
theorem dX11_cut_33 : decode cX11_cut 33 = .ok (.iconst 1, 1) := by decide +kernel
theorem dX11_cut_34 : decode cX11_cut 34 = .ok (.isub, 1) := by decide +kernel
theorem dX11_cut_35 : decode cX11_cut 35 = .ok (.ireturn, 1) := by decide +kernel
theorem dX11_give_0 : decode cX11_give 0 = .ok (.aload_n 0, 1) := by decide +kernel
theorem dX11_give_1 : decode cX11_give 1 = .ok (.getfield 16, 3) := by decide +kernel
theorem dX11_give_4 : decode cX11_give 4 = .ok (.iload_n 2, 1) := by decide +kernel
theorem dX11_give_5 : decode cX11_give 5 = .ok (.invokevirtual 171, 3) := by decide +kernel
theorem dX11_give_8 : decode cX11_give 8 = .ok (.ifCond .eq 27, 3) := by decide +kernel
theorem dX11_give_11 : decode cX11_give 11 = .ok (.aload_n 0, 1) := by decide +kernel
theorem dX11_give_12 : decode cX11_give 12 = .ok (.getfield 35, 3) := by decide +kernel
theorem dX11_give_15 : decode cX11_give 15 = .ok (.iload_n 1, 1) := by decide +kernel
theorem dX11_give_16 : decode cX11_give 16 = .ok (.invokevirtual 214, 3) := by decide +kernel
theorem dX11_give_19 : decode cX11_give 19 = .ok (.ifCond .eq 16, 3) := by decide +kernel
theorem dX11_give_22 : decode cX11_give 22 = .ok (.aload_n 0, 1) := by decide +kernel
theorem dX11_give_23 : decode cX11_give 23 = .ok (.getfield 35, 3) := by decide +kernel
theorem dX11_give_26 : decode cX11_give 26 = .ok (.getfield 183, 3) := by decide +kernel
theorem dX11_give_29 : decode cX11_give 29 = .ok (.iload_n 2, 1) := by decide +kernel
theorem dX11_give_30 : decode cX11_give 30 = .ok (.iaload, 1) := by decide +kernel
theorem dX11_give_31 : decode cX11_give 31 = .ok (.iconst (-1), 1) := by decide +kernel
theorem dX11_give_32 : decode cX11_give 32 = .ok (.if_icmp .eq 5, 3) := by decide +kernel
theorem dX11_give_35 : decode cX11_give 35 = .ok (.iconst (-1), 1) := by decide +kernel
theorem dX11_give_36 : decode cX11_give 36 = .ok (.ireturn, 1) := by decide +kernel
theorem dX11_give_37 : decode cX11_give 37 = .ok (.aload_n 0, 1) := by decide +kernel
theorem dX11_give_38 : decode cX11_give 38 = .ok (.getfield 57, 3) := by decide +kernel
theorem dX11_give_41 : decode cX11_give 41 = .ok (.iconst 1, 1) := by decide +kernel
theorem dX11_give_42 : decode cX11_give 42 = .ok (.iload_n 1, 1) := by decide +kernel
theorem dX11_give_43 : decode cX11_give 43 = .ok (.iload_n 2, 1) := by decide +kernel
theorem dX11_give_44 : decode cX11_give 44 = .ok (.iconst 0, 1) := by decide +kernel
theorem dX11_give_45 : decode cX11_give 45 = .ok (.invokevirtual 207, 3) := by decide +kernel
theorem dX11_give_48 : decode cX11_give 48 = .ok (.aload_n 0, 1) := by decide +kernel
theorem dX11_give_49 : decode cX11_give 49 = .ok (.getfield 35, 3) := by decide +kernel
theorem dX11_give_52 : decode cX11_give 52 = .ok (.invokevirtual 217, 3) := by decide +kernel
theorem dX11_give_55 : decode cX11_give 55 = .ok (.ireturn, 1) := by decide +kernel
theorem dX11_back_0 : decode cX11_back 0 = .ok (.aload_n 0, 1) := by decide +kernel
theorem dX11_back_1 : decode cX11_back 1 = .ok (.getfield 16, 3) := by decide +kernel
theorem dX11_back_4 : decode cX11_back 4 = .ok (.iload_n 1, 1) := by decide +kernel
theorem dX11_back_5 : decode cX11_back 5 = .ok (.invokevirtual 171, 3) := by decide +kernel
theorem dX11_back_8 : decode cX11_back 8 = .ok (.ifCond .eq 16, 3) := by decide +kernel
theorem dX11_back_11 : decode cX11_back 11 = .ok (.aload_n 0, 1) := by decide +kernel
theorem dX11_back_12 : decode cX11_back 12 = .ok (.getfield 35, 3) := by decide +kernel
theorem dX11_back_15 : decode cX11_back 15 = .ok (.getfield 183, 3) := by decide +kernel
theorem dX11_back_18 : decode cX11_back 18 = .ok (.iload_n 1, 1) := by decide +kernel
theorem dX11_back_19 : decode cX11_back 19 = .ok (.iaload, 1) := by decide +kernel
theorem dX11_back_20 : decode cX11_back 20 = .ok (.iconst (-1), 1) := by decide +kernel
theorem dX11_back_21 : decode cX11_back 21 = .ok (.if_icmp .ne 5, 3) := by decide +kernel
theorem dX11_back_24 : decode cX11_back 24 = .ok (.iconst (-1), 1) := by decide +kernel
theorem dX11_back_25 : decode cX11_back 25 = .ok (.ireturn, 1) := by decide +kernel
theorem dX11_back_26 : decode cX11_back 26 = .ok (.aload_n 0, 1) := by decide +kernel
theorem dX11_back_27 : decode cX11_back 27 = .ok (.getfield 35, 3) := by decide +kernel
theorem dX11_back_30 : decode cX11_back 30 = .ok (.getfield 183, 3) := by decide +kernel
theorem dX11_back_33 : decode cX11_back 33 = .ok (.iload_n 1, 1) := by decide +kernel
theorem dX11_back_34 : decode cX11_back 34 = .ok (.iaload, 1) := by decide +kernel
theorem dX11_back_35 : decode cX11_back 35 = .ok (.istore_n 2, 1) := by decide +kernel
theorem dX11_back_36 : decode cX11_back 36 = .ok (.aload_n 0, 1) := by decide +kernel
theorem dX11_back_37 : decode cX11_back 37 = .ok (.getfield 57, 3) := by decide +kernel
theorem dX11_back_40 : decode cX11_back 40 = .ok (.iconst 2, 1) := by decide +kernel
theorem dX11_back_41 : decode cX11_back 41 = .ok (.iload_n 2, 1) := by decide +kernel
theorem dX11_back_42 : decode cX11_back 42 = .ok (.iload_n 1, 1) := by decide +kernel
theorem dX11_back_43 : decode cX11_back 43 = .ok (.iconst 0, 1) := by decide +kernel
theorem dX11_back_44 : decode cX11_back 44 = .ok (.invokevirtual 207, 3) := by decide +kernel
theorem dX11_back_47 : decode cX11_back 47 = .ok (.iload_n 2, 1) := by decide +kernel
theorem dX11_back_48 : decode cX11_back 48 = .ok (.ireturn, 1) := by decide +kernel
theorem dX11_exchange_0 : decode cX11_exchange 0 = .ok (.aload_n 0, 1) := by decide +kernel
theorem dX11_exchange_1 : decode cX11_exchange 1 = .ok (.iload_n 1, 1) := by decide +kernel
theorem dX11_exchange_2 : decode cX11_exchange 2 = .ok (.iload_n 2, 1) := by decide +kernel
theorem dX11_exchange_3 : decode cX11_exchange 3 = .ok (.invokevirtual 221, 3) := by decide +kernel
theorem dX11_exchange_6 : decode cX11_exchange 6 = .ok (.ifCond .ne 5, 3) := by decide +kernel
theorem dX11_exchange_9 : decode cX11_exchange 9 = .ok (.iconst (-1), 1) := by decide +kernel
theorem dX11_exchange_10 : decode cX11_exchange 10 = .ok (.ireturn, 1) := by decide +kernel
theorem dX11_exchange_11 : decode cX11_exchange 11 = .ok (.aload_n 0, 1) := by decide +kernel
theorem dX11_exchange_12 : decode cX11_exchange 12 = .ok (.getfield 35, 3) := by decide +kernel
theorem dX11_exchange_15 : decode cX11_exchange 15 = .ok (.getfield 183, 3) := by decide +kernel
theorem dX11_exchange_18 : decode cX11_exchange 18 = .ok (.iload_n 1, 1) := by decide +kernel
theorem dX11_exchange_19 : decode cX11_exchange 19 = .ok (.iaload, 1) := by decide +kernel
theorem dX11_exchange_20 : decode cX11_exchange 20 = .ok (.iconst (-1), 1) := by decide +kernel
theorem dX11_exchange_21 : decode cX11_exchange 21 = .ok (.if_icmp .eq 16, 3) := by decide +kernel
theorem dX11_exchange_24 : decode cX11_exchange 24 = .ok (.aload_n 0, 1) := by decide +kernel
theorem dX11_exchange_25 : decode cX11_exchange 25 = .ok (.getfield 35, 3) := by decide +kernel
theorem dX11_exchange_28 : decode cX11_exchange 28 = .ok (.getfield 183, 3) := by decide +kernel
theorem dX11_exchange_31 : decode cX11_exchange 31 = .ok (.iload_n 2, 1) := by decide +kernel
theorem dX11_exchange_32 : decode cX11_exchange 32 = .ok (.iaload, 1) := by decide +kernel
theorem dX11_exchange_33 : decode cX11_exchange 33 = .ok (.iconst (-1), 1) := by decide +kernel
theorem dX11_exchange_34 : decode cX11_exchange 34 = .ok (.if_icmp .ne 5, 3) := by decide +kernel
theorem dX11_exchange_37 : decode cX11_exchange 37 = .ok (.iconst (-1), 1) := by decide +kernel
theorem dX11_exchange_38 : decode cX11_exchange 38 = .ok (.ireturn, 1) := by decide +kernel
theorem dX11_exchange_39 : decode cX11_exchange 39 = .ok (.aload_n 0, 1) := by decide +kernel
theorem dX11_exchange_40 : decode cX11_exchange 40 = .ok (.getfield 57, 3) := by decide +kernel
theorem dX11_exchange_43 : decode cX11_exchange 43 = .ok (.iconst 3, 1) := by decide +kernel
theorem dX11_exchange_44 : decode cX11_exchange 44 = .ok (.iload_n 1, 1) := by decide +kernel
theorem dX11_exchange_45 : decode cX11_exchange 45 = .ok (.iload_n 2, 1) := by decide +kernel
theorem dX11_exchange_46 : decode cX11_exchange 46 = .ok (.iconst 0, 1) := by decide +kernel
theorem dX11_exchange_47 : decode cX11_exchange 47 = .ok (.invokevirtual 207, 3) := by decide +kernel
theorem dX11_exchange_50 : decode cX11_exchange 50 = .ok (.aload_n 0, 1) := by decide +kernel
theorem dX11_exchange_51 : decode cX11_exchange 51 = .ok (.getfield 35, 3) := by decide +kernel
theorem dX11_exchange_54 : decode cX11_exchange 54 = .ok (.getfield 183, 3) := by decide +kernel
theorem dX11_exchange_57 : decode cX11_exchange 57 = .ok (.iload_n 1, 1) := by decide +kernel
theorem dX11_exchange_58 : decode cX11_exchange 58 = .ok (.iaload, 1) := by decide +kernel
theorem dX11_exchange_59 : decode cX11_exchange 59 = .ok (.ireturn, 1) := by decide +kernel
theorem dX11_undo_0 : decode cX11_undo 0 = .ok (.aload_n 0, 1) := by decide +kernel
theorem dX11_undo_1 : decode cX11_undo 1 = .ok (.getfield 57, 3) := by decide +kernel
theorem dX11_undo_4 : decode cX11_undo 4 = .ok (.invokevirtual 225, 3) := by decide +kernel
theorem dX11_undo_7 : decode cX11_undo 7 = .ok (.ireturn, 1) := by decide +kernel
theorem dX11_redo_0 : decode cX11_redo 0 = .ok (.aload_n 0, 1) := by decide +kernel
theorem dX11_redo_1 : decode cX11_redo 1 = .ok (.getfield 57, 3) := by decide +kernel
theorem dX11_redo_4 : decode cX11_redo 4 = .ok (.invokevirtual 229, 3) := by decide +kernel
theorem dX11_redo_7 : decode cX11_redo 7 = .ok (.ireturn, 1) := by decide +kernel
theorem dX11_feeds_0 : decode cX11_feeds 0 = .ok (.aload_n 0, 1) := by decide +kernel
theorem dX11_feeds_1 : decode cX11_feeds 1 = .ok (.getfield 16, 3) := by decide +kernel
theorem dX11_feeds_4 : decode cX11_feeds 4 = .ok (.iload_n 1, 1) := by decide +kernel
theorem dX11_feeds_5 : decode cX11_feeds 5 = .ok (.invokevirtual 171, 3) := by decide +kernel
theorem dX11_feeds_8 : decode cX11_feeds 8 = .ok (.ifCond .ne 5, 3) := by decide +kernel
theorem dX11_feeds_11 : decode cX11_feeds 11 = .ok (.iconst (-1), 1) := by decide +kernel
theorem dX11_feeds_12 : decode cX11_feeds 12 = .ok (.ireturn, 1) := by decide +kernel
theorem dX11_feeds_13 : decode cX11_feeds 13 = .ok (.aload_n 0, 1) := by decide +kernel
theorem dX11_feeds_14 : decode cX11_feeds 14 = .ok (.getfield 64, 3) := by decide +kernel
theorem dX11_feeds_17 : decode cX11_feeds 17 = .ok (.iload_n 1, 1) := by decide +kernel
theorem dX11_feeds_18 : decode cX11_feeds 18 = .ok (.invokevirtual 232, 3) := by decide +kernel
theorem dX11_feeds_21 : decode cX11_feeds 21 = .ok (.ireturn, 1) := by decide +kernel
theorem dX11_served_0 : decode cX11_served 0 = .ok (.aload_n 0, 1) := by decide +kernel
theorem dX11_served_1 : decode cX11_served 1 = .ok (.getfield 64, 3) := by decide +kernel
theorem dX11_served_4 : decode cX11_served 4 = .ok (.iconst 0, 1) := by decide +kernel
theorem dX11_served_5 : decode cX11_served 5 = .ok (.invokevirtual 236, 3) := by decide +kernel
theorem dX11_served_8 : decode cX11_served 8 = .ok (.ireturn, 1) := by decide +kernel
theorem dX11_next_0 : decode cX11_next 0 = .ok (.aload_n 0, 1) := by decide +kernel
theorem dX11_next_1 : decode cX11_next 1 = .ok (.getfield 64, 3) := by decide +kernel
theorem dX11_next_4 : decode cX11_next 4 = .ok (.invokevirtual 239, 3) := by decide +kernel
theorem dX11_next_7 : decode cX11_next 7 = .ok (.ifCond .ne 5, 3) := by decide +kernel
theorem dX11_next_10 : decode cX11_next 10 = .ok (.iconst (-1), 1) := by decide +kernel
theorem dX11_next_11 : decode cX11_next 11 = .ok (.ireturn, 1) := by decide +kernel
theorem dX11_next_12 : decode cX11_next 12 = .ok (.iload_n 1, 1) := by decide +kernel
theorem dX11_next_13 : decode cX11_next 13 = .ok (.tableswitch 63 0 3 #[31, 39, 47, 55], 31) := by decide +kernel
theorem dX11_next_44 : decode cX11_next 44 = .ok (.aload_n 0, 1) := by decide +kernel
theorem dX11_next_45 : decode cX11_next 45 = .ok (.getfield 64, 3) := by decide +kernel
theorem dX11_next_48 : decode cX11_next 48 = .ok (.getfield 242, 3) := by decide +kernel
theorem dX11_next_51 : decode cX11_next 51 = .ok (.ireturn, 1) := by decide +kernel
theorem dX11_next_52 : decode cX11_next 52 = .ok (.aload_n 0, 1) := by decide +kernel
theorem dX11_next_53 : decode cX11_next 53 = .ok (.getfield 64, 3) := by decide +kernel
theorem dX11_next_56 : decode cX11_next 56 = .ok (.getfield 245, 3) := by decide +kernel
theorem dX11_next_59 : decode cX11_next 59 = .ok (.ireturn, 1) := by decide +kernel
theorem dX11_next_60 : decode cX11_next 60 = .ok (.aload_n 0, 1) := by decide +kernel
theorem dX11_next_61 : decode cX11_next 61 = .ok (.getfield 64, 3) := by decide +kernel
theorem dX11_next_64 : decode cX11_next 64 = .ok (.getfield 248, 3) := by decide +kernel
theorem dX11_next_67 : decode cX11_next 67 = .ok (.ireturn, 1) := by decide +kernel
theorem dX11_next_68 : decode cX11_next 68 = .ok (.aload_n 0, 1) := by decide +kernel
theorem dX11_next_69 : decode cX11_next 69 = .ok (.getfield 64, 3) := by decide +kernel
theorem dX11_next_72 : decode cX11_next 72 = .ok (.getfield 251, 3) := by decide +kernel
theorem dX11_next_75 : decode cX11_next 75 = .ok (.ireturn, 1) := by decide +kernel
theorem dX11_next_76 : decode cX11_next 76 = .ok (.iconst (-1), 1) := by decide +kernel
theorem dX11_next_77 : decode cX11_next 77 = .ok (.ireturn, 1) := by decide +kernel
theorem dX11_room_0 : decode cX11_room 0 = .ok (.aload_n 0, 1) := by decide +kernel
theorem dX11_room_1 : decode cX11_room 1 = .ok (.getfield 16, 3) := by decide +kernel
theorem dX11_room_4 : decode cX11_room 4 = .ok (.iload_n 1, 1) := by decide +kernel
theorem dX11_room_5 : decode cX11_room 5 = .ok (.invokevirtual 171, 3) := by decide +kernel
theorem dX11_room_8 : decode cX11_room 8 = .ok (.ifCond .eq 16, 3) := by decide +kernel
theorem dX11_room_11 : decode cX11_room 11 = .ok (.aload_n 0, 1) := by decide +kernel
theorem dX11_room_12 : decode cX11_room 12 = .ok (.getfield 35, 3) := by decide +kernel
theorem dX11_room_15 : decode cX11_room 15 = .ok (.getfield 183, 3) := by decide +kernel
theorem dX11_room_18 : decode cX11_room 18 = .ok (.iload_n 1, 1) := by decide +kernel
theorem dX11_room_19 : decode cX11_room 19 = .ok (.iaload, 1) := by decide +kernel
theorem dX11_room_20 : decode cX11_room 20 = .ok (.iconst (-1), 1) := by decide +kernel
theorem dX11_room_21 : decode cX11_room 21 = .ok (.if_icmp .eq 5, 3) := by decide +kernel
theorem dX11_room_24 : decode cX11_room 24 = .ok (.iconst (-1), 1) := by decide +kernel
theorem dX11_room_25 : decode cX11_room 25 = .ok (.ireturn, 1) := by decide +kernel
theorem dX11_room_26 : decode cX11_room 26 = .ok (.aload_n 0, 1) := by decide +kernel
theorem dX11_room_27 : decode cX11_room 27 = .ok (.getfield 64, 3) := by decide +kernel
theorem dX11_room_30 : decode cX11_room 30 = .ok (.iload_n 1, 1) := by decide +kernel
theorem dX11_room_31 : decode cX11_room 31 = .ok (.invokevirtual 254, 3) := by decide +kernel
theorem dX11_room_34 : decode cX11_room 34 = .ok (.ireturn, 1) := by decide +kernel
theorem dX11_hungry_0 : decode cX11_hungry 0 = .ok (.iconst 0, 1) := by decide +kernel
theorem dX11_hungry_1 : decode cX11_hungry 1 = .ok (.istore_n 1, 1) := by decide +kernel
theorem dX11_hungry_2 : decode cX11_hungry 2 = .ok (.iconst 0, 1) := by decide +kernel
theorem dX11_hungry_3 : decode cX11_hungry 3 = .ok (.istore_n 2, 1) := by decide +kernel
theorem dX11_hungry_4 : decode cX11_hungry 4 = .ok (.iload_n 2, 1) := by decide +kernel
theorem dX11_hungry_5 : decode cX11_hungry 5 = .ok (.aload_n 0, 1) := by decide +kernel
theorem dX11_hungry_6 : decode cX11_hungry 6 = .ok (.getfield 16, 3) := by decide +kernel
theorem dX11_hungry_9 : decode cX11_hungry 9 = .ok (.getfield 257, 3) := by decide +kernel
theorem dX11_hungry_12 : decode cX11_hungry 12 = .ok (.if_icmp .ge 39, 3) := by decide +kernel
theorem dX11_hungry_15 : decode cX11_hungry 15 = .ok (.aload_n 0, 1) := by decide +kernel
theorem dX11_hungry_16 : decode cX11_hungry 16 = .ok (.getfield 35, 3) := by decide +kernel
theorem dX11_hungry_19 : decode cX11_hungry 19 = .ok (.getfield 183, 3) := by decide +kernel
theorem dX11_hungry_22 : decode cX11_hungry 22 = .ok (.iload_n 2, 1) := by decide +kernel
theorem dX11_hungry_23 : decode cX11_hungry 23 = .ok (.iaload, 1) := by decide +kernel
theorem dX11_hungry_24 : decode cX11_hungry 24 = .ok (.iconst (-1), 1) := by decide +kernel
theorem dX11_hungry_25 : decode cX11_hungry 25 = .ok (.if_icmp .ne 20, 3) := by decide +kernel
theorem dX11_hungry_28 : decode cX11_hungry 28 = .ok (.aload_n 0, 1) := by decide +kernel
theorem dX11_hungry_29 : decode cX11_hungry 29 = .ok (.getfield 64, 3) := by decide +kernel
theorem dX11_hungry_32 : decode cX11_hungry 32 = .ok (.iload_n 2, 1) := by decide +kernel
theorem dX11_hungry_33 : decode cX11_hungry 33 = .ok (.invokevirtual 232, 3) := by decide +kernel
theorem dX11_hungry_36 : decode cX11_hungry 36 = .ok (.ifCond .ne 9, 3) := by decide +kernel
theorem dX11_hungry_39 : decode cX11_hungry 39 = .ok (.iload_n 1, 1) := by decide +kernel
theorem dX11_hungry_40 : decode cX11_hungry 40 = .ok (.iconst 1, 1) := by decide +kernel
theorem dX11_hungry_41 : decode cX11_hungry 41 = .ok (.iload_n 2, 1) := by decide +kernel
theorem dX11_hungry_42 : decode cX11_hungry 42 = .ok (.ishl, 1) := by decide +kernel
theorem dX11_hungry_43 : decode cX11_hungry 43 = .ok (.ior, 1) := by decide +kernel
theorem dX11_hungry_44 : decode cX11_hungry 44 = .ok (.istore_n 1, 1) := by decide +kernel
theorem dX11_hungry_45 : decode cX11_hungry 45 = .ok (.iinc 2 1, 3) := by decide +kernel
theorem dX11_hungry_48 : decode cX11_hungry 48 = .ok (.goto (-44), 3) := by decide +kernel
theorem dX11_hungry_51 : decode cX11_hungry 51 = .ok (.iload_n 1, 1) := by decide +kernel
theorem dX11_hungry_52 : decode cX11_hungry 52 = .ok (.ireturn, 1) := by decide +kernel
theorem dX11_law_0 : decode cX11_law 0 = .ok (.iload_n 1, 1) := by decide +kernel
theorem dX11_law_1 : decode cX11_law 1 = .ok (.bipush (-99), 2) := by decide +kernel
theorem dX11_law_3 : decode cX11_law 3 = .ok (.if_icmp .lt 9, 3) := by decide +kernel
theorem dX11_law_6 : decode cX11_law 6 = .ok (.iload_n 1, 1) := by decide +kernel
theorem dX11_law_7 : decode cX11_law 7 = .ok (.bipush 99, 2) := by decide +kernel
theorem dX11_law_9 : decode cX11_law 9 = .ok (.if_icmp .le 5, 3) := by decide +kernel
theorem dX11_law_12 : decode cX11_law 12 = .ok (.iconst (-1), 1) := by decide +kernel
theorem dX11_law_13 : decode cX11_law 13 = .ok (.ireturn, 1) := by decide +kernel
theorem dX11_law_14 : decode cX11_law 14 = .ok (.aload_n 0, 1) := by decide +kernel
theorem dX11_law_15 : decode cX11_law 15 = .ok (.getfield 64, 3) := by decide +kernel
theorem dX11_law_18 : decode cX11_law 18 = .ok (.iload_n 1, 1) := by decide +kernel
theorem dX11_law_19 : decode cX11_law 19 = .ok (.invokevirtual 236, 3) := by decide +kernel
theorem dX11_law_22 : decode cX11_law 22 = .ok (.ireturn, 1) := by decide +kernel
theorem dX11_envies_0 : decode cX11_envies 0 = .ok (.aload_n 0, 1) := by decide +kernel
theorem dX11_envies_1 : decode cX11_envies 1 = .ok (.getfield 16, 3) := by decide +kernel
theorem dX11_envies_4 : decode cX11_envies 4 = .ok (.iload_n 1, 1) := by decide +kernel
theorem dX11_envies_5 : decode cX11_envies 5 = .ok (.invokevirtual 171, 3) := by decide +kernel
theorem dX11_envies_8 : decode cX11_envies 8 = .ok (.ifCond .ne 5, 3) := by decide +kernel
theorem dX11_envies_11 : decode cX11_envies 11 = .ok (.iconst (-1), 1) := by decide +kernel
theorem dX11_envies_12 : decode cX11_envies 12 = .ok (.ireturn, 1) := by decide +kernel
theorem dX11_envies_13 : decode cX11_envies 13 = .ok (.aload_n 0, 1) := by decide +kernel
theorem dX11_envies_14 : decode cX11_envies 14 = .ok (.getfield 48, 3) := by decide +kernel
theorem dX11_envies_17 : decode cX11_envies 17 = .ok (.iload_n 1, 1) := by decide +kernel
theorem dX11_envies_18 : decode cX11_envies 18 = .ok (.invokevirtual 260, 3) := by decide +kernel
theorem dX11_envies_21 : decode cX11_envies 21 = .ok (.ireturn, 1) := by decide +kernel
theorem dX11_quarrel_0 : decode cX11_quarrel 0 = .ok (.iconst 0, 1) := by decide +kernel
theorem dX11_quarrel_1 : decode cX11_quarrel 1 = .ok (.istore_n 1, 1) := by decide +kernel
theorem dX11_quarrel_2 : decode cX11_quarrel 2 = .ok (.iconst 0, 1) := by decide +kernel
theorem dX11_quarrel_3 : decode cX11_quarrel 3 = .ok (.istore_n 2, 1) := by decide +kernel
theorem dX11_quarrel_4 : decode cX11_quarrel 4 = .ok (.iload_n 2, 1) := by decide +kernel
theorem dX11_quarrel_5 : decode cX11_quarrel 5 = .ok (.aload_n 0, 1) := by decide +kernel
theorem dX11_quarrel_6 : decode cX11_quarrel 6 = .ok (.getfield 16, 3) := by decide +kernel
theorem dX11_quarrel_9 : decode cX11_quarrel 9 = .ok (.getfield 257, 3) := by decide +kernel
theorem dX11_quarrel_12 : decode cX11_quarrel 12 = .ok (.if_icmp .ge 23, 3) := by decide +kernel
theorem dX11_quarrel_15 : decode cX11_quarrel 15 = .ok (.iload_n 1, 1) := by decide +kernel
theorem dX11_quarrel_16 : decode cX11_quarrel 16 = .ok (.aload_n 0, 1) := by decide +kernel
theorem dX11_quarrel_17 : decode cX11_quarrel 17 = .ok (.getfield 48, 3) := by decide +kernel
theorem dX11_quarrel_20 : decode cX11_quarrel 20 = .ok (.iload_n 2, 1) := by decide +kernel
theorem dX11_quarrel_21 : decode cX11_quarrel 21 = .ok (.invokevirtual 260, 3) := by decide +kernel
theorem dX11_quarrel_24 : decode cX11_quarrel 24 = .ok (.invokestatic 263, 3) := by decide +kernel
theorem dX11_quarrel_27 : decode cX11_quarrel 27 = .ok (.iadd, 1) := by decide +kernel
theorem dX11_quarrel_28 : decode cX11_quarrel 28 = .ok (.istore_n 1, 1) := by decide +kernel
theorem dX11_quarrel_29 : decode cX11_quarrel 29 = .ok (.iinc 2 1, 3) := by decide +kernel
theorem dX11_quarrel_32 : decode cX11_quarrel 32 = .ok (.goto (-28), 3) := by decide +kernel
theorem dX11_quarrel_35 : decode cX11_quarrel 35 = .ok (.iload_n 1, 1) := by decide +kernel
theorem dX11_quarrel_36 : decode cX11_quarrel 36 = .ok (.ireturn, 1) := by decide +kernel
theorem dX11_calm_0 : decode cX11_calm 0 = .ok (.aload_n 0, 1) := by decide +kernel
theorem dX11_calm_1 : decode cX11_calm 1 = .ok (.getfield 48, 3) := by decide +kernel
theorem dX11_calm_4 : decode cX11_calm 4 = .ok (.invokevirtual 268, 3) := by decide +kernel
theorem dX11_calm_7 : decode cX11_calm 7 = .ok (.ifCond .ne 5, 3) := by decide +kernel
theorem dX11_calm_10 : decode cX11_calm 10 = .ok (.iconst (-1), 1) := by decide +kernel
theorem dX11_calm_11 : decode cX11_calm 11 = .ok (.ireturn, 1) := by decide +kernel
theorem dX11_calm_12 : decode cX11_calm 12 = .ok (.iload_n 1, 1) := by decide +kernel
theorem dX11_calm_13 : decode cX11_calm 13 = .ok (.tableswitch 51 0 2 #[27, 35, 43], 27) := by decide +kernel
theorem dX11_calm_40 : decode cX11_calm 40 = .ok (.aload_n 0, 1) := by decide +kernel
theorem dX11_calm_41 : decode cX11_calm 41 = .ok (.getfield 48, 3) := by decide +kernel
theorem dX11_calm_44 : decode cX11_calm 44 = .ok (.getfield 271, 3) := by decide +kernel
theorem dX11_calm_47 : decode cX11_calm 47 = .ok (.ireturn, 1) := by decide +kernel
theorem dX11_calm_48 : decode cX11_calm 48 = .ok (.aload_n 0, 1) := by decide +kernel
theorem dX11_calm_49 : decode cX11_calm 49 = .ok (.getfield 48, 3) := by decide +kernel
theorem dX11_calm_52 : decode cX11_calm 52 = .ok (.getfield 274, 3) := by decide +kernel
theorem dX11_calm_55 : decode cX11_calm 55 = .ok (.ireturn, 1) := by decide +kernel
theorem dX11_calm_56 : decode cX11_calm 56 = .ok (.aload_n 0, 1) := by decide +kernel
theorem dX11_calm_57 : decode cX11_calm 57 = .ok (.getfield 48, 3) := by decide +kernel
theorem dX11_calm_60 : decode cX11_calm 60 = .ok (.getfield 277, 3) := by decide +kernel
theorem dX11_calm_63 : decode cX11_calm 63 = .ok (.ireturn, 1) := by decide +kernel
theorem dX11_calm_64 : decode cX11_calm 64 = .ok (.iconst (-1), 1) := by decide +kernel
theorem dX11_calm_65 : decode cX11_calm 65 = .ok (.ireturn, 1) := by decide +kernel
theorem dX11_halve_0 : decode cX11_halve 0 = .ok (.aload_n 0, 1) := by decide +kernel
theorem dX11_halve_1 : decode cX11_halve 1 = .ok (.iload_n 2, 1) := by decide +kernel
theorem dX11_halve_2 : decode cX11_halve 2 = .ok (.iload_n 3, 1) := by decide +kernel
theorem dX11_halve_3 : decode cX11_halve 3 = .ok (.invokevirtual 221, 3) := by decide +kernel
theorem dX11_halve_6 : decode cX11_halve 6 = .ok (.ifCond .eq 16, 3) := by decide +kernel
theorem dX11_halve_9 : decode cX11_halve 9 = .ok (.aload_n 0, 1) := by decide +kernel
theorem dX11_halve_10 : decode cX11_halve 10 = .ok (.getfield 71, 3) := by decide +kernel
theorem dX11_halve_13 : decode cX11_halve 13 = .ok (.iload_n 1, 1) := by decide +kernel
theorem dX11_halve_14 : decode cX11_halve 14 = .ok (.iload_n 2, 1) := by decide +kernel
theorem dX11_halve_15 : decode cX11_halve 15 = .ok (.iload_n 3, 1) := by decide +kernel
theorem dX11_halve_16 : decode cX11_halve 16 = .ok (.invokevirtual 280, 3) := by decide +kernel
theorem dX11_halve_19 : decode cX11_halve 19 = .ok (.ifCond .ne 5, 3) := by decide +kernel
theorem dX11_halve_22 : decode cX11_halve 22 = .ok (.iconst (-1), 1) := by decide +kernel
theorem dX11_halve_23 : decode cX11_halve 23 = .ok (.ireturn, 1) := by decide +kernel
theorem dX11_halve_24 : decode cX11_halve 24 = .ok (.iload 4, 2) := by decide +kernel
theorem dX11_halve_26 : decode cX11_halve 26 = .ok (.tableswitch 50 0 2 #[26, 34, 42], 26) := by decide +kernel
theorem dX11_halve_52 : decode cX11_halve 52 = .ok (.aload_n 0, 1) := by decide +kernel
theorem dX11_halve_53 : decode cX11_halve 53 = .ok (.getfield 71, 3) := by decide +kernel
theorem dX11_halve_56 : decode cX11_halve 56 = .ok (.getfield 283, 3) := by decide +kernel
theorem dX11_halve_59 : decode cX11_halve 59 = .ok (.ireturn, 1) := by decide +kernel
theorem dX11_halve_60 : decode cX11_halve 60 = .ok (.aload_n 0, 1) := by decide +kernel
theorem dX11_halve_61 : decode cX11_halve 61 = .ok (.getfield 71, 3) := by decide +kernel
theorem dX11_halve_64 : decode cX11_halve 64 = .ok (.getfield 286, 3) := by decide +kernel
theorem dX11_halve_67 : decode cX11_halve 67 = .ok (.ireturn, 1) := by decide +kernel
theorem dX11_halve_68 : decode cX11_halve 68 = .ok (.aload_n 0, 1) := by decide +kernel
theorem dX11_halve_69 : decode cX11_halve 69 = .ok (.getfield 71, 3) := by decide +kernel
theorem dX11_halve_72 : decode cX11_halve 72 = .ok (.getfield 289, 3) := by decide +kernel
theorem dX11_halve_75 : decode cX11_halve 75 = .ok (.ireturn, 1) := by decide +kernel
theorem dX11_halve_76 : decode cX11_halve 76 = .ok (.iconst (-1), 1) := by decide +kernel
theorem dX11_halve_77 : decode cX11_halve 77 = .ok (.ireturn, 1) := by decide +kernel
theorem dX11_share_0 : decode cX11_share 0 = .ok (.aload_n 0, 1) := by decide +kernel
theorem dX11_share_1 : decode cX11_share 1 = .ok (.iload_n 2, 1) := by decide +kernel
theorem dX11_share_2 : decode cX11_share 2 = .ok (.iload_n 3, 1) := by decide +kernel
theorem dX11_share_3 : decode cX11_share 3 = .ok (.invokevirtual 221, 3) := by decide +kernel
theorem dX11_share_6 : decode cX11_share 6 = .ok (.ifCond .eq 16, 3) := by decide +kernel
theorem dX11_share_9 : decode cX11_share 9 = .ok (.aload_n 0, 1) := by decide +kernel
theorem dX11_share_10 : decode cX11_share 10 = .ok (.getfield 71, 3) := by decide +kernel
theorem dX11_share_13 : decode cX11_share 13 = .ok (.iload_n 1, 1) := by decide +kernel
theorem dX11_share_14 : decode cX11_share 14 = .ok (.iload_n 2, 1) := by decide +kernel
theorem dX11_share_15 : decode cX11_share 15 = .ok (.iload_n 3, 1) := by decide +kernel
theorem dX11_share_16 : decode cX11_share 16 = .ok (.invokevirtual 280, 3) := by decide +kernel
theorem dX11_share_19 : decode cX11_share 19 = .ok (.ifCond .ne 6, 3) := by decide +kernel
theorem dX11_share_22 : decode cX11_share 22 = .ok (.ldc 190, 2) := by decide +kernel
theorem dX11_share_24 : decode cX11_share 24 = .ok (.ireturn, 1) := by decide +kernel
theorem dX11_share_25 : decode cX11_share 25 = .ok (.aload_n 0, 1) := by decide +kernel
theorem dX11_share_26 : decode cX11_share 26 = .ok (.getfield 71, 3) := by decide +kernel
theorem dX11_share_29 : decode cX11_share 29 = .ok (.getfield 292, 3) := by decide +kernel
theorem dX11_share_32 : decode cX11_share 32 = .ok (.ireturn, 1) := by decide +kernel
theorem dX11_areTwoGuests_0 : decode cX11_areTwoGuests 0 = .ok (.aload_n 0, 1) := by decide +kernel
theorem dX11_areTwoGuests_1 : decode cX11_areTwoGuests 1 = .ok (.getfield 16, 3) := by decide +kernel
theorem dX11_areTwoGuests_4 : decode cX11_areTwoGuests 4 = .ok (.iload_n 1, 1) := by decide +kernel
theorem dX11_areTwoGuests_5 : decode cX11_areTwoGuests 5 = .ok (.invokevirtual 171, 3) := by decide +kernel
theorem dX11_areTwoGuests_8 : decode cX11_areTwoGuests 8 = .ok (.ifCond .eq 23, 3) := by decide +kernel
theorem dX11_areTwoGuests_11 : decode cX11_areTwoGuests 11 = .ok (.aload_n 0, 1) := by decide +kernel
theorem dX11_areTwoGuests_12 : decode cX11_areTwoGuests 12 = .ok (.getfield 16, 3) := by decide +kernel
theorem dX11_areTwoGuests_15 : decode cX11_areTwoGuests 15 = .ok (.iload_n 2, 1) := by decide +kernel
theorem dX11_areTwoGuests_16 : decode cX11_areTwoGuests 16 = .ok (.invokevirtual 171, 3) := by decide +kernel
theorem dX11_areTwoGuests_19 : decode cX11_areTwoGuests 19 = .ok (.ifCond .eq 12, 3) := by decide +kernel
theorem dX11_areTwoGuests_22 : decode cX11_areTwoGuests 22 = .ok (.iload_n 1, 1) := by decide +kernel
theorem dX11_areTwoGuests_23 : decode cX11_areTwoGuests 23 = .ok (.iload_n 2, 1) := by decide +kernel
theorem dX11_areTwoGuests_24 : decode cX11_areTwoGuests 24 = .ok (.if_icmp .eq 7, 3) := by decide +kernel
theorem dX11_areTwoGuests_27 : decode cX11_areTwoGuests 27 = .ok (.iconst 1, 1) := by decide +kernel
theorem dX11_areTwoGuests_28 : decode cX11_areTwoGuests 28 = .ok (.goto 4, 3) := by decide +kernel
theorem dX11_areTwoGuests_31 : decode cX11_areTwoGuests 31 = .ok (.iconst 0, 1) := by decide +kernel
theorem dX11_areTwoGuests_32 : decode cX11_areTwoGuests 32 = .ok (.ireturn, 1) := by decide +kernel
theorem dX11_picks_0 : decode cX11_picks 0 = .ok (.aload_n 0, 1) := by decide +kernel
theorem dX11_picks_1 : decode cX11_picks 1 = .ok (.aload_n 0, 1) := by decide +kernel
theorem dX11_picks_2 : decode cX11_picks 2 = .ok (.getfield 16, 3) := by decide +kernel
theorem dX11_picks_5 : decode cX11_picks 5 = .ok (.getfield 257, 3) := by decide +kernel
theorem dX11_picks_8 : decode cX11_picks 8 = .ok (.putfield 122, 3) := by decide +kernel
theorem dX11_picks_11 : decode cX11_picks 11 = .ok (.aload_n 0, 1) := by decide +kernel
theorem dX11_picks_12 : decode cX11_picks 12 = .ok (.getfield 71, 3) := by decide +kernel
theorem dX11_picks_15 : decode cX11_picks 15 = .ok (.aload_n 0, 1) := by decide +kernel
theorem dX11_picks_16 : decode cX11_picks 16 = .ok (.getfield 91, 3) := by decide +kernel
theorem dX11_picks_19 : decode cX11_picks 19 = .ok (.invokevirtual 295, 3) := by decide +kernel
theorem dX11_picks_22 : decode cX11_picks 22 = .ok (.ireturn, 1) := by decide +kernel
theorem dX11_order_0 : decode cX11_order 0 = .ok (.aload_n 0, 1) := by decide +kernel
theorem dX11_order_1 : decode cX11_order 1 = .ok (.aload_n 0, 1) := by decide +kernel
theorem dX11_order_2 : decode cX11_order 2 = .ok (.getfield 71, 3) := by decide +kernel
theorem dX11_order_5 : decode cX11_order 5 = .ok (.aload_n 0, 1) := by decide +kernel
theorem dX11_order_6 : decode cX11_order 6 = .ok (.getfield 91, 3) := by decide +kernel
theorem dX11_order_9 : decode cX11_order 9 = .ok (.invokevirtual 299, 3) := by decide +kernel
theorem dX11_order_12 : decode cX11_order 12 = .ok (.putfield 122, 3) := by decide +kernel
theorem dX11_order_15 : decode cX11_order 15 = .ok (.aload_n 0, 1) := by decide +kernel
theorem dX11_order_16 : decode cX11_order 16 = .ok (.getfield 122, 3) := by decide +kernel
theorem dX11_order_19 : decode cX11_order 19 = .ok (.ifCond .ne 8, 3) := by decide +kernel
theorem dX11_order_22 : decode cX11_order 22 = .ok (.ldc 190, 2) := by decide +kernel
theorem dX11_order_24 : decode cX11_order 24 = .ok (.goto 10, 3) := by decide +kernel
theorem dX11_order_27 : decode cX11_order 27 = .ok (.aload_n 0, 1) := by decide +kernel
theorem dX11_order_28 : decode cX11_order 28 = .ok (.getfield 71, 3) := by decide +kernel
theorem dX11_order_31 : decode cX11_order 31 = .ok (.getfield 302, 3) := by decide +kernel
theorem dX11_order_34 : decode cX11_order 34 = .ok (.ireturn, 1) := by decide +kernel
theorem dX11_best_0 : decode cX11_best 0 = .ok (.aload_n 0, 1) := by decide +kernel
theorem dX11_best_1 : decode cX11_best 1 = .ok (.getfield 16, 3) := by decide +kernel
theorem dX11_best_4 : decode cX11_best 4 = .ok (.iload_n 1, 1) := by decide +kernel
theorem dX11_best_5 : decode cX11_best 5 = .ok (.invokevirtual 171, 3) := by decide +kernel
theorem dX11_best_8 : decode cX11_best 8 = .ok (.ifCond .ne 5, 3) := by decide +kernel
theorem dX11_best_11 : decode cX11_best 11 = .ok (.iconst (-1), 1) := by decide +kernel
theorem dX11_best_12 : decode cX11_best 12 = .ok (.ireturn, 1) := by decide +kernel
theorem dX11_best_13 : decode cX11_best 13 = .ok (.iconst (-1), 1) := by decide +kernel
theorem dX11_best_14 : decode cX11_best 14 = .ok (.istore_n 2, 1) := by decide +kernel
theorem dX11_best_15 : decode cX11_best 15 = .ok (.iconst 0, 1) := by decide +kernel
theorem dX11_best_16 : decode cX11_best 16 = .ok (.istore_n 3, 1) := by decide +kernel
theorem dX11_best_17 : decode cX11_best 17 = .ok (.iconst 0, 1) := by decide +kernel
theorem dX11_best_18 : decode cX11_best 18 = .ok (.istore 4, 2) := by decide +kernel
theorem dX11_best_20 : decode cX11_best 20 = .ok (.iload 4, 2) := by decide +kernel
theorem dX11_best_22 : decode cX11_best 22 = .ok (.aload_n 0, 1) := by decide +kernel
theorem dX11_best_23 : decode cX11_best 23 = .ok (.getfield 35, 3) := by decide +kernel
theorem dX11_best_26 : decode cX11_best 26 = .ok (.getfield 211, 3) := by decide +kernel
theorem dX11_best_29 : decode cX11_best 29 = .ok (.if_icmp .ge 51, 3) := by decide +kernel
theorem dX11_best_32 : decode cX11_best 32 = .ok (.aload_n 0, 1) := by decide +kernel
theorem dX11_best_33 : decode cX11_best 33 = .ok (.getfield 35, 3) := by decide +kernel
theorem dX11_best_36 : decode cX11_best 36 = .ok (.iload 4, 2) := by decide +kernel
theorem dX11_best_38 : decode cX11_best 38 = .ok (.invokevirtual 214, 3) := by decide +kernel
theorem dX11_best_41 : decode cX11_best 41 = .ok (.ifCond .eq 33, 3) := by decide +kernel
theorem dX11_best_44 : decode cX11_best 44 = .ok (.aload_n 0, 1) := by decide +kernel
theorem dX11_best_45 : decode cX11_best 45 = .ok (.getfield 48, 3) := by decide +kernel
theorem dX11_best_48 : decode cX11_best 48 = .ok (.iload_n 1, 1) := by decide +kernel
theorem dX11_best_49 : decode cX11_best 49 = .ok (.iload 4, 2) := by decide +kernel
theorem dX11_best_51 : decode cX11_best 51 = .ok (.iconst 0, 1) := by decide +kernel
theorem dX11_best_52 : decode cX11_best 52 = .ok (.invokevirtual 186, 3) := by decide +kernel
theorem dX11_best_55 : decode cX11_best 55 = .ok (.istore 5, 2) := by decide +kernel
theorem dX11_best_57 : decode cX11_best 57 = .ok (.iload_n 2, 1) := by decide +kernel
theorem dX11_best_58 : decode cX11_best 58 = .ok (.iconst (-1), 1) := by decide +kernel
theorem dX11_best_59 : decode cX11_best 59 = .ok (.if_icmp .eq 9, 3) := by decide +kernel
theorem dX11_best_62 : decode cX11_best 62 = .ok (.iload 5, 2) := by decide +kernel
theorem dX11_best_64 : decode cX11_best 64 = .ok (.iload_n 3, 1) := by decide +kernel
theorem dX11_best_65 : decode cX11_best 65 = .ok (.if_icmp .le 9, 3) := by decide +kernel
theorem dX11_best_68 : decode cX11_best 68 = .ok (.iload 4, 2) := by decide +kernel
theorem dX11_best_70 : decode cX11_best 70 = .ok (.istore_n 2, 1) := by decide +kernel
theorem dX11_best_71 : decode cX11_best 71 = .ok (.iload 5, 2) := by decide +kernel
theorem dX11_best_73 : decode cX11_best 73 = .ok (.istore_n 3, 1) := by decide +kernel
theorem dX11_best_74 : decode cX11_best 74 = .ok (.iinc 4 1, 3) := by decide +kernel
theorem dX11_best_77 : decode cX11_best 77 = .ok (.goto (-57), 3) := by decide +kernel
theorem dX11_best_80 : decode cX11_best 80 = .ok (.iload_n 2, 1) := by decide +kernel
theorem dX11_best_81 : decode cX11_best 81 = .ok (.ireturn, 1) := by decide +kernel
theorem dX11_lies_0 : decode cX11_lies 0 = .ok (.iload_n 1, 1) := by decide +kernel
theorem dX11_lies_1 : decode cX11_lies 1 = .ok (.ifCond .lt 20, 3) := by decide +kernel
theorem dX11_lies_4 : decode cX11_lies 4 = .ok (.iload_n 1, 1) := by decide +kernel
theorem dX11_lies_5 : decode cX11_lies 5 = .ok (.aload_n 0, 1) := by decide +kernel
theorem dX11_lies_6 : decode cX11_lies 6 = .ok (.getfield 122, 3) := by decide +kernel
theorem dX11_lies_9 : decode cX11_lies 9 = .ok (.if_icmp .ge 12, 3) := by decide +kernel
theorem dX11_lies_12 : decode cX11_lies 12 = .ok (.iload_n 1, 1) := by decide +kernel
theorem dX11_lies_13 : decode cX11_lies 13 = .ok (.aload_n 0, 1) := by decide +kernel
theorem dX11_lies_14 : decode cX11_lies 14 = .ok (.getfield 91, 3) := by decide +kernel
theorem dX11_lies_17 : decode cX11_lies 17 = .ok (.arraylength, 1) := by decide +kernel
theorem dX11_lies_18 : decode cX11_lies 18 = .ok (.if_icmp .lt 6, 3) := by decide +kernel
theorem dX11_lies_21 : decode cX11_lies 21 = .ok (.bipush (-2), 2) := by decide +kernel
theorem dX11_lies_23 : decode cX11_lies 23 = .ok (.ireturn, 1) := by decide +kernel
theorem dX11_lies_24 : decode cX11_lies 24 = .ok (.aload_n 0, 1) := by decide +kernel
theorem dX11_lies_25 : decode cX11_lies 25 = .ok (.getfield 91, 3) := by decide +kernel
theorem dX11_lies_28 : decode cX11_lies 28 = .ok (.iload_n 1, 1) := by decide +kernel
theorem dX11_lies_29 : decode cX11_lies 29 = .ok (.iaload, 1) := by decide +kernel
theorem dX11_lies_30 : decode cX11_lies 30 = .ok (.ireturn, 1) := by decide +kernel
theorem dX11_grid_0 : decode cX11_grid 0 = .ok (.aload_n 0, 1) := by decide +kernel
theorem dX11_grid_1 : decode cX11_grid 1 = .ok (.iload_n 1, 1) := by decide +kernel
theorem dX11_grid_2 : decode cX11_grid 2 = .ok (.iload_n 2, 1) := by decide +kernel
theorem dX11_grid_3 : decode cX11_grid 3 = .ok (.invokevirtual 305, 3) := by decide +kernel
theorem dX11_grid_6 : decode cX11_grid 6 = .ok (.ifCond .eq 32, 3) := by decide +kernel
theorem dX11_grid_9 : decode cX11_grid 9 = .ok (.aload_n 0, 1) := by decide +kernel
theorem dX11_grid_10 : decode cX11_grid 10 = .ok (.getfield 78, 3) := by decide +kernel
theorem dX11_grid_13 : decode cX11_grid 13 = .ok (.aload_n 0, 1) := by decide +kernel
theorem dX11_grid_14 : decode cX11_grid 14 = .ok (.getfield 16, 3) := by decide +kernel
theorem dX11_grid_17 : decode cX11_grid 17 = .ok (.getfield 308, 3) := by decide +kernel
theorem dX11_grid_20 : decode cX11_grid 20 = .ok (.iload_n 1, 1) := by decide +kernel
theorem dX11_grid_21 : decode cX11_grid 21 = .ok (.iaload, 1) := by decide +kernel
theorem dX11_grid_22 : decode cX11_grid 22 = .ok (.aload_n 0, 1) := by decide +kernel
theorem dX11_grid_23 : decode cX11_grid 23 = .ok (.getfield 16, 3) := by decide +kernel
theorem dX11_grid_26 : decode cX11_grid 26 = .ok (.getfield 311, 3) := by decide +kernel
theorem dX11_grid_29 : decode cX11_grid 29 = .ok (.iload_n 1, 1) := by decide +kernel
theorem dX11_grid_30 : decode cX11_grid 30 = .ok (.iaload, 1) := by decide +kernel
theorem dX11_grid_31 : decode cX11_grid 31 = .ok (.iload_n 2, 1) := by decide +kernel
theorem dX11_grid_32 : decode cX11_grid 32 = .ok (.invokevirtual 314, 3) := by decide +kernel
theorem dX11_grid_35 : decode cX11_grid 35 = .ok (.ifCond .ne 5, 3) := by decide +kernel
theorem dX11_grid_38 : decode cX11_grid 38 = .ok (.iconst (-1), 1) := by decide +kernel
theorem dX11_grid_39 : decode cX11_grid 39 = .ok (.ireturn, 1) := by decide +kernel
theorem dX11_grid_40 : decode cX11_grid 40 = .ok (.iload_n 3, 1) := by decide +kernel
theorem dX11_grid_41 : decode cX11_grid 41 = .ok (.tableswitch 63 0 3 #[31, 39, 47, 55], 31) := by decide +kernel
theorem dX11_grid_72 : decode cX11_grid 72 = .ok (.aload_n 0, 1) := by decide +kernel
theorem dX11_grid_73 : decode cX11_grid 73 = .ok (.getfield 78, 3) := by decide +kernel
theorem dX11_grid_76 : decode cX11_grid 76 = .ok (.getfield 317, 3) := by decide +kernel
theorem dX11_grid_79 : decode cX11_grid 79 = .ok (.ireturn, 1) := by decide +kernel
theorem dX11_grid_80 : decode cX11_grid 80 = .ok (.aload_n 0, 1) := by decide +kernel
theorem dX11_grid_81 : decode cX11_grid 81 = .ok (.getfield 78, 3) := by decide +kernel
theorem dX11_grid_84 : decode cX11_grid 84 = .ok (.getfield 320, 3) := by decide +kernel
theorem dX11_grid_87 : decode cX11_grid 87 = .ok (.ireturn, 1) := by decide +kernel
theorem dX11_grid_88 : decode cX11_grid 88 = .ok (.aload_n 0, 1) := by decide +kernel
theorem dX11_grid_89 : decode cX11_grid 89 = .ok (.getfield 78, 3) := by decide +kernel
theorem dX11_grid_92 : decode cX11_grid 92 = .ok (.getfield 323, 3) := by decide +kernel
theorem dX11_grid_95 : decode cX11_grid 95 = .ok (.ireturn, 1) := by decide +kernel
theorem dX11_grid_96 : decode cX11_grid 96 = .ok (.aload_n 0, 1) := by decide +kernel
theorem dX11_grid_97 : decode cX11_grid 97 = .ok (.getfield 78, 3) := by decide +kernel
theorem dX11_grid_100 : decode cX11_grid 100 = .ok (.getfield 326, 3) := by decide +kernel
theorem dX11_grid_103 : decode cX11_grid 103 = .ok (.ireturn, 1) := by decide +kernel
theorem dX11_grid_104 : decode cX11_grid 104 = .ok (.iconst (-1), 1) := by decide +kernel
theorem dX11_grid_105 : decode cX11_grid 105 = .ok (.ireturn, 1) := by decide +kernel
theorem dX11_ways_0 : decode cX11_ways 0 = .ok (.aload_n 0, 1) := by decide +kernel
theorem dX11_ways_1 : decode cX11_ways 1 = .ok (.iload_n 1, 1) := by decide +kernel
theorem dX11_ways_2 : decode cX11_ways 2 = .ok (.iload_n 2, 1) := by decide +kernel
theorem dX11_ways_3 : decode cX11_ways 3 = .ok (.invokevirtual 305, 3) := by decide +kernel
theorem dX11_ways_6 : decode cX11_ways 6 = .ok (.ifCond .ne 5, 3) := by decide +kernel
theorem dX11_ways_9 : decode cX11_ways 9 = .ok (.iconst (-1), 1) := by decide +kernel
theorem dX11_ways_10 : decode cX11_ways 10 = .ok (.ireturn, 1) := by decide +kernel
theorem dX11_ways_11 : decode cX11_ways 11 = .ok (.aload_n 0, 1) := by decide +kernel
theorem dX11_ways_12 : decode cX11_ways 12 = .ok (.getfield 78, 3) := by decide +kernel
theorem dX11_ways_15 : decode cX11_ways 15 = .ok (.aload_n 0, 1) := by decide +kernel
theorem dX11_ways_16 : decode cX11_ways 16 = .ok (.getfield 16, 3) := by decide +kernel
theorem dX11_ways_19 : decode cX11_ways 19 = .ok (.getfield 308, 3) := by decide +kernel
theorem dX11_ways_22 : decode cX11_ways 22 = .ok (.iload_n 1, 1) := by decide +kernel
theorem dX11_ways_23 : decode cX11_ways 23 = .ok (.iaload, 1) := by decide +kernel
theorem dX11_ways_24 : decode cX11_ways 24 = .ok (.aload_n 0, 1) := by decide +kernel
theorem dX11_ways_25 : decode cX11_ways 25 = .ok (.getfield 16, 3) := by decide +kernel
theorem dX11_ways_28 : decode cX11_ways 28 = .ok (.getfield 311, 3) := by decide +kernel
theorem dX11_ways_31 : decode cX11_ways 31 = .ok (.iload_n 1, 1) := by decide +kernel
theorem dX11_ways_32 : decode cX11_ways 32 = .ok (.iaload, 1) := by decide +kernel
theorem dX11_ways_33 : decode cX11_ways 33 = .ok (.iload_n 2, 1) := by decide +kernel
theorem dX11_ways_34 : decode cX11_ways 34 = .ok (.invokevirtual 314, 3) := by decide +kernel
theorem dX11_ways_37 : decode cX11_ways 37 = .ok (.ireturn, 1) := by decide +kernel
theorem dX11_canBeAlike_0 : decode cX11_canBeAlike 0 = .ok (.aload_n 0, 1) := by decide +kernel
theorem dX11_canBeAlike_1 : decode cX11_canBeAlike 1 = .ok (.getfield 16, 3) := by decide +kernel
theorem dX11_canBeAlike_4 : decode cX11_canBeAlike 4 = .ok (.iload_n 1, 1) := by decide +kernel
theorem dX11_canBeAlike_5 : decode cX11_canBeAlike 5 = .ok (.invokevirtual 329, 3) := by decide +kernel
theorem dX11_canBeAlike_8 : decode cX11_canBeAlike 8 = .ok (.ifCond .eq 18, 3) := by decide +kernel
theorem dX11_canBeAlike_11 : decode cX11_canBeAlike 11 = .ok (.iload_n 2, 1) := by decide +kernel
theorem dX11_canBeAlike_12 : decode cX11_canBeAlike 12 = .ok (.iconst 1, 1) := by decide +kernel
theorem dX11_canBeAlike_13 : decode cX11_canBeAlike 13 = .ok (.if_icmp .lt 13, 3) := by decide +kernel
theorem dX11_canBeAlike_16 : decode cX11_canBeAlike 16 = .ok (.iload_n 2, 1) := by decide +kernel
theorem dX11_canBeAlike_17 : decode cX11_canBeAlike 17 = .ok (.bipush 64, 2) := by decide +kernel
theorem dX11_canBeAlike_19 : decode cX11_canBeAlike 19 = .ok (.if_icmp .gt 7, 3) := by decide +kernel
theorem dX11_canBeAlike_22 : decode cX11_canBeAlike 22 = .ok (.iconst 1, 1) := by decide +kernel
theorem dX11_canBeAlike_23 : decode cX11_canBeAlike 23 = .ok (.goto 4, 3) := by decide +kernel
theorem dX11_canBeAlike_26 : decode cX11_canBeAlike 26 = .ok (.iconst 0, 1) := by decide +kernel
theorem dX11_canBeAlike_27 : decode cX11_canBeAlike 27 = .ok (.ireturn, 1) := by decide +kernel
theorem dX11_most_0 : decode cX11_most 0 = .ok (.aload_n 0, 1) := by decide +kernel
theorem dX11_most_1 : decode cX11_most 1 = .ok (.getfield 16, 3) := by decide +kernel
theorem dX11_most_4 : decode cX11_most 4 = .ok (.iload_n 1, 1) := by decide +kernel
theorem dX11_most_5 : decode cX11_most 5 = .ok (.invokevirtual 329, 3) := by decide +kernel
theorem dX11_most_8 : decode cX11_most 8 = .ok (.ifCond .eq 15, 3) := by decide +kernel
theorem dX11_most_11 : decode cX11_most 11 = .ok (.iload_n 2, 1) := by decide +kernel
theorem dX11_most_12 : decode cX11_most 12 = .ok (.iconst 1, 1) := by decide +kernel
theorem dX11_most_13 : decode cX11_most 13 = .ok (.if_icmp .lt 10, 3) := by decide +kernel
theorem dX11_most_16 : decode cX11_most 16 = .ok (.iload_n 2, 1) := by decide +kernel
theorem dX11_most_17 : decode cX11_most 17 = .ok (.sipush 999, 3) := by decide +kernel
theorem dX11_most_20 : decode cX11_most 20 = .ok (.if_icmp .le 5, 3) := by decide +kernel
theorem dX11_most_23 : decode cX11_most 23 = .ok (.iconst (-1), 1) := by decide +kernel
theorem dX11_most_24 : decode cX11_most 24 = .ok (.ireturn, 1) := by decide +kernel
theorem dX11_most_25 : decode cX11_most 25 = .ok (.aload_n 0, 1) := by decide +kernel
theorem dX11_most_26 : decode cX11_most 26 = .ok (.getfield 16, 3) := by decide +kernel
theorem dX11_most_29 : decode cX11_most 29 = .ok (.getfield 332, 3) := by decide +kernel
theorem dX11_most_32 : decode cX11_most 32 = .ok (.iload_n 1, 1) := by decide +kernel
theorem dX11_most_33 : decode cX11_most 33 = .ok (.iaload, 1) := by decide +kernel
theorem dX11_most_34 : decode cX11_most 34 = .ok (.istore_n 3, 1) := by decide +kernel
theorem dX11_most_35 : decode cX11_most 35 = .ok (.aload_n 0, 1) := by decide +kernel
theorem dX11_most_36 : decode cX11_most 36 = .ok (.getfield 16, 3) := by decide +kernel
theorem dX11_most_39 : decode cX11_most 39 = .ok (.getfield 308, 3) := by decide +kernel
theorem dX11_most_42 : decode cX11_most 42 = .ok (.iload_n 1, 1) := by decide +kernel
theorem dX11_most_43 : decode cX11_most 43 = .ok (.iaload, 1) := by decide +kernel
theorem dX11_most_44 : decode cX11_most 44 = .ok (.aload_n 0, 1) := by decide +kernel
theorem dX11_most_45 : decode cX11_most 45 = .ok (.getfield 16, 3) := by decide +kernel
theorem dX11_most_48 : decode cX11_most 48 = .ok (.getfield 311, 3) := by decide +kernel
theorem dX11_most_51 : decode cX11_most 51 = .ok (.iload_n 1, 1) := by decide +kernel
theorem dX11_most_52 : decode cX11_most 52 = .ok (.iaload, 1) := by decide +kernel
theorem dX11_most_53 : decode cX11_most 53 = .ok (.imul, 1) := by decide +kernel
theorem dX11_most_54 : decode cX11_most 54 = .ok (.istore 4, 2) := by decide +kernel
theorem dX11_most_56 : decode cX11_most 56 = .ok (.iload 4, 2) := by decide +kernel
theorem dX11_most_58 : decode cX11_most 58 = .ok (.istore 5, 2) := by decide +kernel
theorem dX11_most_60 : decode cX11_most 60 = .ok (.iload 5, 2) := by decide +kernel
theorem dX11_most_62 : decode cX11_most 62 = .ok (.iconst 1, 1) := by decide +kernel
theorem dX11_most_63 : decode cX11_most 63 = .ok (.if_icmp .lt 65, 3) := by decide +kernel
theorem dX11_most_66 : decode cX11_most 66 = .ok (.iload 4, 2) := by decide +kernel
theorem dX11_most_68 : decode cX11_most 68 = .ok (.iload 5, 2) := by decide +kernel
theorem dX11_most_70 : decode cX11_most 70 = .ok (.idiv, 1) := by decide +kernel
theorem dX11_most_71 : decode cX11_most 71 = .ok (.iload_n 3, 1) := by decide +kernel
theorem dX11_most_72 : decode cX11_most 72 = .ok (.imul, 1) := by decide +kernel
theorem dX11_most_73 : decode cX11_most 73 = .ok (.iload_n 2, 1) := by decide +kernel
theorem dX11_most_74 : decode cX11_most 74 = .ok (.if_icmp .lt 7, 3) := by decide +kernel
theorem dX11_most_77 : decode cX11_most 77 = .ok (.iconst 1, 1) := by decide +kernel
theorem dX11_most_78 : decode cX11_most 78 = .ok (.goto 4, 3) := by decide +kernel
theorem dX11_most_81 : decode cX11_most 81 = .ok (.iconst 0, 1) := by decide +kernel
theorem dX11_most_82 : decode cX11_most 82 = .ok (.istore 6, 2) := by decide +kernel
theorem dX11_most_84 : decode cX11_most 84 = .ok (.iload 6, 2) := by decide +kernel
theorem dX11_most_86 : decode cX11_most 86 = .ok (.ifCond .eq 36, 3) := by decide +kernel
theorem dX11_most_89 : decode cX11_most 89 = .ok (.aload_n 0, 1) := by decide +kernel
theorem dX11_most_90 : decode cX11_most 90 = .ok (.getfield 78, 3) := by decide +kernel
theorem dX11_most_93 : decode cX11_most 93 = .ok (.aload_n 0, 1) := by decide +kernel
theorem dX11_most_94 : decode cX11_most 94 = .ok (.getfield 16, 3) := by decide +kernel
theorem dX11_most_97 : decode cX11_most 97 = .ok (.getfield 308, 3) := by decide +kernel
theorem dX11_most_100 : decode cX11_most 100 = .ok (.iload_n 1, 1) := by decide +kernel
theorem dX11_most_101 : decode cX11_most 101 = .ok (.iaload, 1) := by decide +kernel
theorem dX11_most_102 : decode cX11_most 102 = .ok (.aload_n 0, 1) := by decide +kernel
theorem dX11_most_103 : decode cX11_most 103 = .ok (.getfield 16, 3) := by decide +kernel
theorem dX11_most_106 : decode cX11_most 106 = .ok (.getfield 311, 3) := by decide +kernel
theorem dX11_most_109 : decode cX11_most 109 = .ok (.iload_n 1, 1) := by decide +kernel
theorem dX11_most_110 : decode cX11_most 110 = .ok (.iaload, 1) := by decide +kernel
theorem dX11_most_111 : decode cX11_most 111 = .ok (.iload 5, 2) := by decide +kernel
theorem dX11_most_113 : decode cX11_most 113 = .ok (.invokevirtual 314, 3) := by decide +kernel
theorem dX11_most_116 : decode cX11_most 116 = .ok (.ifCond .le 6, 3) := by decide +kernel
theorem dX11_most_119 : decode cX11_most 119 = .ok (.iload 5, 2) := by decide +kernel
theorem dX11_most_121 : decode cX11_most 121 = .ok (.ireturn, 1) := by decide +kernel
theorem dX11_most_122 : decode cX11_most 122 = .ok (.iinc 5 (-1), 3) := by decide +kernel
theorem dX11_most_125 : decode cX11_most 125 = .ok (.goto (-65), 3) := by decide +kernel
theorem dX11_most_128 : decode cX11_most 128 = .ok (.iconst (-1), 1) := by decide +kernel
theorem dX11_most_129 : decode cX11_most 129 = .ok (.ireturn, 1) := by decide +kernel
theorem dX11_where_0 : decode cX11_where 0 = .ok (.iconst 0, 1) := by decide +kernel
theorem dX11_where_1 : decode cX11_where 1 = .ok (.istore 4, 2) := by decide +kernel
theorem dX11_where_3 : decode cX11_where 3 = .ok (.iload 4, 2) := by decide +kernel
theorem dX11_where_5 : decode cX11_where 5 = .ok (.aload_n 0, 1) := by decide +kernel
theorem dX11_where_6 : decode cX11_where 6 = .ok (.getfield 35, 3) := by decide +kernel
theorem dX11_where_9 : decode cX11_where 9 = .ok (.getfield 211, 3) := by decide +kernel
theorem dX11_where_12 : decode cX11_where 12 = .ok (.if_icmp .ge 31, 3) := by decide +kernel
theorem dX11_where_15 : decode cX11_where 15 = .ok (.aload_n 0, 1) := by decide +kernel
theorem dX11_where_16 : decode cX11_where 16 = .ok (.getfield 35, 3) := by decide +kernel
theorem dX11_where_19 : decode cX11_where 19 = .ok (.getfield 137, 3) := by decide +kernel
theorem dX11_where_22 : decode cX11_where 22 = .ok (.iload 4, 2) := by decide +kernel
theorem dX11_where_24 : decode cX11_where 24 = .ok (.aaload, 1) := by decide +kernel
theorem dX11_where_25 : decode cX11_where 25 = .ok (.iload_n 1, 1) := by decide +kernel
theorem dX11_where_26 : decode cX11_where 26 = .ok (.iload_n 2, 1) := by decide +kernel
theorem dX11_where_27 : decode cX11_where 27 = .ok (.iload_n 3, 1) := by decide +kernel
theorem dX11_where_28 : decode cX11_where 28 = .ok (.invokevirtual 335, 3) := by decide +kernel
theorem dX11_where_31 : decode cX11_where 31 = .ok (.ifCond .eq 6, 3) := by decide +kernel
theorem dX11_where_34 : decode cX11_where 34 = .ok (.iload 4, 2) := by decide +kernel
theorem dX11_where_36 : decode cX11_where 36 = .ok (.ireturn, 1) := by decide +kernel
theorem dX11_where_37 : decode cX11_where 37 = .ok (.iinc 4 1, 3) := by decide +kernel
theorem dX11_where_40 : decode cX11_where 40 = .ok (.goto (-37), 3) := by decide +kernel
theorem dX11_where_43 : decode cX11_where 43 = .ok (.iconst (-1), 1) := by decide +kernel
theorem dX11_where_44 : decode cX11_where 44 = .ok (.ireturn, 1) := by decide +kernel
theorem dX11_left_0 : decode cX11_left 0 = .ok (.iconst 0, 1) := by decide +kernel
theorem dX11_left_1 : decode cX11_left 1 = .ok (.istore_n 1, 1) := by decide +kernel
theorem dX11_left_2 : decode cX11_left 2 = .ok (.iconst 0, 1) := by decide +kernel
theorem dX11_left_3 : decode cX11_left 3 = .ok (.istore_n 2, 1) := by decide +kernel
theorem dX11_left_4 : decode cX11_left 4 = .ok (.iload_n 2, 1) := by decide +kernel
theorem dX11_left_5 : decode cX11_left 5 = .ok (.aload_n 0, 1) := by decide +kernel
theorem dX11_left_6 : decode cX11_left 6 = .ok (.getfield 35, 3) := by decide +kernel
theorem dX11_left_9 : decode cX11_left 9 = .ok (.getfield 211, 3) := by decide +kernel
theorem dX11_left_12 : decode cX11_left 12 = .ok (.if_icmp .ge 39, 3) := by decide +kernel
theorem dX11_left_15 : decode cX11_left 15 = .ok (.aload_n 0, 1) := by decide +kernel
theorem dX11_left_16 : decode cX11_left 16 = .ok (.getfield 35, 3) := by decide +kernel
theorem dX11_left_19 : decode cX11_left 19 = .ok (.iload_n 2, 1) := by decide +kernel
theorem dX11_left_20 : decode cX11_left 20 = .ok (.invokevirtual 214, 3) := by decide +kernel
theorem dX11_left_23 : decode cX11_left 23 = .ok (.ifCond .eq 22, 3) := by decide +kernel
theorem dX11_left_26 : decode cX11_left 26 = .ok (.iload_n 1, 1) := by decide +kernel
theorem dX11_left_27 : decode cX11_left 27 = .ok (.aload_n 0, 1) := by decide +kernel
theorem dX11_left_28 : decode cX11_left 28 = .ok (.getfield 16, 3) := by decide +kernel
theorem dX11_left_31 : decode cX11_left 31 = .ok (.aload_n 0, 1) := by decide +kernel
theorem dX11_left_32 : decode cX11_left 32 = .ok (.getfield 35, 3) := by decide +kernel
theorem dX11_left_35 : decode cX11_left 35 = .ok (.getfield 137, 3) := by decide +kernel
theorem dX11_left_38 : decode cX11_left 38 = .ok (.iload_n 2, 1) := by decide +kernel
theorem dX11_left_39 : decode cX11_left 39 = .ok (.aaload, 1) := by decide +kernel
theorem dX11_left_40 : decode cX11_left 40 = .ok (.invokevirtual 158, 3) := by decide +kernel
theorem dX11_left_43 : decode cX11_left 43 = .ok (.iadd, 1) := by decide +kernel
theorem dX11_left_44 : decode cX11_left 44 = .ok (.istore_n 1, 1) := by decide +kernel
theorem dX11_left_45 : decode cX11_left 45 = .ok (.iinc 2 1, 3) := by decide +kernel
theorem dX11_left_48 : decode cX11_left 48 = .ok (.goto (-44), 3) := by decide +kernel
theorem dX11_left_51 : decode cX11_left 51 = .ok (.iload_n 1, 1) := by decide +kernel
theorem dX11_left_52 : decode cX11_left 52 = .ok (.ireturn, 1) := by decide +kernel
theorem dX11_iced_0 : decode cX11_iced 0 = .ok (.iload_n 1, 1) := by decide +kernel
theorem dX11_iced_1 : decode cX11_iced 1 = .ok (.ifCond .lt 9, 3) := by decide +kernel
theorem dX11_iced_4 : decode cX11_iced 4 = .ok (.iload_n 1, 1) := by decide +kernel
theorem dX11_iced_5 : decode cX11_iced 5 = .ok (.bipush 32, 2) := by decide +kernel
theorem dX11_iced_7 : decode cX11_iced 7 = .ok (.if_icmp .le 5, 3) := by decide +kernel
theorem dX11_iced_10 : decode cX11_iced 10 = .ok (.iconst (-1), 1) := by decide +kernel
theorem dX11_iced_11 : decode cX11_iced 11 = .ok (.ireturn, 1) := by decide +kernel
theorem dX11_iced_12 : decode cX11_iced 12 = .ok (.iconst 0, 1) := by decide +kernel
theorem dX11_iced_13 : decode cX11_iced 13 = .ok (.istore_n 2, 1) := by decide +kernel
theorem dX11_iced_14 : decode cX11_iced 14 = .ok (.iconst 0, 1) := by decide +kernel
theorem dX11_iced_15 : decode cX11_iced 15 = .ok (.istore_n 3, 1) := by decide +kernel
theorem dX11_iced_16 : decode cX11_iced 16 = .ok (.iload_n 3, 1) := by decide +kernel
theorem dX11_iced_17 : decode cX11_iced 17 = .ok (.aload_n 0, 1) := by decide +kernel
theorem dX11_iced_18 : decode cX11_iced 18 = .ok (.getfield 35, 3) := by decide +kernel
theorem dX11_iced_21 : decode cX11_iced 21 = .ok (.getfield 211, 3) := by decide +kernel
theorem dX11_iced_24 : decode cX11_iced 24 = .ok (.if_icmp .ge 46, 3) := by decide +kernel
theorem dX11_iced_27 : decode cX11_iced 27 = .ok (.aload_n 0, 1) := by decide +kernel
theorem dX11_iced_28 : decode cX11_iced 28 = .ok (.getfield 35, 3) := by decide +kernel
theorem dX11_iced_31 : decode cX11_iced 31 = .ok (.iload_n 3, 1) := by decide +kernel
theorem dX11_iced_32 : decode cX11_iced 32 = .ok (.invokevirtual 214, 3) := by decide +kernel
theorem dX11_iced_35 : decode cX11_iced 35 = .ok (.ifCond .eq 29, 3) := by decide +kernel
theorem dX11_iced_38 : decode cX11_iced 38 = .ok (.aload_n 0, 1) := by decide +kernel
theorem dX11_iced_39 : decode cX11_iced 39 = .ok (.getfield 16, 3) := by decide +kernel
theorem dX11_iced_42 : decode cX11_iced 42 = .ok (.aload_n 0, 1) := by decide +kernel
theorem dX11_iced_43 : decode cX11_iced 43 = .ok (.getfield 35, 3) := by decide +kernel
theorem dX11_iced_46 : decode cX11_iced 46 = .ok (.getfield 137, 3) := by decide +kernel
theorem dX11_iced_49 : decode cX11_iced 49 = .ok (.iload_n 3, 1) := by decide +kernel
theorem dX11_iced_50 : decode cX11_iced 50 = .ok (.aaload, 1) := by decide +kernel
theorem dX11_iced_51 : decode cX11_iced 51 = .ok (.invokevirtual 162, 3) := by decide +kernel
theorem dX11_iced_54 : decode cX11_iced 54 = .ok (.iload_n 1, 1) := by decide +kernel
theorem dX11_iced_55 : decode cX11_iced 55 = .ok (.if_icmp .lt 9, 3) := by decide +kernel
theorem dX11_iced_58 : decode cX11_iced 58 = .ok (.iload_n 2, 1) := by decide +kernel
theorem dX11_iced_59 : decode cX11_iced 59 = .ok (.iconst 1, 1) := by decide +kernel
theorem dX11_iced_60 : decode cX11_iced 60 = .ok (.iload_n 3, 1) := by decide +kernel
theorem dX11_iced_61 : decode cX11_iced 61 = .ok (.ishl, 1) := by decide +kernel
theorem dX11_iced_62 : decode cX11_iced 62 = .ok (.ior, 1) := by decide +kernel
theorem dX11_iced_63 : decode cX11_iced 63 = .ok (.istore_n 2, 1) := by decide +kernel
theorem dX11_iced_64 : decode cX11_iced 64 = .ok (.iinc 3 1, 3) := by decide +kernel
theorem dX11_iced_67 : decode cX11_iced 67 = .ok (.goto (-51), 3) := by decide +kernel
theorem dX11_iced_70 : decode cX11_iced 70 = .ok (.iload_n 2, 1) := by decide +kernel
theorem dX11_iced_71 : decode cX11_iced 71 = .ok (.ireturn, 1) := by decide +kernel
theorem dX11_come_0 : decode cX11_come 0 = .ok (.iload_n 1, 1) := by decide +kernel
theorem dX11_come_1 : decode cX11_come 1 = .ok (.ifCond .lt 33, 3) := by decide +kernel
theorem dX11_come_4 : decode cX11_come 4 = .ok (.iload_n 1, 1) := by decide +kernel
theorem dX11_come_5 : decode cX11_come 5 = .ok (.iconst 1, 1) := by decide +kernel
theorem dX11_come_6 : decode cX11_come 6 = .ok (.aload_n 0, 1) := by decide +kernel
theorem dX11_come_7 : decode cX11_come 7 = .ok (.getfield 16, 3) := by decide +kernel
theorem dX11_come_10 : decode cX11_come 10 = .ok (.getfield 257, 3) := by decide +kernel
theorem dX11_come_13 : decode cX11_come 13 = .ok (.ishl, 1) := by decide +kernel
theorem dX11_come_14 : decode cX11_come 14 = .ok (.if_icmp .ge 20, 3) := by decide +kernel
theorem dX11_come_17 : decode cX11_come 17 = .ok (.iload_n 1, 1) := by decide +kernel
theorem dX11_come_18 : decode cX11_come 18 = .ok (.invokestatic 263, 3) := by decide +kernel
theorem dX11_come_21 : decode cX11_come 21 = .ok (.iconst 4, 1) := by decide +kernel
theorem dX11_come_22 : decode cX11_come 22 = .ok (.if_icmp .gt 12, 3) := by decide +kernel
theorem dX11_come_25 : decode cX11_come 25 = .ok (.iload_n 2, 1) := by decide +kernel
theorem dX11_come_26 : decode cX11_come 26 = .ok (.ifCond .lt 8, 3) := by decide +kernel
theorem dX11_come_29 : decode cX11_come 29 = .ok (.iload_n 2, 1) := by decide +kernel
theorem dX11_come_30 : decode cX11_come 30 = .ok (.iconst 1, 1) := by decide +kernel
theorem dX11_come_31 : decode cX11_come 31 = .ok (.if_icmp .le 5, 3) := by decide +kernel
theorem dX11_come_34 : decode cX11_come 34 = .ok (.iconst (-1), 1) := by decide +kernel
theorem dX11_come_35 : decode cX11_come 35 = .ok (.ireturn, 1) := by decide +kernel
theorem dX11_come_36 : decode cX11_come 36 = .ok (.iconst 1, 1) := by decide +kernel
theorem dX11_come_37 : decode cX11_come 37 = .ok (.istore_n 3, 1) := by decide +kernel
theorem dX11_come_38 : decode cX11_come 38 = .ok (.iconst 1, 1) := by decide +kernel
theorem dX11_come_39 : decode cX11_come 39 = .ok (.istore 4, 2) := by decide +kernel
theorem dX11_come_41 : decode cX11_come 41 = .ok (.iconst 0, 1) := by decide +kernel
theorem dX11_come_42 : decode cX11_come 42 = .ok (.istore 5, 2) := by decide +kernel
theorem dX11_come_44 : decode cX11_come 44 = .ok (.iload 5, 2) := by decide +kernel
theorem dX11_come_46 : decode cX11_come 46 = .ok (.aload_n 0, 1) := by decide +kernel
theorem dX11_come_47 : decode cX11_come 47 = .ok (.getfield 16, 3) := by decide +kernel
theorem dX11_come_50 : decode cX11_come 50 = .ok (.getfield 257, 3) := by decide +kernel
theorem dX11_come_53 : decode cX11_come 53 = .ok (.if_icmp .ge 39, 3) := by decide +kernel
theorem dX11_come_56 : decode cX11_come 56 = .ok (.iload_n 1, 1) := by decide +kernel
theorem dX11_come_57 : decode cX11_come 57 = .ok (.iload 5, 2) := by decide +kernel
theorem dX11_come_59 : decode cX11_come 59 = .ok (.ishr, 1) := by decide +kernel
theorem dX11_come_60 : decode cX11_come 60 = .ok (.iconst 1, 1) := by decide +kernel
theorem dX11_come_61 : decode cX11_come 61 = .ok (.iand, 1) := by decide +kernel
theorem dX11_come_62 : decode cX11_come 62 = .ok (.iconst 1, 1) := by decide +kernel
theorem dX11_come_63 : decode cX11_come 63 = .ok (.if_icmp .ne 23, 3) := by decide +kernel
theorem dX11_come_66 : decode cX11_come 66 = .ok (.iload_n 3, 1) := by decide +kernel
theorem dX11_come_67 : decode cX11_come 67 = .ok (.aload_n 0, 1) := by decide +kernel
theorem dX11_come_68 : decode cX11_come 68 = .ok (.getfield 16, 3) := by decide +kernel
theorem dX11_come_71 : decode cX11_come 71 = .ok (.getfield 180, 3) := by decide +kernel
theorem dX11_come_74 : decode cX11_come 74 = .ok (.iload 5, 2) := by decide +kernel
theorem dX11_come_76 : decode cX11_come 76 = .ok (.iaload, 1) := by decide +kernel
theorem dX11_come_77 : decode cX11_come 77 = .ok (.imul, 1) := by decide +kernel
theorem dX11_come_78 : decode cX11_come 78 = .ok (.istore_n 3, 1) := by decide +kernel
theorem dX11_come_79 : decode cX11_come 79 = .ok (.iload 4, 2) := by decide +kernel
theorem dX11_come_81 : decode cX11_come 81 = .ok (.bipush 100, 2) := by decide +kernel
theorem dX11_come_83 : decode cX11_come 83 = .ok (.imul, 1) := by decide +kernel
theorem dX11_come_84 : decode cX11_come 84 = .ok (.istore 4, 2) := by decide +kernel
theorem dX11_come_86 : decode cX11_come 86 = .ok (.iinc 5 1, 3) := by decide +kernel
theorem dX11_come_89 : decode cX11_come 89 = .ok (.goto (-45), 3) := by decide +kernel
theorem dX11_come_92 : decode cX11_come 92 = .ok (.iload_n 3, 1) := by decide +kernel
theorem dX11_come_93 : decode cX11_come 93 = .ok (.iload 4, 2) := by decide +kernel
theorem dX11_come_95 : decode cX11_come 95 = .ok (.invokestatic 338, 3) := by decide +kernel
theorem dX11_come_98 : decode cX11_come 98 = .ok (.istore 5, 2) := by decide +kernel
theorem dX11_come_100 : decode cX11_come 100 = .ok (.iload 5, 2) := by decide +kernel
theorem dX11_come_102 : decode cX11_come 102 = .ok (.ifCond .ne 5, 3) := by decide +kernel
theorem dX11_come_105 : decode cX11_come 105 = .ok (.iconst (-1), 1) := by decide +kernel
theorem dX11_come_106 : decode cX11_come 106 = .ok (.ireturn, 1) := by decide +kernel
theorem dX11_come_107 : decode cX11_come 107 = .ok (.iload_n 2, 1) := by decide +kernel
theorem dX11_come_108 : decode cX11_come 108 = .ok (.ifCond .ne 10, 3) := by decide +kernel
theorem dX11_come_111 : decode cX11_come 111 = .ok (.iload_n 3, 1) := by decide +kernel
theorem dX11_come_112 : decode cX11_come 112 = .ok (.iload 5, 2) := by decide +kernel
theorem dX11_come_114 : decode cX11_come 114 = .ok (.idiv, 1) := by decide +kernel
theorem dX11_come_115 : decode cX11_come 115 = .ok (.goto 8, 3) := by decide +kernel
theorem dX11_come_118 : decode cX11_come 118 = .ok (.iload 4, 2) := by decide +kernel
theorem dX11_come_120 : decode cX11_come 120 = .ok (.iload 5, 2) := by decide +kernel
theorem dX11_come_122 : decode cX11_come 122 = .ok (.idiv, 1) := by decide +kernel
theorem dX11_come_123 : decode cX11_come 123 = .ok (.ireturn, 1) := by decide +kernel
theorem dX11_commonDivisor_0 : decode cX11_commonDivisor 0 = .ok (.iload_n 0, 1) := by decide +kernel
theorem dX11_commonDivisor_1 : decode cX11_commonDivisor 1 = .ok (.istore_n 2, 1) := by decide +kernel
theorem dX11_commonDivisor_2 : decode cX11_commonDivisor 2 = .ok (.iload_n 1, 1) := by decide +kernel
theorem dX11_commonDivisor_3 : decode cX11_commonDivisor 3 = .ok (.istore_n 3, 1) := by decide +kernel
theorem dX11_commonDivisor_4 : decode cX11_commonDivisor 4 = .ok (.iconst 0, 1) := by decide +kernel
theorem dX11_commonDivisor_5 : decode cX11_commonDivisor 5 = .ok (.istore 4, 2) := by decide +kernel
theorem dX11_commonDivisor_7 : decode cX11_commonDivisor 7 = .ok (.iload 4, 2) := by decide +kernel
theorem dX11_commonDivisor_9 : decode cX11_commonDivisor 9 = .ok (.bipush 64, 2) := by decide +kernel
theorem dX11_commonDivisor_11 : decode cX11_commonDivisor 11 = .ok (.if_icmp .ge 23, 3) := by decide +kernel
theorem dX11_commonDivisor_14 : decode cX11_commonDivisor 14 = .ok (.iload_n 3, 1) := by decide +kernel
theorem dX11_commonDivisor_15 : decode cX11_commonDivisor 15 = .ok (.ifCond .eq 19, 3) := by decide +kernel
theorem dX11_commonDivisor_18 : decode cX11_commonDivisor 18 = .ok (.iload_n 2, 1) := by decide +kernel
theorem dX11_commonDivisor_19 : decode cX11_commonDivisor 19 = .ok (.iload_n 3, 1) := by decide +kernel
theorem dX11_commonDivisor_20 : decode cX11_commonDivisor 20 = .ok (.irem, 1) := by decide +kernel
theorem dX11_commonDivisor_21 : decode cX11_commonDivisor 21 = .ok (.istore 5, 2) := by decide +kernel
theorem dX11_commonDivisor_23 : decode cX11_commonDivisor 23 = .ok (.iload_n 3, 1) := by decide +kernel
theorem dX11_commonDivisor_24 : decode cX11_commonDivisor 24 = .ok (.istore_n 2, 1) := by decide +kernel
theorem dX11_commonDivisor_25 : decode cX11_commonDivisor 25 = .ok (.iload 5, 2) := by decide +kernel
theorem dX11_commonDivisor_27 : decode cX11_commonDivisor 27 = .ok (.istore_n 3, 1) := by decide +kernel
theorem dX11_commonDivisor_28 : decode cX11_commonDivisor 28 = .ok (.iinc 4 1, 3) := by decide +kernel
theorem dX11_commonDivisor_31 : decode cX11_commonDivisor 31 = .ok (.goto (-24), 3) := by decide +kernel
theorem dX11_commonDivisor_34 : decode cX11_commonDivisor 34 = .ok (.iload_n 2, 1) := by decide +kernel
theorem dX11_commonDivisor_35 : decode cX11_commonDivisor 35 = .ok (.ireturn, 1) := by decide +kernel
theorem dX11_sized_0 : decode cX11_sized 0 = .ok (.iload_n 1, 1) := by decide +kernel
theorem dX11_sized_1 : decode cX11_sized 1 = .ok (.iconst 1, 1) := by decide +kernel
theorem dX11_sized_2 : decode cX11_sized 2 = .ok (.if_icmp .lt 9, 3) := by decide +kernel
theorem dX11_sized_5 : decode cX11_sized 5 = .ok (.iload_n 1, 1) := by decide +kernel
theorem dX11_sized_6 : decode cX11_sized 6 = .ok (.bipush 64, 2) := by decide +kernel
theorem dX11_sized_8 : decode cX11_sized 8 = .ok (.if_icmp .le 5, 3) := by decide +kernel
theorem dX11_sized_11 : decode cX11_sized 11 = .ok (.iconst (-1), 1) := by decide +kernel
theorem dX11_sized_12 : decode cX11_sized 12 = .ok (.ireturn, 1) := by decide +kernel
theorem dX11_sized_13 : decode cX11_sized 13 = .ok (.aload_n 0, 1) := by decide +kernel
theorem dX11_sized_14 : decode cX11_sized 14 = .ok (.getfield 87, 3) := by decide +kernel
theorem dX11_sized_17 : decode cX11_sized 17 = .ok (.iconst 0, 1) := by decide +kernel
theorem dX11_sized_18 : decode cX11_sized 18 = .ok (.iload_n 1, 1) := by decide +kernel
theorem dX11_sized_19 : decode cX11_sized 19 = .ok (.iload_n 2, 1) := by decide +kernel
theorem dX11_sized_20 : decode cX11_sized 20 = .ok (.invokevirtual 341, 3) := by decide +kernel
theorem dX11_sized_23 : decode cX11_sized 23 = .ok (.ireturn, 1) := by decide +kernel
theorem dX11_rimmed_0 : decode cX11_rimmed 0 = .ok (.iload_n 1, 1) := by decide +kernel
theorem dX11_rimmed_1 : decode cX11_rimmed 1 = .ok (.ifCond .lt 9, 3) := by decide +kernel
theorem dX11_rimmed_4 : decode cX11_rimmed 4 = .ok (.iload_n 1, 1) := by decide +kernel
theorem dX11_rimmed_5 : decode cX11_rimmed 5 = .ok (.bipush 32, 2) := by decide +kernel
theorem dX11_rimmed_7 : decode cX11_rimmed 7 = .ok (.if_icmp .le 5, 3) := by decide +kernel
theorem dX11_rimmed_10 : decode cX11_rimmed 10 = .ok (.iconst (-1), 1) := by decide +kernel
theorem dX11_rimmed_11 : decode cX11_rimmed 11 = .ok (.ireturn, 1) := by decide +kernel
theorem dX11_rimmed_12 : decode cX11_rimmed 12 = .ok (.aload_n 0, 1) := by decide +kernel
theorem dX11_rimmed_13 : decode cX11_rimmed 13 = .ok (.getfield 87, 3) := by decide +kernel
theorem dX11_rimmed_16 : decode cX11_rimmed 16 = .ok (.iconst 1, 1) := by decide +kernel
theorem dX11_rimmed_17 : decode cX11_rimmed 17 = .ok (.iload_n 1, 1) := by decide +kernel
theorem dX11_rimmed_18 : decode cX11_rimmed 18 = .ok (.iload_n 2, 1) := by decide +kernel
theorem dX11_rimmed_19 : decode cX11_rimmed 19 = .ok (.invokevirtual 341, 3) := by decide +kernel
theorem dX11_rimmed_22 : decode cX11_rimmed 22 = .ok (.ireturn, 1) := by decide +kernel
theorem dX11_untell_0 : decode cX11_untell 0 = .ok (.aload_n 0, 1) := by decide +kernel
theorem dX11_untell_1 : decode cX11_untell 1 = .ok (.getfield 87, 3) := by decide +kernel
theorem dX11_untell_4 : decode cX11_untell 4 = .ok (.iload_n 1, 1) := by decide +kernel
theorem dX11_untell_5 : decode cX11_untell 5 = .ok (.invokevirtual 345, 3) := by decide +kernel
theorem dX11_untell_8 : decode cX11_untell 8 = .ok (.ireturn, 1) := by decide +kernel
theorem dX11_later_0 : decode cX11_later 0 = .ok (.aload_n 0, 1) := by decide +kernel
theorem dX11_later_1 : decode cX11_later 1 = .ok (.getfield 87, 3) := by decide +kernel
theorem dX11_later_4 : decode cX11_later 4 = .ok (.iload_n 1, 1) := by decide +kernel
theorem dX11_later_5 : decode cX11_later 5 = .ok (.invokevirtual 348, 3) := by decide +kernel
theorem dX11_later_8 : decode cX11_later 8 = .ok (.ireturn, 1) := by decide +kernel
theorem dX11_fits_0 : decode cX11_fits 0 = .ok (.aload_n 0, 1) := by decide +kernel
theorem dX11_fits_1 : decode cX11_fits 1 = .ok (.getfield 87, 3) := by decide +kernel
theorem dX11_fits_4 : decode cX11_fits 4 = .ok (.iload_n 1, 1) := by decide +kernel
theorem dX11_fits_5 : decode cX11_fits 5 = .ok (.invokevirtual 351, 3) := by decide +kernel
theorem dX11_fits_8 : decode cX11_fits 8 = .ok (.ireturn, 1) := by decide +kernel
theorem dX11_sure_0 : decode cX11_sure 0 = .ok (.iload_n 1, 1) := by decide +kernel
theorem dX11_sure_1 : decode cX11_sure 1 = .ok (.ifCond .lt 19, 3) := by decide +kernel
theorem dX11_sure_4 : decode cX11_sure 4 = .ok (.iload_n 1, 1) := by decide +kernel
theorem dX11_sure_5 : decode cX11_sure 5 = .ok (.iconst 1, 1) := by decide +kernel
theorem dX11_sure_6 : decode cX11_sure 6 = .ok (.if_icmp .gt 14, 3) := by decide +kernel
theorem dX11_sure_9 : decode cX11_sure 9 = .ok (.aload_n 0, 1) := by decide +kernel
theorem dX11_sure_10 : decode cX11_sure 10 = .ok (.getfield 87, 3) := by decide +kernel
theorem dX11_sure_13 : decode cX11_sure 13 = .ok (.iload_n 2, 1) := by decide +kernel
theorem dX11_sure_14 : decode cX11_sure 14 = .ok (.invokevirtual 351, 3) := by decide +kernel
theorem dX11_sure_17 : decode cX11_sure 17 = .ok (.ifCond .ne 5, 3) := by decide +kernel
theorem dX11_sure_20 : decode cX11_sure 20 = .ok (.iconst (-1), 1) := by decide +kernel
theorem dX11_sure_21 : decode cX11_sure 21 = .ok (.ireturn, 1) := by decide +kernel
theorem dX11_sure_22 : decode cX11_sure 22 = .ok (.aload_n 0, 1) := by decide +kernel
theorem dX11_sure_23 : decode cX11_sure 23 = .ok (.getfield 87, 3) := by decide +kernel
theorem dX11_sure_26 : decode cX11_sure 26 = .ok (.iload_n 1, 1) := by decide +kernel
theorem dX11_sure_27 : decode cX11_sure 27 = .ok (.ifCond .ne 13, 3) := by decide +kernel
theorem dX11_sure_30 : decode cX11_sure 30 = .ok (.aload_n 0, 1) := by decide +kernel
theorem dX11_sure_31 : decode cX11_sure 31 = .ok (.getfield 87, 3) := by decide +kernel
theorem dX11_sure_34 : decode cX11_sure 34 = .ok (.getfield 354, 3) := by decide +kernel
theorem dX11_sure_37 : decode cX11_sure 37 = .ok (.goto 10, 3) := by decide +kernel
theorem dX11_sure_40 : decode cX11_sure 40 = .ok (.aload_n 0, 1) := by decide +kernel
theorem dX11_sure_41 : decode cX11_sure 41 = .ok (.getfield 87, 3) := by decide +kernel
theorem dX11_sure_44 : decode cX11_sure 44 = .ok (.getfield 357, 3) := by decide +kernel
theorem dX11_sure_47 : decode cX11_sure 47 = .ok (.invokevirtual 360, 3) := by decide +kernel
theorem dX11_sure_50 : decode cX11_sure 50 = .ok (.ireturn, 1) := by decide +kernel
theorem dX11_ask_0 : decode cX11_ask 0 = .ok (.iload_n 1, 1) := by decide +kernel
theorem dX11_ask_1 : decode cX11_ask 1 = .ok (.ifCond .lt 19, 3) := by decide +kernel
theorem dX11_ask_4 : decode cX11_ask 4 = .ok (.iload_n 1, 1) := by decide +kernel
theorem dX11_ask_5 : decode cX11_ask 5 = .ok (.iconst 1, 1) := by decide +kernel
theorem dX11_ask_6 : decode cX11_ask 6 = .ok (.if_icmp .gt 14, 3) := by decide +kernel
theorem dX11_ask_9 : decode cX11_ask 9 = .ok (.aload_n 0, 1) := by decide +kernel
theorem dX11_ask_10 : decode cX11_ask 10 = .ok (.getfield 87, 3) := by decide +kernel
theorem dX11_ask_13 : decode cX11_ask 13 = .ok (.iload_n 2, 1) := by decide +kernel
theorem dX11_ask_14 : decode cX11_ask 14 = .ok (.invokevirtual 351, 3) := by decide +kernel
theorem dX11_ask_17 : decode cX11_ask 17 = .ok (.ifCond .ne 5, 3) := by decide +kernel
theorem dX11_ask_20 : decode cX11_ask 20 = .ok (.iconst (-1), 1) := by decide +kernel
theorem dX11_ask_21 : decode cX11_ask 21 = .ok (.ireturn, 1) := by decide +kernel
theorem dX11_ask_22 : decode cX11_ask 22 = .ok (.aload_n 0, 1) := by decide +kernel
theorem dX11_ask_23 : decode cX11_ask 23 = .ok (.getfield 87, 3) := by decide +kernel
theorem dX11_ask_26 : decode cX11_ask 26 = .ok (.invokevirtual 363, 3) := by decide +kernel
theorem dX11_ask_29 : decode cX11_ask 29 = .ok (.iload_n 1, 1) := by decide +kernel
theorem dX11_ask_30 : decode cX11_ask 30 = .ok (.ifCond .ne 13, 3) := by decide +kernel
theorem dX11_ask_33 : decode cX11_ask 33 = .ok (.aload_n 0, 1) := by decide +kernel
theorem dX11_ask_34 : decode cX11_ask 34 = .ok (.getfield 87, 3) := by decide +kernel
theorem dX11_ask_37 : decode cX11_ask 37 = .ok (.getfield 366, 3) := by decide +kernel
theorem dX11_ask_40 : decode cX11_ask 40 = .ok (.goto 10, 3) := by decide +kernel
theorem dX11_ask_43 : decode cX11_ask 43 = .ok (.aload_n 0, 1) := by decide +kernel
theorem dX11_ask_44 : decode cX11_ask 44 = .ok (.getfield 87, 3) := by decide +kernel
theorem dX11_ask_47 : decode cX11_ask 47 = .ok (.getfield 369, 3) := by decide +kernel
theorem dX11_ask_50 : decode cX11_ask 50 = .ok (.ireturn, 1) := by decide +kernel
theorem dX11_image_0 : decode cX11_image 0 = .ok (.iload_n 1, 1) := by decide +kernel
theorem dX11_image_1 : decode cX11_image 1 = .ok (.ifCond .lt 12, 3) := by decide +kernel
theorem dX11_image_4 : decode cX11_image 4 = .ok (.iload_n 1, 1) := by decide +kernel
theorem dX11_image_5 : decode cX11_image 5 = .ok (.aload_n 0, 1) := by decide +kernel
theorem dX11_image_6 : decode cX11_image 6 = .ok (.getfield 39, 3) := by decide +kernel
theorem dX11_image_9 : decode cX11_image 9 = .ok (.arraylength, 1) := by decide +kernel
theorem dX11_image_10 : decode cX11_image 10 = .ok (.if_icmp .lt 5, 3) := by decide +kernel
theorem dX11_image_13 : decode cX11_image 13 = .ok (.iconst (-1), 1) := by decide +kernel
theorem dX11_image_14 : decode cX11_image 14 = .ok (.ireturn, 1) := by decide +kernel
theorem dX11_image_15 : decode cX11_image 15 = .ok (.aload_n 0, 1) := by decide +kernel
theorem dX11_image_16 : decode cX11_image 16 = .ok (.getfield 39, 3) := by decide +kernel
theorem dX11_image_19 : decode cX11_image 19 = .ok (.iload_n 1, 1) := by decide +kernel
theorem dX11_image_20 : decode cX11_image 20 = .ok (.aaload, 1) := by decide +kernel
theorem dX11_image_21 : decode cX11_image 21 = .ok (.aload_n 0, 1) := by decide +kernel
theorem dX11_image_22 : decode cX11_image 22 = .ok (.getfield 35, 3) := by decide +kernel
theorem dX11_image_25 : decode cX11_image 25 = .ok (.invokevirtual 372, 3) := by decide +kernel
theorem dX11_image_28 : decode cX11_image 28 = .ok (.aload_n 0, 1) := by decide +kernel
theorem dX11_image_29 : decode cX11_image 29 = .ok (.getfield 39, 3) := by decide +kernel
theorem dX11_image_32 : decode cX11_image 32 = .ok (.iload_n 1, 1) := by decide +kernel
theorem dX11_image_33 : decode cX11_image 33 = .ok (.aaload, 1) := by decide +kernel
theorem dX11_image_34 : decode cX11_image 34 = .ok (.iconst 1, 1) := by decide +kernel
theorem dX11_image_35 : decode cX11_image 35 = .ok (.putfield 114, 3) := by decide +kernel
theorem dX11_image_38 : decode cX11_image 38 = .ok (.aload_n 0, 1) := by decide +kernel
theorem dX11_image_39 : decode cX11_image 39 = .ok (.getfield 35, 3) := by decide +kernel
theorem dX11_image_42 : decode cX11_image 42 = .ok (.getfield 211, 3) := by decide +kernel
theorem dX11_image_45 : decode cX11_image 45 = .ok (.ireturn, 1) := by decide +kernel
theorem dX11_restore_0 : decode cX11_restore 0 = .ok (.iload_n 1, 1) := by decide +kernel
theorem dX11_restore_1 : decode cX11_restore 1 = .ok (.ifCond .lt 24, 3) := by decide +kernel
theorem dX11_restore_4 : decode cX11_restore 4 = .ok (.iload_n 1, 1) := by decide +kernel
theorem dX11_restore_5 : decode cX11_restore 5 = .ok (.aload_n 0, 1) := by decide +kernel
theorem dX11_restore_6 : decode cX11_restore 6 = .ok (.getfield 39, 3) := by decide +kernel
theorem dX11_restore_9 : decode cX11_restore 9 = .ok (.arraylength, 1) := by decide +kernel
theorem dX11_restore_10 : decode cX11_restore 10 = .ok (.if_icmp .ge 15, 3) := by decide +kernel
theorem dX11_restore_13 : decode cX11_restore 13 = .ok (.aload_n 0, 1) := by decide +kernel
theorem dX11_restore_14 : decode cX11_restore 14 = .ok (.getfield 39, 3) := by decide +kernel
theorem dX11_restore_17 : decode cX11_restore 17 = .ok (.iload_n 1, 1) := by decide +kernel
theorem dX11_restore_18 : decode cX11_restore 18 = .ok (.aaload, 1) := by decide +kernel
theorem dX11_restore_19 : decode cX11_restore 19 = .ok (.getfield 114, 3) := by decide +kernel
theorem dX11_restore_22 : decode cX11_restore 22 = .ok (.ifCond .ne 5, 3) := by decide +kernel
theorem dX11_restore_25 : decode cX11_restore 25 = .ok (.iconst (-1), 1) := by decide +kernel
theorem dX11_restore_26 : decode cX11_restore 26 = .ok (.ireturn, 1) := by decide +kernel
theorem dX11_restore_27 : decode cX11_restore 27 = .ok (.aload_n 0, 1) := by decide +kernel
theorem dX11_restore_28 : decode cX11_restore 28 = .ok (.getfield 35, 3) := by decide +kernel
theorem dX11_restore_31 : decode cX11_restore 31 = .ok (.aload_n 0, 1) := by decide +kernel
theorem dX11_restore_32 : decode cX11_restore 32 = .ok (.getfield 39, 3) := by decide +kernel
theorem dX11_restore_35 : decode cX11_restore 35 = .ok (.iload_n 1, 1) := by decide +kernel
theorem dX11_restore_36 : decode cX11_restore 36 = .ok (.aaload, 1) := by decide +kernel
theorem dX11_restore_37 : decode cX11_restore 37 = .ok (.invokevirtual 372, 3) := by decide +kernel
theorem dX11_restore_40 : decode cX11_restore 40 = .ok (.aload_n 0, 1) := by decide +kernel
theorem dX11_restore_41 : decode cX11_restore 41 = .ok (.getfield 57, 3) := by decide +kernel
theorem dX11_restore_44 : decode cX11_restore 44 = .ok (.invokevirtual 118, 3) := by decide +kernel
theorem dX11_restore_47 : decode cX11_restore 47 = .ok (.aload_n 0, 1) := by decide +kernel
theorem dX11_restore_48 : decode cX11_restore 48 = .ok (.getfield 35, 3) := by decide +kernel
theorem dX11_restore_51 : decode cX11_restore 51 = .ok (.getfield 211, 3) := by decide +kernel
theorem dX11_restore_54 : decode cX11_restore 54 = .ok (.ireturn, 1) := by decide +kernel
theorem dX11_about_0 : decode cX11_about 0 = .ok (.iload_n 1, 1) := by decide +kernel
theorem dX11_about_1 : decode cX11_about 1 = .ok (.tableswitch 187 0 12 #[67, 75, 83, 91, 99, 107, 115, 123, 139, 147, 155, 160, 182], 67) := by decide +kernel
theorem dX11_about_68 : decode cX11_about 68 = .ok (.aload_n 0, 1) := by decide +kernel
theorem dX11_about_69 : decode cX11_about 69 = .ok (.getfield 16, 3) := by decide +kernel
theorem dX11_about_72 : decode cX11_about 72 = .ok (.getfield 125, 3) := by decide +kernel
theorem dX11_about_75 : decode cX11_about 75 = .ok (.ireturn, 1) := by decide +kernel
theorem dX11_about_76 : decode cX11_about 76 = .ok (.aload_n 0, 1) := by decide +kernel
theorem dX11_about_77 : decode cX11_about 77 = .ok (.getfield 16, 3) := by decide +kernel
theorem dX11_about_80 : decode cX11_about 80 = .ok (.getfield 257, 3) := by decide +kernel
theorem dX11_about_83 : decode cX11_about 83 = .ok (.ireturn, 1) := by decide +kernel
theorem dX11_about_84 : decode cX11_about 84 = .ok (.aload_n 0, 1) := by decide +kernel
theorem dX11_about_85 : decode cX11_about 85 = .ok (.getfield 35, 3) := by decide +kernel
theorem dX11_about_88 : decode cX11_about 88 = .ok (.getfield 211, 3) := by decide +kernel
theorem dX11_about_91 : decode cX11_about 91 = .ok (.ireturn, 1) := by decide +kernel
theorem dX11_about_92 : decode cX11_about 92 = .ok (.aload_n 0, 1) := by decide +kernel
theorem dX11_about_93 : decode cX11_about 93 = .ok (.getfield 35, 3) := by decide +kernel
theorem dX11_about_96 : decode cX11_about 96 = .ok (.getfield 375, 3) := by decide +kernel
theorem dX11_about_99 : decode cX11_about 99 = .ok (.ireturn, 1) := by decide +kernel
theorem dX11_about_100 : decode cX11_about 100 = .ok (.aload_n 0, 1) := by decide +kernel
theorem dX11_about_101 : decode cX11_about 101 = .ok (.getfield 35, 3) := by decide +kernel
theorem dX11_about_104 : decode cX11_about 104 = .ok (.getfield 378, 3) := by decide +kernel
theorem dX11_about_107 : decode cX11_about 107 = .ok (.ireturn, 1) := by decide +kernel
theorem dX11_about_108 : decode cX11_about 108 = .ok (.aload_n 0, 1) := by decide +kernel
theorem dX11_about_109 : decode cX11_about 109 = .ok (.getfield 35, 3) := by decide +kernel
theorem dX11_about_112 : decode cX11_about 112 = .ok (.invokevirtual 381, 3) := by decide +kernel
theorem dX11_about_115 : decode cX11_about 115 = .ok (.ireturn, 1) := by decide +kernel
theorem dX11_about_116 : decode cX11_about 116 = .ok (.aload_n 0, 1) := by decide +kernel
theorem dX11_about_117 : decode cX11_about 117 = .ok (.getfield 57, 3) := by decide +kernel
theorem dX11_about_120 : decode cX11_about 120 = .ok (.getfield 384, 3) := by decide +kernel
theorem dX11_about_123 : decode cX11_about 123 = .ok (.ireturn, 1) := by decide +kernel
theorem dX11_about_124 : decode cX11_about 124 = .ok (.aload_n 0, 1) := by decide +kernel
theorem dX11_about_125 : decode cX11_about 125 = .ok (.getfield 57, 3) := by decide +kernel
theorem dX11_about_128 : decode cX11_about 128 = .ok (.getfield 387, 3) := by decide +kernel
theorem dX11_about_131 : decode cX11_about 131 = .ok (.aload_n 0, 1) := by decide +kernel
theorem dX11_about_132 : decode cX11_about 132 = .ok (.getfield 57, 3) := by decide +kernel
theorem dX11_about_135 : decode cX11_about 135 = .ok (.getfield 384, 3) := by decide +kernel
theorem dX11_about_138 : decode cX11_about 138 = .ok (.isub, 1) := by decide +kernel
theorem dX11_about_139 : decode cX11_about 139 = .ok (.ireturn, 1) := by decide +kernel
theorem dX11_about_140 : decode cX11_about 140 = .ok (.aload_n 0, 1) := by decide +kernel
theorem dX11_about_141 : decode cX11_about 141 = .ok (.getfield 87, 3) := by decide +kernel
theorem dX11_about_144 : decode cX11_about 144 = .ok (.getfield 390, 3) := by decide +kernel
theorem dX11_about_147 : decode cX11_about 147 = .ok (.ireturn, 1) := by decide +kernel
theorem dX11_about_148 : decode cX11_about 148 = .ok (.aload_n 0, 1) := by decide +kernel
theorem dX11_about_149 : decode cX11_about 149 = .ok (.getfield 87, 3) := by decide +kernel
theorem dX11_about_152 : decode cX11_about 152 = .ok (.getfield 391, 3) := by decide +kernel
theorem dX11_about_155 : decode cX11_about 155 = .ok (.ireturn, 1) := by decide +kernel
theorem dX11_about_156 : decode cX11_about 156 = .ok (.aload_n 0, 1) := by decide +kernel
theorem dX11_about_157 : decode cX11_about 157 = .ok (.getfield 95, 3) := by decide +kernel
theorem dX11_about_160 : decode cX11_about 160 = .ok (.ireturn, 1) := by decide +kernel
theorem dX11_about_161 : decode cX11_about 161 = .ok (.aload_n 0, 1) := by decide +kernel
theorem dX11_about_162 : decode cX11_about 162 = .ok (.getfield 16, 3) := by decide +kernel
theorem dX11_about_165 : decode cX11_about 165 = .ok (.getfield 394, 3) := by decide +kernel
theorem dX11_about_168 : decode cX11_about 168 = .ok (.getfield 398, 3) := by decide +kernel
theorem dX11_about_171 : decode cX11_about 171 = .ok (.aload_n 0, 1) := by decide +kernel
theorem dX11_about_172 : decode cX11_about 172 = .ok (.getfield 16, 3) := by decide +kernel
theorem dX11_about_175 : decode cX11_about 175 = .ok (.getfield 403, 3) := by decide +kernel
theorem dX11_about_178 : decode cX11_about 178 = .ok (.getfield 398, 3) := by decide +kernel
theorem dX11_about_181 : decode cX11_about 181 = .ok (.iadd, 1) := by decide +kernel
theorem dX11_about_182 : decode cX11_about 182 = .ok (.ireturn, 1) := by decide +kernel
theorem dX11_about_183 : decode cX11_about 183 = .ok (.aload_n 0, 1) := by decide +kernel
theorem dX11_about_184 : decode cX11_about 184 = .ok (.getfield 122, 3) := by decide +kernel
theorem dX11_about_187 : decode cX11_about 187 = .ok (.ireturn, 1) := by decide +kernel
theorem dX11_about_188 : decode cX11_about 188 = .ok (.iconst (-1), 1) := by decide +kernel
theorem dX11_about_189 : decode cX11_about 189 = .ok (.ireturn, 1) := by decide +kernel
theorem dJ6_bitCount_0f7a4_0 : decode cJ6_bitCount_0f7a4 0 = .ok (.iload_n 0, 1) := by decide +kernel
theorem dJ6_bitCount_0f7a4_1 : decode cJ6_bitCount_0f7a4 1 = .ok (.iload_n 0, 1) := by decide +kernel
theorem dJ6_bitCount_0f7a4_2 : decode cJ6_bitCount_0f7a4 2 = .ok (.iconst 1, 1) := by decide +kernel
theorem dJ6_bitCount_0f7a4_3 : decode cJ6_bitCount_0f7a4 3 = .ok (.iushr, 1) := by decide +kernel
theorem dJ6_bitCount_0f7a4_4 : decode cJ6_bitCount_0f7a4 4 = .ok (.ldc_w 265, 3) := by decide +kernel
theorem dJ6_bitCount_0f7a4_7 : decode cJ6_bitCount_0f7a4 7 = .ok (.iand, 1) := by decide +kernel
theorem dJ6_bitCount_0f7a4_8 : decode cJ6_bitCount_0f7a4 8 = .ok (.isub, 1) := by decide +kernel
theorem dJ6_bitCount_0f7a4_9 : decode cJ6_bitCount_0f7a4 9 = .ok (.istore_n 0, 1) := by decide +kernel
theorem dJ6_bitCount_0f7a4_10 : decode cJ6_bitCount_0f7a4 10 = .ok (.iload_n 0, 1) := by decide +kernel
theorem dJ6_bitCount_0f7a4_11 : decode cJ6_bitCount_0f7a4 11 = .ok (.ldc_w 266, 3) := by decide +kernel
theorem dJ6_bitCount_0f7a4_14 : decode cJ6_bitCount_0f7a4 14 = .ok (.iand, 1) := by decide +kernel
theorem dJ6_bitCount_0f7a4_15 : decode cJ6_bitCount_0f7a4 15 = .ok (.iload_n 0, 1) := by decide +kernel
theorem dJ6_bitCount_0f7a4_16 : decode cJ6_bitCount_0f7a4 16 = .ok (.iconst 2, 1) := by decide +kernel
theorem dJ6_bitCount_0f7a4_17 : decode cJ6_bitCount_0f7a4 17 = .ok (.iushr, 1) := by decide +kernel
theorem dJ6_bitCount_0f7a4_18 : decode cJ6_bitCount_0f7a4 18 = .ok (.ldc_w 266, 3) := by decide +kernel
theorem dJ6_bitCount_0f7a4_21 : decode cJ6_bitCount_0f7a4 21 = .ok (.iand, 1) := by decide +kernel
theorem dJ6_bitCount_0f7a4_22 : decode cJ6_bitCount_0f7a4 22 = .ok (.iadd, 1) := by decide +kernel
theorem dJ6_bitCount_0f7a4_23 : decode cJ6_bitCount_0f7a4 23 = .ok (.istore_n 0, 1) := by decide +kernel
theorem dJ6_bitCount_0f7a4_24 : decode cJ6_bitCount_0f7a4 24 = .ok (.iload_n 0, 1) := by decide +kernel
theorem dJ6_bitCount_0f7a4_25 : decode cJ6_bitCount_0f7a4 25 = .ok (.iload_n 0, 1) := by decide +kernel
theorem dJ6_bitCount_0f7a4_26 : decode cJ6_bitCount_0f7a4 26 = .ok (.iconst 4, 1) := by decide +kernel
theorem dJ6_bitCount_0f7a4_27 : decode cJ6_bitCount_0f7a4 27 = .ok (.iushr, 1) := by decide +kernel
theorem dJ6_bitCount_0f7a4_28 : decode cJ6_bitCount_0f7a4 28 = .ok (.iadd, 1) := by decide +kernel
theorem dJ6_bitCount_0f7a4_29 : decode cJ6_bitCount_0f7a4 29 = .ok (.ldc_w 267, 3) := by decide +kernel
theorem dJ6_bitCount_0f7a4_32 : decode cJ6_bitCount_0f7a4 32 = .ok (.iand, 1) := by decide +kernel
theorem dJ6_bitCount_0f7a4_33 : decode cJ6_bitCount_0f7a4 33 = .ok (.istore_n 0, 1) := by decide +kernel
theorem dJ6_bitCount_0f7a4_34 : decode cJ6_bitCount_0f7a4 34 = .ok (.iload_n 0, 1) := by decide +kernel
theorem dJ6_bitCount_0f7a4_35 : decode cJ6_bitCount_0f7a4 35 = .ok (.iload_n 0, 1) := by decide +kernel
theorem dJ6_bitCount_0f7a4_36 : decode cJ6_bitCount_0f7a4 36 = .ok (.bipush 8, 2) := by decide +kernel
theorem dJ6_bitCount_0f7a4_38 : decode cJ6_bitCount_0f7a4 38 = .ok (.iushr, 1) := by decide +kernel
theorem dJ6_bitCount_0f7a4_39 : decode cJ6_bitCount_0f7a4 39 = .ok (.iadd, 1) := by decide +kernel
theorem dJ6_bitCount_0f7a4_40 : decode cJ6_bitCount_0f7a4 40 = .ok (.istore_n 0, 1) := by decide +kernel
theorem dJ6_bitCount_0f7a4_41 : decode cJ6_bitCount_0f7a4 41 = .ok (.iload_n 0, 1) := by decide +kernel
theorem dJ6_bitCount_0f7a4_42 : decode cJ6_bitCount_0f7a4 42 = .ok (.iload_n 0, 1) := by decide +kernel
theorem dJ6_bitCount_0f7a4_43 : decode cJ6_bitCount_0f7a4 43 = .ok (.bipush 16, 2) := by decide +kernel
theorem dJ6_bitCount_0f7a4_45 : decode cJ6_bitCount_0f7a4 45 = .ok (.iushr, 1) := by decide +kernel
theorem dJ6_bitCount_0f7a4_46 : decode cJ6_bitCount_0f7a4 46 = .ok (.iadd, 1) := by decide +kernel
theorem dJ6_bitCount_0f7a4_47 : decode cJ6_bitCount_0f7a4 47 = .ok (.istore_n 0, 1) := by decide +kernel
theorem dJ6_bitCount_0f7a4_48 : decode cJ6_bitCount_0f7a4 48 = .ok (.iload_n 0, 1) := by decide +kernel
theorem dJ6_bitCount_0f7a4_49 : decode cJ6_bitCount_0f7a4 49 = .ok (.bipush 63, 2) := by decide +kernel
theorem dJ6_bitCount_0f7a4_51 : decode cJ6_bitCount_0f7a4 51 = .ok (.iand, 1) := by decide +kernel
theorem dJ6_bitCount_0f7a4_52 : decode cJ6_bitCount_0f7a4 52 = .ok (.ireturn, 1) := by decide +kernel
theorem dX12_init_0 : decode cX12_init 0 = .ok (.aload_n 0, 1) := by decide +kernel
theorem dX12_init_1 : decode cX12_init 1 = .ok (.invokespecial 1, 3) := by decide +kernel
theorem dX12_init_4 : decode cX12_init 4 = .ok (.aload_n 0, 1) := by decide +kernel
theorem dX12_init_5 : decode cX12_init 5 = .ok (.sipush 1600, 3) := by decide +kernel
theorem dX12_init_8 : decode cX12_init 8 = .ok (.newarray .int, 2) := by decide +kernel
theorem dX12_init_10 : decode cX12_init 10 = .ok (.putfield 7, 3) := by decide +kernel
theorem dX12_init_13 : decode cX12_init 13 = .ok (.aload_n 0, 1) := by decide +kernel
theorem dX12_init_14 : decode cX12_init 14 = .ok (.iconst (-1), 1) := by decide +kernel
theorem dX12_init_15 : decode cX12_init 15 = .ok (.putfield 13, 3) := by decide +kernel
theorem dX12_init_18 : decode cX12_init 18 = .ok (.aload_n 0, 1) := by decide +kernel
theorem dX12_init_19 : decode cX12_init 19 = .ok (.bipush 9, 2) := by decide +kernel
theorem dX12_init_21 : decode cX12_init 21 = .ok (.newarray .long, 2) := by decide +kernel
theorem dX12_init_23 : decode cX12_init 23 = .ok (.putfield 17, 3) := by decide +kernel
theorem dX12_init_26 : decode cX12_init 26 = .ok (.aload_n 0, 1) := by decide +kernel
theorem dX12_init_27 : decode cX12_init 27 = .ok (.sipush 640, 3) := by decide +kernel
theorem dX12_init_30 : decode cX12_init 30 = .ok (.newarray .int, 2) := by decide +kernel
theorem dX12_init_32 : decode cX12_init 32 = .ok (.putfield 21, 3) := by decide +kernel
theorem dX12_init_35 : decode cX12_init 35 = .ok (.aload_n 0, 1) := by decide +kernel
theorem dX12_init_36 : decode cX12_init 36 = .ok (.sipush 640, 3) := by decide +kernel
theorem dX12_init_39 : decode cX12_init 39 = .ok (.newarray .int, 2) := by decide +kernel
theorem dX12_init_41 : decode cX12_init 41 = .ok (.putfield 24, 3) := by decide +kernel
theorem dX12_init_44 : decode cX12_init 44 = .ok (.aload_n 0, 1) := by decide +kernel
theorem dX12_init_45 : decode cX12_init 45 = .ok (.iconst 2, 1) := by decide +kernel
theorem dX12_init_46 : decode cX12_init 46 = .ok (.newarray .int, 2) := by decide +kernel
theorem dX12_init_48 : decode cX12_init 48 = .ok (.putfield 27, 3) := by decide +kernel
theorem dX12_init_51 : decode cX12_init 51 = .ok (.aload_n 0, 1) := by decide +kernel
theorem dX12_init_52 : decode cX12_init 52 = .ok (.sipush 640, 3) := by decide +kernel
theorem dX12_init_55 : decode cX12_init 55 = .ok (.newarray .int, 2) := by decide +kernel
theorem dX12_init_57 : decode cX12_init 57 = .ok (.putfield 30, 3) := by decide +kernel
theorem dX12_init_60 : decode cX12_init 60 = .ok (.aload_n 0, 1) := by decide +kernel
theorem dX12_init_61 : decode cX12_init 61 = .ok (.sipush 640, 3) := by decide +kernel
theorem dX12_init_64 : decode cX12_init 64 = .ok (.newarray .int, 2) := by decide +kernel
theorem dX12_init_66 : decode cX12_init 66 = .ok (.putfield 33, 3) := by decide +kernel
theorem dX12_init_69 : decode cX12_init 69 = .ok (.aload_n 0, 1) := by decide +kernel
theorem dX12_init_70 : decode cX12_init 70 = .ok (.iconst 2, 1) := by decide +kernel
theorem dX12_init_71 : decode cX12_init 71 = .ok (.newarray .int, 2) := by decide +kernel
theorem dX12_init_73 : decode cX12_init 73 = .ok (.putfield 36, 3) := by decide +kernel
theorem dX12_init_76 : decode cX12_init 76 = .ok (.aload_n 0, 1) := by decide +kernel
theorem dX12_init_77 : decode cX12_init 77 = .ok (.sipush 160, 3) := by decide +kernel
theorem dX12_init_80 : decode cX12_init 80 = .ok (.newarray .int, 2) := by decide +kernel
theorem dX12_init_82 : decode cX12_init 82 = .ok (.putfield 39, 3) := by decide +kernel
theorem dX12_init_85 : decode cX12_init 85 = .ok (.aload_n 0, 1) := by decide +kernel
theorem dX12_init_86 : decode cX12_init 86 = .ok (.bipush 64, 2) := by decide +kernel
theorem dX12_init_88 : decode cX12_init 88 = .ok (.newarray .int, 2) := by decide +kernel
theorem dX12_init_90 : decode cX12_init 90 = .ok (.putfield 42, 3) := by decide +kernel
theorem dX12_init_93 : decode cX12_init 93 = .ok (.aload_n 0, 1) := by decide +kernel
theorem dX12_init_94 : decode cX12_init 94 = .ok (.iconst 2, 1) := by decide +kernel
theorem dX12_init_95 : decode cX12_init 95 = .ok (.newarray .boolean, 2) := by decide +kernel
theorem dX12_init_97 : decode cX12_init 97 = .ok (.putfield 45, 3) := by decide +kernel
theorem dX12_init_100 : decode cX12_init 100 = .ok (.aload_n 0, 1) := by decide +kernel
theorem dX12_init_101 : decode cX12_init 101 = .ok (.bipush 6, 2) := by decide +kernel
theorem dX12_init_103 : decode cX12_init 103 = .ok (.newarray .int, 2) := by decide +kernel
theorem dX12_init_105 : decode cX12_init 105 = .ok (.putfield 49, 3) := by decide +kernel
theorem dX12_init_108 : decode cX12_init 108 = .ok (.aload_n 0, 1) := by decide +kernel
theorem dX12_init_109 : decode cX12_init 109 = .ok (.iconst 3, 1) := by decide +kernel
theorem dX12_init_110 : decode cX12_init 110 = .ok (.newarray .int, 2) := by decide +kernel
theorem dX12_init_112 : decode cX12_init 112 = .ok (.putfield 52, 3) := by decide +kernel
theorem dX12_init_115 : decode cX12_init 115 = .ok (.aload_n 0, 1) := by decide +kernel
theorem dX12_init_116 : decode cX12_init 116 = .ok (.iconst 3, 1) := by decide +kernel
theorem dX12_init_117 : decode cX12_init 117 = .ok (.newarray .int, 2) := by decide +kernel
theorem dX12_init_119 : decode cX12_init 119 = .ok (.putfield 55, 3) := by decide +kernel
theorem dX12_init_122 : decode cX12_init 122 = .ok (.aload_n 0, 1) := by decide +kernel
theorem dX12_init_123 : decode cX12_init 123 = .ok (.iconst 3, 1) := by decide +kernel
theorem dX12_init_124 : decode cX12_init 124 = .ok (.newarray .int, 2) := by decide +kernel
theorem dX12_init_126 : decode cX12_init 126 = .ok (.putfield 58, 3) := by decide +kernel
theorem dX12_init_129 : decode cX12_init 129 = .ok (.aload_n 0, 1) := by decide +kernel
theorem dX12_init_130 : decode cX12_init 130 = .ok (.iconst 3, 1) := by decide +kernel
theorem dX12_init_131 : decode cX12_init 131 = .ok (.newarray .int, 2) := by decide +kernel
theorem dX12_init_133 : decode cX12_init 133 = .ok (.putfield 61, 3) := by decide +kernel
theorem dX12_init_136 : decode cX12_init 136 = .ok (.aload_n 0, 1) := by decide +kernel
theorem dX12_init_137 : decode cX12_init 137 = .ok (.iconst 3, 1) := by decide +kernel
theorem dX12_init_138 : decode cX12_init 138 = .ok (.newarray .int, 2) := by decide +kernel
theorem dX12_init_140 : decode cX12_init 140 = .ok (.putfield 64, 3) := by decide +kernel
theorem dX12_init_143 : decode cX12_init 143 = .ok (.aload_n 0, 1) := by decide +kernel
theorem dX12_init_144 : decode cX12_init 144 = .ok (.iconst 3, 1) := by decide +kernel
theorem dX12_init_145 : decode cX12_init 145 = .ok (.newarray .int, 2) := by decide +kernel
theorem dX12_init_147 : decode cX12_init 147 = .ok (.putfield 67, 3) := by decide +kernel
theorem dX12_init_150 : decode cX12_init 150 = .ok (.aload_n 0, 1) := by decide +kernel
theorem dX12_init_151 : decode cX12_init 151 = .ok (.bipush 6, 2) := by decide +kernel
theorem dX12_init_153 : decode cX12_init 153 = .ok (.newarray .int, 2) := by decide +kernel
theorem dX12_init_155 : decode cX12_init 155 = .ok (.putfield 70, 3) := by decide +kernel
theorem dX12_init_158 : decode cX12_init 158 = .ok (.aload_n 0, 1) := by decide +kernel
theorem dX12_init_159 : decode cX12_init 159 = .ok (.bipush 6, 2) := by decide +kernel
theorem dX12_init_161 : decode cX12_init 161 = .ok (.newarray .int, 2) := by decide +kernel
theorem dX12_init_163 : decode cX12_init 163 = .ok (.putfield 73, 3) := by decide +kernel
theorem dX12_init_166 : decode cX12_init 166 = .ok (.aload_n 0, 1) := by decide +kernel
theorem dX12_init_167 : decode cX12_init 167 = .ok (.bipush 6, 2) := by decide +kernel
theorem dX12_init_169 : decode cX12_init 169 = .ok (.newarray .int, 2) := by decide +kernel
theorem dX12_init_171 : decode cX12_init 171 = .ok (.putfield 76, 3) := by decide +kernel
theorem dX12_init_174 : decode cX12_init 174 = .ok (.aload_n 0, 1) := by decide +kernel
theorem dX12_init_175 : decode cX12_init 175 = .ok (.bipush 6, 2) := by decide +kernel
theorem dX12_init_177 : decode cX12_init 177 = .ok (.newarray .int, 2) := by decide +kernel
theorem dX12_init_179 : decode cX12_init 179 = .ok (.putfield 79, 3) := by decide +kernel
theorem dX12_init_182 : decode cX12_init 182 = .ok (.aload_n 0, 1) := by decide +kernel
theorem dX12_init_183 : decode cX12_init 183 = .ok (.bipush 6, 2) := by decide +kernel
theorem dX12_init_185 : decode cX12_init 185 = .ok (.newarray .int, 2) := by decide +kernel
theorem dX12_init_187 : decode cX12_init 187 = .ok (.putfield 82, 3) := by decide +kernel
theorem dX12_init_190 : decode cX12_init 190 = .ok (.aload_n 0, 1) := by decide +kernel
theorem dX12_init_191 : decode cX12_init 191 = .ok (.bipush 6, 2) := by decide +kernel
theorem dX12_init_193 : decode cX12_init 193 = .ok (.newarray .int, 2) := by decide +kernel
theorem dX12_init_195 : decode cX12_init 195 = .ok (.putfield 85, 3) := by decide +kernel
theorem dX12_init_198 : decode cX12_init 198 = .ok (.aload_n 0, 1) := by decide +kernel
theorem dX12_init_199 : decode cX12_init 199 = .ok (.iconst 1, 1) := by decide +kernel
theorem dX12_init_200 : decode cX12_init 200 = .ok (.putfield 88, 3) := by decide +kernel
theorem dX12_init_203 : decode cX12_init 203 = .ok (.aload_n 0, 1) := by decide +kernel
theorem dX12_init_204 : decode cX12_init 204 = .ok (.sipush 171, 3) := by decide +kernel
theorem dX12_init_207 : decode cX12_init 207 = .ok (.newarray .int, 2) := by decide +kernel
theorem dX12_init_209 : decode cX12_init 209 = .ok (.putfield 91, 3) := by decide +kernel
theorem dX12_init_212 : decode cX12_init 212 = .ok (.aload_n 0, 1) := by decide +kernel
theorem dX12_init_213 : decode cX12_init 213 = .ok (.sipush 171, 3) := by decide +kernel
theorem dX12_init_216 : decode cX12_init 216 = .ok (.newarray .int, 2) := by decide +kernel
theorem dX12_init_218 : decode cX12_init 218 = .ok (.putfield 94, 3) := by decide +kernel
theorem dX12_init_221 : decode cX12_init 221 = .ok (.aload_n 0, 1) := by decide +kernel
theorem dX12_init_222 : decode cX12_init 222 = .ok (.sipush 6840, 3) := by decide +kernel
theorem dX12_init_225 : decode cX12_init 225 = .ok (.newarray .int, 2) := by decide +kernel
theorem dX12_init_227 : decode cX12_init 227 = .ok (.putfield 97, 3) := by decide +kernel
theorem dX12_init_230 : decode cX12_init 230 = .ok (.aload_n 0, 1) := by decide +kernel
theorem dX12_init_231 : decode cX12_init 231 = .ok (.bipush 6, 2) := by decide +kernel
theorem dX12_init_233 : decode cX12_init 233 = .ok (.newarray .int, 2) := by decide +kernel
theorem dX12_init_235 : decode cX12_init 235 = .ok (.putfield 100, 3) := by decide +kernel
theorem dX12_init_238 : decode cX12_init 238 = .ok (.aload_n 0, 1) := by decide +kernel
theorem dX12_init_239 : decode cX12_init 239 = .ok (.bipush 25, 2) := by decide +kernel
theorem dX12_init_241 : decode cX12_init 241 = .ok (.newarray .int, 2) := by decide +kernel
theorem dX12_init_243 : decode cX12_init 243 = .ok (.putfield 103, 3) := by decide +kernel
theorem dX12_init_246 : decode cX12_init 246 = .ok (.aload_n 0, 1) := by decide +kernel
theorem dX12_init_247 : decode cX12_init 247 = .ok (.sipush 144, 3) := by decide +kernel
theorem dX12_init_250 : decode cX12_init 250 = .ok (.newarray .int, 2) := by decide +kernel
theorem dX12_init_252 : decode cX12_init 252 = .ok (.putfield 106, 3) := by decide +kernel
theorem dX12_init_255 : decode cX12_init 255 = .ok (.aload_n 0, 1) := by decide +kernel
theorem dX12_init_256 : decode cX12_init 256 = .ok (.bipush 6, 2) := by decide +kernel
theorem dX12_init_258 : decode cX12_init 258 = .ok (.newarray .int, 2) := by decide +kernel
theorem dX12_init_260 : decode cX12_init 260 = .ok (.putfield 109, 3) := by decide +kernel
theorem dX12_init_263 : decode cX12_init 263 = .ok (.aload_n 0, 1) := by decide +kernel
theorem dX12_init_264 : decode cX12_init 264 = .ok (.bipush 6, 2) := by decide +kernel
theorem dX12_init_266 : decode cX12_init 266 = .ok (.newarray .int, 2) := by decide +kernel
theorem dX12_init_268 : decode cX12_init 268 = .ok (.putfield 112, 3) := by decide +kernel
theorem dX12_init_271 : decode cX12_init 271 = .ok (.aload_n 0, 1) := by decide +kernel
theorem dX12_init_272 : decode cX12_init 272 = .ok (.bipush 6, 2) := by decide +kernel
theorem dX12_init_274 : decode cX12_init 274 = .ok (.newarray .int, 2) := by decide +kernel
theorem dX12_init_276 : decode cX12_init 276 = .ok (.putfield 115, 3) := by decide +kernel
theorem dX12_init_279 : decode cX12_init 279 = .ok (.aload_n 0, 1) := by decide +kernel
theorem dX12_init_280 : decode cX12_init 280 = .ok (.bipush 30, 2) := by decide +kernel
theorem dX12_init_282 : decode cX12_init 282 = .ok (.newarray .int, 2) := by decide +kernel
theorem dX12_init_284 : decode cX12_init 284 = .ok (.putfield 118, 3) := by decide +kernel
theorem dX12_init_287 : decode cX12_init 287 = .ok (.aload_n 0, 1) := by decide +kernel
theorem dX12_init_288 : decode cX12_init 288 = .ok (.bipush 30, 2) := by decide +kernel
theorem dX12_init_290 : decode cX12_init 290 = .ok (.newarray .int, 2) := by decide +kernel
theorem dX12_init_292 : decode cX12_init 292 = .ok (.putfield 121, 3) := by decide +kernel
theorem dX12_init_295 : decode cX12_init 295 = .ok (.aload_n 0, 1) := by decide +kernel
theorem dX12_init_296 : decode cX12_init 296 = .ok (.bipush 30, 2) := by decide +kernel
theorem dX12_init_298 : decode cX12_init 298 = .ok (.newarray .int, 2) := by decide +kernel
theorem dX12_init_300 : decode cX12_init 300 = .ok (.putfield 124, 3) := by decide +kernel
theorem dX12_init_303 : decode cX12_init 303 = .ok (.aload_n 0, 1) := by decide +kernel
theorem dX12_init_304 : decode cX12_init 304 = .ok (.bipush 30, 2) := by decide +kernel
theorem dX12_init_306 : decode cX12_init 306 = .ok (.newarray .int, 2) := by decide +kernel
theorem dX12_init_308 : decode cX12_init 308 = .ok (.putfield 127, 3) := by decide +kernel
theorem dX12_init_311 : decode cX12_init 311 = .ok (.aload_n 0, 1) := by decide +kernel
theorem dX12_init_312 : decode cX12_init 312 = .ok (.bipush 30, 2) := by decide +kernel
theorem dX12_init_314 : decode cX12_init 314 = .ok (.newarray .boolean, 2) := by decide +kernel
theorem dX12_init_316 : decode cX12_init 316 = .ok (.putfield 130, 3) := by decide +kernel
theorem dX12_init_319 : decode cX12_init 319 = .ok (.aload_n 0, 1) := by decide +kernel
theorem dX12_init_320 : decode cX12_init 320 = .ok (.iconst 3, 1) := by decide +kernel
theorem dX12_init_321 : decode cX12_init 321 = .ok (.newarray .boolean, 2) := by decide +kernel
theorem dX12_init_323 : decode cX12_init 323 = .ok (.putfield 133, 3) := by decide +kernel
theorem dX12_init_326 : decode cX12_init 326 = .ok (.aload_n 0, 1) := by decide +kernel
theorem dX12_init_327 : decode cX12_init 327 = .ok (.sipush 513, 3) := by decide +kernel
theorem dX12_init_330 : decode cX12_init 330 = .ok (.newarray .int, 2) := by decide +kernel
theorem dX12_init_332 : decode cX12_init 332 = .ok (.putfield 136, 3) := by decide +kernel
theorem dX12_init_335 : decode cX12_init 335 = .ok (.return_, 1) := by decide +kernel
theorem dX12_feed_0 : decode cX12_feed 0 = .ok (.aload_n 0, 1) := by decide +kernel
theorem dX12_feed_1 : decode cX12_feed 1 = .ok (.getfield 139, 3) := by decide +kernel
theorem dX12_feed_4 : decode cX12_feed 4 = .ok (.bipush 20, 2) := by decide +kernel
theorem dX12_feed_6 : decode cX12_feed 6 = .ok (.iadd, 1) := by decide +kernel
theorem dX12_feed_7 : decode cX12_feed 7 = .ok (.sipush 1600, 3) := by decide +kernel
theorem dX12_feed_10 : decode cX12_feed 10 = .ok (.if_icmp .le 5, 3) := by decide +kernel
theorem dX12_feed_13 : decode cX12_feed 13 = .ok (.iconst (-1), 1) := by decide +kernel
theorem dX12_feed_14 : decode cX12_feed 14 = .ok (.ireturn, 1) := by decide +kernel
theorem dX12_feed_15 : decode cX12_feed 15 = .ok (.aload_n 0, 1) := by decide +kernel
theorem dX12_feed_16 : decode cX12_feed 16 = .ok (.iload_n 1, 1) := by decide +kernel
theorem dX12_feed_17 : decode cX12_feed 17 = .ok (.invokevirtual 142, 3) := by decide +kernel
theorem dX12_feed_20 : decode cX12_feed 20 = .ok (.aload_n 0, 1) := by decide +kernel
theorem dX12_feed_21 : decode cX12_feed 21 = .ok (.iload_n 2, 1) := by decide +kernel
theorem dX12_feed_22 : decode cX12_feed 22 = .ok (.invokevirtual 142, 3) := by decide +kernel
theorem dX12_feed_25 : decode cX12_feed 25 = .ok (.aload_n 0, 1) := by decide +kernel
theorem dX12_feed_26 : decode cX12_feed 26 = .ok (.iload_n 3, 1) := by decide +kernel
theorem dX12_feed_27 : decode cX12_feed 27 = .ok (.invokevirtual 142, 3) := by decide +kernel
theorem dX12_feed_30 : decode cX12_feed 30 = .ok (.aload_n 0, 1) := by decide +kernel
theorem dX12_feed_31 : decode cX12_feed 31 = .ok (.iload 4, 2) := by decide +kernel
theorem dX12_feed_33 : decode cX12_feed 33 = .ok (.invokevirtual 142, 3) := by decide +kernel
theorem dX12_feed_36 : decode cX12_feed 36 = .ok (.aload_n 0, 1) := by decide +kernel
theorem dX12_feed_37 : decode cX12_feed 37 = .ok (.iload 5, 2) := by decide +kernel
theorem dX12_feed_39 : decode cX12_feed 39 = .ok (.invokevirtual 142, 3) := by decide +kernel
theorem dX12_feed_42 : decode cX12_feed 42 = .ok (.aload_n 0, 1) := by decide +kernel
theorem dX12_feed_43 : decode cX12_feed 43 = .ok (.getfield 139, 3) := by decide +kernel
theorem dX12_feed_46 : decode cX12_feed 46 = .ok (.ireturn, 1) := by decide +kernel
theorem dX12_four_0 : decode cX12_four 0 = .ok (.bipush 24, 2) := by decide +kernel
theorem dX12_four_2 : decode cX12_four 2 = .ok (.istore_n 2, 1) := by decide +kernel
theorem dX12_four_3 : decode cX12_four 3 = .ok (.iload_n 2, 1) := by decide +kernel
