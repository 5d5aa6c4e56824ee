set_option maxRecDepth 20000 in
theorem ggX1_lay_X9_layWhole : GoodIn wsX1_lay wsX9_layWhole := goodIn_r _ [14, 15, 16, 17, 18, 19, 20, 21, 44, 45, 46, 47, 48, 49, 50] (by decide +kernel) (by decide +kernel)
set_option maxRecDepth 20000 in
theorem gX1_lay_X9_layWhole : GoodIn wsX1_lay (wsV RX1 34 RX9 yX9_layWhole wsX9_layWhole) := goodIn_app (goodIn_of _ (by decide +kernel)) ggX1_lay_X9_layWhole
theorem dX1_lay_0 : decode cX1_lay 0 = .ok (.iconst 0, 1) := by decide +kernel
theorem dX1_lay_1 : decode cX1_lay 1 = .ok (.istore_n 2, 1) := by decide +kernel
theorem dX1_lay_2 : decode cX1_lay 2 = .ok (.iload_n 2, 1) := by decide +kernel
theorem dX1_lay_3 : decode cX1_lay 3 = .ok (.aload_n 1, 1) := by decide +kernel
theorem dX1_lay_4 : decode cX1_lay 4 = .ok (.getfield 22, 3) := by decide +kernel
theorem dX1_lay_7 : decode cX1_lay 7 = .ok (.if_icmp .ge 31, 3) := by decide +kernel
theorem dX1_lay_10 : decode cX1_lay 10 = .ok (.aload_n 0, 1) := by decide +kernel
theorem dX1_lay_11 : decode cX1_lay 11 = .ok (.getfield 11, 3) := by decide +kernel
theorem dX1_lay_14 : decode cX1_lay 14 = .ok (.iload_n 2, 1) := by decide +kernel
theorem dX1_lay_15 : decode cX1_lay 15 = .ok (.aaload, 1) := by decide +kernel
theorem dX1_lay_16 : decode cX1_lay 16 = .ok (.iload_n 2, 1) := by decide +kernel
theorem dX1_lay_17 : decode cX1_lay 17 = .ok (.aload_n 1, 1) := by decide +kernel
theorem dX1_lay_18 : decode cX1_lay 18 = .ok (.getfield 28, 3) := by decide +kernel
theorem dX1_lay_21 : decode cX1_lay 21 = .ok (.iload_n 2, 1) := by decide +kernel
theorem dX1_lay_22 : decode cX1_lay 22 = .ok (.iaload, 1) := by decide +kernel
theorem dX1_lay_23 : decode cX1_lay 23 = .ok (.aload_n 1, 1) := by decide +kernel
theorem dX1_lay_24 : decode cX1_lay 24 = .ok (.getfield 31, 3) := by decide +kernel
theorem dX1_lay_27 : decode cX1_lay 27 = .ok (.iload_n 2, 1) := by decide +kernel
theorem dX1_lay_28 : decode cX1_lay 28 = .ok (.iaload, 1) := by decide +kernel
theorem dX1_lay_29 : decode cX1_lay 29 = .ok (.invokevirtual 34, 3) := by decide +kernel
theorem dX1_lay_32 : decode cX1_lay 32 = .ok (.iinc 2 1, 3) := by decide +kernel
theorem dX1_lay_35 : decode cX1_lay 35 = .ok (.goto (-33), 3) := by decide +kernel
theorem dX1_lay_38 : decode cX1_lay 38 = .ok (.aload_n 0, 1) := by decide +kernel
theorem dX1_lay_39 : decode cX1_lay 39 = .ok (.aload_n 1, 1) := by decide +kernel
theorem dX1_lay_40 : decode cX1_lay 40 = .ok (.getfield 22, 3) := by decide +kernel
theorem dX1_lay_43 : decode cX1_lay 43 = .ok (.putfield 38, 3) := by decide +kernel
theorem dX1_lay_46 : decode cX1_lay 46 = .ok (.iconst 0, 1) := by decide +kernel
theorem dX1_lay_47 : decode cX1_lay 47 = .ok (.istore_n 2, 1) := by decide +kernel
theorem dX1_lay_48 : decode cX1_lay 48 = .ok (.iload_n 2, 1) := by decide +kernel
theorem dX1_lay_49 : decode cX1_lay 49 = .ok (.bipush 6, 2) := by decide +kernel
theorem dX1_lay_51 : decode cX1_lay 51 = .ok (.if_icmp .ge 16, 3) := by decide +kernel
theorem dX1_lay_54 : decode cX1_lay 54 = .ok (.aload_n 0, 1) := by decide +kernel
theorem dX1_lay_55 : decode cX1_lay 55 = .ok (.getfield 18, 3) := by decide +kernel
theorem dX1_lay_58 : decode cX1_lay 58 = .ok (.iload_n 2, 1) := by decide +kernel
theorem dX1_lay_59 : decode cX1_lay 59 = .ok (.iconst (-1), 1) := by decide +kernel
theorem dX1_lay_60 : decode cX1_lay 60 = .ok (.iastore, 1) := by decide +kernel
theorem dX1_lay_61 : decode cX1_lay 61 = .ok (.iinc 2 1, 3) := by decide +kernel
theorem dX1_lay_64 : decode cX1_lay 64 = .ok (.goto (-16), 3) := by decide +kernel
theorem dX1_lay_67 : decode cX1_lay 67 = .ok (.aload_n 0, 1) := by decide +kernel
theorem dX1_lay_68 : decode cX1_lay 68 = .ok (.iconst 0, 1) := by decide +kernel
theorem dX1_lay_69 : decode cX1_lay 69 = .ok (.putfield 41, 3) := by decide +kernel
theorem dX1_lay_72 : decode cX1_lay 72 = .ok (.aload_n 0, 1) := by decide +kernel
theorem dX1_lay_73 : decode cX1_lay 73 = .ok (.aload_n 1, 1) := by decide +kernel
theorem dX1_lay_74 : decode cX1_lay 74 = .ok (.getfield 44, 3) := by decide +kernel
theorem dX1_lay_77 : decode cX1_lay 77 = .ok (.putfield 47, 3) := by decide +kernel
theorem dX1_lay_80 : decode cX1_lay 80 = .ok (.return_, 1) := by decide +kernel
set_option maxRecDepth 20000 in
theorem ggX1_takeFrom_X9_takeFrom : GoodIn wsX1_takeFrom wsX9_takeFrom := goodIn_r _ [10, 11, 12, 13, 14, 15, 16, 17, 24, 25, 26, 27, 28, 29, 30] (by decide +kernel) (by decide +kernel)
set_option maxRecDepth 20000 in
theorem gX1_takeFrom_X9_takeFrom : GoodIn wsX1_takeFrom (wsV RX1 50 RX9 yX9_takeFrom wsX9_takeFrom) := goodIn_app (goodIn_of _ (by decide +kernel)) ggX1_takeFrom_X9_takeFrom
theorem dX1_takeFrom_0 : decode cX1_takeFrom 0 = .ok (.iconst 0, 1) := by decide +kernel
theorem dX1_takeFrom_1 : decode cX1_takeFrom 1 = .ok (.istore_n 2, 1) := by decide +kernel
theorem dX1_takeFrom_2 : decode cX1_takeFrom 2 = .ok (.iload_n 2, 1) := by decide +kernel
theorem dX1_takeFrom_3 : decode cX1_takeFrom 3 = .ok (.aload_n 1, 1) := by decide +kernel
theorem dX1_takeFrom_4 : decode cX1_takeFrom 4 = .ok (.getfield 38, 3) := by decide +kernel
theorem dX1_takeFrom_7 : decode cX1_takeFrom 7 = .ok (.if_icmp .ge 24, 3) := by decide +kernel
theorem dX1_takeFrom_10 : decode cX1_takeFrom 10 = .ok (.aload_n 0, 1) := by decide +kernel
theorem dX1_takeFrom_11 : decode cX1_takeFrom 11 = .ok (.getfield 11, 3) := by decide +kernel
theorem dX1_takeFrom_14 : decode cX1_takeFrom 14 = .ok (.iload_n 2, 1) := by decide +kernel
theorem dX1_takeFrom_15 : decode cX1_takeFrom 15 = .ok (.aaload, 1) := by decide +kernel
theorem dX1_takeFrom_16 : decode cX1_takeFrom 16 = .ok (.aload_n 1, 1) := by decide +kernel
theorem dX1_takeFrom_17 : decode cX1_takeFrom 17 = .ok (.getfield 11, 3) := by decide +kernel
theorem dX1_takeFrom_20 : decode cX1_takeFrom 20 = .ok (.iload_n 2, 1) := by decide +kernel
theorem dX1_takeFrom_21 : decode cX1_takeFrom 21 = .ok (.aaload, 1) := by decide +kernel
theorem dX1_takeFrom_22 : decode cX1_takeFrom 22 = .ok (.invokevirtual 50, 3) := by decide +kernel
theorem dX1_takeFrom_25 : decode cX1_takeFrom 25 = .ok (.iinc 2 1, 3) := by decide +kernel
theorem dX1_takeFrom_28 : decode cX1_takeFrom 28 = .ok (.goto (-26), 3) := by decide +kernel
theorem dX1_takeFrom_31 : decode cX1_takeFrom 31 = .ok (.iconst 0, 1) := by decide +kernel
theorem dX1_takeFrom_32 : decode cX1_takeFrom 32 = .ok (.istore_n 2, 1) := by decide +kernel
theorem dX1_takeFrom_33 : decode cX1_takeFrom 33 = .ok (.iload_n 2, 1) := by decide +kernel
theorem dX1_takeFrom_34 : decode cX1_takeFrom 34 = .ok (.bipush 6, 2) := by decide +kernel
theorem dX1_takeFrom_36 : decode cX1_takeFrom 36 = .ok (.if_icmp .ge 21, 3) := by decide +kernel
theorem dX1_takeFrom_39 : decode cX1_takeFrom 39 = .ok (.aload_n 0, 1) := by decide +kernel
theorem dX1_takeFrom_40 : decode cX1_takeFrom 40 = .ok (.getfield 18, 3) := by decide +kernel
theorem dX1_takeFrom_43 : decode cX1_takeFrom 43 = .ok (.iload_n 2, 1) := by decide +kernel
theorem dX1_takeFrom_44 : decode cX1_takeFrom 44 = .ok (.aload_n 1, 1) := by decide +kernel
theorem dX1_takeFrom_45 : decode cX1_takeFrom 45 = .ok (.getfield 18, 3) := by decide +kernel
theorem dX1_takeFrom_48 : decode cX1_takeFrom 48 = .ok (.iload_n 2, 1) := by decide +kernel
theorem dX1_takeFrom_49 : decode cX1_takeFrom 49 = .ok (.iaload, 1) := by decide +kernel
theorem dX1_takeFrom_50 : decode cX1_takeFrom 50 = .ok (.iastore, 1) := by decide +kernel
theorem dX1_takeFrom_51 : decode cX1_takeFrom 51 = .ok (.iinc 2 1, 3) := by decide +kernel
theorem dX1_takeFrom_54 : decode cX1_takeFrom 54 = .ok (.goto (-21), 3) := by decide +kernel
theorem dX1_takeFrom_57 : decode cX1_takeFrom 57 = .ok (.aload_n 0, 1) := by decide +kernel
theorem dX1_takeFrom_58 : decode cX1_takeFrom 58 = .ok (.aload_n 1, 1) := by decide +kernel
theorem dX1_takeFrom_59 : decode cX1_takeFrom 59 = .ok (.getfield 38, 3) := by decide +kernel
theorem dX1_takeFrom_62 : decode cX1_takeFrom 62 = .ok (.putfield 38, 3) := by decide +kernel
theorem dX1_takeFrom_65 : decode cX1_takeFrom 65 = .ok (.aload_n 0, 1) := by decide +kernel
theorem dX1_takeFrom_66 : decode cX1_takeFrom 66 = .ok (.aload_n 1, 1) := by decide +kernel
theorem dX1_takeFrom_67 : decode cX1_takeFrom 67 = .ok (.getfield 41, 3) := by decide +kernel
theorem dX1_takeFrom_70 : decode cX1_takeFrom 70 = .ok (.putfield 41, 3) := by decide +kernel
theorem dX1_takeFrom_73 : decode cX1_takeFrom 73 = .ok (.aload_n 0, 1) := by decide +kernel
theorem dX1_takeFrom_74 : decode cX1_takeFrom 74 = .ok (.aload_n 1, 1) := by decide +kernel
theorem dX1_takeFrom_75 : decode cX1_takeFrom 75 = .ok (.getfield 47, 3) := by decide +kernel
theorem dX1_takeFrom_78 : decode cX1_takeFrom 78 = .ok (.putfield 47, 3) := by decide +kernel
theorem dX1_takeFrom_81 : decode cX1_takeFrom 81 = .ok (.return_, 1) := by decide +kernel
theorem dX1_isPiece_0 : decode cX1_isPiece 0 = .ok (.iload_n 1, 1) := by decide +kernel
theorem dX1_isPiece_1 : decode cX1_isPiece 1 = .ok (.ifCond .lt 15, 3) := by decide +kernel
theorem dX1_isPiece_4 : decode cX1_isPiece 4 = .ok (.iload_n 1, 1) := by decide +kernel
theorem dX1_isPiece_5 : decode cX1_isPiece 5 = .ok (.aload_n 0, 1) := by decide +kernel
theorem dX1_isPiece_6 : decode cX1_isPiece 6 = .ok (.getfield 38, 3) := by decide +kernel
theorem dX1_isPiece_9 : decode cX1_isPiece 9 = .ok (.if_icmp .ge 7, 3) := by decide +kernel
theorem dX1_isPiece_12 : decode cX1_isPiece 12 = .ok (.iconst 1, 1) := by decide +kernel
theorem dX1_isPiece_13 : decode cX1_isPiece 13 = .ok (.goto 4, 3) := by decide +kernel
theorem dX1_isPiece_16 : decode cX1_isPiece 16 = .ok (.iconst 0, 1) := by decide +kernel
theorem dX1_isPiece_17 : decode cX1_isPiece 17 = .ok (.ireturn, 1) := by decide +kernel
set_option maxRecDepth 20000 in
theorem ggX1_isFree_X1_isPiece : GoodIn wsX1_isFree wsX1_isPiece := goodIn_r _ [7, 8, 9, 10, 11, 12, 13, 14] (by decide +kernel) (by decide +kernel)
set_option maxRecDepth 20000 in
theorem gX1_isFree_X1_isPiece : GoodIn wsX1_isFree (wsV RX1 54 RX1 yX1_isPiece wsX1_isPiece) := goodIn_app (goodIn_of _ (by decide +kernel)) ggX1_isFree_X1_isPiece
theorem dX1_isFree_0 : decode cX1_isFree 0 = .ok (.aload_n 0, 1) := by decide +kernel
theorem dX1_isFree_1 : decode cX1_isFree 1 = .ok (.iload_n 1, 1) := by decide +kernel
theorem dX1_isFree_2 : decode cX1_isFree 2 = .ok (.invokevirtual 54, 3) := by decide +kernel
theorem dX1_isFree_5 : decode cX1_isFree 5 = .ok (.ifCond .eq 20, 3) := by decide +kernel
theorem dX1_isFree_8 : decode cX1_isFree 8 = .ok (.aload_n 0, 1) := by decide +kernel
theorem dX1_isFree_9 : decode cX1_isFree 9 = .ok (.getfield 11, 3) := by decide +kernel
theorem dX1_isFree_12 : decode cX1_isFree 12 = .ok (.iload_n 1, 1) := by decide +kernel
theorem dX1_isFree_13 : decode cX1_isFree 13 = .ok (.aaload, 1) := by decide +kernel
theorem dX1_isFree_14 : decode cX1_isFree 14 = .ok (.getfield 58, 3) := by decide +kernel
theorem dX1_isFree_17 : decode cX1_isFree 17 = .ok (.iconst (-1), 1) := by decide +kernel
theorem dX1_isFree_18 : decode cX1_isFree 18 = .ok (.if_icmp .ne 7, 3) := by decide +kernel
theorem dX1_isFree_21 : decode cX1_isFree 21 = .ok (.iconst 1, 1) := by decide +kernel
theorem dX1_isFree_22 : decode cX1_isFree 22 = .ok (.goto 4, 3) := by decide +kernel
theorem dX1_isFree_25 : decode cX1_isFree 25 = .ok (.iconst 0, 1) := by decide +kernel
theorem dX1_isFree_26 : decode cX1_isFree 26 = .ok (.ireturn, 1) := by decide +kernel
set_option maxRecDepth 20000 in
theorem ggX1_canSplit_X1_isFree : GoodIn wsX1_canSplit wsX1_isFree := goodIn_r _ [6, 1, 7, 8, 9, 10, 5, 11, 12, 20, 21, 22, 23, 24, 25, 26, 27, 28, 29, 30, 31, 32] (by decide +kernel) (by decide +kernel)
set_option maxRecDepth 20000 in
theorem gX1_canSplit_X1_isFree : GoodIn wsX1_canSplit (wsV RX1 61 RX1 yX1_isFree wsX1_isFree) := goodIn_app (goodIn_of _ (by decide +kernel)) ggX1_canSplit_X1_isFree
set_option maxRecDepth 20000 in
theorem ggX1_canSplit_X9_extent : GoodIn wsX1_canSplit wsX9_extent := goodIn_r _ [17, 18, 19, 26, 27, 28, 29, 30, 31, 32] (by decide +kernel) (by decide +kernel)
set_option maxRecDepth 20000 in
theorem gX1_canSplit_X9_extent : GoodIn wsX1_canSplit (wsV RX1 64 RX9 yX9_extent wsX9_extent) := goodIn_app (goodIn_of _ (by decide +kernel)) ggX1_canSplit_X9_extent
theorem dX1_canSplit_0 : decode cX1_canSplit 0 = .ok (.aload_n 0, 1) := by decide +kernel
theorem dX1_canSplit_1 : decode cX1_canSplit 1 = .ok (.iload_n 1, 1) := by decide +kernel
theorem dX1_canSplit_2 : decode cX1_canSplit 2 = .ok (.invokevirtual 61, 3) := by decide +kernel
theorem dX1_canSplit_5 : decode cX1_canSplit 5 = .ok (.ifCond .eq 35, 3) := by decide +kernel
theorem dX1_canSplit_8 : decode cX1_canSplit 8 = .ok (.iload_n 2, 1) := by decide +kernel
theorem dX1_canSplit_9 : decode cX1_canSplit 9 = .ok (.ifCond .eq 8, 3) := by decide +kernel
theorem dX1_canSplit_12 : decode cX1_canSplit 12 = .ok (.iload_n 2, 1) := by decide +kernel
theorem dX1_canSplit_13 : decode cX1_canSplit 13 = .ok (.iconst 1, 1) := by decide +kernel
theorem dX1_canSplit_14 : decode cX1_canSplit 14 = .ok (.if_icmp .ne 26, 3) := by decide +kernel
theorem dX1_canSplit_17 : decode cX1_canSplit 17 = .ok (.iload_n 3, 1) := by decide +kernel
theorem dX1_canSplit_18 : decode cX1_canSplit 18 = .ok (.iconst 1, 1) := by decide +kernel
theorem dX1_canSplit_19 : decode cX1_canSplit 19 = .ok (.if_icmp .lt 21, 3) := by decide +kernel
theorem dX1_canSplit_22 : decode cX1_canSplit 22 = .ok (.iload_n 3, 1) := by decide +kernel
theorem dX1_canSplit_23 : decode cX1_canSplit 23 = .ok (.aload_n 0, 1) := by decide +kernel
theorem dX1_canSplit_24 : decode cX1_canSplit 24 = .ok (.getfield 11, 3) := by decide +kernel
theorem dX1_canSplit_27 : decode cX1_canSplit 27 = .ok (.iload_n 1, 1) := by decide +kernel
theorem dX1_canSplit_28 : decode cX1_canSplit 28 = .ok (.aaload, 1) := by decide +kernel
theorem dX1_canSplit_29 : decode cX1_canSplit 29 = .ok (.iload_n 2, 1) := by decide +kernel
theorem dX1_canSplit_30 : decode cX1_canSplit 30 = .ok (.invokevirtual 64, 3) := by decide +kernel
theorem dX1_canSplit_33 : decode cX1_canSplit 33 = .ok (.if_icmp .ge 7, 3) := by decide +kernel
theorem dX1_canSplit_36 : decode cX1_canSplit 36 = .ok (.iconst 1, 1) := by decide +kernel
theorem dX1_canSplit_37 : decode cX1_canSplit 37 = .ok (.goto 4, 3) := by decide +kernel
theorem dX1_canSplit_40 : decode cX1_canSplit 40 = .ok (.iconst 0, 1) := by decide +kernel
theorem dX1_canSplit_41 : decode cX1_canSplit 41 = .ok (.ireturn, 1) := by decide +kernel
set_option maxRecDepth 20000 in
theorem ggX1_split_X1_canSplit : GoodIn wsX1_split wsX1_canSplit := goodIn_r _ [10, 2, 11, 12, 13, 9, 14, 15, 16, 17, 18, 19, 1, 20, 21, 22, 23, 24, 25, 26, 44, 45, 46, 47, 48, 49, 50, 51, 52, 53, 54, 55, 56] (by decide +kernel) (by decide +kernel)
set_option maxRecDepth 20000 in
theorem gX1_split_X1_canSplit : GoodIn wsX1_split (wsV RX1 68 RX1 yX1_canSplit wsX1_canSplit) := goodIn_app (goodIn_of _ (by decide +kernel)) ggX1_split_X1_canSplit
set_option maxRecDepth 20000 in
theorem ggX1_split_X9_takeFrom : GoodIn wsX1_split wsX9_takeFrom := goodIn_r _ [30, 31, 32, 33, 25, 26, 34, 35, 50, 51, 52, 53, 54, 55, 56] (by decide +kernel) (by decide +kernel)
set_option maxRecDepth 20000 in
theorem gX1_split_X9_takeFrom : GoodIn wsX1_split (wsV RX1 50 RX9 yX9_takeFrom wsX9_takeFrom) := goodIn_app (goodIn_of _ (by decide +kernel)) ggX1_split_X9_takeFrom
set_option maxRecDepth 20000 in
theorem ggX1_split_X9_keepBehind : GoodIn wsX1_split wsX9_keepBehind := goodIn_r _ [39, 32, 25, 33, 26, 50, 51, 52, 53, 54, 55, 56] (by decide +kernel) (by decide +kernel)
set_option maxRecDepth 20000 in
theorem gX1_split_X9_keepBehind : GoodIn wsX1_split (wsV RX1 72 RX9 yX9_keepBehind wsX9_keepBehind) := goodIn_app (goodIn_of _ (by decide +kernel)) ggX1_split_X9_keepBehind
set_option maxRecDepth 20000 in
theorem ggX1_split_X9_keepAhead : GoodIn wsX1_split wsX9_keepAhead := goodIn_r _ [43, 25, 26, 50, 51, 52, 53, 54, 55, 56] (by decide +kernel) (by decide +kernel)
set_option maxRecDepth 20000 in
theorem gX1_split_X9_keepAhead : GoodIn wsX1_split (wsV RX1 76 RX9 yX9_keepAhead wsX9_keepAhead) := goodIn_app (goodIn_of _ (by decide +kernel)) ggX1_split_X9_keepAhead
theorem dX1_split_0 : decode cX1_split 0 = .ok (.aload_n 0, 1) := by decide +kernel
theorem dX1_split_1 : decode cX1_split 1 = .ok (.iload_n 1, 1) := by decide +kernel
theorem dX1_split_2 : decode cX1_split 2 = .ok (.iload_n 2, 1) := by decide +kernel
theorem dX1_split_3 : decode cX1_split 3 = .ok (.iload_n 3, 1) := by decide +kernel
theorem dX1_split_4 : decode cX1_split 4 = .ok (.invokevirtual 68, 3) := by decide +kernel
theorem dX1_split_7 : decode cX1_split 7 = .ok (.ifCond .eq 12, 3) := by decide +kernel
theorem dX1_split_10 : decode cX1_split 10 = .ok (.aload_n 0, 1) := by decide +kernel
theorem dX1_split_11 : decode cX1_split 11 = .ok (.getfield 38, 3) := by decide +kernel
theorem dX1_split_14 : decode cX1_split 14 = .ok (.bipush 24, 2) := by decide +kernel
theorem dX1_split_16 : decode cX1_split 16 = .ok (.if_icmp .lt 4, 3) := by decide +kernel
theorem dX1_split_19 : decode cX1_split 19 = .ok (.return_, 1) := by decide +kernel
theorem dX1_split_20 : decode cX1_split 20 = .ok (.aload_n 0, 1) := by decide +kernel
theorem dX1_split_21 : decode cX1_split 21 = .ok (.getfield 11, 3) := by decide +kernel
theorem dX1_split_24 : decode cX1_split 24 = .ok (.iload_n 1, 1) := by decide +kernel
theorem dX1_split_25 : decode cX1_split 25 = .ok (.aaload, 1) := by decide +kernel
theorem dX1_split_26 : decode cX1_split 26 = .ok (.astore 6, 2) := by decide +kernel
theorem dX1_split_28 : decode cX1_split 28 = .ok (.aload_n 0, 1) := by decide +kernel
theorem dX1_split_29 : decode cX1_split 29 = .ok (.getfield 11, 3) := by decide +kernel
theorem dX1_split_32 : decode cX1_split 32 = .ok (.aload_n 0, 1) := by decide +kernel
theorem dX1_split_33 : decode cX1_split 33 = .ok (.getfield 38, 3) := by decide +kernel
theorem dX1_split_36 : decode cX1_split 36 = .ok (.aaload, 1) := by decide +kernel
theorem dX1_split_37 : decode cX1_split 37 = .ok (.astore 7, 2) := by decide +kernel
theorem dX1_split_39 : decode cX1_split 39 = .ok (.aload 7, 2) := by decide +kernel
theorem dX1_split_41 : decode cX1_split 41 = .ok (.aload 6, 2) := by decide +kernel
theorem dX1_split_43 : decode cX1_split 43 = .ok (.invokevirtual 50, 3) := by decide +kernel
theorem dX1_split_46 : decode cX1_split 46 = .ok (.aload 7, 2) := by decide +kernel
theorem dX1_split_48 : decode cX1_split 48 = .ok (.iload_n 2, 1) := by decide +kernel
theorem dX1_split_49 : decode cX1_split 49 = .ok (.iload_n 3, 1) := by decide +kernel
theorem dX1_split_50 : decode cX1_split 50 = .ok (.invokevirtual 72, 3) := by decide +kernel
theorem dX1_split_53 : decode cX1_split 53 = .ok (.aload 6, 2) := by decide +kernel
theorem dX1_split_55 : decode cX1_split 55 = .ok (.iload_n 2, 1) := by decide +kernel
theorem dX1_split_56 : decode cX1_split 56 = .ok (.iload_n 3, 1) := by decide +kernel
theorem dX1_split_57 : decode cX1_split 57 = .ok (.invokevirtual 76, 3) := by decide +kernel
theorem dX1_split_60 : decode cX1_split 60 = .ok (.aload_n 0, 1) := by decide +kernel
theorem dX1_split_61 : decode cX1_split 61 = .ok (.dup, 1) := by decide +kernel
theorem dX1_split_62 : decode cX1_split 62 = .ok (.getfield 38, 3) := by decide +kernel
theorem dX1_split_65 : decode cX1_split 65 = .ok (.iconst 1, 1) := by decide +kernel
theorem dX1_split_66 : decode cX1_split 66 = .ok (.iadd, 1) := by decide +kernel
theorem dX1_split_67 : decode cX1_split 67 = .ok (.putfield 38, 3) := by decide +kernel
theorem dX1_split_70 : decode cX1_split 70 = .ok (.aload_n 0, 1) := by decide +kernel
theorem dX1_split_71 : decode cX1_split 71 = .ok (.aload_n 0, 1) := by decide +kernel
theorem dX1_split_72 : decode cX1_split 72 = .ok (.getfield 47, 3) := by decide +kernel
theorem dX1_split_75 : decode cX1_split 75 = .ok (.sipush 137, 3) := by decide +kernel
theorem dX1_split_78 : decode cX1_split 78 = .ok (.imul, 1) := by decide +kernel
theorem dX1_split_79 : decode cX1_split 79 = .ok (.bipush 71, 2) := by decide +kernel
theorem dX1_split_81 : decode cX1_split 81 = .ok (.iadd, 1) := by decide +kernel
theorem dX1_split_82 : decode cX1_split 82 = .ok (.sipush 1000, 3) := by decide +kernel
theorem dX1_split_85 : decode cX1_split 85 = .ok (.irem, 1) := by decide +kernel
theorem dX1_split_86 : decode cX1_split 86 = .ok (.putfield 47, 3) := by decide +kernel
theorem dX1_split_89 : decode cX1_split 89 = .ok (.aload_n 0, 1) := by decide +kernel
theorem dX1_split_90 : decode cX1_split 90 = .ok (.getfield 47, 3) := by decide +kernel
theorem dX1_split_93 : decode cX1_split 93 = .ok (.bipush 100, 2) := by decide +kernel
theorem dX1_split_95 : decode cX1_split 95 = .ok (.irem, 1) := by decide +kernel
theorem dX1_split_96 : decode cX1_split 96 = .ok (.iload 4, 2) := by decide +kernel
theorem dX1_split_98 : decode cX1_split 98 = .ok (.if_icmp .ge 9, 3) := by decide +kernel
theorem dX1_split_101 : decode cX1_split 101 = .ok (.aload 7, 2) := by decide +kernel
theorem dX1_split_103 : decode cX1_split 103 = .ok (.iconst 1, 1) := by decide +kernel
theorem dX1_split_104 : decode cX1_split 104 = .ok (.putfield 79, 3) := by decide +kernel
theorem dX1_split_107 : decode cX1_split 107 = .ok (.aload_n 0, 1) := by decide +kernel
theorem dX1_split_108 : decode cX1_split 108 = .ok (.dup, 1) := by decide +kernel
theorem dX1_split_109 : decode cX1_split 109 = .ok (.getfield 41, 3) := by decide +kernel
theorem dX1_split_112 : decode cX1_split 112 = .ok (.iload 5, 2) := by decide +kernel
theorem dX1_split_114 : decode cX1_split 114 = .ok (.iadd, 1) := by decide +kernel
theorem dX1_split_115 : decode cX1_split 115 = .ok (.putfield 41, 3) := by decide +kernel
theorem dX1_split_118 : decode cX1_split 118 = .ok (.return_, 1) := by decide +kernel
set_option maxRecDepth 20000 in
theorem ggX1_rejoin_X1_isPiece : GoodIn wsX1_rejoin wsX1_isPiece := goodIn_r _ [7, 1, 19, 20, 21, 22, 23, 24] (by decide +kernel) (by decide +kernel)
set_option maxRecDepth 20000 in
theorem gX1_rejoin_X1_isPiece : GoodIn wsX1_rejoin (wsV RX1 54 RX1 yX1_isPiece wsX1_isPiece) := goodIn_app (goodIn_of _ (by decide +kernel)) ggX1_rejoin_X1_isPiece
set_option maxRecDepth 20000 in
theorem ggX1_rejoin_X9_extent : GoodIn wsX1_rejoin wsX9_extent := goodIn_r _ [12, 13, 14, 25, 26, 27, 28, 29, 30, 31] (by decide +kernel) (by decide +kernel)
set_option maxRecDepth 20000 in
theorem gX1_rejoin_X9_extent : GoodIn wsX1_rejoin (wsV RX1 64 RX9 yX9_extent wsX9_extent) := goodIn_app (goodIn_of _ (by decide +kernel)) ggX1_rejoin_X9_extent
set_option maxRecDepth 20000 in
theorem ggX1_rejoin_X9_growBy : GoodIn wsX1_rejoin wsX9_growBy := goodIn_r _ [18, 13, 14, 25, 26, 27, 28, 29, 30, 31] (by decide +kernel) (by decide +kernel)
set_option maxRecDepth 20000 in
theorem gX1_rejoin_X9_growBy : GoodIn wsX1_rejoin (wsV RX1 83 RX9 yX9_growBy wsX9_growBy) := goodIn_app (goodIn_of _ (by decide +kernel)) ggX1_rejoin_X9_growBy
theorem dX1_rejoin_0 : decode cX1_rejoin 0 = .ok (.aload_n 0, 1) := by decide +kernel
theorem dX1_rejoin_1 : decode cX1_rejoin 1 = .ok (.iload_n 1, 1) := by decide +kernel
theorem dX1_rejoin_2 : decode cX1_rejoin 2 = .ok (.invokevirtual 54, 3) := by decide +kernel
theorem dX1_rejoin_5 : decode cX1_rejoin 5 = .ok (.ifCond .eq 46, 3) := by decide +kernel
theorem dX1_rejoin_8 : decode cX1_rejoin 8 = .ok (.iload_n 1, 1) := by decide +kernel
theorem dX1_rejoin_9 : decode cX1_rejoin 9 = .ok (.aload_n 0, 1) := by decide +kernel
theorem dX1_rejoin_10 : decode cX1_rejoin 10 = .ok (.getfield 38, 3) := by decide +kernel
theorem dX1_rejoin_13 : decode cX1_rejoin 13 = .ok (.iconst 1, 1) := by decide +kernel
theorem dX1_rejoin_14 : decode cX1_rejoin 14 = .ok (.isub, 1) := by decide +kernel
theorem dX1_rejoin_15 : decode cX1_rejoin 15 = .ok (.if_icmp .ge 36, 3) := by decide +kernel
theorem dX1_rejoin_18 : decode cX1_rejoin 18 = .ok (.aload_n 0, 1) := by decide +kernel
theorem dX1_rejoin_19 : decode cX1_rejoin 19 = .ok (.dup, 1) := by decide +kernel
theorem dX1_rejoin_20 : decode cX1_rejoin 20 = .ok (.getfield 38, 3) := by decide +kernel
theorem dX1_rejoin_23 : decode cX1_rejoin 23 = .ok (.iconst 1, 1) := by decide +kernel
theorem dX1_rejoin_24 : decode cX1_rejoin 24 = .ok (.isub, 1) := by decide +kernel
theorem dX1_rejoin_25 : decode cX1_rejoin 25 = .ok (.putfield 38, 3) := by decide +kernel
theorem dX1_rejoin_28 : decode cX1_rejoin 28 = .ok (.aload_n 0, 1) := by decide +kernel
theorem dX1_rejoin_29 : decode cX1_rejoin 29 = .ok (.getfield 11, 3) := by decide +kernel
theorem dX1_rejoin_32 : decode cX1_rejoin 32 = .ok (.iload_n 1, 1) := by decide +kernel
theorem dX1_rejoin_33 : decode cX1_rejoin 33 = .ok (.aaload, 1) := by decide +kernel
theorem dX1_rejoin_34 : decode cX1_rejoin 34 = .ok (.iload_n 2, 1) := by decide +kernel
theorem dX1_rejoin_35 : decode cX1_rejoin 35 = .ok (.aload_n 0, 1) := by decide +kernel
theorem dX1_rejoin_36 : decode cX1_rejoin 36 = .ok (.getfield 11, 3) := by decide +kernel
theorem dX1_rejoin_39 : decode cX1_rejoin 39 = .ok (.aload_n 0, 1) := by decide +kernel
theorem dX1_rejoin_40 : decode cX1_rejoin 40 = .ok (.getfield 38, 3) := by decide +kernel
theorem dX1_rejoin_43 : decode cX1_rejoin 43 = .ok (.aaload, 1) := by decide +kernel
theorem dX1_rejoin_44 : decode cX1_rejoin 44 = .ok (.iload_n 2, 1) := by decide +kernel
theorem dX1_rejoin_45 : decode cX1_rejoin 45 = .ok (.invokevirtual 64, 3) := by decide +kernel
theorem dX1_rejoin_48 : decode cX1_rejoin 48 = .ok (.invokevirtual 83, 3) := by decide +kernel
theorem dX1_rejoin_51 : decode cX1_rejoin 51 = .ok (.return_, 1) := by decide +kernel
set_option maxRecDepth 20000 in
theorem ggX1_put_X1_isPiece : GoodIn wsX1_put wsX1_isPiece := goodIn_r _ [8, 9, 10, 11, 12, 13, 14, 15] (by decide +kernel) (by decide +kernel)
set_option maxRecDepth 20000 in
theorem gX1_put_X1_isPiece : GoodIn wsX1_put (wsV RX1 54 RX1 yX1_isPiece wsX1_isPiece) := goodIn_app (goodIn_of _ (by decide +kernel)) ggX1_put_X1_isPiece
theorem dX1_put_0 : decode cX1_put 0 = .ok (.aload_n 0, 1) := by decide +kernel
theorem dX1_put_1 : decode cX1_put 1 = .ok (.iload_n 1, 1) := by decide +kernel
theorem dX1_put_2 : decode cX1_put 2 = .ok (.invokevirtual 54, 3) := by decide +kernel
theorem dX1_put_5 : decode cX1_put 5 = .ok (.ifCond .eq 30, 3) := by decide +kernel
theorem dX1_put_8 : decode cX1_put 8 = .ok (.iload_n 2, 1) := by decide +kernel
theorem dX1_put_9 : decode cX1_put 9 = .ok (.ifCond .lt 26, 3) := by decide +kernel
theorem dX1_put_12 : decode cX1_put 12 = .ok (.iload_n 2, 1) := by decide +kernel
theorem dX1_put_13 : decode cX1_put 13 = .ok (.bipush 6, 2) := by decide +kernel
theorem dX1_put_15 : decode cX1_put 15 = .ok (.if_icmp .ge 20, 3) := by decide +kernel
theorem dX1_put_18 : decode cX1_put 18 = .ok (.aload_n 0, 1) := by decide +kernel
theorem dX1_put_19 : decode cX1_put 19 = .ok (.getfield 11, 3) := by decide +kernel
theorem dX1_put_22 : decode cX1_put 22 = .ok (.iload_n 1, 1) := by decide +kernel
theorem dX1_put_23 : decode cX1_put 23 = .ok (.aaload, 1) := by decide +kernel
theorem dX1_put_24 : decode cX1_put 24 = .ok (.iload_n 2, 1) := by decide +kernel
theorem dX1_put_25 : decode cX1_put 25 = .ok (.putfield 58, 3) := by decide +kernel
theorem dX1_put_28 : decode cX1_put 28 = .ok (.aload_n 0, 1) := by decide +kernel
theorem dX1_put_29 : decode cX1_put 29 = .ok (.getfield 18, 3) := by decide +kernel
theorem dX1_put_32 : decode cX1_put 32 = .ok (.iload_n 2, 1) := by decide +kernel
theorem dX1_put_33 : decode cX1_put 33 = .ok (.iload_n 1, 1) := by decide +kernel
theorem dX1_put_34 : decode cX1_put 34 = .ok (.iastore, 1) := by decide +kernel
theorem dX1_put_35 : decode cX1_put 35 = .ok (.return_, 1) := by decide +kernel
set_option maxRecDepth 20000 in
theorem ggX1_lift_X1_isPiece : GoodIn wsX1_lift wsX1_isPiece := goodIn_r _ [8, 9, 10, 11, 12, 13, 14, 15] (by decide +kernel) (by decide +kernel)
set_option maxRecDepth 20000 in
theorem gX1_lift_X1_isPiece : GoodIn wsX1_lift (wsV RX1 54 RX1 yX1_isPiece wsX1_isPiece) := goodIn_app (goodIn_of _ (by decide +kernel)) ggX1_lift_X1_isPiece
theorem dX1_lift_0 : decode cX1_lift 0 = .ok (.aload_n 0, 1) := by decide +kernel
theorem dX1_lift_1 : decode cX1_lift 1 = .ok (.iload_n 1, 1) := by decide +kernel
theorem dX1_lift_2 : decode cX1_lift 2 = .ok (.invokevirtual 54, 3) := by decide +kernel
theorem dX1_lift_5 : decode cX1_lift 5 = .ok (.ifCond .eq 30, 3) := by decide +kernel
theorem dX1_lift_8 : decode cX1_lift 8 = .ok (.iload_n 2, 1) := by decide +kernel
theorem dX1_lift_9 : decode cX1_lift 9 = .ok (.ifCond .lt 26, 3) := by decide +kernel
theorem dX1_lift_12 : decode cX1_lift 12 = .ok (.iload_n 2, 1) := by decide +kernel
theorem dX1_lift_13 : decode cX1_lift 13 = .ok (.bipush 6, 2) := by decide +kernel
theorem dX1_lift_15 : decode cX1_lift 15 = .ok (.if_icmp .ge 20, 3) := by decide +kernel
theorem dX1_lift_18 : decode cX1_lift 18 = .ok (.aload_n 0, 1) := by decide +kernel
theorem dX1_lift_19 : decode cX1_lift 19 = .ok (.getfield 11, 3) := by decide +kernel
theorem dX1_lift_22 : decode cX1_lift 22 = .ok (.iload_n 1, 1) := by decide +kernel
theorem dX1_lift_23 : decode cX1_lift 23 = .ok (.aaload, 1) := by decide +kernel
theorem dX1_lift_24 : decode cX1_lift 24 = .ok (.iconst (-1), 1) := by decide +kernel
theorem dX1_lift_25 : decode cX1_lift 25 = .ok (.putfield 58, 3) := by decide +kernel
theorem dX1_lift_28 : decode cX1_lift 28 = .ok (.aload_n 0, 1) := by decide +kernel
theorem dX1_lift_29 : decode cX1_lift 29 = .ok (.getfield 18, 3) := by decide +kernel
theorem dX1_lift_32 : decode cX1_lift 32 = .ok (.iload_n 2, 1) := by decide +kernel
theorem dX1_lift_33 : decode cX1_lift 33 = .ok (.iconst (-1), 1) := by decide +kernel
theorem dX1_lift_34 : decode cX1_lift 34 = .ok (.iastore, 1) := by decide +kernel
theorem dX1_lift_35 : decode cX1_lift 35 = .ok (.return_, 1) := by decide +kernel
set_option maxRecDepth 20000 in
theorem ggX1_trade_X1_put : GoodIn wsX1_trade wsX1_put := goodIn_r _ [6, 7, 8, 1, 9, 10, 11, 5, 12, 13, 14, 15, 16, 17, 18, 19, 20, 21, 22, 23, 24, 25, 26] (by decide +kernel) (by decide +kernel)
set_option maxRecDepth 20000 in
theorem gX1_trade_X1_put : GoodIn wsX1_trade (wsV RX1 86 RX1 yX1_put wsX1_put) := goodIn_app (goodIn_of _ (by decide +kernel)) ggX1_trade_X1_put
theorem dX1_trade_0 : decode cX1_trade 0 = .ok (.iload_n 1, 1) := by decide +kernel
theorem dX1_trade_1 : decode cX1_trade 1 = .ok (.ifCond .lt 19, 3) := by decide +kernel
theorem dX1_trade_4 : decode cX1_trade 4 = .ok (.iload_n 1, 1) := by decide +kernel
theorem dX1_trade_5 : decode cX1_trade 5 = .ok (.bipush 6, 2) := by decide +kernel
theorem dX1_trade_7 : decode cX1_trade 7 = .ok (.if_icmp .ge 13, 3) := by decide +kernel
theorem dX1_trade_10 : decode cX1_trade 10 = .ok (.iload_n 2, 1) := by decide +kernel
theorem dX1_trade_11 : decode cX1_trade 11 = .ok (.ifCond .lt 9, 3) := by decide +kernel
theorem dX1_trade_14 : decode cX1_trade 14 = .ok (.iload_n 2, 1) := by decide +kernel
theorem dX1_trade_15 : decode cX1_trade 15 = .ok (.bipush 6, 2) := by decide +kernel
theorem dX1_trade_17 : decode cX1_trade 17 = .ok (.if_icmp .lt 4, 3) := by decide +kernel
theorem dX1_trade_20 : decode cX1_trade 20 = .ok (.return_, 1) := by decide +kernel
theorem dX1_trade_21 : decode cX1_trade 21 = .ok (.aload_n 0, 1) := by decide +kernel
theorem dX1_trade_22 : decode cX1_trade 22 = .ok (.getfield 18, 3) := by decide +kernel
theorem dX1_trade_25 : decode cX1_trade 25 = .ok (.iload_n 1, 1) := by decide +kernel
theorem dX1_trade_26 : decode cX1_trade 26 = .ok (.iaload, 1) := by decide +kernel
theorem dX1_trade_27 : decode cX1_trade 27 = .ok (.istore_n 3, 1) := by decide +kernel
theorem dX1_trade_28 : decode cX1_trade 28 = .ok (.aload_n 0, 1) := by decide +kernel
theorem dX1_trade_29 : decode cX1_trade 29 = .ok (.aload_n 0, 1) := by decide +kernel
theorem dX1_trade_30 : decode cX1_trade 30 = .ok (.getfield 18, 3) := by decide +kernel
theorem dX1_trade_33 : decode cX1_trade 33 = .ok (.iload_n 2, 1) := by decide +kernel
theorem dX1_trade_34 : decode cX1_trade 34 = .ok (.iaload, 1) := by decide +kernel
theorem dX1_trade_35 : decode cX1_trade 35 = .ok (.iload_n 1, 1) := by decide +kernel
theorem dX1_trade_36 : decode cX1_trade 36 = .ok (.invokevirtual 86, 3) := by decide +kernel
theorem dX1_trade_39 : decode cX1_trade 39 = .ok (.aload_n 0, 1) := by decide +kernel
theorem dX1_trade_40 : decode cX1_trade 40 = .ok (.iload_n 3, 1) := by decide +kernel
theorem dX1_trade_41 : decode cX1_trade 41 = .ok (.iload_n 2, 1) := by decide +kernel
theorem dX1_trade_42 : decode cX1_trade 42 = .ok (.invokevirtual 86, 3) := by decide +kernel
theorem dX1_trade_45 : decode cX1_trade 45 = .ok (.return_, 1) := by decide +kernel
theorem dX1_platesFilled_0 : decode cX1_platesFilled 0 = .ok (.iconst 0, 1) := by decide +kernel
theorem dX1_platesFilled_1 : decode cX1_platesFilled 1 = .ok (.istore_n 1, 1) := by decide +kernel
theorem dX1_platesFilled_2 : decode cX1_platesFilled 2 = .ok (.iconst 0, 1) := by decide +kernel
theorem dX1_platesFilled_3 : decode cX1_platesFilled 3 = .ok (.istore_n 2, 1) := by decide +kernel
theorem dX1_platesFilled_4 : decode cX1_platesFilled 4 = .ok (.iload_n 2, 1) := by decide +kernel
theorem dX1_platesFilled_5 : decode cX1_platesFilled 5 = .ok (.bipush 6, 2) := by decide +kernel
theorem dX1_platesFilled_7 : decode cX1_platesFilled 7 = .ok (.if_icmp .ge 22, 3) := by decide +kernel
theorem dX1_platesFilled_10 : decode cX1_platesFilled 10 = .ok (.aload_n 0, 1) := by decide +kernel
theorem dX1_platesFilled_11 : decode cX1_platesFilled 11 = .ok (.getfield 18, 3) := by decide +kernel
theorem dX1_platesFilled_14 : decode cX1_platesFilled 14 = .ok (.iload_n 2, 1) := by decide +kernel
theorem dX1_platesFilled_15 : decode cX1_platesFilled 15 = .ok (.iaload, 1) := by decide +kernel
theorem dX1_platesFilled_16 : decode cX1_platesFilled 16 = .ok (.iconst (-1), 1) := by decide +kernel
theorem dX1_platesFilled_17 : decode cX1_platesFilled 17 = .ok (.if_icmp .eq 6, 3) := by decide +kernel
theorem dX1_platesFilled_20 : decode cX1_platesFilled 20 = .ok (.iinc 1 1, 3) := by decide +kernel
theorem dX1_platesFilled_23 : decode cX1_platesFilled 23 = .ok (.iinc 2 1, 3) := by decide +kernel
theorem dX1_platesFilled_26 : decode cX1_platesFilled 26 = .ok (.goto (-22), 3) := by decide +kernel
theorem dX1_platesFilled_29 : decode cX1_platesFilled 29 = .ok (.iload_n 1, 1) := by decide +kernel
theorem dX1_platesFilled_30 : decode cX1_platesFilled 30 = .ok (.ireturn, 1) := by decide +kernel
theorem dX1_brokenSet_0 : decode cX1_brokenSet 0 = .ok (.iconst 0, 1) := by decide +kernel
theorem dX1_brokenSet_1 : decode cX1_brokenSet 1 = .ok (.istore_n 1, 1) := by decide +kernel
theorem dX1_brokenSet_2 : decode cX1_brokenSet 2 = .ok (.iconst 0, 1) := by decide +kernel
theorem dX1_brokenSet_3 : decode cX1_brokenSet 3 = .ok (.istore_n 2, 1) := by decide +kernel
theorem dX1_brokenSet_4 : decode cX1_brokenSet 4 = .ok (.iload_n 2, 1) := by decide +kernel
theorem dX1_brokenSet_5 : decode cX1_brokenSet 5 = .ok (.aload_n 0, 1) := by decide +kernel
theorem dX1_brokenSet_6 : decode cX1_brokenSet 6 = .ok (.getfield 38, 3) := by decide +kernel
theorem dX1_brokenSet_9 : decode cX1_brokenSet 9 = .ok (.if_icmp .ge 27, 3) := by decide +kernel
theorem dX1_brokenSet_12 : decode cX1_brokenSet 12 = .ok (.aload_n 0, 1) := by decide +kernel
theorem dX1_brokenSet_13 : decode cX1_brokenSet 13 = .ok (.getfield 11, 3) := by decide +kernel
theorem dX1_brokenSet_16 : decode cX1_brokenSet 16 = .ok (.iload_n 2, 1) := by decide +kernel
theorem dX1_brokenSet_17 : decode cX1_brokenSet 17 = .ok (.aaload, 1) := by decide +kernel
theorem dX1_brokenSet_18 : decode cX1_brokenSet 18 = .ok (.getfield 79, 3) := by decide +kernel
theorem dX1_brokenSet_21 : decode cX1_brokenSet 21 = .ok (.ifCond .eq 9, 3) := by decide +kernel
theorem dX1_brokenSet_24 : decode cX1_brokenSet 24 = .ok (.iload_n 1, 1) := by decide +kernel
theorem dX1_brokenSet_25 : decode cX1_brokenSet 25 = .ok (.iconst 1, 1) := by decide +kernel
theorem dX1_brokenSet_26 : decode cX1_brokenSet 26 = .ok (.iload_n 2, 1) := by decide +kernel
theorem dX1_brokenSet_27 : decode cX1_brokenSet 27 = .ok (.ishl, 1) := by decide +kernel
theorem dX1_brokenSet_28 : decode cX1_brokenSet 28 = .ok (.ior, 1) := by decide +kernel
theorem dX1_brokenSet_29 : decode cX1_brokenSet 29 = .ok (.istore_n 1, 1) := by decide +kernel
theorem dX1_brokenSet_30 : decode cX1_brokenSet 30 = .ok (.iinc 2 1, 3) := by decide +kernel
theorem dX1_brokenSet_33 : decode cX1_brokenSet 33 = .ok (.goto (-29), 3) := by decide +kernel
theorem dX1_brokenSet_36 : decode cX1_brokenSet 36 = .ok (.iload_n 1, 1) := by decide +kernel
theorem dX1_brokenSet_37 : decode cX1_brokenSet 37 = .ok (.ireturn, 1) := by decide +kernel
theorem in_X1_lay_X7 : ∀ w ∈ wsX70, w ∈ wsX1_lay := fun _ h => (List.mem_cons_of_mem _ (List.mem_append_left _ (List.mem_append_left _ (List.mem_append_right _ h))))
theorem in_X1_lay_X1 : ∀ w ∈ wsX10, w ∈ wsX1_lay := fun _ h => (List.mem_cons_of_mem _ (List.mem_append_left _ (List.mem_append_right _ h)))
def fn_X1_lay_48 : Nat → Nat → Nat → Int32 → St → Option (St)
  | 0, _, _, _, _ => none
  | n + 1, p0, p1, v2, z => (if 6 ≤ v2 then nm (sI z p0 3 0) (fun z2 => nm (sI z2 p0 4 (z2.1 p1 14)) (fun z3 => some z3)) else gd (ix v2 6) (nm (sI z (p0 + 26) (Int32.toNatClampNeg v2) (-1)) (fun z5 => fn_X1_lay_48   n p0 p1 (v2 + 1) z5)))
set_option maxHeartbeats 4000000 in
set_option maxRecDepth 100000 in
theorem pf_X1_lay_48 {p : Program} {l : Launch} {e : Env} {s : State} {m : MethodId} {args : Array Value} {below : List Frame} {meth : Method} {c : Code} {G : wG} (C : CX p s m args meth c cX1_lay 3 wsX1_lay RX1 none G) {Rz : St} : ∀ (n : Nat) (p0 : Nat) (p1 : Nat) (v2 : Int32) (z : St) (hk0 : kd p0 = 1) (hk1 : kd p1 = 7) (H : Heap) (locs : List Loc) (ls : Array Slot), WP G z H → va_S (AW G) s.heap H locs → lv_has ls 3 [(0, .ref (G.2.2 p0)), (1, .ref (G.2.2 p1)), (2, .int v2)] → fn_X1_lay_48   n p0 p1 v2 z = some Rz → W p l e (rmd 2) s m args below meth c H locs 0 0 (QV below args s G Rz) (F0 m 48 ls []) := by
  obtain ⟨hx, hb, hml, hown, hts, hr, hlocks, hK, hG⟩ := id C
  intro n
  induction n with
  | zero => intro p0 p1 v2 z hk0 hk1 H locs ls hP hS hl h; cases h
  | succ n ih =>
    intro p0 p1 v2 z hk0 hk1 H locs ls hP hS hl h
    rw [fn_X1_lay_48] at h
    refine lv_iload_n hx hb dX1_lay_48 rfl (lv_at hl 2 rfl) ?_
    refine lv_bipush (v := 6) hx hb dX1_lay_49 (by decide) ?_
    refine lv_icmp_ge (tgt := 67) hx hb dX1_lay_51 (by decide) (fun c1 => ?_) (fun c1 => ?_)
    · rw [if_pos c1] at h
      refine lv_aload_n hx hb dX1_lay_67 rfl (lv_at hl 0 rfl) ?_
      refine lv_iconst (v := 0) hx hb dX1_lay_68 (by decide) ?_
      obtain ⟨z2, e_z2, h⟩ := nm_s h
      refine pu_1_3 hx hb hts in_X1_lay_X1 hown hK hG hP hS hk0 (hts _ (List.mem_of_getElem? (i := 7) rfl)) dX1_lay_69 (fun H locs hP hS => ?_)
      rw [← e_z2] at hP
      refine lv_aload_n hx hb dX1_lay_72 rfl (lv_at hl 0 rfl) ?_
      refine lv_aload_n hx hb dX1_lay_73 rfl (lv_at hl 1 rfl) ?_
      refine ge_7_14 hx hb hts in_X1_lay_X7 hown hK hP hk1 (hts _ (List.mem_of_getElem? (i := 8) rfl)) dX1_lay_74 ?_
      obtain ⟨z3, e_z3, h⟩ := nm_s h
      refine pu_1_4 hx hb hts in_X1_lay_X1 hown hK hG hP hS hk0 (hts _ (List.mem_of_getElem? (i := 9) rfl)) dX1_lay_77 (fun H locs hP hS => ?_)
      rw [← e_z3] at hP
      exact x_vret hx hb hr hlocks hK hP hS h dX1_lay_80
    · rw [if_neg c1] at h
      refine lv_aload_n hx hb dX1_lay_54 rfl (lv_at hl 0 rfl) ?_
      refine ge_1_1 hx hb hts in_X1_lay_X1 hown hK hP hk0 (hts _ (List.mem_of_getElem? (i := 6) rfl)) dX1_lay_55 ?_
      refine lv_iload_n hx hb dX1_lay_58 rfl (lv_at hl 2 rfl) ?_
      refine lv_iconst (v := (-1)) hx hb dX1_lay_59 (by decide) ?_
      obtain ⟨g4, h⟩ := gd_s h
      obtain ⟨z5, e_z5, h⟩ := nm_s h
      refine xs_14 hx hb hK hG hP hS (kf_1_1 hk0) (lf_1_1 hk0) (ix_in g4) dX1_lay_60 (fun H locs hP hS => ?_)
      rw [← e_z5] at hP
      refine lv_iinc (v := (v2 + 1)) (lv' := [(2, .int (v2 + 1)), (0, .ref (G.2.2 p0)), (1, .ref (G.2.2 p1))]) hx hb dX1_lay_61 hl (k := 2) rfl rfl (by decide) rfl (fun ls hl => ?_)
      refine lv_goto (tgt := 48) hx hb dX1_lay_64 (by decide) ?_
      exact ih p0 p1 (v2 + 1) z5 hk0 hk1 _ _ _ hP hS (lv_sub hl [1, 2, 0] rfl) h
def fn_X1_lay_2 : Nat → Nat → Nat → Int32 → St → Option (St)
  | 0, _, _, _, _ => none
  | n + 1, p0, p1, v2, z => (if (z.1 p1 0) ≤ v2 then nm (sI z p0 2 (z.1 p1 0)) (fun z2 => fn_X1_lay_48   fu p0 p1 0 z2) else gd (ix v2 24) (gd (ix v2 3) (gd (ix v2 3) (bv (fn_X9_layWhole  ((p0 + 1) + 1 + (Int32.toNatClampNeg v2)) v2 (z.1 (p1 + 2) (Int32.toNatClampNeg v2)) (z.1 (p1 + 3) (Int32.toNatClampNeg v2)) z) (fun z7 => fn_X1_lay_2   n p0 p1 (v2 + 1) z7)))))
set_option maxHeartbeats 4000000 in
set_option maxRecDepth 100000 in
theorem pf_X1_lay_2 {p : Program} {l : Launch} {e : Env} {s : State} {m : MethodId} {args : Array Value} {below : List Frame} {meth : Method} {c : Code} {G : wG} (C : CX p s m args meth c cX1_lay 3 wsX1_lay RX1 none G) {Rz : St} : ∀ (n : Nat) (p0 : Nat) (p1 : Nat) (v2 : Int32) (z : St) (hk0 : kd p0 = 1) (hk1 : kd p1 = 7) (H : Heap) (locs : List Loc) (ls : Array Slot), WP G z H → va_S (AW G) s.heap H locs → lv_has ls 3 [(0, .ref (G.2.2 p0)), (1, .ref (G.2.2 p1)), (2, .int v2)] → fn_X1_lay_2   n p0 p1 v2 z = some Rz → W p l e (rmd 2) s m args below meth c H locs 0 0 (QV below args s G Rz) (F0 m 2 ls []) := by
  obtain ⟨hx, hb, hml, hown, hts, hr, hlocks, hK, hG⟩ := id C
  intro n
  induction n with
  | zero => intro p0 p1 v2 z hk0 hk1 H locs ls hP hS hl h; cases h
  | succ n ih =>
    intro p0 p1 v2 z hk0 hk1 H locs ls hP hS hl h
    rw [fn_X1_lay_2] at h
    refine lv_iload_n hx hb dX1_lay_2 rfl (lv_at hl 2 rfl) ?_
    refine lv_aload_n hx hb dX1_lay_3 rfl (lv_at hl 1 rfl) ?_
    refine ge_7_0 hx hb hts in_X1_lay_X7 hown hK hP hk1 (hts _ (List.mem_of_getElem? (i := 1) rfl)) dX1_lay_4 ?_
    refine lv_icmp_ge (tgt := 38) hx hb dX1_lay_7 (by decide) (fun c1 => ?_) (fun c1 => ?_)
    · rw [if_pos c1] at h
      refine lv_aload_n hx hb dX1_lay_38 rfl (lv_at hl 0 rfl) ?_
      refine lv_aload_n hx hb dX1_lay_39 rfl (lv_at hl 1 rfl) ?_
      refine ge_7_0 hx hb hts in_X1_lay_X7 hown hK hP hk1 (hts _ (List.mem_of_getElem? (i := 1) rfl)) dX1_lay_40 ?_
      obtain ⟨z2, e_z2, h⟩ := nm_s h
      refine pu_1_2 hx hb hts in_X1_lay_X1 hown hK hG hP hS hk0 (hts _ (List.mem_of_getElem? (i := 5) rfl)) dX1_lay_43 (fun H locs hP hS => ?_)
      rw [← e_z2] at hP
      refine lv_iconst (v := 0) hx hb dX1_lay_46 (by decide) ?_
      refine lv_istore_n (lv' := [(2, .int 0), (0, .ref (G.2.2 p0)), (1, .ref (G.2.2 p1))]) hx hb dX1_lay_47 rfl hl (by decide) rfl (fun ls hl => ?_)
      exact pf_X1_lay_48 C   fu p0 p1 0 z2 hk0 hk1 _ _ _ hP hS (lv_sub hl [1, 2, 0] rfl) h
    · rw [if_neg c1] at h
      refine lv_aload_n hx hb dX1_lay_10 rfl (lv_at hl 0 rfl) ?_
      refine ge_1_0 hx hb hts in_X1_lay_X1 hown hK hP hk0 (hts _ (List.mem_of_getElem? (i := 2) rfl)) dX1_lay_11 ?_
      refine lv_iload_n hx hb dX1_lay_14 rfl (lv_at hl 2 rfl) ?_
      obtain ⟨g3, h⟩ := gd_s h
      refine xl_18 hx hb hK hP (kf_1_0 hk0) (lf_1_0 hk0) (ix_in g3) dX1_lay_15 ?_
      refine lv_iload_n hx hb dX1_lay_16 rfl (lv_at hl 2 rfl) ?_
      refine lv_aload_n hx hb dX1_lay_17 rfl (lv_at hl 1 rfl) ?_
      refine ge_7_2 hx hb hts in_X1_lay_X7 hown hK hP hk1 (hts _ (List.mem_of_getElem? (i := 3) rfl)) dX1_lay_18 ?_
      refine lv_iload_n hx hb dX1_lay_21 rfl (lv_at hl 2 rfl) ?_
      obtain ⟨g4, h⟩ := gd_s h
      refine xl_14 hx hb hK hP (kf_7_2 hk1) (lf_7_2 hk1) (ix_in g4) dX1_lay_22 ?_
      refine lv_aload_n hx hb dX1_lay_23 rfl (lv_at hl 1 rfl) ?_
      refine ge_7_3 hx hb hts in_X1_lay_X7 hown hK hP hk1 (hts _ (List.mem_of_getElem? (i := 4) rfl)) dX1_lay_24 ?_
      refine lv_iload_n hx hb dX1_lay_27 rfl (lv_at hl 2 rfl) ?_
      obtain ⟨g5, h⟩ := gd_s h
      refine xl_14 hx hb hK hP (kf_7_3 hk1) (lf_7_3 hk1) (ix_in g5) dX1_lay_28 ?_
      obtain ⟨z7, h6, h⟩ := bv_s h
      refine x_Vv (Rz := z7) (As := [.int v2, .int (z.1 (p1 + 2) (Int32.toNatClampNeg v2)), .int (z.1 (p1 + 3) (Int32.toNatClampNeg v2))]) (rest := []) ⟨hx, hb, hml, hown, hts⟩ hK hP hS (kd_lt (ke_18 (kf_1_0 hk0) (ix_lt g3)) (by decide)) (cell_9 (ke_18 (kf_1_0 hk0) (ix_lt g3))) rfl (m_X9_layWhole hG  (ke_18 (kf_1_0 hk0) (ix_lt g3)) h6) (cwV 3 hts gX1_lay_X9_layWhole rfl rfl rfl (by decide +kernel) (rmd_ok (by decide) (by decide))) rfl hl.1 rfl (Nat.le_of_ble_eq_true rfl) dX1_lay_29 ⟨Nat.le_refl _, Nat.le_refl _⟩ (fun H locs hP hS => ?_)
      refine lv_iinc (v := (v2 + 1)) (lv' := [(2, .int (v2 + 1)), (0, .ref (G.2.2 p0)), (1, .ref (G.2.2 p1))]) hx hb dX1_lay_32 hl (k := 2) rfl rfl (by decide) rfl (fun ls hl => ?_)
      refine lv_goto (tgt := 2) hx hb dX1_lay_35 (by decide) ?_
      exact ih p0 p1 (v2 + 1) z7 hk0 hk1 _ _ _ hP hS (lv_sub hl [1, 2, 0] rfl) h
def fn_X1_lay (p0 : Nat) (p1 : Nat) (z : St) : Option (St) := fn_X1_lay_2   fu p0 p1 0 z
set_option maxHeartbeats 4000000 in
set_option maxRecDepth 100000 in
theorem m_X1_lay {l : Launch} {G : wG} (hG : Ok G) {p0 : Nat} {p1 : Nat} {z : St} {Rz : St} (hk0 : kd p0 = 1) (hk1 : kd p1 = 7) (h : fn_X1_lay  p0 p1 z = some Rz) : Met l yX1_lay wsX1_lay (rmd 2) (va_Pc [.ref (G.2.2 p0), .ref (G.2.2 p1)] (Pre G z)) (va_Qv (fun u => u = Rz) (Pre G) (AW G)) 0 0 (AW G) := by
  refine Met.ofW (cc := cX1_lay) (maxL := 3) (ret := none) (by decide) rfl ?_
  intro p e s m args below meth c s₁ B hml hv
  obtain ⟨rfl, hP, hK⟩ := hv
  have C : CX p s m ([.ref (G.2.2 p0), .ref (G.2.2 p1)] : List Value).toArray meth c cX1_lay 3 wsX1_lay RX1 none G := ⟨B.exec, B.bytes, hml, findClass_of_methodNamed B.named, atoms_spec (ws := wsX1_lay) B.pre, B.returns, B.notSynchronized, hK, hG⟩
  obtain ⟨hx, hb, -, hown, hts, hr, hlocks, -, -⟩ := id C
  have hS : va_S (AW G) s.heap s.heap [] := va_S.rf
  have hl := lv_entry [.ref (G.2.2 p0), .ref (G.2.2 p1)] (n := 3) (Nat.le_of_ble_eq_true rfl)
  rw [lg_entry_eq]
  generalize (lg_sl [.ref (G.2.2 p0), .ref (G.2.2 p1)] ++ List.replicate (3 - (lg_sl [.ref (G.2.2 p0), .ref (G.2.2 p1)]).length) Slot.unset).toArray = ls at hl ⊢
  have hl : lv_has ls 3 [(0, .ref (G.2.2 p0)), (1, .ref (G.2.2 p1))] := hl
  unfold fn_X1_lay at h
  refine lv_iconst (v := 0) hx hb dX1_lay_0 (by decide) ?_
  refine lv_istore_n (lv' := [(2, .int 0), (0, .ref (G.2.2 p0)), (1, .ref (G.2.2 p1))]) hx hb dX1_lay_1 rfl hl (by decide) rfl (fun ls hl => ?_)
  exact pf_X1_lay_2 C   fu p0 p1 0 z hk0 hk1 _ _ _ hP hS (lv_sub hl [1, 2, 0] rfl) h
theorem in_X1_takeFrom_X1 : ∀ w ∈ wsX10, w ∈ wsX1_takeFrom := fun _ h => (List.mem_cons_of_mem _ (List.mem_append_left _ (List.mem_append_right _ h)))
def fn_X1_takeFrom_33 : Nat → Nat → Nat → Int32 → St → Option (St)
  | 0, _, _, _, _ => none
  | n + 1, p0, p1, v2, z => (if 6 ≤ v2 then nm (sI z p0 2 (z.1 p1 2)) (fun z2 => nm (sI z2 p0 3 (z2.1 p1 3)) (fun z3 => nm (sI z3 p0 4 (z3.1 p1 4)) (fun z4 => some z4))) else gd (ix v2 6) (gd (ix v2 6) (nm (sI z (p0 + 26) (Int32.toNatClampNeg v2) (z.1 (p1 + 26) (Int32.toNatClampNeg v2))) (fun z7 => fn_X1_takeFrom_33   n p0 p1 (v2 + 1) z7))))
set_option maxHeartbeats 4000000 in
set_option maxRecDepth 100000 in
theorem pf_X1_takeFrom_33 {p : Program} {l : Launch} {e : Env} {s : State} {m : MethodId} {args : Array Value} {below : List Frame} {meth : Method} {c : Code} {G : wG} (C : CX p s m args meth c cX1_takeFrom 3 wsX1_takeFrom RX1 none G) {Rz : St} : ∀ (n : Nat) (p0 : Nat) (p1 : Nat) (v2 : Int32) (z : St) (hk0 : kd p0 = 1) (hk1 : kd p1 = 1) (H : Heap) (locs : List Loc) (ls : Array Slot), WP G z H → va_S (AW G) s.heap H locs → lv_has ls 3 [(0, .ref (G.2.2 p0)), (1, .ref (G.2.2 p1)), (2, .int v2)] → fn_X1_takeFrom_33   n p0 p1 v2 z = some Rz → W p l e (rmd 2) s m args below meth c H locs 0 0 (QV below args s G Rz) (F0 m 33 ls []) := by
  obtain ⟨hx, hb, hml, hown, hts, hr, hlocks, hK, hG⟩ := id C
  intro n
  induction n with
  | zero => intro p0 p1 v2 z hk0 hk1 H locs ls hP hS hl h; cases h
  | succ n ih =>
    intro p0 p1 v2 z hk0 hk1 H locs ls hP hS hl h
    rw [fn_X1_takeFrom_33] at h
    refine lv_iload_n hx hb dX1_takeFrom_33 rfl (lv_at hl 2 rfl) ?_
    refine lv_bipush (v := 6) hx hb dX1_takeFrom_34 (by decide) ?_
    refine lv_icmp_ge (tgt := 57) hx hb dX1_takeFrom_36 (by decide) (fun c1 => ?_) (fun c1 => ?_)
    · rw [if_pos c1] at h
      refine lv_aload_n hx hb dX1_takeFrom_57 rfl (lv_at hl 0 rfl) ?_
      refine lv_aload_n hx hb dX1_takeFrom_58 rfl (lv_at hl 1 rfl) ?_
      refine ge_1_2 hx hb hts in_X1_takeFrom_X1 hown hK hP hk1 (hts _ (List.mem_of_getElem? (i := 1) rfl)) dX1_takeFrom_59 ?_
      obtain ⟨z2, e_z2, h⟩ := nm_s h
      refine pu_1_2 hx hb hts in_X1_takeFrom_X1 hown hK hG hP hS hk0 (hts _ (List.mem_of_getElem? (i := 1) rfl)) dX1_takeFrom_62 (fun H locs hP hS => ?_)
      rw [← e_z2] at hP
      refine lv_aload_n hx hb dX1_takeFrom_65 rfl (lv_at hl 0 rfl) ?_
      refine lv_aload_n hx hb dX1_takeFrom_66 rfl (lv_at hl 1 rfl) ?_
      refine ge_1_3 hx hb hts in_X1_takeFrom_X1 hown hK hP hk1 (hts _ (List.mem_of_getElem? (i := 4) rfl)) dX1_takeFrom_67 ?_
      obtain ⟨z3, e_z3, h⟩ := nm_s h
      refine pu_1_3 hx hb hts in_X1_takeFrom_X1 hown hK hG hP hS hk0 (hts _ (List.mem_of_getElem? (i := 4) rfl)) dX1_takeFrom_70 (fun H locs hP hS => ?_)
      rw [← e_z3] at hP
      refine lv_aload_n hx hb dX1_takeFrom_73 rfl (lv_at hl 0 rfl) ?_
      refine lv_aload_n hx hb dX1_takeFrom_74 rfl (lv_at hl 1 rfl) ?_
      refine ge_1_4 hx hb hts in_X1_takeFrom_X1 hown hK hP hk1 (hts _ (List.mem_of_getElem? (i := 5) rfl)) dX1_takeFrom_75 ?_
      obtain ⟨z4, e_z4, h⟩ := nm_s h
      refine pu_1_4 hx hb hts in_X1_takeFrom_X1 hown hK hG hP hS hk0 (hts _ (List.mem_of_getElem? (i := 5) rfl)) dX1_takeFrom_78 (fun H locs hP hS => ?_)
      rw [← e_z4] at hP
      exact x_vret hx hb hr hlocks hK hP hS h dX1_takeFrom_81
    · rw [if_neg c1] at h
      refine lv_aload_n hx hb dX1_takeFrom_39 rfl (lv_at hl 0 rfl) ?_
      refine ge_1_1 hx hb hts in_X1_takeFrom_X1 hown hK hP hk0 (hts _ (List.mem_of_getElem? (i := 3) rfl)) dX1_takeFrom_40 ?_
      refine lv_iload_n hx hb dX1_takeFrom_43 rfl (lv_at hl 2 rfl) ?_
      refine lv_aload_n hx hb dX1_takeFrom_44 rfl (lv_at hl 1 rfl) ?_
      refine ge_1_1 hx hb hts in_X1_takeFrom_X1 hown hK hP hk1 (hts _ (List.mem_of_getElem? (i := 3) rfl)) dX1_takeFrom_45 ?_
      refine lv_iload_n hx hb dX1_takeFrom_48 rfl (lv_at hl 2 rfl) ?_
      obtain ⟨g5, h⟩ := gd_s h
      refine xl_14 hx hb hK hP (kf_1_1 hk1) (lf_1_1 hk1) (ix_in g5) dX1_takeFrom_49 ?_
      obtain ⟨g6, h⟩ := gd_s h
      obtain ⟨z7, e_z7, h⟩ := nm_s h
      refine xs_14 hx hb hK hG hP hS (kf_1_1 hk0) (lf_1_1 hk0) (ix_in g6) dX1_takeFrom_50 (fun H locs hP hS => ?_)
      rw [← e_z7] at hP
      refine lv_iinc (v := (v2 + 1)) (lv' := [(2, .int (v2 + 1)), (0, .ref (G.2.2 p0)), (1, .ref (G.2.2 p1))]) hx hb dX1_takeFrom_51 hl (k := 2) rfl rfl (by decide) rfl (fun ls hl => ?_)
      refine lv_goto (tgt := 33) hx hb dX1_takeFrom_54 (by decide) ?_
      exact ih p0 p1 (v2 + 1) z7 hk0 hk1 _ _ _ hP hS (lv_sub hl [1, 2, 0] rfl) h
def fn_X1_takeFrom_2 : Nat → Nat → Nat → Int32 → St → Option (St)
  | 0, _, _, _, _ => none
  | n + 1, p0, p1, v2, z => (if (z.1 p1 2) ≤ v2 then fn_X1_takeFrom_33   fu p0 p1 0 z else gd (ix v2 24) (gd (ix v2 24) (bv (fn_X9_takeFrom  ((p0 + 1) + 1 + (Int32.toNatClampNeg v2)) ((p1 + 1) + 1 + (Int32.toNatClampNeg v2)) z) (fun z5 => fn_X1_takeFrom_2   n p0 p1 (v2 + 1) z5))))
set_option maxHeartbeats 4000000 in
set_option maxRecDepth 100000 in
theorem pf_X1_takeFrom_2 {p : Program} {l : Launch} {e : Env} {s : State} {m : MethodId} {args : Array Value} {below : List Frame} {meth : Method} {c : Code} {G : wG} (C : CX p s m args meth c cX1_takeFrom 3 wsX1_takeFrom RX1 none G) {Rz : St} : ∀ (n : Nat) (p0 : Nat) (p1 : Nat) (v2 : Int32) (z : St) (hk0 : kd p0 = 1) (hk1 : kd p1 = 1) (H : Heap) (locs : List Loc) (ls : Array Slot), WP G z H → va_S (AW G) s.heap H locs → lv_has ls 3 [(0, .ref (G.2.2 p0)), (1, .ref (G.2.2 p1)), (2, .int v2)] → fn_X1_takeFrom_2   n p0 p1 v2 z = some Rz → W p l e (rmd 2) s m args below meth c H locs 0 0 (QV below args s G Rz) (F0 m 2 ls []) := by
  obtain ⟨hx, hb, hml, hown, hts, hr, hlocks, hK, hG⟩ := id C
  intro n
  induction n with
  | zero => intro p0 p1 v2 z hk0 hk1 H locs ls hP hS hl h; cases h
  | succ n ih =>
    intro p0 p1 v2 z hk0 hk1 H locs ls hP hS hl h
    rw [fn_X1_takeFrom_2] at h
    refine lv_iload_n hx hb dX1_takeFrom_2 rfl (lv_at hl 2 rfl) ?_
    refine lv_aload_n hx hb dX1_takeFrom_3 rfl (lv_at hl 1 rfl) ?_
    refine ge_1_2 hx hb hts in_X1_takeFrom_X1 hown hK hP hk1 (hts _ (List.mem_of_getElem? (i := 1) rfl)) dX1_takeFrom_4 ?_
    refine lv_icmp_ge (tgt := 31) hx hb dX1_takeFrom_7 (by decide) (fun c1 => ?_) (fun c1 => ?_)
    · rw [if_pos c1] at h
      refine lv_iconst (v := 0) hx hb dX1_takeFrom_31 (by decide) ?_
      refine lv_istore_n (lv' := [(2, .int 0), (0, .ref (G.2.2 p0)), (1, .ref (G.2.2 p1))]) hx hb dX1_takeFrom_32 rfl hl (by decide) rfl (fun ls hl => ?_)
      exact pf_X1_takeFrom_33 C   fu p0 p1 0 z hk0 hk1 _ _ _ hP hS (lv_sub hl [1, 2, 0] rfl) h
    · rw [if_neg c1] at h
      refine lv_aload_n hx hb dX1_takeFrom_10 rfl (lv_at hl 0 rfl) ?_
      refine ge_1_0 hx hb hts in_X1_takeFrom_X1 hown hK hP hk0 (hts _ (List.mem_of_getElem? (i := 2) rfl)) dX1_takeFrom_11 ?_
      refine lv_iload_n hx hb dX1_takeFrom_14 rfl (lv_at hl 2 rfl) ?_
      obtain ⟨g2, h⟩ := gd_s h
      refine xl_18 hx hb hK hP (kf_1_0 hk0) (lf_1_0 hk0) (ix_in g2) dX1_takeFrom_15 ?_
      refine lv_aload_n hx hb dX1_takeFrom_16 rfl (lv_at hl 1 rfl) ?_
      refine ge_1_0 hx hb hts in_X1_takeFrom_X1 hown hK hP hk1 (hts _ (List.mem_of_getElem? (i := 2) rfl)) dX1_takeFrom_17 ?_
      refine lv_iload_n hx hb dX1_takeFrom_20 rfl (lv_at hl 2 rfl) ?_
      obtain ⟨g3, h⟩ := gd_s h
      refine xl_18 hx hb hK hP (kf_1_0 hk1) (lf_1_0 hk1) (ix_in g3) dX1_takeFrom_21 ?_
      obtain ⟨z5, h4, h⟩ := bv_s h
      refine x_Vv (Rz := z5) (As := [.ref (G.2.2 ((p1 + 1) + 1 + (Int32.toNatClampNeg v2)))]) (rest := []) ⟨hx, hb, hml, hown, hts⟩ hK hP hS (kd_lt (ke_18 (kf_1_0 hk0) (ix_lt g2)) (by decide)) (cell_9 (ke_18 (kf_1_0 hk0) (ix_lt g2))) rfl (m_X9_takeFrom hG  (ke_18 (kf_1_0 hk0) (ix_lt g2)) (ke_18 (kf_1_0 hk1) (ix_lt g3)) h4) (cwV 1 hts gX1_takeFrom_X9_takeFrom rfl rfl rfl (by decide +kernel) (rmd_ok (by decide) (by decide))) rfl hl.1 rfl (Nat.le_of_ble_eq_true rfl) dX1_takeFrom_22 ⟨Nat.le_refl _, Nat.le_refl _⟩ (fun H locs hP hS => ?_)
      refine lv_iinc (v := (v2 + 1)) (lv' := [(2, .int (v2 + 1)), (0, .ref (G.2.2 p0)), (1, .ref (G.2.2 p1))]) hx hb dX1_takeFrom_25 hl (k := 2) rfl rfl (by decide) rfl (fun ls hl => ?_)
      refine lv_goto (tgt := 2) hx hb dX1_takeFrom_28 (by decide) ?_
      exact ih p0 p1 (v2 + 1) z5 hk0 hk1 _ _ _ hP hS (lv_sub hl [1, 2, 0] rfl) h
def fn_X1_takeFrom (p0 : Nat) (p1 : Nat) (z : St) : Option (St) := fn_X1_takeFrom_2   fu p0 p1 0 z
set_option maxHeartbeats 4000000 in
set_option maxRecDepth 100000 in
theorem m_X1_takeFrom {l : Launch} {G : wG} (hG : Ok G) {p0 : Nat} {p1 : Nat} {z : St} {Rz : St} (hk0 : kd p0 = 1) (hk1 : kd p1 = 1) (h : fn_X1_takeFrom  p0 p1 z = some Rz) : Met l yX1_takeFrom wsX1_takeFrom (rmd 2) (va_Pc [.ref (G.2.2 p0), .ref (G.2.2 p1)] (Pre G z)) (va_Qv (fun u => u = Rz) (Pre G) (AW G)) 0 0 (AW G) := by
  refine Met.ofW (cc := cX1_takeFrom) (maxL := 3) (ret := none) (by decide) rfl ?_
  intro p e s m args below meth c s₁ B hml hv
  obtain ⟨rfl, hP, hK⟩ := hv
  have C : CX p s m ([.ref (G.2.2 p0), .ref (G.2.2 p1)] : List Value).toArray meth c cX1_takeFrom 3 wsX1_takeFrom RX1 none G := ⟨B.exec, B.bytes, hml, findClass_of_methodNamed B.named, atoms_spec (ws := wsX1_takeFrom) B.pre, B.returns, B.notSynchronized, hK, hG⟩
  obtain ⟨hx, hb, -, hown, hts, hr, hlocks, -, -⟩ := id C
  have hS : va_S (AW G) s.heap s.heap [] := va_S.rf
  have hl := lv_entry [.ref (G.2.2 p0), .ref (G.2.2 p1)] (n := 3) (Nat.le_of_ble_eq_true rfl)
  rw [lg_entry_eq]
  generalize (lg_sl [.ref (G.2.2 p0), .ref (G.2.2 p1)] ++ List.replicate (3 - (lg_sl [.ref (G.2.2 p0), .ref (G.2.2 p1)]).length) Slot.unset).toArray = ls at hl ⊢
  have hl : lv_has ls 3 [(0, .ref (G.2.2 p0)), (1, .ref (G.2.2 p1))] := hl
  unfold fn_X1_takeFrom at h
  refine lv_iconst (v := 0) hx hb dX1_takeFrom_0 (by decide) ?_
  refine lv_istore_n (lv' := [(2, .int 0), (0, .ref (G.2.2 p0)), (1, .ref (G.2.2 p1))]) hx hb dX1_takeFrom_1 rfl hl (by decide) rfl (fun ls hl => ?_)
  exact pf_X1_takeFrom_2 C   fu p0 p1 0 z hk0 hk1 _ _ _ hP hS (lv_sub hl [1, 2, 0] rfl) h
theorem in_X1_isPiece_X1 : ∀ w ∈ wsX10, w ∈ wsX1_isPiece := fun _ h => (List.mem_cons_of_mem _ (List.mem_append_right _ h))
def fn_X1_isPiece (p0 : Nat) (v1 : Int32) (z : St) : Option (Int32 × St) := (if v1 < 0 then some (0, z) else (if (z.1 p0 2) ≤ v1 then some (0, z) else some (1, z)))
set_option maxHeartbeats 4000000 in
set_option maxRecDepth 100000 in
theorem m_X1_isPiece {l : Launch} {G : wG} (hG : Ok G) {p0 : Nat} {v1 : Int32} {z : St} {Rz : Int32 × St} (hk0 : kd p0 = 1) (h : fn_X1_isPiece  p0 v1 z = some Rz) : Met l yX1_isPiece wsX1_isPiece (rmd 1) (va_Pc [.ref (G.2.2 p0), .int v1] (Pre G z)) (va_Qi (fun r u => (r, u) = Rz) (Pre G) (AW G)) 0 0 (AW G) := by
  refine Met.ofW (cc := cX1_isPiece) (maxL := 2) (ret := (some .boolean)) (by decide) rfl ?_
  intro p e s m args below meth c s₁ B hml hv
  obtain ⟨rfl, hP, hK⟩ := hv
  have C : CX p s m ([.ref (G.2.2 p0), .int v1] : List Value).toArray meth c cX1_isPiece 2 wsX1_isPiece RX1 (some .boolean) G := ⟨B.exec, B.bytes, hml, findClass_of_methodNamed B.named, atoms_spec (ws := wsX1_isPiece) B.pre, B.returns, B.notSynchronized, hK, hG⟩
  obtain ⟨hx, hb, -, hown, hts, hr, hlocks, -, -⟩ := id C
  have hS : va_S (AW G) s.heap s.heap [] := va_S.rf
  have hl := lv_entry [.ref (G.2.2 p0), .int v1] (n := 2) (Nat.le_of_ble_eq_true rfl)
  rw [lg_entry_eq]
  generalize (lg_sl [.ref (G.2.2 p0), .int v1] ++ List.replicate (2 - (lg_sl [.ref (G.2.2 p0), .int v1]).length) Slot.unset).toArray = ls at hl ⊢
  have hl : lv_has ls 2 [(0, .ref (G.2.2 p0)), (1, .int v1)] := hl
  unfold fn_X1_isPiece at h
  refine lv_iload_n hx hb dX1_isPiece_0 rfl (lv_at hl 1 rfl) ?_
  refine lv_if_lt (tgt := 16) hx hb dX1_isPiece_1 (by decide) (fun c1 => ?_) (fun c1 => ?_)
  · rw [if_pos c1] at h
    refine lv_iconst (v := 0) hx hb dX1_isPiece_16 (by decide) ?_
    exact x_zret hx hb hr hlocks hK hP hS rfl h dX1_isPiece_17
  · rw [if_neg c1] at h
    refine lv_iload_n hx hb dX1_isPiece_4 rfl (lv_at hl 1 rfl) ?_
    refine lv_aload_n hx hb dX1_isPiece_5 rfl (lv_at hl 0 rfl) ?_
    refine ge_1_2 hx hb hts in_X1_isPiece_X1 hown hK hP hk0 (hts _ (List.mem_of_getElem? (i := 1) rfl)) dX1_isPiece_6 ?_
    refine lv_icmp_ge (tgt := 16) hx hb dX1_isPiece_9 (by decide) (fun c2 => ?_) (fun c2 => ?_)
    · rw [if_pos c2] at h
      refine lv_iconst (v := 0) hx hb dX1_isPiece_16 (by decide) ?_
      exact x_zret hx hb hr hlocks hK hP hS rfl h dX1_isPiece_17
    · rw [if_neg c2] at h
      refine lv_iconst (v := 1) hx hb dX1_isPiece_12 (by decide) ?_
      refine lv_goto (tgt := 17) hx hb dX1_isPiece_13 (by decide) ?_
      exact x_zret hx hb hr hlocks hK hP hS rfl h dX1_isPiece_17
theorem in_X1_isFree_X9 : ∀ w ∈ wsX90, w ∈ wsX1_isFree := fun _ h => (List.mem_cons_of_mem _ (List.mem_append_right _ h))
theorem in_X1_isFree_X1 : ∀ w ∈ wsX10, w ∈ wsX1_isFree := fun _ h => (List.mem_cons_of_mem _ (List.mem_append_left _ (List.mem_append_right _ h)))
def fn_X1_isFree (p0 : Nat) (v1 : Int32) (z : St) : Option (Int32 × St) := bd (fn_X1_isPiece  p0 v1 z) (fun r2 z3 => (if r2 = 0 then some (0, z3) else gd (ix v1 24) ((if (z3.1 ((p0 + 1) + 1 + (Int32.toNatClampNeg v1)) 6) = (-1) then some (1, z3) else some (0, z3)))))
set_option maxHeartbeats 4000000 in
set_option maxRecDepth 100000 in
theorem m_X1_isFree {l : Launch} {G : wG} (hG : Ok G) {p0 : Nat} {v1 : Int32} {z : St} {Rz : Int32 × St} (hk0 : kd p0 = 1) (h : fn_X1_isFree  p0 v1 z = some Rz) : Met l yX1_isFree wsX1_isFree (rmd 2) (va_Pc [.ref (G.2.2 p0), .int v1] (Pre G z)) (va_Qi (fun r u => (r, u) = Rz) (Pre G) (AW G)) 0 0 (AW G) := by
  refine Met.ofW (cc := cX1_isFree) (maxL := 2) (ret := (some .boolean)) (by decide) rfl ?_
  intro p e s m args below meth c s₁ B hml hv
  obtain ⟨rfl, hP, hK⟩ := hv
  have C : CX p s m ([.ref (G.2.2 p0), .int v1] : List Value).toArray meth c cX1_isFree 2 wsX1_isFree RX1 (some .boolean) G := ⟨B.exec, B.bytes, hml, findClass_of_methodNamed B.named, atoms_spec (ws := wsX1_isFree) B.pre, B.returns, B.notSynchronized, hK, hG⟩
  obtain ⟨hx, hb, -, hown, hts, hr, hlocks, -, -⟩ := id C
  have hS : va_S (AW G) s.heap s.heap [] := va_S.rf
  have hl := lv_entry [.ref (G.2.2 p0), .int v1] (n := 2) (Nat.le_of_ble_eq_true rfl)
  rw [lg_entry_eq]
  generalize (lg_sl [.ref (G.2.2 p0), .int v1] ++ List.replicate (2 - (lg_sl [.ref (G.2.2 p0), .int v1]).length) Slot.unset).toArray = ls at hl ⊢
  have hl : lv_has ls 2 [(0, .ref (G.2.2 p0)), (1, .int v1)] := hl
  unfold fn_X1_isFree at h
  refine lv_aload_n hx hb dX1_isFree_0 rfl (lv_at hl 0 rfl) ?_
  refine lv_iload_n hx hb dX1_isFree_1 rfl (lv_at hl 1 rfl) ?_
  obtain ⟨r2, z3, h1, h⟩ := bd_s h
  refine x_Vi (Rz := (r2, z3)) (As := [.int v1]) (rest := []) ⟨hx, hb, hml, hown, hts⟩ hK hP hS (kd_lt hk0 (by decide)) (cell_1 hk0) rfl (m_X1_isPiece hG  hk0 h1) (cwV 1 hts gX1_isFree_X1_isPiece rfl rfl rfl (by decide +kernel) (rmd_ok (by decide) (by decide))) rfl hl.1 rfl (Nat.le_of_ble_eq_true rfl) dX1_isFree_2 ⟨Nat.le_refl _, Nat.le_refl _⟩ (fun H locs hP hS => ?_)
  refine lv_if_eq (tgt := 25) hx hb dX1_isFree_5 (by decide) (fun c4 => ?_) (fun c4 => ?_)
  · rw [if_pos c4] at h
    refine lv_iconst (v := 0) hx hb dX1_isFree_25 (by decide) ?_
    exact x_zret hx hb hr hlocks hK hP hS rfl h dX1_isFree_26
  · rw [if_neg c4] at h
    refine lv_aload_n hx hb dX1_isFree_8 rfl (lv_at hl 0 rfl) ?_
    refine ge_1_0 hx hb hts in_X1_isFree_X1 hown hK hP hk0 (hts _ (List.mem_of_getElem? (i := 1) rfl)) dX1_isFree_9 ?_
    refine lv_iload_n hx hb dX1_isFree_12 rfl (lv_at hl 1 rfl) ?_
    obtain ⟨g5, h⟩ := gd_s h
    refine xl_18 hx hb hK hP (kf_1_0 hk0) (lf_1_0 hk0) (ix_in g5) dX1_isFree_13 ?_
    refine ge_9_6 hx hb hts in_X1_isFree_X9 hown hK hP (ke_18 (kf_1_0 hk0) (ix_lt g5)) (hts _ (List.mem_of_getElem? (i := 2) rfl)) dX1_isFree_14 ?_
    refine lv_iconst (v := (-1)) hx hb dX1_isFree_17 (by decide) ?_
    refine lv_icmp_ne (tgt := 25) hx hb dX1_isFree_18 (by decide) (fun c6 => ?_) (fun c6 => ?_)
    · rw [if_neg c6] at h
      refine lv_iconst (v := 0) hx hb dX1_isFree_25 (by decide) ?_
      exact x_zret hx hb hr hlocks hK hP hS rfl h dX1_isFree_26
    · rw [if_pos c6] at h
      refine lv_iconst (v := 1) hx hb dX1_isFree_21 (by decide) ?_
      refine lv_goto (tgt := 26) hx hb dX1_isFree_22 (by decide) ?_
      exact x_zret hx hb hr hlocks hK hP hS rfl h dX1_isFree_26
theorem in_X1_canSplit_X1 : ∀ w ∈ wsX10, w ∈ wsX1_canSplit := fun _ h => (List.mem_cons_of_mem _ (List.mem_append_left _ (List.mem_append_right _ h)))
def fn_X1_canSplit_17 (p0 : Nat) (v1 : Int32) (v2 : Int32) (v3 : Int32) (z : St) : Option (Int32 × St) := (if v3 < 1 then some (0, z) else gd (ix v1 24) (bd (fn_X9_extent  ((p0 + 1) + 1 + (Int32.toNatClampNeg v1)) v2 z) (fun r4 z5 => (if r4 ≤ v3 then some (0, z5) else some (1, z5)))))
set_option maxHeartbeats 4000000 in
set_option maxRecDepth 100000 in
theorem pf_X1_canSplit_17 {p : Program} {l : Launch} {e : Env} {s : State} {m : MethodId} {args : Array Value} {below : List Frame} {meth : Method} {c : Code} {G : wG} (C : CX p s m args meth c cX1_canSplit 4 wsX1_canSplit RX1 (some .boolean) G) {Rz : Int32 × St} (p0 : Nat) (v1 : Int32) (v2 : Int32) (v3 : Int32) (z : St) (hk0 : kd p0 = 1) {H : Heap} {locs : List Loc} {ls : Array Slot} (hP : WP G z H) (hS : va_S (AW G) s.heap H locs) (hl : lv_has ls 4 [(0, .ref (G.2.2 p0)), (1, .int v1), (2, .int v2), (3, .int v3)]) (h : fn_X1_canSplit_17   p0 v1 v2 v3 z = some Rz) : W p l e (rmd 3) s m args below meth c H locs 0 0 (QI below args s G Rz) (F0 m 17 ls []) := by
  obtain ⟨hx, hb, hml, hown, hts, hr, hlocks, hK, hG⟩ := id C
  unfold fn_X1_canSplit_17 at h
  refine lv_iload_n hx hb dX1_canSplit_17 rfl (lv_at hl 3 rfl) ?_
  refine lv_iconst (v := 1) hx hb dX1_canSplit_18 (by decide) ?_
  refine lv_icmp_lt (tgt := 40) hx hb dX1_canSplit_19 (by decide) (fun c1 => ?_) (fun c1 => ?_)
  · rw [if_pos c1] at h
    refine lv_iconst (v := 0) hx hb dX1_canSplit_40 (by decide) ?_
    exact x_zret hx hb hr hlocks hK hP hS rfl h dX1_canSplit_41
  · rw [if_neg c1] at h
    refine lv_iload_n hx hb dX1_canSplit_22 rfl (lv_at hl 3 rfl) ?_
    refine lv_aload_n hx hb dX1_canSplit_23 rfl (lv_at hl 0 rfl) ?_
    refine ge_1_0 hx hb hts in_X1_canSplit_X1 hown hK hP hk0 (hts _ (List.mem_of_getElem? (i := 1) rfl)) dX1_canSplit_24 ?_
    refine lv_iload_n hx hb dX1_canSplit_27 rfl (lv_at hl 1 rfl) ?_
    obtain ⟨g2, h⟩ := gd_s h
    refine xl_18 hx hb hK hP (kf_1_0 hk0) (lf_1_0 hk0) (ix_in g2) dX1_canSplit_28 ?_
    refine lv_iload_n hx hb dX1_canSplit_29 rfl (lv_at hl 2 rfl) ?_
    obtain ⟨r4, z5, h3, h⟩ := bd_s h
    refine x_Vi (Rz := (r4, z5)) (As := [.int v2]) (rest := [.int v3]) ⟨hx, hb, hml, hown, hts⟩ hK hP hS (kd_lt (ke_18 (kf_1_0 hk0) (ix_lt g2)) (by decide)) (cell_9 (ke_18 (kf_1_0 hk0) (ix_lt g2))) rfl (m_X9_extent hG  (ke_18 (kf_1_0 hk0) (ix_lt g2)) h3) (cwV 1 hts gX1_canSplit_X9_extent rfl rfl rfl (by decide +kernel) (rmd_ok (by decide) (by decide))) rfl hl.1 rfl (Nat.le_of_ble_eq_true rfl) dX1_canSplit_30 ⟨Nat.le_refl _, Nat.le_refl _⟩ (fun H locs hP hS => ?_)
    refine lv_icmp_ge (tgt := 40) hx hb dX1_canSplit_33 (by decide) (fun c6 => ?_) (fun c6 => ?_)
    · rw [if_pos c6] at h
      refine lv_iconst (v := 0) hx hb dX1_canSplit_40 (by decide) ?_
      exact x_zret hx hb hr hlocks hK hP hS rfl h dX1_canSplit_41
    · rw [if_neg c6] at h
      refine lv_iconst (v := 1) hx hb dX1_canSplit_36 (by decide) ?_
      refine lv_goto (tgt := 41) hx hb dX1_canSplit_37 (by decide) ?_
      exact x_zret hx hb hr hlocks hK hP hS rfl h dX1_canSplit_41
def fn_X1_canSplit (p0 : Nat) (v1 : Int32) (v2 : Int32) (v3 : Int32) (z : St) : Option (Int32 × St) := bd (fn_X1_isFree  p0 v1 z) (fun r2 z3 => (if r2 = 0 then some (0, z3) else (if v2 = 0 then fn_X1_canSplit_17   p0 v1 v2 v3 z3 else (if v2 = 1 then fn_X1_canSplit_17   p0 v1 v2 v3 z3 else some (0, z3)))))
set_option maxHeartbeats 4000000 in
set_option maxRecDepth 100000 in
theorem m_X1_canSplit {l : Launch} {G : wG} (hG : Ok G) {p0 : Nat} {v1 : Int32} {v2 : Int32} {v3 : Int32} {z : St} {Rz : Int32 × St} (hk0 : kd p0 = 1) (h : fn_X1_canSplit  p0 v1 v2 v3 z = some Rz) : Met l yX1_canSplit wsX1_canSplit (rmd 3) (va_Pc [.ref (G.2.2 p0), .int v1, .int v2, .int v3] (Pre G z)) (va_Qi (fun r u => (r, u) = Rz) (Pre G) (AW G)) 0 0 (AW G) := by
  refine Met.ofW (cc := cX1_canSplit) (maxL := 4) (ret := (some .boolean)) (by decide) rfl ?_
  intro p e s m args below meth c s₁ B hml hv
  obtain ⟨rfl, hP, hK⟩ := hv
  have C : CX p s m ([.ref (G.2.2 p0), .int v1, .int v2, .int v3] : List Value).toArray meth c cX1_canSplit 4 wsX1_canSplit RX1 (some .boolean) G := ⟨B.exec, B.bytes, hml, findClass_of_methodNamed B.named, atoms_spec (ws := wsX1_canSplit) B.pre, B.returns, B.notSynchronized, hK, hG⟩
  obtain ⟨hx, hb, -, hown, hts, hr, hlocks, -, -⟩ := id C
  have hS : va_S (AW G) s.heap s.heap [] := va_S.rf
  have hl := lv_entry [.ref (G.2.2 p0), .int v1, .int v2, .int v3] (n := 4) (Nat.le_of_ble_eq_true rfl)
  rw [lg_entry_eq]
  generalize (lg_sl [.ref (G.2.2 p0), .int v1, .int v2, .int v3] ++ List.replicate (4 - (lg_sl [.ref (G.2.2 p0), .int v1, .int v2, .int v3]).length) Slot.unset).toArray = ls at hl ⊢
  have hl : lv_has ls 4 [(0, .ref (G.2.2 p0)), (1, .int v1), (2, .int v2), (3, .int v3)] := hl
  unfold fn_X1_canSplit at h
  refine lv_aload_n hx hb dX1_canSplit_0 rfl (lv_at hl 0 rfl) ?_
  refine lv_iload_n hx hb dX1_canSplit_1 rfl (lv_at hl 1 rfl) ?_
  obtain ⟨r2, z3, h1, h⟩ := bd_s h
  refine x_Vi (Rz := (r2, z3)) (As := [.int v1]) (rest := []) ⟨hx, hb, hml, hown, hts⟩ hK hP hS (kd_lt hk0 (by decide)) (cell_1 hk0) rfl (m_X1_isFree hG  hk0 h1) (cwV 1 hts gX1_canSplit_X1_isFree rfl rfl rfl (by decide +kernel) (rmd_ok (by decide) (by decide))) rfl hl.1 rfl (Nat.le_of_ble_eq_true rfl) dX1_canSplit_2 ⟨Nat.le_refl _, Nat.le_refl _⟩ (fun H locs hP hS => ?_)
  refine lv_if_eq (tgt := 40) hx hb dX1_canSplit_5 (by decide) (fun c4 => ?_) (fun c4 => ?_)
  · rw [if_pos c4] at h
    refine lv_iconst (v := 0) hx hb dX1_canSplit_40 (by decide) ?_
    exact x_zret hx hb hr hlocks hK hP hS rfl h dX1_canSplit_41
  · rw [if_neg c4] at h
    refine lv_iload_n hx hb dX1_canSplit_8 rfl (lv_at hl 2 rfl) ?_
    refine lv_if_eq (tgt := 17) hx hb dX1_canSplit_9 (by decide) (fun c5 => ?_) (fun c5 => ?_)
    · rw [if_pos c5] at h
      exact pf_X1_canSplit_17 C   p0 v1 v2 v3 z3 hk0 hP hS (lv_sub hl [0, 1, 2, 3] rfl) h
    · rw [if_neg c5] at h
      refine lv_iload_n hx hb dX1_canSplit_12 rfl (lv_at hl 2 rfl) ?_
      refine lv_iconst (v := 1) hx hb dX1_canSplit_13 (by decide) ?_
      refine lv_icmp_ne (tgt := 40) hx hb dX1_canSplit_14 (by decide) (fun c6 => ?_) (fun c6 => ?_)
      · rw [if_neg c6] at h
        refine lv_iconst (v := 0) hx hb dX1_canSplit_40 (by decide) ?_
        exact x_zret hx hb hr hlocks hK hP hS rfl h dX1_canSplit_41
      · rw [if_pos c6] at h
        exact pf_X1_canSplit_17 C   p0 v1 v2 v3 z3 hk0 hP hS (lv_sub hl [0, 1, 2, 3] rfl) h
theorem in_X1_split_X9 : ∀ w ∈ wsX90, w ∈ wsX1_split := fun _ h => (List.mem_cons_of_mem _ (List.mem_append_right _ h))
theorem in_X1_split_X1 : ∀ w ∈ wsX10, w ∈ wsX1_split := fun _ h => (List.mem_cons_of_mem _ (List.mem_append_left _ (List.mem_append_right _ h)))
def fn_X1_split_107 (p0 : Nat) (v5 : Int32) (z : St) : Option (St) := nm (sI z p0 3 ((z.1 p0 3) + v5)) (fun z1 => some z1)
set_option maxHeartbeats 4000000 in
set_option maxRecDepth 100000 in
theorem pf_X1_split_107 {p : Program} {l : Launch} {e : Env} {s : State} {m : MethodId} {args : Array Value} {below : List Frame} {meth : Method} {c : Code} {G : wG} (C : CX p s m args meth c cX1_split 8 wsX1_split RX1 none G) {Rz : St} (p0 : Nat) (v5 : Int32) (z : St) (hk0 : kd p0 = 1) {H : Heap} {locs : List Loc} {ls : Array Slot} (hP : WP G z H) (hS : va_S (AW G) s.heap H locs) (hl : lv_has ls 8 [(0, .ref (G.2.2 p0)), (5, .int v5)]) (h : fn_X1_split_107   p0 v5 z = some Rz) : W p l e (rmd 4) s m args below meth c H locs 0 0 (QV below args s G Rz) (F0 m 107 ls []) := by
  obtain ⟨hx, hb, hml, hown, hts, hr, hlocks, hK, hG⟩ := id C
  unfold fn_X1_split_107 at h
  refine lv_aload_n hx hb dX1_split_107 rfl (lv_at hl 0 rfl) ?_
  refine lv_dup hx hb dX1_split_108 rfl ?_
  refine ge_1_3 hx hb hts in_X1_split_X1 hown hK hP hk0 (hts _ (List.mem_of_getElem? (i := 5) rfl)) dX1_split_109 ?_
  refine lv_iload hx hb dX1_split_112 (lv_at hl 1 rfl) ?_
  refine lv_iadd hx hb dX1_split_114 ?_
  obtain ⟨z1, e_z1, h⟩ := nm_s h
  refine pu_1_3 hx hb hts in_X1_split_X1 hown hK hG hP hS hk0 (hts _ (List.mem_of_getElem? (i := 5) rfl)) dX1_split_115 (fun H locs hP hS => ?_)
  rw [← e_z1] at hP
  exact x_vret hx hb hr hlocks hK hP hS h dX1_split_118
def fn_X1_split (p0 : Nat) (v1 : Int32) (v2 : Int32) (v3 : Int32) (v4 : Int32) (v5 : Int32) (z : St) : Option (St) := bd (fn_X1_canSplit  p0 v1 v2 v3 z) (fun r2 z3 => (if r2 = 0 then some z3 else (if (z3.1 p0 2) < 24 then gd (ix v1 24) (gd (ix (z3.1 p0 2) 24) (bv (fn_X9_takeFrom  ((p0 + 1) + 1 + (Int32.toNatClampNeg (z3.1 p0 2))) ((p0 + 1) + 1 + (Int32.toNatClampNeg v1)) z3) (fun z9 => bv (fn_X9_keepBehind  ((p0 + 1) + 1 + (Int32.toNatClampNeg (z3.1 p0 2))) v2 v3 z9) (fun z11 => bv (fn_X9_keepAhead  ((p0 + 1) + 1 + (Int32.toNatClampNeg v1)) v2 v3 z11) (fun z13 => nm (sI z13 p0 2 ((z13.1 p0 2) + 1)) (fun z14 => nm (sI z14 p0 4 ((((z14.1 p0 4) * 137) + 71) - (((z14.1 p0 4) * 137) + 71) / 1000 * 1000)) (fun z15 => (if v4 ≤ ((z15.1 p0 4) - (z15.1 p0 4) / 100 * 100) then fn_X1_split_107   p0 v5 z15 else nm (sI z15 ((p0 + 1) + 1 + (Int32.toNatClampNeg (z3.1 p0 2))) 5 1) (fun z17 => fn_X1_split_107   p0 v5 z17))))))))) else some z3)))
set_option maxHeartbeats 4000000 in
set_option maxRecDepth 100000 in
theorem m_X1_split {l : Launch} {G : wG} (hG : Ok G) {p0 : Nat} {v1 : Int32} {v2 : Int32} {v3 : Int32} {v4 : Int32} {v5 : Int32} {z : St} {Rz : St} (hk0 : kd p0 = 1) (h : fn_X1_split  p0 v1 v2 v3 v4 v5 z = some Rz) : Met l yX1_split wsX1_split (rmd 4) (va_Pc [.ref (G.2.2 p0), .int v1, .int v2, .int v3, .int v4, .int v5] (Pre G z)) (va_Qv (fun u => u = Rz) (Pre G) (AW G)) 0 0 (AW G) := by
  refine Met.ofW (cc := cX1_split) (maxL := 8) (ret := none) (by decide) rfl ?_
  intro p e s m args below meth c s₁ B hml hv
  obtain ⟨rfl, hP, hK⟩ := hv
  have C : CX p s m ([.ref (G.2.2 p0), .int v1, .int v2, .int v3, .int v4, .int v5] : List Value).toArray meth c cX1_split 8 wsX1_split RX1 none G := ⟨B.exec, B.bytes, hml, findClass_of_methodNamed B.named, atoms_spec (ws := wsX1_split) B.pre, B.returns, B.notSynchronized, hK, hG⟩
  obtain ⟨hx, hb, -, hown, hts, hr, hlocks, -, -⟩ := id C
  have hS : va_S (AW G) s.heap s.heap [] := va_S.rf
  have hl := lv_entry [.ref (G.2.2 p0), .int v1, .int v2, .int v3, .int v4, .int v5] (n := 8) (Nat.le_of_ble_eq_true rfl)
  rw [lg_entry_eq]
  generalize (lg_sl [.ref (G.2.2 p0), .int v1, .int v2, .int v3, .int v4, .int v5] ++ List.replicate (8 - (lg_sl [.ref (G.2.2 p0), .int v1, .int v2, .int v3, .int v4, .int v5]).length) Slot.unset).toArray = ls at hl ⊢
  have hl : lv_has ls 8 [(0, .ref (G.2.2 p0)), (1, .int v1), (2, .int v2), (3, .int v3), (4, .int v4), (5, .int v5)] := hl
  unfold fn_X1_split at h
  refine lv_aload_n hx hb dX1_split_0 rfl (lv_at hl 0 rfl) ?_
  refine lv_iload_n hx hb dX1_split_1 rfl (lv_at hl 1 rfl) ?_
  refine lv_iload_n hx hb dX1_split_2 rfl (lv_at hl 2 rfl) ?_
  refine lv_iload_n hx hb dX1_split_3 rfl (lv_at hl 3 rfl) ?_
  obtain ⟨r2, z3, h1, h⟩ := bd_s h
  refine x_Vi (Rz := (r2, z3)) (As := [.int v1, .int v2, .int v3]) (rest := []) ⟨hx, hb, hml, hown, hts⟩ hK hP hS (kd_lt hk0 (by decide)) (cell_1 hk0) rfl (m_X1_canSplit hG  hk0 h1) (cwV 3 hts gX1_split_X1_canSplit rfl rfl rfl (by decide +kernel) (rmd_ok (by decide) (by decide))) rfl hl.1 rfl (Nat.le_of_ble_eq_true rfl) dX1_split_4 ⟨Nat.le_refl _, Nat.le_refl _⟩ (fun H locs hP hS => ?_)
  refine lv_if_eq (tgt := 19) hx hb dX1_split_7 (by decide) (fun c4 => ?_) (fun c4 => ?_)
  · rw [if_pos c4] at h
    exact x_vret hx hb hr hlocks hK hP hS h dX1_split_19
  · rw [if_neg c4] at h
    refine lv_aload_n hx hb dX1_split_10 rfl (lv_at hl 0 rfl) ?_
    refine ge_1_2 hx hb hts in_X1_split_X1 hown hK hP hk0 (hts _ (List.mem_of_getElem? (i := 1) rfl)) dX1_split_11 ?_
    refine lv_bipush (v := 24) hx hb dX1_split_14 (by decide) ?_
    refine lv_icmp_lt (tgt := 20) hx hb dX1_split_16 (by decide) (fun c5 => ?_) (fun c5 => ?_)
    · rw [if_pos c5] at h
      refine lv_aload_n hx hb dX1_split_20 rfl (lv_at hl 0 rfl) ?_
      refine ge_1_0 hx hb hts in_X1_split_X1 hown hK hP hk0 (hts _ (List.mem_of_getElem? (i := 2) rfl)) dX1_split_21 ?_
      refine lv_iload_n hx hb dX1_split_24 rfl (lv_at hl 1 rfl) ?_
      obtain ⟨g6, h⟩ := gd_s h
      refine xl_18 hx hb hK hP (kf_1_0 hk0) (lf_1_0 hk0) (ix_in g6) dX1_split_25 ?_
      refine lv_astore (lv' := [(6, .ref (G.2.2 ((p0 + 1) + 1 + (Int32.toNatClampNeg v1)))), (0, .ref (G.2.2 p0)), (1, .int v1), (2, .int v2), (3, .int v3), (4, .int v4), (5, .int v5)]) hx hb dX1_split_26 hl (by decide) rfl (fun ls hl => ?_)
      refine lv_aload_n hx hb dX1_split_28 rfl (lv_at hl 1 rfl) ?_
      refine ge_1_0 hx hb hts in_X1_split_X1 hown hK hP hk0 (hts _ (List.mem_of_getElem? (i := 2) rfl)) dX1_split_29 ?_
      refine lv_aload_n hx hb dX1_split_32 rfl (lv_at hl 1 rfl) ?_
      refine ge_1_2 hx hb hts in_X1_split_X1 hown hK hP hk0 (hts _ (List.mem_of_getElem? (i := 1) rfl)) dX1_split_33 ?_
      obtain ⟨g7, h⟩ := gd_s h
      refine xl_18 hx hb hK hP (kf_1_0 hk0) (lf_1_0 hk0) (ix_in g7) dX1_split_36 ?_
      refine lv_astore (lv' := [(7, .ref (G.2.2 ((p0 + 1) + 1 + (Int32.toNatClampNeg (z3.1 p0 2))))), (6, .ref (G.2.2 ((p0 + 1) + 1 + (Int32.toNatClampNeg v1)))), (0, .ref (G.2.2 p0)), (1, .int v1), (2, .int v2), (3, .int v3), (4, .int v4), (5, .int v5)]) hx hb dX1_split_37 hl (by decide) rfl (fun ls hl => ?_)
      refine lv_aload hx hb dX1_split_39 (lv_at hl 0 rfl) ?_
      refine lv_aload hx hb dX1_split_41 (lv_at hl 1 rfl) ?_
      obtain ⟨z9, h8, h⟩ := bv_s h
      refine x_Vv (Rz := z9) (As := [.ref (G.2.2 ((p0 + 1) + 1 + (Int32.toNatClampNeg v1)))]) (rest := []) ⟨hx, hb, hml, hown, hts⟩ hK hP hS (kd_lt (ke_18 (kf_1_0 hk0) (ix_lt g7)) (by decide)) (cell_9 (ke_18 (kf_1_0 hk0) (ix_lt g7))) rfl (m_X9_takeFrom hG  (ke_18 (kf_1_0 hk0) (ix_lt g7)) (ke_18 (kf_1_0 hk0) (ix_lt g6)) h8) (cwV 1 hts gX1_split_X9_takeFrom rfl rfl rfl (by decide +kernel) (rmd_ok (by decide) (by decide))) rfl hl.1 rfl (Nat.le_of_ble_eq_true rfl) dX1_split_43 ⟨Nat.le_refl _, Nat.le_refl _⟩ (fun H locs hP hS => ?_)
      refine lv_aload hx hb dX1_split_46 (lv_at hl 0 rfl) ?_
      refine lv_iload_n hx hb dX1_split_48 rfl (lv_at hl 4 rfl) ?_
      refine lv_iload_n hx hb dX1_split_49 rfl (lv_at hl 5 rfl) ?_
      obtain ⟨z11, h10, h⟩ := bv_s h
      refine x_Vv (Rz := z11) (As := [.int v2, .int v3]) (rest := []) ⟨hx, hb, hml, hown, hts⟩ hK hP hS (kd_lt (ke_18 (kf_1_0 hk0) (ix_lt g7)) (by decide)) (cell_9 (ke_18 (kf_1_0 hk0) (ix_lt g7))) rfl (m_X9_keepBehind hG  (ke_18 (kf_1_0 hk0) (ix_lt g7)) h10) (cwV 2 hts gX1_split_X9_keepBehind rfl rfl rfl (by decide +kernel) (rmd_ok (by decide) (by decide))) rfl hl.1 rfl (Nat.le_of_ble_eq_true rfl) dX1_split_50 ⟨Nat.le_refl _, Nat.le_refl _⟩ (fun H locs hP hS => ?_)
      refine lv_aload hx hb dX1_split_53 (lv_at hl 1 rfl) ?_
      refine lv_iload_n hx hb dX1_split_55 rfl (lv_at hl 4 rfl) ?_
      refine lv_iload_n hx hb dX1_split_56 rfl (lv_at hl 5 rfl) ?_
      obtain ⟨z13, h12, h⟩ := bv_s h
      refine x_Vv (Rz := z13) (As := [.int v2, .int v3]) (rest := []) ⟨hx, hb, hml, hown, hts⟩ hK hP hS (kd_lt (ke_18 (kf_1_0 hk0) (ix_lt g6)) (by decide)) (cell_9 (ke_18 (kf_1_0 hk0) (ix_lt g6))) rfl (m_X9_keepAhead hG  (ke_18 (kf_1_0 hk0) (ix_lt g6)) h12) (cwV 2 hts gX1_split_X9_keepAhead rfl rfl rfl (by decide +kernel) (rmd_ok (by decide) (by decide))) rfl hl.1 rfl (Nat.le_of_ble_eq_true rfl) dX1_split_57 ⟨Nat.le_refl _, Nat.le_refl _⟩ (fun H locs hP hS => ?_)
      refine lv_aload_n hx hb dX1_split_60 rfl (lv_at hl 2 rfl) ?_
      refine lv_dup hx hb dX1_split_61 rfl ?_
      refine ge_1_2 hx hb hts in_X1_split_X1 hown hK hP hk0 (hts _ (List.mem_of_getElem? (i := 1) rfl)) dX1_split_62 ?_
      refine lv_iconst (v := 1) hx hb dX1_split_65 (by decide) ?_
      refine lv_iadd hx hb dX1_split_66 ?_
      obtain ⟨z14, e_z14, h⟩ := nm_s h
      refine pu_1_2 hx hb hts in_X1_split_X1 hown hK hG hP hS hk0 (hts _ (List.mem_of_getElem? (i := 1) rfl)) dX1_split_67 (fun H locs hP hS => ?_)
      rw [← e_z14] at hP
      refine lv_aload_n hx hb dX1_split_70 rfl (lv_at hl 2 rfl) ?_
      refine lv_aload_n hx hb dX1_split_71 rfl (lv_at hl 2 rfl) ?_
      refine ge_1_4 hx hb hts in_X1_split_X1 hown hK hP hk0 (hts _ (List.mem_of_getElem? (i := 3) rfl)) dX1_split_72 ?_
      refine lv_sipush (v := 137) hx hb dX1_split_75 (by decide) ?_
      refine lv_imul hx hb dX1_split_78 ?_
      refine lv_bipush (v := 71) hx hb dX1_split_79 (by decide) ?_
      refine lv_iadd hx hb dX1_split_81 ?_
      refine lv_sipush (v := 1000) hx hb dX1_split_82 (by decide) ?_
      refine lv_irem hx hb dX1_split_85 (by decide) ?_
      obtain ⟨z15, e_z15, h⟩ := nm_s h
      refine pu_1_4 hx hb hts in_X1_split_X1 hown hK hG hP hS hk0 (hts _ (List.mem_of_getElem? (i := 3) rfl)) dX1_split_86 (fun H locs hP hS => ?_)
      rw [← e_z15] at hP
      refine lv_aload_n hx hb dX1_split_89 rfl (lv_at hl 2 rfl) ?_
      refine ge_1_4 hx hb hts in_X1_split_X1 hown hK hP hk0 (hts _ (List.mem_of_getElem? (i := 3) rfl)) dX1_split_90 ?_
      refine lv_bipush (v := 100) hx hb dX1_split_93 (by decide) ?_
      refine lv_irem hx hb dX1_split_95 (by decide) ?_
      refine lv_iload hx hb dX1_split_96 (lv_at hl 6 rfl) ?_
      refine lv_icmp_ge (tgt := 107) hx hb dX1_split_98 (by decide) (fun c16 => ?_) (fun c16 => ?_)
      · rw [if_pos c16] at h
        exact pf_X1_split_107 C   p0 v5 z15 hk0 hP hS (lv_sub hl [2, 7] rfl) h
      · rw [if_neg c16] at h
        refine lv_aload hx hb dX1_split_101 (lv_at hl 0 rfl) ?_
        refine lv_iconst (v := 1) hx hb dX1_split_103 (by decide) ?_
        obtain ⟨z17, e_z17, h⟩ := nm_s h
        refine pu_9_5 hx hb hts in_X1_split_X9 hown hK hG hP hS (ke_18 (kf_1_0 hk0) (ix_lt g7)) (hts _ (List.mem_of_getElem? (i := 4) rfl)) rfl dX1_split_104 (fun H locs hP hS => ?_)
        rw [← e_z17] at hP
        exact pf_X1_split_107 C   p0 v5 z17 hk0 hP hS (lv_sub hl [2, 7] rfl) h
    · rw [if_neg c5] at h
      exact x_vret hx hb hr hlocks hK hP hS h dX1_split_19
theorem in_X1_rejoin_X1 : ∀ w ∈ wsX10, w ∈ wsX1_rejoin := fun _ h => (List.mem_cons_of_mem _ (List.mem_append_left _ (List.mem_append_right _ h)))
def fn_X1_rejoin (p0 : Nat) (v1 : Int32) (v2 : Int32) (z : St) : Option (St) := bd (fn_X1_isPiece  p0 v1 z) (fun r2 z3 => (if r2 = 0 then some z3 else (if ((z3.1 p0 2) - 1) ≤ v1 then some z3 else nm (sI z3 p0 2 ((z3.1 p0 2) - 1)) (fun z6 => gd (ix v1 24) (gd (ix (z6.1 p0 2) 24) (bd (fn_X9_extent  ((p0 + 1) + 1 + (Int32.toNatClampNeg (z6.1 p0 2))) v2 z6) (fun r10 z11 => bv (fn_X9_growBy  ((p0 + 1) + 1 + (Int32.toNatClampNeg v1)) v2 r10 z11) (fun z13 => some z13))))))))
set_option maxHeartbeats 4000000 in
set_option maxRecDepth 100000 in
theorem m_X1_rejoin {l : Launch} {G : wG} (hG : Ok G) {p0 : Nat} {v1 : Int32} {v2 : Int32} {z : St} {Rz : St} (hk0 : kd p0 = 1) (h : fn_X1_rejoin  p0 v1 v2 z = some Rz) : Met l yX1_rejoin wsX1_rejoin (rmd 2) (va_Pc [.ref (G.2.2 p0), .int v1, .int v2] (Pre G z)) (va_Qv (fun u => u = Rz) (Pre G) (AW G)) 0 0 (AW G) := by
  refine Met.ofW (cc := cX1_rejoin) (maxL := 3) (ret := none) (by decide) rfl ?_
  intro p e s m args below meth c s₁ B hml hv
  obtain ⟨rfl, hP, hK⟩ := hv
  have C : CX p s m ([.ref (G.2.2 p0), .int v1, .int v2] : List Value).toArray meth c cX1_rejoin 3 wsX1_rejoin RX1 none G := ⟨B.exec, B.bytes, hml, findClass_of_methodNamed B.named, atoms_spec (ws := wsX1_rejoin) B.pre, B.returns, B.notSynchronized, hK, hG⟩
  obtain ⟨hx, hb, -, hown, hts, hr, hlocks, -, -⟩ := id C
  have hS : va_S (AW G) s.heap s.heap [] := va_S.rf
  have hl := lv_entry [.ref (G.2.2 p0), .int v1, .int v2] (n := 3) (Nat.le_of_ble_eq_true rfl)
  rw [lg_entry_eq]
  generalize (lg_sl [.ref (G.2.2 p0), .int v1, .int v2] ++ List.replicate (3 - (lg_sl [.ref (G.2.2 p0), .int v1, .int v2]).length) Slot.unset).toArray = ls at hl ⊢
  have hl : lv_has ls 3 [(0, .ref (G.2.2 p0)), (1, .int v1), (2, .int v2)] := hl
  unfold fn_X1_rejoin at h
  refine lv_aload_n hx hb dX1_rejoin_0 rfl (lv_at hl 0 rfl) ?_
  refine lv_iload_n hx hb dX1_rejoin_1 rfl (lv_at hl 1 rfl) ?_
  obtain ⟨r2, z3, h1, h⟩ := bd_s h
  refine x_Vi (Rz := (r2, z3)) (As := [.int v1]) (rest := []) ⟨hx, hb, hml, hown, hts⟩ hK hP hS (kd_lt hk0 (by decide)) (cell_1 hk0) rfl (m_X1_isPiece hG  hk0 h1) (cwV 1 hts gX1_rejoin_X1_isPiece rfl rfl rfl (by decide +kernel) (rmd_ok (by decide) (by decide))) rfl hl.1 rfl (Nat.le_of_ble_eq_true rfl) dX1_rejoin_2 ⟨Nat.le_refl _, Nat.le_refl _⟩ (fun H locs hP hS => ?_)
  refine lv_if_eq (tgt := 51) hx hb dX1_rejoin_5 (by decide) (fun c4 => ?_) (fun c4 => ?_)
  · rw [if_pos c4] at h
    exact x_vret hx hb hr hlocks hK hP hS h dX1_rejoin_51
  · rw [if_neg c4] at h
    refine lv_iload_n hx hb dX1_rejoin_8 rfl (lv_at hl 1 rfl) ?_
    refine lv_aload_n hx hb dX1_rejoin_9 rfl (lv_at hl 0 rfl) ?_
    refine ge_1_2 hx hb hts in_X1_rejoin_X1 hown hK hP hk0 (hts _ (List.mem_of_getElem? (i := 1) rfl)) dX1_rejoin_10 ?_
    refine lv_iconst (v := 1) hx hb dX1_rejoin_13 (by decide) ?_
    refine lv_isub hx hb dX1_rejoin_14 ?_
    refine lv_icmp_ge (tgt := 51) hx hb dX1_rejoin_15 (by decide) (fun c5 => ?_) (fun c5 => ?_)
    · rw [if_pos c5] at h
      exact x_vret hx hb hr hlocks hK hP hS h dX1_rejoin_51
    · rw [if_neg c5] at h
      refine lv_aload_n hx hb dX1_rejoin_18 rfl (lv_at hl 0 rfl) ?_
      refine lv_dup hx hb dX1_rejoin_19 rfl ?_
      refine ge_1_2 hx hb hts in_X1_rejoin_X1 hown hK hP hk0 (hts _ (List.mem_of_getElem? (i := 1) rfl)) dX1_rejoin_20 ?_
      refine lv_iconst (v := 1) hx hb dX1_rejoin_23 (by decide) ?_
      refine lv_isub hx hb dX1_rejoin_24 ?_
      obtain ⟨z6, e_z6, h⟩ := nm_s h
      refine pu_1_2 hx hb hts in_X1_rejoin_X1 hown hK hG hP hS hk0 (hts _ (List.mem_of_getElem? (i := 1) rfl)) dX1_rejoin_25 (fun H locs hP hS => ?_)
      rw [← e_z6] at hP
      refine lv_aload_n hx hb dX1_rejoin_28 rfl (lv_at hl 0 rfl) ?_
      refine ge_1_0 hx hb hts in_X1_rejoin_X1 hown hK hP hk0 (hts _ (List.mem_of_getElem? (i := 2) rfl)) dX1_rejoin_29 ?_
      refine lv_iload_n hx hb dX1_rejoin_32 rfl (lv_at hl 1 rfl) ?_
      obtain ⟨g7, h⟩ := gd_s h
      refine xl_18 hx hb hK hP (kf_1_0 hk0) (lf_1_0 hk0) (ix_in g7) dX1_rejoin_33 ?_
      refine lv_iload_n hx hb dX1_rejoin_34 rfl (lv_at hl 2 rfl) ?_
      refine lv_aload_n hx hb dX1_rejoin_35 rfl (lv_at hl 0 rfl) ?_
      refine ge_1_0 hx hb hts in_X1_rejoin_X1 hown hK hP hk0 (hts _ (List.mem_of_getElem? (i := 2) rfl)) dX1_rejoin_36 ?_
      refine lv_aload_n hx hb dX1_rejoin_39 rfl (lv_at hl 0 rfl) ?_
      refine ge_1_2 hx hb hts in_X1_rejoin_X1 hown hK hP hk0 (hts _ (List.mem_of_getElem? (i := 1) rfl)) dX1_rejoin_40 ?_
      obtain ⟨g8, h⟩ := gd_s h
      refine xl_18 hx hb hK hP (kf_1_0 hk0) (lf_1_0 hk0) (ix_in g8) dX1_rejoin_43 ?_
      refine lv_iload_n hx hb dX1_rejoin_44 rfl (lv_at hl 2 rfl) ?_
      obtain ⟨r10, z11, h9, h⟩ := bd_s h
      refine x_Vi (Rz := (r10, z11)) (As := [.int v2]) (rest := [.int v2, .ref (G.2.2 ((p0 + 1) + 1 + (Int32.toNatClampNeg v1)))]) ⟨hx, hb, hml, hown, hts⟩ hK hP hS (kd_lt (ke_18 (kf_1_0 hk0) (ix_lt g8)) (by decide)) (cell_9 (ke_18 (kf_1_0 hk0) (ix_lt g8))) rfl (m_X9_extent hG  (ke_18 (kf_1_0 hk0) (ix_lt g8)) h9) (cwV 1 hts gX1_rejoin_X9_extent rfl rfl rfl (by decide +kernel) (rmd_ok (by decide) (by decide))) rfl hl.1 rfl (Nat.le_of_ble_eq_true rfl) dX1_rejoin_45 ⟨Nat.le_refl _, Nat.le_refl _⟩ (fun H locs hP hS => ?_)
      obtain ⟨z13, h12, h⟩ := bv_s h
      refine x_Vv (Rz := z13) (As := [.int v2, .int r10]) (rest := []) ⟨hx, hb, hml, hown, hts⟩ hK hP hS (kd_lt (ke_18 (kf_1_0 hk0) (ix_lt g7)) (by decide)) (cell_9 (ke_18 (kf_1_0 hk0) (ix_lt g7))) rfl (m_X9_growBy hG  (ke_18 (kf_1_0 hk0) (ix_lt g7)) h12) (cwV 2 hts gX1_rejoin_X9_growBy rfl rfl rfl (by decide +kernel) (rmd_ok (by decide) (by decide))) rfl hl.1 rfl (Nat.le_of_ble_eq_true rfl) dX1_rejoin_48 ⟨Nat.le_refl _, Nat.le_refl _⟩ (fun H locs hP hS => ?_)
      exact x_vret hx hb hr hlocks hK hP hS h dX1_rejoin_51
theorem in_X1_put_X9 : ∀ w ∈ wsX90, w ∈ wsX1_put := fun _ h => (List.mem_cons_of_mem _ (List.mem_append_right _ h))
theorem in_X1_put_X1 : ∀ w ∈ wsX10, w ∈ wsX1_put := fun _ h => (List.mem_cons_of_mem _ (List.mem_append_left _ (List.mem_append_right _ h)))
def fn_X1_put (p0 : Nat) (v1 : Int32) (v2 : Int32) (z : St) : Option (St) := bd (fn_X1_isPiece  p0 v1 z) (fun r2 z3 => (if r2 = 0 then some z3 else (if v2 < 0 then some z3 else (if 6 ≤ v2 then some z3 else gd (ix v1 24) (nm (sI z3 ((p0 + 1) + 1 + (Int32.toNatClampNeg v1)) 6 v2) (fun z8 => gd (ix v2 6) (nm (sI z8 (p0 + 26) (Int32.toNatClampNeg v2) v1) (fun z10 => some z10))))))))
set_option maxHeartbeats 4000000 in
set_option maxRecDepth 100000 in
theorem m_X1_put {l : Launch} {G : wG} (hG : Ok G) {p0 : Nat} {v1 : Int32} {v2 : Int32} {z : St} {Rz : St} (hk0 : kd p0 = 1) (h : fn_X1_put  p0 v1 v2 z = some Rz) : Met l yX1_put wsX1_put (rmd 2) (va_Pc [.ref (G.2.2 p0), .int v1, .int v2] (Pre G z)) (va_Qv (fun u => u = Rz) (Pre G) (AW G)) 0 0 (AW G) := by
  refine Met.ofW (cc := cX1_put) (maxL := 3) (ret := none) (by decide) rfl ?_
  intro p e s m args below meth c s₁ B hml hv
  obtain ⟨rfl, hP, hK⟩ := hv
  have C : CX p s m ([.ref (G.2.2 p0), .int v1, .int v2] : List Value).toArray meth c cX1_put 3 wsX1_put RX1 none G := ⟨B.exec, B.bytes, hml, findClass_of_methodNamed B.named, atoms_spec (ws := wsX1_put) B.pre, B.returns, B.notSynchronized, hK, hG⟩
  obtain ⟨hx, hb, -, hown, hts, hr, hlocks, -, -⟩ := id C
  have hS : va_S (AW G) s.heap s.heap [] := va_S.rf
  have hl := lv_entry [.ref (G.2.2 p0), .int v1, .int v2] (n := 3) (Nat.le_of_ble_eq_true rfl)
  rw [lg_entry_eq]
  generalize (lg_sl [.ref (G.2.2 p0), .int v1, .int v2] ++ List.replicate (3 - (lg_sl [.ref (G.2.2 p0), .int v1, .int v2]).length) Slot.unset).toArray = ls at hl ⊢
  have hl : lv_has ls 3 [(0, .ref (G.2.2 p0)), (1, .int v1), (2, .int v2)] := hl
  unfold fn_X1_put at h
  refine lv_aload_n hx hb dX1_put_0 rfl (lv_at hl 0 rfl) ?_
  refine lv_iload_n hx hb dX1_put_1 rfl (lv_at hl 1 rfl) ?_
  obtain ⟨r2, z3, h1, h⟩ := bd_s h
  refine x_Vi (Rz := (r2, z3)) (As := [.int v1]) (rest := []) ⟨hx, hb, hml, hown, hts⟩ hK hP hS (kd_lt hk0 (by decide)) (cell_1 hk0) rfl (m_X1_isPiece hG  hk0 h1) (cwV 1 hts gX1_put_X1_isPiece rfl rfl rfl (by decide +kernel) (rmd_ok (by decide) (by decide))) rfl hl.1 rfl (Nat.le_of_ble_eq_true rfl) dX1_put_2 ⟨Nat.le_refl _, Nat.le_refl _⟩ (fun H locs hP hS => ?_)
  refine lv_if_eq (tgt := 35) hx hb dX1_put_5 (by decide) (fun c4 => ?_) (fun c4 => ?_)
  · rw [if_pos c4] at h
    exact x_vret hx hb hr hlocks hK hP hS h dX1_put_35
  · rw [if_neg c4] at h
    refine lv_iload_n hx hb dX1_put_8 rfl (lv_at hl 2 rfl) ?_
    refine lv_if_lt (tgt := 35) hx hb dX1_put_9 (by decide) (fun c5 => ?_) (fun c5 => ?_)
    · rw [if_pos c5] at h
      exact x_vret hx hb hr hlocks hK hP hS h dX1_put_35
    · rw [if_neg c5] at h
      refine lv_iload_n hx hb dX1_put_12 rfl (lv_at hl 2 rfl) ?_
      refine lv_bipush (v := 6) hx hb dX1_put_13 (by decide) ?_
      refine lv_icmp_ge (tgt := 35) hx hb dX1_put_15 (by decide) (fun c6 => ?_) (fun c6 => ?_)
      · rw [if_pos c6] at h
        exact x_vret hx hb hr hlocks hK hP hS h dX1_put_35
      · rw [if_neg c6] at h
        refine lv_aload_n hx hb dX1_put_18 rfl (lv_at hl 0 rfl) ?_
        refine ge_1_0 hx hb hts in_X1_put_X1 hown hK hP hk0 (hts _ (List.mem_of_getElem? (i := 1) rfl)) dX1_put_19 ?_
        refine lv_iload_n hx hb dX1_put_22 rfl (lv_at hl 1 rfl) ?_
        obtain ⟨g7, h⟩ := gd_s h
        refine xl_18 hx hb hK hP (kf_1_0 hk0) (lf_1_0 hk0) (ix_in g7) dX1_put_23 ?_
        refine lv_iload_n hx hb dX1_put_24 rfl (lv_at hl 2 rfl) ?_
        obtain ⟨z8, e_z8, h⟩ := nm_s h
        refine pu_9_6 hx hb hts in_X1_put_X9 hown hK hG hP hS (ke_18 (kf_1_0 hk0) (ix_lt g7)) (hts _ (List.mem_of_getElem? (i := 2) rfl)) dX1_put_25 (fun H locs hP hS => ?_)
        rw [← e_z8] at hP
        refine lv_aload_n hx hb dX1_put_28 rfl (lv_at hl 0 rfl) ?_
        refine ge_1_1 hx hb hts in_X1_put_X1 hown hK hP hk0 (hts _ (List.mem_of_getElem? (i := 3) rfl)) dX1_put_29 ?_
        refine lv_iload_n hx hb dX1_put_32 rfl (lv_at hl 2 rfl) ?_
        refine lv_iload_n hx hb dX1_put_33 rfl (lv_at hl 1 rfl) ?_
        obtain ⟨g9, h⟩ := gd_s h
        obtain ⟨z10, e_z10, h⟩ := nm_s h
        refine xs_14 hx hb hK hG hP hS (kf_1_1 hk0) (lf_1_1 hk0) (ix_in g9) dX1_put_34 (fun H locs hP hS => ?_)
        rw [← e_z10] at hP
        exact x_vret hx hb hr hlocks hK hP hS h dX1_put_35
theorem in_X1_lift_X9 : ∀ w ∈ wsX90, w ∈ wsX1_lift := fun _ h => (List.mem_cons_of_mem _ (List.mem_append_right _ h))
theorem in_X1_lift_X1 : ∀ w ∈ wsX10, w ∈ wsX1_lift := fun _ h => (List.mem_cons_of_mem _ (List.mem_append_left _ (List.mem_append_right _ h)))
def fn_X1_lift (p0 : Nat) (v1 : Int32) (v2 : Int32) (z : St) : Option (St) := bd (fn_X1_isPiece  p0 v1 z) (fun r2 z3 => (if r2 = 0 then some z3 else (if v2 < 0 then some z3 else (if 6 ≤ v2 then some z3 else gd (ix v1 24) (nm (sI z3 ((p0 + 1) + 1 + (Int32.toNatClampNeg v1)) 6 (-1)) (fun z8 => gd (ix v2 6) (nm (sI z8 (p0 + 26) (Int32.toNatClampNeg v2) (-1)) (fun z10 => some z10))))))))
set_option maxHeartbeats 4000000 in
set_option maxRecDepth 100000 in
theorem m_X1_lift {l : Launch} {G : wG} (hG : Ok G) {p0 : Nat} {v1 : Int32} {v2 : Int32} {z : St} {Rz : St} (hk0 : kd p0 = 1) (h : fn_X1_lift  p0 v1 v2 z = some Rz) : Met l yX1_lift wsX1_lift (rmd 2) (va_Pc [.ref (G.2.2 p0), .int v1, .int v2] (Pre G z)) (va_Qv (fun u => u = Rz) (Pre G) (AW G)) 0 0 (AW G) := by
  refine Met.ofW (cc := cX1_lift) (maxL := 3) (ret := none) (by decide) rfl ?_
  intro p e s m args below meth c s₁ B hml hv
  obtain ⟨rfl, hP, hK⟩ := hv
  have C : CX p s m ([.ref (G.2.2 p0), .int v1, .int v2] : List Value).toArray meth c cX1_lift 3 wsX1_lift RX1 none G := ⟨B.exec, B.bytes, hml, findClass_of_methodNamed B.named, atoms_spec (ws := wsX1_lift) B.pre, B.returns, B.notSynchronized, hK, hG⟩
  obtain ⟨hx, hb, -, hown, hts, hr, hlocks, -, -⟩ := id C
  have hS : va_S (AW G) s.heap s.heap [] := va_S.rf
  have hl := lv_entry [.ref (G.2.2 p0), .int v1, .int v2] (n := 3) (Nat.le_of_ble_eq_true rfl)
  rw [lg_entry_eq]
  generalize (lg_sl [.ref (G.2.2 p0), .int v1, .int v2] ++ List.replicate (3 - (lg_sl [.ref (G.2.2 p0), .int v1, .int v2]).length) Slot.unset).toArray = ls at hl ⊢
  have hl : lv_has ls 3 [(0, .ref (G.2.2 p0)), (1, .int v1), (2, .int v2)] := hl
  unfold fn_X1_lift at h
  refine lv_aload_n hx hb dX1_lift_0 rfl (lv_at hl 0 rfl) ?_
  refine lv_iload_n hx hb dX1_lift_1 rfl (lv_at hl 1 rfl) ?_
  obtain ⟨r2, z3, h1, h⟩ := bd_s h
  refine x_Vi (Rz := (r2, z3)) (As := [.int v1]) (rest := []) ⟨hx, hb, hml, hown, hts⟩ hK hP hS (kd_lt hk0 (by decide)) (cell_1 hk0) rfl (m_X1_isPiece hG  hk0 h1) (cwV 1 hts gX1_lift_X1_isPiece rfl rfl rfl (by decide +kernel) (rmd_ok (by decide) (by decide))) rfl hl.1 rfl (Nat.le_of_ble_eq_true rfl) dX1_lift_2 ⟨Nat.le_refl _, Nat.le_refl _⟩ (fun H locs hP hS => ?_)
  refine lv_if_eq (tgt := 35) hx hb dX1_lift_5 (by decide) (fun c4 => ?_) (fun c4 => ?_)
  · rw [if_pos c4] at h
    exact x_vret hx hb hr hlocks hK hP hS h dX1_lift_35
  · rw [if_neg c4] at h
    refine lv_iload_n hx hb dX1_lift_8 rfl (lv_at hl 2 rfl) ?_
    refine lv_if_lt (tgt := 35) hx hb dX1_lift_9 (by decide) (fun c5 => ?_) (fun c5 => ?_)
    · rw [if_pos c5] at h
      exact x_vret hx hb hr hlocks hK hP hS h dX1_lift_35
    · rw [if_neg c5] at h
      refine lv_iload_n hx hb dX1_lift_12 rfl (lv_at hl 2 rfl) ?_
      refine lv_bipush (v := 6) hx hb dX1_lift_13 (by decide) ?_
      refine lv_icmp_ge (tgt := 35) hx hb dX1_lift_15 (by decide) (fun c6 => ?_) (fun c6 => ?_)
      · rw [if_pos c6] at h
        exact x_vret hx hb hr hlocks hK hP hS h dX1_lift_35
      · rw [if_neg c6] at h
        refine lv_aload_n hx hb dX1_lift_18 rfl (lv_at hl 0 rfl) ?_
        refine ge_1_0 hx hb hts in_X1_lift_X1 hown hK hP hk0 (hts _ (List.mem_of_getElem? (i := 1) rfl)) dX1_lift_19 ?_
        refine lv_iload_n hx hb dX1_lift_22 rfl (lv_at hl 1 rfl) ?_
        obtain ⟨g7, h⟩ := gd_s h
        refine xl_18 hx hb hK hP (kf_1_0 hk0) (lf_1_0 hk0) (ix_in g7) dX1_lift_23 ?_
        refine lv_iconst (v := (-1)) hx hb dX1_lift_24 (by decide) ?_
        obtain ⟨z8, e_z8, h⟩ := nm_s h
        refine pu_9_6 hx hb hts in_X1_lift_X9 hown hK hG hP hS (ke_18 (kf_1_0 hk0) (ix_lt g7)) (hts _ (List.mem_of_getElem? (i := 2) rfl)) dX1_lift_25 (fun H locs hP hS => ?_)
        rw [← e_z8] at hP
        refine lv_aload_n hx hb dX1_lift_28 rfl (lv_at hl 0 rfl) ?_
        refine ge_1_1 hx hb hts in_X1_lift_X1 hown hK hP hk0 (hts _ (List.mem_of_getElem? (i := 3) rfl)) dX1_lift_29 ?_
        refine lv_iload_n hx hb dX1_lift_32 rfl (lv_at hl 2 rfl) ?_
        refine lv_iconst (v := (-1)) hx hb dX1_lift_33 (by decide) ?_
        obtain ⟨g9, h⟩ := gd_s h
        obtain ⟨z10, e_z10, h⟩ := nm_s h
        refine xs_14 hx hb hK hG hP hS (kf_1_1 hk0) (lf_1_1 hk0) (ix_in g9) dX1_lift_34 (fun H locs hP hS => ?_)
        rw [← e_z10] at hP
        exact x_vret hx hb hr hlocks hK hP hS h dX1_lift_35
theorem in_X1_trade_X1 : ∀ w ∈ wsX10, w ∈ wsX1_trade := fun _ h => (List.mem_cons_of_mem _ (List.mem_append_left _ (List.mem_append_right _ h)))
def fn_X1_trade (p0 : Nat) (v1 : Int32) (v2 : Int32) (z : St) : Option (St) := (if v1 < 0 then some z else (if 6 ≤ v1 then some z else (if v2 < 0 then some z else (if v2 < 6 then gd (ix v1 6) (nm (z.1 (p0 + 26) (Int32.toNatClampNeg v1)) (fun v3_6 => gd (ix v2 6) (bv (fn_X1_put  p0 (z.1 (p0 + 26) (Int32.toNatClampNeg v2)) v1 z) (fun z9 => bv (fn_X1_put  p0 v3_6 v2 z9) (fun z11 => some z11))))) else some z))))
set_option maxHeartbeats 4000000 in
set_option maxRecDepth 100000 in
theorem m_X1_trade {l : Launch} {G : wG} (hG : Ok G) {p0 : Nat} {v1 : Int32} {v2 : Int32} {z : St} {Rz : St} (hk0 : kd p0 = 1) (h : fn_X1_trade  p0 v1 v2 z = some Rz) : Met l yX1_trade wsX1_trade (rmd 3) (va_Pc [.ref (G.2.2 p0), .int v1, .int v2] (Pre G z)) (va_Qv (fun u => u = Rz) (Pre G) (AW G)) 0 0 (AW G) := by
  refine Met.ofW (cc := cX1_trade) (maxL := 4) (ret := none) (by decide) rfl ?_
  intro p e s m args below meth c s₁ B hml hv
  obtain ⟨rfl, hP, hK⟩ := hv
  have C : CX p s m ([.ref (G.2.2 p0), .int v1, .int v2] : List Value).toArray meth c cX1_trade 4 wsX1_trade RX1 none G := ⟨B.exec, B.bytes, hml, findClass_of_methodNamed B.named, atoms_spec (ws := wsX1_trade) B.pre, B.returns, B.notSynchronized, hK, hG⟩
  obtain ⟨hx, hb, -, hown, hts, hr, hlocks, -, -⟩ := id C
  have hS : va_S (AW G) s.heap s.heap [] := va_S.rf
  have hl := lv_entry [.ref (G.2.2 p0), .int v1, .int v2] (n := 4) (Nat.le_of_ble_eq_true rfl)
  rw [lg_entry_eq]
  generalize (lg_sl [.ref (G.2.2 p0), .int v1, .int v2] ++ List.replicate (4 - (lg_sl [.ref (G.2.2 p0), .int v1, .int v2]).length) Slot.unset).toArray = ls at hl ⊢
  have hl : lv_has ls 4 [(0, .ref (G.2.2 p0)), (1, .int v1), (2, .int v2)] := hl
  unfold fn_X1_trade at h
  refine lv_iload_n hx hb dX1_trade_0 rfl (lv_at hl 1 rfl) ?_
  refine lv_if_lt (tgt := 20) hx hb dX1_trade_1 (by decide) (fun c1 => ?_) (fun c1 => ?_)
  · rw [if_pos c1] at h
    exact x_vret hx hb hr hlocks hK hP hS h dX1_trade_20
  · rw [if_neg c1] at h
    refine lv_iload_n hx hb dX1_trade_4 rfl (lv_at hl 1 rfl) ?_
    refine lv_bipush (v := 6) hx hb dX1_trade_5 (by decide) ?_
    refine lv_icmp_ge (tgt := 20) hx hb dX1_trade_7 (by decide) (fun c2 => ?_) (fun c2 => ?_)
    · rw [if_pos c2] at h
      exact x_vret hx hb hr hlocks hK hP hS h dX1_trade_20
    · rw [if_neg c2] at h
      refine lv_iload_n hx hb dX1_trade_10 rfl (lv_at hl 2 rfl) ?_
      refine lv_if_lt (tgt := 20) hx hb dX1_trade_11 (by decide) (fun c3 => ?_) (fun c3 => ?_)
      · rw [if_pos c3] at h
        exact x_vret hx hb hr hlocks hK hP hS h dX1_trade_20
      · rw [if_neg c3] at h
        refine lv_iload_n hx hb dX1_trade_14 rfl (lv_at hl 2 rfl) ?_
        refine lv_bipush (v := 6) hx hb dX1_trade_15 (by decide) ?_
        refine lv_icmp_lt (tgt := 21) hx hb dX1_trade_17 (by decide) (fun c4 => ?_) (fun c4 => ?_)
        · rw [if_pos c4] at h
          refine lv_aload_n hx hb dX1_trade_21 rfl (lv_at hl 0 rfl) ?_
          refine ge_1_1 hx hb hts in_X1_trade_X1 hown hK hP hk0 (hts _ (List.mem_of_getElem? (i := 1) rfl)) dX1_trade_22 ?_
          refine lv_iload_n hx hb dX1_trade_25 rfl (lv_at hl 1 rfl) ?_
          obtain ⟨g5, h⟩ := gd_s h
          refine xl_14 hx hb hK hP (kf_1_1 hk0) (lf_1_1 hk0) (ix_in g5) dX1_trade_26 ?_
          obtain ⟨v3_6, e_v3_6, h⟩ := nm_s h
          refine x_top e_v3_6 ?_
          refine lv_istore_n (lv' := [(3, .int v3_6), (0, .ref (G.2.2 p0)), (1, .int v1), (2, .int v2)]) hx hb dX1_trade_27 rfl hl (by decide) rfl (fun ls hl => ?_)
          refine lv_aload_n hx hb dX1_trade_28 rfl (lv_at hl 1 rfl) ?_
          refine lv_aload_n hx hb dX1_trade_29 rfl (lv_at hl 1 rfl) ?_
          refine ge_1_1 hx hb hts in_X1_trade_X1 hown hK hP hk0 (hts _ (List.mem_of_getElem? (i := 1) rfl)) dX1_trade_30 ?_
          refine lv_iload_n hx hb dX1_trade_33 rfl (lv_at hl 3 rfl) ?_
          obtain ⟨g7, h⟩ := gd_s h
          refine xl_14 hx hb hK hP (kf_1_1 hk0) (lf_1_1 hk0) (ix_in g7) dX1_trade_34 ?_
          refine lv_iload_n hx hb dX1_trade_35 rfl (lv_at hl 2 rfl) ?_
          obtain ⟨z9, h8, h⟩ := bv_s h
          refine x_Vv (Rz := z9) (As := [.int (z.1 (p0 + 26) (Int32.toNatClampNeg v2)), .int v1]) (rest := []) ⟨hx, hb, hml, hown, hts⟩ hK hP hS (kd_lt hk0 (by decide)) (cell_1 hk0) rfl (m_X1_put hG  hk0 h8) (cwV 2 hts gX1_trade_X1_put rfl rfl rfl (by decide +kernel) (rmd_ok (by decide) (by decide))) rfl hl.1 rfl (Nat.le_of_ble_eq_true rfl) dX1_trade_36 ⟨Nat.le_refl _, Nat.le_refl _⟩ (fun H locs hP hS => ?_)
          refine lv_aload_n hx hb dX1_trade_39 rfl (lv_at hl 1 rfl) ?_
          refine lv_iload_n hx hb dX1_trade_40 rfl (lv_at hl 0 rfl) ?_
          refine lv_iload_n hx hb dX1_trade_41 rfl (lv_at hl 3 rfl) ?_
          obtain ⟨z11, h10, h⟩ := bv_s h
          refine x_Vv (Rz := z11) (As := [.int v3_6, .int v2]) (rest := []) ⟨hx, hb, hml, hown, hts⟩ hK hP hS (kd_lt hk0 (by decide)) (cell_1 hk0) rfl (m_X1_put hG  hk0 h10) (cwV 2 hts gX1_trade_X1_put rfl rfl rfl (by decide +kernel) (rmd_ok (by decide) (by decide))) rfl hl.1 rfl (Nat.le_of_ble_eq_true rfl) dX1_trade_42 ⟨Nat.le_refl _, Nat.le_refl _⟩ (fun H locs hP hS => ?_)
          exact x_vret hx hb hr hlocks hK hP hS h dX1_trade_45
        · rw [if_neg c4] at h
          exact x_vret hx hb hr hlocks hK hP hS h dX1_trade_20
theorem in_X1_platesFilled_X1 : ∀ w ∈ wsX10, w ∈ wsX1_platesFilled := fun _ h => (List.mem_cons_of_mem _ (List.mem_append_right _ h))
def fn_X1_platesFilled_23 (k4 : Nat → Int32 → Int32 → St → Option (Int32 × St)) (p0 : Nat) (v1 : Int32) (v2 : Int32) (z : St) : Option (Int32 × St) := k4 p0 v1 (v2 + 1) z
set_option maxHeartbeats 4000000 in
set_option maxRecDepth 100000 in
theorem pf_X1_platesFilled_23 {p : Program} {l : Launch} {e : Env} {s : State} {m : MethodId} {args : Array Value} {below : List Frame} {meth : Method} {c : Code} {G : wG} (C : CX p s m args meth c cX1_platesFilled 3 wsX1_platesFilled RX1 (some .int) G) {Rz : Int32 × St} {k4 : Nat → Int32 → Int32 → St → Option (Int32 × St)} (hk_4 : ∀ (p0 : Nat) (v1 : Int32) (v2 : Int32) (z : St) (hk0 : kd p0 = 1) (H : Heap) (locs : List Loc) (ls : Array Slot), WP G z H → va_S (AW G) s.heap H locs → lv_has ls 3 [(0, .ref (G.2.2 p0)), (1, .int v1), (2, .int v2)] → k4 p0 v1 v2 z = some Rz → W p l e (rmd 1) s m args below meth c H locs 0 0 (QI below args s G Rz) (F0 m 4 ls [])) (p0 : Nat) (v1 : Int32) (v2 : Int32) (z : St) (hk0 : kd p0 = 1) {H : Heap} {locs : List Loc} {ls : Array Slot} (hP : WP G z H) (hS : va_S (AW G) s.heap H locs) (hl : lv_has ls 3 [(0, .ref (G.2.2 p0)), (1, .int v1), (2, .int v2)]) (h : fn_X1_platesFilled_23  k4 p0 v1 v2 z = some Rz) : W p l e (rmd 1) s m args below meth c H locs 0 0 (QI below args s G Rz) (F0 m 23 ls []) := by
  obtain ⟨hx, hb, hml, hown, hts, hr, hlocks, hK, hG⟩ := id C
  unfold fn_X1_platesFilled_23 at h
  refine lv_iinc (v := (v2 + 1)) (lv' := [(2, .int (v2 + 1)), (0, .ref (G.2.2 p0)), (1, .int v1)]) hx hb dX1_platesFilled_23 hl (k := 2) rfl rfl (by decide) rfl (fun ls hl => ?_)
  refine lv_goto (tgt := 4) hx hb dX1_platesFilled_26 (by decide) ?_
  exact hk_4 p0 v1 (v2 + 1) z hk0 _ _ _ hP hS (lv_sub hl [1, 2, 0] rfl) h
def fn_X1_platesFilled_4 : Nat → Nat → Int32 → Int32 → St → Option (Int32 × St)
  | 0, _, _, _, _ => none
  | n + 1, p0, v1, v2, z => (if 6 ≤ v2 then some (v1, z) else gd (ix v2 6) ((if (z.1 (p0 + 26) (Int32.toNatClampNeg v2)) = (-1) then fn_X1_platesFilled_23  (fn_X1_platesFilled_4   n) p0 v1 v2 z else fn_X1_platesFilled_23  (fn_X1_platesFilled_4   n) p0 (v1 + 1) v2 z)))
set_option maxHeartbeats 4000000 in
set_option maxRecDepth 100000 in
theorem pf_X1_platesFilled_4 {p : Program} {l : Launch} {e : Env} {s : State} {m : MethodId} {args : Array Value} {below : List Frame} {meth : Method} {c : Code} {G : wG} (C : CX p s m args meth c cX1_platesFilled 3 wsX1_platesFilled RX1 (some .int) G) {Rz : Int32 × St} : ∀ (n : Nat) (p0 : Nat) (v1 : Int32) (v2 : Int32) (z : St) (hk0 : kd p0 = 1) (H : Heap) (locs : List Loc) (ls : Array Slot), WP G z H → va_S (AW G) s.heap H locs → lv_has ls 3 [(0, .ref (G.2.2 p0)), (1, .int v1), (2, .int v2)] → fn_X1_platesFilled_4   n p0 v1 v2 z = some Rz → W p l e (rmd 1) s m args below meth c H locs 0 0 (QI below args s G Rz) (F0 m 4 ls []) := by
  obtain ⟨hx, hb, hml, hown, hts, hr, hlocks, hK, hG⟩ := id C
  intro n
  induction n with
  | zero => intro p0 v1 v2 z hk0 H locs ls hP hS hl h; cases h
  | succ n ih =>
    intro p0 v1 v2 z hk0 H locs ls hP hS hl h
    rw [fn_X1_platesFilled_4] at h
    refine lv_iload_n hx hb dX1_platesFilled_4 rfl (lv_at hl 2 rfl) ?_
    refine lv_bipush (v := 6) hx hb dX1_platesFilled_5 (by decide) ?_
    refine lv_icmp_ge (tgt := 29) hx hb dX1_platesFilled_7 (by decide) (fun c1 => ?_) (fun c1 => ?_)
    · rw [if_pos c1] at h
      refine lv_iload_n hx hb dX1_platesFilled_29 rfl (lv_at hl 1 rfl) ?_
      exact x_iret hx hb hr hlocks hK hP hS h dX1_platesFilled_30
    · rw [if_neg c1] at h
      refine lv_aload_n hx hb dX1_platesFilled_10 rfl (lv_at hl 0 rfl) ?_
      refine ge_1_1 hx hb hts in_X1_platesFilled_X1 hown hK hP hk0 (hts _ (List.mem_of_getElem? (i := 1) rfl)) dX1_platesFilled_11 ?_
      refine lv_iload_n hx hb dX1_platesFilled_14 rfl (lv_at hl 2 rfl) ?_
      obtain ⟨g2, h⟩ := gd_s h
      refine xl_14 hx hb hK hP (kf_1_1 hk0) (lf_1_1 hk0) (ix_in g2) dX1_platesFilled_15 ?_
      refine lv_iconst (v := (-1)) hx hb dX1_platesFilled_16 (by decide) ?_
      refine lv_icmp_eq (tgt := 23) hx hb dX1_platesFilled_17 (by decide) (fun c3 => ?_) (fun c3 => ?_)
      · rw [if_pos c3] at h
        exact pf_X1_platesFilled_23 C  ih p0 v1 v2 z hk0 hP hS (lv_sub hl [0, 1, 2] rfl) h
      · rw [if_neg c3] at h
        refine lv_iinc (v := (v1 + 1)) (lv' := [(1, .int (v1 + 1)), (0, .ref (G.2.2 p0)), (2, .int v2)]) hx hb dX1_platesFilled_20 hl (k := 1) rfl rfl (by decide) rfl (fun ls hl => ?_)
        exact pf_X1_platesFilled_23 C  ih p0 (v1 + 1) v2 z hk0 hP hS (lv_sub hl [1, 0, 2] rfl) h
def fn_X1_platesFilled (p0 : Nat) (z : St) : Option (Int32 × St) := fn_X1_platesFilled_4   fu p0 0 0 z
set_option maxHeartbeats 4000000 in
set_option maxRecDepth 100000 in
theorem m_X1_platesFilled {l : Launch} {G : wG} (hG : Ok G) {p0 : Nat} {z : St} {Rz : Int32 × St} (hk0 : kd p0 = 1) (h : fn_X1_platesFilled  p0 z = some Rz) : Met l yX1_platesFilled wsX1_platesFilled (rmd 1) (va_Pc [.ref (G.2.2 p0)] (Pre G z)) (va_Qi (fun r u => (r, u) = Rz) (Pre G) (AW G)) 0 0 (AW G) := by
  refine Met.ofW (cc := cX1_platesFilled) (maxL := 3) (ret := (some .int)) (by decide) rfl ?_
  intro p e s m args below meth c s₁ B hml hv
  obtain ⟨rfl, hP, hK⟩ := hv
  have C : CX p s m ([.ref (G.2.2 p0)] : List Value).toArray meth c cX1_platesFilled 3 wsX1_platesFilled RX1 (some .int) G := ⟨B.exec, B.bytes, hml, findClass_of_methodNamed B.named, atoms_spec (ws := wsX1_platesFilled) B.pre, B.returns, B.notSynchronized, hK, hG⟩
  obtain ⟨hx, hb, -, hown, hts, hr, hlocks, -, -⟩ := id C
  have hS : va_S (AW G) s.heap s.heap [] := va_S.rf
  have hl := lv_entry [.ref (G.2.2 p0)] (n := 3) (Nat.le_of_ble_eq_true rfl)
  rw [lg_entry_eq]
  generalize (lg_sl [.ref (G.2.2 p0)] ++ List.replicate (3 - (lg_sl [.ref (G.2.2 p0)]).length) Slot.unset).toArray = ls at hl ⊢
  have hl : lv_has ls 3 [(0, .ref (G.2.2 p0))] := hl
  unfold fn_X1_platesFilled at h
  refine lv_iconst (v := 0) hx hb dX1_platesFilled_0 (by decide) ?_
  refine lv_istore_n (lv' := [(1, .int 0), (0, .ref (G.2.2 p0))]) hx hb dX1_platesFilled_1 rfl hl (by decide) rfl (fun ls hl => ?_)
  refine lv_iconst (v := 0) hx hb dX1_platesFilled_2 (by decide) ?_
  refine lv_istore_n (lv' := [(2, .int 0), (1, .int 0), (0, .ref (G.2.2 p0))]) hx hb dX1_platesFilled_3 rfl hl (by decide) rfl (fun ls hl => ?_)
  exact pf_X1_platesFilled_4 C   fu p0 0 0 z hk0 _ _ _ hP hS (lv_sub hl [2, 1, 0] rfl) h
theorem in_X1_brokenSet_X9 : ∀ w ∈ wsX90, w ∈ wsX1_brokenSet := fun _ h => (List.mem_cons_of_mem _ (List.mem_append_right _ h))
theorem in_X1_brokenSet_X1 : ∀ w ∈ wsX10, w ∈ wsX1_brokenSet := fun _ h => (List.mem_cons_of_mem _ (List.mem_append_left _ (List.mem_append_right _ h)))
def fn_X1_brokenSet_30 (k4 : Nat → Int32 → Int32 → St → Option (Int32 × St)) (p0 : Nat) (v1 : Int32) (v2 : Int32) (z : St) : Option (Int32 × St) := k4 p0 v1 (v2 + 1) z
set_option maxHeartbeats 4000000 in
set_option maxRecDepth 100000 in
theorem pf_X1_brokenSet_30 {p : Program} {l : Launch} {e : Env} {s : State} {m : MethodId} {args : Array Value} {below : List Frame} {meth : Method} {c : Code} {G : wG} (C : CX p s m args meth c cX1_brokenSet 3 wsX1_brokenSet RX1 (some .int) G) {Rz : Int32 × St} {k4 : Nat → Int32 → Int32 → St → Option (Int32 × St)} (hk_4 : ∀ (p0 : Nat) (v1 : Int32) (v2 : Int32) (z : St) (hk0 : kd p0 = 1) (H : Heap) (locs : List Loc) (ls : Array Slot), WP G z H → va_S (AW G) s.heap H locs → lv_has ls 3 [(0, .ref (G.2.2 p0)), (1, .int v1), (2, .int v2)] → k4 p0 v1 v2 z = some Rz → W p l e (rmd 1) s m args below meth c H locs 0 0 (QI below args s G Rz) (F0 m 4 ls [])) (p0 : Nat) (v1 : Int32) (v2 : Int32) (z : St) (hk0 : kd p0 = 1) {H : Heap} {locs : List Loc} {ls : Array Slot} (hP : WP G z H) (hS : va_S (AW G) s.heap H locs) (hl : lv_has ls 3 [(0, .ref (G.2.2 p0)), (1, .int v1), (2, .int v2)]) (h : fn_X1_brokenSet_30  k4 p0 v1 v2 z = some Rz) : W p l e (rmd 1) s m args below meth c H locs 0 0 (QI below args s G Rz) (F0 m 30 ls []) := by
  obtain ⟨hx, hb, hml, hown, hts, hr, hlocks, hK, hG⟩ := id C
  unfold fn_X1_brokenSet_30 at h
  refine lv_iinc (v := (v2 + 1)) (lv' := [(2, .int (v2 + 1)), (0, .ref (G.2.2 p0)), (1, .int v1)]) hx hb dX1_brokenSet_30 hl (k := 2) rfl rfl (by decide) rfl (fun ls hl => ?_)
  refine lv_goto (tgt := 4) hx hb dX1_brokenSet_33 (by decide) ?_
  exact hk_4 p0 v1 (v2 + 1) z hk0 _ _ _ hP hS (lv_sub hl [1, 2, 0] rfl) h
def fn_X1_brokenSet_4 : Nat → Nat → Int32 → Int32 → St → Option (Int32 × St)
  | 0, _, _, _, _ => none
  | n + 1, p0, v1, v2, z => (if (z.1 p0 2) ≤ v2 then some (v1, z) else gd (ix v2 24) ((if (z.1 ((p0 + 1) + 1 + (Int32.toNatClampNeg v2)) 5) = 0 then fn_X1_brokenSet_30  (fn_X1_brokenSet_4   n) p0 v1 v2 z else nm (v1 ||| (1 <<< (v2 &&& 31))) (fun v1_4 => fn_X1_brokenSet_30  (fn_X1_brokenSet_4   n) p0 v1_4 v2 z))))
set_option maxHeartbeats 4000000 in
set_option maxRecDepth 100000 in
theorem pf_X1_brokenSet_4 {p : Program} {l : Launch} {e : Env} {s : State} {m : MethodId} {args : Array Value} {below : List Frame} {meth : Method} {c : Code} {G : wG} (C : CX p s m args meth c cX1_brokenSet 3 wsX1_brokenSet RX1 (some .int) G) {Rz : Int32 × St} : ∀ (n : Nat) (p0 : Nat) (v1 : Int32) (v2 : Int32) (z : St) (hk0 : kd p0 = 1) (H : Heap) (locs : List Loc) (ls : Array Slot), WP G z H → va_S (AW G) s.heap H locs → lv_has ls 3 [(0, .ref (G.2.2 p0)), (1, .int v1), (2, .int v2)] → fn_X1_brokenSet_4   n p0 v1 v2 z = some Rz → W p l e (rmd 1) s m args below meth c H locs 0 0 (QI below args s G Rz) (F0 m 4 ls []) := by
  obtain ⟨hx, hb, hml, hown, hts, hr, hlocks, hK, hG⟩ := id C
  intro n
  induction n with
  | zero => intro p0 v1 v2 z hk0 H locs ls hP hS hl h; cases h
  | succ n ih =>
    intro p0 v1 v2 z hk0 H locs ls hP hS hl h
    rw [fn_X1_brokenSet_4] at h
    refine lv_iload_n hx hb dX1_brokenSet_4 rfl (lv_at hl 2 rfl) ?_
    refine lv_aload_n hx hb dX1_brokenSet_5 rfl (lv_at hl 0 rfl) ?_
    refine ge_1_2 hx hb hts in_X1_brokenSet_X1 hown hK hP hk0 (hts _ (List.mem_of_getElem? (i := 1) rfl)) dX1_brokenSet_6 ?_
    refine lv_icmp_ge (tgt := 36) hx hb dX1_brokenSet_9 (by decide) (fun c1 => ?_) (fun c1 => ?_)
    · rw [if_pos c1] at h
      refine lv_iload_n hx hb dX1_brokenSet_36 rfl (lv_at hl 1 rfl) ?_
      exact x_iret hx hb hr hlocks hK hP hS h dX1_brokenSet_37
    · rw [if_neg c1] at h
      refine lv_aload_n hx hb dX1_brokenSet_12 rfl (lv_at hl 0 rfl) ?_
      refine ge_1_0 hx hb hts in_X1_brokenSet_X1 hown hK hP hk0 (hts _ (List.mem_of_getElem? (i := 2) rfl)) dX1_brokenSet_13 ?_
      refine lv_iload_n hx hb dX1_brokenSet_16 rfl (lv_at hl 2 rfl) ?_
      obtain ⟨g2, h⟩ := gd_s h
      refine xl_18 hx hb hK hP (kf_1_0 hk0) (lf_1_0 hk0) (ix_in g2) dX1_brokenSet_17 ?_
      refine ge_9_5 hx hb hts in_X1_brokenSet_X9 hown hK hP (ke_18 (kf_1_0 hk0) (ix_lt g2)) (hts _ (List.mem_of_getElem? (i := 3) rfl)) dX1_brokenSet_18 ?_
      refine lv_if_eq (tgt := 30) hx hb dX1_brokenSet_21 (by decide) (fun c3 => ?_) (fun c3 => ?_)
      · rw [if_pos c3] at h
        exact pf_X1_brokenSet_30 C  ih p0 v1 v2 z hk0 hP hS (lv_sub hl [0, 1, 2] rfl) h
      · rw [if_neg c3] at h
        refine lv_iload_n hx hb dX1_brokenSet_24 rfl (lv_at hl 1 rfl) ?_
        refine lv_iconst (v := 1) hx hb dX1_brokenSet_25 (by decide) ?_
        refine lv_iload_n hx hb dX1_brokenSet_26 rfl (lv_at hl 2 rfl) ?_
        refine lv_ishl hx hb dX1_brokenSet_27 ?_
        refine lv_ior hx hb dX1_brokenSet_28 ?_
        obtain ⟨v1_4, e_v1_4, h⟩ := nm_s h
        refine x_top e_v1_4 ?_
        refine lv_istore_n (lv' := [(1, .int v1_4), (0, .ref (G.2.2 p0)), (2, .int v2)]) hx hb dX1_brokenSet_29 rfl hl (by decide) rfl (fun ls hl => ?_)
        exact pf_X1_brokenSet_30 C  ih p0 v1_4 v2 z hk0 hP hS (lv_sub hl [1, 0, 2] rfl) h
def fn_X1_brokenSet (p0 : Nat) (z : St) : Option (Int32 × St) := fn_X1_brokenSet_4   fu p0 0 0 z
set_option maxHeartbeats 4000000 in
set_option maxRecDepth 100000 in
theorem m_X1_brokenSet {l : Launch} {G : wG} (hG : Ok G) {p0 : Nat} {z : St} {Rz : Int32 × St} (hk0 : kd p0 = 1) (h : fn_X1_brokenSet  p0 z = some Rz) : Met l yX1_brokenSet wsX1_brokenSet (rmd 1) (va_Pc [.ref (G.2.2 p0)] (Pre G z)) (va_Qi (fun r u => (r, u) = Rz) (Pre G) (AW G)) 0 0 (AW G) := by
  refine Met.ofW (cc := cX1_brokenSet) (maxL := 3) (ret := (some .int)) (by decide) rfl ?_
  intro p e s m args below meth c s₁ B hml hv
  obtain ⟨rfl, hP, hK⟩ := hv
  have C : CX p s m ([.ref (G.2.2 p0)] : List Value).toArray meth c cX1_brokenSet 3 wsX1_brokenSet RX1 (some .int) G := ⟨B.exec, B.bytes, hml, findClass_of_methodNamed B.named, atoms_spec (ws := wsX1_brokenSet) B.pre, B.returns, B.notSynchronized, hK, hG⟩
  obtain ⟨hx, hb, -, hown, hts, hr, hlocks, -, -⟩ := id C
  have hS : va_S (AW G) s.heap s.heap [] := va_S.rf
  have hl := lv_entry [.ref (G.2.2 p0)] (n := 3) (Nat.le_of_ble_eq_true rfl)
  rw [lg_entry_eq]
  generalize (lg_sl [.ref (G.2.2 p0)] ++ List.replicate (3 - (lg_sl [.ref (G.2.2 p0)]).length) Slot.unset).toArray = ls at hl ⊢
  have hl : lv_has ls 3 [(0, .ref (G.2.2 p0))] := hl
  unfold fn_X1_brokenSet at h
  refine lv_iconst (v := 0) hx hb dX1_brokenSet_0 (by decide) ?_
  refine lv_istore_n (lv' := [(1, .int 0), (0, .ref (G.2.2 p0))]) hx hb dX1_brokenSet_1 rfl hl (by decide) rfl (fun ls hl => ?_)
  refine lv_iconst (v := 0) hx hb dX1_brokenSet_2 (by decide) ?_
  refine lv_istore_n (lv' := [(2, .int 0), (1, .int 0), (0, .ref (G.2.2 p0))]) hx hb dX1_brokenSet_3 rfl hl (by decide) rfl (fun ls hl => ?_)
  exact pf_X1_brokenSet_4 C   fu p0 0 0 z hk0 _ _ _ hP hS (lv_sub hl [2, 1, 0] rfl) h
