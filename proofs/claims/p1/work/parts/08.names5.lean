theorem dX7_ifSnipped_0 : decode cX7_ifSnipped 0 = .ok (.iload_n 1, 1) := by decide +kernel
theorem dX7_ifSnipped_1 : decode cX7_ifSnipped 1 = .ok (.invokestatic 81, 3) := by decide +kernel
theorem dX7_ifSnipped_4 : decode cX7_ifSnipped 4 = .ok (.ifCond .ne 7, 3) := by decide +kernel
theorem dX7_ifSnipped_7 : decode cX7_ifSnipped 7 = .ok (.iconst (-1), 1) := by decide +kernel
theorem dX7_ifSnipped_8 : decode cX7_ifSnipped 8 = .ok (.goto 21, 3) := by decide +kernel
theorem dX7_ifSnipped_11 : decode cX7_ifSnipped 11 = .ok (.aload_n 0, 1) := by decide +kernel
theorem dX7_ifSnipped_12 : decode cX7_ifSnipped 12 = .ok (.iload_n 1, 1) := by decide +kernel
theorem dX7_ifSnipped_13 : decode cX7_ifSnipped 13 = .ok (.invokevirtual 95, 3) := by decide +kernel
theorem dX7_ifSnipped_16 : decode cX7_ifSnipped 16 = .ok (.ifCond .le 8, 3) := by decide +kernel
theorem dX7_ifSnipped_19 : decode cX7_ifSnipped 19 = .ok (.bipush (-5), 2) := by decide +kernel
theorem dX7_ifSnipped_21 : decode cX7_ifSnipped 21 = .ok (.goto 8, 3) := by decide +kernel
theorem dX7_ifSnipped_24 : decode cX7_ifSnipped 24 = .ok (.aload_n 0, 1) := by decide +kernel
theorem dX7_ifSnipped_25 : decode cX7_ifSnipped 25 = .ok (.iload_n 1, 1) := by decide +kernel
theorem dX7_ifSnipped_26 : decode cX7_ifSnipped 26 = .ok (.invokevirtual 156, 3) := by decide +kernel
theorem dX7_ifSnipped_29 : decode cX7_ifSnipped 29 = .ok (.ireturn, 1) := by decide +kernel
set_option maxRecDepth 20000 in
theorem ggX7_bestSnip_X7_in : GoodIn wsX7_bestSnip wsX7_in := goodIn_r _ [5] (by decide +kernel) (by decide +kernel)
set_option maxRecDepth 20000 in
theorem gX7_bestSnip_X7_in : GoodIn wsX7_bestSnip (va_wsS RX7 36 yX7_in wsX7_in) := goodIn_app (goodIn_of _ (by decide +kernel)) ggX7_bestSnip_X7_in
set_option maxRecDepth 20000 in
theorem ggX7_bestSnip_X7_reason : GoodIn wsX7_bestSnip wsX7_reason := goodIn_r _ [9, 1, 10, 11, 12, 4, 13, 14, 15, 16, 17, 18, 19, 20, 21, 22, 23, 24, 25, 26, 27, 28, 29, 30, 31, 68, 69, 70, 71, 72, 73, 74, 75, 76] (by decide +kernel) (by decide +kernel)
set_option maxRecDepth 20000 in
theorem gX7_bestSnip_X7_reason : GoodIn wsX7_bestSnip (wsV RX7 95 RX7 yX7_reason wsX7_reason) := goodIn_app (goodIn_of _ (by decide +kernel)) ggX7_bestSnip_X7_reason
set_option maxRecDepth 20000 in
theorem ggX7_bestSnip_X7_cellsBy : GoodIn wsX7_bestSnip wsX7_cellsBy := goodIn_r _ [35, 36, 37, 38, 4, 39, 40, 41, 42, 43, 44, 1, 18, 19, 20, 21, 45, 46, 47, 48, 22, 23, 24, 25, 26, 27, 28, 29, 30, 31, 49, 50, 51, 52, 68, 69, 70, 71, 72, 73, 74, 75, 76] (by decide +kernel) (by decide +kernel)
set_option maxRecDepth 20000 in
theorem gX7_bestSnip_X7_cellsBy : GoodIn wsX7_bestSnip (wsV RX7 156 RX7 yX7_cellsBy wsX7_cellsBy) := goodIn_app (goodIn_of _ (by decide +kernel)) ggX7_bestSnip_X7_cellsBy
set_option maxRecDepth 20000 in
theorem ggX7_bestSnip_X7_hasChalk : GoodIn wsX7_bestSnip wsX7_hasChalk := goodIn_r _ [56, 57, 58, 59, 4, 60, 1, 61, 62, 63, 64, 65, 66, 67, 68, 69, 70, 71, 72, 73, 74, 75, 76] (by decide +kernel) (by decide +kernel)
set_option maxRecDepth 20000 in
theorem gX7_bestSnip_X7_hasChalk : GoodIn wsX7_bestSnip (wsV RX7 88 RX7 yX7_hasChalk wsX7_hasChalk) := goodIn_app (goodIn_of _ (by decide +kernel)) ggX7_bestSnip_X7_hasChalk
theorem dX7_bestSnip_0 : decode cX7_bestSnip 0 = .ok (.iload_n 1, 1) := by decide +kernel
theorem dX7_bestSnip_1 : decode cX7_bestSnip 1 = .ok (.iconst 0, 1) := by decide +kernel
theorem dX7_bestSnip_2 : decode cX7_bestSnip 2 = .ok (.iconst 1, 1) := by decide +kernel
theorem dX7_bestSnip_3 : decode cX7_bestSnip 3 = .ok (.invokestatic 36, 3) := by decide +kernel
theorem dX7_bestSnip_6 : decode cX7_bestSnip 6 = .ok (.ifCond .ne 6, 3) := by decide +kernel
theorem dX7_bestSnip_9 : decode cX7_bestSnip 9 = .ok (.bipush (-2), 2) := by decide +kernel
theorem dX7_bestSnip_11 : decode cX7_bestSnip 11 = .ok (.ireturn, 1) := by decide +kernel
theorem dX7_bestSnip_12 : decode cX7_bestSnip 12 = .ok (.bipush (-6), 2) := by decide +kernel
theorem dX7_bestSnip_14 : decode cX7_bestSnip 14 = .ok (.istore_n 2, 1) := by decide +kernel
theorem dX7_bestSnip_15 : decode cX7_bestSnip 15 = .ok (.bipush (-6), 2) := by decide +kernel
theorem dX7_bestSnip_17 : decode cX7_bestSnip 17 = .ok (.istore_n 3, 1) := by decide +kernel
theorem dX7_bestSnip_18 : decode cX7_bestSnip 18 = .ok (.iconst 0, 1) := by decide +kernel
theorem dX7_bestSnip_19 : decode cX7_bestSnip 19 = .ok (.istore 4, 2) := by decide +kernel
theorem dX7_bestSnip_21 : decode cX7_bestSnip 21 = .ok (.iload 4, 2) := by decide +kernel
theorem dX7_bestSnip_23 : decode cX7_bestSnip 23 = .ok (.bipush 82, 2) := by decide +kernel
theorem dX7_bestSnip_25 : decode cX7_bestSnip 25 = .ok (.if_icmp .ge 75, 3) := by decide +kernel
theorem dX7_bestSnip_28 : decode cX7_bestSnip 28 = .ok (.aload_n 0, 1) := by decide +kernel
theorem dX7_bestSnip_29 : decode cX7_bestSnip 29 = .ok (.iload 4, 2) := by decide +kernel
theorem dX7_bestSnip_31 : decode cX7_bestSnip 31 = .ok (.invokevirtual 95, 3) := by decide +kernel
theorem dX7_bestSnip_34 : decode cX7_bestSnip 34 = .ok (.ifCond .ne 60, 3) := by decide +kernel
theorem dX7_bestSnip_37 : decode cX7_bestSnip 37 = .ok (.aload_n 0, 1) := by decide +kernel
theorem dX7_bestSnip_38 : decode cX7_bestSnip 38 = .ok (.iload 4, 2) := by decide +kernel
theorem dX7_bestSnip_40 : decode cX7_bestSnip 40 = .ok (.invokevirtual 156, 3) := by decide +kernel
theorem dX7_bestSnip_43 : decode cX7_bestSnip 43 = .ok (.aload_n 0, 1) := by decide +kernel
theorem dX7_bestSnip_44 : decode cX7_bestSnip 44 = .ok (.aload_n 0, 1) := by decide +kernel
theorem dX7_bestSnip_45 : decode cX7_bestSnip 45 = .ok (.getfield 7, 3) := by decide +kernel
theorem dX7_bestSnip_48 : decode cX7_bestSnip 48 = .ok (.sipush 245, 3) := by decide +kernel
theorem dX7_bestSnip_51 : decode cX7_bestSnip 51 = .ok (.iaload, 1) := by decide +kernel
theorem dX7_bestSnip_52 : decode cX7_bestSnip 52 = .ok (.iload 4, 2) := by decide +kernel
theorem dX7_bestSnip_54 : decode cX7_bestSnip 54 = .ok (.invokevirtual 88, 3) := by decide +kernel
theorem dX7_bestSnip_57 : decode cX7_bestSnip 57 = .ok (.ifCond .eq 7, 3) := by decide +kernel
theorem dX7_bestSnip_60 : decode cX7_bestSnip 60 = .ok (.iconst 1, 1) := by decide +kernel
theorem dX7_bestSnip_61 : decode cX7_bestSnip 61 = .ok (.goto 4, 3) := by decide +kernel
theorem dX7_bestSnip_64 : decode cX7_bestSnip 64 = .ok (.iconst 0, 1) := by decide +kernel
theorem dX7_bestSnip_65 : decode cX7_bestSnip 65 = .ok (.iadd, 1) := by decide +kernel
theorem dX7_bestSnip_66 : decode cX7_bestSnip 66 = .ok (.istore 5, 2) := by decide +kernel
theorem dX7_bestSnip_68 : decode cX7_bestSnip 68 = .ok (.iload 5, 2) := by decide +kernel
theorem dX7_bestSnip_70 : decode cX7_bestSnip 70 = .ok (.iload_n 3, 1) := by decide +kernel
theorem dX7_bestSnip_71 : decode cX7_bestSnip 71 = .ok (.if_icmp .le 8, 3) := by decide +kernel
theorem dX7_bestSnip_74 : decode cX7_bestSnip 74 = .ok (.iload 4, 2) := by decide +kernel
theorem dX7_bestSnip_76 : decode cX7_bestSnip 76 = .ok (.goto 4, 3) := by decide +kernel
theorem dX7_bestSnip_79 : decode cX7_bestSnip 79 = .ok (.iload_n 2, 1) := by decide +kernel
theorem dX7_bestSnip_80 : decode cX7_bestSnip 80 = .ok (.istore_n 2, 1) := by decide +kernel
theorem dX7_bestSnip_81 : decode cX7_bestSnip 81 = .ok (.iload 5, 2) := by decide +kernel
theorem dX7_bestSnip_83 : decode cX7_bestSnip 83 = .ok (.iload_n 3, 1) := by decide +kernel
theorem dX7_bestSnip_84 : decode cX7_bestSnip 84 = .ok (.if_icmp .le 8, 3) := by decide +kernel
theorem dX7_bestSnip_87 : decode cX7_bestSnip 87 = .ok (.iload 5, 2) := by decide +kernel
theorem dX7_bestSnip_89 : decode cX7_bestSnip 89 = .ok (.goto 4, 3) := by decide +kernel
theorem dX7_bestSnip_92 : decode cX7_bestSnip 92 = .ok (.iload_n 3, 1) := by decide +kernel
theorem dX7_bestSnip_93 : decode cX7_bestSnip 93 = .ok (.istore_n 3, 1) := by decide +kernel
theorem dX7_bestSnip_94 : decode cX7_bestSnip 94 = .ok (.iinc 4 1, 3) := by decide +kernel
theorem dX7_bestSnip_97 : decode cX7_bestSnip 97 = .ok (.goto (-76), 3) := by decide +kernel
theorem dX7_bestSnip_100 : decode cX7_bestSnip 100 = .ok (.iload_n 1, 1) := by decide +kernel
theorem dX7_bestSnip_101 : decode cX7_bestSnip 101 = .ok (.ifCond .ne 7, 3) := by decide +kernel
theorem dX7_bestSnip_104 : decode cX7_bestSnip 104 = .ok (.iload_n 2, 1) := by decide +kernel
theorem dX7_bestSnip_105 : decode cX7_bestSnip 105 = .ok (.goto 4, 3) := by decide +kernel
theorem dX7_bestSnip_108 : decode cX7_bestSnip 108 = .ok (.iload_n 3, 1) := by decide +kernel
theorem dX7_bestSnip_109 : decode cX7_bestSnip 109 = .ok (.ireturn, 1) := by decide +kernel
set_option maxRecDepth 20000 in
theorem ggX7_weak_X7_isOver : GoodIn wsX7_weak wsX7_isOver := goodIn_r _ [5, 6, 7, 8, 9, 4, 10, 11, 12, 13, 14, 46, 47, 48, 49, 50, 51, 52, 53, 54] (by decide +kernel) (by decide +kernel)
set_option maxRecDepth 20000 in
theorem gX7_weak_X7_isOver : GoodIn wsX7_weak (wsV RX7 84 RX7 yX7_isOver wsX7_isOver) := goodIn_app (goodIn_of _ (by decide +kernel)) ggX7_weak_X7_isOver
set_option maxRecDepth 20000 in
theorem ggX7_weak_X7_holds : GoodIn wsX7_weak wsX7_holds := goodIn_r _ [18, 6, 19, 20, 21, 4, 22, 23, 24, 25, 11, 12, 13, 14, 26, 27, 28, 46, 47, 48, 49, 50, 51, 52, 53, 54] (by decide +kernel) (by decide +kernel)
set_option maxRecDepth 20000 in
theorem gX7_weak_X7_holds : GoodIn wsX7_weak (wsV RX7 58 RX7 yX7_holds wsX7_holds) := goodIn_app (goodIn_of _ (by decide +kernel)) ggX7_weak_X7_holds
set_option maxRecDepth 20000 in
theorem ggX7_weak_X7_cellsBy : GoodIn wsX7_weak wsX7_cellsBy := goodIn_r _ [32, 33, 34, 35, 4, 36, 37, 38, 39, 40, 41, 6, 11, 12, 13, 14, 15, 16, 17, 18, 19, 20, 21, 22, 23, 24, 25, 26, 27, 28, 42, 43, 44, 45, 46, 47, 48, 49, 50, 51, 52, 53, 54] (by decide +kernel) (by decide +kernel)
set_option maxRecDepth 20000 in
theorem gX7_weak_X7_cellsBy : GoodIn wsX7_weak (wsV RX7 156 RX7 yX7_cellsBy wsX7_cellsBy) := goodIn_app (goodIn_of _ (by decide +kernel)) ggX7_weak_X7_cellsBy
theorem dX7_weak_0 : decode cX7_weak 0 = .ok (.iconst 0, 1) := by decide +kernel
theorem dX7_weak_1 : decode cX7_weak 1 = .ok (.istore_n 1, 1) := by decide +kernel
theorem dX7_weak_2 : decode cX7_weak 2 = .ok (.iconst 0, 1) := by decide +kernel
theorem dX7_weak_3 : decode cX7_weak 3 = .ok (.istore_n 2, 1) := by decide +kernel
theorem dX7_weak_4 : decode cX7_weak 4 = .ok (.iload_n 2, 1) := by decide +kernel
theorem dX7_weak_5 : decode cX7_weak 5 = .ok (.bipush 82, 2) := by decide +kernel
theorem dX7_weak_7 : decode cX7_weak 7 = .ok (.if_icmp .ge 40, 3) := by decide +kernel
theorem dX7_weak_10 : decode cX7_weak 10 = .ok (.aload_n 0, 1) := by decide +kernel
theorem dX7_weak_11 : decode cX7_weak 11 = .ok (.invokevirtual 84, 3) := by decide +kernel
theorem dX7_weak_14 : decode cX7_weak 14 = .ok (.ifCond .ne 33, 3) := by decide +kernel
theorem dX7_weak_17 : decode cX7_weak 17 = .ok (.iload_n 1, 1) := by decide +kernel
theorem dX7_weak_18 : decode cX7_weak 18 = .ok (.aload_n 0, 1) := by decide +kernel
theorem dX7_weak_19 : decode cX7_weak 19 = .ok (.iload_n 2, 1) := by decide +kernel
theorem dX7_weak_20 : decode cX7_weak 20 = .ok (.invokevirtual 58, 3) := by decide +kernel
theorem dX7_weak_23 : decode cX7_weak 23 = .ok (.ifCond .eq 15, 3) := by decide +kernel
theorem dX7_weak_26 : decode cX7_weak 26 = .ok (.aload_n 0, 1) := by decide +kernel
theorem dX7_weak_27 : decode cX7_weak 27 = .ok (.iload_n 2, 1) := by decide +kernel
theorem dX7_weak_28 : decode cX7_weak 28 = .ok (.invokevirtual 156, 3) := by decide +kernel
theorem dX7_weak_31 : decode cX7_weak 31 = .ok (.ifCond .le 7, 3) := by decide +kernel
theorem dX7_weak_34 : decode cX7_weak 34 = .ok (.iconst 1, 1) := by decide +kernel
theorem dX7_weak_35 : decode cX7_weak 35 = .ok (.goto 4, 3) := by decide +kernel
theorem dX7_weak_38 : decode cX7_weak 38 = .ok (.iconst 0, 1) := by decide +kernel
theorem dX7_weak_39 : decode cX7_weak 39 = .ok (.iadd, 1) := by decide +kernel
theorem dX7_weak_40 : decode cX7_weak 40 = .ok (.istore_n 1, 1) := by decide +kernel
theorem dX7_weak_41 : decode cX7_weak 41 = .ok (.iinc 2 1, 3) := by decide +kernel
theorem dX7_weak_44 : decode cX7_weak 44 = .ok (.goto (-40), 3) := by decide +kernel
theorem dX7_weak_47 : decode cX7_weak 47 = .ok (.iload_n 1, 1) := by decide +kernel
theorem dX7_weak_48 : decode cX7_weak 48 = .ok (.ireturn, 1) := by decide +kernel
set_option maxRecDepth 20000 in
theorem ggX7_together_X7_isCell : GoodIn wsX7_together wsX7_isCell := goodIn_r _ [5, 6, 7, 4, 8] (by decide +kernel) (by decide +kernel)
set_option maxRecDepth 20000 in
theorem gX7_together_X7_isCell : GoodIn wsX7_together (va_wsS RX7 138 yX7_isCell wsX7_isCell) := goodIn_app (goodIn_of _ (by decide +kernel)) ggX7_together_X7_isCell
set_option maxRecDepth 20000 in
theorem ggX7_together_X7_in : GoodIn wsX7_together wsX7_in := goodIn_r _ [8] (by decide +kernel) (by decide +kernel)
set_option maxRecDepth 20000 in
theorem gX7_together_X7_in : GoodIn wsX7_together (va_wsS RX7 36 yX7_in wsX7_in) := goodIn_app (goodIn_of _ (by decide +kernel)) ggX7_together_X7_in
set_option maxRecDepth 20000 in
theorem ggX7_together_X7_isGone : GoodIn wsX7_together wsX7_isGone := goodIn_r _ [12, 13, 32, 33, 34, 35, 36, 37, 38, 39, 40] (by decide +kernel) (by decide +kernel)
set_option maxRecDepth 20000 in
theorem gX7_together_X7_isGone : GoodIn wsX7_together (wsV RX7 44 RX7 yX7_isGone wsX7_isGone) := goodIn_app (goodIn_of _ (by decide +kernel)) ggX7_together_X7_isGone
set_option maxRecDepth 20000 in
theorem ggX7_together_X7_layPieces : GoodIn wsX7_together wsX7_layPieces := goodIn_r _ [17, 1, 13, 9, 10, 11, 4, 12, 18, 19, 20, 21, 22, 23, 24, 25, 26, 27, 28, 29, 30, 31, 32, 33, 34, 35, 36, 37, 38, 39, 40] (by decide +kernel) (by decide +kernel)
set_option maxRecDepth 20000 in
theorem gX7_together_X7_layPieces : GoodIn wsX7_together (wsV RX7 61 RX7 yX7_layPieces wsX7_layPieces) := goodIn_app (goodIn_of _ (by decide +kernel)) ggX7_together_X7_layPieces
theorem dX7_together_0 : decode cX7_together 0 = .ok (.iload_n 1, 1) := by decide +kernel
theorem dX7_together_1 : decode cX7_together 1 = .ok (.invokestatic 138, 3) := by decide +kernel
theorem dX7_together_4 : decode cX7_together 4 = .ok (.ifCond .eq 10, 3) := by decide +kernel
theorem dX7_together_7 : decode cX7_together 7 = .ok (.iload_n 2, 1) := by decide +kernel
theorem dX7_together_8 : decode cX7_together 8 = .ok (.invokestatic 138, 3) := by decide +kernel
theorem dX7_together_11 : decode cX7_together 11 = .ok (.ifCond .ne 5, 3) := by decide +kernel
theorem dX7_together_14 : decode cX7_together 14 = .ok (.iconst (-1), 1) := by decide +kernel
theorem dX7_together_15 : decode cX7_together 15 = .ok (.ireturn, 1) := by decide +kernel
theorem dX7_together_16 : decode cX7_together 16 = .ok (.iload_n 3, 1) := by decide +kernel
theorem dX7_together_17 : decode cX7_together 17 = .ok (.iconst 0, 1) := by decide +kernel
theorem dX7_together_18 : decode cX7_together 18 = .ok (.iconst 1, 1) := by decide +kernel
theorem dX7_together_19 : decode cX7_together 19 = .ok (.invokestatic 36, 3) := by decide +kernel
theorem dX7_together_22 : decode cX7_together 22 = .ok (.ifCond .ne 6, 3) := by decide +kernel
theorem dX7_together_25 : decode cX7_together 25 = .ok (.bipush (-2), 2) := by decide +kernel
theorem dX7_together_27 : decode cX7_together 27 = .ok (.ireturn, 1) := by decide +kernel
theorem dX7_together_28 : decode cX7_together 28 = .ok (.aload_n 0, 1) := by decide +kernel
theorem dX7_together_29 : decode cX7_together 29 = .ok (.iload_n 1, 1) := by decide +kernel
theorem dX7_together_30 : decode cX7_together 30 = .ok (.invokevirtual 44, 3) := by decide +kernel
theorem dX7_together_33 : decode cX7_together 33 = .ok (.ifCond .ne 11, 3) := by decide +kernel
theorem dX7_together_36 : decode cX7_together 36 = .ok (.aload_n 0, 1) := by decide +kernel
theorem dX7_together_37 : decode cX7_together 37 = .ok (.iload_n 2, 1) := by decide +kernel
theorem dX7_together_38 : decode cX7_together 38 = .ok (.invokevirtual 44, 3) := by decide +kernel
theorem dX7_together_41 : decode cX7_together 41 = .ok (.ifCond .eq 6, 3) := by decide +kernel
theorem dX7_together_44 : decode cX7_together 44 = .ok (.bipush (-5), 2) := by decide +kernel
theorem dX7_together_46 : decode cX7_together 46 = .ok (.ireturn, 1) := by decide +kernel
theorem dX7_together_47 : decode cX7_together 47 = .ok (.aload_n 0, 1) := by decide +kernel
theorem dX7_together_48 : decode cX7_together 48 = .ok (.bipush (-6), 2) := by decide +kernel
theorem dX7_together_50 : decode cX7_together 50 = .ok (.iload_n 3, 1) := by decide +kernel
theorem dX7_together_51 : decode cX7_together 51 = .ok (.iconst 1, 1) := by decide +kernel
theorem dX7_together_52 : decode cX7_together 52 = .ok (.if_icmp .ne 7, 3) := by decide +kernel
theorem dX7_together_55 : decode cX7_together 55 = .ok (.iconst 1, 1) := by decide +kernel
theorem dX7_together_56 : decode cX7_together 56 = .ok (.goto 4, 3) := by decide +kernel
theorem dX7_together_59 : decode cX7_together 59 = .ok (.iconst 0, 1) := by decide +kernel
theorem dX7_together_60 : decode cX7_together 60 = .ok (.invokevirtual 61, 3) := by decide +kernel
theorem dX7_together_63 : decode cX7_together 63 = .ok (.aload_n 0, 1) := by decide +kernel
theorem dX7_together_64 : decode cX7_together 64 = .ok (.getfield 29, 3) := by decide +kernel
theorem dX7_together_67 : decode cX7_together 67 = .ok (.iload_n 1, 1) := by decide +kernel
theorem dX7_together_68 : decode cX7_together 68 = .ok (.iaload, 1) := by decide +kernel
theorem dX7_together_69 : decode cX7_together 69 = .ok (.aload_n 0, 1) := by decide +kernel
theorem dX7_together_70 : decode cX7_together 70 = .ok (.getfield 29, 3) := by decide +kernel
theorem dX7_together_73 : decode cX7_together 73 = .ok (.iload_n 2, 1) := by decide +kernel
theorem dX7_together_74 : decode cX7_together 74 = .ok (.iaload, 1) := by decide +kernel
theorem dX7_together_75 : decode cX7_together 75 = .ok (.if_icmp .ne 7, 3) := by decide +kernel
theorem dX7_together_78 : decode cX7_together 78 = .ok (.iconst 1, 1) := by decide +kernel
theorem dX7_together_79 : decode cX7_together 79 = .ok (.goto 4, 3) := by decide +kernel
theorem dX7_together_82 : decode cX7_together 82 = .ok (.iconst 0, 1) := by decide +kernel
theorem dX7_together_83 : decode cX7_together 83 = .ok (.ireturn, 1) := by decide +kernel
set_option maxRecDepth 20000 in
theorem ggX7_put_X7_in : GoodIn wsX7_put wsX7_in := goodIn_r _ [7] (by decide +kernel) (by decide +kernel)
set_option maxRecDepth 20000 in
theorem gX7_put_X7_in : GoodIn wsX7_put (va_wsS RX7 36 yX7_in wsX7_in) := goodIn_app (goodIn_of _ (by decide +kernel)) ggX7_put_X7_in
theorem dX7_put_0 : decode cX7_put 0 = .ok (.iconst 0, 1) := by decide +kernel
theorem dX7_put_1 : decode cX7_put 1 = .ok (.istore_n 3, 1) := by decide +kernel
theorem dX7_put_2 : decode cX7_put 2 = .ok (.iconst 0, 1) := by decide +kernel
theorem dX7_put_3 : decode cX7_put 3 = .ok (.istore 4, 2) := by decide +kernel
theorem dX7_put_5 : decode cX7_put 5 = .ok (.iconst 0, 1) := by decide +kernel
theorem dX7_put_6 : decode cX7_put 6 = .ok (.istore 5, 2) := by decide +kernel
theorem dX7_put_8 : decode cX7_put 8 = .ok (.iload 5, 2) := by decide +kernel
theorem dX7_put_10 : decode cX7_put 10 = .ok (.bipush 8, 2) := by decide +kernel
theorem dX7_put_12 : decode cX7_put 12 = .ok (.if_icmp .ge 89, 3) := by decide +kernel
theorem dX7_put_15 : decode cX7_put 15 = .ok (.lload_n 1, 1) := by decide +kernel
theorem dX7_put_16 : decode cX7_put 16 = .ok (.bipush 8, 2) := by decide +kernel
theorem dX7_put_18 : decode cX7_put 18 = .ok (.iload 5, 2) := by decide +kernel
theorem dX7_put_20 : decode cX7_put 20 = .ok (.imul, 1) := by decide +kernel
theorem dX7_put_21 : decode cX7_put 21 = .ok (.lushr, 1) := by decide +kernel
theorem dX7_put_22 : decode cX7_put 22 = .ok (.ldc2_w 159, 3) := by decide +kernel
theorem dX7_put_25 : decode cX7_put 25 = .ok (.land, 1) := by decide +kernel
theorem dX7_put_26 : decode cX7_put 26 = .ok (.l2i, 1) := by decide +kernel
theorem dX7_put_27 : decode cX7_put 27 = .ok (.istore 6, 2) := by decide +kernel
theorem dX7_put_29 : decode cX7_put 29 = .ok (.iload 5, 2) := by decide +kernel
theorem dX7_put_31 : decode cX7_put 31 = .ok (.ifCond .le 19, 3) := by decide +kernel
theorem dX7_put_34 : decode cX7_put 34 = .ok (.lload_n 1, 1) := by decide +kernel
theorem dX7_put_35 : decode cX7_put 35 = .ok (.bipush 8, 2) := by decide +kernel
theorem dX7_put_37 : decode cX7_put 37 = .ok (.iload 5, 2) := by decide +kernel
theorem dX7_put_39 : decode cX7_put 39 = .ok (.imul, 1) := by decide +kernel
theorem dX7_put_40 : decode cX7_put 40 = .ok (.lushr, 1) := by decide +kernel
theorem dX7_put_41 : decode cX7_put 41 = .ok (.lconst 0, 1) := by decide +kernel
theorem dX7_put_42 : decode cX7_put 42 = .ok (.lcmp, 1) := by decide +kernel
theorem dX7_put_43 : decode cX7_put 43 = .ok (.ifCond .ne 7, 3) := by decide +kernel
theorem dX7_put_46 : decode cX7_put 46 = .ok (.iconst 1, 1) := by decide +kernel
theorem dX7_put_47 : decode cX7_put 47 = .ok (.goto 4, 3) := by decide +kernel
theorem dX7_put_50 : decode cX7_put 50 = .ok (.iconst 0, 1) := by decide +kernel
theorem dX7_put_51 : decode cX7_put 51 = .ok (.istore 7, 2) := by decide +kernel
theorem dX7_put_53 : decode cX7_put 53 = .ok (.iload 4, 2) := by decide +kernel
theorem dX7_put_55 : decode cX7_put 55 = .ok (.ifCond .ne 20, 3) := by decide +kernel
theorem dX7_put_58 : decode cX7_put 58 = .ok (.iload 7, 2) := by decide +kernel
theorem dX7_put_60 : decode cX7_put 60 = .ok (.ifCond .ne 19, 3) := by decide +kernel
theorem dX7_put_63 : decode cX7_put 63 = .ok (.iload 6, 2) := by decide +kernel
theorem dX7_put_65 : decode cX7_put 65 = .ok (.bipush 33, 2) := by decide +kernel
theorem dX7_put_67 : decode cX7_put 67 = .ok (.bipush 126, 2) := by decide +kernel
theorem dX7_put_69 : decode cX7_put 69 = .ok (.invokestatic 36, 3) := by decide +kernel
theorem dX7_put_72 : decode cX7_put 72 = .ok (.ifCond .ne 7, 3) := by decide +kernel
theorem dX7_put_75 : decode cX7_put 75 = .ok (.iconst 1, 1) := by decide +kernel
theorem dX7_put_76 : decode cX7_put 76 = .ok (.goto 4, 3) := by decide +kernel
theorem dX7_put_79 : decode cX7_put 79 = .ok (.iconst 0, 1) := by decide +kernel
theorem dX7_put_80 : decode cX7_put 80 = .ok (.istore 4, 2) := by decide +kernel
theorem dX7_put_82 : decode cX7_put 82 = .ok (.iload_n 3, 1) := by decide +kernel
theorem dX7_put_83 : decode cX7_put 83 = .ok (.iload 7, 2) := by decide +kernel
theorem dX7_put_85 : decode cX7_put 85 = .ok (.ifCond .eq 7, 3) := by decide +kernel
theorem dX7_put_88 : decode cX7_put 88 = .ok (.iconst 0, 1) := by decide +kernel
theorem dX7_put_89 : decode cX7_put 89 = .ok (.goto 4, 3) := by decide +kernel
theorem dX7_put_92 : decode cX7_put 92 = .ok (.iconst 1, 1) := by decide +kernel
theorem dX7_put_93 : decode cX7_put 93 = .ok (.iadd, 1) := by decide +kernel
theorem dX7_put_94 : decode cX7_put 94 = .ok (.istore_n 3, 1) := by decide +kernel
theorem dX7_put_95 : decode cX7_put 95 = .ok (.iinc 5 1, 3) := by decide +kernel
theorem dX7_put_98 : decode cX7_put 98 = .ok (.goto (-90), 3) := by decide +kernel
theorem dX7_put_101 : decode cX7_put 101 = .ok (.iload 4, 2) := by decide +kernel
theorem dX7_put_103 : decode cX7_put 103 = .ok (.ifCond .eq 6, 3) := by decide +kernel
theorem dX7_put_106 : decode cX7_put 106 = .ok (.bipush (-2), 2) := by decide +kernel
theorem dX7_put_108 : decode cX7_put 108 = .ok (.ireturn, 1) := by decide +kernel
theorem dX7_put_109 : decode cX7_put 109 = .ok (.aload_n 0, 1) := by decide +kernel
theorem dX7_put_110 : decode cX7_put 110 = .ok (.getfield 153, 3) := by decide +kernel
theorem dX7_put_113 : decode cX7_put 113 = .ok (.iload_n 3, 1) := by decide +kernel
theorem dX7_put_114 : decode cX7_put 114 = .ok (.iadd, 1) := by decide +kernel
theorem dX7_put_115 : decode cX7_put 115 = .ok (.bipush 80, 2) := by decide +kernel
theorem dX7_put_117 : decode cX7_put 117 = .ok (.if_icmp .le 6, 3) := by decide +kernel
theorem dX7_put_120 : decode cX7_put 120 = .ok (.bipush (-4), 2) := by decide +kernel
theorem dX7_put_122 : decode cX7_put 122 = .ok (.ireturn, 1) := by decide +kernel
theorem dX7_put_123 : decode cX7_put 123 = .ok (.iconst 0, 1) := by decide +kernel
theorem dX7_put_124 : decode cX7_put 124 = .ok (.istore 5, 2) := by decide +kernel
theorem dX7_put_126 : decode cX7_put 126 = .ok (.iload 5, 2) := by decide +kernel
theorem dX7_put_128 : decode cX7_put 128 = .ok (.iload_n 3, 1) := by decide +kernel
theorem dX7_put_129 : decode cX7_put 129 = .ok (.if_icmp .ge 37, 3) := by decide +kernel
theorem dX7_put_132 : decode cX7_put 132 = .ok (.aload_n 0, 1) := by decide +kernel
theorem dX7_put_133 : decode cX7_put 133 = .ok (.getfield 26, 3) := by decide +kernel
theorem dX7_put_136 : decode cX7_put 136 = .ok (.aload_n 0, 1) := by decide +kernel
theorem dX7_put_137 : decode cX7_put 137 = .ok (.getfield 153, 3) := by decide +kernel
theorem dX7_put_140 : decode cX7_put 140 = .ok (.iload_n 3, 1) := by decide +kernel
theorem dX7_put_141 : decode cX7_put 141 = .ok (.iadd, 1) := by decide +kernel
theorem dX7_put_142 : decode cX7_put 142 = .ok (.iconst 1, 1) := by decide +kernel
theorem dX7_put_143 : decode cX7_put 143 = .ok (.isub, 1) := by decide +kernel
theorem dX7_put_144 : decode cX7_put 144 = .ok (.iload 5, 2) := by decide +kernel
theorem dX7_put_146 : decode cX7_put 146 = .ok (.isub, 1) := by decide +kernel
theorem dX7_put_147 : decode cX7_put 147 = .ok (.lload_n 1, 1) := by decide +kernel
theorem dX7_put_148 : decode cX7_put 148 = .ok (.bipush 8, 2) := by decide +kernel
theorem dX7_put_150 : decode cX7_put 150 = .ok (.iload 5, 2) := by decide +kernel
theorem dX7_put_152 : decode cX7_put 152 = .ok (.imul, 1) := by decide +kernel
theorem dX7_put_153 : decode cX7_put 153 = .ok (.lushr, 1) := by decide +kernel
theorem dX7_put_154 : decode cX7_put 154 = .ok (.ldc2_w 159, 3) := by decide +kernel
theorem dX7_put_157 : decode cX7_put 157 = .ok (.land, 1) := by decide +kernel
theorem dX7_put_158 : decode cX7_put 158 = .ok (.l2i, 1) := by decide +kernel
theorem dX7_put_159 : decode cX7_put 159 = .ok (.iastore, 1) := by decide +kernel
theorem dX7_put_160 : decode cX7_put 160 = .ok (.iinc 5 1, 3) := by decide +kernel
theorem dX7_put_163 : decode cX7_put 163 = .ok (.goto (-37), 3) := by decide +kernel
theorem dX7_put_166 : decode cX7_put 166 = .ok (.aload_n 0, 1) := by decide +kernel
theorem dX7_put_167 : decode cX7_put 167 = .ok (.dup, 1) := by decide +kernel
theorem dX7_put_168 : decode cX7_put 168 = .ok (.getfield 153, 3) := by decide +kernel
theorem dX7_put_171 : decode cX7_put 171 = .ok (.iload_n 3, 1) := by decide +kernel
theorem dX7_put_172 : decode cX7_put 172 = .ok (.iadd, 1) := by decide +kernel
theorem dX7_put_173 : decode cX7_put 173 = .ok (.putfield 153, 3) := by decide +kernel
theorem dX7_put_176 : decode cX7_put 176 = .ok (.aload_n 0, 1) := by decide +kernel
theorem dX7_put_177 : decode cX7_put 177 = .ok (.getfield 153, 3) := by decide +kernel
theorem dX7_put_180 : decode cX7_put 180 = .ok (.ireturn, 1) := by decide +kernel
theorem dX7_wipe_0 : decode cX7_wipe 0 = .ok (.aload_n 0, 1) := by decide +kernel
theorem dX7_wipe_1 : decode cX7_wipe 1 = .ok (.getfield 153, 3) := by decide +kernel
theorem dX7_wipe_4 : decode cX7_wipe 4 = .ok (.istore_n 1, 1) := by decide +kernel
theorem dX7_wipe_5 : decode cX7_wipe 5 = .ok (.aload_n 0, 1) := by decide +kernel
theorem dX7_wipe_6 : decode cX7_wipe 6 = .ok (.iconst 0, 1) := by decide +kernel
theorem dX7_wipe_7 : decode cX7_wipe 7 = .ok (.putfield 153, 3) := by decide +kernel
theorem dX7_wipe_10 : decode cX7_wipe 10 = .ok (.iload_n 1, 1) := by decide +kernel
theorem dX7_wipe_11 : decode cX7_wipe 11 = .ok (.ireturn, 1) := by decide +kernel
theorem dX7_charAt_0 : decode cX7_charAt 0 = .ok (.iload_n 1, 1) := by decide +kernel
theorem dX7_charAt_1 : decode cX7_charAt 1 = .ok (.aload_n 0, 1) := by decide +kernel
theorem dX7_charAt_2 : decode cX7_charAt 2 = .ok (.getfield 153, 3) := by decide +kernel
theorem dX7_charAt_5 : decode cX7_charAt 5 = .ok (.if_icmp .ge 12, 3) := by decide +kernel
theorem dX7_charAt_8 : decode cX7_charAt 8 = .ok (.aload_n 0, 1) := by decide +kernel
theorem dX7_charAt_9 : decode cX7_charAt 9 = .ok (.getfield 26, 3) := by decide +kernel
theorem dX7_charAt_12 : decode cX7_charAt 12 = .ok (.iload_n 1, 1) := by decide +kernel
theorem dX7_charAt_13 : decode cX7_charAt 13 = .ok (.iaload, 1) := by decide +kernel
theorem dX7_charAt_14 : decode cX7_charAt 14 = .ok (.goto 4, 3) := by decide +kernel
theorem dX7_charAt_17 : decode cX7_charAt 17 = .ok (.iconst 0, 1) := by decide +kernel
theorem dX7_charAt_18 : decode cX7_charAt 18 = .ok (.ireturn, 1) := by decide +kernel
set_option maxRecDepth 20000 in
theorem ggX7_digitAt_X7_charAt : GoodIn wsX7_digitAt wsX7_charAt := goodIn_r _ [5, 6, 7, 8, 9, 10, 11, 12, 13, 14, 15, 16] (by decide +kernel) (by decide +kernel)
set_option maxRecDepth 20000 in
theorem gX7_digitAt_X7_charAt : GoodIn wsX7_digitAt (wsV RX7 161 RX7 yX7_charAt wsX7_charAt) := goodIn_app (goodIn_of _ (by decide +kernel)) ggX7_digitAt_X7_charAt
theorem dX7_digitAt_0 : decode cX7_digitAt 0 = .ok (.aload_n 0, 1) := by decide +kernel
theorem dX7_digitAt_1 : decode cX7_digitAt 1 = .ok (.iload_n 1, 1) := by decide +kernel
theorem dX7_digitAt_2 : decode cX7_digitAt 2 = .ok (.invokevirtual 161, 3) := by decide +kernel
theorem dX7_digitAt_5 : decode cX7_digitAt 5 = .ok (.bipush 48, 2) := by decide +kernel
theorem dX7_digitAt_7 : decode cX7_digitAt 7 = .ok (.isub, 1) := by decide +kernel
theorem dX7_digitAt_8 : decode cX7_digitAt 8 = .ok (.ireturn, 1) := by decide +kernel
set_option maxRecDepth 20000 in
theorem ggX7_behindOrder_X7_charAt : GoodIn wsX7_behindOrder wsX7_charAt := goodIn_r _ [5, 6, 7, 15, 16, 17, 18, 19, 20, 21, 22, 23] (by decide +kernel) (by decide +kernel)
set_option maxRecDepth 20000 in
theorem gX7_behindOrder_X7_charAt : GoodIn wsX7_behindOrder (wsV RX7 161 RX7 yX7_charAt wsX7_charAt) := goodIn_app (goodIn_of _ (by decide +kernel)) ggX7_behindOrder_X7_charAt
set_option maxRecDepth 20000 in
theorem ggX7_behindOrder_X7_digitAt : GoodIn wsX7_behindOrder wsX7_digitAt := goodIn_r _ [11, 1, 2, 3, 4, 5, 6, 7, 15, 16, 17, 18, 19, 20, 21, 22, 23] (by decide +kernel) (by decide +kernel)
set_option maxRecDepth 20000 in
theorem gX7_behindOrder_X7_digitAt : GoodIn wsX7_behindOrder (wsV RX7 164 RX7 yX7_digitAt wsX7_digitAt) := goodIn_app (goodIn_of _ (by decide +kernel)) ggX7_behindOrder_X7_digitAt
set_option maxRecDepth 20000 in
theorem ggX7_behindOrder_X7_in : GoodIn wsX7_behindOrder wsX7_in := goodIn_r _ [14] (by decide +kernel) (by decide +kernel)
set_option maxRecDepth 20000 in
theorem gX7_behindOrder_X7_in : GoodIn wsX7_behindOrder (va_wsS RX7 36 yX7_in wsX7_in) := goodIn_app (goodIn_of _ (by decide +kernel)) ggX7_behindOrder_X7_in
theorem dX7_behindOrder_0 : decode cX7_behindOrder 0 = .ok (.aload_n 0, 1) := by decide +kernel
theorem dX7_behindOrder_1 : decode cX7_behindOrder 1 = .ok (.iload_n 1, 1) := by decide +kernel
theorem dX7_behindOrder_2 : decode cX7_behindOrder 2 = .ok (.invokevirtual 161, 3) := by decide +kernel
theorem dX7_behindOrder_5 : decode cX7_behindOrder 5 = .ok (.istore_n 2, 1) := by decide +kernel
theorem dX7_behindOrder_6 : decode cX7_behindOrder 6 = .ok (.iload_n 2, 1) := by decide +kernel
theorem dX7_behindOrder_7 : decode cX7_behindOrder 7 = .ok (.bipush 112, 2) := by decide +kernel
theorem dX7_behindOrder_9 : decode cX7_behindOrder 9 = .ok (.if_icmp .ne 7, 3) := by decide +kernel
theorem dX7_behindOrder_12 : decode cX7_behindOrder 12 = .ok (.iload_n 1, 1) := by decide +kernel
theorem dX7_behindOrder_13 : decode cX7_behindOrder 13 = .ok (.iconst 1, 1) := by decide +kernel
theorem dX7_behindOrder_14 : decode cX7_behindOrder 14 = .ok (.iadd, 1) := by decide +kernel
theorem dX7_behindOrder_15 : decode cX7_behindOrder 15 = .ok (.ireturn, 1) := by decide +kernel
theorem dX7_behindOrder_16 : decode cX7_behindOrder 16 = .ok (.iload_n 2, 1) := by decide +kernel
theorem dX7_behindOrder_17 : decode cX7_behindOrder 17 = .ok (.bipush 99, 2) := by decide +kernel
theorem dX7_behindOrder_19 : decode cX7_behindOrder 19 = .ok (.if_icmp .eq 31, 3) := by decide +kernel
theorem dX7_behindOrder_22 : decode cX7_behindOrder 22 = .ok (.iload_n 2, 1) := by decide +kernel
theorem dX7_behindOrder_23 : decode cX7_behindOrder 23 = .ok (.bipush 115, 2) := by decide +kernel
theorem dX7_behindOrder_25 : decode cX7_behindOrder 25 = .ok (.if_icmp .eq 25, 3) := by decide +kernel
theorem dX7_behindOrder_28 : decode cX7_behindOrder 28 = .ok (.iload_n 2, 1) := by decide +kernel
theorem dX7_behindOrder_29 : decode cX7_behindOrder 29 = .ok (.bipush 119, 2) := by decide +kernel
theorem dX7_behindOrder_31 : decode cX7_behindOrder 31 = .ok (.if_icmp .eq 19, 3) := by decide +kernel
theorem dX7_behindOrder_34 : decode cX7_behindOrder 34 = .ok (.iload_n 2, 1) := by decide +kernel
theorem dX7_behindOrder_35 : decode cX7_behindOrder 35 = .ok (.bipush 98, 2) := by decide +kernel
theorem dX7_behindOrder_37 : decode cX7_behindOrder 37 = .ok (.if_icmp .eq 13, 3) := by decide +kernel
theorem dX7_behindOrder_40 : decode cX7_behindOrder 40 = .ok (.iload_n 2, 1) := by decide +kernel
theorem dX7_behindOrder_41 : decode cX7_behindOrder 41 = .ok (.bipush 100, 2) := by decide +kernel
theorem dX7_behindOrder_43 : decode cX7_behindOrder 43 = .ok (.if_icmp .eq 7, 3) := by decide +kernel
theorem dX7_behindOrder_46 : decode cX7_behindOrder 46 = .ok (.iconst (-1), 1) := by decide +kernel
theorem dX7_behindOrder_47 : decode cX7_behindOrder 47 = .ok (.iload_n 1, 1) := by decide +kernel
theorem dX7_behindOrder_48 : decode cX7_behindOrder 48 = .ok (.isub, 1) := by decide +kernel
theorem dX7_behindOrder_49 : decode cX7_behindOrder 49 = .ok (.ireturn, 1) := by decide +kernel
theorem dX7_behindOrder_50 : decode cX7_behindOrder 50 = .ok (.aload_n 0, 1) := by decide +kernel
theorem dX7_behindOrder_51 : decode cX7_behindOrder 51 = .ok (.iload_n 1, 1) := by decide +kernel
theorem dX7_behindOrder_52 : decode cX7_behindOrder 52 = .ok (.iconst 1, 1) := by decide +kernel
theorem dX7_behindOrder_53 : decode cX7_behindOrder 53 = .ok (.iadd, 1) := by decide +kernel
theorem dX7_behindOrder_54 : decode cX7_behindOrder 54 = .ok (.invokevirtual 164, 3) := by decide +kernel
theorem dX7_behindOrder_57 : decode cX7_behindOrder 57 = .ok (.iconst 0, 1) := by decide +kernel
theorem dX7_behindOrder_58 : decode cX7_behindOrder 58 = .ok (.bipush 9, 2) := by decide +kernel
theorem dX7_behindOrder_60 : decode cX7_behindOrder 60 = .ok (.invokestatic 36, 3) := by decide +kernel
theorem dX7_behindOrder_63 : decode cX7_behindOrder 63 = .ok (.ifCond .ne 8, 3) := by decide +kernel
theorem dX7_behindOrder_66 : decode cX7_behindOrder 66 = .ok (.bipush (-2), 2) := by decide +kernel
theorem dX7_behindOrder_68 : decode cX7_behindOrder 68 = .ok (.iload_n 1, 1) := by decide +kernel
theorem dX7_behindOrder_69 : decode cX7_behindOrder 69 = .ok (.isub, 1) := by decide +kernel
theorem dX7_behindOrder_70 : decode cX7_behindOrder 70 = .ok (.ireturn, 1) := by decide +kernel
theorem dX7_behindOrder_71 : decode cX7_behindOrder 71 = .ok (.aload_n 0, 1) := by decide +kernel
theorem dX7_behindOrder_72 : decode cX7_behindOrder 72 = .ok (.iload_n 1, 1) := by decide +kernel
theorem dX7_behindOrder_73 : decode cX7_behindOrder 73 = .ok (.iconst 1, 1) := by decide +kernel
theorem dX7_behindOrder_74 : decode cX7_behindOrder 74 = .ok (.iadd, 1) := by decide +kernel
theorem dX7_behindOrder_75 : decode cX7_behindOrder 75 = .ok (.invokevirtual 164, 3) := by decide +kernel
theorem dX7_behindOrder_78 : decode cX7_behindOrder 78 = .ok (.ifCond .le 25, 3) := by decide +kernel
theorem dX7_behindOrder_81 : decode cX7_behindOrder 81 = .ok (.aload_n 0, 1) := by decide +kernel
theorem dX7_behindOrder_82 : decode cX7_behindOrder 82 = .ok (.iload_n 1, 1) := by decide +kernel
theorem dX7_behindOrder_83 : decode cX7_behindOrder 83 = .ok (.iconst 2, 1) := by decide +kernel
theorem dX7_behindOrder_84 : decode cX7_behindOrder 84 = .ok (.iadd, 1) := by decide +kernel
theorem dX7_behindOrder_85 : decode cX7_behindOrder 85 = .ok (.invokevirtual 164, 3) := by decide +kernel
theorem dX7_behindOrder_88 : decode cX7_behindOrder 88 = .ok (.iconst 0, 1) := by decide +kernel
theorem dX7_behindOrder_89 : decode cX7_behindOrder 89 = .ok (.bipush 9, 2) := by decide +kernel
theorem dX7_behindOrder_91 : decode cX7_behindOrder 91 = .ok (.invokestatic 36, 3) := by decide +kernel
theorem dX7_behindOrder_94 : decode cX7_behindOrder 94 = .ok (.ifCond .eq 9, 3) := by decide +kernel
theorem dX7_behindOrder_97 : decode cX7_behindOrder 97 = .ok (.iload_n 1, 1) := by decide +kernel
theorem dX7_behindOrder_98 : decode cX7_behindOrder 98 = .ok (.iconst 3, 1) := by decide +kernel
theorem dX7_behindOrder_99 : decode cX7_behindOrder 99 = .ok (.iadd, 1) := by decide +kernel
theorem dX7_behindOrder_100 : decode cX7_behindOrder 100 = .ok (.goto 6, 3) := by decide +kernel
theorem dX7_behindOrder_103 : decode cX7_behindOrder 103 = .ok (.iload_n 1, 1) := by decide +kernel
theorem dX7_behindOrder_104 : decode cX7_behindOrder 104 = .ok (.iconst 2, 1) := by decide +kernel
theorem dX7_behindOrder_105 : decode cX7_behindOrder 105 = .ok (.iadd, 1) := by decide +kernel
theorem dX7_behindOrder_106 : decode cX7_behindOrder 106 = .ok (.ireturn, 1) := by decide +kernel
set_option maxRecDepth 20000 in
theorem ggX7_wrong_X7_behindOrder : GoodIn wsX7_wrong wsX7_behindOrder := goodIn_r _ [7, 8, 9, 10, 6, 11, 1, 2, 12, 13, 14, 15, 16, 17, 18, 19, 20, 21, 22, 23, 24, 25, 26, 27] (by decide +kernel) (by decide +kernel)
set_option maxRecDepth 20000 in
theorem gX7_wrong_X7_behindOrder : GoodIn wsX7_wrong (wsV RX7 167 RX7 yX7_behindOrder wsX7_behindOrder) := goodIn_app (goodIn_of _ (by decide +kernel)) ggX7_wrong_X7_behindOrder
theorem dX7_wrong_0 : decode cX7_wrong 0 = .ok (.iconst 0, 1) := by decide +kernel
theorem dX7_wrong_1 : decode cX7_wrong 1 = .ok (.istore_n 1, 1) := by decide +kernel
theorem dX7_wrong_2 : decode cX7_wrong 2 = .ok (.iconst 1, 1) := by decide +kernel
theorem dX7_wrong_3 : decode cX7_wrong 3 = .ok (.istore_n 2, 1) := by decide +kernel
theorem dX7_wrong_4 : decode cX7_wrong 4 = .ok (.iload_n 2, 1) := by decide +kernel
theorem dX7_wrong_5 : decode cX7_wrong 5 = .ok (.ifCond .eq 63, 3) := by decide +kernel
theorem dX7_wrong_8 : decode cX7_wrong 8 = .ok (.aload_n 0, 1) := by decide +kernel
theorem dX7_wrong_9 : decode cX7_wrong 9 = .ok (.iload_n 1, 1) := by decide +kernel
theorem dX7_wrong_10 : decode cX7_wrong 10 = .ok (.invokevirtual 167, 3) := by decide +kernel
theorem dX7_wrong_13 : decode cX7_wrong 13 = .ok (.istore_n 1, 1) := by decide +kernel
theorem dX7_wrong_14 : decode cX7_wrong 14 = .ok (.iload_n 1, 1) := by decide +kernel
theorem dX7_wrong_15 : decode cX7_wrong 15 = .ok (.ifCond .ge 7, 3) := by decide +kernel
theorem dX7_wrong_18 : decode cX7_wrong 18 = .ok (.iconst (-1), 1) := by decide +kernel
theorem dX7_wrong_19 : decode cX7_wrong 19 = .ok (.iload_n 1, 1) := by decide +kernel
theorem dX7_wrong_20 : decode cX7_wrong 20 = .ok (.isub, 1) := by decide +kernel
theorem dX7_wrong_21 : decode cX7_wrong 21 = .ok (.ireturn, 1) := by decide +kernel
theorem dX7_wrong_22 : decode cX7_wrong 22 = .ok (.iload_n 1, 1) := by decide +kernel
theorem dX7_wrong_23 : decode cX7_wrong 23 = .ok (.aload_n 0, 1) := by decide +kernel
theorem dX7_wrong_24 : decode cX7_wrong 24 = .ok (.getfield 153, 3) := by decide +kernel
theorem dX7_wrong_27 : decode cX7_wrong 27 = .ok (.if_icmp .ge 7, 3) := by decide +kernel
theorem dX7_wrong_30 : decode cX7_wrong 30 = .ok (.iconst 1, 1) := by decide +kernel
theorem dX7_wrong_31 : decode cX7_wrong 31 = .ok (.goto 4, 3) := by decide +kernel
theorem dX7_wrong_34 : decode cX7_wrong 34 = .ok (.iconst 0, 1) := by decide +kernel
theorem dX7_wrong_35 : decode cX7_wrong 35 = .ok (.istore_n 2, 1) := by decide +kernel
theorem dX7_wrong_36 : decode cX7_wrong 36 = .ok (.iload_n 2, 1) := by decide +kernel
theorem dX7_wrong_37 : decode cX7_wrong 37 = .ok (.ifCond .eq 16, 3) := by decide +kernel
theorem dX7_wrong_40 : decode cX7_wrong 40 = .ok (.aload_n 0, 1) := by decide +kernel
theorem dX7_wrong_41 : decode cX7_wrong 41 = .ok (.getfield 26, 3) := by decide +kernel
theorem dX7_wrong_44 : decode cX7_wrong 44 = .ok (.iload_n 1, 1) := by decide +kernel
theorem dX7_wrong_45 : decode cX7_wrong 45 = .ok (.iaload, 1) := by decide +kernel
theorem dX7_wrong_46 : decode cX7_wrong 46 = .ok (.bipush 59, 2) := by decide +kernel
theorem dX7_wrong_48 : decode cX7_wrong 48 = .ok (.if_icmp .eq 5, 3) := by decide +kernel
theorem dX7_wrong_51 : decode cX7_wrong 51 = .ok (.iload_n 1, 1) := by decide +kernel
theorem dX7_wrong_52 : decode cX7_wrong 52 = .ok (.ireturn, 1) := by decide +kernel
theorem dX7_wrong_53 : decode cX7_wrong 53 = .ok (.iload_n 1, 1) := by decide +kernel
theorem dX7_wrong_54 : decode cX7_wrong 54 = .ok (.iload_n 2, 1) := by decide +kernel
theorem dX7_wrong_55 : decode cX7_wrong 55 = .ok (.ifCond .eq 7, 3) := by decide +kernel
theorem dX7_wrong_58 : decode cX7_wrong 58 = .ok (.iconst 1, 1) := by decide +kernel
theorem dX7_wrong_59 : decode cX7_wrong 59 = .ok (.goto 4, 3) := by decide +kernel
theorem dX7_wrong_62 : decode cX7_wrong 62 = .ok (.iconst 0, 1) := by decide +kernel
theorem dX7_wrong_63 : decode cX7_wrong 63 = .ok (.iadd, 1) := by decide +kernel
theorem dX7_wrong_64 : decode cX7_wrong 64 = .ok (.istore_n 1, 1) := by decide +kernel
theorem dX7_wrong_65 : decode cX7_wrong 65 = .ok (.goto (-61), 3) := by decide +kernel
theorem dX7_wrong_68 : decode cX7_wrong 68 = .ok (.bipush (-6), 2) := by decide +kernel
theorem dX7_wrong_70 : decode cX7_wrong 70 = .ok (.ireturn, 1) := by decide +kernel
set_option maxRecDepth 20000 in
theorem ggX7_fault_X7_wrong : GoodIn wsX7_fault wsX7_wrong := goodIn_r _ [5, 6, 7, 8, 9, 10, 4, 11, 12, 13, 14, 15, 16, 17, 18, 19, 20, 21, 22, 23, 24, 25, 26, 27, 28, 29, 30, 31] (by decide +kernel) (by decide +kernel)
set_option maxRecDepth 20000 in
theorem gX7_fault_X7_wrong : GoodIn wsX7_fault (wsV RX7 170 RX7 yX7_wrong wsX7_wrong) := goodIn_app (goodIn_of _ (by decide +kernel)) ggX7_fault_X7_wrong
theorem dX7_fault_0 : decode cX7_fault 0 = .ok (.aload_n 0, 1) := by decide +kernel
theorem dX7_fault_1 : decode cX7_fault 1 = .ok (.invokevirtual 170, 3) := by decide +kernel
theorem dX7_fault_4 : decode cX7_fault 4 = .ok (.ireturn, 1) := by decide +kernel
set_option maxRecDepth 20000 in
theorem ggX7_carryOut_X7_wrong : GoodIn wsX7_carryOut wsX7_wrong := goodIn_r _ [6, 1, 7, 8, 9, 10, 5, 11, 12, 13, 14, 15, 16, 17, 18, 19, 20, 21, 22, 140, 141, 142, 143, 144, 145, 146, 147, 148] (by decide +kernel) (by decide +kernel)
set_option maxRecDepth 20000 in
theorem gX7_carryOut_X7_wrong : GoodIn wsX7_carryOut (wsV RX7 170 RX7 yX7_wrong wsX7_wrong) := goodIn_app (goodIn_of _ (by decide +kernel)) ggX7_carryOut_X7_wrong
set_option maxRecDepth 20000 in
theorem ggX7_carryOut_X7_looks : GoodIn wsX7_carryOut wsX7_looks := goodIn_r _ [26, 27, 28, 140, 141, 142, 143, 144, 145, 146, 147, 148] (by decide +kernel) (by decide +kernel)
set_option maxRecDepth 20000 in
theorem gX7_carryOut_X7_looks : GoodIn wsX7_carryOut (wsV RX7 126 RX7 yX7_looks wsX7_looks) := goodIn_app (goodIn_of _ (by decide +kernel)) ggX7_carryOut_X7_looks
set_option maxRecDepth 20000 in
theorem ggX7_carryOut_X7_records : GoodIn wsX7_carryOut wsX7_records := goodIn_r _ [32, 33, 34, 27, 140, 141, 142, 143, 144, 145, 146, 147, 148] (by decide +kernel) (by decide +kernel)
set_option maxRecDepth 20000 in
theorem gX7_carryOut_X7_records : GoodIn wsX7_carryOut (wsV RX7 132 RX7 yX7_records wsX7_records) := goodIn_app (goodIn_of _ (by decide +kernel)) ggX7_carryOut_X7_records
set_option maxRecDepth 20000 in
theorem ggX7_carryOut_X7_behindOrder : GoodIn wsX7_carryOut wsX7_behindOrder := goodIn_r _ [11, 12, 13, 14, 5, 15, 1, 7, 16, 17, 18, 19, 20, 21, 22, 140, 141, 142, 143, 144, 145, 146, 147, 148] (by decide +kernel) (by decide +kernel)
set_option maxRecDepth 20000 in
theorem gX7_carryOut_X7_behindOrder : GoodIn wsX7_carryOut (wsV RX7 167 RX7 yX7_behindOrder wsX7_behindOrder) := goodIn_app (goodIn_of _ (by decide +kernel)) ggX7_carryOut_X7_behindOrder
set_option maxRecDepth 20000 in
theorem ggX7_carryOut_X7_digitAt : GoodIn wsX7_carryOut wsX7_digitAt := goodIn_r _ [19, 12, 13, 14, 5, 15, 1, 7, 140, 141, 142, 143, 144, 145, 146, 147, 148] (by decide +kernel) (by decide +kernel)
set_option maxRecDepth 20000 in
theorem gX7_carryOut_X7_digitAt : GoodIn wsX7_carryOut (wsV RX7 164 RX7 yX7_digitAt wsX7_digitAt) := goodIn_app (goodIn_of _ (by decide +kernel)) ggX7_carryOut_X7_digitAt
set_option maxRecDepth 20000 in
theorem ggX7_carryOut_X7_charAt : GoodIn wsX7_carryOut wsX7_charAt := goodIn_r _ [15, 1, 7, 140, 141, 142, 143, 144, 145, 146, 147, 148] (by decide +kernel) (by decide +kernel)
set_option maxRecDepth 20000 in
theorem gX7_carryOut_X7_charAt : GoodIn wsX7_carryOut (wsV RX7 161 RX7 yX7_charAt wsX7_charAt) := goodIn_app (goodIn_of _ (by decide +kernel)) ggX7_carryOut_X7_charAt
set_option maxRecDepth 20000 in
theorem ggX7_carryOut_X7_does : GoodIn wsX7_carryOut wsX7_does := goodIn_r _ [38, 39, 40, 41, 5, 42, 28, 43, 44, 45, 20, 21, 22, 46, 47, 48, 49, 50, 51, 52, 53, 54, 55, 56, 57, 58, 59, 60, 61, 62, 63, 64, 65, 66, 67, 68, 69, 70, 71, 72, 73, 74, 75, 76, 77, 78, 79, 80, 81, 82, 83, 84, 85, 86, 87, 88, 89, 90, 91, 92, 93, 94, 95, 96, 97, 98, 99, 100, 101, 102, 103, 104, 105, 106, 107, 108, 109, 110, 111, 112, 113, 114, 115, 116, 117, 118, 119, 120, 121, 122, 123, 124, 125, 126, 127, 128, 129, 130, 131, 132, 133, 134, 135, 136, 137, 138, 139, 140, 141, 142, 143, 144, 145, 146, 147, 148] (by decide +kernel) (by decide +kernel)
set_option maxRecDepth 20000 in
theorem gX7_carryOut_X7_does : GoodIn wsX7_carryOut (wsV RX7 129 RX7 yX7_does wsX7_does) := goodIn_app (goodIn_of _ (by decide +kernel)) ggX7_carryOut_X7_does
theorem dX7_carryOut_0 : decode cX7_carryOut 0 = .ok (.aload_n 0, 1) := by decide +kernel
theorem dX7_carryOut_1 : decode cX7_carryOut 1 = .ok (.invokevirtual 170, 3) := by decide +kernel
theorem dX7_carryOut_4 : decode cX7_carryOut 4 = .ok (.bipush (-6), 2) := by decide +kernel
theorem dX7_carryOut_6 : decode cX7_carryOut 6 = .ok (.if_icmp .eq 6, 3) := by decide +kernel
theorem dX7_carryOut_9 : decode cX7_carryOut 9 = .ok (.bipush (-3), 2) := by decide +kernel
theorem dX7_carryOut_11 : decode cX7_carryOut 11 = .ok (.ireturn, 1) := by decide +kernel
theorem dX7_carryOut_12 : decode cX7_carryOut 12 = .ok (.aload_n 0, 1) := by decide +kernel
theorem dX7_carryOut_13 : decode cX7_carryOut 13 = .ok (.invokevirtual 126, 3) := by decide +kernel
theorem dX7_carryOut_16 : decode cX7_carryOut 16 = .ok (.aload_n 0, 1) := by decide +kernel
theorem dX7_carryOut_17 : decode cX7_carryOut 17 = .ok (.invokevirtual 132, 3) := by decide +kernel
theorem dX7_carryOut_20 : decode cX7_carryOut 20 = .ok (.iconst 0, 1) := by decide +kernel
theorem dX7_carryOut_21 : decode cX7_carryOut 21 = .ok (.istore_n 1, 1) := by decide +kernel
theorem dX7_carryOut_22 : decode cX7_carryOut 22 = .ok (.iconst 0, 1) := by decide +kernel
theorem dX7_carryOut_23 : decode cX7_carryOut 23 = .ok (.istore_n 2, 1) := by decide +kernel
theorem dX7_carryOut_24 : decode cX7_carryOut 24 = .ok (.iconst 1, 1) := by decide +kernel
theorem dX7_carryOut_25 : decode cX7_carryOut 25 = .ok (.istore_n 3, 1) := by decide +kernel
theorem dX7_carryOut_26 : decode cX7_carryOut 26 = .ok (.iload_n 3, 1) := by decide +kernel
theorem dX7_carryOut_27 : decode cX7_carryOut 27 = .ok (.ifCond .eq 96, 3) := by decide +kernel
theorem dX7_carryOut_30 : decode cX7_carryOut 30 = .ok (.iload_n 2, 1) := by decide +kernel
theorem dX7_carryOut_31 : decode cX7_carryOut 31 = .ok (.aload_n 0, 1) := by decide +kernel
theorem dX7_carryOut_32 : decode cX7_carryOut 32 = .ok (.getfield 153, 3) := by decide +kernel
theorem dX7_carryOut_35 : decode cX7_carryOut 35 = .ok (.if_icmp .ge 88, 3) := by decide +kernel
theorem dX7_carryOut_38 : decode cX7_carryOut 38 = .ok (.aload_n 0, 1) := by decide +kernel
theorem dX7_carryOut_39 : decode cX7_carryOut 39 = .ok (.iload_n 2, 1) := by decide +kernel
theorem dX7_carryOut_40 : decode cX7_carryOut 40 = .ok (.invokevirtual 167, 3) := by decide +kernel
theorem dX7_carryOut_43 : decode cX7_carryOut 43 = .ok (.istore 4, 2) := by decide +kernel
theorem dX7_carryOut_45 : decode cX7_carryOut 45 = .ok (.iload 4, 2) := by decide +kernel
theorem dX7_carryOut_47 : decode cX7_carryOut 47 = .ok (.iload_n 2, 1) := by decide +kernel
theorem dX7_carryOut_48 : decode cX7_carryOut 48 = .ok (.iconst 3, 1) := by decide +kernel
theorem dX7_carryOut_49 : decode cX7_carryOut 49 = .ok (.iadd, 1) := by decide +kernel
theorem dX7_carryOut_50 : decode cX7_carryOut 50 = .ok (.if_icmp .ne 24, 3) := by decide +kernel
theorem dX7_carryOut_53 : decode cX7_carryOut 53 = .ok (.bipush 10, 2) := by decide +kernel
theorem dX7_carryOut_55 : decode cX7_carryOut 55 = .ok (.aload_n 0, 1) := by decide +kernel
theorem dX7_carryOut_56 : decode cX7_carryOut 56 = .ok (.iload_n 2, 1) := by decide +kernel
theorem dX7_carryOut_57 : decode cX7_carryOut 57 = .ok (.iconst 1, 1) := by decide +kernel
theorem dX7_carryOut_58 : decode cX7_carryOut 58 = .ok (.iadd, 1) := by decide +kernel
theorem dX7_carryOut_59 : decode cX7_carryOut 59 = .ok (.invokevirtual 164, 3) := by decide +kernel
theorem dX7_carryOut_62 : decode cX7_carryOut 62 = .ok (.imul, 1) := by decide +kernel
theorem dX7_carryOut_63 : decode cX7_carryOut 63 = .ok (.aload_n 0, 1) := by decide +kernel
theorem dX7_carryOut_64 : decode cX7_carryOut 64 = .ok (.iload_n 2, 1) := by decide +kernel
theorem dX7_carryOut_65 : decode cX7_carryOut 65 = .ok (.iconst 2, 1) := by decide +kernel
theorem dX7_carryOut_66 : decode cX7_carryOut 66 = .ok (.iadd, 1) := by decide +kernel
theorem dX7_carryOut_67 : decode cX7_carryOut 67 = .ok (.invokevirtual 164, 3) := by decide +kernel
theorem dX7_carryOut_70 : decode cX7_carryOut 70 = .ok (.iadd, 1) := by decide +kernel
theorem dX7_carryOut_71 : decode cX7_carryOut 71 = .ok (.goto 10, 3) := by decide +kernel
theorem dX7_carryOut_74 : decode cX7_carryOut 74 = .ok (.aload_n 0, 1) := by decide +kernel
theorem dX7_carryOut_75 : decode cX7_carryOut 75 = .ok (.iload_n 2, 1) := by decide +kernel
theorem dX7_carryOut_76 : decode cX7_carryOut 76 = .ok (.iconst 1, 1) := by decide +kernel
theorem dX7_carryOut_77 : decode cX7_carryOut 77 = .ok (.iadd, 1) := by decide +kernel
theorem dX7_carryOut_78 : decode cX7_carryOut 78 = .ok (.invokevirtual 164, 3) := by decide +kernel
theorem dX7_carryOut_81 : decode cX7_carryOut 81 = .ok (.istore 5, 2) := by decide +kernel
theorem dX7_carryOut_83 : decode cX7_carryOut 83 = .ok (.aload_n 0, 1) := by decide +kernel
theorem dX7_carryOut_84 : decode cX7_carryOut 84 = .ok (.aload_n 0, 1) := by decide +kernel
theorem dX7_carryOut_85 : decode cX7_carryOut 85 = .ok (.iload_n 2, 1) := by decide +kernel
theorem dX7_carryOut_86 : decode cX7_carryOut 86 = .ok (.invokevirtual 161, 3) := by decide +kernel
theorem dX7_carryOut_89 : decode cX7_carryOut 89 = .ok (.iload 5, 2) := by decide +kernel
theorem dX7_carryOut_91 : decode cX7_carryOut 91 = .ok (.invokevirtual 129, 3) := by decide +kernel
theorem dX7_carryOut_94 : decode cX7_carryOut 94 = .ok (.ifCond .lt 7, 3) := by decide +kernel
theorem dX7_carryOut_97 : decode cX7_carryOut 97 = .ok (.iconst 1, 1) := by decide +kernel
theorem dX7_carryOut_98 : decode cX7_carryOut 98 = .ok (.goto 4, 3) := by decide +kernel
theorem dX7_carryOut_101 : decode cX7_carryOut 101 = .ok (.iconst 0, 1) := by decide +kernel
theorem dX7_carryOut_102 : decode cX7_carryOut 102 = .ok (.istore_n 3, 1) := by decide +kernel
theorem dX7_carryOut_103 : decode cX7_carryOut 103 = .ok (.iload_n 1, 1) := by decide +kernel
theorem dX7_carryOut_104 : decode cX7_carryOut 104 = .ok (.iload_n 3, 1) := by decide +kernel
theorem dX7_carryOut_105 : decode cX7_carryOut 105 = .ok (.ifCond .eq 7, 3) := by decide +kernel
theorem dX7_carryOut_108 : decode cX7_carryOut 108 = .ok (.iconst 1, 1) := by decide +kernel
theorem dX7_carryOut_109 : decode cX7_carryOut 109 = .ok (.goto 4, 3) := by decide +kernel
theorem dX7_carryOut_112 : decode cX7_carryOut 112 = .ok (.iconst 0, 1) := by decide +kernel
theorem dX7_carryOut_113 : decode cX7_carryOut 113 = .ok (.iadd, 1) := by decide +kernel
theorem dX7_carryOut_114 : decode cX7_carryOut 114 = .ok (.istore_n 1, 1) := by decide +kernel
theorem dX7_carryOut_115 : decode cX7_carryOut 115 = .ok (.iload 4, 2) := by decide +kernel
theorem dX7_carryOut_117 : decode cX7_carryOut 117 = .ok (.iconst 1, 1) := by decide +kernel
theorem dX7_carryOut_118 : decode cX7_carryOut 118 = .ok (.iadd, 1) := by decide +kernel
theorem dX7_carryOut_119 : decode cX7_carryOut 119 = .ok (.istore_n 2, 1) := by decide +kernel
theorem dX7_carryOut_120 : decode cX7_carryOut 120 = .ok (.goto (-94), 3) := by decide +kernel
theorem dX7_carryOut_123 : decode cX7_carryOut 123 = .ok (.aload_n 0, 1) := by decide +kernel
theorem dX7_carryOut_124 : decode cX7_carryOut 124 = .ok (.iconst 0, 1) := by decide +kernel
theorem dX7_carryOut_125 : decode cX7_carryOut 125 = .ok (.putfield 153, 3) := by decide +kernel
theorem dX7_carryOut_128 : decode cX7_carryOut 128 = .ok (.iload_n 1, 1) := by decide +kernel
theorem dX7_carryOut_129 : decode cX7_carryOut 129 = .ok (.ireturn, 1) := by decide +kernel
theorem dX7_undo_0 : decode cX7_undo 0 = .ok (.aload_n 0, 1) := by decide +kernel
theorem dX7_undo_1 : decode cX7_undo 1 = .ok (.getfield 54, 3) := by decide +kernel
theorem dX7_undo_4 : decode cX7_undo 4 = .ok (.ifCond .ne 6, 3) := by decide +kernel
theorem dX7_undo_7 : decode cX7_undo 7 = .ok (.bipush (-5), 2) := by decide +kernel
theorem dX7_undo_9 : decode cX7_undo 9 = .ok (.ireturn, 1) := by decide +kernel
theorem dX7_undo_10 : decode cX7_undo 10 = .ok (.aload_n 0, 1) := by decide +kernel
theorem dX7_undo_11 : decode cX7_undo 11 = .ok (.dup, 1) := by decide +kernel
theorem dX7_undo_12 : decode cX7_undo 12 = .ok (.getfield 54, 3) := by decide +kernel
theorem dX7_undo_15 : decode cX7_undo 15 = .ok (.iconst 1, 1) := by decide +kernel
theorem dX7_undo_16 : decode cX7_undo 16 = .ok (.isub, 1) := by decide +kernel
theorem dX7_undo_17 : decode cX7_undo 17 = .ok (.putfield 54, 3) := by decide +kernel
theorem dX7_undo_20 : decode cX7_undo 20 = .ok (.iconst 0, 1) := by decide +kernel
theorem dX7_undo_21 : decode cX7_undo 21 = .ok (.istore_n 1, 1) := by decide +kernel
theorem dX7_undo_22 : decode cX7_undo 22 = .ok (.iload_n 1, 1) := by decide +kernel
theorem dX7_undo_23 : decode cX7_undo 23 = .ok (.sipush 246, 3) := by decide +kernel
theorem dX7_undo_26 : decode cX7_undo 26 = .ok (.if_icmp .ge 30, 3) := by decide +kernel
theorem dX7_undo_29 : decode cX7_undo 29 = .ok (.aload_n 0, 1) := by decide +kernel
theorem dX7_undo_30 : decode cX7_undo 30 = .ok (.getfield 7, 3) := by decide +kernel
theorem dX7_undo_33 : decode cX7_undo 33 = .ok (.iload_n 1, 1) := by decide +kernel
theorem dX7_undo_34 : decode cX7_undo 34 = .ok (.aload_n 0, 1) := by decide +kernel
theorem dX7_undo_35 : decode cX7_undo 35 = .ok (.getfield 16, 3) := by decide +kernel
theorem dX7_undo_38 : decode cX7_undo 38 = .ok (.sipush 246, 3) := by decide +kernel
theorem dX7_undo_41 : decode cX7_undo 41 = .ok (.aload_n 0, 1) := by decide +kernel
theorem dX7_undo_42 : decode cX7_undo 42 = .ok (.getfield 54, 3) := by decide +kernel
theorem dX7_undo_45 : decode cX7_undo 45 = .ok (.imul, 1) := by decide +kernel
theorem dX7_undo_46 : decode cX7_undo 46 = .ok (.iload_n 1, 1) := by decide +kernel
theorem dX7_undo_47 : decode cX7_undo 47 = .ok (.iadd, 1) := by decide +kernel
theorem dX7_undo_48 : decode cX7_undo 48 = .ok (.iaload, 1) := by decide +kernel
theorem dX7_undo_49 : decode cX7_undo 49 = .ok (.iastore, 1) := by decide +kernel
theorem dX7_undo_50 : decode cX7_undo 50 = .ok (.iinc 1 1, 3) := by decide +kernel
theorem dX7_undo_53 : decode cX7_undo 53 = .ok (.goto (-31), 3) := by decide +kernel
theorem dX7_undo_56 : decode cX7_undo 56 = .ok (.aload_n 0, 1) := by decide +kernel
theorem dX7_undo_57 : decode cX7_undo 57 = .ok (.getfield 54, 3) := by decide +kernel
theorem dX7_undo_60 : decode cX7_undo 60 = .ok (.ireturn, 1) := by decide +kernel
set_option maxRecDepth 20000 in
theorem ggX7_save_X7_in : GoodIn wsX7_save wsX7_in := goodIn_r _ [7] (by decide +kernel) (by decide +kernel)
set_option maxRecDepth 20000 in
theorem gX7_save_X7_in : GoodIn wsX7_save (va_wsS RX7 36 yX7_in wsX7_in) := goodIn_app (goodIn_of _ (by decide +kernel)) ggX7_save_X7_in
set_option maxRecDepth 20000 in
theorem ggX7_save_X7_left : GoodIn wsX7_save wsX7_left := goodIn_r _ [11, 12, 13, 14, 6, 15, 2, 16, 17, 18, 19, 20, 21, 22, 23, 24] (by decide +kernel) (by decide +kernel)
set_option maxRecDepth 20000 in
theorem gX7_save_X7_left : GoodIn wsX7_save (wsV RX7 71 RX7 yX7_left wsX7_left) := goodIn_app (goodIn_of _ (by decide +kernel)) ggX7_save_X7_left
theorem dX7_save_0 : decode cX7_save 0 = .ok (.iload_n 1, 1) := by decide +kernel
theorem dX7_save_1 : decode cX7_save 1 = .ok (.iconst 0, 1) := by decide +kernel
theorem dX7_save_2 : decode cX7_save 2 = .ok (.iconst 1, 1) := by decide +kernel
theorem dX7_save_3 : decode cX7_save 3 = .ok (.invokestatic 36, 3) := by decide +kernel
theorem dX7_save_6 : decode cX7_save 6 = .ok (.ifCond .ne 6, 3) := by decide +kernel
theorem dX7_save_9 : decode cX7_save 9 = .ok (.bipush (-2), 2) := by decide +kernel
theorem dX7_save_11 : decode cX7_save 11 = .ok (.ireturn, 1) := by decide +kernel
theorem dX7_save_12 : decode cX7_save 12 = .ok (.iconst 0, 1) := by decide +kernel
theorem dX7_save_13 : decode cX7_save 13 = .ok (.istore_n 2, 1) := by decide +kernel
theorem dX7_save_14 : decode cX7_save 14 = .ok (.iload_n 2, 1) := by decide +kernel
theorem dX7_save_15 : decode cX7_save 15 = .ok (.sipush 246, 3) := by decide +kernel
theorem dX7_save_18 : decode cX7_save 18 = .ok (.if_icmp .ge 27, 3) := by decide +kernel
theorem dX7_save_21 : decode cX7_save 21 = .ok (.aload_n 0, 1) := by decide +kernel
theorem dX7_save_22 : decode cX7_save 22 = .ok (.getfield 19, 3) := by decide +kernel
theorem dX7_save_25 : decode cX7_save 25 = .ok (.sipush 246, 3) := by decide +kernel
theorem dX7_save_28 : decode cX7_save 28 = .ok (.iload_n 1, 1) := by decide +kernel
theorem dX7_save_29 : decode cX7_save 29 = .ok (.imul, 1) := by decide +kernel
theorem dX7_save_30 : decode cX7_save 30 = .ok (.iload_n 2, 1) := by decide +kernel
theorem dX7_save_31 : decode cX7_save 31 = .ok (.iadd, 1) := by decide +kernel
theorem dX7_save_32 : decode cX7_save 32 = .ok (.aload_n 0, 1) := by decide +kernel
theorem dX7_save_33 : decode cX7_save 33 = .ok (.getfield 7, 3) := by decide +kernel
theorem dX7_save_36 : decode cX7_save 36 = .ok (.iload_n 2, 1) := by decide +kernel
theorem dX7_save_37 : decode cX7_save 37 = .ok (.iaload, 1) := by decide +kernel
theorem dX7_save_38 : decode cX7_save 38 = .ok (.iastore, 1) := by decide +kernel
theorem dX7_save_39 : decode cX7_save 39 = .ok (.iinc 2 1, 3) := by decide +kernel
theorem dX7_save_42 : decode cX7_save 42 = .ok (.goto (-28), 3) := by decide +kernel
theorem dX7_save_45 : decode cX7_save 45 = .ok (.aload_n 0, 1) := by decide +kernel
theorem dX7_save_46 : decode cX7_save 46 = .ok (.getfield 22, 3) := by decide +kernel
theorem dX7_save_49 : decode cX7_save 49 = .ok (.iload_n 1, 1) := by decide +kernel
theorem dX7_save_50 : decode cX7_save 50 = .ok (.iconst 1, 1) := by decide +kernel
theorem dX7_save_51 : decode cX7_save 51 = .ok (.bastore, 1) := by decide +kernel
theorem dX7_save_52 : decode cX7_save 52 = .ok (.aload_n 0, 1) := by decide +kernel
theorem dX7_save_53 : decode cX7_save 53 = .ok (.invokevirtual 71, 3) := by decide +kernel
theorem dX7_save_56 : decode cX7_save 56 = .ok (.ireturn, 1) := by decide +kernel
set_option maxRecDepth 20000 in
theorem ggX7_restore_X7_in : GoodIn wsX7_restore wsX7_in := goodIn_r _ [7] (by decide +kernel) (by decide +kernel)
set_option maxRecDepth 20000 in
theorem gX7_restore_X7_in : GoodIn wsX7_restore (va_wsS RX7 36 yX7_in wsX7_in) := goodIn_app (goodIn_of _ (by decide +kernel)) ggX7_restore_X7_in
set_option maxRecDepth 20000 in
theorem ggX7_restore_X7_looks : GoodIn wsX7_restore wsX7_looks := goodIn_r _ [11, 12, 2, 27, 28, 29, 30, 31, 32, 33, 34, 35] (by decide +kernel) (by decide +kernel)
set_option maxRecDepth 20000 in
theorem gX7_restore_X7_looks : GoodIn wsX7_restore (wsV RX7 126 RX7 yX7_looks wsX7_looks) := goodIn_app (goodIn_of _ (by decide +kernel)) ggX7_restore_X7_looks
set_option maxRecDepth 20000 in
theorem ggX7_restore_X7_records : GoodIn wsX7_restore wsX7_records := goodIn_r _ [16, 17, 18, 12, 27, 28, 29, 30, 31, 32, 33, 34, 35] (by decide +kernel) (by decide +kernel)
set_option maxRecDepth 20000 in
theorem gX7_restore_X7_records : GoodIn wsX7_restore (wsV RX7 132 RX7 yX7_records wsX7_records) := goodIn_app (goodIn_of _ (by decide +kernel)) ggX7_restore_X7_records
set_option maxRecDepth 20000 in
theorem ggX7_restore_X7_left : GoodIn wsX7_restore wsX7_left := goodIn_r _ [22, 23, 24, 25, 6, 26, 2, 27, 28, 29, 30, 31, 32, 33, 34, 35] (by decide +kernel) (by decide +kernel)
set_option maxRecDepth 20000 in
theorem gX7_restore_X7_left : GoodIn wsX7_restore (wsV RX7 71 RX7 yX7_left wsX7_left) := goodIn_app (goodIn_of _ (by decide +kernel)) ggX7_restore_X7_left
theorem dX7_restore_0 : decode cX7_restore 0 = .ok (.iload_n 1, 1) := by decide +kernel
theorem dX7_restore_1 : decode cX7_restore 1 = .ok (.iconst 0, 1) := by decide +kernel
theorem dX7_restore_2 : decode cX7_restore 2 = .ok (.iconst 1, 1) := by decide +kernel
theorem dX7_restore_3 : decode cX7_restore 3 = .ok (.invokestatic 36, 3) := by decide +kernel
theorem dX7_restore_6 : decode cX7_restore 6 = .ok (.ifCond .ne 6, 3) := by decide +kernel
theorem dX7_restore_9 : decode cX7_restore 9 = .ok (.bipush (-2), 2) := by decide +kernel
theorem dX7_restore_11 : decode cX7_restore 11 = .ok (.ireturn, 1) := by decide +kernel
theorem dX7_restore_12 : decode cX7_restore 12 = .ok (.aload_n 0, 1) := by decide +kernel
theorem dX7_restore_13 : decode cX7_restore 13 = .ok (.getfield 22, 3) := by decide +kernel
theorem dX7_restore_16 : decode cX7_restore 16 = .ok (.iload_n 1, 1) := by decide +kernel
theorem dX7_restore_17 : decode cX7_restore 17 = .ok (.baload, 1) := by decide +kernel
theorem dX7_restore_18 : decode cX7_restore 18 = .ok (.ifCond .ne 6, 3) := by decide +kernel
theorem dX7_restore_21 : decode cX7_restore 21 = .ok (.bipush (-5), 2) := by decide +kernel
theorem dX7_restore_23 : decode cX7_restore 23 = .ok (.ireturn, 1) := by decide +kernel
theorem dX7_restore_24 : decode cX7_restore 24 = .ok (.aload_n 0, 1) := by decide +kernel
theorem dX7_restore_25 : decode cX7_restore 25 = .ok (.invokevirtual 126, 3) := by decide +kernel
theorem dX7_restore_28 : decode cX7_restore 28 = .ok (.aload_n 0, 1) := by decide +kernel
theorem dX7_restore_29 : decode cX7_restore 29 = .ok (.invokevirtual 132, 3) := by decide +kernel
theorem dX7_restore_32 : decode cX7_restore 32 = .ok (.iconst 0, 1) := by decide +kernel
theorem dX7_restore_33 : decode cX7_restore 33 = .ok (.istore_n 2, 1) := by decide +kernel
theorem dX7_restore_34 : decode cX7_restore 34 = .ok (.iload_n 2, 1) := by decide +kernel
theorem dX7_restore_35 : decode cX7_restore 35 = .ok (.sipush 246, 3) := by decide +kernel
theorem dX7_restore_38 : decode cX7_restore 38 = .ok (.if_icmp .ge 27, 3) := by decide +kernel
theorem dX7_restore_41 : decode cX7_restore 41 = .ok (.aload_n 0, 1) := by decide +kernel
theorem dX7_restore_42 : decode cX7_restore 42 = .ok (.getfield 7, 3) := by decide +kernel
theorem dX7_restore_45 : decode cX7_restore 45 = .ok (.iload_n 2, 1) := by decide +kernel
theorem dX7_restore_46 : decode cX7_restore 46 = .ok (.aload_n 0, 1) := by decide +kernel
theorem dX7_restore_47 : decode cX7_restore 47 = .ok (.getfield 19, 3) := by decide +kernel
theorem dX7_restore_50 : decode cX7_restore 50 = .ok (.sipush 246, 3) := by decide +kernel
theorem dX7_restore_53 : decode cX7_restore 53 = .ok (.iload_n 1, 1) := by decide +kernel
theorem dX7_restore_54 : decode cX7_restore 54 = .ok (.imul, 1) := by decide +kernel
theorem dX7_restore_55 : decode cX7_restore 55 = .ok (.iload_n 2, 1) := by decide +kernel
theorem dX7_restore_56 : decode cX7_restore 56 = .ok (.iadd, 1) := by decide +kernel
theorem dX7_restore_57 : decode cX7_restore 57 = .ok (.iaload, 1) := by decide +kernel
theorem dX7_restore_58 : decode cX7_restore 58 = .ok (.iastore, 1) := by decide +kernel
theorem dX7_restore_59 : decode cX7_restore 59 = .ok (.iinc 2 1, 3) := by decide +kernel
theorem dX7_restore_62 : decode cX7_restore 62 = .ok (.goto (-28), 3) := by decide +kernel
theorem dX7_restore_65 : decode cX7_restore 65 = .ok (.aload_n 0, 1) := by decide +kernel
theorem dX7_restore_66 : decode cX7_restore 66 = .ok (.invokevirtual 71, 3) := by decide +kernel
theorem dX7_restore_69 : decode cX7_restore 69 = .ok (.ireturn, 1) := by decide +kernel
set_option maxRecDepth 20000 in
theorem ggL_law_X6_init : GoodIn wsL_law wsX6_init := goodIn_r _ [9, 10, 11, 12, 13, 14, 15, 16, 17, 18, 19, 20, 21, 22, 23, 24, 25, 26, 27, 28, 29, 30, 31, 32, 33, 34, 35, 36, 37, 38, 39, 40, 41, 42, 43, 44, 45, 46, 47, 48, 49, 50, 51, 52, 53, 54, 55, 56, 57, 58, 59, 60, 61, 62, 63, 64, 65, 66, 67, 68, 69, 70, 71, 72, 73, 74, 75, 76, 77, 78, 79, 80, 81, 82, 83, 84, 85, 86, 87, 88, 89, 90, 91, 92, 783, 784, 785, 786, 787, 769, 770, 771, 772, 773, 788, 789, 790, 791, 792, 793, 794, 795, 796, 797, 798, 799, 800, 801, 802, 803, 804, 805, 806, 807, 808] (by decide +kernel) (by decide +kernel)
set_option maxRecDepth 20000 in
theorem gL_law_X6_init : GoodIn wsL_law (wsX6_init) := ggL_law_X6_init
set_option maxRecDepth 20000 in
theorem ggL_law_X7_init : GoodIn wsL_law wsX7_init := goodIn_r _ [95, 96, 11, 12, 47, 97, 98, 99, 100, 101, 102, 103, 104, 105, 106, 5, 107, 774, 775, 776, 777, 778, 779, 780, 781, 782] (by decide +kernel) (by decide +kernel)
set_option maxRecDepth 20000 in
theorem gL_law_X7_init : GoodIn wsL_law (wsX7_init) := ggL_law_X7_init
set_option maxRecDepth 20000 in
theorem ggL_law_X6_chalk : GoodIn wsL_law wsX6_chalk := goodIn_r _ [111, 112, 113, 114, 2, 115, 20, 16, 116, 117, 118, 19, 119, 78, 120, 121, 122, 15, 123, 37, 41, 42, 124, 125, 126, 127, 128, 36, 129, 48, 49, 130, 56, 54, 131, 132, 133, 40, 134, 70, 135, 136, 71, 137, 138, 139, 140, 141, 142, 143, 144, 145, 146, 147, 148, 149, 150, 151, 152, 153, 154, 155, 156, 157, 158, 159, 160, 161, 162, 163, 164, 165, 166, 167, 168, 169, 58, 59, 170, 171, 172, 173, 63, 64, 65, 60, 61, 62, 174, 175, 176, 177, 178, 179, 180, 181, 182, 183, 184, 185, 186, 187, 188, 189, 190, 191, 192, 193, 194, 195, 196, 197, 198, 199, 200, 201, 202, 203, 204, 205, 206, 207, 208, 209, 57, 210, 211, 212, 213, 214, 215, 216, 217, 218, 219, 220, 221, 222, 223, 224, 225, 226, 227, 55, 228, 229, 230, 231, 232, 233, 234, 51, 52, 53, 235, 236, 237, 238, 239, 240, 241, 242, 243, 244, 245, 246, 247, 248, 249, 250, 251, 252, 253, 254, 255, 256, 257, 258, 259, 260, 261, 262, 263, 264, 265, 266, 267, 268, 269, 270, 271, 272, 273, 274, 275, 276, 77, 277, 278, 279, 280, 769, 770, 771, 772, 773, 788, 789, 790, 783, 784, 785, 786, 787, 795, 796, 797, 798, 799, 800, 801, 802, 803, 804, 805, 806, 807, 808] (by decide +kernel) (by decide +kernel)
set_option maxRecDepth 20000 in
theorem gL_law_X6_chalk : GoodIn wsL_law (wsV RL 13 RX6 yX6_chalk wsX6_chalk) := goodIn_app (goodIn_of _ (by decide +kernel)) ggL_law_X6_chalk
set_option maxRecDepth 20000 in
theorem ggL_law_X7_chalk : GoodIn wsL_law wsX7_chalk := goodIn_r _ [284, 285, 286, 287, 5, 288, 289, 290, 291, 292, 98, 97, 293, 294, 295, 296, 297, 298, 299, 300, 301, 302, 303, 304, 305, 306, 307, 308, 309, 310, 311, 312, 313, 314, 315, 316, 317, 318, 319, 320, 321, 322, 323, 324, 325, 326, 327, 328, 329, 330, 331, 332, 333, 334, 335, 336, 337, 338, 339, 340, 105, 106, 107, 341, 342, 343, 344, 345, 346, 347, 348, 349, 350, 351, 352, 104, 353, 354, 355, 356, 357, 358, 359, 360, 361, 362, 363, 364, 365, 366, 367, 368, 369, 370, 371, 372, 373, 374, 375, 376, 377, 378, 379, 380, 381, 382, 383, 384, 385, 386, 387, 388, 389, 390, 391, 392, 393, 394, 395, 396, 397, 398, 399, 400, 401, 99, 774, 775, 776, 777, 778, 779, 780, 781, 782] (by decide +kernel) (by decide +kernel)
set_option maxRecDepth 20000 in
theorem gL_law_X7_chalk : GoodIn wsL_law (wsV RL 17 RX7 yX7_chalk wsX7_chalk) := goodIn_app (goodIn_of _ (by decide +kernel)) ggL_law_X7_chalk
set_option maxRecDepth 20000 in
theorem ggL_law_X6_snip : GoodIn wsL_law wsX6_snip := goodIn_r _ [405, 112, 113, 114, 2, 115, 20, 16, 116, 117, 118, 19, 119, 78, 120, 121, 122, 15, 123, 37, 41, 42, 124, 125, 126, 127, 128, 36, 129, 48, 49, 130, 56, 54, 131, 132, 133, 40, 134, 70, 135, 136, 71, 137, 138, 139, 140, 141, 142, 143, 144, 145, 146, 147, 148, 149, 150, 151, 152, 153, 154, 155, 156, 157, 158, 159, 160, 161, 162, 163, 164, 165, 166, 167, 168, 169, 58, 59, 170, 171, 172, 173, 63, 64, 65, 60, 61, 62, 174, 175, 176, 177, 178, 179, 180, 181, 182, 183, 184, 185, 186, 187, 188, 189, 190, 191, 192, 193, 194, 195, 196, 197, 198, 199, 200, 201, 202, 203, 204, 205, 206, 207, 208, 209, 57, 210, 211, 212, 213, 214, 215, 216, 217, 218, 219, 220, 221, 222, 223, 224, 225, 226, 227, 55, 228, 229, 230, 231, 232, 233, 234, 51, 52, 53, 235, 236, 237, 238, 239, 240, 241, 242, 243, 244, 245, 246, 247, 248, 249, 250, 251, 252, 253, 254, 255, 256, 257, 258, 259, 260, 261, 262, 263, 264, 265, 266, 267, 268, 269, 270, 271, 272, 273, 274, 275, 276, 77, 277, 278, 279, 280, 769, 770, 771, 772, 773, 788, 789, 790, 783, 784, 785, 786, 787, 795, 796, 797, 798, 799, 800, 801, 802, 803, 804, 805, 806, 807, 808] (by decide +kernel) (by decide +kernel)
set_option maxRecDepth 20000 in
theorem gL_law_X6_snip : GoodIn wsL_law (wsV RL 18 RX6 yX6_snip wsX6_snip) := goodIn_app (goodIn_of _ (by decide +kernel)) ggL_law_X6_snip
set_option maxRecDepth 20000 in
theorem ggL_law_X7_snip : GoodIn wsL_law wsX7_snip := goodIn_r _ [409, 285, 286, 287, 5, 288, 289, 290, 291, 292, 98, 97, 293, 294, 295, 296, 297, 298, 299, 300, 301, 302, 303, 304, 305, 306, 307, 308, 309, 310, 311, 312, 313, 314, 315, 316, 317, 318, 319, 320, 321, 322, 323, 324, 325, 326, 327, 328, 329, 330, 331, 332, 333, 334, 335, 336, 337, 338, 339, 340, 105, 106, 107, 341, 342, 343, 344, 345, 346, 347, 348, 349, 350, 351, 352, 104, 353, 354, 355, 356, 357, 358, 359, 360, 361, 362, 363, 364, 365, 366, 367, 368, 369, 370, 371, 372, 373, 374, 375, 376, 377, 378, 379, 380, 381, 382, 383, 384, 385, 386, 387, 388, 389, 390, 391, 392, 393, 394, 395, 396, 397, 398, 399, 400, 401, 99, 774, 775, 776, 777, 778, 779, 780, 781, 782] (by decide +kernel) (by decide +kernel)
set_option maxRecDepth 20000 in
theorem gL_law_X7_snip : GoodIn wsL_law (wsV RL 21 RX7 yX7_snip wsX7_snip) := goodIn_app (goodIn_of _ (by decide +kernel)) ggL_law_X7_snip
set_option maxRecDepth 20000 in
theorem ggL_law_X6_sew : GoodIn wsL_law wsX6_sew := goodIn_r _ [413, 112, 113, 114, 2, 115, 20, 16, 116, 117, 118, 19, 119, 78, 120, 121, 122, 15, 123, 37, 41, 42, 124, 125, 126, 127, 128, 36, 129, 48, 49, 130, 56, 54, 131, 132, 133, 40, 134, 70, 135, 136, 71, 137, 138, 139, 140, 141, 142, 143, 144, 145, 146, 147, 148, 149, 150, 151, 152, 153, 154, 155, 156, 157, 158, 159, 160, 161, 162, 163, 164, 165, 166, 167, 168, 169, 58, 59, 170, 171, 172, 173, 63, 64, 65, 60, 61, 62, 174, 175, 176, 177, 178, 179, 180, 181, 182, 183, 184, 185, 186, 187, 188, 189, 190, 191, 192, 193, 194, 195, 196, 197, 198, 199, 200, 201, 202, 203, 204, 205, 206, 207, 208, 209, 57, 210, 211, 212, 213, 214, 215, 216, 217, 218, 219, 220, 221, 222, 223, 224, 225, 226, 227, 55, 228, 229, 230, 231, 232, 233, 234, 51, 52, 53, 235, 236, 237, 238, 239, 240, 241, 242, 243, 244, 245, 246, 247, 248, 249, 250, 251, 252, 253, 254, 255, 256, 257, 258, 259, 260, 261, 262, 263, 264, 265, 266, 267, 268, 269, 270, 271, 272, 273, 274, 275, 276, 77, 277, 278, 279, 280, 769, 770, 771, 772, 773, 788, 789, 790, 783, 784, 785, 786, 787, 795, 796, 797, 798, 799, 800, 801, 802, 803, 804, 805, 806, 807, 808] (by decide +kernel) (by decide +kernel)
set_option maxRecDepth 20000 in
theorem gL_law_X6_sew : GoodIn wsL_law (wsV RL 22 RX6 yX6_sew wsX6_sew) := goodIn_app (goodIn_of _ (by decide +kernel)) ggL_law_X6_sew
set_option maxRecDepth 20000 in
theorem ggL_law_X7_sew : GoodIn wsL_law wsX7_sew := goodIn_r _ [417, 285, 286, 287, 5, 288, 289, 290, 291, 292, 98, 97, 293, 294, 295, 296, 297, 298, 299, 300, 301, 302, 303, 304, 305, 306, 307, 308, 309, 310, 311, 312, 313, 314, 315, 316, 317, 318, 319, 320, 321, 322, 323, 324, 325, 326, 327, 328, 329, 330, 331, 332, 333, 334, 335, 336, 337, 338, 339, 340, 105, 106, 107, 341, 342, 343, 344, 345, 346, 347, 348, 349, 350, 351, 352, 104, 353, 354, 355, 356, 357, 358, 359, 360, 361, 362, 363, 364, 365, 366, 367, 368, 369, 370, 371, 372, 373, 374, 375, 376, 377, 378, 379, 380, 381, 382, 383, 384, 385, 386, 387, 388, 389, 390, 391, 392, 393, 394, 395, 396, 397, 398, 399, 400, 401, 99, 774, 775, 776, 777, 778, 779, 780, 781, 782] (by decide +kernel) (by decide +kernel)
set_option maxRecDepth 20000 in
theorem gL_law_X7_sew : GoodIn wsL_law (wsV RL 25 RX7 yX7_sew wsX7_sew) := goodIn_app (goodIn_of _ (by decide +kernel)) ggL_law_X7_sew
set_option maxRecDepth 20000 in
theorem ggL_law_X6_bluff : GoodIn wsL_law wsX6_bluff := goodIn_r _ [421, 112, 113, 114, 2, 115, 20, 16, 116, 117, 118, 19, 119, 78, 120, 121, 122, 15, 123, 37, 41, 42, 124, 125, 126, 127, 128, 36, 129, 48, 49, 130, 56, 54, 131, 132, 133, 40, 134, 70, 135, 136, 71, 137, 138, 139, 140, 141, 142, 143, 144, 145, 146, 147, 148, 149, 150, 151, 152, 153, 154, 155, 156, 157, 158, 159, 160, 161, 162, 163, 164, 165, 166, 167, 168, 169, 58, 59, 170, 171, 172, 173, 63, 64, 65, 60, 61, 62, 174, 175, 176, 177, 178, 179, 180, 181, 182, 183, 184, 185, 186, 187, 188, 189, 190, 191, 192, 193, 194, 195, 196, 197, 198, 199, 200, 201, 202, 203, 204, 205, 206, 207, 208, 209, 57, 210, 211, 212, 213, 214, 215, 216, 217, 218, 219, 220, 221, 222, 223, 224, 225, 226, 227, 55, 228, 229, 230, 231, 232, 233, 234, 51, 52, 53, 235, 236, 237, 238, 239, 240, 241, 242, 243, 244, 245, 246, 247, 248, 249, 250, 251, 252, 253, 254, 255, 256, 257, 258, 259, 260, 261, 262, 263, 264, 265, 266, 267, 268, 269, 270, 271, 272, 273, 274, 275, 276, 77, 277, 278, 279, 280, 769, 770, 771, 772, 773, 788, 789, 790, 783, 784, 785, 786, 787, 795, 796, 797, 798, 799, 800, 801, 802, 803, 804, 805, 806, 807, 808] (by decide +kernel) (by decide +kernel)
set_option maxRecDepth 20000 in
theorem gL_law_X6_bluff : GoodIn wsL_law (wsV RL 26 RX6 yX6_bluff wsX6_bluff) := goodIn_app (goodIn_of _ (by decide +kernel)) ggL_law_X6_bluff
set_option maxRecDepth 20000 in
theorem ggL_law_X7_bluff : GoodIn wsL_law wsX7_bluff := goodIn_r _ [425, 285, 286, 287, 5, 288, 289, 290, 291, 292, 98, 97, 293, 294, 295, 296, 297, 298, 299, 300, 301, 302, 303, 304, 305, 306, 307, 308, 309, 310, 311, 312, 313, 314, 315, 316, 317, 318, 319, 320, 321, 322, 323, 324, 325, 326, 327, 328, 329, 330, 331, 332, 333, 334, 335, 336, 337, 338, 339, 340, 105, 106, 107, 341, 342, 343, 344, 345, 346, 347, 348, 349, 350, 351, 352, 104, 353, 354, 355, 356, 357, 358, 359, 360, 361, 362, 363, 364, 365, 366, 367, 368, 369, 370, 371, 372, 373, 374, 375, 376, 377, 378, 379, 380, 381, 382, 383, 384, 385, 386, 387, 388, 389, 390, 391, 392, 393, 394, 395, 396, 397, 398, 399, 400, 401, 99, 774, 775, 776, 777, 778, 779, 780, 781, 782] (by decide +kernel) (by decide +kernel)
set_option maxRecDepth 20000 in
theorem gL_law_X7_bluff : GoodIn wsL_law (wsV RL 29 RX7 yX7_bluff wsX7_bluff) := goodIn_app (goodIn_of _ (by decide +kernel)) ggL_law_X7_bluff
set_option maxRecDepth 20000 in
theorem ggL_law_X6_doubt : GoodIn wsL_law wsX6_doubt := goodIn_r _ [429, 112, 113, 114, 2, 115, 20, 16, 116, 117, 118, 19, 119, 78, 120, 121, 122, 15, 123, 37, 41, 42, 124, 125, 126, 127, 128, 36, 129, 48, 49, 130, 56, 54, 131, 132, 133, 40, 134, 70, 135, 136, 71, 137, 138, 139, 140, 141, 142, 143, 144, 145, 146, 147, 148, 149, 150, 151, 152, 153, 154, 155, 156, 157, 158, 159, 160, 161, 162, 163, 164, 165, 166, 167, 168, 169, 58, 59, 170, 171, 172, 173, 63, 64, 65, 60, 61, 62, 174, 175, 176, 177, 178, 179, 180, 181, 182, 183, 184, 185, 186, 187, 188, 189, 190, 191, 192, 193, 194, 195, 196, 197, 198, 199, 200, 201, 202, 203, 204, 205, 206, 207, 208, 209, 57, 210, 211, 212, 213, 214, 215, 216, 217, 218, 219, 220, 221, 222, 223, 224, 225, 226, 227, 55, 228, 229, 230, 231, 232, 233, 234, 51, 52, 53, 235, 236, 237, 238, 239, 240, 241, 242, 243, 244, 245, 246, 247, 248, 249, 250, 251, 252, 253, 254, 255, 256, 257, 258, 259, 260, 261, 262, 263, 264, 265, 266, 267, 268, 269, 270, 271, 272, 273, 274, 275, 276, 77, 277, 278, 279, 280, 769, 770, 771, 772, 773, 788, 789, 790, 783, 784, 785, 786, 787, 795, 796, 797, 798, 799, 800, 801, 802, 803, 804, 805, 806, 807, 808] (by decide +kernel) (by decide +kernel)
set_option maxRecDepth 20000 in
theorem gL_law_X6_doubt : GoodIn wsL_law (wsV RL 30 RX6 yX6_doubt wsX6_doubt) := goodIn_app (goodIn_of _ (by decide +kernel)) ggL_law_X6_doubt
set_option maxRecDepth 20000 in
theorem ggL_law_X7_doubt : GoodIn wsL_law wsX7_doubt := goodIn_r _ [433, 285, 286, 287, 5, 288, 289, 290, 291, 292, 98, 97, 293, 294, 295, 296, 297, 298, 299, 300, 301, 302, 303, 304, 305, 306, 307, 308, 309, 310, 311, 312, 313, 314, 315, 316, 317, 318, 319, 320, 321, 322, 323, 324, 325, 326, 327, 328, 329, 330, 331, 332, 333, 334, 335, 336, 337, 338, 339, 340, 105, 106, 107, 341, 342, 343, 344, 345, 346, 347, 348, 349, 350, 351, 352, 104, 353, 354, 355, 356, 357, 358, 359, 360, 361, 362, 363, 364, 365, 366, 367, 368, 369, 370, 371, 372, 373, 374, 375, 376, 377, 378, 379, 380, 381, 382, 383, 384, 385, 386, 387, 388, 389, 390, 391, 392, 393, 394, 395, 396, 397, 398, 399, 400, 401, 99, 774, 775, 776, 777, 778, 779, 780, 781, 782] (by decide +kernel) (by decide +kernel)
set_option maxRecDepth 20000 in
theorem gL_law_X7_doubt : GoodIn wsL_law (wsV RL 33 RX7 yX7_doubt wsX7_doubt) := goodIn_app (goodIn_of _ (by decide +kernel)) ggL_law_X7_doubt
set_option maxRecDepth 20000 in
theorem ggL_law_X6_pass : GoodIn wsL_law wsX6_pass := goodIn_r _ [437, 112, 113, 114, 2, 115, 20, 16, 116, 117, 118, 19, 119, 78, 120, 121, 122, 15, 123, 37, 41, 42, 124, 125, 126, 127, 128, 36, 129, 48, 49, 130, 56, 54, 131, 132, 133, 40, 134, 70, 135, 136, 71, 137, 138, 139, 140, 141, 142, 143, 144, 145, 146, 147, 148, 149, 150, 151, 152, 153, 154, 155, 156, 157, 158, 159, 160, 161, 162, 163, 164, 165, 166, 167, 168, 169, 58, 59, 170, 171, 172, 173, 63, 64, 65, 60, 61, 62, 174, 175, 176, 177, 178, 179, 180, 181, 182, 183, 184, 185, 186, 187, 188, 189, 190, 191, 192, 193, 194, 195, 196, 197, 198, 199, 200, 201, 202, 203, 204, 205, 206, 207, 208, 209, 57, 210, 211, 212, 213, 214, 215, 216, 217, 218, 219, 220, 221, 222, 223, 224, 225, 226, 227, 55, 228, 229, 230, 231, 232, 233, 234, 51, 52, 53, 235, 236, 237, 238, 239, 240, 241, 242, 243, 244, 245, 246, 247, 248, 249, 250, 251, 252, 253, 254, 255, 256, 257, 258, 259, 260, 261, 262, 263, 264, 265, 266, 267, 268, 269, 270, 271, 272, 273, 274, 275, 276, 77, 277, 278, 279, 280, 769, 770, 771, 772, 773, 788, 789, 790, 783, 784, 785, 786, 787, 795, 796, 797, 798, 799, 800, 801, 802, 803, 804, 805, 806, 807, 808] (by decide +kernel) (by decide +kernel)
set_option maxRecDepth 20000 in
theorem gL_law_X6_pass : GoodIn wsL_law (wsV RL 34 RX6 yX6_pass wsX6_pass) := goodIn_app (goodIn_of _ (by decide +kernel)) ggL_law_X6_pass
set_option maxRecDepth 20000 in
theorem ggL_law_X7_pass : GoodIn wsL_law wsX7_pass := goodIn_r _ [441, 285, 286, 287, 5, 288, 289, 290, 291, 292, 98, 97, 293, 294, 295, 296, 297, 298, 299, 300, 301, 302, 303, 304, 305, 306, 307, 308, 309, 310, 311, 312, 313, 314, 315, 316, 317, 318, 319, 320, 321, 322, 323, 324, 325, 326, 327, 328, 329, 330, 331, 332, 333, 334, 335, 336, 337, 338, 339, 340, 105, 106, 107, 341, 342, 343, 344, 345, 346, 347, 348, 349, 350, 351, 352, 104, 353, 354, 355, 356, 357, 358, 359, 360, 361, 362, 363, 364, 365, 366, 367, 368, 369, 370, 371, 372, 373, 374, 375, 376, 377, 378, 379, 380, 381, 382, 383, 384, 385, 386, 387, 388, 389, 390, 391, 392, 393, 394, 395, 396, 397, 398, 399, 400, 401, 99, 774, 775, 776, 777, 778, 779, 780, 781, 782] (by decide +kernel) (by decide +kernel)
set_option maxRecDepth 20000 in
theorem gL_law_X7_pass : GoodIn wsL_law (wsV RL 38 RX7 yX7_pass wsX7_pass) := goodIn_app (goodIn_of _ (by decide +kernel)) ggL_law_X7_pass
set_option maxRecDepth 20000 in
theorem ggL_law_X6_of : GoodIn wsL_law wsX6_of := goodIn_r _ [445, 16, 446, 447, 58, 36, 59, 448, 207, 208, 209, 48, 57, 449, 171, 172, 173, 130, 63, 64, 65, 60, 61, 62, 174, 175, 176, 450, 451, 2, 452, 453, 454, 232, 233, 455, 456, 457, 15, 458, 41, 42, 190, 191, 192, 40, 193, 135, 70, 459, 460, 461, 462, 37, 150, 151, 152, 153, 125, 154, 155, 156, 157, 158, 159, 160, 161, 162, 163, 164, 170, 268, 269, 270, 271, 49, 463, 187, 188, 189, 54, 56, 769, 770, 771, 772, 773, 783, 784, 785, 786, 787, 795, 796, 797, 798, 799, 800, 801, 802, 803, 804, 805, 806, 807, 808] (by decide +kernel) (by decide +kernel)
set_option maxRecDepth 20000 in
theorem gL_law_X6_of : GoodIn wsL_law (wsV RL 39 RX6 yX6_of wsX6_of) := goodIn_app (goodIn_of _ (by decide +kernel)) ggL_law_X6_of
set_option maxRecDepth 20000 in
theorem ggL_law_X7_of : GoodIn wsL_law wsX7_of := goodIn_r _ [467, 97, 301, 302, 5, 303, 304, 305, 306, 323, 324, 325, 326, 327, 328, 329, 315, 316, 317, 318, 330, 331, 332, 333, 334, 335, 336, 337, 338, 339, 340, 105, 106, 107, 341, 342, 343, 344, 319, 320, 321, 322, 774, 775, 776, 777, 778, 779, 780, 781, 782] (by decide +kernel) (by decide +kernel)
set_option maxRecDepth 20000 in
theorem gL_law_X7_of : GoodIn wsL_law (wsV RL 43 RX7 yX7_of wsX7_of) := goodIn_app (goodIn_of _ (by decide +kernel)) ggL_law_X7_of
set_option maxRecDepth 20000 in
theorem ggL_law_X6_cell : GoodIn wsL_law wsX6_cell := goodIn_r _ [471, 16, 446, 472, 473, 36, 474, 475, 476, 477, 478, 130, 174, 175, 176, 450, 451, 2, 452, 479, 480, 481, 482, 56, 54, 483, 228, 229, 230, 484, 159, 160, 161, 162, 163, 164, 485, 486, 487, 488, 489, 490, 491, 492, 493, 494, 187, 188, 189, 63, 64, 65, 60, 61, 62, 231, 232, 233, 769, 770, 771, 772, 773, 783, 784, 785, 786, 787, 795, 796, 797, 798, 799] (by decide +kernel) (by decide +kernel)
set_option maxRecDepth 20000 in
theorem gL_law_X6_cell : GoodIn wsL_law (wsV RL 44 RX6 yX6_cell wsX6_cell) := goodIn_app (goodIn_of _ (by decide +kernel)) ggL_law_X6_cell
set_option maxRecDepth 20000 in
theorem ggL_law_X7_cell : GoodIn wsL_law wsX7_cell := goodIn_r _ [498, 499, 500, 5, 501, 304, 305, 306, 315, 316, 317, 318, 97, 502, 503, 504, 505, 104, 365, 366, 367, 368, 319, 320, 321, 322, 323, 324, 325, 326, 327, 328, 329, 330, 331, 332, 369, 370, 371, 372, 506, 507, 508, 509, 774, 775, 776, 777, 778, 779, 780, 781, 782] (by decide +kernel) (by decide +kernel)
set_option maxRecDepth 20000 in
theorem gL_law_X7_cell : GoodIn wsL_law (wsV RL 47 RX7 yX7_cell wsX7_cell) := goodIn_app (goodIn_of _ (by decide +kernel)) ggL_law_X7_cell
set_option maxRecDepth 20000 in
theorem ggL_law_X6_player : GoodIn wsL_law wsX6_player := goodIn_r _ [513, 16, 514, 515, 516, 517, 518, 519, 520, 521, 522, 523, 15, 524, 525, 183, 184, 185, 41, 42, 769, 770, 771, 772, 773, 800, 801, 802, 803, 804, 805, 806, 807, 808, 783, 784, 785, 786, 787] (by decide +kernel) (by decide +kernel)
set_option maxRecDepth 20000 in
theorem gL_law_X6_player : GoodIn wsL_law (wsV RL 48 RX6 yX6_player wsX6_player) := goodIn_app (goodIn_of _ (by decide +kernel)) ggL_law_X6_player
set_option maxRecDepth 20000 in
theorem ggL_law_X7_player : GoodIn wsL_law wsX7_player := goodIn_r _ [529, 97, 304, 305, 5, 306, 105, 106, 107, 774, 775, 776, 777, 778, 779, 780, 781, 782] (by decide +kernel) (by decide +kernel)
set_option maxRecDepth 20000 in
theorem gL_law_X7_player : GoodIn wsL_law (wsV RL 51 RX7 yX7_player wsX7_player) := goodIn_app (goodIn_of _ (by decide +kernel)) ggL_law_X7_player
set_option maxRecDepth 20000 in
theorem ggL_law_X6_chalked : GoodIn wsL_law wsX6_chalked := goodIn_r _ [533, 16, 522, 523, 15, 524, 525, 183, 184, 185, 41, 42, 534, 535, 536, 40, 537, 135, 70, 769, 770, 771, 772, 773, 783, 784, 785, 786, 787, 800, 801, 802, 803, 804, 805, 806, 807, 808] (by decide +kernel) (by decide +kernel)
set_option maxRecDepth 20000 in
theorem gL_law_X6_chalked : GoodIn wsL_law (wsV RL 52 RX6 yX6_chalked wsX6_chalked) := goodIn_app (goodIn_of _ (by decide +kernel)) ggL_law_X6_chalked
set_option maxRecDepth 20000 in
theorem ggL_law_X7_chalked : GoodIn wsL_law wsX7_chalked := goodIn_r _ [541, 97, 304, 305, 5, 306, 105, 106, 107, 341, 342, 343, 344, 774, 775, 776, 777, 778, 779, 780, 781, 782] (by decide +kernel) (by decide +kernel)
set_option maxRecDepth 20000 in
theorem gL_law_X7_chalked : GoodIn wsL_law (wsV RL 55 RX7 yX7_chalked wsX7_chalked) := goodIn_app (goodIn_of _ (by decide +kernel)) ggL_law_X7_chalked
set_option maxRecDepth 20000 in
theorem ggL_law_X6_count : GoodIn wsL_law wsX6_count := goodIn_r _ [545, 16, 546, 547, 446, 29, 548, 20, 549, 550, 151, 152, 15, 153, 125, 37, 154, 155, 156, 36, 157, 130, 158, 159, 160, 161, 162, 163, 164, 450, 451, 2, 452, 551, 552, 553, 554, 41, 214, 42, 150, 555, 556, 557, 558, 559, 174, 175, 176, 489, 480, 481, 482, 56, 54, 483, 476, 477, 478, 228, 229, 230, 560, 258, 259, 260, 48, 261, 171, 172, 173, 63, 64, 65, 60, 61, 62, 769, 770, 771, 772, 773, 783, 784, 785, 786, 787, 793, 794, 788, 789, 790, 795, 796, 797, 798, 799, 800, 801, 802, 803, 804, 805, 806, 807, 808] (by decide +kernel) (by decide +kernel)
set_option maxRecDepth 20000 in
theorem gL_law_X6_count : GoodIn wsL_law (wsV RL 56 RX6 yX6_count wsX6_count) := goodIn_app (goodIn_of _ (by decide +kernel)) ggL_law_X6_count
set_option maxRecDepth 20000 in
theorem ggL_law_X7_count : GoodIn wsL_law wsX7_count := goodIn_r _ [564, 97, 565, 401, 307, 308, 309, 5, 310, 311, 312, 313, 314, 315, 316, 317, 318, 566, 567, 568, 569, 105, 106, 107, 570, 571, 572, 573, 104, 365, 366, 367, 368, 319, 320, 321, 322, 323, 324, 325, 326, 327, 328, 329, 330, 331, 332, 385, 386, 387, 388, 774, 775, 776, 777, 778, 779, 780, 781, 782] (by decide +kernel) (by decide +kernel)
set_option maxRecDepth 20000 in
theorem gL_law_X7_count : GoodIn wsL_law (wsV RL 59 RX7 yX7_count wsX7_count) := goodIn_app (goodIn_of _ (by decide +kernel)) ggL_law_X7_count
set_option maxRecDepth 20000 in
theorem ggL_law_X6_why : GoodIn wsL_law wsX6_why := goodIn_r _ [577, 16, 447, 58, 36, 59, 578, 203, 204, 15, 205, 37, 150, 151, 152, 153, 125, 154, 155, 156, 157, 130, 158, 159, 160, 161, 162, 163, 164, 170, 171, 172, 173, 63, 64, 65, 60, 61, 62, 174, 175, 176, 206, 207, 208, 209, 48, 57, 769, 770, 771, 772, 773, 783, 784, 785, 786, 787, 795, 796, 797, 798, 799] (by decide +kernel) (by decide +kernel)
set_option maxRecDepth 20000 in
theorem gL_law_X6_why : GoodIn wsL_law (wsV RL 60 RX6 yX6_why wsX6_why) := goodIn_app (goodIn_of _ (by decide +kernel)) ggL_law_X6_why
set_option maxRecDepth 20000 in
theorem ggL_law_X7_why : GoodIn wsL_law wsX7_why := goodIn_r _ [582, 301, 302, 5, 303, 304, 305, 306, 353, 354, 355, 356, 97, 307, 308, 309, 310, 311, 312, 313, 314, 315, 316, 317, 318, 323, 324, 325, 326, 327, 328, 329, 330, 331, 332, 774, 775, 776, 777, 778, 779, 780, 781, 782] (by decide +kernel) (by decide +kernel)
set_option maxRecDepth 20000 in
theorem gL_law_X7_why : GoodIn wsL_law (wsV RL 63 RX7 yX7_why wsX7_why) := goodIn_app (goodIn_of _ (by decide +kernel)) ggL_law_X7_why
set_option maxRecDepth 20000 in
theorem ggL_law_X6_ifSnipped : GoodIn wsL_law wsX6_ifSnipped := goodIn_r _ [586, 16, 446, 447, 58, 36, 59, 578, 203, 204, 15, 205, 37, 150, 151, 152, 153, 125, 154, 155, 156, 157, 130, 158, 159, 160, 161, 162, 163, 164, 170, 171, 172, 173, 63, 64, 65, 60, 61, 62, 174, 175, 176, 206, 207, 208, 209, 48, 57, 587, 225, 226, 227, 56, 55, 54, 228, 229, 230, 231, 232, 233, 484, 769, 770, 771, 772, 773, 783, 784, 785, 786, 787, 795, 796, 797, 798, 799] (by decide +kernel) (by decide +kernel)
set_option maxRecDepth 20000 in
theorem gL_law_X6_ifSnipped : GoodIn wsL_law (wsV RL 64 RX6 yX6_ifSnipped wsX6_ifSnipped) := goodIn_app (goodIn_of _ (by decide +kernel)) ggL_law_X6_ifSnipped
set_option maxRecDepth 20000 in
theorem ggL_law_X7_ifSnipped : GoodIn wsL_law wsX7_ifSnipped := goodIn_r _ [591, 301, 302, 5, 303, 304, 305, 306, 353, 354, 355, 356, 97, 307, 308, 309, 310, 311, 312, 313, 314, 315, 316, 317, 318, 323, 324, 325, 326, 327, 328, 329, 330, 331, 332, 592, 593, 594, 595, 361, 362, 363, 364, 104, 365, 366, 367, 368, 319, 320, 321, 322, 369, 370, 371, 372, 774, 775, 776, 777, 778, 779, 780, 781, 782] (by decide +kernel) (by decide +kernel)
set_option maxRecDepth 20000 in
theorem gL_law_X7_ifSnipped : GoodIn wsL_law (wsV RL 67 RX7 yX7_ifSnipped wsX7_ifSnipped) := goodIn_app (goodIn_of _ (by decide +kernel)) ggL_law_X7_ifSnipped
set_option maxRecDepth 20000 in
theorem ggL_law_X6_bestSnip : GoodIn wsL_law wsX6_bestSnip := goodIn_r _ [599, 16, 600, 601, 602, 15, 603, 202, 203, 204, 205, 37, 150, 151, 152, 153, 125, 154, 155, 156, 36, 157, 130, 158, 159, 160, 161, 162, 163, 164, 170, 171, 172, 173, 63, 64, 65, 60, 61, 62, 174, 175, 176, 206, 207, 208, 209, 48, 57, 58, 59, 604, 605, 606, 607, 124, 182, 183, 184, 185, 41, 42, 190, 191, 192, 40, 193, 135, 70, 224, 225, 226, 227, 56, 55, 54, 228, 229, 230, 231, 232, 233, 243, 608, 769, 770, 771, 772, 773, 783, 784, 785, 786, 787, 795, 796, 797, 798, 799, 800, 801, 802, 803, 804, 805, 806, 807, 808] (by decide +kernel) (by decide +kernel)
set_option maxRecDepth 20000 in
theorem gL_law_X6_bestSnip : GoodIn wsL_law (wsV RL 68 RX6 yX6_bestSnip wsX6_bestSnip) := goodIn_app (goodIn_of _ (by decide +kernel)) ggL_law_X6_bestSnip
set_option maxRecDepth 20000 in
theorem ggL_law_X7_bestSnip : GoodIn wsL_law wsX7_bestSnip := goodIn_r _ [612, 97, 304, 305, 5, 306, 353, 354, 355, 356, 307, 308, 309, 310, 311, 312, 313, 314, 315, 316, 317, 318, 323, 324, 325, 326, 327, 328, 329, 330, 331, 332, 592, 593, 594, 595, 361, 362, 363, 364, 104, 365, 366, 367, 368, 319, 320, 321, 322, 369, 370, 371, 372, 333, 334, 335, 336, 337, 338, 339, 340, 105, 106, 107, 341, 342, 343, 344, 774, 775, 776, 777, 778, 779, 780, 781, 782] (by decide +kernel) (by decide +kernel)
set_option maxRecDepth 20000 in
theorem gL_law_X7_bestSnip : GoodIn wsL_law (wsV RL 71 RX7 yX7_bestSnip wsX7_bestSnip) := goodIn_app (goodIn_of _ (by decide +kernel)) ggL_law_X7_bestSnip
set_option maxRecDepth 20000 in
theorem ggL_law_X6_weak : GoodIn wsL_law wsX6_weak := goodIn_r _ [616, 16, 446, 550, 151, 152, 15, 153, 125, 37, 154, 155, 156, 36, 157, 130, 158, 159, 160, 161, 162, 163, 164, 617, 618, 619, 620, 494, 187, 188, 189, 54, 56, 63, 64, 65, 60, 61, 62, 174, 175, 176, 621, 225, 226, 227, 55, 228, 229, 230, 231, 232, 233, 769, 770, 771, 772, 773, 783, 784, 785, 786, 787, 795, 796, 797, 798, 799] (by decide +kernel) (by decide +kernel)
set_option maxRecDepth 20000 in
theorem gL_law_X6_weak : GoodIn wsL_law (wsV RL 72 RX6 yX6_weak wsX6_weak) := goodIn_app (goodIn_of _ (by decide +kernel)) ggL_law_X6_weak
set_option maxRecDepth 20000 in
theorem ggL_law_X7_weak : GoodIn wsL_law wsX7_weak := goodIn_r _ [625, 307, 308, 309, 5, 310, 97, 311, 312, 313, 314, 315, 316, 317, 318, 319, 320, 321, 322, 323, 324, 325, 326, 327, 328, 329, 330, 331, 332, 592, 593, 594, 595, 361, 362, 363, 364, 104, 365, 366, 367, 368, 369, 370, 371, 372, 774, 775, 776, 777, 778, 779, 780, 781, 782] (by decide +kernel) (by decide +kernel)
set_option maxRecDepth 20000 in
theorem gL_law_X7_weak : GoodIn wsL_law (wsV RL 75 RX7 yX7_weak wsX7_weak) := goodIn_app (goodIn_of _ (by decide +kernel)) ggL_law_X7_weak
set_option maxRecDepth 20000 in
theorem ggL_law_X6_together : GoodIn wsL_law wsX6_together := goodIn_r _ [629, 16, 446, 472, 473, 36, 474, 475, 476, 477, 478, 130, 174, 175, 176, 479, 480, 481, 482, 56, 54, 483, 228, 229, 230, 630, 631, 632, 633, 48, 261, 171, 172, 173, 63, 64, 65, 60, 61, 62, 634, 450, 451, 2, 452, 769, 770, 771, 772, 773, 783, 784, 785, 786, 787, 795, 796, 797, 798, 799] (by decide +kernel) (by decide +kernel)
set_option maxRecDepth 20000 in
theorem gL_law_X6_together : GoodIn wsL_law (wsV RL 76 RX6 yX6_together wsX6_together) := goodIn_app (goodIn_of _ (by decide +kernel)) ggL_law_X6_together
set_option maxRecDepth 20000 in
theorem ggL_law_X7_together : GoodIn wsL_law wsX7_together := goodIn_r _ [638, 104, 499, 500, 5, 501, 304, 305, 306, 315, 316, 317, 318, 97, 365, 366, 367, 368, 319, 320, 321, 322, 323, 324, 325, 326, 327, 328, 329, 330, 331, 332, 774, 775, 776, 777, 778, 779, 780, 781, 782] (by decide +kernel) (by decide +kernel)
set_option maxRecDepth 20000 in
theorem gL_law_X7_together : GoodIn wsL_law (wsV RL 80 RX7 yX7_together wsX7_together) := goodIn_app (goodIn_of _ (by decide +kernel)) ggL_law_X7_together
set_option maxRecDepth 20000 in
theorem ggL_law_X6_put : GoodIn wsL_law wsX6_put := goodIn_r _ [642, 29, 643, 644, 645, 28, 646, 647, 92, 648, 649, 650, 651, 652, 653, 769, 770, 771, 772, 773, 793, 794] (by decide +kernel) (by decide +kernel)
set_option maxRecDepth 20000 in
theorem gL_law_X6_put : GoodIn wsL_law (wsV RL 83 RX6 yX6_put wsX6_put) := goodIn_app (goodIn_of _ (by decide +kernel)) ggL_law_X6_put
set_option maxRecDepth 20000 in
theorem ggL_law_X7_put : GoodIn wsL_law wsX7_put := goodIn_r _ [657, 658, 565, 103, 304, 305, 5, 306, 774, 775, 776, 777, 778, 779, 780, 781, 782] (by decide +kernel) (by decide +kernel)
set_option maxRecDepth 20000 in
theorem gL_law_X7_put : GoodIn wsL_law (wsV RL 87 RX7 yX7_put wsX7_put) := goodIn_app (goodIn_of _ (by decide +kernel)) ggL_law_X7_put
set_option maxRecDepth 20000 in
theorem ggL_law_X6_wipe : GoodIn wsL_law wsX6_wipe := goodIn_r _ [662, 29, 663, 664, 665, 28, 666, 647, 769, 770, 771, 772, 773, 793, 794] (by decide +kernel) (by decide +kernel)
set_option maxRecDepth 20000 in
theorem gL_law_X6_wipe : GoodIn wsL_law (wsV RL 88 RX6 yX6_wipe wsX6_wipe) := goodIn_app (goodIn_of _ (by decide +kernel)) ggL_law_X6_wipe
set_option maxRecDepth 20000 in
theorem ggL_law_X7_wipe : GoodIn wsL_law wsX7_wipe := goodIn_r _ [670, 565, 774, 775, 776, 777, 778, 779, 780, 781, 782] (by decide +kernel) (by decide +kernel)
set_option maxRecDepth 20000 in
theorem gL_law_X7_wipe : GoodIn wsL_law (wsV RL 91 RX7 yX7_wipe wsX7_wipe) := goodIn_app (goodIn_of _ (by decide +kernel)) ggL_law_X7_wipe
set_option maxRecDepth 20000 in
theorem ggL_law_X6_fault : GoodIn wsL_law wsX6_fault := goodIn_r _ [674, 29, 675, 676, 677, 28, 678, 647, 92, 679, 680, 681, 682, 683, 684, 685, 686, 687, 769, 770, 771, 772, 773, 793, 794] (by decide +kernel) (by decide +kernel)
set_option maxRecDepth 20000 in
theorem gL_law_X6_fault : GoodIn wsL_law (wsV RL 92 RX6 yX6_fault wsX6_fault) := goodIn_app (goodIn_of _ (by decide +kernel)) ggL_law_X6_fault
set_option maxRecDepth 20000 in
theorem ggL_law_X7_fault : GoodIn wsL_law wsX7_fault := goodIn_r _ [691, 692, 693, 694, 5, 695, 565, 103, 696, 697, 698, 699, 700, 701, 702, 703, 704, 705, 706, 707, 304, 305, 306, 774, 775, 776, 777, 778, 779, 780, 781, 782] (by decide +kernel) (by decide +kernel)
set_option maxRecDepth 20000 in
theorem gL_law_X7_fault : GoodIn wsL_law (wsV RL 95 RX7 yX7_fault wsX7_fault) := goodIn_app (goodIn_of _ (by decide +kernel)) ggL_law_X7_fault
set_option maxRecDepth 20000 in
theorem ggL_law_X6_carryOut : GoodIn wsL_law wsX6_carryOut := goodIn_r _ [711, 29, 20, 16, 675, 676, 677, 28, 678, 647, 92, 679, 680, 681, 682, 683, 684, 685, 686, 687, 116, 117, 118, 19, 119, 78, 120, 121, 122, 15, 123, 37, 41, 42, 124, 125, 126, 127, 128, 36, 129, 48, 49, 130, 56, 54, 131, 132, 133, 40, 134, 70, 135, 136, 71, 137, 138, 139, 140, 141, 272, 273, 274, 275, 276, 77, 277, 278, 279, 280, 712, 713, 714, 2, 715, 548, 716, 717, 718, 719, 142, 143, 144, 145, 146, 147, 148, 149, 150, 151, 152, 153, 154, 155, 156, 157, 158, 159, 160, 161, 162, 163, 164, 165, 166, 167, 168, 169, 58, 59, 170, 171, 172, 173, 63, 64, 65, 60, 61, 62, 174, 175, 176, 177, 178, 179, 180, 181, 182, 183, 184, 185, 186, 187, 188, 189, 190, 191, 192, 193, 194, 195, 196, 197, 198, 199, 200, 201, 202, 203, 204, 205, 206, 207, 208, 209, 57, 210, 211, 212, 213, 214, 215, 216, 217, 218, 219, 220, 221, 222, 223, 224, 225, 226, 227, 55, 228, 229, 230, 231, 232, 233, 234, 51, 52, 53, 235, 236, 237, 238, 239, 240, 241, 242, 243, 244, 245, 246, 247, 248, 249, 250, 251, 252, 253, 254, 255, 256, 257, 258, 259, 260, 261, 262, 263, 264, 265, 266, 267, 268, 269, 270, 271, 720, 663, 664, 665, 666, 769, 770, 771, 772, 773, 793, 794, 788, 789, 790, 783, 784, 785, 786, 787, 795, 796, 797, 798, 799, 800, 801, 802, 803, 804, 805, 806, 807, 808] (by decide +kernel) (by decide +kernel)
set_option maxRecDepth 20000 in
theorem gL_law_X6_carryOut : GoodIn wsL_law (wsV RL 96 RX6 yX6_carryOut wsX6_carryOut) := goodIn_app (goodIn_of _ (by decide +kernel)) ggL_law_X6_carryOut
set_option maxRecDepth 20000 in
theorem ggL_law_X7_carryOut : GoodIn wsL_law wsX7_carryOut := goodIn_r _ [724, 565, 692, 693, 694, 5, 695, 103, 696, 697, 698, 699, 700, 701, 702, 703, 704, 705, 706, 707, 304, 305, 306, 289, 290, 291, 292, 98, 97, 397, 398, 399, 400, 401, 99, 293, 294, 295, 296, 297, 298, 299, 300, 301, 302, 303, 307, 308, 309, 310, 311, 312, 313, 314, 315, 316, 317, 318, 319, 320, 321, 322, 323, 324, 325, 326, 327, 328, 329, 330, 331, 332, 333, 334, 335, 336, 337, 338, 339, 340, 105, 106, 107, 341, 342, 343, 344, 345, 346, 347, 348, 349, 350, 351, 352, 104, 353, 354, 355, 356, 357, 358, 359, 360, 361, 362, 363, 364, 365, 366, 367, 368, 369, 370, 371, 372, 373, 374, 375, 376, 377, 378, 379, 380, 381, 382, 383, 384, 385, 386, 387, 388, 389, 390, 391, 392, 393, 394, 395, 396, 774, 775, 776, 777, 778, 779, 780, 781, 782] (by decide +kernel) (by decide +kernel)
set_option maxRecDepth 20000 in
theorem gL_law_X7_carryOut : GoodIn wsL_law (wsV RL 99 RX7 yX7_carryOut wsX7_carryOut) := goodIn_app (goodIn_of _ (by decide +kernel)) ggL_law_X7_carryOut
set_option maxRecDepth 20000 in
theorem ggL_law_X6_undo : GoodIn wsL_law wsX6_undo := goodIn_r _ [728, 20, 16, 729, 730, 731, 19, 732, 276, 77, 120, 121, 122, 15, 123, 37, 41, 42, 124, 125, 126, 127, 128, 36, 129, 48, 49, 130, 56, 54, 131, 132, 133, 40, 134, 70, 135, 136, 71, 137, 138, 139, 140, 141, 769, 770, 771, 772, 773, 788, 789, 790, 783, 784, 785, 786, 787, 795, 796, 797, 798, 799, 800, 801, 802, 803, 804, 805, 806, 807, 808] (by decide +kernel) (by decide +kernel)
set_option maxRecDepth 20000 in
theorem gL_law_X6_undo : GoodIn wsL_law (wsV RL 100 RX6 yX6_undo wsX6_undo) := goodIn_app (goodIn_of _ (by decide +kernel)) ggL_law_X6_undo
set_option maxRecDepth 20000 in
theorem ggL_law_X7_undo : GoodIn wsL_law wsX7_undo := goodIn_r _ [736, 401, 97, 99, 774, 775, 776, 777, 778, 779, 780, 781, 782] (by decide +kernel) (by decide +kernel)
set_option maxRecDepth 20000 in
theorem gL_law_X7_undo : GoodIn wsL_law (wsV RL 103 RX7 yX7_undo wsX7_undo) := goodIn_app (goodIn_of _ (by decide +kernel)) ggL_law_X7_undo
set_option maxRecDepth 20000 in
theorem ggL_law_X6_save : GoodIn wsL_law wsX6_save := goodIn_r _ [740, 16, 446, 741, 742, 2, 743, 744, 745, 746, 747, 24, 25, 748, 749, 750, 23, 751, 85, 752, 753, 121, 122, 15, 123, 37, 41, 42, 124, 125, 126, 127, 128, 36, 129, 48, 49, 130, 56, 54, 131, 132, 133, 40, 134, 70, 135, 136, 71, 137, 138, 139, 140, 141, 555, 155, 156, 157, 158, 159, 160, 161, 162, 163, 164, 769, 770, 771, 772, 773, 783, 784, 785, 786, 787, 791, 792, 795, 796, 797, 798, 799, 800, 801, 802, 803, 804, 805, 806, 807, 808] (by decide +kernel) (by decide +kernel)
set_option maxRecDepth 20000 in
theorem gL_law_X6_save : GoodIn wsL_law (wsV RL 104 RX6 yX6_save wsX6_save) := goodIn_app (goodIn_of _ (by decide +kernel)) ggL_law_X6_save
set_option maxRecDepth 20000 in
theorem ggL_law_X7_save : GoodIn wsL_law wsX7_save := goodIn_r _ [757, 100, 97, 102, 304, 305, 5, 306, 311, 312, 313, 314, 315, 316, 317, 318, 774, 775, 776, 777, 778, 779, 780, 781, 782] (by decide +kernel) (by decide +kernel)
set_option maxRecDepth 20000 in
theorem gL_law_X7_save : GoodIn wsL_law (wsV RL 107 RX7 yX7_save wsX7_save) := goodIn_app (goodIn_of _ (by decide +kernel)) ggL_law_X7_save
set_option maxRecDepth 20000 in
theorem ggL_law_X6_restore : GoodIn wsL_law wsX6_restore := goodIn_r _ [761, 762, 20, 16, 763, 446, 741, 742, 2, 743, 744, 745, 746, 747, 24, 25, 116, 117, 118, 19, 119, 78, 120, 121, 122, 15, 123, 37, 41, 42, 124, 125, 126, 127, 128, 36, 129, 48, 49, 130, 56, 54, 131, 132, 133, 40, 134, 70, 135, 136, 71, 137, 138, 139, 140, 141, 272, 273, 274, 275, 276, 77, 277, 278, 279, 280, 764, 555, 155, 156, 157, 158, 159, 160, 161, 162, 163, 164, 791, 792, 769, 770, 771, 772, 773, 783, 784, 785, 786, 787, 788, 789, 790, 795, 796, 797, 798, 799, 800, 801, 802, 803, 804, 805, 806, 807, 808] (by decide +kernel) (by decide +kernel)
set_option maxRecDepth 20000 in
theorem gL_law_X6_restore : GoodIn wsL_law (wsV RL 108 RX6 yX6_restore wsX6_restore) := goodIn_app (goodIn_of _ (by decide +kernel)) ggL_law_X6_restore
set_option maxRecDepth 20000 in
theorem ggL_law_X7_restore : GoodIn wsL_law wsX7_restore := goodIn_r _ [768, 102, 97, 100, 304, 305, 5, 306, 289, 290, 291, 292, 98, 397, 398, 399, 400, 401, 99, 311, 312, 313, 314, 315, 316, 317, 318, 774, 775, 776, 777, 778, 779, 780, 781, 782] (by decide +kernel) (by decide +kernel)
set_option maxRecDepth 20000 in
theorem gL_law_X7_restore : GoodIn wsL_law (wsV RL 111 RX7 yX7_restore wsX7_restore) := goodIn_app (goodIn_of _ (by decide +kernel)) ggL_law_X7_restore
theorem dL_law_0 : decode cL_law 0 = .ok (.new 7, 3) := by decide +kernel
theorem dL_law_3 : decode cL_law 3 = .ok (.dup, 1) := by decide +kernel
theorem dL_law_4 : decode cL_law 4 = .ok (.invokespecial 9, 3) := by decide +kernel
theorem dL_law_7 : decode cL_law 7 = .ok (.astore_n 1, 1) := by decide +kernel
theorem dL_law_8 : decode cL_law 8 = .ok (.new 10, 3) := by decide +kernel
theorem dL_law_11 : decode cL_law 11 = .ok (.dup, 1) := by decide +kernel
theorem dL_law_12 : decode cL_law 12 = .ok (.invokespecial 12, 3) := by decide +kernel
theorem dL_law_15 : decode cL_law 15 = .ok (.astore_n 2, 1) := by decide +kernel
theorem dL_law_16 : decode cL_law 16 = .ok (.iconst 0, 1) := by decide +kernel
theorem dL_law_17 : decode cL_law 17 = .ok (.istore_n 3, 1) := by decide +kernel
theorem dL_law_18 : decode cL_law 18 = .ok (.iload_n 3, 1) := by decide +kernel
theorem dL_law_19 : decode cL_law 19 = .ok (.aload_n 0, 1) := by decide +kernel
theorem dL_law_20 : decode cL_law 20 = .ok (.arraylength, 1) := by decide +kernel
theorem dL_law_21 : decode cL_law 21 = .ok (.iconst 4, 1) := by decide +kernel
theorem dL_law_22 : decode cL_law 22 = .ok (.isub, 1) := by decide +kernel
theorem dL_law_23 : decode cL_law 23 = .ok (.if_icmp .gt 682, 3) := by decide +kernel
theorem dL_law_26 : decode cL_law 26 = .ok (.aload_n 0, 1) := by decide +kernel
theorem dL_law_27 : decode cL_law 27 = .ok (.iload_n 3, 1) := by decide +kernel
theorem dL_law_28 : decode cL_law 28 = .ok (.iaload, 1) := by decide +kernel
theorem dL_law_29 : decode cL_law 29 = .ok (.bipush 31, 2) := by decide +kernel
theorem dL_law_31 : decode cL_law 31 = .ok (.iand, 1) := by decide +kernel
theorem dL_law_32 : decode cL_law 32 = .ok (.tableswitch 667 0 22 #[108, 131, 154, 177, 200, 223, 236, 269, 302, 335, 368, 391, 414, 437, 460, 473, 516, 569, 582, 595, 608, 621, 644], 108) := by decide +kernel
theorem dL_law_140 : decode cL_law 140 = .ok (.aload_n 1, 1) := by decide +kernel
theorem dL_law_141 : decode cL_law 141 = .ok (.aload_n 0, 1) := by decide +kernel
theorem dL_law_142 : decode cL_law 142 = .ok (.iload_n 3, 1) := by decide +kernel
theorem dL_law_143 : decode cL_law 143 = .ok (.iconst 1, 1) := by decide +kernel
theorem dL_law_144 : decode cL_law 144 = .ok (.iadd, 1) := by decide +kernel
theorem dL_law_145 : decode cL_law 145 = .ok (.iaload, 1) := by decide +kernel
theorem dL_law_146 : decode cL_law 146 = .ok (.invokevirtual 13, 3) := by decide +kernel
theorem dL_law_149 : decode cL_law 149 = .ok (.aload_n 2, 1) := by decide +kernel
theorem dL_law_150 : decode cL_law 150 = .ok (.aload_n 0, 1) := by decide +kernel
theorem dL_law_151 : decode cL_law 151 = .ok (.iload_n 3, 1) := by decide +kernel
theorem dL_law_152 : decode cL_law 152 = .ok (.iconst 1, 1) := by decide +kernel
theorem dL_law_153 : decode cL_law 153 = .ok (.iadd, 1) := by decide +kernel
theorem dL_law_154 : decode cL_law 154 = .ok (.iaload, 1) := by decide +kernel
theorem dL_law_155 : decode cL_law 155 = .ok (.invokevirtual 17, 3) := by decide +kernel
theorem dL_law_158 : decode cL_law 158 = .ok (.if_icmp .eq 541, 3) := by decide +kernel
theorem dL_law_161 : decode cL_law 161 = .ok (.iconst 0, 1) := by decide +kernel
theorem dL_law_162 : decode cL_law 162 = .ok (.ireturn, 1) := by decide +kernel
theorem dL_law_163 : decode cL_law 163 = .ok (.aload_n 1, 1) := by decide +kernel
theorem dL_law_164 : decode cL_law 164 = .ok (.aload_n 0, 1) := by decide +kernel
theorem dL_law_165 : decode cL_law 165 = .ok (.iload_n 3, 1) := by decide +kernel
theorem dL_law_166 : decode cL_law 166 = .ok (.iconst 1, 1) := by decide +kernel
theorem dL_law_167 : decode cL_law 167 = .ok (.iadd, 1) := by decide +kernel
theorem dL_law_168 : decode cL_law 168 = .ok (.iaload, 1) := by decide +kernel
theorem dL_law_169 : decode cL_law 169 = .ok (.invokevirtual 18, 3) := by decide +kernel
theorem dL_law_172 : decode cL_law 172 = .ok (.aload_n 2, 1) := by decide +kernel
theorem dL_law_173 : decode cL_law 173 = .ok (.aload_n 0, 1) := by decide +kernel
theorem dL_law_174 : decode cL_law 174 = .ok (.iload_n 3, 1) := by decide +kernel
theorem dL_law_175 : decode cL_law 175 = .ok (.iconst 1, 1) := by decide +kernel
theorem dL_law_176 : decode cL_law 176 = .ok (.iadd, 1) := by decide +kernel
theorem dL_law_177 : decode cL_law 177 = .ok (.iaload, 1) := by decide +kernel
theorem dL_law_178 : decode cL_law 178 = .ok (.invokevirtual 21, 3) := by decide +kernel
theorem dL_law_181 : decode cL_law 181 = .ok (.if_icmp .eq 518, 3) := by decide +kernel
theorem dL_law_184 : decode cL_law 184 = .ok (.iconst 0, 1) := by decide +kernel
theorem dL_law_185 : decode cL_law 185 = .ok (.ireturn, 1) := by decide +kernel
theorem dL_law_186 : decode cL_law 186 = .ok (.aload_n 1, 1) := by decide +kernel
theorem dL_law_187 : decode cL_law 187 = .ok (.aload_n 0, 1) := by decide +kernel
theorem dL_law_188 : decode cL_law 188 = .ok (.iload_n 3, 1) := by decide +kernel
theorem dL_law_189 : decode cL_law 189 = .ok (.iconst 1, 1) := by decide +kernel
theorem dL_law_190 : decode cL_law 190 = .ok (.iadd, 1) := by decide +kernel
theorem dL_law_191 : decode cL_law 191 = .ok (.iaload, 1) := by decide +kernel
theorem dL_law_192 : decode cL_law 192 = .ok (.invokevirtual 22, 3) := by decide +kernel
theorem dL_law_195 : decode cL_law 195 = .ok (.aload_n 2, 1) := by decide +kernel
theorem dL_law_196 : decode cL_law 196 = .ok (.aload_n 0, 1) := by decide +kernel
theorem dL_law_197 : decode cL_law 197 = .ok (.iload_n 3, 1) := by decide +kernel
theorem dL_law_198 : decode cL_law 198 = .ok (.iconst 1, 1) := by decide +kernel
theorem dL_law_199 : decode cL_law 199 = .ok (.iadd, 1) := by decide +kernel
theorem dL_law_200 : decode cL_law 200 = .ok (.iaload, 1) := by decide +kernel
theorem dL_law_201 : decode cL_law 201 = .ok (.invokevirtual 25, 3) := by decide +kernel
theorem dL_law_204 : decode cL_law 204 = .ok (.if_icmp .eq 495, 3) := by decide +kernel
theorem dL_law_207 : decode cL_law 207 = .ok (.iconst 0, 1) := by decide +kernel
theorem dL_law_208 : decode cL_law 208 = .ok (.ireturn, 1) := by decide +kernel
theorem dL_law_209 : decode cL_law 209 = .ok (.aload_n 1, 1) := by decide +kernel
theorem dL_law_210 : decode cL_law 210 = .ok (.aload_n 0, 1) := by decide +kernel
theorem dL_law_211 : decode cL_law 211 = .ok (.iload_n 3, 1) := by decide +kernel
theorem dL_law_212 : decode cL_law 212 = .ok (.iconst 1, 1) := by decide +kernel
theorem dL_law_213 : decode cL_law 213 = .ok (.iadd, 1) := by decide +kernel
theorem dL_law_214 : decode cL_law 214 = .ok (.iaload, 1) := by decide +kernel
theorem dL_law_215 : decode cL_law 215 = .ok (.invokevirtual 26, 3) := by decide +kernel
theorem dL_law_218 : decode cL_law 218 = .ok (.aload_n 2, 1) := by decide +kernel
theorem dL_law_219 : decode cL_law 219 = .ok (.aload_n 0, 1) := by decide +kernel
theorem dL_law_220 : decode cL_law 220 = .ok (.iload_n 3, 1) := by decide +kernel
theorem dL_law_221 : decode cL_law 221 = .ok (.iconst 1, 1) := by decide +kernel
theorem dL_law_222 : decode cL_law 222 = .ok (.iadd, 1) := by decide +kernel
theorem dL_law_223 : decode cL_law 223 = .ok (.iaload, 1) := by decide +kernel
theorem dL_law_224 : decode cL_law 224 = .ok (.invokevirtual 29, 3) := by decide +kernel
theorem dL_law_227 : decode cL_law 227 = .ok (.if_icmp .eq 472, 3) := by decide +kernel
theorem dL_law_230 : decode cL_law 230 = .ok (.iconst 0, 1) := by decide +kernel
theorem dL_law_231 : decode cL_law 231 = .ok (.ireturn, 1) := by decide +kernel
theorem dL_law_232 : decode cL_law 232 = .ok (.aload_n 1, 1) := by decide +kernel
theorem dL_law_233 : decode cL_law 233 = .ok (.aload_n 0, 1) := by decide +kernel
theorem dL_law_234 : decode cL_law 234 = .ok (.iload_n 3, 1) := by decide +kernel
theorem dL_law_235 : decode cL_law 235 = .ok (.iconst 1, 1) := by decide +kernel
theorem dL_law_236 : decode cL_law 236 = .ok (.iadd, 1) := by decide +kernel
theorem dL_law_237 : decode cL_law 237 = .ok (.iaload, 1) := by decide +kernel
theorem dL_law_238 : decode cL_law 238 = .ok (.invokevirtual 30, 3) := by decide +kernel
theorem dL_law_241 : decode cL_law 241 = .ok (.aload_n 2, 1) := by decide +kernel
theorem dL_law_242 : decode cL_law 242 = .ok (.aload_n 0, 1) := by decide +kernel
theorem dL_law_243 : decode cL_law 243 = .ok (.iload_n 3, 1) := by decide +kernel
theorem dL_law_244 : decode cL_law 244 = .ok (.iconst 1, 1) := by decide +kernel
theorem dL_law_245 : decode cL_law 245 = .ok (.iadd, 1) := by decide +kernel
theorem dL_law_246 : decode cL_law 246 = .ok (.iaload, 1) := by decide +kernel
theorem dL_law_247 : decode cL_law 247 = .ok (.invokevirtual 33, 3) := by decide +kernel
theorem dL_law_250 : decode cL_law 250 = .ok (.if_icmp .eq 449, 3) := by decide +kernel
theorem dL_law_253 : decode cL_law 253 = .ok (.iconst 0, 1) := by decide +kernel
theorem dL_law_254 : decode cL_law 254 = .ok (.ireturn, 1) := by decide +kernel
theorem dL_law_255 : decode cL_law 255 = .ok (.aload_n 1, 1) := by decide +kernel
theorem dL_law_256 : decode cL_law 256 = .ok (.invokevirtual 34, 3) := by decide +kernel
theorem dL_law_259 : decode cL_law 259 = .ok (.aload_n 2, 1) := by decide +kernel
theorem dL_law_260 : decode cL_law 260 = .ok (.invokevirtual 38, 3) := by decide +kernel
theorem dL_law_263 : decode cL_law 263 = .ok (.if_icmp .eq 436, 3) := by decide +kernel
theorem dL_law_266 : decode cL_law 266 = .ok (.iconst 0, 1) := by decide +kernel
theorem dL_law_267 : decode cL_law 267 = .ok (.ireturn, 1) := by decide +kernel
theorem dL_law_268 : decode cL_law 268 = .ok (.aload_n 1, 1) := by decide +kernel
theorem dL_law_269 : decode cL_law 269 = .ok (.aload_n 0, 1) := by decide +kernel
theorem dL_law_270 : decode cL_law 270 = .ok (.iload_n 3, 1) := by decide +kernel
theorem dL_law_271 : decode cL_law 271 = .ok (.iconst 1, 1) := by decide +kernel
theorem dL_law_272 : decode cL_law 272 = .ok (.iadd, 1) := by decide +kernel
theorem dL_law_273 : decode cL_law 273 = .ok (.iaload, 1) := by decide +kernel
theorem dL_law_274 : decode cL_law 274 = .ok (.aload_n 0, 1) := by decide +kernel
theorem dL_law_275 : decode cL_law 275 = .ok (.iload_n 3, 1) := by decide +kernel
theorem dL_law_276 : decode cL_law 276 = .ok (.iconst 2, 1) := by decide +kernel
theorem dL_law_277 : decode cL_law 277 = .ok (.iadd, 1) := by decide +kernel
theorem dL_law_278 : decode cL_law 278 = .ok (.iaload, 1) := by decide +kernel
theorem dL_law_279 : decode cL_law 279 = .ok (.invokevirtual 39, 3) := by decide +kernel
theorem dL_law_282 : decode cL_law 282 = .ok (.aload_n 2, 1) := by decide +kernel
theorem dL_law_283 : decode cL_law 283 = .ok (.aload_n 0, 1) := by decide +kernel
theorem dL_law_284 : decode cL_law 284 = .ok (.iload_n 3, 1) := by decide +kernel
theorem dL_law_285 : decode cL_law 285 = .ok (.iconst 1, 1) := by decide +kernel
theorem dL_law_286 : decode cL_law 286 = .ok (.iadd, 1) := by decide +kernel
theorem dL_law_287 : decode cL_law 287 = .ok (.iaload, 1) := by decide +kernel
theorem dL_law_288 : decode cL_law 288 = .ok (.aload_n 0, 1) := by decide +kernel
theorem dL_law_289 : decode cL_law 289 = .ok (.iload_n 3, 1) := by decide +kernel
theorem dL_law_290 : decode cL_law 290 = .ok (.iconst 2, 1) := by decide +kernel
theorem dL_law_291 : decode cL_law 291 = .ok (.iadd, 1) := by decide +kernel
theorem dL_law_292 : decode cL_law 292 = .ok (.iaload, 1) := by decide +kernel
theorem dL_law_293 : decode cL_law 293 = .ok (.invokevirtual 43, 3) := by decide +kernel
theorem dL_law_296 : decode cL_law 296 = .ok (.if_icmp .eq 403, 3) := by decide +kernel
theorem dL_law_299 : decode cL_law 299 = .ok (.iconst 0, 1) := by decide +kernel
theorem dL_law_300 : decode cL_law 300 = .ok (.ireturn, 1) := by decide +kernel
theorem dL_law_301 : decode cL_law 301 = .ok (.aload_n 1, 1) := by decide +kernel
theorem dL_law_302 : decode cL_law 302 = .ok (.aload_n 0, 1) := by decide +kernel
theorem dL_law_303 : decode cL_law 303 = .ok (.iload_n 3, 1) := by decide +kernel
theorem dL_law_304 : decode cL_law 304 = .ok (.iconst 1, 1) := by decide +kernel
theorem dL_law_305 : decode cL_law 305 = .ok (.iadd, 1) := by decide +kernel
theorem dL_law_306 : decode cL_law 306 = .ok (.iaload, 1) := by decide +kernel
theorem dL_law_307 : decode cL_law 307 = .ok (.aload_n 0, 1) := by decide +kernel
theorem dL_law_308 : decode cL_law 308 = .ok (.iload_n 3, 1) := by decide +kernel
theorem dL_law_309 : decode cL_law 309 = .ok (.iconst 2, 1) := by decide +kernel
theorem dL_law_310 : decode cL_law 310 = .ok (.iadd, 1) := by decide +kernel
theorem dL_law_311 : decode cL_law 311 = .ok (.iaload, 1) := by decide +kernel
theorem dL_law_312 : decode cL_law 312 = .ok (.invokevirtual 44, 3) := by decide +kernel
theorem dL_law_315 : decode cL_law 315 = .ok (.aload_n 2, 1) := by decide +kernel
theorem dL_law_316 : decode cL_law 316 = .ok (.aload_n 0, 1) := by decide +kernel
theorem dL_law_317 : decode cL_law 317 = .ok (.iload_n 3, 1) := by decide +kernel
theorem dL_law_318 : decode cL_law 318 = .ok (.iconst 1, 1) := by decide +kernel
theorem dL_law_319 : decode cL_law 319 = .ok (.iadd, 1) := by decide +kernel
theorem dL_law_320 : decode cL_law 320 = .ok (.iaload, 1) := by decide +kernel
theorem dL_law_321 : decode cL_law 321 = .ok (.aload_n 0, 1) := by decide +kernel
theorem dL_law_322 : decode cL_law 322 = .ok (.iload_n 3, 1) := by decide +kernel
theorem dL_law_323 : decode cL_law 323 = .ok (.iconst 2, 1) := by decide +kernel
theorem dL_law_324 : decode cL_law 324 = .ok (.iadd, 1) := by decide +kernel
theorem dL_law_325 : decode cL_law 325 = .ok (.iaload, 1) := by decide +kernel
theorem dL_law_326 : decode cL_law 326 = .ok (.invokevirtual 47, 3) := by decide +kernel
theorem dL_law_329 : decode cL_law 329 = .ok (.if_icmp .eq 370, 3) := by decide +kernel
theorem dL_law_332 : decode cL_law 332 = .ok (.iconst 0, 1) := by decide +kernel
theorem dL_law_333 : decode cL_law 333 = .ok (.ireturn, 1) := by decide +kernel
theorem dL_law_334 : decode cL_law 334 = .ok (.aload_n 1, 1) := by decide +kernel
theorem dL_law_335 : decode cL_law 335 = .ok (.aload_n 0, 1) := by decide +kernel
theorem dL_law_336 : decode cL_law 336 = .ok (.iload_n 3, 1) := by decide +kernel
theorem dL_law_337 : decode cL_law 337 = .ok (.iconst 1, 1) := by decide +kernel
theorem dL_law_338 : decode cL_law 338 = .ok (.iadd, 1) := by decide +kernel
theorem dL_law_339 : decode cL_law 339 = .ok (.iaload, 1) := by decide +kernel
theorem dL_law_340 : decode cL_law 340 = .ok (.aload_n 0, 1) := by decide +kernel
theorem dL_law_341 : decode cL_law 341 = .ok (.iload_n 3, 1) := by decide +kernel
theorem dL_law_342 : decode cL_law 342 = .ok (.iconst 2, 1) := by decide +kernel
theorem dL_law_343 : decode cL_law 343 = .ok (.iadd, 1) := by decide +kernel
theorem dL_law_344 : decode cL_law 344 = .ok (.iaload, 1) := by decide +kernel
theorem dL_law_345 : decode cL_law 345 = .ok (.invokevirtual 48, 3) := by decide +kernel
theorem dL_law_348 : decode cL_law 348 = .ok (.aload_n 2, 1) := by decide +kernel
theorem dL_law_349 : decode cL_law 349 = .ok (.aload_n 0, 1) := by decide +kernel
theorem dL_law_350 : decode cL_law 350 = .ok (.iload_n 3, 1) := by decide +kernel
theorem dL_law_351 : decode cL_law 351 = .ok (.iconst 1, 1) := by decide +kernel
theorem dL_law_352 : decode cL_law 352 = .ok (.iadd, 1) := by decide +kernel
theorem dL_law_353 : decode cL_law 353 = .ok (.iaload, 1) := by decide +kernel
theorem dL_law_354 : decode cL_law 354 = .ok (.aload_n 0, 1) := by decide +kernel
theorem dL_law_355 : decode cL_law 355 = .ok (.iload_n 3, 1) := by decide +kernel
theorem dL_law_356 : decode cL_law 356 = .ok (.iconst 2, 1) := by decide +kernel
theorem dL_law_357 : decode cL_law 357 = .ok (.iadd, 1) := by decide +kernel
theorem dL_law_358 : decode cL_law 358 = .ok (.iaload, 1) := by decide +kernel
theorem dL_law_359 : decode cL_law 359 = .ok (.invokevirtual 51, 3) := by decide +kernel
theorem dL_law_362 : decode cL_law 362 = .ok (.if_icmp .eq 337, 3) := by decide +kernel
theorem dL_law_365 : decode cL_law 365 = .ok (.iconst 0, 1) := by decide +kernel
theorem dL_law_366 : decode cL_law 366 = .ok (.ireturn, 1) := by decide +kernel
theorem dL_law_367 : decode cL_law 367 = .ok (.aload_n 1, 1) := by decide +kernel
theorem dL_law_368 : decode cL_law 368 = .ok (.aload_n 0, 1) := by decide +kernel
theorem dL_law_369 : decode cL_law 369 = .ok (.iload_n 3, 1) := by decide +kernel
theorem dL_law_370 : decode cL_law 370 = .ok (.iconst 1, 1) := by decide +kernel
theorem dL_law_371 : decode cL_law 371 = .ok (.iadd, 1) := by decide +kernel
theorem dL_law_372 : decode cL_law 372 = .ok (.iaload, 1) := by decide +kernel
theorem dL_law_373 : decode cL_law 373 = .ok (.aload_n 0, 1) := by decide +kernel
theorem dL_law_374 : decode cL_law 374 = .ok (.iload_n 3, 1) := by decide +kernel
theorem dL_law_375 : decode cL_law 375 = .ok (.iconst 2, 1) := by decide +kernel
theorem dL_law_376 : decode cL_law 376 = .ok (.iadd, 1) := by decide +kernel
theorem dL_law_377 : decode cL_law 377 = .ok (.iaload, 1) := by decide +kernel
theorem dL_law_378 : decode cL_law 378 = .ok (.invokevirtual 52, 3) := by decide +kernel
theorem dL_law_381 : decode cL_law 381 = .ok (.aload_n 2, 1) := by decide +kernel
theorem dL_law_382 : decode cL_law 382 = .ok (.aload_n 0, 1) := by decide +kernel
theorem dL_law_383 : decode cL_law 383 = .ok (.iload_n 3, 1) := by decide +kernel
theorem dL_law_384 : decode cL_law 384 = .ok (.iconst 1, 1) := by decide +kernel
theorem dL_law_385 : decode cL_law 385 = .ok (.iadd, 1) := by decide +kernel
theorem dL_law_386 : decode cL_law 386 = .ok (.iaload, 1) := by decide +kernel
theorem dL_law_387 : decode cL_law 387 = .ok (.aload_n 0, 1) := by decide +kernel
theorem dL_law_388 : decode cL_law 388 = .ok (.iload_n 3, 1) := by decide +kernel
theorem dL_law_389 : decode cL_law 389 = .ok (.iconst 2, 1) := by decide +kernel
theorem dL_law_390 : decode cL_law 390 = .ok (.iadd, 1) := by decide +kernel
theorem dL_law_391 : decode cL_law 391 = .ok (.iaload, 1) := by decide +kernel
theorem dL_law_392 : decode cL_law 392 = .ok (.invokevirtual 55, 3) := by decide +kernel
theorem dL_law_395 : decode cL_law 395 = .ok (.if_icmp .eq 304, 3) := by decide +kernel
theorem dL_law_398 : decode cL_law 398 = .ok (.iconst 0, 1) := by decide +kernel
theorem dL_law_399 : decode cL_law 399 = .ok (.ireturn, 1) := by decide +kernel
theorem dL_law_400 : decode cL_law 400 = .ok (.aload_n 1, 1) := by decide +kernel
theorem dL_law_401 : decode cL_law 401 = .ok (.aload_n 0, 1) := by decide +kernel
theorem dL_law_402 : decode cL_law 402 = .ok (.iload_n 3, 1) := by decide +kernel
theorem dL_law_403 : decode cL_law 403 = .ok (.iconst 1, 1) := by decide +kernel
theorem dL_law_404 : decode cL_law 404 = .ok (.iadd, 1) := by decide +kernel
theorem dL_law_405 : decode cL_law 405 = .ok (.iaload, 1) := by decide +kernel
theorem dL_law_406 : decode cL_law 406 = .ok (.invokevirtual 56, 3) := by decide +kernel
theorem dL_law_409 : decode cL_law 409 = .ok (.aload_n 2, 1) := by decide +kernel
theorem dL_law_410 : decode cL_law 410 = .ok (.aload_n 0, 1) := by decide +kernel
theorem dL_law_411 : decode cL_law 411 = .ok (.iload_n 3, 1) := by decide +kernel
theorem dL_law_412 : decode cL_law 412 = .ok (.iconst 1, 1) := by decide +kernel
theorem dL_law_413 : decode cL_law 413 = .ok (.iadd, 1) := by decide +kernel
theorem dL_law_414 : decode cL_law 414 = .ok (.iaload, 1) := by decide +kernel
theorem dL_law_415 : decode cL_law 415 = .ok (.invokevirtual 59, 3) := by decide +kernel
theorem dL_law_418 : decode cL_law 418 = .ok (.if_icmp .eq 281, 3) := by decide +kernel
theorem dL_law_421 : decode cL_law 421 = .ok (.iconst 0, 1) := by decide +kernel
theorem dL_law_422 : decode cL_law 422 = .ok (.ireturn, 1) := by decide +kernel
theorem dL_law_423 : decode cL_law 423 = .ok (.aload_n 1, 1) := by decide +kernel
theorem dL_law_424 : decode cL_law 424 = .ok (.aload_n 0, 1) := by decide +kernel
theorem dL_law_425 : decode cL_law 425 = .ok (.iload_n 3, 1) := by decide +kernel
theorem dL_law_426 : decode cL_law 426 = .ok (.iconst 1, 1) := by decide +kernel
theorem dL_law_427 : decode cL_law 427 = .ok (.iadd, 1) := by decide +kernel
theorem dL_law_428 : decode cL_law 428 = .ok (.iaload, 1) := by decide +kernel
theorem dL_law_429 : decode cL_law 429 = .ok (.invokevirtual 60, 3) := by decide +kernel
theorem dL_law_432 : decode cL_law 432 = .ok (.aload_n 2, 1) := by decide +kernel
theorem dL_law_433 : decode cL_law 433 = .ok (.aload_n 0, 1) := by decide +kernel
theorem dL_law_434 : decode cL_law 434 = .ok (.iload_n 3, 1) := by decide +kernel
theorem dL_law_435 : decode cL_law 435 = .ok (.iconst 1, 1) := by decide +kernel
theorem dL_law_436 : decode cL_law 436 = .ok (.iadd, 1) := by decide +kernel
theorem dL_law_437 : decode cL_law 437 = .ok (.iaload, 1) := by decide +kernel
theorem dL_law_438 : decode cL_law 438 = .ok (.invokevirtual 63, 3) := by decide +kernel
theorem dL_law_441 : decode cL_law 441 = .ok (.if_icmp .eq 258, 3) := by decide +kernel
theorem dL_law_444 : decode cL_law 444 = .ok (.iconst 0, 1) := by decide +kernel
theorem dL_law_445 : decode cL_law 445 = .ok (.ireturn, 1) := by decide +kernel
theorem dL_law_446 : decode cL_law 446 = .ok (.aload_n 1, 1) := by decide +kernel
theorem dL_law_447 : decode cL_law 447 = .ok (.aload_n 0, 1) := by decide +kernel
