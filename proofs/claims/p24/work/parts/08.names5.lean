theorem dX7_ifSnipped_0 : decode cX7_ifSnipped 0 = .ok (.iload_n 1, 1) := by decide +kernel
theorem dX7_ifSnipped_1 : decode cX7_ifSnipped 1 = .ok (.invokestatic 81, 3) := by decide +kernel
theorem dX7_ifSnipped_4 : decode cX7_ifSnipped 4 = .ok (.ifCond .ne 7, 3) := by decide +kernel
theorem dX7_ifSnipped_7 : decode cX7_ifSnipped 7 = .ok (.iconst (-1), 1) := by decide +kernel
theorem dX7_ifSnipped_8 : decode cX7_ifSnipped 8 = .ok (.goto 21, 3) := by decide +kernel
theorem dX7_ifSnipped_11 : decode cX7_ifSnipped 11 = .ok (.aload_n 0, 1) := by decide +kernel
theorem dX7_ifSnipped_12 : decode cX7_ifSnipped 12 = .ok (.iload_n 1, 1) := by decide +kernel
theorem dX7_ifSnipped_13 : decode cX7_ifSnipped 13 = .ok (.invokevirtual 95, 3) := by decide +kernel
theorem dX7_ifSnipped_16 : decode cX7_ifSnipped 16 = .ok (.ifCond .le 8, 3) := by decide +kernel
theorem dX7_ifSnipped_19 : decode cX7_ifSnipped 19 = .ok (.bipush (-5), 2) := by decide +kernel
theorem dX7_ifSnipped_21 : decode cX7_ifSnipped 21 = .ok (.goto 8, 3) := by decide +kernel
theorem dX7_ifSnipped_24 : decode cX7_ifSnipped 24 = .ok (.aload_n 0, 1) := by decide +kernel
theorem dX7_ifSnipped_25 : decode cX7_ifSnipped 25 = .ok (.iload_n 1, 1) := by decide +kernel
theorem dX7_ifSnipped_26 : decode cX7_ifSnipped 26 = .ok (.invokevirtual 156, 3) := by decide +kernel
theorem dX7_ifSnipped_29 : decode cX7_ifSnipped 29 = .ok (.ireturn, 1) := by decide +kernel
def ch_wsX7_bestSnip : List (List Cond) := [[.code yX7_bestSnip cX7_bestSnip 6 (some .int)], wsX7_bestSnip_r1, wsX7_bestSnip_r2, wsX7_bestSnip_r3, wsX70]
set_option maxRecDepth 20000 in
theorem hf_wsX7_bestSnip : wsX7_bestSnip = (ch_wsX7_bestSnip).flatten := rfl
set_option maxRecDepth 20000 in
theorem hg_wsX7_bestSnip : (wsX7_bestSnip).all goodWord = true := by decide +kernel
set_option maxRecDepth 20000 in
theorem gX7_bestSnip_X7_in : GoodIn wsX7_bestSnip (va_wsS RX7 36 yX7_in wsX7_in) := goodIn_c ch_wsX7_bestSnip hf_wsX7_bestSnip hg_wsX7_bestSnip _ [(1, 1), (1, 2), (1, 3), (1, 4)] rfl
set_option maxRecDepth 20000 in
theorem gX7_bestSnip_X7_reason : GoodIn wsX7_bestSnip (wsV RX7 95 RX7 yX7_reason wsX7_reason) := goodIn_c ch_wsX7_bestSnip hf_wsX7_bestSnip hg_wsX7_bestSnip _ [(1, 5), (1, 6), (1, 7), (1, 3), (1, 8), (1, 0), (1, 9), (1, 10), (1, 11), (1, 3), (1, 12), (1, 13), (1, 14), (1, 15), (1, 16), (1, 17), (1, 18), (1, 19), (1, 20), (1, 21), (1, 22), (1, 23), (2, 0), (2, 1), (2, 2), (2, 3), (2, 4), (2, 5), (2, 6), (4, 0), (4, 1), (4, 2), (4, 3), (4, 4), (4, 5), (4, 6), (4, 7), (4, 8)] rfl
set_option maxRecDepth 20000 in
theorem gX7_bestSnip_X7_cellsBy : GoodIn wsX7_bestSnip (wsV RX7 156 RX7 yX7_cellsBy wsX7_cellsBy) := goodIn_c ch_wsX7_bestSnip hf_wsX7_bestSnip hg_wsX7_bestSnip _ [(2, 7), (2, 8), (2, 9), (1, 3), (2, 10), (2, 11), (2, 12), (2, 13), (1, 3), (2, 14), (2, 15), (2, 16), (2, 17), (2, 18), (2, 19), (1, 0), (1, 17), (1, 18), (1, 19), (1, 20), (2, 20), (2, 21), (2, 22), (2, 23), (1, 21), (1, 22), (1, 23), (2, 0), (2, 1), (2, 2), (2, 3), (2, 4), (2, 5), (2, 6), (3, 0), (3, 1), (3, 2), (3, 3), (4, 0), (4, 1), (4, 2), (4, 3), (4, 4), (4, 5), (4, 6), (4, 7), (4, 8)] rfl
set_option maxRecDepth 20000 in
theorem gX7_bestSnip_X7_hasChalk : GoodIn wsX7_bestSnip (wsV RX7 88 RX7 yX7_hasChalk wsX7_hasChalk) := goodIn_c ch_wsX7_bestSnip hf_wsX7_bestSnip hg_wsX7_bestSnip _ [(3, 4), (3, 5), (3, 6), (1, 3), (3, 7), (3, 8), (3, 9), (3, 10), (1, 3), (3, 11), (1, 0), (3, 12), (3, 13), (3, 14), (3, 15), (3, 16), (3, 17), (3, 18), (4, 0), (4, 1), (4, 2), (4, 3), (4, 4), (4, 5), (4, 6), (4, 7), (4, 8)] rfl
theorem dX7_bestSnip_0 : decode cX7_bestSnip 0 = .ok (.iload_n 1, 1) := by decide +kernel
theorem dX7_bestSnip_1 : decode cX7_bestSnip 1 = .ok (.iconst 0, 1) := by decide +kernel
theorem dX7_bestSnip_2 : decode cX7_bestSnip 2 = .ok (.iconst 1, 1) := by decide +kernel
theorem dX7_bestSnip_3 : decode cX7_bestSnip 3 = .ok (.invokestatic 36, 3) := by decide +kernel
theorem dX7_bestSnip_6 : decode cX7_bestSnip 6 = .ok (.ifCond .ne 6, 3) := by decide +kernel
theorem dX7_bestSnip_9 : decode cX7_bestSnip 9 = .ok (.bipush (-2), 2) := by decide +kernel
theorem dX7_bestSnip_11 : decode cX7_bestSnip 11 = .ok (.ireturn, 1) := by decide +kernel
theorem dX7_bestSnip_12 : decode cX7_bestSnip 12 = .ok (.bipush (-6), 2) := by decide +kernel
theorem dX7_bestSnip_14 : decode cX7_bestSnip 14 = .ok (.istore_n 2, 1) := by decide +kernel
theorem dX7_bestSnip_15 : decode cX7_bestSnip 15 = .ok (.bipush (-6), 2) := by decide +kernel
theorem dX7_bestSnip_17 : decode cX7_bestSnip 17 = .ok (.istore_n 3, 1) := by decide +kernel
theorem dX7_bestSnip_18 : decode cX7_bestSnip 18 = .ok (.iconst 0, 1) := by decide +kernel
theorem dX7_bestSnip_19 : decode cX7_bestSnip 19 = .ok (.istore 4, 2) := by decide +kernel
theorem dX7_bestSnip_21 : decode cX7_bestSnip 21 = .ok (.iload 4, 2) := by decide +kernel
theorem dX7_bestSnip_23 : decode cX7_bestSnip 23 = .ok (.bipush 82, 2) := by decide +kernel
theorem dX7_bestSnip_25 : decode cX7_bestSnip 25 = .ok (.if_icmp .ge 75, 3) := by decide +kernel
theorem dX7_bestSnip_28 : decode cX7_bestSnip 28 = .ok (.aload_n 0, 1) := by decide +kernel
theorem dX7_bestSnip_29 : decode cX7_bestSnip 29 = .ok (.iload 4, 2) := by decide +kernel
theorem dX7_bestSnip_31 : decode cX7_bestSnip 31 = .ok (.invokevirtual 95, 3) := by decide +kernel
theorem dX7_bestSnip_34 : decode cX7_bestSnip 34 = .ok (.ifCond .ne 60, 3) := by decide +kernel
theorem dX7_bestSnip_37 : decode cX7_bestSnip 37 = .ok (.aload_n 0, 1) := by decide +kernel
theorem dX7_bestSnip_38 : decode cX7_bestSnip 38 = .ok (.iload 4, 2) := by decide +kernel
theorem dX7_bestSnip_40 : decode cX7_bestSnip 40 = .ok (.invokevirtual 156, 3) := by decide +kernel
theorem dX7_bestSnip_43 : decode cX7_bestSnip 43 = .ok (.aload_n 0, 1) := by decide +kernel
theorem dX7_bestSnip_44 : decode cX7_bestSnip 44 = .ok (.aload_n 0, 1) := by decide +kernel
theorem dX7_bestSnip_45 : decode cX7_bestSnip 45 = .ok (.getfield 7, 3) := by decide +kernel
theorem dX7_bestSnip_48 : decode cX7_bestSnip 48 = .ok (.sipush 245, 3) := by decide +kernel
theorem dX7_bestSnip_51 : decode cX7_bestSnip 51 = .ok (.iaload, 1) := by decide +kernel
theorem dX7_bestSnip_52 : decode cX7_bestSnip 52 = .ok (.iload 4, 2) := by decide +kernel
theorem dX7_bestSnip_54 : decode cX7_bestSnip 54 = .ok (.invokevirtual 88, 3) := by decide +kernel
theorem dX7_bestSnip_57 : decode cX7_bestSnip 57 = .ok (.ifCond .eq 7, 3) := by decide +kernel
theorem dX7_bestSnip_60 : decode cX7_bestSnip 60 = .ok (.iconst 1, 1) := by decide +kernel
theorem dX7_bestSnip_61 : decode cX7_bestSnip 61 = .ok (.goto 4, 3) := by decide +kernel
theorem dX7_bestSnip_64 : decode cX7_bestSnip 64 = .ok (.iconst 0, 1) := by decide +kernel
theorem dX7_bestSnip_65 : decode cX7_bestSnip 65 = .ok (.iadd, 1) := by decide +kernel
theorem dX7_bestSnip_66 : decode cX7_bestSnip 66 = .ok (.istore 5, 2) := by decide +kernel
theorem dX7_bestSnip_68 : decode cX7_bestSnip 68 = .ok (.iload 5, 2) := by decide +kernel
theorem dX7_bestSnip_70 : decode cX7_bestSnip 70 = .ok (.iload_n 3, 1) := by decide +kernel
theorem dX7_bestSnip_71 : decode cX7_bestSnip 71 = .ok (.if_icmp .le 8, 3) := by decide +kernel
theorem dX7_bestSnip_74 : decode cX7_bestSnip 74 = .ok (.iload 4, 2) := by decide +kernel
theorem dX7_bestSnip_76 : decode cX7_bestSnip 76 = .ok (.goto 4, 3) := by decide +kernel
theorem dX7_bestSnip_79 : decode cX7_bestSnip 79 = .ok (.iload_n 2, 1) := by decide +kernel
theorem dX7_bestSnip_80 : decode cX7_bestSnip 80 = .ok (.istore_n 2, 1) := by decide +kernel
theorem dX7_bestSnip_81 : decode cX7_bestSnip 81 = .ok (.iload 5, 2) := by decide +kernel
theorem dX7_bestSnip_83 : decode cX7_bestSnip 83 = .ok (.iload_n 3, 1) := by decide +kernel
theorem dX7_bestSnip_84 : decode cX7_bestSnip 84 = .ok (.if_icmp .le 8, 3) := by decide +kernel
theorem dX7_bestSnip_87 : decode cX7_bestSnip 87 = .ok (.iload 5, 2) := by decide +kernel
theorem dX7_bestSnip_89 : decode cX7_bestSnip 89 = .ok (.goto 4, 3) := by decide +kernel
theorem dX7_bestSnip_92 : decode cX7_bestSnip 92 = .ok (.iload_n 3, 1) := by decide +kernel
theorem dX7_bestSnip_93 : decode cX7_bestSnip 93 = .ok (.istore_n 3, 1) := by decide +kernel
theorem dX7_bestSnip_94 : decode cX7_bestSnip 94 = .ok (.iinc 4 1, 3) := by decide +kernel
theorem dX7_bestSnip_97 : decode cX7_bestSnip 97 = .ok (.goto (-76), 3) := by decide +kernel
theorem dX7_bestSnip_100 : decode cX7_bestSnip 100 = .ok (.iload_n 1, 1) := by decide +kernel
theorem dX7_bestSnip_101 : decode cX7_bestSnip 101 = .ok (.ifCond .ne 7, 3) := by decide +kernel
theorem dX7_bestSnip_104 : decode cX7_bestSnip 104 = .ok (.iload_n 2, 1) := by decide +kernel
theorem dX7_bestSnip_105 : decode cX7_bestSnip 105 = .ok (.goto 4, 3) := by decide +kernel
theorem dX7_bestSnip_108 : decode cX7_bestSnip 108 = .ok (.iload_n 3, 1) := by decide +kernel
theorem dX7_bestSnip_109 : decode cX7_bestSnip 109 = .ok (.ireturn, 1) := by decide +kernel
def ch_wsX7_weak : List (List Cond) := [[.code yX7_weak cX7_weak 3 (some .int)], wsX7_weak_r1, wsX7_weak_r2, wsX70]
set_option maxRecDepth 20000 in
theorem hf_wsX7_weak : wsX7_weak = (ch_wsX7_weak).flatten := rfl
set_option maxRecDepth 20000 in
theorem hg_wsX7_weak : (wsX7_weak).all goodWord = true := by decide +kernel
set_option maxRecDepth 20000 in
theorem gX7_weak_X7_isOver : GoodIn wsX7_weak (wsV RX7 84 RX7 yX7_isOver wsX7_isOver) := goodIn_c ch_wsX7_weak hf_wsX7_weak hg_wsX7_weak _ [(1, 0), (1, 1), (1, 2), (1, 3), (1, 4), (1, 5), (1, 6), (1, 7), (1, 8), (1, 3), (1, 9), (1, 10), (1, 11), (1, 12), (1, 13), (3, 0), (3, 1), (3, 2), (3, 3), (3, 4), (3, 5), (3, 6), (3, 7), (3, 8)] rfl
set_option maxRecDepth 20000 in
theorem gX7_weak_X7_holds : GoodIn wsX7_weak (wsV RX7 58 RX7 yX7_holds wsX7_holds) := goodIn_c ch_wsX7_weak hf_wsX7_weak hg_wsX7_weak _ [(1, 14), (1, 15), (1, 16), (1, 3), (1, 17), (1, 5), (1, 18), (1, 19), (1, 20), (1, 3), (1, 21), (1, 22), (1, 23), (2, 0), (1, 10), (1, 11), (1, 12), (1, 13), (2, 1), (2, 2), (2, 3), (3, 0), (3, 1), (3, 2), (3, 3), (3, 4), (3, 5), (3, 6), (3, 7), (3, 8)] rfl
set_option maxRecDepth 20000 in
theorem gX7_weak_X7_cellsBy : GoodIn wsX7_weak (wsV RX7 156 RX7 yX7_cellsBy wsX7_cellsBy) := goodIn_c ch_wsX7_weak hf_wsX7_weak hg_wsX7_weak _ [(2, 4), (2, 5), (2, 6), (1, 3), (2, 7), (2, 8), (2, 9), (2, 10), (1, 3), (2, 11), (2, 12), (2, 13), (2, 14), (2, 15), (2, 16), (1, 5), (1, 10), (1, 11), (1, 12), (1, 13), (1, 14), (1, 15), (1, 16), (1, 17), (1, 18), (1, 19), (1, 20), (1, 21), (1, 22), (1, 23), (2, 0), (2, 1), (2, 2), (2, 3), (2, 17), (2, 18), (2, 19), (2, 20), (3, 0), (3, 1), (3, 2), (3, 3), (3, 4), (3, 5), (3, 6), (3, 7), (3, 8)] rfl
theorem dX7_weak_0 : decode cX7_weak 0 = .ok (.iconst 0, 1) := by decide +kernel
theorem dX7_weak_1 : decode cX7_weak 1 = .ok (.istore_n 1, 1) := by decide +kernel
theorem dX7_weak_2 : decode cX7_weak 2 = .ok (.iconst 0, 1) := by decide +kernel
theorem dX7_weak_3 : decode cX7_weak 3 = .ok (.istore_n 2, 1) := by decide +kernel
theorem dX7_weak_4 : decode cX7_weak 4 = .ok (.iload_n 2, 1) := by decide +kernel
theorem dX7_weak_5 : decode cX7_weak 5 = .ok (.bipush 82, 2) := by decide +kernel
theorem dX7_weak_7 : decode cX7_weak 7 = .ok (.if_icmp .ge 40, 3) := by decide +kernel
theorem dX7_weak_10 : decode cX7_weak 10 = .ok (.aload_n 0, 1) := by decide +kernel
theorem dX7_weak_11 : decode cX7_weak 11 = .ok (.invokevirtual 84, 3) := by decide +kernel
theorem dX7_weak_14 : decode cX7_weak 14 = .ok (.ifCond .ne 33, 3) := by decide +kernel
theorem dX7_weak_17 : decode cX7_weak 17 = .ok (.iload_n 1, 1) := by decide +kernel
theorem dX7_weak_18 : decode cX7_weak 18 = .ok (.aload_n 0, 1) := by decide +kernel
theorem dX7_weak_19 : decode cX7_weak 19 = .ok (.iload_n 2, 1) := by decide +kernel
theorem dX7_weak_20 : decode cX7_weak 20 = .ok (.invokevirtual 58, 3) := by decide +kernel
theorem dX7_weak_23 : decode cX7_weak 23 = .ok (.ifCond .eq 15, 3) := by decide +kernel
theorem dX7_weak_26 : decode cX7_weak 26 = .ok (.aload_n 0, 1) := by decide +kernel
theorem dX7_weak_27 : decode cX7_weak 27 = .ok (.iload_n 2, 1) := by decide +kernel
theorem dX7_weak_28 : decode cX7_weak 28 = .ok (.invokevirtual 156, 3) := by decide +kernel
theorem dX7_weak_31 : decode cX7_weak 31 = .ok (.ifCond .le 7, 3) := by decide +kernel
theorem dX7_weak_34 : decode cX7_weak 34 = .ok (.iconst 1, 1) := by decide +kernel
theorem dX7_weak_35 : decode cX7_weak 35 = .ok (.goto 4, 3) := by decide +kernel
theorem dX7_weak_38 : decode cX7_weak 38 = .ok (.iconst 0, 1) := by decide +kernel
theorem dX7_weak_39 : decode cX7_weak 39 = .ok (.iadd, 1) := by decide +kernel
theorem dX7_weak_40 : decode cX7_weak 40 = .ok (.istore_n 1, 1) := by decide +kernel
theorem dX7_weak_41 : decode cX7_weak 41 = .ok (.iinc 2 1, 3) := by decide +kernel
theorem dX7_weak_44 : decode cX7_weak 44 = .ok (.goto (-40), 3) := by decide +kernel
theorem dX7_weak_47 : decode cX7_weak 47 = .ok (.iload_n 1, 1) := by decide +kernel
theorem dX7_weak_48 : decode cX7_weak 48 = .ok (.ireturn, 1) := by decide +kernel
def ch_wsX7_together : List (List Cond) := [[.code yX7_together cX7_together 4 (some .int)], wsX7_together_r1, wsX7_together_r2, wsX70]
set_option maxRecDepth 20000 in
theorem hf_wsX7_together : wsX7_together = (ch_wsX7_together).flatten := rfl
set_option maxRecDepth 20000 in
theorem hg_wsX7_together : (wsX7_together).all goodWord = true := by decide +kernel
set_option maxRecDepth 20000 in
theorem gX7_together_X7_isCell : GoodIn wsX7_together (va_wsS RX7 138 yX7_isCell wsX7_isCell) := goodIn_c ch_wsX7_together hf_wsX7_together hg_wsX7_together _ [(1, 1), (1, 2), (1, 3), (1, 4), (1, 5), (1, 6), (1, 3), (1, 7)] rfl
set_option maxRecDepth 20000 in
theorem gX7_together_X7_in : GoodIn wsX7_together (va_wsS RX7 36 yX7_in wsX7_in) := goodIn_c ch_wsX7_together hf_wsX7_together hg_wsX7_together _ [(1, 5), (1, 6), (1, 3), (1, 7)] rfl
set_option maxRecDepth 20000 in
theorem gX7_together_X7_isGone : GoodIn wsX7_together (wsV RX7 44 RX7 yX7_isGone wsX7_isGone) := goodIn_c ch_wsX7_together hf_wsX7_together hg_wsX7_together _ [(1, 8), (1, 9), (1, 10), (1, 3), (1, 11), (1, 12), (3, 0), (3, 1), (3, 2), (3, 3), (3, 4), (3, 5), (3, 6), (3, 7), (3, 8)] rfl
set_option maxRecDepth 20000 in
theorem gX7_together_X7_layPieces : GoodIn wsX7_together (wsV RX7 61 RX7 yX7_layPieces wsX7_layPieces) := goodIn_c ch_wsX7_together hf_wsX7_together hg_wsX7_together _ [(1, 13), (1, 14), (1, 15), (1, 3), (1, 16), (1, 0), (1, 12), (1, 8), (1, 9), (1, 10), (1, 3), (1, 11), (1, 17), (1, 18), (1, 19), (1, 20), (1, 21), (1, 22), (1, 23), (2, 0), (2, 1), (2, 2), (2, 3), (2, 4), (2, 5), (2, 6), (3, 0), (3, 1), (3, 2), (3, 3), (3, 4), (3, 5), (3, 6), (3, 7), (3, 8)] rfl
theorem dX7_together_0 : decode cX7_together 0 = .ok (.iload_n 1, 1) := by decide +kernel
theorem dX7_together_1 : decode cX7_together 1 = .ok (.invokestatic 138, 3) := by decide +kernel
theorem dX7_together_4 : decode cX7_together 4 = .ok (.ifCond .eq 10, 3) := by decide +kernel
theorem dX7_together_7 : decode cX7_together 7 = .ok (.iload_n 2, 1) := by decide +kernel
theorem dX7_together_8 : decode cX7_together 8 = .ok (.invokestatic 138, 3) := by decide +kernel
theorem dX7_together_11 : decode cX7_together 11 = .ok (.ifCond .ne 5, 3) := by decide +kernel
theorem dX7_together_14 : decode cX7_together 14 = .ok (.iconst (-1), 1) := by decide +kernel
theorem dX7_together_15 : decode cX7_together 15 = .ok (.ireturn, 1) := by decide +kernel
theorem dX7_together_16 : decode cX7_together 16 = .ok (.iload_n 3, 1) := by decide +kernel
theorem dX7_together_17 : decode cX7_together 17 = .ok (.iconst 0, 1) := by decide +kernel
theorem dX7_together_18 : decode cX7_together 18 = .ok (.iconst 1, 1) := by decide +kernel
theorem dX7_together_19 : decode cX7_together 19 = .ok (.invokestatic 36, 3) := by decide +kernel
theorem dX7_together_22 : decode cX7_together 22 = .ok (.ifCond .ne 6, 3) := by decide +kernel
theorem dX7_together_25 : decode cX7_together 25 = .ok (.bipush (-2), 2) := by decide +kernel
theorem dX7_together_27 : decode cX7_together 27 = .ok (.ireturn, 1) := by decide +kernel
theorem dX7_together_28 : decode cX7_together 28 = .ok (.aload_n 0, 1) := by decide +kernel
theorem dX7_together_29 : decode cX7_together 29 = .ok (.iload_n 1, 1) := by decide +kernel
theorem dX7_together_30 : decode cX7_together 30 = .ok (.invokevirtual 44, 3) := by decide +kernel
theorem dX7_together_33 : decode cX7_together 33 = .ok (.ifCond .ne 11, 3) := by decide +kernel
theorem dX7_together_36 : decode cX7_together 36 = .ok (.aload_n 0, 1) := by decide +kernel
theorem dX7_together_37 : decode cX7_together 37 = .ok (.iload_n 2, 1) := by decide +kernel
theorem dX7_together_38 : decode cX7_together 38 = .ok (.invokevirtual 44, 3) := by decide +kernel
theorem dX7_together_41 : decode cX7_together 41 = .ok (.ifCond .eq 6, 3) := by decide +kernel
theorem dX7_together_44 : decode cX7_together 44 = .ok (.bipush (-5), 2) := by decide +kernel
theorem dX7_together_46 : decode cX7_together 46 = .ok (.ireturn, 1) := by decide +kernel
theorem dX7_together_47 : decode cX7_together 47 = .ok (.aload_n 0, 1) := by decide +kernel
theorem dX7_together_48 : decode cX7_together 48 = .ok (.bipush (-6), 2) := by decide +kernel
theorem dX7_together_50 : decode cX7_together 50 = .ok (.iload_n 3, 1) := by decide +kernel
theorem dX7_together_51 : decode cX7_together 51 = .ok (.iconst 1, 1) := by decide +kernel
theorem dX7_together_52 : decode cX7_together 52 = .ok (.if_icmp .ne 7, 3) := by decide +kernel
theorem dX7_together_55 : decode cX7_together 55 = .ok (.iconst 1, 1) := by decide +kernel
theorem dX7_together_56 : decode cX7_together 56 = .ok (.goto 4, 3) := by decide +kernel
theorem dX7_together_59 : decode cX7_together 59 = .ok (.iconst 0, 1) := by decide +kernel
theorem dX7_together_60 : decode cX7_together 60 = .ok (.invokevirtual 61, 3) := by decide +kernel
theorem dX7_together_63 : decode cX7_together 63 = .ok (.aload_n 0, 1) := by decide +kernel
theorem dX7_together_64 : decode cX7_together 64 = .ok (.getfield 29, 3) := by decide +kernel
theorem dX7_together_67 : decode cX7_together 67 = .ok (.iload_n 1, 1) := by decide +kernel
theorem dX7_together_68 : decode cX7_together 68 = .ok (.iaload, 1) := by decide +kernel
theorem dX7_together_69 : decode cX7_together 69 = .ok (.aload_n 0, 1) := by decide +kernel
theorem dX7_together_70 : decode cX7_together 70 = .ok (.getfield 29, 3) := by decide +kernel
theorem dX7_together_73 : decode cX7_together 73 = .ok (.iload_n 2, 1) := by decide +kernel
theorem dX7_together_74 : decode cX7_together 74 = .ok (.iaload, 1) := by decide +kernel
theorem dX7_together_75 : decode cX7_together 75 = .ok (.if_icmp .ne 7, 3) := by decide +kernel
theorem dX7_together_78 : decode cX7_together 78 = .ok (.iconst 1, 1) := by decide +kernel
theorem dX7_together_79 : decode cX7_together 79 = .ok (.goto 4, 3) := by decide +kernel
theorem dX7_together_82 : decode cX7_together 82 = .ok (.iconst 0, 1) := by decide +kernel
theorem dX7_together_83 : decode cX7_together 83 = .ok (.ireturn, 1) := by decide +kernel
def ch_wsX7_put : List (List Cond) := [[.code yX7_put cX7_put 8 (some .int)], [.constantLong RX7 159 (255), .fieldLink RX7 153 "TailorChalksModel" "length" "I", .fieldLink RX7 26 "TailorChalksModel" "pad" "[I", .methodLink RX7 36 yX7_in, .static yX7_in, .initialized RX7, .code yX7_in cX7_in 3 (some .boolean)], wsX70]
set_option maxRecDepth 20000 in
theorem hf_wsX7_put : wsX7_put = (ch_wsX7_put).flatten := rfl
set_option maxRecDepth 20000 in
theorem hg_wsX7_put : (wsX7_put).all goodWord = true := by decide +kernel
set_option maxRecDepth 20000 in
theorem gX7_put_X7_in : GoodIn wsX7_put (va_wsS RX7 36 yX7_in wsX7_in) := goodIn_c ch_wsX7_put hf_wsX7_put hg_wsX7_put _ [(1, 3), (1, 4), (1, 5), (1, 6)] rfl
theorem dX7_put_0 : decode cX7_put 0 = .ok (.iconst 0, 1) := by decide +kernel
theorem dX7_put_1 : decode cX7_put 1 = .ok (.istore_n 3, 1) := by decide +kernel
theorem dX7_put_2 : decode cX7_put 2 = .ok (.iconst 0, 1) := by decide +kernel
theorem dX7_put_3 : decode cX7_put 3 = .ok (.istore 4, 2) := by decide +kernel
theorem dX7_put_5 : decode cX7_put 5 = .ok (.iconst 0, 1) := by decide +kernel
theorem dX7_put_6 : decode cX7_put 6 = .ok (.istore 5, 2) := by decide +kernel
theorem dX7_put_8 : decode cX7_put 8 = .ok (.iload 5, 2) := by decide +kernel
theorem dX7_put_10 : decode cX7_put 10 = .ok (.bipush 8, 2) := by decide +kernel
theorem dX7_put_12 : decode cX7_put 12 = .ok (.if_icmp .ge 89, 3) := by decide +kernel
theorem dX7_put_15 : decode cX7_put 15 = .ok (.lload_n 1, 1) := by decide +kernel
theorem dX7_put_16 : decode cX7_put 16 = .ok (.bipush 8, 2) := by decide +kernel
theorem dX7_put_18 : decode cX7_put 18 = .ok (.iload 5, 2) := by decide +kernel
theorem dX7_put_20 : decode cX7_put 20 = .ok (.imul, 1) := by decide +kernel
theorem dX7_put_21 : decode cX7_put 21 = .ok (.lushr, 1) := by decide +kernel
theorem dX7_put_22 : decode cX7_put 22 = .ok (.ldc2_w 159, 3) := by decide +kernel
theorem dX7_put_25 : decode cX7_put 25 = .ok (.land, 1) := by decide +kernel
theorem dX7_put_26 : decode cX7_put 26 = .ok (.l2i, 1) := by decide +kernel
theorem dX7_put_27 : decode cX7_put 27 = .ok (.istore 6, 2) := by decide +kernel
theorem dX7_put_29 : decode cX7_put 29 = .ok (.iload 5, 2) := by decide +kernel
theorem dX7_put_31 : decode cX7_put 31 = .ok (.ifCond .le 19, 3) := by decide +kernel
theorem dX7_put_34 : decode cX7_put 34 = .ok (.lload_n 1, 1) := by decide +kernel
theorem dX7_put_35 : decode cX7_put 35 = .ok (.bipush 8, 2) := by decide +kernel
theorem dX7_put_37 : decode cX7_put 37 = .ok (.iload 5, 2) := by decide +kernel
theorem dX7_put_39 : decode cX7_put 39 = .ok (.imul, 1) := by decide +kernel
theorem dX7_put_40 : decode cX7_put 40 = .ok (.lushr, 1) := by decide +kernel
theorem dX7_put_41 : decode cX7_put 41 = .ok (.lconst 0, 1) := by decide +kernel
theorem dX7_put_42 : decode cX7_put 42 = .ok (.lcmp, 1) := by decide +kernel
theorem dX7_put_43 : decode cX7_put 43 = .ok (.ifCond .ne 7, 3) := by decide +kernel
theorem dX7_put_46 : decode cX7_put 46 = .ok (.iconst 1, 1) := by decide +kernel
theorem dX7_put_47 : decode cX7_put 47 = .ok (.goto 4, 3) := by decide +kernel
theorem dX7_put_50 : decode cX7_put 50 = .ok (.iconst 0, 1) := by decide +kernel
theorem dX7_put_51 : decode cX7_put 51 = .ok (.istore 7, 2) := by decide +kernel
theorem dX7_put_53 : decode cX7_put 53 = .ok (.iload 4, 2) := by decide +kernel
theorem dX7_put_55 : decode cX7_put 55 = .ok (.ifCond .ne 20, 3) := by decide +kernel
theorem dX7_put_58 : decode cX7_put 58 = .ok (.iload 7, 2) := by decide +kernel
theorem dX7_put_60 : decode cX7_put 60 = .ok (.ifCond .ne 19, 3) := by decide +kernel
theorem dX7_put_63 : decode cX7_put 63 = .ok (.iload 6, 2) := by decide +kernel
theorem dX7_put_65 : decode cX7_put 65 = .ok (.bipush 33, 2) := by decide +kernel
theorem dX7_put_67 : decode cX7_put 67 = .ok (.bipush 126, 2) := by decide +kernel
theorem dX7_put_69 : decode cX7_put 69 = .ok (.invokestatic 36, 3) := by decide +kernel
theorem dX7_put_72 : decode cX7_put 72 = .ok (.ifCond .ne 7, 3) := by decide +kernel
theorem dX7_put_75 : decode cX7_put 75 = .ok (.iconst 1, 1) := by decide +kernel
theorem dX7_put_76 : decode cX7_put 76 = .ok (.goto 4, 3) := by decide +kernel
theorem dX7_put_79 : decode cX7_put 79 = .ok (.iconst 0, 1) := by decide +kernel
theorem dX7_put_80 : decode cX7_put 80 = .ok (.istore 4, 2) := by decide +kernel
theorem dX7_put_82 : decode cX7_put 82 = .ok (.iload_n 3, 1) := by decide +kernel
theorem dX7_put_83 : decode cX7_put 83 = .ok (.iload 7, 2) := by decide +kernel
theorem dX7_put_85 : decode cX7_put 85 = .ok (.ifCond .eq 7, 3) := by decide +kernel
theorem dX7_put_88 : decode cX7_put 88 = .ok (.iconst 0, 1) := by decide +kernel
theorem dX7_put_89 : decode cX7_put 89 = .ok (.goto 4, 3) := by decide +kernel
theorem dX7_put_92 : decode cX7_put 92 = .ok (.iconst 1, 1) := by decide +kernel
theorem dX7_put_93 : decode cX7_put 93 = .ok (.iadd, 1) := by decide +kernel
theorem dX7_put_94 : decode cX7_put 94 = .ok (.istore_n 3, 1) := by decide +kernel
theorem dX7_put_95 : decode cX7_put 95 = .ok (.iinc 5 1, 3) := by decide +kernel
theorem dX7_put_98 : decode cX7_put 98 = .ok (.goto (-90), 3) := by decide +kernel
theorem dX7_put_101 : decode cX7_put 101 = .ok (.iload 4, 2) := by decide +kernel
theorem dX7_put_103 : decode cX7_put 103 = .ok (.ifCond .eq 6, 3) := by decide +kernel
theorem dX7_put_106 : decode cX7_put 106 = .ok (.bipush (-2), 2) := by decide +kernel
theorem dX7_put_108 : decode cX7_put 108 = .ok (.ireturn, 1) := by decide +kernel
theorem dX7_put_109 : decode cX7_put 109 = .ok (.aload_n 0, 1) := by decide +kernel
theorem dX7_put_110 : decode cX7_put 110 = .ok (.getfield 153, 3) := by decide +kernel
theorem dX7_put_113 : decode cX7_put 113 = .ok (.iload_n 3, 1) := by decide +kernel
theorem dX7_put_114 : decode cX7_put 114 = .ok (.iadd, 1) := by decide +kernel
theorem dX7_put_115 : decode cX7_put 115 = .ok (.bipush 80, 2) := by decide +kernel
theorem dX7_put_117 : decode cX7_put 117 = .ok (.if_icmp .le 6, 3) := by decide +kernel
theorem dX7_put_120 : decode cX7_put 120 = .ok (.bipush (-4), 2) := by decide +kernel
theorem dX7_put_122 : decode cX7_put 122 = .ok (.ireturn, 1) := by decide +kernel
theorem dX7_put_123 : decode cX7_put 123 = .ok (.iconst 0, 1) := by decide +kernel
theorem dX7_put_124 : decode cX7_put 124 = .ok (.istore 5, 2) := by decide +kernel
theorem dX7_put_126 : decode cX7_put 126 = .ok (.iload 5, 2) := by decide +kernel
theorem dX7_put_128 : decode cX7_put 128 = .ok (.iload_n 3, 1) := by decide +kernel
theorem dX7_put_129 : decode cX7_put 129 = .ok (.if_icmp .ge 37, 3) := by decide +kernel
theorem dX7_put_132 : decode cX7_put 132 = .ok (.aload_n 0, 1) := by decide +kernel
theorem dX7_put_133 : decode cX7_put 133 = .ok (.getfield 26, 3) := by decide +kernel
theorem dX7_put_136 : decode cX7_put 136 = .ok (.aload_n 0, 1) := by decide +kernel
theorem dX7_put_137 : decode cX7_put 137 = .ok (.getfield 153, 3) := by decide +kernel
theorem dX7_put_140 : decode cX7_put 140 = .ok (.iload_n 3, 1) := by decide +kernel
theorem dX7_put_141 : decode cX7_put 141 = .ok (.iadd, 1) := by decide +kernel
theorem dX7_put_142 : decode cX7_put 142 = .ok (.iconst 1, 1) := by decide +kernel
theorem dX7_put_143 : decode cX7_put 143 = .ok (.isub, 1) := by decide +kernel
theorem dX7_put_144 : decode cX7_put 144 = .ok (.iload 5, 2) := by decide +kernel
theorem dX7_put_146 : decode cX7_put 146 = .ok (.isub, 1) := by decide +kernel
theorem dX7_put_147 : decode cX7_put 147 = .ok (.lload_n 1, 1) := by decide +kernel
theorem dX7_put_148 : decode cX7_put 148 = .ok (.bipush 8, 2) := by decide +kernel
theorem dX7_put_150 : decode cX7_put 150 = .ok (.iload 5, 2) := by decide +kernel
theorem dX7_put_152 : decode cX7_put 152 = .ok (.imul, 1) := by decide +kernel
theorem dX7_put_153 : decode cX7_put 153 = .ok (.lushr, 1) := by decide +kernel
theorem dX7_put_154 : decode cX7_put 154 = .ok (.ldc2_w 159, 3) := by decide +kernel
theorem dX7_put_157 : decode cX7_put 157 = .ok (.land, 1) := by decide +kernel
theorem dX7_put_158 : decode cX7_put 158 = .ok (.l2i, 1) := by decide +kernel
theorem dX7_put_159 : decode cX7_put 159 = .ok (.iastore, 1) := by decide +kernel
theorem dX7_put_160 : decode cX7_put 160 = .ok (.iinc 5 1, 3) := by decide +kernel
theorem dX7_put_163 : decode cX7_put 163 = .ok (.goto (-37), 3) := by decide +kernel
theorem dX7_put_166 : decode cX7_put 166 = .ok (.aload_n 0, 1) := by decide +kernel
theorem dX7_put_167 : decode cX7_put 167 = .ok (.dup, 1) := by decide +kernel
theorem dX7_put_168 : decode cX7_put 168 = .ok (.getfield 153, 3) := by decide +kernel
theorem dX7_put_171 : decode cX7_put 171 = .ok (.iload_n 3, 1) := by decide +kernel
theorem dX7_put_172 : decode cX7_put 172 = .ok (.iadd, 1) := by decide +kernel
theorem dX7_put_173 : decode cX7_put 173 = .ok (.putfield 153, 3) := by decide +kernel
theorem dX7_put_176 : decode cX7_put 176 = .ok (.aload_n 0, 1) := by decide +kernel
theorem dX7_put_177 : decode cX7_put 177 = .ok (.getfield 153, 3) := by decide +kernel
theorem dX7_put_180 : decode cX7_put 180 = .ok (.ireturn, 1) := by decide +kernel
theorem dX7_wipe_0 : decode cX7_wipe 0 = .ok (.aload_n 0, 1) := by decide +kernel
theorem dX7_wipe_1 : decode cX7_wipe 1 = .ok (.getfield 153, 3) := by decide +kernel
theorem dX7_wipe_4 : decode cX7_wipe 4 = .ok (.istore_n 1, 1) := by decide +kernel
theorem dX7_wipe_5 : decode cX7_wipe 5 = .ok (.aload_n 0, 1) := by decide +kernel
theorem dX7_wipe_6 : decode cX7_wipe 6 = .ok (.iconst 0, 1) := by decide +kernel
theorem dX7_wipe_7 : decode cX7_wipe 7 = .ok (.putfield 153, 3) := by decide +kernel
theorem dX7_wipe_10 : decode cX7_wipe 10 = .ok (.iload_n 1, 1) := by decide +kernel
theorem dX7_wipe_11 : decode cX7_wipe 11 = .ok (.ireturn, 1) := by decide +kernel
theorem dX7_charAt_0 : decode cX7_charAt 0 = .ok (.iload_n 1, 1) := by decide +kernel
theorem dX7_charAt_1 : decode cX7_charAt 1 = .ok (.aload_n 0, 1) := by decide +kernel
theorem dX7_charAt_2 : decode cX7_charAt 2 = .ok (.getfield 153, 3) := by decide +kernel
theorem dX7_charAt_5 : decode cX7_charAt 5 = .ok (.if_icmp .ge 12, 3) := by decide +kernel
theorem dX7_charAt_8 : decode cX7_charAt 8 = .ok (.aload_n 0, 1) := by decide +kernel
theorem dX7_charAt_9 : decode cX7_charAt 9 = .ok (.getfield 26, 3) := by decide +kernel
theorem dX7_charAt_12 : decode cX7_charAt 12 = .ok (.iload_n 1, 1) := by decide +kernel
theorem dX7_charAt_13 : decode cX7_charAt 13 = .ok (.iaload, 1) := by decide +kernel
theorem dX7_charAt_14 : decode cX7_charAt 14 = .ok (.goto 4, 3) := by decide +kernel
theorem dX7_charAt_17 : decode cX7_charAt 17 = .ok (.iconst 0, 1) := by decide +kernel
theorem dX7_charAt_18 : decode cX7_charAt 18 = .ok (.ireturn, 1) := by decide +kernel
def ch_wsX7_digitAt : List (List Cond) := [[.code yX7_digitAt cX7_digitAt 2 (some .int)], [.methodLink RX7 161 yX7_charAt, .instanceMethod yX7_charAt, .selects RX7 yX7_charAt yX7_charAt, .initialized RX7, .code yX7_charAt cX7_charAt 2 (some .int), .fieldLink RX7 153 "TailorChalksModel" "length" "I", .fieldLink RX7 26 "TailorChalksModel" "pad" "[I"], wsX70]
set_option maxRecDepth 20000 in
theorem hf_wsX7_digitAt : wsX7_digitAt = (ch_wsX7_digitAt).flatten := rfl
set_option maxRecDepth 20000 in
theorem hg_wsX7_digitAt : (wsX7_digitAt).all goodWord = true := by decide +kernel
set_option maxRecDepth 20000 in
theorem gX7_digitAt_X7_charAt : GoodIn wsX7_digitAt (wsV RX7 161 RX7 yX7_charAt wsX7_charAt) := goodIn_c ch_wsX7_digitAt hf_wsX7_digitAt hg_wsX7_digitAt _ [(1, 0), (1, 1), (1, 2), (1, 3), (1, 4), (1, 5), (1, 6), (2, 0), (2, 1), (2, 2), (2, 3), (2, 4), (2, 5), (2, 6), (2, 7), (2, 8)] rfl
theorem dX7_digitAt_0 : decode cX7_digitAt 0 = .ok (.aload_n 0, 1) := by decide +kernel
theorem dX7_digitAt_1 : decode cX7_digitAt 1 = .ok (.iload_n 1, 1) := by decide +kernel
theorem dX7_digitAt_2 : decode cX7_digitAt 2 = .ok (.invokevirtual 161, 3) := by decide +kernel
theorem dX7_digitAt_5 : decode cX7_digitAt 5 = .ok (.bipush 48, 2) := by decide +kernel
theorem dX7_digitAt_7 : decode cX7_digitAt 7 = .ok (.isub, 1) := by decide +kernel
theorem dX7_digitAt_8 : decode cX7_digitAt 8 = .ok (.ireturn, 1) := by decide +kernel
def ch_wsX7_behindOrder : List (List Cond) := [[.code yX7_behindOrder cX7_behindOrder 3 (some .int)], [.methodLink RX7 161 yX7_charAt, .instanceMethod yX7_charAt, .selects RX7 yX7_charAt yX7_charAt, .initialized RX7, .code yX7_charAt cX7_charAt 2 (some .int), .fieldLink RX7 153 "TailorChalksModel" "length" "I", .fieldLink RX7 26 "TailorChalksModel" "pad" "[I", .methodLink RX7 164 yX7_digitAt, .instanceMethod yX7_digitAt, .selects RX7 yX7_digitAt yX7_digitAt, .code yX7_digitAt cX7_digitAt 2 (some .int), .methodLink RX7 36 yX7_in, .static yX7_in, .code yX7_in cX7_in 3 (some .boolean)], wsX70]
set_option maxRecDepth 20000 in
theorem hf_wsX7_behindOrder : wsX7_behindOrder = (ch_wsX7_behindOrder).flatten := rfl
set_option maxRecDepth 20000 in
theorem hg_wsX7_behindOrder : (wsX7_behindOrder).all goodWord = true := by decide +kernel
set_option maxRecDepth 20000 in
theorem gX7_behindOrder_X7_charAt : GoodIn wsX7_behindOrder (wsV RX7 161 RX7 yX7_charAt wsX7_charAt) := goodIn_c ch_wsX7_behindOrder hf_wsX7_behindOrder hg_wsX7_behindOrder _ [(1, 0), (1, 1), (1, 2), (1, 3), (1, 4), (1, 5), (1, 6), (2, 0), (2, 1), (2, 2), (2, 3), (2, 4), (2, 5), (2, 6), (2, 7), (2, 8)] rfl
set_option maxRecDepth 20000 in
theorem gX7_behindOrder_X7_digitAt : GoodIn wsX7_behindOrder (wsV RX7 164 RX7 yX7_digitAt wsX7_digitAt) := goodIn_c ch_wsX7_behindOrder hf_wsX7_behindOrder hg_wsX7_behindOrder _ [(1, 7), (1, 8), (1, 9), (1, 3), (1, 10), (1, 0), (1, 1), (1, 2), (1, 3), (1, 4), (1, 5), (1, 6), (2, 0), (2, 1), (2, 2), (2, 3), (2, 4), (2, 5), (2, 6), (2, 7), (2, 8)] rfl
set_option maxRecDepth 20000 in
theorem gX7_behindOrder_X7_in : GoodIn wsX7_behindOrder (va_wsS RX7 36 yX7_in wsX7_in) := goodIn_c ch_wsX7_behindOrder hf_wsX7_behindOrder hg_wsX7_behindOrder _ [(1, 11), (1, 12), (1, 3), (1, 13)] rfl
theorem dX7_behindOrder_0 : decode cX7_behindOrder 0 = .ok (.aload_n 0, 1) := by decide +kernel
theorem dX7_behindOrder_1 : decode cX7_behindOrder 1 = .ok (.iload_n 1, 1) := by decide +kernel
theorem dX7_behindOrder_2 : decode cX7_behindOrder 2 = .ok (.invokevirtual 161, 3) := by decide +kernel
theorem dX7_behindOrder_5 : decode cX7_behindOrder 5 = .ok (.istore_n 2, 1) := by decide +kernel
theorem dX7_behindOrder_6 : decode cX7_behindOrder 6 = .ok (.iload_n 2, 1) := by decide +kernel
theorem dX7_behindOrder_7 : decode cX7_behindOrder 7 = .ok (.bipush 112, 2) := by decide +kernel
theorem dX7_behindOrder_9 : decode cX7_behindOrder 9 = .ok (.if_icmp .ne 7, 3) := by decide +kernel
theorem dX7_behindOrder_12 : decode cX7_behindOrder 12 = .ok (.iload_n 1, 1) := by decide +kernel
theorem dX7_behindOrder_13 : decode cX7_behindOrder 13 = .ok (.iconst 1, 1) := by decide +kernel
theorem dX7_behindOrder_14 : decode cX7_behindOrder 14 = .ok (.iadd, 1) := by decide +kernel
theorem dX7_behindOrder_15 : decode cX7_behindOrder 15 = .ok (.ireturn, 1) := by decide +kernel
theorem dX7_behindOrder_16 : decode cX7_behindOrder 16 = .ok (.iload_n 2, 1) := by decide +kernel
theorem dX7_behindOrder_17 : decode cX7_behindOrder 17 = .ok (.bipush 99, 2) := by decide +kernel
theorem dX7_behindOrder_19 : decode cX7_behindOrder 19 = .ok (.if_icmp .eq 31, 3) := by decide +kernel
theorem dX7_behindOrder_22 : decode cX7_behindOrder 22 = .ok (.iload_n 2, 1) := by decide +kernel
theorem dX7_behindOrder_23 : decode cX7_behindOrder 23 = .ok (.bipush 115, 2) := by decide +kernel
theorem dX7_behindOrder_25 : decode cX7_behindOrder 25 = .ok (.if_icmp .eq 25, 3) := by decide +kernel
theorem dX7_behindOrder_28 : decode cX7_behindOrder 28 = .ok (.iload_n 2, 1) := by decide +kernel
theorem dX7_behindOrder_29 : decode cX7_behindOrder 29 = .ok (.bipush 119, 2) := by decide +kernel
theorem dX7_behindOrder_31 : decode cX7_behindOrder 31 = .ok (.if_icmp .eq 19, 3) := by decide +kernel
theorem dX7_behindOrder_34 : decode cX7_behindOrder 34 = .ok (.iload_n 2, 1) := by decide +kernel
theorem dX7_behindOrder_35 : decode cX7_behindOrder 35 = .ok (.bipush 98, 2) := by decide +kernel
theorem dX7_behindOrder_37 : decode cX7_behindOrder 37 = .ok (.if_icmp .eq 13, 3) := by decide +kernel
theorem dX7_behindOrder_40 : decode cX7_behindOrder 40 = .ok (.iload_n 2, 1) := by decide +kernel
theorem dX7_behindOrder_41 : decode cX7_behindOrder 41 = .ok (.bipush 100, 2) := by decide +kernel
theorem dX7_behindOrder_43 : decode cX7_behindOrder 43 = .ok (.if_icmp .eq 7, 3) := by decide +kernel
theorem dX7_behindOrder_46 : decode cX7_behindOrder 46 = .ok (.iconst (-1), 1) := by decide +kernel
theorem dX7_behindOrder_47 : decode cX7_behindOrder 47 = .ok (.iload_n 1, 1) := by decide +kernel
theorem dX7_behindOrder_48 : decode cX7_behindOrder 48 = .ok (.isub, 1) := by decide +kernel
theorem dX7_behindOrder_49 : decode cX7_behindOrder 49 = .ok (.ireturn, 1) := by decide +kernel
theorem dX7_behindOrder_50 : decode cX7_behindOrder 50 = .ok (.aload_n 0, 1) := by decide +kernel
theorem dX7_behindOrder_51 : decode cX7_behindOrder 51 = .ok (.iload_n 1, 1) := by decide +kernel
theorem dX7_behindOrder_52 : decode cX7_behindOrder 52 = .ok (.iconst 1, 1) := by decide +kernel
theorem dX7_behindOrder_53 : decode cX7_behindOrder 53 = .ok (.iadd, 1) := by decide +kernel
theorem dX7_behindOrder_54 : decode cX7_behindOrder 54 = .ok (.invokevirtual 164, 3) := by decide +kernel
theorem dX7_behindOrder_57 : decode cX7_behindOrder 57 = .ok (.iconst 0, 1) := by decide +kernel
theorem dX7_behindOrder_58 : decode cX7_behindOrder 58 = .ok (.bipush 9, 2) := by decide +kernel
theorem dX7_behindOrder_60 : decode cX7_behindOrder 60 = .ok (.invokestatic 36, 3) := by decide +kernel
theorem dX7_behindOrder_63 : decode cX7_behindOrder 63 = .ok (.ifCond .ne 8, 3) := by decide +kernel
theorem dX7_behindOrder_66 : decode cX7_behindOrder 66 = .ok (.bipush (-2), 2) := by decide +kernel
theorem dX7_behindOrder_68 : decode cX7_behindOrder 68 = .ok (.iload_n 1, 1) := by decide +kernel
theorem dX7_behindOrder_69 : decode cX7_behindOrder 69 = .ok (.isub, 1) := by decide +kernel
theorem dX7_behindOrder_70 : decode cX7_behindOrder 70 = .ok (.ireturn, 1) := by decide +kernel
theorem dX7_behindOrder_71 : decode cX7_behindOrder 71 = .ok (.aload_n 0, 1) := by decide +kernel
theorem dX7_behindOrder_72 : decode cX7_behindOrder 72 = .ok (.iload_n 1, 1) := by decide +kernel
theorem dX7_behindOrder_73 : decode cX7_behindOrder 73 = .ok (.iconst 1, 1) := by decide +kernel
theorem dX7_behindOrder_74 : decode cX7_behindOrder 74 = .ok (.iadd, 1) := by decide +kernel
theorem dX7_behindOrder_75 : decode cX7_behindOrder 75 = .ok (.invokevirtual 164, 3) := by decide +kernel
theorem dX7_behindOrder_78 : decode cX7_behindOrder 78 = .ok (.ifCond .le 25, 3) := by decide +kernel
theorem dX7_behindOrder_81 : decode cX7_behindOrder 81 = .ok (.aload_n 0, 1) := by decide +kernel
theorem dX7_behindOrder_82 : decode cX7_behindOrder 82 = .ok (.iload_n 1, 1) := by decide +kernel
theorem dX7_behindOrder_83 : decode cX7_behindOrder 83 = .ok (.iconst 2, 1) := by decide +kernel
theorem dX7_behindOrder_84 : decode cX7_behindOrder 84 = .ok (.iadd, 1) := by decide +kernel
theorem dX7_behindOrder_85 : decode cX7_behindOrder 85 = .ok (.invokevirtual 164, 3) := by decide +kernel
theorem dX7_behindOrder_88 : decode cX7_behindOrder 88 = .ok (.iconst 0, 1) := by decide +kernel
theorem dX7_behindOrder_89 : decode cX7_behindOrder 89 = .ok (.bipush 9, 2) := by decide +kernel
theorem dX7_behindOrder_91 : decode cX7_behindOrder 91 = .ok (.invokestatic 36, 3) := by decide +kernel
theorem dX7_behindOrder_94 : decode cX7_behindOrder 94 = .ok (.ifCond .eq 9, 3) := by decide +kernel
theorem dX7_behindOrder_97 : decode cX7_behindOrder 97 = .ok (.iload_n 1, 1) := by decide +kernel
theorem dX7_behindOrder_98 : decode cX7_behindOrder 98 = .ok (.iconst 3, 1) := by decide +kernel
theorem dX7_behindOrder_99 : decode cX7_behindOrder 99 = .ok (.iadd, 1) := by decide +kernel
theorem dX7_behindOrder_100 : decode cX7_behindOrder 100 = .ok (.goto 6, 3) := by decide +kernel
theorem dX7_behindOrder_103 : decode cX7_behindOrder 103 = .ok (.iload_n 1, 1) := by decide +kernel
theorem dX7_behindOrder_104 : decode cX7_behindOrder 104 = .ok (.iconst 2, 1) := by decide +kernel
theorem dX7_behindOrder_105 : decode cX7_behindOrder 105 = .ok (.iadd, 1) := by decide +kernel
theorem dX7_behindOrder_106 : decode cX7_behindOrder 106 = .ok (.ireturn, 1) := by decide +kernel
def ch_wsX7_wrong : List (List Cond) := [[.code yX7_wrong cX7_wrong 3 (some .int)], [.fieldLink RX7 153 "TailorChalksModel" "length" "I", .fieldLink RX7 26 "TailorChalksModel" "pad" "[I", .methodLink RX7 167 yX7_behindOrder, .instanceMethod yX7_behindOrder, .selects RX7 yX7_behindOrder yX7_behindOrder, .initialized RX7, .code yX7_behindOrder cX7_behindOrder 3 (some .int), .methodLink RX7 161 yX7_charAt, .instanceMethod yX7_charAt, .selects RX7 yX7_charAt yX7_charAt, .code yX7_charAt cX7_charAt 2 (some .int), .methodLink RX7 164 yX7_digitAt, .instanceMethod yX7_digitAt, .selects RX7 yX7_digitAt yX7_digitAt, .code yX7_digitAt cX7_digitAt 2 (some .int), .methodLink RX7 36 yX7_in, .static yX7_in, .code yX7_in cX7_in 3 (some .boolean)], wsX70]
set_option maxRecDepth 20000 in
theorem hf_wsX7_wrong : wsX7_wrong = (ch_wsX7_wrong).flatten := rfl
set_option maxRecDepth 20000 in
theorem hg_wsX7_wrong : (wsX7_wrong).all goodWord = true := by decide +kernel
set_option maxRecDepth 20000 in
theorem gX7_wrong_X7_behindOrder : GoodIn wsX7_wrong (wsV RX7 167 RX7 yX7_behindOrder wsX7_behindOrder) := goodIn_c ch_wsX7_wrong hf_wsX7_wrong hg_wsX7_wrong _ [(1, 2), (1, 3), (1, 4), (1, 5), (1, 6), (1, 7), (1, 8), (1, 9), (1, 5), (1, 10), (1, 0), (1, 1), (1, 11), (1, 12), (1, 13), (1, 14), (1, 15), (1, 16), (1, 17), (2, 0), (2, 1), (2, 2), (2, 3), (2, 4), (2, 5), (2, 6), (2, 7), (2, 8)] rfl
theorem dX7_wrong_0 : decode cX7_wrong 0 = .ok (.iconst 0, 1) := by decide +kernel
theorem dX7_wrong_1 : decode cX7_wrong 1 = .ok (.istore_n 1, 1) := by decide +kernel
theorem dX7_wrong_2 : decode cX7_wrong 2 = .ok (.iconst 1, 1) := by decide +kernel
theorem dX7_wrong_3 : decode cX7_wrong 3 = .ok (.istore_n 2, 1) := by decide +kernel
theorem dX7_wrong_4 : decode cX7_wrong 4 = .ok (.iload_n 2, 1) := by decide +kernel
theorem dX7_wrong_5 : decode cX7_wrong 5 = .ok (.ifCond .eq 63, 3) := by decide +kernel
theorem dX7_wrong_8 : decode cX7_wrong 8 = .ok (.aload_n 0, 1) := by decide +kernel
theorem dX7_wrong_9 : decode cX7_wrong 9 = .ok (.iload_n 1, 1) := by decide +kernel
theorem dX7_wrong_10 : decode cX7_wrong 10 = .ok (.invokevirtual 167, 3) := by decide +kernel
theorem dX7_wrong_13 : decode cX7_wrong 13 = .ok (.istore_n 1, 1) := by decide +kernel
theorem dX7_wrong_14 : decode cX7_wrong 14 = .ok (.iload_n 1, 1) := by decide +kernel
theorem dX7_wrong_15 : decode cX7_wrong 15 = .ok (.ifCond .ge 7, 3) := by decide +kernel
theorem dX7_wrong_18 : decode cX7_wrong 18 = .ok (.iconst (-1), 1) := by decide +kernel
theorem dX7_wrong_19 : decode cX7_wrong 19 = .ok (.iload_n 1, 1) := by decide +kernel
theorem dX7_wrong_20 : decode cX7_wrong 20 = .ok (.isub, 1) := by decide +kernel
theorem dX7_wrong_21 : decode cX7_wrong 21 = .ok (.ireturn, 1) := by decide +kernel
theorem dX7_wrong_22 : decode cX7_wrong 22 = .ok (.iload_n 1, 1) := by decide +kernel
theorem dX7_wrong_23 : decode cX7_wrong 23 = .ok (.aload_n 0, 1) := by decide +kernel
theorem dX7_wrong_24 : decode cX7_wrong 24 = .ok (.getfield 153, 3) := by decide +kernel
theorem dX7_wrong_27 : decode cX7_wrong 27 = .ok (.if_icmp .ge 7, 3) := by decide +kernel
theorem dX7_wrong_30 : decode cX7_wrong 30 = .ok (.iconst 1, 1) := by decide +kernel
theorem dX7_wrong_31 : decode cX7_wrong 31 = .ok (.goto 4, 3) := by decide +kernel
theorem dX7_wrong_34 : decode cX7_wrong 34 = .ok (.iconst 0, 1) := by decide +kernel
theorem dX7_wrong_35 : decode cX7_wrong 35 = .ok (.istore_n 2, 1) := by decide +kernel
theorem dX7_wrong_36 : decode cX7_wrong 36 = .ok (.iload_n 2, 1) := by decide +kernel
theorem dX7_wrong_37 : decode cX7_wrong 37 = .ok (.ifCond .eq 16, 3) := by decide +kernel
theorem dX7_wrong_40 : decode cX7_wrong 40 = .ok (.aload_n 0, 1) := by decide +kernel
theorem dX7_wrong_41 : decode cX7_wrong 41 = .ok (.getfield 26, 3) := by decide +kernel
theorem dX7_wrong_44 : decode cX7_wrong 44 = .ok (.iload_n 1, 1) := by decide +kernel
theorem dX7_wrong_45 : decode cX7_wrong 45 = .ok (.iaload, 1) := by decide +kernel
theorem dX7_wrong_46 : decode cX7_wrong 46 = .ok (.bipush 59, 2) := by decide +kernel
theorem dX7_wrong_48 : decode cX7_wrong 48 = .ok (.if_icmp .eq 5, 3) := by decide +kernel
theorem dX7_wrong_51 : decode cX7_wrong 51 = .ok (.iload_n 1, 1) := by decide +kernel
theorem dX7_wrong_52 : decode cX7_wrong 52 = .ok (.ireturn, 1) := by decide +kernel
theorem dX7_wrong_53 : decode cX7_wrong 53 = .ok (.iload_n 1, 1) := by decide +kernel
theorem dX7_wrong_54 : decode cX7_wrong 54 = .ok (.iload_n 2, 1) := by decide +kernel
theorem dX7_wrong_55 : decode cX7_wrong 55 = .ok (.ifCond .eq 7, 3) := by decide +kernel
theorem dX7_wrong_58 : decode cX7_wrong 58 = .ok (.iconst 1, 1) := by decide +kernel
theorem dX7_wrong_59 : decode cX7_wrong 59 = .ok (.goto 4, 3) := by decide +kernel
theorem dX7_wrong_62 : decode cX7_wrong 62 = .ok (.iconst 0, 1) := by decide +kernel
theorem dX7_wrong_63 : decode cX7_wrong 63 = .ok (.iadd, 1) := by decide +kernel
theorem dX7_wrong_64 : decode cX7_wrong 64 = .ok (.istore_n 1, 1) := by decide +kernel
theorem dX7_wrong_65 : decode cX7_wrong 65 = .ok (.goto (-61), 3) := by decide +kernel
theorem dX7_wrong_68 : decode cX7_wrong 68 = .ok (.bipush (-6), 2) := by decide +kernel
theorem dX7_wrong_70 : decode cX7_wrong 70 = .ok (.ireturn, 1) := by decide +kernel
def ch_wsX7_fault : List (List Cond) := [[.code yX7_fault cX7_fault 1 (some .int)], [.methodLink RX7 170 yX7_wrong, .instanceMethod yX7_wrong, .selects RX7 yX7_wrong yX7_wrong, .initialized RX7, .code yX7_wrong cX7_wrong 3 (some .int), .fieldLink RX7 153 "TailorChalksModel" "length" "I", .fieldLink RX7 26 "TailorChalksModel" "pad" "[I", .methodLink RX7 167 yX7_behindOrder, .instanceMethod yX7_behindOrder, .selects RX7 yX7_behindOrder yX7_behindOrder, .code yX7_behindOrder cX7_behindOrder 3 (some .int), .methodLink RX7 161 yX7_charAt, .instanceMethod yX7_charAt, .selects RX7 yX7_charAt yX7_charAt, .code yX7_charAt cX7_charAt 2 (some .int), .methodLink RX7 164 yX7_digitAt, .instanceMethod yX7_digitAt, .selects RX7 yX7_digitAt yX7_digitAt, .code yX7_digitAt cX7_digitAt 2 (some .int), .methodLink RX7 36 yX7_in, .static yX7_in, .code yX7_in cX7_in 3 (some .boolean)], wsX70]
set_option maxRecDepth 20000 in
theorem hf_wsX7_fault : wsX7_fault = (ch_wsX7_fault).flatten := rfl
set_option maxRecDepth 20000 in
theorem hg_wsX7_fault : (wsX7_fault).all goodWord = true := by decide +kernel
set_option maxRecDepth 20000 in
theorem gX7_fault_X7_wrong : GoodIn wsX7_fault (wsV RX7 170 RX7 yX7_wrong wsX7_wrong) := goodIn_c ch_wsX7_fault hf_wsX7_fault hg_wsX7_fault _ [(1, 0), (1, 1), (1, 2), (1, 3), (1, 4), (1, 5), (1, 6), (1, 7), (1, 8), (1, 9), (1, 3), (1, 10), (1, 11), (1, 12), (1, 13), (1, 14), (1, 15), (1, 16), (1, 17), (1, 18), (1, 19), (1, 20), (1, 21), (2, 0), (2, 1), (2, 2), (2, 3), (2, 4), (2, 5), (2, 6), (2, 7), (2, 8)] rfl
theorem dX7_fault_0 : decode cX7_fault 0 = .ok (.aload_n 0, 1) := by decide +kernel
theorem dX7_fault_1 : decode cX7_fault 1 = .ok (.invokevirtual 170, 3) := by decide +kernel
theorem dX7_fault_4 : decode cX7_fault 4 = .ok (.ireturn, 1) := by decide +kernel
def ch_wsX7_carryOut : List (List Cond) := [[.code yX7_carryOut cX7_carryOut 6 (some .int)], wsX7_carryOut_r1, wsX7_carryOut_r2, wsX7_carryOut_r3, wsX7_carryOut_r4, wsX7_carryOut_r5, wsX7_carryOut_r6, wsX70]
set_option maxRecDepth 20000 in
theorem hf_wsX7_carryOut : wsX7_carryOut = (ch_wsX7_carryOut).flatten := rfl
set_option maxRecDepth 20000 in
theorem hg_wsX7_carryOut : (wsX7_carryOut).all goodWord = true := by decide +kernel
set_option maxRecDepth 20000 in
theorem gX7_carryOut_X7_wrong : GoodIn wsX7_carryOut (wsV RX7 170 RX7 yX7_wrong wsX7_wrong) := goodIn_c ch_wsX7_carryOut hf_wsX7_carryOut hg_wsX7_carryOut _ [(1, 1), (1, 2), (1, 3), (1, 4), (1, 5), (1, 0), (1, 6), (1, 7), (1, 8), (1, 9), (1, 4), (1, 10), (1, 11), (1, 12), (1, 13), (1, 14), (1, 15), (1, 16), (1, 17), (1, 18), (1, 19), (1, 20), (1, 21), (7, 0), (7, 1), (7, 2), (7, 3), (7, 4), (7, 5), (7, 6), (7, 7), (7, 8)] rfl
set_option maxRecDepth 20000 in
theorem gX7_carryOut_X7_looks : GoodIn wsX7_carryOut (wsV RX7 126 RX7 yX7_looks wsX7_looks) := goodIn_c ch_wsX7_carryOut hf_wsX7_carryOut hg_wsX7_carryOut _ [(1, 22), (1, 23), (2, 0), (1, 4), (2, 1), (2, 2), (2, 3), (7, 0), (7, 1), (7, 2), (7, 3), (7, 4), (7, 5), (7, 6), (7, 7), (7, 8)] rfl
set_option maxRecDepth 20000 in
theorem gX7_carryOut_X7_records : GoodIn wsX7_carryOut (wsV RX7 132 RX7 yX7_records wsX7_records) := goodIn_c ch_wsX7_carryOut hf_wsX7_carryOut hg_wsX7_carryOut _ [(2, 4), (2, 5), (2, 6), (1, 4), (2, 7), (2, 8), (2, 9), (2, 2), (7, 0), (7, 1), (7, 2), (7, 3), (7, 4), (7, 5), (7, 6), (7, 7), (7, 8)] rfl
set_option maxRecDepth 20000 in
theorem gX7_carryOut_X7_behindOrder : GoodIn wsX7_carryOut (wsV RX7 167 RX7 yX7_behindOrder wsX7_behindOrder) := goodIn_c ch_wsX7_carryOut hf_wsX7_carryOut hg_wsX7_carryOut _ [(1, 7), (1, 8), (1, 9), (1, 4), (1, 10), (1, 11), (1, 12), (1, 13), (1, 4), (1, 14), (1, 0), (1, 6), (1, 15), (1, 16), (1, 17), (1, 18), (1, 19), (1, 20), (1, 21), (7, 0), (7, 1), (7, 2), (7, 3), (7, 4), (7, 5), (7, 6), (7, 7), (7, 8)] rfl
set_option maxRecDepth 20000 in
theorem gX7_carryOut_X7_digitAt : GoodIn wsX7_carryOut (wsV RX7 164 RX7 yX7_digitAt wsX7_digitAt) := goodIn_c ch_wsX7_carryOut hf_wsX7_carryOut hg_wsX7_carryOut _ [(1, 15), (1, 16), (1, 17), (1, 4), (1, 18), (1, 11), (1, 12), (1, 13), (1, 4), (1, 14), (1, 0), (1, 6), (7, 0), (7, 1), (7, 2), (7, 3), (7, 4), (7, 5), (7, 6), (7, 7), (7, 8)] rfl
set_option maxRecDepth 20000 in
theorem gX7_carryOut_X7_charAt : GoodIn wsX7_carryOut (wsV RX7 161 RX7 yX7_charAt wsX7_charAt) := goodIn_c ch_wsX7_carryOut hf_wsX7_carryOut hg_wsX7_carryOut _ [(1, 11), (1, 12), (1, 13), (1, 4), (1, 14), (1, 0), (1, 6), (7, 0), (7, 1), (7, 2), (7, 3), (7, 4), (7, 5), (7, 6), (7, 7), (7, 8)] rfl
set_option maxRecDepth 20000 in
theorem gX7_carryOut_X7_does : GoodIn wsX7_carryOut (wsV RX7 129 RX7 yX7_does wsX7_does) := goodIn_c ch_wsX7_carryOut hf_wsX7_carryOut hg_wsX7_carryOut _ [(2, 10), (2, 11), (2, 12), (1, 4), (2, 13), (2, 14), (2, 15), (2, 16), (1, 4), (2, 17), (2, 3), (2, 18), (2, 19), (2, 20), (1, 19), (1, 20), (1, 21), (2, 21), (2, 22), (2, 23), (3, 0), (3, 1), (3, 2), (3, 3), (3, 4), (3, 5), (3, 6), (3, 7), (3, 8), (3, 9), (3, 10), (3, 11), (3, 12), (3, 13), (3, 14), (3, 15), (3, 16), (3, 17), (3, 18), (3, 19), (3, 20), (3, 21), (3, 22), (3, 23), (4, 0), (4, 1), (4, 2), (4, 3), (4, 4), (4, 5), (4, 6), (4, 7), (4, 8), (4, 9), (4, 10), (4, 11), (4, 12), (4, 13), (4, 14), (4, 15), (4, 16), (4, 17), (4, 18), (4, 19), (4, 20), (4, 21), (4, 22), (4, 23), (5, 0), (5, 1), (5, 2), (5, 3), (5, 4), (5, 5), (5, 6), (5, 7), (5, 8), (5, 9), (5, 10), (5, 11), (5, 12), (5, 13), (5, 14), (5, 15), (5, 16), (5, 17), (5, 18), (5, 19), (5, 20), (5, 21), (5, 22), (5, 23), (6, 0), (6, 1), (6, 2), (6, 3), (6, 4), (6, 5), (6, 6), (6, 7), (6, 8), (6, 9), (6, 10), (6, 11), (6, 12), (6, 13), (6, 14), (6, 15), (6, 16), (6, 17), (6, 18), (7, 0), (7, 1), (7, 2), (7, 3), (7, 4), (7, 5), (7, 6), (7, 7), (7, 8)] rfl
theorem dX7_carryOut_0 : decode cX7_carryOut 0 = .ok (.aload_n 0, 1) := by decide +kernel
theorem dX7_carryOut_1 : decode cX7_carryOut 1 = .ok (.invokevirtual 170, 3) := by decide +kernel
theorem dX7_carryOut_4 : decode cX7_carryOut 4 = .ok (.bipush (-6), 2) := by decide +kernel
theorem dX7_carryOut_6 : decode cX7_carryOut 6 = .ok (.if_icmp .eq 6, 3) := by decide +kernel
theorem dX7_carryOut_9 : decode cX7_carryOut 9 = .ok (.bipush (-3), 2) := by decide +kernel
theorem dX7_carryOut_11 : decode cX7_carryOut 11 = .ok (.ireturn, 1) := by decide +kernel
theorem dX7_carryOut_12 : decode cX7_carryOut 12 = .ok (.aload_n 0, 1) := by decide +kernel
theorem dX7_carryOut_13 : decode cX7_carryOut 13 = .ok (.invokevirtual 126, 3) := by decide +kernel
theorem dX7_carryOut_16 : decode cX7_carryOut 16 = .ok (.aload_n 0, 1) := by decide +kernel
theorem dX7_carryOut_17 : decode cX7_carryOut 17 = .ok (.invokevirtual 132, 3) := by decide +kernel
theorem dX7_carryOut_20 : decode cX7_carryOut 20 = .ok (.iconst 0, 1) := by decide +kernel
theorem dX7_carryOut_21 : decode cX7_carryOut 21 = .ok (.istore_n 1, 1) := by decide +kernel
theorem dX7_carryOut_22 : decode cX7_carryOut 22 = .ok (.iconst 0, 1) := by decide +kernel
theorem dX7_carryOut_23 : decode cX7_carryOut 23 = .ok (.istore_n 2, 1) := by decide +kernel
theorem dX7_carryOut_24 : decode cX7_carryOut 24 = .ok (.iconst 1, 1) := by decide +kernel
theorem dX7_carryOut_25 : decode cX7_carryOut 25 = .ok (.istore_n 3, 1) := by decide +kernel
theorem dX7_carryOut_26 : decode cX7_carryOut 26 = .ok (.iload_n 3, 1) := by decide +kernel
theorem dX7_carryOut_27 : decode cX7_carryOut 27 = .ok (.ifCond .eq 96, 3) := by decide +kernel
theorem dX7_carryOut_30 : decode cX7_carryOut 30 = .ok (.iload_n 2, 1) := by decide +kernel
theorem dX7_carryOut_31 : decode cX7_carryOut 31 = .ok (.aload_n 0, 1) := by decide +kernel
theorem dX7_carryOut_32 : decode cX7_carryOut 32 = .ok (.getfield 153, 3) := by decide +kernel
theorem dX7_carryOut_35 : decode cX7_carryOut 35 = .ok (.if_icmp .ge 88, 3) := by decide +kernel
theorem dX7_carryOut_38 : decode cX7_carryOut 38 = .ok (.aload_n 0, 1) := by decide +kernel
theorem dX7_carryOut_39 : decode cX7_carryOut 39 = .ok (.iload_n 2, 1) := by decide +kernel
theorem dX7_carryOut_40 : decode cX7_carryOut 40 = .ok (.invokevirtual 167, 3) := by decide +kernel
theorem dX7_carryOut_43 : decode cX7_carryOut 43 = .ok (.istore 4, 2) := by decide +kernel
theorem dX7_carryOut_45 : decode cX7_carryOut 45 = .ok (.iload 4, 2) := by decide +kernel
theorem dX7_carryOut_47 : decode cX7_carryOut 47 = .ok (.iload_n 2, 1) := by decide +kernel
theorem dX7_carryOut_48 : decode cX7_carryOut 48 = .ok (.iconst 3, 1) := by decide +kernel
theorem dX7_carryOut_49 : decode cX7_carryOut 49 = .ok (.iadd, 1) := by decide +kernel
theorem dX7_carryOut_50 : decode cX7_carryOut 50 = .ok (.if_icmp .ne 24, 3) := by decide +kernel
theorem dX7_carryOut_53 : decode cX7_carryOut 53 = .ok (.bipush 10, 2) := by decide +kernel
theorem dX7_carryOut_55 : decode cX7_carryOut 55 = .ok (.aload_n 0, 1) := by decide +kernel
theorem dX7_carryOut_56 : decode cX7_carryOut 56 = .ok (.iload_n 2, 1) := by decide +kernel
theorem dX7_carryOut_57 : decode cX7_carryOut 57 = .ok (.iconst 1, 1) := by decide +kernel
theorem dX7_carryOut_58 : decode cX7_carryOut 58 = .ok (.iadd, 1) := by decide +kernel
theorem dX7_carryOut_59 : decode cX7_carryOut 59 = .ok (.invokevirtual 164, 3) := by decide +kernel
theorem dX7_carryOut_62 : decode cX7_carryOut 62 = .ok (.imul, 1) := by decide +kernel
theorem dX7_carryOut_63 : decode cX7_carryOut 63 = .ok (.aload_n 0, 1) := by decide +kernel
theorem dX7_carryOut_64 : decode cX7_carryOut 64 = .ok (.iload_n 2, 1) := by decide +kernel
theorem dX7_carryOut_65 : decode cX7_carryOut 65 = .ok (.iconst 2, 1) := by decide +kernel
theorem dX7_carryOut_66 : decode cX7_carryOut 66 = .ok (.iadd, 1) := by decide +kernel
theorem dX7_carryOut_67 : decode cX7_carryOut 67 = .ok (.invokevirtual 164, 3) := by decide +kernel
theorem dX7_carryOut_70 : decode cX7_carryOut 70 = .ok (.iadd, 1) := by decide +kernel
theorem dX7_carryOut_71 : decode cX7_carryOut 71 = .ok (.goto 10, 3) := by decide +kernel
theorem dX7_carryOut_74 : decode cX7_carryOut 74 = .ok (.aload_n 0, 1) := by decide +kernel
theorem dX7_carryOut_75 : decode cX7_carryOut 75 = .ok (.iload_n 2, 1) := by decide +kernel
theorem dX7_carryOut_76 : decode cX7_carryOut 76 = .ok (.iconst 1, 1) := by decide +kernel
theorem dX7_carryOut_77 : decode cX7_carryOut 77 = .ok (.iadd, 1) := by decide +kernel
theorem dX7_carryOut_78 : decode cX7_carryOut 78 = .ok (.invokevirtual 164, 3) := by decide +kernel
theorem dX7_carryOut_81 : decode cX7_carryOut 81 = .ok (.istore 5, 2) := by decide +kernel
theorem dX7_carryOut_83 : decode cX7_carryOut 83 = .ok (.aload_n 0, 1) := by decide +kernel
theorem dX7_carryOut_84 : decode cX7_carryOut 84 = .ok (.aload_n 0, 1) := by decide +kernel
theorem dX7_carryOut_85 : decode cX7_carryOut 85 = .ok (.iload_n 2, 1) := by decide +kernel
theorem dX7_carryOut_86 : decode cX7_carryOut 86 = .ok (.invokevirtual 161, 3) := by decide +kernel
theorem dX7_carryOut_89 : decode cX7_carryOut 89 = .ok (.iload 5, 2) := by decide +kernel
theorem dX7_carryOut_91 : decode cX7_carryOut 91 = .ok (.invokevirtual 129, 3) := by decide +kernel
theorem dX7_carryOut_94 : decode cX7_carryOut 94 = .ok (.ifCond .lt 7, 3) := by decide +kernel
theorem dX7_carryOut_97 : decode cX7_carryOut 97 = .ok (.iconst 1, 1) := by decide +kernel
theorem dX7_carryOut_98 : decode cX7_carryOut 98 = .ok (.goto 4, 3) := by decide +kernel
theorem dX7_carryOut_101 : decode cX7_carryOut 101 = .ok (.iconst 0, 1) := by decide +kernel
theorem dX7_carryOut_102 : decode cX7_carryOut 102 = .ok (.istore_n 3, 1) := by decide +kernel
theorem dX7_carryOut_103 : decode cX7_carryOut 103 = .ok (.iload_n 1, 1) := by decide +kernel
theorem dX7_carryOut_104 : decode cX7_carryOut 104 = .ok (.iload_n 3, 1) := by decide +kernel
theorem dX7_carryOut_105 : decode cX7_carryOut 105 = .ok (.ifCond .eq 7, 3) := by decide +kernel
theorem dX7_carryOut_108 : decode cX7_carryOut 108 = .ok (.iconst 1, 1) := by decide +kernel
theorem dX7_carryOut_109 : decode cX7_carryOut 109 = .ok (.goto 4, 3) := by decide +kernel
theorem dX7_carryOut_112 : decode cX7_carryOut 112 = .ok (.iconst 0, 1) := by decide +kernel
theorem dX7_carryOut_113 : decode cX7_carryOut 113 = .ok (.iadd, 1) := by decide +kernel
theorem dX7_carryOut_114 : decode cX7_carryOut 114 = .ok (.istore_n 1, 1) := by decide +kernel
theorem dX7_carryOut_115 : decode cX7_carryOut 115 = .ok (.iload 4, 2) := by decide +kernel
theorem dX7_carryOut_117 : decode cX7_carryOut 117 = .ok (.iconst 1, 1) := by decide +kernel
theorem dX7_carryOut_118 : decode cX7_carryOut 118 = .ok (.iadd, 1) := by decide +kernel
theorem dX7_carryOut_119 : decode cX7_carryOut 119 = .ok (.istore_n 2, 1) := by decide +kernel
theorem dX7_carryOut_120 : decode cX7_carryOut 120 = .ok (.goto (-94), 3) := by decide +kernel
theorem dX7_carryOut_123 : decode cX7_carryOut 123 = .ok (.aload_n 0, 1) := by decide +kernel
theorem dX7_carryOut_124 : decode cX7_carryOut 124 = .ok (.iconst 0, 1) := by decide +kernel
theorem dX7_carryOut_125 : decode cX7_carryOut 125 = .ok (.putfield 153, 3) := by decide +kernel
theorem dX7_carryOut_128 : decode cX7_carryOut 128 = .ok (.iload_n 1, 1) := by decide +kernel
theorem dX7_carryOut_129 : decode cX7_carryOut 129 = .ok (.ireturn, 1) := by decide +kernel
theorem dX7_undo_0 : decode cX7_undo 0 = .ok (.aload_n 0, 1) := by decide +kernel
theorem dX7_undo_1 : decode cX7_undo 1 = .ok (.getfield 54, 3) := by decide +kernel
theorem dX7_undo_4 : decode cX7_undo 4 = .ok (.ifCond .ne 6, 3) := by decide +kernel
theorem dX7_undo_7 : decode cX7_undo 7 = .ok (.bipush (-5), 2) := by decide +kernel
theorem dX7_undo_9 : decode cX7_undo 9 = .ok (.ireturn, 1) := by decide +kernel
theorem dX7_undo_10 : decode cX7_undo 10 = .ok (.aload_n 0, 1) := by decide +kernel
theorem dX7_undo_11 : decode cX7_undo 11 = .ok (.dup, 1) := by decide +kernel
theorem dX7_undo_12 : decode cX7_undo 12 = .ok (.getfield 54, 3) := by decide +kernel
theorem dX7_undo_15 : decode cX7_undo 15 = .ok (.iconst 1, 1) := by decide +kernel
theorem dX7_undo_16 : decode cX7_undo 16 = .ok (.isub, 1) := by decide +kernel
theorem dX7_undo_17 : decode cX7_undo 17 = .ok (.putfield 54, 3) := by decide +kernel
theorem dX7_undo_20 : decode cX7_undo 20 = .ok (.iconst 0, 1) := by decide +kernel
theorem dX7_undo_21 : decode cX7_undo 21 = .ok (.istore_n 1, 1) := by decide +kernel
theorem dX7_undo_22 : decode cX7_undo 22 = .ok (.iload_n 1, 1) := by decide +kernel
theorem dX7_undo_23 : decode cX7_undo 23 = .ok (.sipush 246, 3) := by decide +kernel
theorem dX7_undo_26 : decode cX7_undo 26 = .ok (.if_icmp .ge 30, 3) := by decide +kernel
theorem dX7_undo_29 : decode cX7_undo 29 = .ok (.aload_n 0, 1) := by decide +kernel
theorem dX7_undo_30 : decode cX7_undo 30 = .ok (.getfield 7, 3) := by decide +kernel
theorem dX7_undo_33 : decode cX7_undo 33 = .ok (.iload_n 1, 1) := by decide +kernel
theorem dX7_undo_34 : decode cX7_undo 34 = .ok (.aload_n 0, 1) := by decide +kernel
theorem dX7_undo_35 : decode cX7_undo 35 = .ok (.getfield 16, 3) := by decide +kernel
theorem dX7_undo_38 : decode cX7_undo 38 = .ok (.sipush 246, 3) := by decide +kernel
theorem dX7_undo_41 : decode cX7_undo 41 = .ok (.aload_n 0, 1) := by decide +kernel
theorem dX7_undo_42 : decode cX7_undo 42 = .ok (.getfield 54, 3) := by decide +kernel
theorem dX7_undo_45 : decode cX7_undo 45 = .ok (.imul, 1) := by decide +kernel
theorem dX7_undo_46 : decode cX7_undo 46 = .ok (.iload_n 1, 1) := by decide +kernel
theorem dX7_undo_47 : decode cX7_undo 47 = .ok (.iadd, 1) := by decide +kernel
theorem dX7_undo_48 : decode cX7_undo 48 = .ok (.iaload, 1) := by decide +kernel
theorem dX7_undo_49 : decode cX7_undo 49 = .ok (.iastore, 1) := by decide +kernel
theorem dX7_undo_50 : decode cX7_undo 50 = .ok (.iinc 1 1, 3) := by decide +kernel
theorem dX7_undo_53 : decode cX7_undo 53 = .ok (.goto (-31), 3) := by decide +kernel
theorem dX7_undo_56 : decode cX7_undo 56 = .ok (.aload_n 0, 1) := by decide +kernel
theorem dX7_undo_57 : decode cX7_undo 57 = .ok (.getfield 54, 3) := by decide +kernel
theorem dX7_undo_60 : decode cX7_undo 60 = .ok (.ireturn, 1) := by decide +kernel
def ch_wsX7_save : List (List Cond) := [[.code yX7_save cX7_save 3 (some .int)], [.fieldLink RX7 19 "TailorChalksModel" "slots" "[I", .fieldLink RX7 7 "TailorChalksModel" "s" "[I", .fieldLink RX7 22 "TailorChalksModel" "isSaved" "[Z", .methodLink RX7 36 yX7_in, .static yX7_in, .initialized RX7, .code yX7_in cX7_in 3 (some .boolean), .methodLink RX7 71 yX7_left, .instanceMethod yX7_left, .selects RX7 yX7_left yX7_left, .code yX7_left cX7_left 3 (some .int), .methodLink RX7 44 yX7_isGone, .instanceMethod yX7_isGone, .selects RX7 yX7_isGone yX7_isGone, .code yX7_isGone cX7_isGone 2 (some .boolean)], wsX70]
set_option maxRecDepth 20000 in
theorem hf_wsX7_save : wsX7_save = (ch_wsX7_save).flatten := rfl
set_option maxRecDepth 20000 in
theorem hg_wsX7_save : (wsX7_save).all goodWord = true := by decide +kernel
set_option maxRecDepth 20000 in
theorem gX7_save_X7_in : GoodIn wsX7_save (va_wsS RX7 36 yX7_in wsX7_in) := goodIn_c ch_wsX7_save hf_wsX7_save hg_wsX7_save _ [(1, 3), (1, 4), (1, 5), (1, 6)] rfl
set_option maxRecDepth 20000 in
theorem gX7_save_X7_left : GoodIn wsX7_save (wsV RX7 71 RX7 yX7_left wsX7_left) := goodIn_c ch_wsX7_save hf_wsX7_save hg_wsX7_save _ [(1, 7), (1, 8), (1, 9), (1, 5), (1, 10), (1, 11), (1, 12), (1, 13), (1, 5), (1, 14), (1, 1), (2, 0), (2, 1), (2, 2), (2, 3), (2, 4), (2, 5), (2, 6), (2, 7), (2, 8)] rfl
theorem dX7_save_0 : decode cX7_save 0 = .ok (.iload_n 1, 1) := by decide +kernel
theorem dX7_save_1 : decode cX7_save 1 = .ok (.iconst 0, 1) := by decide +kernel
theorem dX7_save_2 : decode cX7_save 2 = .ok (.iconst 1, 1) := by decide +kernel
theorem dX7_save_3 : decode cX7_save 3 = .ok (.invokestatic 36, 3) := by decide +kernel
theorem dX7_save_6 : decode cX7_save 6 = .ok (.ifCond .ne 6, 3) := by decide +kernel
theorem dX7_save_9 : decode cX7_save 9 = .ok (.bipush (-2), 2) := by decide +kernel
theorem dX7_save_11 : decode cX7_save 11 = .ok (.ireturn, 1) := by decide +kernel
theorem dX7_save_12 : decode cX7_save 12 = .ok (.iconst 0, 1) := by decide +kernel
theorem dX7_save_13 : decode cX7_save 13 = .ok (.istore_n 2, 1) := by decide +kernel
theorem dX7_save_14 : decode cX7_save 14 = .ok (.iload_n 2, 1) := by decide +kernel
theorem dX7_save_15 : decode cX7_save 15 = .ok (.sipush 246, 3) := by decide +kernel
theorem dX7_save_18 : decode cX7_save 18 = .ok (.if_icmp .ge 27, 3) := by decide +kernel
theorem dX7_save_21 : decode cX7_save 21 = .ok (.aload_n 0, 1) := by decide +kernel
theorem dX7_save_22 : decode cX7_save 22 = .ok (.getfield 19, 3) := by decide +kernel
theorem dX7_save_25 : decode cX7_save 25 = .ok (.sipush 246, 3) := by decide +kernel
theorem dX7_save_28 : decode cX7_save 28 = .ok (.iload_n 1, 1) := by decide +kernel
theorem dX7_save_29 : decode cX7_save 29 = .ok (.imul, 1) := by decide +kernel
theorem dX7_save_30 : decode cX7_save 30 = .ok (.iload_n 2, 1) := by decide +kernel
theorem dX7_save_31 : decode cX7_save 31 = .ok (.iadd, 1) := by decide +kernel
theorem dX7_save_32 : decode cX7_save 32 = .ok (.aload_n 0, 1) := by decide +kernel
theorem dX7_save_33 : decode cX7_save 33 = .ok (.getfield 7, 3) := by decide +kernel
theorem dX7_save_36 : decode cX7_save 36 = .ok (.iload_n 2, 1) := by decide +kernel
theorem dX7_save_37 : decode cX7_save 37 = .ok (.iaload, 1) := by decide +kernel
theorem dX7_save_38 : decode cX7_save 38 = .ok (.iastore, 1) := by decide +kernel
theorem dX7_save_39 : decode cX7_save 39 = .ok (.iinc 2 1, 3) := by decide +kernel
theorem dX7_save_42 : decode cX7_save 42 = .ok (.goto (-28), 3) := by decide +kernel
theorem dX7_save_45 : decode cX7_save 45 = .ok (.aload_n 0, 1) := by decide +kernel
theorem dX7_save_46 : decode cX7_save 46 = .ok (.getfield 22, 3) := by decide +kernel
theorem dX7_save_49 : decode cX7_save 49 = .ok (.iload_n 1, 1) := by decide +kernel
theorem dX7_save_50 : decode cX7_save 50 = .ok (.iconst 1, 1) := by decide +kernel
theorem dX7_save_51 : decode cX7_save 51 = .ok (.bastore, 1) := by decide +kernel
theorem dX7_save_52 : decode cX7_save 52 = .ok (.aload_n 0, 1) := by decide +kernel
theorem dX7_save_53 : decode cX7_save 53 = .ok (.invokevirtual 71, 3) := by decide +kernel
theorem dX7_save_56 : decode cX7_save 56 = .ok (.ireturn, 1) := by decide +kernel
def ch_wsX7_restore : List (List Cond) := [[.code yX7_restore cX7_restore 3 (some .int)], wsX7_restore_r1, wsX7_restore_r2, wsX70]
set_option maxRecDepth 20000 in
theorem hf_wsX7_restore : wsX7_restore = (ch_wsX7_restore).flatten := rfl
set_option maxRecDepth 20000 in
theorem hg_wsX7_restore : (wsX7_restore).all goodWord = true := by decide +kernel
set_option maxRecDepth 20000 in
theorem gX7_restore_X7_in : GoodIn wsX7_restore (va_wsS RX7 36 yX7_in wsX7_in) := goodIn_c ch_wsX7_restore hf_wsX7_restore hg_wsX7_restore _ [(1, 3), (1, 4), (1, 5), (1, 6)] rfl
set_option maxRecDepth 20000 in
theorem gX7_restore_X7_looks : GoodIn wsX7_restore (wsV RX7 126 RX7 yX7_looks wsX7_looks) := goodIn_c ch_wsX7_restore hf_wsX7_restore hg_wsX7_restore _ [(1, 7), (1, 8), (1, 9), (1, 5), (1, 10), (1, 11), (1, 1), (3, 0), (3, 1), (3, 2), (3, 3), (3, 4), (3, 5), (3, 6), (3, 7), (3, 8)] rfl
set_option maxRecDepth 20000 in
theorem gX7_restore_X7_records : GoodIn wsX7_restore (wsV RX7 132 RX7 yX7_records wsX7_records) := goodIn_c ch_wsX7_restore hf_wsX7_restore hg_wsX7_restore _ [(1, 12), (1, 13), (1, 14), (1, 5), (1, 15), (1, 16), (1, 17), (1, 11), (3, 0), (3, 1), (3, 2), (3, 3), (3, 4), (3, 5), (3, 6), (3, 7), (3, 8)] rfl
set_option maxRecDepth 20000 in
theorem gX7_restore_X7_left : GoodIn wsX7_restore (wsV RX7 71 RX7 yX7_left wsX7_left) := goodIn_c ch_wsX7_restore hf_wsX7_restore hg_wsX7_restore _ [(1, 18), (1, 19), (1, 20), (1, 5), (1, 21), (1, 22), (1, 23), (2, 0), (1, 5), (2, 1), (1, 1), (3, 0), (3, 1), (3, 2), (3, 3), (3, 4), (3, 5), (3, 6), (3, 7), (3, 8)] rfl
theorem dX7_restore_0 : decode cX7_restore 0 = .ok (.iload_n 1, 1) := by decide +kernel
theorem dX7_restore_1 : decode cX7_restore 1 = .ok (.iconst 0, 1) := by decide +kernel
theorem dX7_restore_2 : decode cX7_restore 2 = .ok (.iconst 1, 1) := by decide +kernel
theorem dX7_restore_3 : decode cX7_restore 3 = .ok (.invokestatic 36, 3) := by decide +kernel
theorem dX7_restore_6 : decode cX7_restore 6 = .ok (.ifCond .ne 6, 3) := by decide +kernel
theorem dX7_restore_9 : decode cX7_restore 9 = .ok (.bipush (-2), 2) := by decide +kernel
theorem dX7_restore_11 : decode cX7_restore 11 = .ok (.ireturn, 1) := by decide +kernel
theorem dX7_restore_12 : decode cX7_restore 12 = .ok (.aload_n 0, 1) := by decide +kernel
theorem dX7_restore_13 : decode cX7_restore 13 = .ok (.getfield 22, 3) := by decide +kernel
theorem dX7_restore_16 : decode cX7_restore 16 = .ok (.iload_n 1, 1) := by decide +kernel
theorem dX7_restore_17 : decode cX7_restore 17 = .ok (.baload, 1) := by decide +kernel
theorem dX7_restore_18 : decode cX7_restore 18 = .ok (.ifCond .ne 6, 3) := by decide +kernel
theorem dX7_restore_21 : decode cX7_restore 21 = .ok (.bipush (-5), 2) := by decide +kernel
theorem dX7_restore_23 : decode cX7_restore 23 = .ok (.ireturn, 1) := by decide +kernel
theorem dX7_restore_24 : decode cX7_restore 24 = .ok (.aload_n 0, 1) := by decide +kernel
theorem dX7_restore_25 : decode cX7_restore 25 = .ok (.invokevirtual 126, 3) := by decide +kernel
theorem dX7_restore_28 : decode cX7_restore 28 = .ok (.aload_n 0, 1) := by decide +kernel
theorem dX7_restore_29 : decode cX7_restore 29 = .ok (.invokevirtual 132, 3) := by decide +kernel
theorem dX7_restore_32 : decode cX7_restore 32 = .ok (.iconst 0, 1) := by decide +kernel
theorem dX7_restore_33 : decode cX7_restore 33 = .ok (.istore_n 2, 1) := by decide +kernel
theorem dX7_restore_34 : decode cX7_restore 34 = .ok (.iload_n 2, 1) := by decide +kernel
theorem dX7_restore_35 : decode cX7_restore 35 = .ok (.sipush 246, 3) := by decide +kernel
theorem dX7_restore_38 : decode cX7_restore 38 = .ok (.if_icmp .ge 27, 3) := by decide +kernel
theorem dX7_restore_41 : decode cX7_restore 41 = .ok (.aload_n 0, 1) := by decide +kernel
theorem dX7_restore_42 : decode cX7_restore 42 = .ok (.getfield 7, 3) := by decide +kernel
theorem dX7_restore_45 : decode cX7_restore 45 = .ok (.iload_n 2, 1) := by decide +kernel
theorem dX7_restore_46 : decode cX7_restore 46 = .ok (.aload_n 0, 1) := by decide +kernel
theorem dX7_restore_47 : decode cX7_restore 47 = .ok (.getfield 19, 3) := by decide +kernel
theorem dX7_restore_50 : decode cX7_restore 50 = .ok (.sipush 246, 3) := by decide +kernel
theorem dX7_restore_53 : decode cX7_restore 53 = .ok (.iload_n 1, 1) := by decide +kernel
theorem dX7_restore_54 : decode cX7_restore 54 = .ok (.imul, 1) := by decide +kernel
theorem dX7_restore_55 : decode cX7_restore 55 = .ok (.iload_n 2, 1) := by decide +kernel
theorem dX7_restore_56 : decode cX7_restore 56 = .ok (.iadd, 1) := by decide +kernel
theorem dX7_restore_57 : decode cX7_restore 57 = .ok (.iaload, 1) := by decide +kernel
theorem dX7_restore_58 : decode cX7_restore 58 = .ok (.iastore, 1) := by decide +kernel
theorem dX7_restore_59 : decode cX7_restore 59 = .ok (.iinc 2 1, 3) := by decide +kernel
theorem dX7_restore_62 : decode cX7_restore 62 = .ok (.goto (-28), 3) := by decide +kernel
theorem dX7_restore_65 : decode cX7_restore 65 = .ok (.aload_n 0, 1) := by decide +kernel
theorem dX7_restore_66 : decode cX7_restore 66 = .ok (.invokevirtual 71, 3) := by decide +kernel
theorem dX7_restore_69 : decode cX7_restore 69 = .ok (.ireturn, 1) := by decide +kernel
