theorem dX7_chalks_19 : decode cX7_chalks 19 = .ok (.invokevirtual 84, 3) := by decide +kernel
theorem dX7_chalks_22 : decode cX7_chalks 22 = .ok (.ifCond .ne 20, 3) := by decide +kernel
theorem dX7_chalks_25 : decode cX7_chalks 25 = .ok (.aload_n 0, 1) := by decide +kernel
theorem dX7_chalks_26 : decode cX7_chalks 26 = .ok (.iload_n 1, 1) := by decide +kernel
theorem dX7_chalks_27 : decode cX7_chalks 27 = .ok (.invokevirtual 58, 3) := by decide +kernel
theorem dX7_chalks_30 : decode cX7_chalks 30 = .ok (.ifCond .eq 12, 3) := by decide +kernel
theorem dX7_chalks_33 : decode cX7_chalks 33 = .ok (.aload_n 0, 1) := by decide +kernel
theorem dX7_chalks_34 : decode cX7_chalks 34 = .ok (.iload_n 2, 1) := by decide +kernel
theorem dX7_chalks_35 : decode cX7_chalks 35 = .ok (.iload_n 1, 1) := by decide +kernel
theorem dX7_chalks_36 : decode cX7_chalks 36 = .ok (.invokevirtual 88, 3) := by decide +kernel
theorem dX7_chalks_39 : decode cX7_chalks 39 = .ok (.ifCond .eq 6, 3) := by decide +kernel
theorem dX7_chalks_42 : decode cX7_chalks 42 = .ok (.bipush (-5), 2) := by decide +kernel
theorem dX7_chalks_44 : decode cX7_chalks 44 = .ok (.ireturn, 1) := by decide +kernel
theorem dX7_chalks_45 : decode cX7_chalks 45 = .ok (.aload_n 0, 1) := by decide +kernel
theorem dX7_chalks_46 : decode cX7_chalks 46 = .ok (.getfield 7, 3) := by decide +kernel
theorem dX7_chalks_49 : decode cX7_chalks 49 = .ok (.iload_n 2, 1) := by decide +kernel
theorem dX7_chalks_50 : decode cX7_chalks 50 = .ok (.iconst 2, 1) := by decide +kernel
theorem dX7_chalks_51 : decode cX7_chalks 51 = .ok (.invokestatic 32, 3) := by decide +kernel
theorem dX7_chalks_54 : decode cX7_chalks 54 = .ok (.iaload, 1) := by decide +kernel
theorem dX7_chalks_55 : decode cX7_chalks 55 = .ok (.bipush 8, 2) := by decide +kernel
theorem dX7_chalks_57 : decode cX7_chalks 57 = .ok (.if_icmp .ne 6, 3) := by decide +kernel
theorem dX7_chalks_60 : decode cX7_chalks 60 = .ok (.bipush (-4), 2) := by decide +kernel
theorem dX7_chalks_62 : decode cX7_chalks 62 = .ok (.ireturn, 1) := by decide +kernel
theorem dX7_chalks_63 : decode cX7_chalks 63 = .ok (.aload_n 0, 1) := by decide +kernel
theorem dX7_chalks_64 : decode cX7_chalks 64 = .ok (.getfield 7, 3) := by decide +kernel
theorem dX7_chalks_67 : decode cX7_chalks 67 = .ok (.iload_n 2, 1) := by decide +kernel
theorem dX7_chalks_68 : decode cX7_chalks 68 = .ok (.bipush 8, 2) := by decide +kernel
theorem dX7_chalks_70 : decode cX7_chalks 70 = .ok (.invokestatic 32, 3) := by decide +kernel
theorem dX7_chalks_73 : decode cX7_chalks 73 = .ok (.aload_n 0, 1) := by decide +kernel
theorem dX7_chalks_74 : decode cX7_chalks 74 = .ok (.getfield 7, 3) := by decide +kernel
theorem dX7_chalks_77 : decode cX7_chalks 77 = .ok (.iload_n 2, 1) := by decide +kernel
theorem dX7_chalks_78 : decode cX7_chalks 78 = .ok (.iconst 2, 1) := by decide +kernel
theorem dX7_chalks_79 : decode cX7_chalks 79 = .ok (.invokestatic 32, 3) := by decide +kernel
theorem dX7_chalks_82 : decode cX7_chalks 82 = .ok (.iaload, 1) := by decide +kernel
theorem dX7_chalks_83 : decode cX7_chalks 83 = .ok (.iadd, 1) := by decide +kernel
theorem dX7_chalks_84 : decode cX7_chalks 84 = .ok (.iload_n 1, 1) := by decide +kernel
theorem dX7_chalks_85 : decode cX7_chalks 85 = .ok (.iastore, 1) := by decide +kernel
theorem dX7_chalks_86 : decode cX7_chalks 86 = .ok (.aload_n 0, 1) := by decide +kernel
theorem dX7_chalks_87 : decode cX7_chalks 87 = .ok (.getfield 7, 3) := by decide +kernel
theorem dX7_chalks_90 : decode cX7_chalks 90 = .ok (.iload_n 2, 1) := by decide +kernel
theorem dX7_chalks_91 : decode cX7_chalks 91 = .ok (.iconst 2, 1) := by decide +kernel
theorem dX7_chalks_92 : decode cX7_chalks 92 = .ok (.invokestatic 32, 3) := by decide +kernel
theorem dX7_chalks_95 : decode cX7_chalks 95 = .ok (.dup2, 1) := by decide +kernel
theorem dX7_chalks_96 : decode cX7_chalks 96 = .ok (.iaload, 1) := by decide +kernel
theorem dX7_chalks_97 : decode cX7_chalks 97 = .ok (.iconst 1, 1) := by decide +kernel
theorem dX7_chalks_98 : decode cX7_chalks 98 = .ok (.iadd, 1) := by decide +kernel
theorem dX7_chalks_99 : decode cX7_chalks 99 = .ok (.iastore, 1) := by decide +kernel
theorem dX7_chalks_100 : decode cX7_chalks 100 = .ok (.aload_n 0, 1) := by decide +kernel
theorem dX7_chalks_101 : decode cX7_chalks 101 = .ok (.aload_n 0, 1) := by decide +kernel
theorem dX7_chalks_102 : decode cX7_chalks 102 = .ok (.getfield 7, 3) := by decide +kernel
theorem dX7_chalks_105 : decode cX7_chalks 105 = .ok (.iload_n 2, 1) := by decide +kernel
theorem dX7_chalks_106 : decode cX7_chalks 106 = .ok (.iconst 2, 1) := by decide +kernel
theorem dX7_chalks_107 : decode cX7_chalks 107 = .ok (.invokestatic 32, 3) := by decide +kernel
theorem dX7_chalks_110 : decode cX7_chalks 110 = .ok (.iaload, 1) := by decide +kernel
theorem dX7_chalks_111 : decode cX7_chalks 111 = .ok (.invokevirtual 92, 3) := by decide +kernel
theorem dX7_chalks_114 : decode cX7_chalks 114 = .ok (.ireturn, 1) := by decide +kernel
def ch_wsX7_reason : List (List Cond) := [[.code yX7_reason cX7_reason 2 (some .int)], [.fieldLink RX7 7 "TailorChalksModel" "s" "[I", .methodLink RX7 84 yX7_isOver, .instanceMethod yX7_isOver, .selects RX7 yX7_isOver yX7_isOver, .initialized RX7, .code yX7_isOver cX7_isOver 1 (some .boolean), .methodLink RX7 71 yX7_left, .instanceMethod yX7_left, .selects RX7 yX7_left yX7_left, .code yX7_left cX7_left 3 (some .int), .methodLink RX7 44 yX7_isGone, .instanceMethod yX7_isGone, .selects RX7 yX7_isGone yX7_isGone, .code yX7_isGone cX7_isGone 2 (some .boolean), .methodLink RX7 51 yX7_isVoid, .instanceMethod yX7_isVoid, .selects RX7 yX7_isVoid yX7_isVoid, .code yX7_isVoid cX7_isVoid 2 (some .boolean), .methodLink RX7 40 yX7_first, .static yX7_first, .code yX7_first cX7_first 1 (some .int), .methodLink RX7 48 yX7_second, .static yX7_second, .code yX7_second cX7_second 1 (some .int)], wsX70]
set_option maxRecDepth 20000 in
theorem hf_wsX7_reason : wsX7_reason = (ch_wsX7_reason).flatten := rfl
set_option maxRecDepth 20000 in
theorem hg_wsX7_reason : (wsX7_reason).all goodWord = true := by decide +kernel
set_option maxRecDepth 20000 in
theorem gX7_reason_X7_isOver : GoodIn wsX7_reason (wsV RX7 84 RX7 yX7_isOver wsX7_isOver) := goodIn_c ch_wsX7_reason hf_wsX7_reason hg_wsX7_reason _ [(1, 1), (1, 2), (1, 3), (1, 4), (1, 5), (1, 0), (1, 6), (1, 7), (1, 8), (1, 4), (1, 9), (1, 10), (1, 11), (1, 12), (1, 13), (2, 0), (2, 1), (2, 2), (2, 3), (2, 4), (2, 5), (2, 6), (2, 7), (2, 8)] rfl
set_option maxRecDepth 20000 in
theorem gX7_reason_X7_isVoid : GoodIn wsX7_reason (wsV RX7 51 RX7 yX7_isVoid wsX7_isVoid) := goodIn_c ch_wsX7_reason hf_wsX7_reason hg_wsX7_reason _ [(1, 14), (1, 15), (1, 16), (1, 4), (1, 17), (1, 18), (1, 19), (1, 4), (1, 20), (1, 10), (1, 11), (1, 12), (1, 13), (1, 0), (1, 21), (1, 22), (1, 23), (2, 0), (2, 1), (2, 2), (2, 3), (2, 4), (2, 5), (2, 6), (2, 7), (2, 8)] rfl
theorem dX7_reason_0 : decode cX7_reason 0 = .ok (.aload_n 0, 1) := by decide +kernel
theorem dX7_reason_1 : decode cX7_reason 1 = .ok (.invokevirtual 84, 3) := by decide +kernel
theorem dX7_reason_4 : decode cX7_reason 4 = .ok (.ifCond .eq 7, 3) := by decide +kernel
theorem dX7_reason_7 : decode cX7_reason 7 = .ok (.iconst 1, 1) := by decide +kernel
theorem dX7_reason_8 : decode cX7_reason 8 = .ok (.goto 32, 3) := by decide +kernel
theorem dX7_reason_11 : decode cX7_reason 11 = .ok (.aload_n 0, 1) := by decide +kernel
theorem dX7_reason_12 : decode cX7_reason 12 = .ok (.iload_n 1, 1) := by decide +kernel
theorem dX7_reason_13 : decode cX7_reason 13 = .ok (.invokevirtual 51, 3) := by decide +kernel
theorem dX7_reason_16 : decode cX7_reason 16 = .ok (.ifCond .eq 7, 3) := by decide +kernel
theorem dX7_reason_19 : decode cX7_reason 19 = .ok (.iconst 2, 1) := by decide +kernel
theorem dX7_reason_20 : decode cX7_reason 20 = .ok (.goto 20, 3) := by decide +kernel
theorem dX7_reason_23 : decode cX7_reason 23 = .ok (.aload_n 0, 1) := by decide +kernel
theorem dX7_reason_24 : decode cX7_reason 24 = .ok (.getfield 7, 3) := by decide +kernel
theorem dX7_reason_27 : decode cX7_reason 27 = .ok (.iconst 0, 1) := by decide +kernel
theorem dX7_reason_28 : decode cX7_reason 28 = .ok (.iload_n 1, 1) := by decide +kernel
theorem dX7_reason_29 : decode cX7_reason 29 = .ok (.iadd, 1) := by decide +kernel
theorem dX7_reason_30 : decode cX7_reason 30 = .ok (.iaload, 1) := by decide +kernel
theorem dX7_reason_31 : decode cX7_reason 31 = .ok (.iconst 1, 1) := by decide +kernel
theorem dX7_reason_32 : decode cX7_reason 32 = .ok (.if_icmp .ne 7, 3) := by decide +kernel
theorem dX7_reason_35 : decode cX7_reason 35 = .ok (.iconst 3, 1) := by decide +kernel
theorem dX7_reason_36 : decode cX7_reason 36 = .ok (.goto 4, 3) := by decide +kernel
theorem dX7_reason_39 : decode cX7_reason 39 = .ok (.iconst 0, 1) := by decide +kernel
theorem dX7_reason_40 : decode cX7_reason 40 = .ok (.ireturn, 1) := by decide +kernel
def ch_wsX7_snips : List (List Cond) := [[.code yX7_snips cX7_snips 7 (some .int)], wsX7_snips_r1, wsX7_snips_r2, wsX7_snips_r3, wsX7_snips_r4, wsX70]
set_option maxRecDepth 20000 in
theorem hf_wsX7_snips : wsX7_snips = (ch_wsX7_snips).flatten := rfl
set_option maxRecDepth 20000 in
theorem hg_wsX7_snips : (wsX7_snips).all goodWord = true := by decide +kernel
set_option maxRecDepth 20000 in
theorem gX7_snips_X7_isJoint : GoodIn wsX7_snips (va_wsS RX7 81 yX7_isJoint wsX7_isJoint) := goodIn_c ch_wsX7_snips hf_wsX7_snips hg_wsX7_snips _ [(1, 2), (1, 3), (1, 4), (1, 5), (1, 6), (1, 7), (1, 4), (1, 8)] rfl
set_option maxRecDepth 20000 in
theorem gX7_snips_X7_reason : GoodIn wsX7_snips (wsV RX7 95 RX7 yX7_reason wsX7_reason) := goodIn_c ch_wsX7_snips hf_wsX7_snips hg_wsX7_snips _ [(1, 9), (1, 10), (1, 11), (1, 4), (1, 12), (1, 0), (1, 13), (1, 14), (1, 15), (1, 4), (1, 16), (1, 17), (1, 18), (1, 19), (1, 20), (1, 21), (1, 22), (1, 23), (2, 0), (2, 1), (2, 2), (2, 3), (2, 4), (2, 5), (2, 6), (2, 7), (2, 8), (2, 9), (2, 10), (5, 0), (5, 1), (5, 2), (5, 3), (5, 4), (5, 5), (5, 6), (5, 7), (5, 8)] rfl
set_option maxRecDepth 20000 in
theorem gX7_snips_X7_hasChalk : GoodIn wsX7_snips (wsV RX7 88 RX7 yX7_hasChalk wsX7_hasChalk) := goodIn_c ch_wsX7_snips hf_wsX7_snips hg_wsX7_snips _ [(2, 11), (2, 12), (2, 13), (1, 4), (2, 14), (2, 15), (2, 16), (2, 17), (1, 4), (2, 18), (1, 0), (2, 19), (2, 20), (2, 21), (2, 22), (2, 23), (3, 0), (3, 1), (5, 0), (5, 1), (5, 2), (5, 3), (5, 4), (5, 5), (5, 6), (5, 7), (5, 8)] rfl
set_option maxRecDepth 20000 in
theorem gX7_snips_X7_at : GoodIn wsX7_snips (va_wsS RX7 32 yX7_at wsX7_at) := goodIn_c ch_wsX7_snips hf_wsX7_snips hg_wsX7_snips _ [(2, 19), (2, 20), (1, 4), (2, 21)] rfl
set_option maxRecDepth 20000 in
theorem gX7_snips_X7_rubs : GoodIn wsX7_snips (wsV RX7 98 RX7 yX7_rubs wsX7_rubs) := goodIn_c ch_wsX7_snips hf_wsX7_snips hg_wsX7_snips _ [(3, 2), (3, 3), (3, 4), (1, 4), (3, 5), (1, 0), (2, 15), (2, 16), (2, 17), (1, 4), (2, 18), (2, 19), (2, 20), (2, 21), (2, 22), (2, 23), (3, 0), (3, 1), (5, 0), (5, 1), (5, 2), (5, 3), (5, 4), (5, 5), (5, 6), (5, 7), (5, 8)] rfl
set_option maxRecDepth 20000 in
theorem gX7_snips_X7_fallsBy : GoodIn wsX7_snips (wsV RX7 68 RX7 yX7_fallsBy wsX7_fallsBy) := goodIn_c ch_wsX7_snips hf_wsX7_snips hg_wsX7_snips _ [(3, 6), (3, 7), (3, 8), (1, 4), (3, 9), (1, 1), (3, 10), (3, 11), (3, 12), (1, 4), (3, 13), (1, 0), (1, 21), (1, 22), (1, 23), (2, 0), (3, 14), (3, 15), (3, 16), (3, 17), (2, 1), (2, 2), (2, 3), (2, 4), (2, 5), (2, 6), (2, 7), (2, 8), (2, 9), (2, 10), (3, 18), (3, 19), (3, 20), (3, 21), (5, 0), (5, 1), (5, 2), (5, 3), (5, 4), (5, 5), (5, 6), (5, 7), (5, 8)] rfl
set_option maxRecDepth 20000 in
theorem gX7_snips_X7_cellsOf : GoodIn wsX7_snips (wsV RX7 65 RX7 yX7_cellsOf wsX7_cellsOf) := goodIn_c ch_wsX7_snips hf_wsX7_snips hg_wsX7_snips _ [(3, 18), (3, 19), (3, 20), (1, 4), (3, 21), (1, 1), (5, 0), (5, 1), (5, 2), (5, 3), (5, 4), (5, 5), (5, 6), (5, 7), (5, 8)] rfl
set_option maxRecDepth 20000 in
theorem gX7_snips_X7_isVoid : GoodIn wsX7_snips (wsV RX7 51 RX7 yX7_isVoid wsX7_isVoid) := goodIn_c ch_wsX7_snips hf_wsX7_snips hg_wsX7_snips _ [(2, 1), (2, 2), (2, 3), (1, 4), (2, 4), (2, 5), (2, 6), (1, 4), (2, 7), (1, 21), (1, 22), (1, 23), (2, 0), (1, 0), (2, 8), (2, 9), (2, 10), (5, 0), (5, 1), (5, 2), (5, 3), (5, 4), (5, 5), (5, 6), (5, 7), (5, 8)] rfl
set_option maxRecDepth 20000 in
theorem gX7_snips_X7_ends : GoodIn wsX7_snips (wsV RX7 92 RX7 yX7_ends wsX7_ends) := goodIn_c ch_wsX7_snips hf_wsX7_snips hg_wsX7_snips _ [(3, 22), (3, 23), (4, 0), (1, 4), (4, 1), (1, 0), (5, 0), (5, 1), (5, 2), (5, 3), (5, 4), (5, 5), (5, 6), (5, 7), (5, 8)] rfl
theorem dX7_snips_0 : decode cX7_snips 0 = .ok (.aload_n 0, 1) := by decide +kernel
theorem dX7_snips_1 : decode cX7_snips 1 = .ok (.getfield 7, 3) := by decide +kernel
theorem dX7_snips_4 : decode cX7_snips 4 = .ok (.sipush 245, 3) := by decide +kernel
theorem dX7_snips_7 : decode cX7_snips 7 = .ok (.iaload, 1) := by decide +kernel
theorem dX7_snips_8 : decode cX7_snips 8 = .ok (.istore_n 2, 1) := by decide +kernel
theorem dX7_snips_9 : decode cX7_snips 9 = .ok (.iload_n 1, 1) := by decide +kernel
theorem dX7_snips_10 : decode cX7_snips 10 = .ok (.invokestatic 81, 3) := by decide +kernel
theorem dX7_snips_13 : decode cX7_snips 13 = .ok (.ifCond .ne 5, 3) := by decide +kernel
theorem dX7_snips_16 : decode cX7_snips 16 = .ok (.iconst (-1), 1) := by decide +kernel
theorem dX7_snips_17 : decode cX7_snips 17 = .ok (.ireturn, 1) := by decide +kernel
theorem dX7_snips_18 : decode cX7_snips 18 = .ok (.aload_n 0, 1) := by decide +kernel
theorem dX7_snips_19 : decode cX7_snips 19 = .ok (.iload_n 1, 1) := by decide +kernel
theorem dX7_snips_20 : decode cX7_snips 20 = .ok (.invokevirtual 95, 3) := by decide +kernel
theorem dX7_snips_23 : decode cX7_snips 23 = .ok (.ifCond .le 6, 3) := by decide +kernel
theorem dX7_snips_26 : decode cX7_snips 26 = .ok (.bipush (-5), 2) := by decide +kernel
theorem dX7_snips_28 : decode cX7_snips 28 = .ok (.ireturn, 1) := by decide +kernel
theorem dX7_snips_29 : decode cX7_snips 29 = .ok (.aload_n 0, 1) := by decide +kernel
theorem dX7_snips_30 : decode cX7_snips 30 = .ok (.getfield 7, 3) := by decide +kernel
theorem dX7_snips_33 : decode cX7_snips 33 = .ok (.iconst 0, 1) := by decide +kernel
theorem dX7_snips_34 : decode cX7_snips 34 = .ok (.iload_n 1, 1) := by decide +kernel
theorem dX7_snips_35 : decode cX7_snips 35 = .ok (.iadd, 1) := by decide +kernel
theorem dX7_snips_36 : decode cX7_snips 36 = .ok (.iconst 1, 1) := by decide +kernel
theorem dX7_snips_37 : decode cX7_snips 37 = .ok (.iastore, 1) := by decide +kernel
theorem dX7_snips_38 : decode cX7_snips 38 = .ok (.aload_n 0, 1) := by decide +kernel
theorem dX7_snips_39 : decode cX7_snips 39 = .ok (.getfield 7, 3) := by decide +kernel
theorem dX7_snips_42 : decode cX7_snips 42 = .ok (.bipush 82, 2) := by decide +kernel
theorem dX7_snips_44 : decode cX7_snips 44 = .ok (.iload_n 1, 1) := by decide +kernel
theorem dX7_snips_45 : decode cX7_snips 45 = .ok (.iadd, 1) := by decide +kernel
theorem dX7_snips_46 : decode cX7_snips 46 = .ok (.bipush (-6), 2) := by decide +kernel
theorem dX7_snips_48 : decode cX7_snips 48 = .ok (.iastore, 1) := by decide +kernel
theorem dX7_snips_49 : decode cX7_snips 49 = .ok (.aload_n 0, 1) := by decide +kernel
theorem dX7_snips_50 : decode cX7_snips 50 = .ok (.iconst 1, 1) := by decide +kernel
theorem dX7_snips_51 : decode cX7_snips 51 = .ok (.iload_n 2, 1) := by decide +kernel
theorem dX7_snips_52 : decode cX7_snips 52 = .ok (.isub, 1) := by decide +kernel
theorem dX7_snips_53 : decode cX7_snips 53 = .ok (.iload_n 1, 1) := by decide +kernel
theorem dX7_snips_54 : decode cX7_snips 54 = .ok (.invokevirtual 88, 3) := by decide +kernel
theorem dX7_snips_57 : decode cX7_snips 57 = .ok (.istore_n 3, 1) := by decide +kernel
theorem dX7_snips_58 : decode cX7_snips 58 = .ok (.aload_n 0, 1) := by decide +kernel
theorem dX7_snips_59 : decode cX7_snips 59 = .ok (.getfield 7, 3) := by decide +kernel
theorem dX7_snips_62 : decode cX7_snips 62 = .ok (.iload_n 2, 1) := by decide +kernel
theorem dX7_snips_63 : decode cX7_snips 63 = .ok (.iconst 0, 1) := by decide +kernel
theorem dX7_snips_64 : decode cX7_snips 64 = .ok (.invokestatic 32, 3) := by decide +kernel
theorem dX7_snips_67 : decode cX7_snips 67 = .ok (.dup2, 1) := by decide +kernel
theorem dX7_snips_68 : decode cX7_snips 68 = .ok (.iaload, 1) := by decide +kernel
theorem dX7_snips_69 : decode cX7_snips 69 = .ok (.iload_n 3, 1) := by decide +kernel
theorem dX7_snips_70 : decode cX7_snips 70 = .ok (.ifCond .eq 8, 3) := by decide +kernel
theorem dX7_snips_73 : decode cX7_snips 73 = .ok (.bipush (-3), 2) := by decide +kernel
theorem dX7_snips_75 : decode cX7_snips 75 = .ok (.goto 4, 3) := by decide +kernel
theorem dX7_snips_78 : decode cX7_snips 78 = .ok (.iconst 0, 1) := by decide +kernel
theorem dX7_snips_79 : decode cX7_snips 79 = .ok (.aload_n 0, 1) := by decide +kernel
theorem dX7_snips_80 : decode cX7_snips 80 = .ok (.iload_n 2, 1) := by decide +kernel
theorem dX7_snips_81 : decode cX7_snips 81 = .ok (.iload_n 1, 1) := by decide +kernel
theorem dX7_snips_82 : decode cX7_snips 82 = .ok (.invokevirtual 88, 3) := by decide +kernel
theorem dX7_snips_85 : decode cX7_snips 85 = .ok (.ifCond .eq 7, 3) := by decide +kernel
theorem dX7_snips_88 : decode cX7_snips 88 = .ok (.iconst 1, 1) := by decide +kernel
theorem dX7_snips_89 : decode cX7_snips 89 = .ok (.goto 4, 3) := by decide +kernel
theorem dX7_snips_92 : decode cX7_snips 92 = .ok (.iconst 0, 1) := by decide +kernel
theorem dX7_snips_93 : decode cX7_snips 93 = .ok (.iadd, 1) := by decide +kernel
theorem dX7_snips_94 : decode cX7_snips 94 = .ok (.iadd, 1) := by decide +kernel
theorem dX7_snips_95 : decode cX7_snips 95 = .ok (.iastore, 1) := by decide +kernel
theorem dX7_snips_96 : decode cX7_snips 96 = .ok (.aload_n 0, 1) := by decide +kernel
theorem dX7_snips_97 : decode cX7_snips 97 = .ok (.getfield 7, 3) := by decide +kernel
theorem dX7_snips_100 : decode cX7_snips 100 = .ok (.iload_n 2, 1) := by decide +kernel
theorem dX7_snips_101 : decode cX7_snips 101 = .ok (.iconst 5, 1) := by decide +kernel
theorem dX7_snips_102 : decode cX7_snips 102 = .ok (.invokestatic 32, 3) := by decide +kernel
theorem dX7_snips_105 : decode cX7_snips 105 = .ok (.dup2, 1) := by decide +kernel
theorem dX7_snips_106 : decode cX7_snips 106 = .ok (.iaload, 1) := by decide +kernel
theorem dX7_snips_107 : decode cX7_snips 107 = .ok (.iload_n 3, 1) := by decide +kernel
theorem dX7_snips_108 : decode cX7_snips 108 = .ok (.ifCond .eq 7, 3) := by decide +kernel
theorem dX7_snips_111 : decode cX7_snips 111 = .ok (.iconst 1, 1) := by decide +kernel
theorem dX7_snips_112 : decode cX7_snips 112 = .ok (.goto 4, 3) := by decide +kernel
theorem dX7_snips_115 : decode cX7_snips 115 = .ok (.iconst 0, 1) := by decide +kernel
theorem dX7_snips_116 : decode cX7_snips 116 = .ok (.iadd, 1) := by decide +kernel
theorem dX7_snips_117 : decode cX7_snips 117 = .ok (.iastore, 1) := by decide +kernel
theorem dX7_snips_118 : decode cX7_snips 118 = .ok (.aload_n 0, 1) := by decide +kernel
theorem dX7_snips_119 : decode cX7_snips 119 = .ok (.iconst 0, 1) := by decide +kernel
theorem dX7_snips_120 : decode cX7_snips 120 = .ok (.iload_n 1, 1) := by decide +kernel
theorem dX7_snips_121 : decode cX7_snips 121 = .ok (.invokevirtual 98, 3) := by decide +kernel
theorem dX7_snips_124 : decode cX7_snips 124 = .ok (.aload_n 0, 1) := by decide +kernel
theorem dX7_snips_125 : decode cX7_snips 125 = .ok (.iconst 1, 1) := by decide +kernel
theorem dX7_snips_126 : decode cX7_snips 126 = .ok (.iload_n 1, 1) := by decide +kernel
theorem dX7_snips_127 : decode cX7_snips 127 = .ok (.invokevirtual 98, 3) := by decide +kernel
theorem dX7_snips_130 : decode cX7_snips 130 = .ok (.aload_n 0, 1) := by decide +kernel
theorem dX7_snips_131 : decode cX7_snips 131 = .ok (.iload_n 1, 1) := by decide +kernel
theorem dX7_snips_132 : decode cX7_snips 132 = .ok (.invokevirtual 68, 3) := by decide +kernel
theorem dX7_snips_135 : decode cX7_snips 135 = .ok (.istore 4, 2) := by decide +kernel
theorem dX7_snips_137 : decode cX7_snips 137 = .ok (.iload 4, 2) := by decide +kernel
theorem dX7_snips_139 : decode cX7_snips 139 = .ok (.bipush (-6), 2) := by decide +kernel
theorem dX7_snips_141 : decode cX7_snips 141 = .ok (.if_icmp .ne 7, 3) := by decide +kernel
theorem dX7_snips_144 : decode cX7_snips 144 = .ok (.iconst 0, 1) := by decide +kernel
theorem dX7_snips_145 : decode cX7_snips 145 = .ok (.goto 9, 3) := by decide +kernel
theorem dX7_snips_148 : decode cX7_snips 148 = .ok (.aload_n 0, 1) := by decide +kernel
theorem dX7_snips_149 : decode cX7_snips 149 = .ok (.iload 4, 2) := by decide +kernel
theorem dX7_snips_151 : decode cX7_snips 151 = .ok (.invokevirtual 65, 3) := by decide +kernel
theorem dX7_snips_154 : decode cX7_snips 154 = .ok (.istore 5, 2) := by decide +kernel
theorem dX7_snips_156 : decode cX7_snips 156 = .ok (.iconst 0, 1) := by decide +kernel
theorem dX7_snips_157 : decode cX7_snips 157 = .ok (.istore 6, 2) := by decide +kernel
theorem dX7_snips_159 : decode cX7_snips 159 = .ok (.iload 6, 2) := by decide +kernel
theorem dX7_snips_161 : decode cX7_snips 161 = .ok (.bipush 48, 2) := by decide +kernel
theorem dX7_snips_163 : decode cX7_snips 163 = .ok (.if_icmp .ge 52, 3) := by decide +kernel
theorem dX7_snips_166 : decode cX7_snips 166 = .ok (.iload 5, 2) := by decide +kernel
theorem dX7_snips_168 : decode cX7_snips 168 = .ok (.ifCond .le 47, 3) := by decide +kernel
theorem dX7_snips_171 : decode cX7_snips 171 = .ok (.aload_n 0, 1) := by decide +kernel
theorem dX7_snips_172 : decode cX7_snips 172 = .ok (.getfield 7, 3) := by decide +kernel
theorem dX7_snips_175 : decode cX7_snips 175 = .ok (.sipush 164, 3) := by decide +kernel
theorem dX7_snips_178 : decode cX7_snips 178 = .ok (.iload 6, 2) := by decide +kernel
theorem dX7_snips_180 : decode cX7_snips 180 = .ok (.iadd, 1) := by decide +kernel
theorem dX7_snips_181 : decode cX7_snips 181 = .ok (.aload_n 0, 1) := by decide +kernel
theorem dX7_snips_182 : decode cX7_snips 182 = .ok (.getfield 29, 3) := by decide +kernel
theorem dX7_snips_185 : decode cX7_snips 185 = .ok (.iload 6, 2) := by decide +kernel
theorem dX7_snips_187 : decode cX7_snips 187 = .ok (.iaload, 1) := by decide +kernel
theorem dX7_snips_188 : decode cX7_snips 188 = .ok (.iload 4, 2) := by decide +kernel
theorem dX7_snips_190 : decode cX7_snips 190 = .ok (.if_icmp .ne 7, 3) := by decide +kernel
theorem dX7_snips_193 : decode cX7_snips 193 = .ok (.iconst 1, 1) := by decide +kernel
theorem dX7_snips_194 : decode cX7_snips 194 = .ok (.goto 14, 3) := by decide +kernel
theorem dX7_snips_197 : decode cX7_snips 197 = .ok (.aload_n 0, 1) := by decide +kernel
theorem dX7_snips_198 : decode cX7_snips 198 = .ok (.getfield 7, 3) := by decide +kernel
theorem dX7_snips_201 : decode cX7_snips 201 = .ok (.sipush 164, 3) := by decide +kernel
theorem dX7_snips_204 : decode cX7_snips 204 = .ok (.iload 6, 2) := by decide +kernel
theorem dX7_snips_206 : decode cX7_snips 206 = .ok (.iadd, 1) := by decide +kernel
theorem dX7_snips_207 : decode cX7_snips 207 = .ok (.iaload, 1) := by decide +kernel
theorem dX7_snips_208 : decode cX7_snips 208 = .ok (.iastore, 1) := by decide +kernel
theorem dX7_snips_209 : decode cX7_snips 209 = .ok (.iinc 6 1, 3) := by decide +kernel
theorem dX7_snips_212 : decode cX7_snips 212 = .ok (.goto (-53), 3) := by decide +kernel
theorem dX7_snips_215 : decode cX7_snips 215 = .ok (.iconst 0, 1) := by decide +kernel
theorem dX7_snips_216 : decode cX7_snips 216 = .ok (.istore 6, 2) := by decide +kernel
theorem dX7_snips_218 : decode cX7_snips 218 = .ok (.iload 6, 2) := by decide +kernel
theorem dX7_snips_220 : decode cX7_snips 220 = .ok (.bipush 82, 2) := by decide +kernel
theorem dX7_snips_222 : decode cX7_snips 222 = .ok (.if_icmp .ge 37, 3) := by decide +kernel
theorem dX7_snips_225 : decode cX7_snips 225 = .ok (.iload 5, 2) := by decide +kernel
theorem dX7_snips_227 : decode cX7_snips 227 = .ok (.ifCond .le 32, 3) := by decide +kernel
theorem dX7_snips_230 : decode cX7_snips 230 = .ok (.aload_n 0, 1) := by decide +kernel
theorem dX7_snips_231 : decode cX7_snips 231 = .ok (.iload 6, 2) := by decide +kernel
theorem dX7_snips_233 : decode cX7_snips 233 = .ok (.invokevirtual 51, 3) := by decide +kernel
theorem dX7_snips_236 : decode cX7_snips 236 = .ok (.ifCond .eq 17, 3) := by decide +kernel
theorem dX7_snips_239 : decode cX7_snips 239 = .ok (.aload_n 0, 1) := by decide +kernel
theorem dX7_snips_240 : decode cX7_snips 240 = .ok (.iconst 0, 1) := by decide +kernel
theorem dX7_snips_241 : decode cX7_snips 241 = .ok (.iload 6, 2) := by decide +kernel
theorem dX7_snips_243 : decode cX7_snips 243 = .ok (.invokevirtual 98, 3) := by decide +kernel
theorem dX7_snips_246 : decode cX7_snips 246 = .ok (.aload_n 0, 1) := by decide +kernel
theorem dX7_snips_247 : decode cX7_snips 247 = .ok (.iconst 1, 1) := by decide +kernel
theorem dX7_snips_248 : decode cX7_snips 248 = .ok (.iload 6, 2) := by decide +kernel
theorem dX7_snips_250 : decode cX7_snips 250 = .ok (.invokevirtual 98, 3) := by decide +kernel
theorem dX7_snips_253 : decode cX7_snips 253 = .ok (.iinc 6 1, 3) := by decide +kernel
theorem dX7_snips_256 : decode cX7_snips 256 = .ok (.goto (-38), 3) := by decide +kernel
theorem dX7_snips_259 : decode cX7_snips 259 = .ok (.aload_n 0, 1) := by decide +kernel
theorem dX7_snips_260 : decode cX7_snips 260 = .ok (.getfield 7, 3) := by decide +kernel
theorem dX7_snips_263 : decode cX7_snips 263 = .ok (.iload_n 2, 1) := by decide +kernel
theorem dX7_snips_264 : decode cX7_snips 264 = .ok (.iconst 0, 1) := by decide +kernel
theorem dX7_snips_265 : decode cX7_snips 265 = .ok (.invokestatic 32, 3) := by decide +kernel
theorem dX7_snips_268 : decode cX7_snips 268 = .ok (.dup2, 1) := by decide +kernel
theorem dX7_snips_269 : decode cX7_snips 269 = .ok (.iaload, 1) := by decide +kernel
theorem dX7_snips_270 : decode cX7_snips 270 = .ok (.iload 5, 2) := by decide +kernel
theorem dX7_snips_272 : decode cX7_snips 272 = .ok (.iadd, 1) := by decide +kernel
theorem dX7_snips_273 : decode cX7_snips 273 = .ok (.iastore, 1) := by decide +kernel
theorem dX7_snips_274 : decode cX7_snips 274 = .ok (.aload_n 0, 1) := by decide +kernel
theorem dX7_snips_275 : decode cX7_snips 275 = .ok (.getfield 7, 3) := by decide +kernel
theorem dX7_snips_278 : decode cX7_snips 278 = .ok (.iload_n 2, 1) := by decide +kernel
theorem dX7_snips_279 : decode cX7_snips 279 = .ok (.iconst 4, 1) := by decide +kernel
theorem dX7_snips_280 : decode cX7_snips 280 = .ok (.invokestatic 32, 3) := by decide +kernel
theorem dX7_snips_283 : decode cX7_snips 283 = .ok (.dup2, 1) := by decide +kernel
theorem dX7_snips_284 : decode cX7_snips 284 = .ok (.iaload, 1) := by decide +kernel
theorem dX7_snips_285 : decode cX7_snips 285 = .ok (.iload 5, 2) := by decide +kernel
theorem dX7_snips_287 : decode cX7_snips 287 = .ok (.iadd, 1) := by decide +kernel
theorem dX7_snips_288 : decode cX7_snips 288 = .ok (.iastore, 1) := by decide +kernel
theorem dX7_snips_289 : decode cX7_snips 289 = .ok (.aload_n 0, 1) := by decide +kernel
theorem dX7_snips_290 : decode cX7_snips 290 = .ok (.getfield 7, 3) := by decide +kernel
theorem dX7_snips_293 : decode cX7_snips 293 = .ok (.iload_n 2, 1) := by decide +kernel
theorem dX7_snips_294 : decode cX7_snips 294 = .ok (.iconst 3, 1) := by decide +kernel
theorem dX7_snips_295 : decode cX7_snips 295 = .ok (.invokestatic 32, 3) := by decide +kernel
theorem dX7_snips_298 : decode cX7_snips 298 = .ok (.dup2, 1) := by decide +kernel
theorem dX7_snips_299 : decode cX7_snips 299 = .ok (.iaload, 1) := by decide +kernel
theorem dX7_snips_300 : decode cX7_snips 300 = .ok (.iload 5, 2) := by decide +kernel
theorem dX7_snips_302 : decode cX7_snips 302 = .ok (.ifCond .le 7, 3) := by decide +kernel
theorem dX7_snips_305 : decode cX7_snips 305 = .ok (.iconst 1, 1) := by decide +kernel
theorem dX7_snips_306 : decode cX7_snips 306 = .ok (.goto 4, 3) := by decide +kernel
theorem dX7_snips_309 : decode cX7_snips 309 = .ok (.iconst 0, 1) := by decide +kernel
theorem dX7_snips_310 : decode cX7_snips 310 = .ok (.iadd, 1) := by decide +kernel
theorem dX7_snips_311 : decode cX7_snips 311 = .ok (.iastore, 1) := by decide +kernel
theorem dX7_snips_312 : decode cX7_snips 312 = .ok (.aload_n 0, 1) := by decide +kernel
theorem dX7_snips_313 : decode cX7_snips 313 = .ok (.iload 5, 2) := by decide +kernel
theorem dX7_snips_315 : decode cX7_snips 315 = .ok (.invokevirtual 92, 3) := by decide +kernel
theorem dX7_snips_318 : decode cX7_snips 318 = .ok (.ireturn, 1) := by decide +kernel
def ch_wsX7_isCut : List (List Cond) := [[.code yX7_isCut cX7_isCut 2 (some .boolean)], [.fieldLink RX7 7 "TailorChalksModel" "s" "[I", .methodLink RX7 84 yX7_isOver, .instanceMethod yX7_isOver, .selects RX7 yX7_isOver yX7_isOver, .initialized RX7, .code yX7_isOver cX7_isOver 1 (some .boolean), .methodLink RX7 71 yX7_left, .instanceMethod yX7_left, .selects RX7 yX7_left yX7_left, .code yX7_left cX7_left 3 (some .int), .methodLink RX7 44 yX7_isGone, .instanceMethod yX7_isGone, .selects RX7 yX7_isGone yX7_isGone, .code yX7_isGone cX7_isGone 2 (some .boolean), .methodLink RX7 51 yX7_isVoid, .instanceMethod yX7_isVoid, .selects RX7 yX7_isVoid yX7_isVoid, .code yX7_isVoid cX7_isVoid 2 (some .boolean), .methodLink RX7 40 yX7_first, .static yX7_first, .code yX7_first cX7_first 1 (some .int), .methodLink RX7 48 yX7_second, .static yX7_second, .code yX7_second cX7_second 1 (some .int)], wsX70]
set_option maxRecDepth 20000 in
theorem hf_wsX7_isCut : wsX7_isCut = (ch_wsX7_isCut).flatten := rfl
set_option maxRecDepth 20000 in
theorem hg_wsX7_isCut : (wsX7_isCut).all goodWord = true := by decide +kernel
set_option maxRecDepth 20000 in
theorem gX7_isCut_X7_isOver : GoodIn wsX7_isCut (wsV RX7 84 RX7 yX7_isOver wsX7_isOver) := goodIn_c ch_wsX7_isCut hf_wsX7_isCut hg_wsX7_isCut _ [(1, 1), (1, 2), (1, 3), (1, 4), (1, 5), (1, 0), (1, 6), (1, 7), (1, 8), (1, 4), (1, 9), (1, 10), (1, 11), (1, 12), (1, 13), (2, 0), (2, 1), (2, 2), (2, 3), (2, 4), (2, 5), (2, 6), (2, 7), (2, 8)] rfl
set_option maxRecDepth 20000 in
theorem gX7_isCut_X7_isVoid : GoodIn wsX7_isCut (wsV RX7 51 RX7 yX7_isVoid wsX7_isVoid) := goodIn_c ch_wsX7_isCut hf_wsX7_isCut hg_wsX7_isCut _ [(1, 14), (1, 15), (1, 16), (1, 4), (1, 17), (1, 18), (1, 19), (1, 4), (1, 20), (1, 10), (1, 11), (1, 12), (1, 13), (1, 0), (1, 21), (1, 22), (1, 23), (2, 0), (2, 1), (2, 2), (2, 3), (2, 4), (2, 5), (2, 6), (2, 7), (2, 8)] rfl
theorem dX7_isCut_0 : decode cX7_isCut 0 = .ok (.aload_n 0, 1) := by decide +kernel
theorem dX7_isCut_1 : decode cX7_isCut 1 = .ok (.invokevirtual 84, 3) := by decide +kernel
theorem dX7_isCut_4 : decode cX7_isCut 4 = .ok (.ifCond .ne 27, 3) := by decide +kernel
theorem dX7_isCut_7 : decode cX7_isCut 7 = .ok (.aload_n 0, 1) := by decide +kernel
theorem dX7_isCut_8 : decode cX7_isCut 8 = .ok (.iload_n 1, 1) := by decide +kernel
theorem dX7_isCut_9 : decode cX7_isCut 9 = .ok (.invokevirtual 51, 3) := by decide +kernel
theorem dX7_isCut_12 : decode cX7_isCut 12 = .ok (.ifCond .ne 19, 3) := by decide +kernel
theorem dX7_isCut_15 : decode cX7_isCut 15 = .ok (.aload_n 0, 1) := by decide +kernel
theorem dX7_isCut_16 : decode cX7_isCut 16 = .ok (.getfield 7, 3) := by decide +kernel
theorem dX7_isCut_19 : decode cX7_isCut 19 = .ok (.iconst 0, 1) := by decide +kernel
theorem dX7_isCut_20 : decode cX7_isCut 20 = .ok (.iload_n 1, 1) := by decide +kernel
theorem dX7_isCut_21 : decode cX7_isCut 21 = .ok (.iadd, 1) := by decide +kernel
theorem dX7_isCut_22 : decode cX7_isCut 22 = .ok (.iaload, 1) := by decide +kernel
theorem dX7_isCut_23 : decode cX7_isCut 23 = .ok (.iconst 1, 1) := by decide +kernel
theorem dX7_isCut_24 : decode cX7_isCut 24 = .ok (.if_icmp .ne 7, 3) := by decide +kernel
theorem dX7_isCut_27 : decode cX7_isCut 27 = .ok (.iconst 1, 1) := by decide +kernel
theorem dX7_isCut_28 : decode cX7_isCut 28 = .ok (.goto 4, 3) := by decide +kernel
theorem dX7_isCut_31 : decode cX7_isCut 31 = .ok (.iconst 0, 1) := by decide +kernel
theorem dX7_isCut_32 : decode cX7_isCut 32 = .ok (.ireturn, 1) := by decide +kernel
def ch_wsX7_sews : List (List Cond) := [[.code yX7_sews cX7_sews 3 (some .int)], wsX7_sews_r1, wsX7_sews_r2, wsX70]
set_option maxRecDepth 20000 in
theorem hf_wsX7_sews : wsX7_sews = (ch_wsX7_sews).flatten := rfl
set_option maxRecDepth 20000 in
theorem hg_wsX7_sews : (wsX7_sews).all goodWord = true := by decide +kernel
set_option maxRecDepth 20000 in
theorem gX7_sews_X7_isJoint : GoodIn wsX7_sews (va_wsS RX7 81 yX7_isJoint wsX7_isJoint) := goodIn_c ch_wsX7_sews hf_wsX7_sews hg_wsX7_sews _ [(1, 1), (1, 2), (1, 3), (1, 4), (1, 5), (1, 6), (1, 3), (1, 7)] rfl
set_option maxRecDepth 20000 in
theorem gX7_sews_X7_isCut : GoodIn wsX7_sews (wsV RX7 102 RX7 yX7_isCut wsX7_isCut) := goodIn_c ch_wsX7_sews hf_wsX7_sews hg_wsX7_sews _ [(1, 8), (1, 9), (1, 10), (1, 3), (1, 11), (1, 0), (1, 12), (1, 13), (1, 14), (1, 3), (1, 15), (1, 16), (1, 17), (1, 18), (1, 19), (1, 20), (1, 21), (1, 22), (1, 23), (2, 0), (2, 1), (2, 2), (2, 3), (2, 4), (2, 5), (2, 6), (2, 7), (2, 8), (2, 9), (3, 0), (3, 1), (3, 2), (3, 3), (3, 4), (3, 5), (3, 6), (3, 7), (3, 8)] rfl
set_option maxRecDepth 20000 in
theorem gX7_sews_X7_at : GoodIn wsX7_sews (va_wsS RX7 32 yX7_at wsX7_at) := goodIn_c ch_wsX7_sews hf_wsX7_sews hg_wsX7_sews _ [(2, 10), (2, 11), (1, 3), (2, 12)] rfl
set_option maxRecDepth 20000 in
theorem gX7_sews_X7_ends : GoodIn wsX7_sews (wsV RX7 92 RX7 yX7_ends wsX7_ends) := goodIn_c ch_wsX7_sews hf_wsX7_sews hg_wsX7_sews _ [(2, 13), (2, 14), (2, 15), (1, 3), (2, 16), (1, 0), (3, 0), (3, 1), (3, 2), (3, 3), (3, 4), (3, 5), (3, 6), (3, 7), (3, 8)] rfl
theorem dX7_sews_0 : decode cX7_sews 0 = .ok (.aload_n 0, 1) := by decide +kernel
theorem dX7_sews_1 : decode cX7_sews 1 = .ok (.getfield 7, 3) := by decide +kernel
theorem dX7_sews_4 : decode cX7_sews 4 = .ok (.sipush 245, 3) := by decide +kernel
theorem dX7_sews_7 : decode cX7_sews 7 = .ok (.iaload, 1) := by decide +kernel
theorem dX7_sews_8 : decode cX7_sews 8 = .ok (.istore_n 2, 1) := by decide +kernel
theorem dX7_sews_9 : decode cX7_sews 9 = .ok (.iload_n 1, 1) := by decide +kernel
theorem dX7_sews_10 : decode cX7_sews 10 = .ok (.invokestatic 81, 3) := by decide +kernel
theorem dX7_sews_13 : decode cX7_sews 13 = .ok (.ifCond .ne 5, 3) := by decide +kernel
theorem dX7_sews_16 : decode cX7_sews 16 = .ok (.iconst (-1), 1) := by decide +kernel
theorem dX7_sews_17 : decode cX7_sews 17 = .ok (.ireturn, 1) := by decide +kernel
theorem dX7_sews_18 : decode cX7_sews 18 = .ok (.aload_n 0, 1) := by decide +kernel
theorem dX7_sews_19 : decode cX7_sews 19 = .ok (.iload_n 1, 1) := by decide +kernel
theorem dX7_sews_20 : decode cX7_sews 20 = .ok (.invokevirtual 102, 3) := by decide +kernel
theorem dX7_sews_23 : decode cX7_sews 23 = .ok (.ifCond .eq 16, 3) := by decide +kernel
theorem dX7_sews_26 : decode cX7_sews 26 = .ok (.aload_n 0, 1) := by decide +kernel
theorem dX7_sews_27 : decode cX7_sews 27 = .ok (.getfield 7, 3) := by decide +kernel
theorem dX7_sews_30 : decode cX7_sews 30 = .ok (.iload_n 2, 1) := by decide +kernel
theorem dX7_sews_31 : decode cX7_sews 31 = .ok (.iconst 1, 1) := by decide +kernel
theorem dX7_sews_32 : decode cX7_sews 32 = .ok (.invokestatic 32, 3) := by decide +kernel
theorem dX7_sews_35 : decode cX7_sews 35 = .ok (.iaload, 1) := by decide +kernel
theorem dX7_sews_36 : decode cX7_sews 36 = .ok (.ifCond .ne 6, 3) := by decide +kernel
theorem dX7_sews_39 : decode cX7_sews 39 = .ok (.bipush (-5), 2) := by decide +kernel
theorem dX7_sews_41 : decode cX7_sews 41 = .ok (.ireturn, 1) := by decide +kernel
theorem dX7_sews_42 : decode cX7_sews 42 = .ok (.aload_n 0, 1) := by decide +kernel
theorem dX7_sews_43 : decode cX7_sews 43 = .ok (.getfield 7, 3) := by decide +kernel
theorem dX7_sews_46 : decode cX7_sews 46 = .ok (.iconst 0, 1) := by decide +kernel
theorem dX7_sews_47 : decode cX7_sews 47 = .ok (.iload_n 1, 1) := by decide +kernel
theorem dX7_sews_48 : decode cX7_sews 48 = .ok (.iadd, 1) := by decide +kernel
theorem dX7_sews_49 : decode cX7_sews 49 = .ok (.iconst 2, 1) := by decide +kernel
theorem dX7_sews_50 : decode cX7_sews 50 = .ok (.iastore, 1) := by decide +kernel
theorem dX7_sews_51 : decode cX7_sews 51 = .ok (.aload_n 0, 1) := by decide +kernel
theorem dX7_sews_52 : decode cX7_sews 52 = .ok (.getfield 7, 3) := by decide +kernel
theorem dX7_sews_55 : decode cX7_sews 55 = .ok (.bipush 82, 2) := by decide +kernel
theorem dX7_sews_57 : decode cX7_sews 57 = .ok (.iload_n 1, 1) := by decide +kernel
theorem dX7_sews_58 : decode cX7_sews 58 = .ok (.iadd, 1) := by decide +kernel
theorem dX7_sews_59 : decode cX7_sews 59 = .ok (.iload_n 2, 1) := by decide +kernel
theorem dX7_sews_60 : decode cX7_sews 60 = .ok (.iastore, 1) := by decide +kernel
theorem dX7_sews_61 : decode cX7_sews 61 = .ok (.aload_n 0, 1) := by decide +kernel
theorem dX7_sews_62 : decode cX7_sews 62 = .ok (.getfield 7, 3) := by decide +kernel
theorem dX7_sews_65 : decode cX7_sews 65 = .ok (.iload_n 2, 1) := by decide +kernel
theorem dX7_sews_66 : decode cX7_sews 66 = .ok (.iconst 1, 1) := by decide +kernel
theorem dX7_sews_67 : decode cX7_sews 67 = .ok (.invokestatic 32, 3) := by decide +kernel
theorem dX7_sews_70 : decode cX7_sews 70 = .ok (.dup2, 1) := by decide +kernel
theorem dX7_sews_71 : decode cX7_sews 71 = .ok (.iaload, 1) := by decide +kernel
theorem dX7_sews_72 : decode cX7_sews 72 = .ok (.iconst 1, 1) := by decide +kernel
theorem dX7_sews_73 : decode cX7_sews 73 = .ok (.isub, 1) := by decide +kernel
theorem dX7_sews_74 : decode cX7_sews 74 = .ok (.iastore, 1) := by decide +kernel
theorem dX7_sews_75 : decode cX7_sews 75 = .ok (.aload_n 0, 1) := by decide +kernel
theorem dX7_sews_76 : decode cX7_sews 76 = .ok (.aload_n 0, 1) := by decide +kernel
theorem dX7_sews_77 : decode cX7_sews 77 = .ok (.getfield 7, 3) := by decide +kernel
theorem dX7_sews_80 : decode cX7_sews 80 = .ok (.iload_n 2, 1) := by decide +kernel
theorem dX7_sews_81 : decode cX7_sews 81 = .ok (.iconst 1, 1) := by decide +kernel
theorem dX7_sews_82 : decode cX7_sews 82 = .ok (.invokestatic 32, 3) := by decide +kernel
theorem dX7_sews_85 : decode cX7_sews 85 = .ok (.iaload, 1) := by decide +kernel
theorem dX7_sews_86 : decode cX7_sews 86 = .ok (.invokevirtual 92, 3) := by decide +kernel
theorem dX7_sews_89 : decode cX7_sews 89 = .ok (.ireturn, 1) := by decide +kernel
def ch_wsX7_many : List (List Cond) := [[.code yX7_many cX7_many 4 (some .int)], [.fieldLink RX7 7 "TailorChalksModel" "s" "[I", .methodLink RX7 51 yX7_isVoid, .instanceMethod yX7_isVoid, .selects RX7 yX7_isVoid yX7_isVoid, .initialized RX7, .code yX7_isVoid cX7_isVoid 2 (some .boolean), .methodLink RX7 40 yX7_first, .static yX7_first, .code yX7_first cX7_first 1 (some .int), .methodLink RX7 44 yX7_isGone, .instanceMethod yX7_isGone, .selects RX7 yX7_isGone yX7_isGone, .code yX7_isGone cX7_isGone 2 (some .boolean), .methodLink RX7 48 yX7_second, .static yX7_second, .code yX7_second cX7_second 1 (some .int)], wsX70]
set_option maxRecDepth 20000 in
theorem hf_wsX7_many : wsX7_many = (ch_wsX7_many).flatten := rfl
set_option maxRecDepth 20000 in
theorem hg_wsX7_many : (wsX7_many).all goodWord = true := by decide +kernel
set_option maxRecDepth 20000 in
theorem gX7_many_X7_isVoid : GoodIn wsX7_many (wsV RX7 51 RX7 yX7_isVoid wsX7_isVoid) := goodIn_c ch_wsX7_many hf_wsX7_many hg_wsX7_many _ [(1, 1), (1, 2), (1, 3), (1, 4), (1, 5), (1, 6), (1, 7), (1, 4), (1, 8), (1, 9), (1, 10), (1, 11), (1, 12), (1, 0), (1, 13), (1, 14), (1, 15), (2, 0), (2, 1), (2, 2), (2, 3), (2, 4), (2, 5), (2, 6), (2, 7), (2, 8)] rfl
theorem dX7_many_0 : decode cX7_many 0 = .ok (.iconst 0, 1) := by decide +kernel
theorem dX7_many_1 : decode cX7_many 1 = .ok (.istore_n 2, 1) := by decide +kernel
theorem dX7_many_2 : decode cX7_many 2 = .ok (.iconst 0, 1) := by decide +kernel
theorem dX7_many_3 : decode cX7_many 3 = .ok (.istore_n 3, 1) := by decide +kernel
theorem dX7_many_4 : decode cX7_many 4 = .ok (.iload_n 3, 1) := by decide +kernel
theorem dX7_many_5 : decode cX7_many 5 = .ok (.bipush 82, 2) := by decide +kernel
theorem dX7_many_7 : decode cX7_many 7 = .ok (.if_icmp .ge 37, 3) := by decide +kernel
theorem dX7_many_10 : decode cX7_many 10 = .ok (.iload_n 2, 1) := by decide +kernel
theorem dX7_many_11 : decode cX7_many 11 = .ok (.aload_n 0, 1) := by decide +kernel
theorem dX7_many_12 : decode cX7_many 12 = .ok (.getfield 7, 3) := by decide +kernel
theorem dX7_many_15 : decode cX7_many 15 = .ok (.iconst 0, 1) := by decide +kernel
theorem dX7_many_16 : decode cX7_many 16 = .ok (.iload_n 3, 1) := by decide +kernel
theorem dX7_many_17 : decode cX7_many 17 = .ok (.iadd, 1) := by decide +kernel
theorem dX7_many_18 : decode cX7_many 18 = .ok (.iaload, 1) := by decide +kernel
theorem dX7_many_19 : decode cX7_many 19 = .ok (.iload_n 1, 1) := by decide +kernel
theorem dX7_many_20 : decode cX7_many 20 = .ok (.if_icmp .ne 15, 3) := by decide +kernel
theorem dX7_many_23 : decode cX7_many 23 = .ok (.aload_n 0, 1) := by decide +kernel
theorem dX7_many_24 : decode cX7_many 24 = .ok (.iload_n 3, 1) := by decide +kernel
theorem dX7_many_25 : decode cX7_many 25 = .ok (.invokevirtual 51, 3) := by decide +kernel
theorem dX7_many_28 : decode cX7_many 28 = .ok (.ifCond .ne 7, 3) := by decide +kernel
theorem dX7_many_31 : decode cX7_many 31 = .ok (.iconst 1, 1) := by decide +kernel
theorem dX7_many_32 : decode cX7_many 32 = .ok (.goto 4, 3) := by decide +kernel
theorem dX7_many_35 : decode cX7_many 35 = .ok (.iconst 0, 1) := by decide +kernel
theorem dX7_many_36 : decode cX7_many 36 = .ok (.iadd, 1) := by decide +kernel
theorem dX7_many_37 : decode cX7_many 37 = .ok (.istore_n 2, 1) := by decide +kernel
theorem dX7_many_38 : decode cX7_many 38 = .ok (.iinc 3 1, 3) := by decide +kernel
theorem dX7_many_41 : decode cX7_many 41 = .ok (.goto (-37), 3) := by decide +kernel
theorem dX7_many_44 : decode cX7_many 44 = .ok (.iload_n 2, 1) := by decide +kernel
theorem dX7_many_45 : decode cX7_many 45 = .ok (.ireturn, 1) := by decide +kernel
def ch_wsX7_bluffs : List (List Cond) := [[.code yX7_bluffs cX7_bluffs 2 (some .int)], wsX7_bluffs_r1, wsX7_bluffs_r2, wsX70]
set_option maxRecDepth 20000 in
theorem hf_wsX7_bluffs : wsX7_bluffs = (ch_wsX7_bluffs).flatten := rfl
set_option maxRecDepth 20000 in
theorem hg_wsX7_bluffs : (wsX7_bluffs).all goodWord = true := by decide +kernel
set_option maxRecDepth 20000 in
theorem gX7_bluffs_X7_isJoint : GoodIn wsX7_bluffs (va_wsS RX7 81 yX7_isJoint wsX7_isJoint) := goodIn_c ch_wsX7_bluffs hf_wsX7_bluffs hg_wsX7_bluffs _ [(1, 1), (1, 2), (1, 3), (1, 4), (1, 5), (1, 6), (1, 3), (1, 7)] rfl
set_option maxRecDepth 20000 in
theorem gX7_bluffs_X7_isCut : GoodIn wsX7_bluffs (wsV RX7 102 RX7 yX7_isCut wsX7_isCut) := goodIn_c ch_wsX7_bluffs hf_wsX7_bluffs hg_wsX7_bluffs _ [(1, 8), (1, 9), (1, 10), (1, 3), (1, 11), (1, 0), (1, 12), (1, 13), (1, 14), (1, 3), (1, 15), (1, 16), (1, 17), (1, 18), (1, 19), (1, 20), (1, 21), (1, 22), (1, 23), (2, 0), (2, 1), (2, 2), (2, 3), (2, 4), (2, 5), (2, 6), (2, 7), (2, 8), (2, 9), (3, 0), (3, 1), (3, 2), (3, 3), (3, 4), (3, 5), (3, 6), (3, 7), (3, 8)] rfl
set_option maxRecDepth 20000 in
theorem gX7_bluffs_X7_many : GoodIn wsX7_bluffs (wsV RX7 105 RX7 yX7_many wsX7_many) := goodIn_c ch_wsX7_bluffs hf_wsX7_bluffs hg_wsX7_bluffs _ [(2, 10), (2, 11), (2, 12), (1, 3), (2, 13), (1, 0), (2, 0), (2, 1), (2, 2), (1, 3), (2, 3), (2, 4), (2, 5), (2, 6), (1, 20), (1, 21), (1, 22), (1, 23), (2, 7), (2, 8), (2, 9), (3, 0), (3, 1), (3, 2), (3, 3), (3, 4), (3, 5), (3, 6), (3, 7), (3, 8)] rfl
set_option maxRecDepth 20000 in
theorem gX7_bluffs_X7_ends : GoodIn wsX7_bluffs (wsV RX7 92 RX7 yX7_ends wsX7_ends) := goodIn_c ch_wsX7_bluffs hf_wsX7_bluffs hg_wsX7_bluffs _ [(2, 14), (2, 15), (2, 16), (1, 3), (2, 17), (1, 0), (3, 0), (3, 1), (3, 2), (3, 3), (3, 4), (3, 5), (3, 6), (3, 7), (3, 8)] rfl
theorem dX7_bluffs_0 : decode cX7_bluffs 0 = .ok (.iload_n 1, 1) := by decide +kernel
theorem dX7_bluffs_1 : decode cX7_bluffs 1 = .ok (.invokestatic 81, 3) := by decide +kernel
theorem dX7_bluffs_4 : decode cX7_bluffs 4 = .ok (.ifCond .ne 5, 3) := by decide +kernel
theorem dX7_bluffs_7 : decode cX7_bluffs 7 = .ok (.iconst (-1), 1) := by decide +kernel
theorem dX7_bluffs_8 : decode cX7_bluffs 8 = .ok (.ireturn, 1) := by decide +kernel
theorem dX7_bluffs_9 : decode cX7_bluffs 9 = .ok (.aload_n 0, 1) := by decide +kernel
theorem dX7_bluffs_10 : decode cX7_bluffs 10 = .ok (.iload_n 1, 1) := by decide +kernel
theorem dX7_bluffs_11 : decode cX7_bluffs 11 = .ok (.invokevirtual 102, 3) := by decide +kernel
theorem dX7_bluffs_14 : decode cX7_bluffs 14 = .ok (.ifCond .ne 6, 3) := by decide +kernel
theorem dX7_bluffs_17 : decode cX7_bluffs 17 = .ok (.bipush (-5), 2) := by decide +kernel
theorem dX7_bluffs_19 : decode cX7_bluffs 19 = .ok (.ireturn, 1) := by decide +kernel
theorem dX7_bluffs_20 : decode cX7_bluffs 20 = .ok (.aload_n 0, 1) := by decide +kernel
theorem dX7_bluffs_21 : decode cX7_bluffs 21 = .ok (.getfield 7, 3) := by decide +kernel
theorem dX7_bluffs_24 : decode cX7_bluffs 24 = .ok (.iconst 0, 1) := by decide +kernel
theorem dX7_bluffs_25 : decode cX7_bluffs 25 = .ok (.iload_n 1, 1) := by decide +kernel
theorem dX7_bluffs_26 : decode cX7_bluffs 26 = .ok (.iadd, 1) := by decide +kernel
theorem dX7_bluffs_27 : decode cX7_bluffs 27 = .ok (.iconst 3, 1) := by decide +kernel
theorem dX7_bluffs_28 : decode cX7_bluffs 28 = .ok (.iastore, 1) := by decide +kernel
theorem dX7_bluffs_29 : decode cX7_bluffs 29 = .ok (.aload_n 0, 1) := by decide +kernel
theorem dX7_bluffs_30 : decode cX7_bluffs 30 = .ok (.getfield 7, 3) := by decide +kernel
theorem dX7_bluffs_33 : decode cX7_bluffs 33 = .ok (.bipush 82, 2) := by decide +kernel
theorem dX7_bluffs_35 : decode cX7_bluffs 35 = .ok (.iload_n 1, 1) := by decide +kernel
theorem dX7_bluffs_36 : decode cX7_bluffs 36 = .ok (.iadd, 1) := by decide +kernel
theorem dX7_bluffs_37 : decode cX7_bluffs 37 = .ok (.aload_n 0, 1) := by decide +kernel
theorem dX7_bluffs_38 : decode cX7_bluffs 38 = .ok (.getfield 7, 3) := by decide +kernel
theorem dX7_bluffs_41 : decode cX7_bluffs 41 = .ok (.sipush 245, 3) := by decide +kernel
theorem dX7_bluffs_44 : decode cX7_bluffs 44 = .ok (.iaload, 1) := by decide +kernel
theorem dX7_bluffs_45 : decode cX7_bluffs 45 = .ok (.iastore, 1) := by decide +kernel
theorem dX7_bluffs_46 : decode cX7_bluffs 46 = .ok (.aload_n 0, 1) := by decide +kernel
theorem dX7_bluffs_47 : decode cX7_bluffs 47 = .ok (.aload_n 0, 1) := by decide +kernel
theorem dX7_bluffs_48 : decode cX7_bluffs 48 = .ok (.iconst 3, 1) := by decide +kernel
theorem dX7_bluffs_49 : decode cX7_bluffs 49 = .ok (.invokevirtual 105, 3) := by decide +kernel
theorem dX7_bluffs_52 : decode cX7_bluffs 52 = .ok (.invokevirtual 92, 3) := by decide +kernel
theorem dX7_bluffs_55 : decode cX7_bluffs 55 = .ok (.ireturn, 1) := by decide +kernel
def ch_wsX7_doubts : List (List Cond) := [[.code yX7_doubts cX7_doubts 4 (some .int)], wsX7_doubts_r1, wsX7_doubts_r2, wsX70]
set_option maxRecDepth 20000 in
theorem hf_wsX7_doubts : wsX7_doubts = (ch_wsX7_doubts).flatten := rfl
set_option maxRecDepth 20000 in
theorem hg_wsX7_doubts : (wsX7_doubts).all goodWord = true := by decide +kernel
set_option maxRecDepth 20000 in
theorem gX7_doubts_X7_isJoint : GoodIn wsX7_doubts (va_wsS RX7 81 yX7_isJoint wsX7_isJoint) := goodIn_c ch_wsX7_doubts hf_wsX7_doubts hg_wsX7_doubts _ [(1, 1), (1, 2), (1, 3), (1, 4), (1, 5), (1, 6), (1, 3), (1, 7)] rfl
set_option maxRecDepth 20000 in
theorem gX7_doubts_X7_isOver : GoodIn wsX7_doubts (wsV RX7 84 RX7 yX7_isOver wsX7_isOver) := goodIn_c ch_wsX7_doubts hf_wsX7_doubts hg_wsX7_doubts _ [(1, 8), (1, 9), (1, 10), (1, 3), (1, 11), (1, 0), (1, 12), (1, 13), (1, 14), (1, 3), (1, 15), (1, 16), (1, 17), (1, 18), (1, 19), (3, 0), (3, 1), (3, 2), (3, 3), (3, 4), (3, 5), (3, 6), (3, 7), (3, 8)] rfl
set_option maxRecDepth 20000 in
theorem gX7_doubts_X7_isVoid : GoodIn wsX7_doubts (wsV RX7 51 RX7 yX7_isVoid wsX7_isVoid) := goodIn_c ch_wsX7_doubts hf_wsX7_doubts hg_wsX7_doubts _ [(1, 20), (1, 21), (1, 22), (1, 3), (1, 23), (2, 0), (2, 1), (1, 3), (2, 2), (1, 16), (1, 17), (1, 18), (1, 19), (1, 0), (2, 3), (2, 4), (2, 5), (3, 0), (3, 1), (3, 2), (3, 3), (3, 4), (3, 5), (3, 6), (3, 7), (3, 8)] rfl
set_option maxRecDepth 20000 in
theorem gX7_doubts_X7_at : GoodIn wsX7_doubts (va_wsS RX7 32 yX7_at wsX7_at) := goodIn_c ch_wsX7_doubts hf_wsX7_doubts hg_wsX7_doubts _ [(2, 6), (2, 7), (1, 3), (2, 8)] rfl
set_option maxRecDepth 20000 in
theorem gX7_doubts_X7_ends : GoodIn wsX7_doubts (wsV RX7 92 RX7 yX7_ends wsX7_ends) := goodIn_c ch_wsX7_doubts hf_wsX7_doubts hg_wsX7_doubts _ [(2, 9), (2, 10), (2, 11), (1, 3), (2, 12), (1, 0), (3, 0), (3, 1), (3, 2), (3, 3), (3, 4), (3, 5), (3, 6), (3, 7), (3, 8)] rfl
theorem dX7_doubts_0 : decode cX7_doubts 0 = .ok (.aload_n 0, 1) := by decide +kernel
theorem dX7_doubts_1 : decode cX7_doubts 1 = .ok (.getfield 7, 3) := by decide +kernel
theorem dX7_doubts_4 : decode cX7_doubts 4 = .ok (.sipush 245, 3) := by decide +kernel
theorem dX7_doubts_7 : decode cX7_doubts 7 = .ok (.iaload, 1) := by decide +kernel
theorem dX7_doubts_8 : decode cX7_doubts 8 = .ok (.istore_n 2, 1) := by decide +kernel
theorem dX7_doubts_9 : decode cX7_doubts 9 = .ok (.iload_n 1, 1) := by decide +kernel
theorem dX7_doubts_10 : decode cX7_doubts 10 = .ok (.invokestatic 81, 3) := by decide +kernel
theorem dX7_doubts_13 : decode cX7_doubts 13 = .ok (.ifCond .ne 5, 3) := by decide +kernel
theorem dX7_doubts_16 : decode cX7_doubts 16 = .ok (.iconst (-1), 1) := by decide +kernel
theorem dX7_doubts_17 : decode cX7_doubts 17 = .ok (.ireturn, 1) := by decide +kernel
theorem dX7_doubts_18 : decode cX7_doubts 18 = .ok (.aload_n 0, 1) := by decide +kernel
theorem dX7_doubts_19 : decode cX7_doubts 19 = .ok (.invokevirtual 84, 3) := by decide +kernel
theorem dX7_doubts_22 : decode cX7_doubts 22 = .ok (.ifCond .ne 26, 3) := by decide +kernel
theorem dX7_doubts_25 : decode cX7_doubts 25 = .ok (.aload_n 0, 1) := by decide +kernel
theorem dX7_doubts_26 : decode cX7_doubts 26 = .ok (.iload_n 1, 1) := by decide +kernel
theorem dX7_doubts_27 : decode cX7_doubts 27 = .ok (.invokevirtual 51, 3) := by decide +kernel
theorem dX7_doubts_30 : decode cX7_doubts 30 = .ok (.ifCond .ne 18, 3) := by decide +kernel
theorem dX7_doubts_33 : decode cX7_doubts 33 = .ok (.aload_n 0, 1) := by decide +kernel
theorem dX7_doubts_34 : decode cX7_doubts 34 = .ok (.getfield 7, 3) := by decide +kernel
theorem dX7_doubts_37 : decode cX7_doubts 37 = .ok (.bipush 82, 2) := by decide +kernel
theorem dX7_doubts_39 : decode cX7_doubts 39 = .ok (.iload_n 1, 1) := by decide +kernel
theorem dX7_doubts_40 : decode cX7_doubts 40 = .ok (.iadd, 1) := by decide +kernel
theorem dX7_doubts_41 : decode cX7_doubts 41 = .ok (.iaload, 1) := by decide +kernel
theorem dX7_doubts_42 : decode cX7_doubts 42 = .ok (.iconst 1, 1) := by decide +kernel
theorem dX7_doubts_43 : decode cX7_doubts 43 = .ok (.iload_n 2, 1) := by decide +kernel
theorem dX7_doubts_44 : decode cX7_doubts 44 = .ok (.isub, 1) := by decide +kernel
theorem dX7_doubts_45 : decode cX7_doubts 45 = .ok (.if_icmp .eq 6, 3) := by decide +kernel
theorem dX7_doubts_48 : decode cX7_doubts 48 = .ok (.bipush (-5), 2) := by decide +kernel
theorem dX7_doubts_50 : decode cX7_doubts 50 = .ok (.ireturn, 1) := by decide +kernel
theorem dX7_doubts_51 : decode cX7_doubts 51 = .ok (.aload_n 0, 1) := by decide +kernel
theorem dX7_doubts_52 : decode cX7_doubts 52 = .ok (.getfield 7, 3) := by decide +kernel
theorem dX7_doubts_55 : decode cX7_doubts 55 = .ok (.iconst 0, 1) := by decide +kernel
theorem dX7_doubts_56 : decode cX7_doubts 56 = .ok (.iload_n 1, 1) := by decide +kernel
theorem dX7_doubts_57 : decode cX7_doubts 57 = .ok (.iadd, 1) := by decide +kernel
theorem dX7_doubts_58 : decode cX7_doubts 58 = .ok (.iaload, 1) := by decide +kernel
theorem dX7_doubts_59 : decode cX7_doubts 59 = .ok (.iconst 3, 1) := by decide +kernel
theorem dX7_doubts_60 : decode cX7_doubts 60 = .ok (.if_icmp .ne 7, 3) := by decide +kernel
theorem dX7_doubts_63 : decode cX7_doubts 63 = .ok (.iconst 1, 1) := by decide +kernel
theorem dX7_doubts_64 : decode cX7_doubts 64 = .ok (.goto 4, 3) := by decide +kernel
theorem dX7_doubts_67 : decode cX7_doubts 67 = .ok (.iconst 0, 1) := by decide +kernel
theorem dX7_doubts_68 : decode cX7_doubts 68 = .ok (.istore_n 3, 1) := by decide +kernel
theorem dX7_doubts_69 : decode cX7_doubts 69 = .ok (.aload_n 0, 1) := by decide +kernel
theorem dX7_doubts_70 : decode cX7_doubts 70 = .ok (.getfield 7, 3) := by decide +kernel
theorem dX7_doubts_73 : decode cX7_doubts 73 = .ok (.bipush 82, 2) := by decide +kernel
theorem dX7_doubts_75 : decode cX7_doubts 75 = .ok (.iload_n 1, 1) := by decide +kernel
theorem dX7_doubts_76 : decode cX7_doubts 76 = .ok (.iadd, 1) := by decide +kernel
theorem dX7_doubts_77 : decode cX7_doubts 77 = .ok (.bipush (-6), 2) := by decide +kernel
theorem dX7_doubts_79 : decode cX7_doubts 79 = .ok (.iastore, 1) := by decide +kernel
theorem dX7_doubts_80 : decode cX7_doubts 80 = .ok (.aload_n 0, 1) := by decide +kernel
theorem dX7_doubts_81 : decode cX7_doubts 81 = .ok (.getfield 7, 3) := by decide +kernel
theorem dX7_doubts_84 : decode cX7_doubts 84 = .ok (.iconst 0, 1) := by decide +kernel
theorem dX7_doubts_85 : decode cX7_doubts 85 = .ok (.iload_n 1, 1) := by decide +kernel
theorem dX7_doubts_86 : decode cX7_doubts 86 = .ok (.iadd, 1) := by decide +kernel
theorem dX7_doubts_87 : decode cX7_doubts 87 = .ok (.iload_n 3, 1) := by decide +kernel
theorem dX7_doubts_88 : decode cX7_doubts 88 = .ok (.ifCond .eq 7, 3) := by decide +kernel
theorem dX7_doubts_91 : decode cX7_doubts 91 = .ok (.iconst 1, 1) := by decide +kernel
theorem dX7_doubts_92 : decode cX7_doubts 92 = .ok (.goto 4, 3) := by decide +kernel
theorem dX7_doubts_95 : decode cX7_doubts 95 = .ok (.iconst 2, 1) := by decide +kernel
theorem dX7_doubts_96 : decode cX7_doubts 96 = .ok (.iastore, 1) := by decide +kernel
theorem dX7_doubts_97 : decode cX7_doubts 97 = .ok (.aload_n 0, 1) := by decide +kernel
theorem dX7_doubts_98 : decode cX7_doubts 98 = .ok (.getfield 7, 3) := by decide +kernel
theorem dX7_doubts_101 : decode cX7_doubts 101 = .ok (.iload_n 2, 1) := by decide +kernel
theorem dX7_doubts_102 : decode cX7_doubts 102 = .ok (.iconst 0, 1) := by decide +kernel
theorem dX7_doubts_103 : decode cX7_doubts 103 = .ok (.invokestatic 32, 3) := by decide +kernel
theorem dX7_doubts_106 : decode cX7_doubts 106 = .ok (.dup2, 1) := by decide +kernel
theorem dX7_doubts_107 : decode cX7_doubts 107 = .ok (.iaload, 1) := by decide +kernel
theorem dX7_doubts_108 : decode cX7_doubts 108 = .ok (.iload_n 3, 1) := by decide +kernel
theorem dX7_doubts_109 : decode cX7_doubts 109 = .ok (.ifCond .eq 7, 3) := by decide +kernel
theorem dX7_doubts_112 : decode cX7_doubts 112 = .ok (.iconst 2, 1) := by decide +kernel
theorem dX7_doubts_113 : decode cX7_doubts 113 = .ok (.goto 5, 3) := by decide +kernel
theorem dX7_doubts_116 : decode cX7_doubts 116 = .ok (.bipush (-2), 2) := by decide +kernel
theorem dX7_doubts_118 : decode cX7_doubts 118 = .ok (.iadd, 1) := by decide +kernel
theorem dX7_doubts_119 : decode cX7_doubts 119 = .ok (.iastore, 1) := by decide +kernel
theorem dX7_doubts_120 : decode cX7_doubts 120 = .ok (.aload_n 0, 1) := by decide +kernel
theorem dX7_doubts_121 : decode cX7_doubts 121 = .ok (.getfield 7, 3) := by decide +kernel
theorem dX7_doubts_124 : decode cX7_doubts 124 = .ok (.iload_n 2, 1) := by decide +kernel
theorem dX7_doubts_125 : decode cX7_doubts 125 = .ok (.iload_n 3, 1) := by decide +kernel
theorem dX7_doubts_126 : decode cX7_doubts 126 = .ok (.ifCond .eq 8, 3) := by decide +kernel
theorem dX7_doubts_129 : decode cX7_doubts 129 = .ok (.bipush 6, 2) := by decide +kernel
theorem dX7_doubts_131 : decode cX7_doubts 131 = .ok (.goto 5, 3) := by decide +kernel
theorem dX7_doubts_134 : decode cX7_doubts 134 = .ok (.bipush 7, 2) := by decide +kernel
theorem dX7_doubts_136 : decode cX7_doubts 136 = .ok (.invokestatic 32, 3) := by decide +kernel
theorem dX7_doubts_139 : decode cX7_doubts 139 = .ok (.dup2, 1) := by decide +kernel
theorem dX7_doubts_140 : decode cX7_doubts 140 = .ok (.iaload, 1) := by decide +kernel
theorem dX7_doubts_141 : decode cX7_doubts 141 = .ok (.iconst 1, 1) := by decide +kernel
theorem dX7_doubts_142 : decode cX7_doubts 142 = .ok (.iadd, 1) := by decide +kernel
theorem dX7_doubts_143 : decode cX7_doubts 143 = .ok (.iastore, 1) := by decide +kernel
theorem dX7_doubts_144 : decode cX7_doubts 144 = .ok (.aload_n 0, 1) := by decide +kernel
theorem dX7_doubts_145 : decode cX7_doubts 145 = .ok (.iload_n 3, 1) := by decide +kernel
theorem dX7_doubts_146 : decode cX7_doubts 146 = .ok (.ifCond .eq 7, 3) := by decide +kernel
theorem dX7_doubts_149 : decode cX7_doubts 149 = .ok (.iconst 1, 1) := by decide +kernel
theorem dX7_doubts_150 : decode cX7_doubts 150 = .ok (.goto 4, 3) := by decide +kernel
theorem dX7_doubts_153 : decode cX7_doubts 153 = .ok (.iconst 0, 1) := by decide +kernel
theorem dX7_doubts_154 : decode cX7_doubts 154 = .ok (.invokevirtual 92, 3) := by decide +kernel
theorem dX7_doubts_157 : decode cX7_doubts 157 = .ok (.ireturn, 1) := by decide +kernel
def ch_wsX7_passes : List (List Cond) := [[.code yX7_passes cX7_passes 1 (some .int)], [.fieldLink RX7 7 "TailorChalksModel" "s" "[I", .methodLink RX7 84 yX7_isOver, .instanceMethod yX7_isOver, .selects RX7 yX7_isOver yX7_isOver, .initialized RX7, .code yX7_isOver cX7_isOver 1 (some .boolean), .methodLink RX7 71 yX7_left, .instanceMethod yX7_left, .selects RX7 yX7_left yX7_left, .code yX7_left cX7_left 3 (some .int), .methodLink RX7 44 yX7_isGone, .instanceMethod yX7_isGone, .selects RX7 yX7_isGone yX7_isGone, .code yX7_isGone cX7_isGone 2 (some .boolean), .methodLink RX7 92 yX7_ends, .instanceMethod yX7_ends, .selects RX7 yX7_ends yX7_ends, .code yX7_ends cX7_ends 2 (some .int)], wsX70]
set_option maxRecDepth 20000 in
theorem hf_wsX7_passes : wsX7_passes = (ch_wsX7_passes).flatten := rfl
set_option maxRecDepth 20000 in
theorem hg_wsX7_passes : (wsX7_passes).all goodWord = true := by decide +kernel
set_option maxRecDepth 20000 in
theorem gX7_passes_X7_isOver : GoodIn wsX7_passes (wsV RX7 84 RX7 yX7_isOver wsX7_isOver) := goodIn_c ch_wsX7_passes hf_wsX7_passes hg_wsX7_passes _ [(1, 1), (1, 2), (1, 3), (1, 4), (1, 5), (1, 0), (1, 6), (1, 7), (1, 8), (1, 4), (1, 9), (1, 10), (1, 11), (1, 12), (1, 13), (2, 0), (2, 1), (2, 2), (2, 3), (2, 4), (2, 5), (2, 6), (2, 7), (2, 8)] rfl
set_option maxRecDepth 20000 in
theorem gX7_passes_X7_ends : GoodIn wsX7_passes (wsV RX7 92 RX7 yX7_ends wsX7_ends) := goodIn_c ch_wsX7_passes hf_wsX7_passes hg_wsX7_passes _ [(1, 14), (1, 15), (1, 16), (1, 4), (1, 17), (1, 0), (2, 0), (2, 1), (2, 2), (2, 3), (2, 4), (2, 5), (2, 6), (2, 7), (2, 8)] rfl
theorem dX7_passes_0 : decode cX7_passes 0 = .ok (.aload_n 0, 1) := by decide +kernel
theorem dX7_passes_1 : decode cX7_passes 1 = .ok (.invokevirtual 84, 3) := by decide +kernel
theorem dX7_passes_4 : decode cX7_passes 4 = .ok (.ifCond .eq 8, 3) := by decide +kernel
theorem dX7_passes_7 : decode cX7_passes 7 = .ok (.bipush (-5), 2) := by decide +kernel
theorem dX7_passes_9 : decode cX7_passes 9 = .ok (.goto 17, 3) := by decide +kernel
theorem dX7_passes_12 : decode cX7_passes 12 = .ok (.aload_n 0, 1) := by decide +kernel
theorem dX7_passes_13 : decode cX7_passes 13 = .ok (.iconst 1, 1) := by decide +kernel
theorem dX7_passes_14 : decode cX7_passes 14 = .ok (.aload_n 0, 1) := by decide +kernel
theorem dX7_passes_15 : decode cX7_passes 15 = .ok (.getfield 7, 3) := by decide +kernel
theorem dX7_passes_18 : decode cX7_passes 18 = .ok (.sipush 245, 3) := by decide +kernel
theorem dX7_passes_21 : decode cX7_passes 21 = .ok (.iaload, 1) := by decide +kernel
theorem dX7_passes_22 : decode cX7_passes 22 = .ok (.isub, 1) := by decide +kernel
theorem dX7_passes_23 : decode cX7_passes 23 = .ok (.invokevirtual 92, 3) := by decide +kernel
theorem dX7_passes_26 : decode cX7_passes 26 = .ok (.ireturn, 1) := by decide +kernel
def ch_wsX7_does : List (List Cond) := [[.code yX7_does cX7_does 3 (some .int)], wsX7_does_r1, wsX7_does_r2, wsX7_does_r3, wsX7_does_r4, wsX7_does_r5, wsX70]
set_option maxRecDepth 20000 in
theorem hf_wsX7_does : wsX7_does = (ch_wsX7_does).flatten := rfl
set_option maxRecDepth 20000 in
theorem hg_wsX7_does : (wsX7_does).all goodWord = true := by decide +kernel
set_option maxRecDepth 20000 in
theorem gX7_does_X7_chalks : GoodIn wsX7_does (wsV RX7 108 RX7 yX7_chalks wsX7_chalks) := goodIn_c ch_wsX7_does hf_wsX7_does hg_wsX7_does _ [(1, 0), (1, 1), (1, 2), (1, 3), (1, 4), (1, 5), (1, 6), (1, 7), (1, 3), (1, 8), (1, 9), (1, 10), (1, 11), (1, 12), (1, 13), (1, 14), (1, 15), (1, 16), (1, 17), (1, 18), (1, 19), (1, 20), (1, 21), (1, 22), (1, 23), (2, 0), (2, 1), (2, 2), (2, 3), (2, 4), (2, 5), (2, 6), (2, 7), (2, 8), (2, 9), (2, 10), (2, 11), (2, 12), (2, 13), (2, 14), (2, 15), (2, 16), (2, 17), (2, 18), (2, 19), (2, 20), (2, 21), (2, 22), (2, 23), (3, 0), (3, 1), (3, 2), (3, 3), (3, 4), (3, 5), (3, 6), (3, 7), (3, 8), (6, 0), (6, 1), (6, 2), (6, 3), (6, 4), (6, 5), (6, 6), (6, 7), (6, 8)] rfl
set_option maxRecDepth 20000 in
theorem gX7_does_X7_snips : GoodIn wsX7_does (wsV RX7 111 RX7 yX7_snips wsX7_snips) := goodIn_c ch_wsX7_does hf_wsX7_does hg_wsX7_does _ [(3, 9), (3, 10), (3, 11), (1, 3), (3, 12), (1, 5), (3, 13), (1, 6), (1, 7), (1, 3), (1, 8), (1, 9), (1, 10), (1, 11), (3, 14), (3, 15), (3, 16), (3, 17), (1, 12), (1, 13), (1, 14), (1, 15), (1, 16), (1, 17), (1, 18), (1, 19), (1, 20), (1, 21), (1, 22), (1, 23), (2, 4), (2, 5), (2, 6), (2, 7), (2, 8), (2, 9), (2, 10), (2, 11), (2, 12), (2, 13), (2, 14), (2, 15), (2, 16), (2, 17), (2, 18), (2, 19), (2, 20), (2, 21), (2, 22), (2, 23), (3, 0), (3, 1), (3, 2), (3, 3), (3, 4), (3, 18), (3, 19), (3, 20), (3, 21), (3, 22), (3, 23), (4, 0), (4, 1), (4, 2), (4, 3), (4, 4), (4, 5), (2, 0), (2, 1), (2, 2), (2, 3), (4, 6), (4, 7), (4, 8), (4, 9), (3, 5), (3, 6), (3, 7), (3, 8), (6, 0), (6, 1), (6, 2), (6, 3), (6, 4), (6, 5), (6, 6), (6, 7), (6, 8)] rfl
set_option maxRecDepth 20000 in
theorem gX7_does_X7_sews : GoodIn wsX7_does (wsV RX7 114 RX7 yX7_sews wsX7_sews) := goodIn_c ch_wsX7_does hf_wsX7_does hg_wsX7_does _ [(4, 10), (4, 11), (4, 12), (1, 3), (4, 13), (1, 5), (1, 6), (1, 7), (1, 3), (1, 8), (1, 9), (1, 10), (1, 11), (4, 14), (4, 15), (4, 16), (4, 17), (1, 12), (1, 13), (1, 14), (1, 15), (1, 16), (1, 17), (1, 18), (1, 19), (1, 20), (1, 21), (1, 22), (1, 23), (2, 4), (2, 5), (2, 6), (2, 7), (2, 8), (2, 9), (2, 10), (2, 11), (2, 12), (2, 13), (2, 22), (2, 23), (3, 0), (3, 5), (3, 6), (3, 7), (3, 8), (6, 0), (6, 1), (6, 2), (6, 3), (6, 4), (6, 5), (6, 6), (6, 7), (6, 8)] rfl
set_option maxRecDepth 20000 in
theorem gX7_does_X7_bluffs : GoodIn wsX7_does (wsV RX7 117 RX7 yX7_bluffs wsX7_bluffs) := goodIn_c ch_wsX7_does hf_wsX7_does hg_wsX7_does _ [(4, 18), (4, 19), (4, 20), (1, 3), (4, 21), (1, 5), (1, 6), (1, 7), (1, 3), (1, 8), (1, 9), (1, 10), (1, 11), (4, 14), (4, 15), (4, 16), (4, 17), (1, 12), (1, 13), (1, 14), (1, 15), (1, 16), (1, 17), (1, 18), (1, 19), (1, 20), (1, 21), (1, 22), (1, 23), (2, 4), (2, 5), (2, 6), (2, 7), (2, 8), (2, 9), (2, 10), (2, 11), (2, 12), (2, 13), (4, 22), (4, 23), (5, 0), (5, 1), (3, 5), (3, 6), (3, 7), (3, 8), (6, 0), (6, 1), (6, 2), (6, 3), (6, 4), (6, 5), (6, 6), (6, 7), (6, 8)] rfl
set_option maxRecDepth 20000 in
theorem gX7_does_X7_doubts : GoodIn wsX7_does (wsV RX7 120 RX7 yX7_doubts wsX7_doubts) := goodIn_c ch_wsX7_does hf_wsX7_does hg_wsX7_does _ [(5, 2), (5, 3), (5, 4), (1, 3), (5, 5), (1, 5), (1, 6), (1, 7), (1, 3), (1, 8), (1, 9), (1, 10), (1, 11), (1, 12), (1, 13), (1, 14), (1, 15), (1, 16), (1, 17), (1, 18), (1, 19), (1, 20), (1, 21), (1, 22), (1, 23), (2, 4), (2, 5), (2, 6), (2, 7), (2, 8), (2, 9), (2, 10), (2, 11), (2, 12), (2, 13), (2, 22), (2, 23), (3, 0), (3, 5), (3, 6), (3, 7), (3, 8), (6, 0), (6, 1), (6, 2), (6, 3), (6, 4), (6, 5), (6, 6), (6, 7), (6, 8)] rfl
set_option maxRecDepth 20000 in
theorem gX7_does_X7_passes : GoodIn wsX7_does (wsV RX7 123 RX7 yX7_passes wsX7_passes) := goodIn_c ch_wsX7_does hf_wsX7_does hg_wsX7_does _ [(5, 6), (5, 7), (5, 8), (1, 3), (5, 9), (1, 5), (1, 12), (1, 13), (1, 14), (1, 3), (1, 15), (1, 16), (1, 17), (1, 18), (1, 19), (1, 20), (1, 21), (1, 22), (1, 23), (3, 5), (3, 6), (3, 7), (3, 8), (6, 0), (6, 1), (6, 2), (6, 3), (6, 4), (6, 5), (6, 6), (6, 7), (6, 8)] rfl
theorem dX7_does_0 : decode cX7_does 0 = .ok (.iload_n 1, 1) := by decide +kernel
theorem dX7_does_1 : decode cX7_does 1 = .ok (.lookupswitch 81 #[(98, 69), (99, 51), (100, 75), (115, 57), (119, 63)], 51) := by decide +kernel
theorem dX7_does_52 : decode cX7_does 52 = .ok (.aload_n 0, 1) := by decide +kernel
theorem dX7_does_53 : decode cX7_does 53 = .ok (.iload_n 2, 1) := by decide +kernel
theorem dX7_does_54 : decode cX7_does 54 = .ok (.invokevirtual 108, 3) := by decide +kernel
theorem dX7_does_57 : decode cX7_does 57 = .ok (.ireturn, 1) := by decide +kernel
theorem dX7_does_58 : decode cX7_does 58 = .ok (.aload_n 0, 1) := by decide +kernel
theorem dX7_does_59 : decode cX7_does 59 = .ok (.iload_n 2, 1) := by decide +kernel
theorem dX7_does_60 : decode cX7_does 60 = .ok (.invokevirtual 111, 3) := by decide +kernel
theorem dX7_does_63 : decode cX7_does 63 = .ok (.ireturn, 1) := by decide +kernel
theorem dX7_does_64 : decode cX7_does 64 = .ok (.aload_n 0, 1) := by decide +kernel
theorem dX7_does_65 : decode cX7_does 65 = .ok (.iload_n 2, 1) := by decide +kernel
theorem dX7_does_66 : decode cX7_does 66 = .ok (.invokevirtual 114, 3) := by decide +kernel
theorem dX7_does_69 : decode cX7_does 69 = .ok (.ireturn, 1) := by decide +kernel
theorem dX7_does_70 : decode cX7_does 70 = .ok (.aload_n 0, 1) := by decide +kernel
theorem dX7_does_71 : decode cX7_does 71 = .ok (.iload_n 2, 1) := by decide +kernel
theorem dX7_does_72 : decode cX7_does 72 = .ok (.invokevirtual 117, 3) := by decide +kernel
theorem dX7_does_75 : decode cX7_does 75 = .ok (.ireturn, 1) := by decide +kernel
theorem dX7_does_76 : decode cX7_does 76 = .ok (.aload_n 0, 1) := by decide +kernel
theorem dX7_does_77 : decode cX7_does 77 = .ok (.iload_n 2, 1) := by decide +kernel
theorem dX7_does_78 : decode cX7_does 78 = .ok (.invokevirtual 120, 3) := by decide +kernel
theorem dX7_does_81 : decode cX7_does 81 = .ok (.ireturn, 1) := by decide +kernel
theorem dX7_does_82 : decode cX7_does 82 = .ok (.aload_n 0, 1) := by decide +kernel
theorem dX7_does_83 : decode cX7_does 83 = .ok (.invokevirtual 123, 3) := by decide +kernel
theorem dX7_does_86 : decode cX7_does 86 = .ok (.ireturn, 1) := by decide +kernel
def ch_wsX7_turns : List (List Cond) := [[.code yX7_turns cX7_turns 4 (some .int)], wsX7_turns_r1, wsX7_turns_r2, wsX7_turns_r3, wsX7_turns_r4, wsX7_turns_r5, wsX7_turns_r6, wsX70]
set_option maxRecDepth 20000 in
theorem hf_wsX7_turns : wsX7_turns = (ch_wsX7_turns).flatten := rfl
set_option maxRecDepth 20000 in
theorem hg_wsX7_turns : (wsX7_turns).all goodWord = true := by decide +kernel
set_option maxRecDepth 20000 in
theorem gX7_turns_X7_looks : GoodIn wsX7_turns (wsV RX7 126 RX7 yX7_looks wsX7_looks) := goodIn_c ch_wsX7_turns hf_wsX7_turns hg_wsX7_turns _ [(1, 0), (1, 1), (1, 2), (1, 3), (1, 4), (1, 5), (1, 6), (7, 0), (7, 1), (7, 2), (7, 3), (7, 4), (7, 5), (7, 6), (7, 7), (7, 8)] rfl
set_option maxRecDepth 20000 in
theorem gX7_turns_X7_does : GoodIn wsX7_turns (wsV RX7 129 RX7 yX7_does wsX7_does) := goodIn_c ch_wsX7_turns hf_wsX7_turns hg_wsX7_turns _ [(1, 7), (1, 8), (1, 9), (1, 3), (1, 10), (1, 11), (1, 12), (1, 13), (1, 3), (1, 14), (1, 6), (1, 15), (1, 16), (1, 17), (1, 18), (1, 19), (1, 20), (1, 21), (1, 22), (1, 23), (2, 0), (2, 1), (2, 2), (2, 3), (2, 4), (2, 5), (2, 6), (2, 7), (2, 8), (2, 9), (2, 10), (2, 11), (2, 12), (2, 13), (2, 14), (2, 15), (2, 16), (2, 17), (2, 18), (2, 19), (2, 20), (2, 21), (2, 22), (2, 23), (3, 0), (3, 1), (3, 2), (3, 3), (3, 4), (3, 5), (3, 6), (3, 7), (3, 8), (3, 9), (3, 10), (3, 11), (3, 12), (3, 13), (3, 14), (3, 15), (3, 16), (3, 17), (3, 18), (3, 19), (3, 20), (3, 21), (3, 22), (3, 23), (4, 0), (4, 1), (4, 2), (4, 3), (4, 4), (4, 5), (4, 6), (4, 7), (4, 8), (4, 9), (4, 10), (4, 11), (4, 12), (4, 13), (4, 14), (4, 15), (4, 16), (4, 17), (4, 18), (4, 19), (4, 20), (4, 21), (4, 22), (4, 23), (5, 0), (5, 1), (5, 2), (5, 3), (5, 4), (5, 5), (5, 6), (5, 7), (5, 8), (5, 9), (5, 10), (5, 11), (5, 12), (5, 13), (5, 14), (5, 15), (5, 16), (5, 17), (5, 18), (7, 0), (7, 1), (7, 2), (7, 3), (7, 4), (7, 5), (7, 6), (7, 7), (7, 8)] rfl
set_option maxRecDepth 20000 in
theorem gX7_turns_X7_records : GoodIn wsX7_turns (wsV RX7 132 RX7 yX7_records wsX7_records) := goodIn_c ch_wsX7_turns hf_wsX7_turns hg_wsX7_turns _ [(5, 19), (5, 20), (5, 21), (1, 3), (5, 22), (5, 23), (6, 0), (1, 5), (7, 0), (7, 1), (7, 2), (7, 3), (7, 4), (7, 5), (7, 6), (7, 7), (7, 8)] rfl
theorem dX7_turns_0 : decode cX7_turns 0 = .ok (.aload_n 0, 1) := by decide +kernel
theorem dX7_turns_1 : decode cX7_turns 1 = .ok (.invokevirtual 126, 3) := by decide +kernel
theorem dX7_turns_4 : decode cX7_turns 4 = .ok (.aload_n 0, 1) := by decide +kernel
theorem dX7_turns_5 : decode cX7_turns 5 = .ok (.iload_n 1, 1) := by decide +kernel
theorem dX7_turns_6 : decode cX7_turns 6 = .ok (.iload_n 2, 1) := by decide +kernel
theorem dX7_turns_7 : decode cX7_turns 7 = .ok (.invokevirtual 129, 3) := by decide +kernel
theorem dX7_turns_10 : decode cX7_turns 10 = .ok (.istore_n 3, 1) := by decide +kernel
theorem dX7_turns_11 : decode cX7_turns 11 = .ok (.iload_n 3, 1) := by decide +kernel
theorem dX7_turns_12 : decode cX7_turns 12 = .ok (.ifCond .lt 7, 3) := by decide +kernel
theorem dX7_turns_15 : decode cX7_turns 15 = .ok (.aload_n 0, 1) := by decide +kernel
theorem dX7_turns_16 : decode cX7_turns 16 = .ok (.invokevirtual 132, 3) := by decide +kernel
theorem dX7_turns_19 : decode cX7_turns 19 = .ok (.iload_n 3, 1) := by decide +kernel
theorem dX7_turns_20 : decode cX7_turns 20 = .ok (.ireturn, 1) := by decide +kernel
def ch_wsX7_chalk : List (List Cond) := [[.code yX7_chalk cX7_chalk 2 (some .int)], wsX7_chalk_r1, wsX7_chalk_r2, wsX7_chalk_r3, wsX7_chalk_r4, wsX7_chalk_r5, wsX7_chalk_r6, wsX70]
set_option maxRecDepth 20000 in
theorem hf_wsX7_chalk : wsX7_chalk = (ch_wsX7_chalk).flatten := rfl
set_option maxRecDepth 20000 in
theorem hg_wsX7_chalk : (wsX7_chalk).all goodWord = true := by decide +kernel
set_option maxRecDepth 20000 in
theorem gX7_chalk_X7_turns : GoodIn wsX7_chalk (wsV RX7 135 RX7 yX7_turns wsX7_turns) := goodIn_c ch_wsX7_chalk hf_wsX7_chalk hg_wsX7_chalk _ [(1, 0), (1, 1), (1, 2), (1, 3), (1, 4), (1, 5), (1, 6), (1, 7), (1, 3), (1, 8), (1, 9), (1, 10), (1, 11), (1, 12), (1, 13), (1, 14), (1, 15), (1, 16), (1, 17), (1, 18), (1, 19), (1, 20), (1, 21), (1, 22), (1, 23), (2, 0), (2, 1), (2, 2), (2, 3), (2, 4), (2, 5), (2, 6), (2, 7), (2, 8), (2, 9), (2, 10), (2, 11), (2, 12), (2, 13), (2, 14), (2, 15), (2, 16), (2, 17), (2, 18), (2, 19), (2, 20), (2, 21), (2, 22), (2, 23), (3, 0), (3, 1), (3, 2), (3, 3), (3, 4), (3, 5), (3, 6), (3, 7), (3, 8), (3, 9), (3, 10), (3, 11), (3, 12), (3, 13), (3, 14), (3, 15), (3, 16), (3, 17), (3, 18), (3, 19), (3, 20), (3, 21), (3, 22), (3, 23), (4, 0), (4, 1), (4, 2), (4, 3), (4, 4), (4, 5), (4, 6), (4, 7), (4, 8), (4, 9), (4, 10), (4, 11), (4, 12), (4, 13), (4, 14), (4, 15), (4, 16), (4, 17), (4, 18), (4, 19), (4, 20), (4, 21), (4, 22), (4, 23), (5, 0), (5, 1), (5, 2), (5, 3), (5, 4), (5, 5), (5, 6), (5, 7), (5, 8), (5, 9), (5, 10), (5, 11), (5, 12), (5, 13), (5, 14), (5, 15), (5, 16), (5, 17), (5, 18), (5, 19), (5, 20), (5, 21), (5, 22), (5, 23), (6, 0), (6, 1), (6, 2), (6, 3), (6, 4), (7, 0), (7, 1), (7, 2), (7, 3), (7, 4), (7, 5), (7, 6), (7, 7), (7, 8)] rfl
theorem dX7_chalk_0 : decode cX7_chalk 0 = .ok (.aload_n 0, 1) := by decide +kernel
theorem dX7_chalk_1 : decode cX7_chalk 1 = .ok (.bipush 99, 2) := by decide +kernel
theorem dX7_chalk_3 : decode cX7_chalk 3 = .ok (.iload_n 1, 1) := by decide +kernel
theorem dX7_chalk_4 : decode cX7_chalk 4 = .ok (.invokevirtual 135, 3) := by decide +kernel
theorem dX7_chalk_7 : decode cX7_chalk 7 = .ok (.ireturn, 1) := by decide +kernel
def ch_wsX7_snip : List (List Cond) := [[.code yX7_snip cX7_snip 2 (some .int)], wsX7_snip_r1, wsX7_snip_r2, wsX7_snip_r3, wsX7_snip_r4, wsX7_snip_r5, wsX7_snip_r6, wsX70]
set_option maxRecDepth 20000 in
theorem hf_wsX7_snip : wsX7_snip = (ch_wsX7_snip).flatten := rfl
set_option maxRecDepth 20000 in
theorem hg_wsX7_snip : (wsX7_snip).all goodWord = true := by decide +kernel
set_option maxRecDepth 20000 in
theorem gX7_snip_X7_turns : GoodIn wsX7_snip (wsV RX7 135 RX7 yX7_turns wsX7_turns) := goodIn_c ch_wsX7_snip hf_wsX7_snip hg_wsX7_snip _ [(1, 0), (1, 1), (1, 2), (1, 3), (1, 4), (1, 5), (1, 6), (1, 7), (1, 3), (1, 8), (1, 9), (1, 10), (1, 11), (1, 12), (1, 13), (1, 14), (1, 15), (1, 16), (1, 17), (1, 18), (1, 19), (1, 20), (1, 21), (1, 22), (1, 23), (2, 0), (2, 1), (2, 2), (2, 3), (2, 4), (2, 5), (2, 6), (2, 7), (2, 8), (2, 9), (2, 10), (2, 11), (2, 12), (2, 13), (2, 14), (2, 15), (2, 16), (2, 17), (2, 18), (2, 19), (2, 20), (2, 21), (2, 22), (2, 23), (3, 0), (3, 1), (3, 2), (3, 3), (3, 4), (3, 5), (3, 6), (3, 7), (3, 8), (3, 9), (3, 10), (3, 11), (3, 12), (3, 13), (3, 14), (3, 15), (3, 16), (3, 17), (3, 18), (3, 19), (3, 20), (3, 21), (3, 22), (3, 23), (4, 0), (4, 1), (4, 2), (4, 3), (4, 4), (4, 5), (4, 6), (4, 7), (4, 8), (4, 9), (4, 10), (4, 11), (4, 12), (4, 13), (4, 14), (4, 15), (4, 16), (4, 17), (4, 18), (4, 19), (4, 20), (4, 21), (4, 22), (4, 23), (5, 0), (5, 1), (5, 2), (5, 3), (5, 4), (5, 5), (5, 6), (5, 7), (5, 8), (5, 9), (5, 10), (5, 11), (5, 12), (5, 13), (5, 14), (5, 15), (5, 16), (5, 17), (5, 18), (5, 19), (5, 20), (5, 21), (5, 22), (5, 23), (6, 0), (6, 1), (6, 2), (6, 3), (6, 4), (7, 0), (7, 1), (7, 2), (7, 3), (7, 4), (7, 5), (7, 6), (7, 7), (7, 8)] rfl
theorem dX7_snip_0 : decode cX7_snip 0 = .ok (.aload_n 0, 1) := by decide +kernel
theorem dX7_snip_1 : decode cX7_snip 1 = .ok (.bipush 115, 2) := by decide +kernel
theorem dX7_snip_3 : decode cX7_snip 3 = .ok (.iload_n 1, 1) := by decide +kernel
theorem dX7_snip_4 : decode cX7_snip 4 = .ok (.invokevirtual 135, 3) := by decide +kernel
theorem dX7_snip_7 : decode cX7_snip 7 = .ok (.ireturn, 1) := by decide +kernel
def ch_wsX7_sew : List (List Cond) := [[.code yX7_sew cX7_sew 2 (some .int)], wsX7_sew_r1, wsX7_sew_r2, wsX7_sew_r3, wsX7_sew_r4, wsX7_sew_r5, wsX7_sew_r6, wsX70]
set_option maxRecDepth 20000 in
theorem hf_wsX7_sew : wsX7_sew = (ch_wsX7_sew).flatten := rfl
set_option maxRecDepth 20000 in
theorem hg_wsX7_sew : (wsX7_sew).all goodWord = true := by decide +kernel
set_option maxRecDepth 20000 in
theorem gX7_sew_X7_turns : GoodIn wsX7_sew (wsV RX7 135 RX7 yX7_turns wsX7_turns) := goodIn_c ch_wsX7_sew hf_wsX7_sew hg_wsX7_sew _ [(1, 0), (1, 1), (1, 2), (1, 3), (1, 4), (1, 5), (1, 6), (1, 7), (1, 3), (1, 8), (1, 9), (1, 10), (1, 11), (1, 12), (1, 13), (1, 14), (1, 15), (1, 16), (1, 17), (1, 18), (1, 19), (1, 20), (1, 21), (1, 22), (1, 23), (2, 0), (2, 1), (2, 2), (2, 3), (2, 4), (2, 5), (2, 6), (2, 7), (2, 8), (2, 9), (2, 10), (2, 11), (2, 12), (2, 13), (2, 14), (2, 15), (2, 16), (2, 17), (2, 18), (2, 19), (2, 20), (2, 21), (2, 22), (2, 23), (3, 0), (3, 1), (3, 2), (3, 3), (3, 4), (3, 5), (3, 6), (3, 7), (3, 8), (3, 9), (3, 10), (3, 11), (3, 12), (3, 13), (3, 14), (3, 15), (3, 16), (3, 17), (3, 18), (3, 19), (3, 20), (3, 21), (3, 22), (3, 23), (4, 0), (4, 1), (4, 2), (4, 3), (4, 4), (4, 5), (4, 6), (4, 7), (4, 8), (4, 9), (4, 10), (4, 11), (4, 12), (4, 13), (4, 14), (4, 15), (4, 16), (4, 17), (4, 18), (4, 19), (4, 20), (4, 21), (4, 22), (4, 23), (5, 0), (5, 1), (5, 2), (5, 3), (5, 4), (5, 5), (5, 6), (5, 7), (5, 8), (5, 9), (5, 10), (5, 11), (5, 12), (5, 13), (5, 14), (5, 15), (5, 16), (5, 17), (5, 18), (5, 19), (5, 20), (5, 21), (5, 22), (5, 23), (6, 0), (6, 1), (6, 2), (6, 3), (6, 4), (7, 0), (7, 1), (7, 2), (7, 3), (7, 4), (7, 5), (7, 6), (7, 7), (7, 8)] rfl
theorem dX7_sew_0 : decode cX7_sew 0 = .ok (.aload_n 0, 1) := by decide +kernel
theorem dX7_sew_1 : decode cX7_sew 1 = .ok (.bipush 119, 2) := by decide +kernel
theorem dX7_sew_3 : decode cX7_sew 3 = .ok (.iload_n 1, 1) := by decide +kernel
theorem dX7_sew_4 : decode cX7_sew 4 = .ok (.invokevirtual 135, 3) := by decide +kernel
theorem dX7_sew_7 : decode cX7_sew 7 = .ok (.ireturn, 1) := by decide +kernel
def ch_wsX7_bluff : List (List Cond) := [[.code yX7_bluff cX7_bluff 2 (some .int)], wsX7_bluff_r1, wsX7_bluff_r2, wsX7_bluff_r3, wsX7_bluff_r4, wsX7_bluff_r5, wsX7_bluff_r6, wsX70]
set_option maxRecDepth 20000 in
theorem hf_wsX7_bluff : wsX7_bluff = (ch_wsX7_bluff).flatten := rfl
set_option maxRecDepth 20000 in
theorem hg_wsX7_bluff : (wsX7_bluff).all goodWord = true := by decide +kernel
set_option maxRecDepth 20000 in
theorem gX7_bluff_X7_turns : GoodIn wsX7_bluff (wsV RX7 135 RX7 yX7_turns wsX7_turns) := goodIn_c ch_wsX7_bluff hf_wsX7_bluff hg_wsX7_bluff _ [(1, 0), (1, 1), (1, 2), (1, 3), (1, 4), (1, 5), (1, 6), (1, 7), (1, 3), (1, 8), (1, 9), (1, 10), (1, 11), (1, 12), (1, 13), (1, 14), (1, 15), (1, 16), (1, 17), (1, 18), (1, 19), (1, 20), (1, 21), (1, 22), (1, 23), (2, 0), (2, 1), (2, 2), (2, 3), (2, 4), (2, 5), (2, 6), (2, 7), (2, 8), (2, 9), (2, 10), (2, 11), (2, 12), (2, 13), (2, 14), (2, 15), (2, 16), (2, 17), (2, 18), (2, 19), (2, 20), (2, 21), (2, 22), (2, 23), (3, 0), (3, 1), (3, 2), (3, 3), (3, 4), (3, 5), (3, 6), (3, 7), (3, 8), (3, 9), (3, 10), (3, 11), (3, 12), (3, 13), (3, 14), (3, 15), (3, 16), (3, 17), (3, 18), (3, 19), (3, 20), (3, 21), (3, 22), (3, 23), (4, 0), (4, 1), (4, 2), (4, 3), (4, 4), (4, 5), (4, 6), (4, 7), (4, 8), (4, 9), (4, 10), (4, 11), (4, 12), (4, 13), (4, 14), (4, 15), (4, 16), (4, 17), (4, 18), (4, 19), (4, 20), (4, 21), (4, 22), (4, 23), (5, 0), (5, 1), (5, 2), (5, 3), (5, 4), (5, 5), (5, 6), (5, 7), (5, 8), (5, 9), (5, 10), (5, 11), (5, 12), (5, 13), (5, 14), (5, 15), (5, 16), (5, 17), (5, 18), (5, 19), (5, 20), (5, 21), (5, 22), (5, 23), (6, 0), (6, 1), (6, 2), (6, 3), (6, 4), (7, 0), (7, 1), (7, 2), (7, 3), (7, 4), (7, 5), (7, 6), (7, 7), (7, 8)] rfl
theorem dX7_bluff_0 : decode cX7_bluff 0 = .ok (.aload_n 0, 1) := by decide +kernel
theorem dX7_bluff_1 : decode cX7_bluff 1 = .ok (.bipush 98, 2) := by decide +kernel
theorem dX7_bluff_3 : decode cX7_bluff 3 = .ok (.iload_n 1, 1) := by decide +kernel
theorem dX7_bluff_4 : decode cX7_bluff 4 = .ok (.invokevirtual 135, 3) := by decide +kernel
theorem dX7_bluff_7 : decode cX7_bluff 7 = .ok (.ireturn, 1) := by decide +kernel
def ch_wsX7_doubt : List (List Cond) := [[.code yX7_doubt cX7_doubt 2 (some .int)], wsX7_doubt_r1, wsX7_doubt_r2, wsX7_doubt_r3, wsX7_doubt_r4, wsX7_doubt_r5, wsX7_doubt_r6, wsX70]
set_option maxRecDepth 20000 in
theorem hf_wsX7_doubt : wsX7_doubt = (ch_wsX7_doubt).flatten := rfl
set_option maxRecDepth 20000 in
theorem hg_wsX7_doubt : (wsX7_doubt).all goodWord = true := by decide +kernel
set_option maxRecDepth 20000 in
theorem gX7_doubt_X7_turns : GoodIn wsX7_doubt (wsV RX7 135 RX7 yX7_turns wsX7_turns) := goodIn_c ch_wsX7_doubt hf_wsX7_doubt hg_wsX7_doubt _ [(1, 0), (1, 1), (1, 2), (1, 3), (1, 4), (1, 5), (1, 6), (1, 7), (1, 3), (1, 8), (1, 9), (1, 10), (1, 11), (1, 12), (1, 13), (1, 14), (1, 15), (1, 16), (1, 17), (1, 18), (1, 19), (1, 20), (1, 21), (1, 22), (1, 23), (2, 0), (2, 1), (2, 2), (2, 3), (2, 4), (2, 5), (2, 6), (2, 7), (2, 8), (2, 9), (2, 10), (2, 11), (2, 12), (2, 13), (2, 14), (2, 15), (2, 16), (2, 17), (2, 18), (2, 19), (2, 20), (2, 21), (2, 22), (2, 23), (3, 0), (3, 1), (3, 2), (3, 3), (3, 4), (3, 5), (3, 6), (3, 7), (3, 8), (3, 9), (3, 10), (3, 11), (3, 12), (3, 13), (3, 14), (3, 15), (3, 16), (3, 17), (3, 18), (3, 19), (3, 20), (3, 21), (3, 22), (3, 23), (4, 0), (4, 1), (4, 2), (4, 3), (4, 4), (4, 5), (4, 6), (4, 7), (4, 8), (4, 9), (4, 10), (4, 11), (4, 12), (4, 13), (4, 14), (4, 15), (4, 16), (4, 17), (4, 18), (4, 19), (4, 20), (4, 21), (4, 22), (4, 23), (5, 0), (5, 1), (5, 2), (5, 3), (5, 4), (5, 5), (5, 6), (5, 7), (5, 8), (5, 9), (5, 10), (5, 11), (5, 12), (5, 13), (5, 14), (5, 15), (5, 16), (5, 17), (5, 18), (5, 19), (5, 20), (5, 21), (5, 22), (5, 23), (6, 0), (6, 1), (6, 2), (6, 3), (6, 4), (7, 0), (7, 1), (7, 2), (7, 3), (7, 4), (7, 5), (7, 6), (7, 7), (7, 8)] rfl
theorem dX7_doubt_0 : decode cX7_doubt 0 = .ok (.aload_n 0, 1) := by decide +kernel
theorem dX7_doubt_1 : decode cX7_doubt 1 = .ok (.bipush 100, 2) := by decide +kernel
theorem dX7_doubt_3 : decode cX7_doubt 3 = .ok (.iload_n 1, 1) := by decide +kernel
theorem dX7_doubt_4 : decode cX7_doubt 4 = .ok (.invokevirtual 135, 3) := by decide +kernel
theorem dX7_doubt_7 : decode cX7_doubt 7 = .ok (.ireturn, 1) := by decide +kernel
def ch_wsX7_pass : List (List Cond) := [[.code yX7_pass cX7_pass 1 (some .int)], wsX7_pass_r1, wsX7_pass_r2, wsX7_pass_r3, wsX7_pass_r4, wsX7_pass_r5, wsX7_pass_r6, wsX70]
set_option maxRecDepth 20000 in
theorem hf_wsX7_pass : wsX7_pass = (ch_wsX7_pass).flatten := rfl
set_option maxRecDepth 20000 in
theorem hg_wsX7_pass : (wsX7_pass).all goodWord = true := by decide +kernel
set_option maxRecDepth 20000 in
theorem gX7_pass_X7_turns : GoodIn wsX7_pass (wsV RX7 135 RX7 yX7_turns wsX7_turns) := goodIn_c ch_wsX7_pass hf_wsX7_pass hg_wsX7_pass _ [(1, 0), (1, 1), (1, 2), (1, 3), (1, 4), (1, 5), (1, 6), (1, 7), (1, 3), (1, 8), (1, 9), (1, 10), (1, 11), (1, 12), (1, 13), (1, 14), (1, 15), (1, 16), (1, 17), (1, 18), (1, 19), (1, 20), (1, 21), (1, 22), (1, 23), (2, 0), (2, 1), (2, 2), (2, 3), (2, 4), (2, 5), (2, 6), (2, 7), (2, 8), (2, 9), (2, 10), (2, 11), (2, 12), (2, 13), (2, 14), (2, 15), (2, 16), (2, 17), (2, 18), (2, 19), (2, 20), (2, 21), (2, 22), (2, 23), (3, 0), (3, 1), (3, 2), (3, 3), (3, 4), (3, 5), (3, 6), (3, 7), (3, 8), (3, 9), (3, 10), (3, 11), (3, 12), (3, 13), (3, 14), (3, 15), (3, 16), (3, 17), (3, 18), (3, 19), (3, 20), (3, 21), (3, 22), (3, 23), (4, 0), (4, 1), (4, 2), (4, 3), (4, 4), (4, 5), (4, 6), (4, 7), (4, 8), (4, 9), (4, 10), (4, 11), (4, 12), (4, 13), (4, 14), (4, 15), (4, 16), (4, 17), (4, 18), (4, 19), (4, 20), (4, 21), (4, 22), (4, 23), (5, 0), (5, 1), (5, 2), (5, 3), (5, 4), (5, 5), (5, 6), (5, 7), (5, 8), (5, 9), (5, 10), (5, 11), (5, 12), (5, 13), (5, 14), (5, 15), (5, 16), (5, 17), (5, 18), (5, 19), (5, 20), (5, 21), (5, 22), (5, 23), (6, 0), (6, 1), (6, 2), (6, 3), (6, 4), (7, 0), (7, 1), (7, 2), (7, 3), (7, 4), (7, 5), (7, 6), (7, 7), (7, 8)] rfl
theorem dX7_pass_0 : decode cX7_pass 0 = .ok (.aload_n 0, 1) := by decide +kernel
theorem dX7_pass_1 : decode cX7_pass 1 = .ok (.bipush 112, 2) := by decide +kernel
theorem dX7_pass_3 : decode cX7_pass 3 = .ok (.iconst 0, 1) := by decide +kernel
theorem dX7_pass_4 : decode cX7_pass 4 = .ok (.invokevirtual 135, 3) := by decide +kernel
theorem dX7_pass_7 : decode cX7_pass 7 = .ok (.ireturn, 1) := by decide +kernel
def ch_wsX7_of : List (List Cond) := [[.code yX7_of cX7_of 3 (some .int)], wsX7_of_r1, wsX7_of_r2, wsX70]
set_option maxRecDepth 20000 in
theorem hf_wsX7_of : wsX7_of = (ch_wsX7_of).flatten := rfl
set_option maxRecDepth 20000 in
theorem hg_wsX7_of : (wsX7_of).all goodWord = true := by decide +kernel
set_option maxRecDepth 20000 in
theorem gX7_of_X7_isJoint : GoodIn wsX7_of (va_wsS RX7 81 yX7_isJoint wsX7_isJoint) := goodIn_c ch_wsX7_of hf_wsX7_of hg_wsX7_of _ [(1, 1), (1, 2), (1, 3), (1, 4), (1, 5), (1, 6), (1, 3), (1, 7)] rfl
set_option maxRecDepth 20000 in
theorem gX7_of_X7_isVoid : GoodIn wsX7_of (wsV RX7 51 RX7 yX7_isVoid wsX7_isVoid) := goodIn_c ch_wsX7_of hf_wsX7_of hg_wsX7_of _ [(1, 8), (1, 9), (1, 10), (1, 3), (1, 11), (1, 12), (1, 13), (1, 3), (1, 14), (1, 15), (1, 16), (1, 17), (1, 18), (1, 0), (1, 19), (1, 20), (1, 21), (3, 0), (3, 1), (3, 2), (3, 3), (3, 4), (3, 5), (3, 6), (3, 7), (3, 8)] rfl
set_option maxRecDepth 20000 in
theorem gX7_of_X7_first : GoodIn wsX7_of (va_wsS RX7 40 yX7_first wsX7_first) := goodIn_c ch_wsX7_of hf_wsX7_of hg_wsX7_of _ [(1, 12), (1, 13), (1, 3), (1, 14)] rfl
set_option maxRecDepth 20000 in
theorem gX7_of_X7_second : GoodIn wsX7_of (va_wsS RX7 48 yX7_second wsX7_second) := goodIn_c ch_wsX7_of hf_wsX7_of hg_wsX7_of _ [(1, 19), (1, 20), (1, 3), (1, 21), (1, 12), (1, 13), (1, 3), (1, 14)] rfl
set_option maxRecDepth 20000 in
theorem gX7_of_X7_hasChalk : GoodIn wsX7_of (wsV RX7 88 RX7 yX7_hasChalk wsX7_hasChalk) := goodIn_c ch_wsX7_of hf_wsX7_of hg_wsX7_of _ [(1, 22), (1, 23), (2, 0), (1, 3), (2, 1), (2, 2), (2, 3), (2, 4), (1, 3), (2, 5), (1, 0), (2, 6), (2, 7), (2, 8), (2, 9), (2, 10), (2, 11), (2, 12), (3, 0), (3, 1), (3, 2), (3, 3), (3, 4), (3, 5), (3, 6), (3, 7), (3, 8)] rfl
set_option maxRecDepth 20000 in
theorem gX7_of_X7_holds : GoodIn wsX7_of (wsV RX7 58 RX7 yX7_holds wsX7_holds) := goodIn_c ch_wsX7_of hf_wsX7_of hg_wsX7_of _ [(2, 13), (2, 14), (2, 15), (1, 3), (2, 16), (1, 0), (1, 8), (1, 9), (1, 10), (1, 3), (1, 11), (1, 12), (1, 13), (1, 14), (1, 15), (1, 16), (1, 17), (1, 18), (1, 19), (1, 20), (1, 21), (3, 0), (3, 1), (3, 2), (3, 3), (3, 4), (3, 5), (3, 6), (3, 7), (3, 8)] rfl
theorem dX7_of_0 : decode cX7_of 0 = .ok (.iload_n 1, 1) := by decide +kernel
theorem dX7_of_1 : decode cX7_of 1 = .ok (.invokestatic 81, 3) := by decide +kernel
theorem dX7_of_4 : decode cX7_of 4 = .ok (.ifCond .ne 5, 3) := by decide +kernel
theorem dX7_of_7 : decode cX7_of 7 = .ok (.iconst (-1), 1) := by decide +kernel
theorem dX7_of_8 : decode cX7_of 8 = .ok (.ireturn, 1) := by decide +kernel
theorem dX7_of_9 : decode cX7_of 9 = .ok (.iload_n 2, 1) := by decide +kernel
theorem dX7_of_10 : decode cX7_of 10 = .ok (.tableswitch 142 0 6 #[42, 51, 65, 70, 75, 105, 128], 42) := by decide +kernel
theorem dX7_of_52 : decode cX7_of 52 = .ok (.aload_n 0, 1) := by decide +kernel
theorem dX7_of_53 : decode cX7_of 53 = .ok (.getfield 7, 3) := by decide +kernel
theorem dX7_of_56 : decode cX7_of 56 = .ok (.iconst 0, 1) := by decide +kernel
theorem dX7_of_57 : decode cX7_of 57 = .ok (.iload_n 1, 1) := by decide +kernel
theorem dX7_of_58 : decode cX7_of 58 = .ok (.iadd, 1) := by decide +kernel
theorem dX7_of_59 : decode cX7_of 59 = .ok (.iaload, 1) := by decide +kernel
theorem dX7_of_60 : decode cX7_of 60 = .ok (.ireturn, 1) := by decide +kernel
theorem dX7_of_61 : decode cX7_of 61 = .ok (.aload_n 0, 1) := by decide +kernel
theorem dX7_of_62 : decode cX7_of 62 = .ok (.iload_n 1, 1) := by decide +kernel
theorem dX7_of_63 : decode cX7_of 63 = .ok (.invokevirtual 51, 3) := by decide +kernel
theorem dX7_of_66 : decode cX7_of 66 = .ok (.ifCond .eq 7, 3) := by decide +kernel
theorem dX7_of_69 : decode cX7_of 69 = .ok (.iconst 1, 1) := by decide +kernel
theorem dX7_of_70 : decode cX7_of 70 = .ok (.goto 4, 3) := by decide +kernel
theorem dX7_of_73 : decode cX7_of 73 = .ok (.iconst 0, 1) := by decide +kernel
theorem dX7_of_74 : decode cX7_of 74 = .ok (.ireturn, 1) := by decide +kernel
theorem dX7_of_75 : decode cX7_of 75 = .ok (.iload_n 1, 1) := by decide +kernel
theorem dX7_of_76 : decode cX7_of 76 = .ok (.invokestatic 40, 3) := by decide +kernel
theorem dX7_of_79 : decode cX7_of 79 = .ok (.ireturn, 1) := by decide +kernel
theorem dX7_of_80 : decode cX7_of 80 = .ok (.iload_n 1, 1) := by decide +kernel
theorem dX7_of_81 : decode cX7_of 81 = .ok (.invokestatic 48, 3) := by decide +kernel
theorem dX7_of_84 : decode cX7_of 84 = .ok (.ireturn, 1) := by decide +kernel
theorem dX7_of_85 : decode cX7_of 85 = .ok (.aload_n 0, 1) := by decide +kernel
theorem dX7_of_86 : decode cX7_of 86 = .ok (.iconst 0, 1) := by decide +kernel
theorem dX7_of_87 : decode cX7_of 87 = .ok (.iload_n 1, 1) := by decide +kernel
theorem dX7_of_88 : decode cX7_of 88 = .ok (.invokevirtual 88, 3) := by decide +kernel
theorem dX7_of_91 : decode cX7_of 91 = .ok (.ifCond .eq 7, 3) := by decide +kernel
theorem dX7_of_94 : decode cX7_of 94 = .ok (.iconst 1, 1) := by decide +kernel
theorem dX7_of_95 : decode cX7_of 95 = .ok (.goto 4, 3) := by decide +kernel
theorem dX7_of_98 : decode cX7_of 98 = .ok (.iconst 0, 1) := by decide +kernel
theorem dX7_of_99 : decode cX7_of 99 = .ok (.aload_n 0, 1) := by decide +kernel
theorem dX7_of_100 : decode cX7_of 100 = .ok (.iconst 1, 1) := by decide +kernel
theorem dX7_of_101 : decode cX7_of 101 = .ok (.iload_n 1, 1) := by decide +kernel
theorem dX7_of_102 : decode cX7_of 102 = .ok (.invokevirtual 88, 3) := by decide +kernel
theorem dX7_of_105 : decode cX7_of 105 = .ok (.ifCond .eq 7, 3) := by decide +kernel
theorem dX7_of_108 : decode cX7_of 108 = .ok (.iconst 2, 1) := by decide +kernel
theorem dX7_of_109 : decode cX7_of 109 = .ok (.goto 4, 3) := by decide +kernel
theorem dX7_of_112 : decode cX7_of 112 = .ok (.iconst 0, 1) := by decide +kernel
theorem dX7_of_113 : decode cX7_of 113 = .ok (.iadd, 1) := by decide +kernel
theorem dX7_of_114 : decode cX7_of 114 = .ok (.ireturn, 1) := by decide +kernel
theorem dX7_of_115 : decode cX7_of 115 = .ok (.aload_n 0, 1) := by decide +kernel
theorem dX7_of_116 : decode cX7_of 116 = .ok (.iload_n 1, 1) := by decide +kernel
theorem dX7_of_117 : decode cX7_of 117 = .ok (.invokevirtual 51, 3) := by decide +kernel
theorem dX7_of_120 : decode cX7_of 120 = .ok (.ifCond .eq 8, 3) := by decide +kernel
theorem dX7_of_123 : decode cX7_of 123 = .ok (.bipush (-6), 2) := by decide +kernel
theorem dX7_of_125 : decode cX7_of 125 = .ok (.goto 12, 3) := by decide +kernel
theorem dX7_of_128 : decode cX7_of 128 = .ok (.aload_n 0, 1) := by decide +kernel
theorem dX7_of_129 : decode cX7_of 129 = .ok (.getfield 7, 3) := by decide +kernel
theorem dX7_of_132 : decode cX7_of 132 = .ok (.bipush 82, 2) := by decide +kernel
theorem dX7_of_134 : decode cX7_of 134 = .ok (.iload_n 1, 1) := by decide +kernel
theorem dX7_of_135 : decode cX7_of 135 = .ok (.iadd, 1) := by decide +kernel
theorem dX7_of_136 : decode cX7_of 136 = .ok (.iaload, 1) := by decide +kernel
theorem dX7_of_137 : decode cX7_of 137 = .ok (.ireturn, 1) := by decide +kernel
theorem dX7_of_138 : decode cX7_of 138 = .ok (.aload_n 0, 1) := by decide +kernel
theorem dX7_of_139 : decode cX7_of 139 = .ok (.iload_n 1, 1) := by decide +kernel
theorem dX7_of_140 : decode cX7_of 140 = .ok (.invokevirtual 58, 3) := by decide +kernel
theorem dX7_of_143 : decode cX7_of 143 = .ok (.ifCond .eq 7, 3) := by decide +kernel
theorem dX7_of_146 : decode cX7_of 146 = .ok (.iconst 1, 1) := by decide +kernel
theorem dX7_of_147 : decode cX7_of 147 = .ok (.goto 4, 3) := by decide +kernel
theorem dX7_of_150 : decode cX7_of 150 = .ok (.iconst 0, 1) := by decide +kernel
theorem dX7_of_151 : decode cX7_of 151 = .ok (.ireturn, 1) := by decide +kernel
theorem dX7_of_152 : decode cX7_of 152 = .ok (.bipush (-2), 2) := by decide +kernel
theorem dX7_of_154 : decode cX7_of 154 = .ok (.ireturn, 1) := by decide +kernel
def ch_wsX7_pieceOf : List (List Cond) := [[.code yX7_pieceOf cX7_pieceOf 3 (some .int)], wsX7_pieceOf_r1, wsX7_pieceOf_r2, wsX70]
set_option maxRecDepth 20000 in
theorem hf_wsX7_pieceOf : wsX7_pieceOf = (ch_wsX7_pieceOf).flatten := rfl
set_option maxRecDepth 20000 in
theorem hg_wsX7_pieceOf : (wsX7_pieceOf).all goodWord = true := by decide +kernel
set_option maxRecDepth 20000 in
theorem gX7_pieceOf_X7_layPieces : GoodIn wsX7_pieceOf (wsV RX7 61 RX7 yX7_layPieces wsX7_layPieces) := goodIn_c ch_wsX7_pieceOf hf_wsX7_pieceOf hg_wsX7_pieceOf _ [(1, 1), (1, 2), (1, 3), (1, 4), (1, 5), (1, 0), (1, 6), (1, 7), (1, 8), (1, 9), (1, 4), (1, 10), (1, 11), (1, 12), (1, 13), (1, 14), (1, 15), (1, 16), (1, 17), (1, 18), (1, 19), (1, 20), (1, 21), (1, 22), (1, 23), (2, 0), (3, 0), (3, 1), (3, 2), (3, 3), (3, 4), (3, 5), (3, 6), (3, 7), (3, 8)] rfl
set_option maxRecDepth 20000 in
theorem gX7_pieceOf_X7_isGone : GoodIn wsX7_pieceOf (wsV RX7 44 RX7 yX7_isGone wsX7_isGone) := goodIn_c ch_wsX7_pieceOf hf_wsX7_pieceOf hg_wsX7_pieceOf _ [(1, 7), (1, 8), (1, 9), (1, 4), (1, 10), (1, 6), (3, 0), (3, 1), (3, 2), (3, 3), (3, 4), (3, 5), (3, 6), (3, 7), (3, 8)] rfl
set_option maxRecDepth 20000 in
theorem gX7_pieceOf_X7_cellsOf : GoodIn wsX7_pieceOf (wsV RX7 65 RX7 yX7_cellsOf wsX7_cellsOf) := goodIn_c ch_wsX7_pieceOf hf_wsX7_pieceOf hg_wsX7_pieceOf _ [(2, 1), (2, 2), (2, 3), (1, 4), (2, 4), (1, 0), (3, 0), (3, 1), (3, 2), (3, 3), (3, 4), (3, 5), (3, 6), (3, 7), (3, 8)] rfl
theorem dX7_pieceOf_0 : decode cX7_pieceOf 0 = .ok (.aload_n 0, 1) := by decide +kernel
theorem dX7_pieceOf_1 : decode cX7_pieceOf 1 = .ok (.bipush (-6), 2) := by decide +kernel
theorem dX7_pieceOf_3 : decode cX7_pieceOf 3 = .ok (.iconst 0, 1) := by decide +kernel
theorem dX7_pieceOf_4 : decode cX7_pieceOf 4 = .ok (.invokevirtual 61, 3) := by decide +kernel
theorem dX7_pieceOf_7 : decode cX7_pieceOf 7 = .ok (.aload_n 0, 1) := by decide +kernel
theorem dX7_pieceOf_8 : decode cX7_pieceOf 8 = .ok (.iload_n 1, 1) := by decide +kernel
theorem dX7_pieceOf_9 : decode cX7_pieceOf 9 = .ok (.invokevirtual 44, 3) := by decide +kernel
theorem dX7_pieceOf_12 : decode cX7_pieceOf 12 = .ok (.ifCond .eq 17, 3) := by decide +kernel
theorem dX7_pieceOf_15 : decode cX7_pieceOf 15 = .ok (.iload_n 2, 1) := by decide +kernel
theorem dX7_pieceOf_16 : decode cX7_pieceOf 16 = .ok (.iconst 1, 1) := by decide +kernel
theorem dX7_pieceOf_17 : decode cX7_pieceOf 17 = .ok (.if_icmp .ne 7, 3) := by decide +kernel
theorem dX7_pieceOf_20 : decode cX7_pieceOf 20 = .ok (.iconst 0, 1) := by decide +kernel
theorem dX7_pieceOf_21 : decode cX7_pieceOf 21 = .ok (.goto 32, 3) := by decide +kernel
theorem dX7_pieceOf_24 : decode cX7_pieceOf 24 = .ok (.bipush (-6), 2) := by decide +kernel
theorem dX7_pieceOf_26 : decode cX7_pieceOf 26 = .ok (.goto 27, 3) := by decide +kernel
theorem dX7_pieceOf_29 : decode cX7_pieceOf 29 = .ok (.iload_n 2, 1) := by decide +kernel
theorem dX7_pieceOf_30 : decode cX7_pieceOf 30 = .ok (.iconst 1, 1) := by decide +kernel
theorem dX7_pieceOf_31 : decode cX7_pieceOf 31 = .ok (.if_icmp .ne 16, 3) := by decide +kernel
theorem dX7_pieceOf_34 : decode cX7_pieceOf 34 = .ok (.aload_n 0, 1) := by decide +kernel
theorem dX7_pieceOf_35 : decode cX7_pieceOf 35 = .ok (.aload_n 0, 1) := by decide +kernel
theorem dX7_pieceOf_36 : decode cX7_pieceOf 36 = .ok (.getfield 29, 3) := by decide +kernel
theorem dX7_pieceOf_39 : decode cX7_pieceOf 39 = .ok (.iload_n 1, 1) := by decide +kernel
theorem dX7_pieceOf_40 : decode cX7_pieceOf 40 = .ok (.iaload, 1) := by decide +kernel
theorem dX7_pieceOf_41 : decode cX7_pieceOf 41 = .ok (.invokevirtual 65, 3) := by decide +kernel
theorem dX7_pieceOf_44 : decode cX7_pieceOf 44 = .ok (.goto 9, 3) := by decide +kernel
theorem dX7_pieceOf_47 : decode cX7_pieceOf 47 = .ok (.aload_n 0, 1) := by decide +kernel
theorem dX7_pieceOf_48 : decode cX7_pieceOf 48 = .ok (.getfield 29, 3) := by decide +kernel
theorem dX7_pieceOf_51 : decode cX7_pieceOf 51 = .ok (.iload_n 1, 1) := by decide +kernel
theorem dX7_pieceOf_52 : decode cX7_pieceOf 52 = .ok (.iaload, 1) := by decide +kernel
theorem dX7_pieceOf_53 : decode cX7_pieceOf 53 = .ok (.ireturn, 1) := by decide +kernel
def ch_wsX7_holding : List (List Cond) := [[.code yX7_holding cX7_holding 4 (some .int)], [.methodLink RX7 40 yX7_first, .static yX7_first, .initialized RX7, .code yX7_first cX7_first 1 (some .int), .methodLink RX7 48 yX7_second, .static yX7_second, .code yX7_second cX7_second 1 (some .int), .methodLink RX7 58 yX7_holds, .instanceMethod yX7_holds, .selects RX7 yX7_holds yX7_holds, .code yX7_holds cX7_holds 2 (some .boolean), .fieldLink RX7 7 "TailorChalksModel" "s" "[I", .methodLink RX7 51 yX7_isVoid, .instanceMethod yX7_isVoid, .selects RX7 yX7_isVoid yX7_isVoid, .code yX7_isVoid cX7_isVoid 2 (some .boolean), .methodLink RX7 44 yX7_isGone, .instanceMethod yX7_isGone, .selects RX7 yX7_isGone yX7_isGone, .code yX7_isGone cX7_isGone 2 (some .boolean)], wsX70]
set_option maxRecDepth 20000 in
theorem hf_wsX7_holding : wsX7_holding = (ch_wsX7_holding).flatten := rfl
set_option maxRecDepth 20000 in
theorem hg_wsX7_holding : (wsX7_holding).all goodWord = true := by decide +kernel
set_option maxRecDepth 20000 in
theorem gX7_holding_X7_first : GoodIn wsX7_holding (va_wsS RX7 40 yX7_first wsX7_first) := goodIn_c ch_wsX7_holding hf_wsX7_holding hg_wsX7_holding _ [(1, 0), (1, 1), (1, 2), (1, 3)] rfl
set_option maxRecDepth 20000 in
theorem gX7_holding_X7_second : GoodIn wsX7_holding (va_wsS RX7 48 yX7_second wsX7_second) := goodIn_c ch_wsX7_holding hf_wsX7_holding hg_wsX7_holding _ [(1, 4), (1, 5), (1, 2), (1, 6), (1, 0), (1, 1), (1, 2), (1, 3)] rfl
set_option maxRecDepth 20000 in
theorem gX7_holding_X7_holds : GoodIn wsX7_holding (wsV RX7 58 RX7 yX7_holds wsX7_holds) := goodIn_c ch_wsX7_holding hf_wsX7_holding hg_wsX7_holding _ [(1, 7), (1, 8), (1, 9), (1, 2), (1, 10), (1, 11), (1, 12), (1, 13), (1, 14), (1, 2), (1, 15), (1, 0), (1, 1), (1, 3), (1, 16), (1, 17), (1, 18), (1, 19), (1, 4), (1, 5), (1, 6), (2, 0), (2, 1), (2, 2), (2, 3), (2, 4), (2, 5), (2, 6), (2, 7), (2, 8)] rfl
theorem dX7_holding_0 : decode cX7_holding 0 = .ok (.iconst 0, 1) := by decide +kernel
theorem dX7_holding_1 : decode cX7_holding 1 = .ok (.istore_n 2, 1) := by decide +kernel
theorem dX7_holding_2 : decode cX7_holding 2 = .ok (.iconst 0, 1) := by decide +kernel
theorem dX7_holding_3 : decode cX7_holding 3 = .ok (.istore_n 3, 1) := by decide +kernel
theorem dX7_holding_4 : decode cX7_holding 4 = .ok (.iload_n 3, 1) := by decide +kernel
theorem dX7_holding_5 : decode cX7_holding 5 = .ok (.bipush 82, 2) := by decide +kernel
theorem dX7_holding_7 : decode cX7_holding 7 = .ok (.if_icmp .ge 41, 3) := by decide +kernel
theorem dX7_holding_10 : decode cX7_holding 10 = .ok (.iload_n 2, 1) := by decide +kernel
theorem dX7_holding_11 : decode cX7_holding 11 = .ok (.iload_n 3, 1) := by decide +kernel
theorem dX7_holding_12 : decode cX7_holding 12 = .ok (.invokestatic 40, 3) := by decide +kernel
theorem dX7_holding_15 : decode cX7_holding 15 = .ok (.iload_n 1, 1) := by decide +kernel
theorem dX7_holding_16 : decode cX7_holding 16 = .ok (.if_icmp .eq 11, 3) := by decide +kernel
theorem dX7_holding_19 : decode cX7_holding 19 = .ok (.iload_n 3, 1) := by decide +kernel
theorem dX7_holding_20 : decode cX7_holding 20 = .ok (.invokestatic 48, 3) := by decide +kernel
theorem dX7_holding_23 : decode cX7_holding 23 = .ok (.iload_n 1, 1) := by decide +kernel
theorem dX7_holding_24 : decode cX7_holding 24 = .ok (.if_icmp .ne 15, 3) := by decide +kernel
theorem dX7_holding_27 : decode cX7_holding 27 = .ok (.aload_n 0, 1) := by decide +kernel
theorem dX7_holding_28 : decode cX7_holding 28 = .ok (.iload_n 3, 1) := by decide +kernel
theorem dX7_holding_29 : decode cX7_holding 29 = .ok (.invokevirtual 58, 3) := by decide +kernel
theorem dX7_holding_32 : decode cX7_holding 32 = .ok (.ifCond .eq 7, 3) := by decide +kernel
theorem dX7_holding_35 : decode cX7_holding 35 = .ok (.iconst 1, 1) := by decide +kernel
theorem dX7_holding_36 : decode cX7_holding 36 = .ok (.goto 4, 3) := by decide +kernel
theorem dX7_holding_39 : decode cX7_holding 39 = .ok (.iconst 0, 1) := by decide +kernel
theorem dX7_holding_40 : decode cX7_holding 40 = .ok (.iadd, 1) := by decide +kernel
theorem dX7_holding_41 : decode cX7_holding 41 = .ok (.istore_n 2, 1) := by decide +kernel
theorem dX7_holding_42 : decode cX7_holding 42 = .ok (.iinc 3 1, 3) := by decide +kernel
theorem dX7_holding_45 : decode cX7_holding 45 = .ok (.goto (-41), 3) := by decide +kernel
theorem dX7_holding_48 : decode cX7_holding 48 = .ok (.iload_n 2, 1) := by decide +kernel
theorem dX7_holding_49 : decode cX7_holding 49 = .ok (.ireturn, 1) := by decide +kernel
def ch_wsX7_cell : List (List Cond) := [[.code yX7_cell cX7_cell 3 (some .int)], wsX7_cell_r1, wsX7_cell_r2, wsX70]
set_option maxRecDepth 20000 in
theorem hf_wsX7_cell : wsX7_cell = (ch_wsX7_cell).flatten := rfl
set_option maxRecDepth 20000 in
theorem hg_wsX7_cell : (wsX7_cell).all goodWord = true := by decide +kernel
set_option maxRecDepth 20000 in
theorem gX7_cell_X7_isCell : GoodIn wsX7_cell (va_wsS RX7 138 yX7_isCell wsX7_isCell) := goodIn_c ch_wsX7_cell hf_wsX7_cell hg_wsX7_cell _ [(1, 0), (1, 1), (1, 2), (1, 3), (1, 4), (1, 5), (1, 2), (1, 6)] rfl
set_option maxRecDepth 20000 in
theorem gX7_cell_X7_isGone : GoodIn wsX7_cell (wsV RX7 44 RX7 yX7_isGone wsX7_isGone) := goodIn_c ch_wsX7_cell hf_wsX7_cell hg_wsX7_cell _ [(1, 7), (1, 8), (1, 9), (1, 2), (1, 10), (1, 11), (3, 0), (3, 1), (3, 2), (3, 3), (3, 4), (3, 5), (3, 6), (3, 7), (3, 8)] rfl
set_option maxRecDepth 20000 in
theorem gX7_cell_X7_pieceOf : GoodIn wsX7_cell (wsV RX7 141 RX7 yX7_pieceOf wsX7_pieceOf) := goodIn_c ch_wsX7_cell hf_wsX7_cell hg_wsX7_cell _ [(1, 12), (1, 13), (1, 14), (1, 2), (1, 15), (1, 16), (1, 17), (1, 18), (1, 19), (1, 2), (1, 20), (1, 11), (1, 7), (1, 8), (1, 9), (1, 10), (1, 21), (1, 22), (1, 23), (2, 0), (2, 1), (2, 2), (2, 3), (2, 4), (2, 5), (2, 6), (2, 7), (2, 8), (2, 9), (2, 10), (2, 11), (2, 12), (2, 13), (2, 14), (3, 0), (3, 1), (3, 2), (3, 3), (3, 4), (3, 5), (3, 6), (3, 7), (3, 8)] rfl
set_option maxRecDepth 20000 in
theorem gX7_cell_X7_holding : GoodIn wsX7_cell (wsV RX7 144 RX7 yX7_holding wsX7_holding) := goodIn_c ch_wsX7_cell hf_wsX7_cell hg_wsX7_cell _ [(2, 15), (2, 16), (2, 17), (1, 2), (2, 18), (2, 5), (2, 6), (1, 2), (2, 7), (2, 8), (2, 9), (2, 10), (1, 21), (1, 22), (1, 23), (2, 0), (1, 11), (2, 1), (2, 2), (2, 3), (2, 4), (1, 7), (1, 8), (1, 9), (1, 10), (3, 0), (3, 1), (3, 2), (3, 3), (3, 4), (3, 5), (3, 6), (3, 7), (3, 8)] rfl
theorem dX7_cell_0 : decode cX7_cell 0 = .ok (.iload_n 1, 1) := by decide +kernel
theorem dX7_cell_1 : decode cX7_cell 1 = .ok (.invokestatic 138, 3) := by decide +kernel
theorem dX7_cell_4 : decode cX7_cell 4 = .ok (.ifCond .ne 5, 3) := by decide +kernel
theorem dX7_cell_7 : decode cX7_cell 7 = .ok (.iconst (-1), 1) := by decide +kernel
theorem dX7_cell_8 : decode cX7_cell 8 = .ok (.ireturn, 1) := by decide +kernel
theorem dX7_cell_9 : decode cX7_cell 9 = .ok (.iload_n 2, 1) := by decide +kernel
theorem dX7_cell_10 : decode cX7_cell 10 = .ok (.tableswitch 57 0 3 #[30, 44, 44, 51], 30) := by decide +kernel
theorem dX7_cell_40 : decode cX7_cell 40 = .ok (.aload_n 0, 1) := by decide +kernel
theorem dX7_cell_41 : decode cX7_cell 41 = .ok (.iload_n 1, 1) := by decide +kernel
theorem dX7_cell_42 : decode cX7_cell 42 = .ok (.invokevirtual 44, 3) := by decide +kernel
theorem dX7_cell_45 : decode cX7_cell 45 = .ok (.ifCond .eq 7, 3) := by decide +kernel
theorem dX7_cell_48 : decode cX7_cell 48 = .ok (.iconst 1, 1) := by decide +kernel
theorem dX7_cell_49 : decode cX7_cell 49 = .ok (.goto 4, 3) := by decide +kernel
theorem dX7_cell_52 : decode cX7_cell 52 = .ok (.iconst 0, 1) := by decide +kernel
theorem dX7_cell_53 : decode cX7_cell 53 = .ok (.ireturn, 1) := by decide +kernel
theorem dX7_cell_54 : decode cX7_cell 54 = .ok (.aload_n 0, 1) := by decide +kernel
theorem dX7_cell_55 : decode cX7_cell 55 = .ok (.iload_n 1, 1) := by decide +kernel
theorem dX7_cell_56 : decode cX7_cell 56 = .ok (.iload_n 2, 1) := by decide +kernel
theorem dX7_cell_57 : decode cX7_cell 57 = .ok (.invokevirtual 141, 3) := by decide +kernel
theorem dX7_cell_60 : decode cX7_cell 60 = .ok (.ireturn, 1) := by decide +kernel
theorem dX7_cell_61 : decode cX7_cell 61 = .ok (.aload_n 0, 1) := by decide +kernel
theorem dX7_cell_62 : decode cX7_cell 62 = .ok (.iload_n 1, 1) := by decide +kernel
theorem dX7_cell_63 : decode cX7_cell 63 = .ok (.invokevirtual 144, 3) := by decide +kernel
theorem dX7_cell_66 : decode cX7_cell 66 = .ok (.ireturn, 1) := by decide +kernel
theorem dX7_cell_67 : decode cX7_cell 67 = .ok (.bipush (-2), 2) := by decide +kernel
theorem dX7_cell_69 : decode cX7_cell 69 = .ok (.ireturn, 1) := by decide +kernel
def ch_wsX7_player : List (List Cond) := [[.code yX7_player cX7_player 3 (some .int)], [.fieldLink RX7 7 "TailorChalksModel" "s" "[I", .methodLink RX7 36 yX7_in, .static yX7_in, .initialized RX7, .code yX7_in cX7_in 3 (some .boolean), .methodLink RX7 32 yX7_at, .static yX7_at, .code yX7_at cX7_at 2 (some .int)], wsX70]
set_option maxRecDepth 20000 in
theorem hf_wsX7_player : wsX7_player = (ch_wsX7_player).flatten := rfl
set_option maxRecDepth 20000 in
theorem hg_wsX7_player : (wsX7_player).all goodWord = true := by decide +kernel
set_option maxRecDepth 20000 in
theorem gX7_player_X7_in : GoodIn wsX7_player (va_wsS RX7 36 yX7_in wsX7_in) := goodIn_c ch_wsX7_player hf_wsX7_player hg_wsX7_player _ [(1, 1), (1, 2), (1, 3), (1, 4)] rfl
set_option maxRecDepth 20000 in
theorem gX7_player_X7_at : GoodIn wsX7_player (va_wsS RX7 32 yX7_at wsX7_at) := goodIn_c ch_wsX7_player hf_wsX7_player hg_wsX7_player _ [(1, 5), (1, 6), (1, 3), (1, 7)] rfl
theorem dX7_player_0 : decode cX7_player 0 = .ok (.iload_n 1, 1) := by decide +kernel
theorem dX7_player_1 : decode cX7_player 1 = .ok (.iconst 0, 1) := by decide +kernel
theorem dX7_player_2 : decode cX7_player 2 = .ok (.iconst 1, 1) := by decide +kernel
theorem dX7_player_3 : decode cX7_player 3 = .ok (.invokestatic 36, 3) := by decide +kernel
theorem dX7_player_6 : decode cX7_player 6 = .ok (.ifCond .ne 5, 3) := by decide +kernel
theorem dX7_player_9 : decode cX7_player 9 = .ok (.iconst (-1), 1) := by decide +kernel
theorem dX7_player_10 : decode cX7_player 10 = .ok (.ireturn, 1) := by decide +kernel
theorem dX7_player_11 : decode cX7_player 11 = .ok (.iload_n 2, 1) := by decide +kernel
theorem dX7_player_12 : decode cX7_player 12 = .ok (.ifCond .ne 20, 3) := by decide +kernel
theorem dX7_player_15 : decode cX7_player 15 = .ok (.sipush 500, 3) := by decide +kernel
theorem dX7_player_18 : decode cX7_player 18 = .ok (.aload_n 0, 1) := by decide +kernel
theorem dX7_player_19 : decode cX7_player 19 = .ok (.getfield 7, 3) := by decide +kernel
theorem dX7_player_22 : decode cX7_player 22 = .ok (.iload_n 1, 1) := by decide +kernel
theorem dX7_player_23 : decode cX7_player 23 = .ok (.iconst 0, 1) := by decide +kernel
theorem dX7_player_24 : decode cX7_player 24 = .ok (.invokestatic 32, 3) := by decide +kernel
theorem dX7_player_27 : decode cX7_player 27 = .ok (.iaload, 1) := by decide +kernel
theorem dX7_player_28 : decode cX7_player 28 = .ok (.iadd, 1) := by decide +kernel
theorem dX7_player_29 : decode cX7_player 29 = .ok (.goto 28, 3) := by decide +kernel
theorem dX7_player_32 : decode cX7_player 32 = .ok (.iload_n 2, 1) := by decide +kernel
theorem dX7_player_33 : decode cX7_player 33 = .ok (.iconst 1, 1) := by decide +kernel
theorem dX7_player_34 : decode cX7_player 34 = .ok (.bipush 7, 2) := by decide +kernel
theorem dX7_player_36 : decode cX7_player 36 = .ok (.invokestatic 36, 3) := by decide +kernel
theorem dX7_player_39 : decode cX7_player 39 = .ok (.ifCond .eq 16, 3) := by decide +kernel
theorem dX7_player_42 : decode cX7_player 42 = .ok (.aload_n 0, 1) := by decide +kernel
theorem dX7_player_43 : decode cX7_player 43 = .ok (.getfield 7, 3) := by decide +kernel
theorem dX7_player_46 : decode cX7_player 46 = .ok (.iload_n 1, 1) := by decide +kernel
theorem dX7_player_47 : decode cX7_player 47 = .ok (.iload_n 2, 1) := by decide +kernel
theorem dX7_player_48 : decode cX7_player 48 = .ok (.invokestatic 32, 3) := by decide +kernel
theorem dX7_player_51 : decode cX7_player 51 = .ok (.iaload, 1) := by decide +kernel
theorem dX7_player_52 : decode cX7_player 52 = .ok (.goto 5, 3) := by decide +kernel
theorem dX7_player_55 : decode cX7_player 55 = .ok (.bipush (-2), 2) := by decide +kernel
theorem dX7_player_57 : decode cX7_player 57 = .ok (.ireturn, 1) := by decide +kernel
def ch_wsX7_chalked : List (List Cond) := [[.code yX7_chalked cX7_chalked 3 (some .int)], [.fieldLink RX7 7 "TailorChalksModel" "s" "[I", .methodLink RX7 36 yX7_in, .static yX7_in, .initialized RX7, .code yX7_in cX7_in 3 (some .boolean), .methodLink RX7 32 yX7_at, .static yX7_at, .code yX7_at cX7_at 2 (some .int), .methodLink RX7 75 yX7_chalkAt, .instanceMethod yX7_chalkAt, .selects RX7 yX7_chalkAt yX7_chalkAt, .code yX7_chalkAt cX7_chalkAt 3 (some .int)], wsX70]
set_option maxRecDepth 20000 in
theorem hf_wsX7_chalked : wsX7_chalked = (ch_wsX7_chalked).flatten := rfl
set_option maxRecDepth 20000 in
theorem hg_wsX7_chalked : (wsX7_chalked).all goodWord = true := by decide +kernel
set_option maxRecDepth 20000 in
theorem gX7_chalked_X7_in : GoodIn wsX7_chalked (va_wsS RX7 36 yX7_in wsX7_in) := goodIn_c ch_wsX7_chalked hf_wsX7_chalked hg_wsX7_chalked _ [(1, 1), (1, 2), (1, 3), (1, 4)] rfl
set_option maxRecDepth 20000 in
theorem gX7_chalked_X7_at : GoodIn wsX7_chalked (va_wsS RX7 32 yX7_at wsX7_at) := goodIn_c ch_wsX7_chalked hf_wsX7_chalked hg_wsX7_chalked _ [(1, 5), (1, 6), (1, 3), (1, 7)] rfl
set_option maxRecDepth 20000 in
theorem gX7_chalked_X7_chalkAt : GoodIn wsX7_chalked (wsV RX7 75 RX7 yX7_chalkAt wsX7_chalkAt) := goodIn_c ch_wsX7_chalked hf_wsX7_chalked hg_wsX7_chalked _ [(1, 8), (1, 9), (1, 10), (1, 3), (1, 11), (1, 0), (1, 5), (1, 6), (1, 3), (1, 7), (2, 0), (2, 1), (2, 2), (2, 3), (2, 4), (2, 5), (2, 6), (2, 7), (2, 8)] rfl
theorem dX7_chalked_0 : decode cX7_chalked 0 = .ok (.iload_n 1, 1) := by decide +kernel
theorem dX7_chalked_1 : decode cX7_chalked 1 = .ok (.iconst 0, 1) := by decide +kernel
theorem dX7_chalked_2 : decode cX7_chalked 2 = .ok (.iconst 1, 1) := by decide +kernel
theorem dX7_chalked_3 : decode cX7_chalked 3 = .ok (.invokestatic 36, 3) := by decide +kernel
theorem dX7_chalked_6 : decode cX7_chalked 6 = .ok (.ifCond .eq 32, 3) := by decide +kernel
theorem dX7_chalked_9 : decode cX7_chalked 9 = .ok (.iload_n 2, 1) := by decide +kernel
theorem dX7_chalked_10 : decode cX7_chalked 10 = .ok (.iconst 0, 1) := by decide +kernel
theorem dX7_chalked_11 : decode cX7_chalked 11 = .ok (.aload_n 0, 1) := by decide +kernel
theorem dX7_chalked_12 : decode cX7_chalked 12 = .ok (.getfield 7, 3) := by decide +kernel
theorem dX7_chalked_15 : decode cX7_chalked 15 = .ok (.iload_n 1, 1) := by decide +kernel
theorem dX7_chalked_16 : decode cX7_chalked 16 = .ok (.iconst 2, 1) := by decide +kernel
theorem dX7_chalked_17 : decode cX7_chalked 17 = .ok (.invokestatic 32, 3) := by decide +kernel
theorem dX7_chalked_20 : decode cX7_chalked 20 = .ok (.iaload, 1) := by decide +kernel
theorem dX7_chalked_21 : decode cX7_chalked 21 = .ok (.iconst 1, 1) := by decide +kernel
theorem dX7_chalked_22 : decode cX7_chalked 22 = .ok (.isub, 1) := by decide +kernel
theorem dX7_chalked_23 : decode cX7_chalked 23 = .ok (.invokestatic 36, 3) := by decide +kernel
theorem dX7_chalked_26 : decode cX7_chalked 26 = .ok (.ifCond .eq 12, 3) := by decide +kernel
theorem dX7_chalked_29 : decode cX7_chalked 29 = .ok (.aload_n 0, 1) := by decide +kernel
theorem dX7_chalked_30 : decode cX7_chalked 30 = .ok (.iload_n 1, 1) := by decide +kernel
theorem dX7_chalked_31 : decode cX7_chalked 31 = .ok (.iload_n 2, 1) := by decide +kernel
theorem dX7_chalked_32 : decode cX7_chalked 32 = .ok (.invokevirtual 75, 3) := by decide +kernel
theorem dX7_chalked_35 : decode cX7_chalked 35 = .ok (.goto 4, 3) := by decide +kernel
theorem dX7_chalked_38 : decode cX7_chalked 38 = .ok (.iconst (-1), 1) := by decide +kernel
theorem dX7_chalked_39 : decode cX7_chalked 39 = .ok (.ireturn, 1) := by decide +kernel
def ch_wsX7_pieces : List (List Cond) := [[.code yX7_pieces cX7_pieces 3 (some .int)], wsX7_pieces_r1, wsX7_pieces_r2, wsX70]
set_option maxRecDepth 20000 in
theorem hf_wsX7_pieces : wsX7_pieces = (ch_wsX7_pieces).flatten := rfl
set_option maxRecDepth 20000 in
theorem hg_wsX7_pieces : (wsX7_pieces).all goodWord = true := by decide +kernel
set_option maxRecDepth 20000 in
theorem gX7_pieces_X7_layPieces : GoodIn wsX7_pieces (wsV RX7 61 RX7 yX7_layPieces wsX7_layPieces) := goodIn_c ch_wsX7_pieces hf_wsX7_pieces hg_wsX7_pieces _ [(1, 1), (1, 2), (1, 3), (1, 4), (1, 5), (1, 0), (1, 6), (1, 7), (1, 8), (1, 9), (1, 4), (1, 10), (1, 11), (1, 12), (1, 13), (1, 14), (1, 15), (1, 16), (1, 17), (1, 18), (1, 19), (1, 20), (1, 21), (1, 22), (1, 23), (2, 0), (3, 0), (3, 1), (3, 2), (3, 3), (3, 4), (3, 5), (3, 6), (3, 7), (3, 8)] rfl
theorem dX7_pieces_0 : decode cX7_pieces 0 = .ok (.aload_n 0, 1) := by decide +kernel
theorem dX7_pieces_1 : decode cX7_pieces 1 = .ok (.bipush (-6), 2) := by decide +kernel
theorem dX7_pieces_3 : decode cX7_pieces 3 = .ok (.iconst 0, 1) := by decide +kernel
theorem dX7_pieces_4 : decode cX7_pieces 4 = .ok (.invokevirtual 61, 3) := by decide +kernel
theorem dX7_pieces_7 : decode cX7_pieces 7 = .ok (.iconst 0, 1) := by decide +kernel
theorem dX7_pieces_8 : decode cX7_pieces 8 = .ok (.istore_n 1, 1) := by decide +kernel
theorem dX7_pieces_9 : decode cX7_pieces 9 = .ok (.iconst 0, 1) := by decide +kernel
theorem dX7_pieces_10 : decode cX7_pieces 10 = .ok (.istore_n 2, 1) := by decide +kernel
theorem dX7_pieces_11 : decode cX7_pieces 11 = .ok (.iload_n 2, 1) := by decide +kernel
theorem dX7_pieces_12 : decode cX7_pieces 12 = .ok (.bipush 48, 2) := by decide +kernel
theorem dX7_pieces_14 : decode cX7_pieces 14 = .ok (.if_icmp .ge 27, 3) := by decide +kernel
theorem dX7_pieces_17 : decode cX7_pieces 17 = .ok (.iload_n 1, 1) := by decide +kernel
theorem dX7_pieces_18 : decode cX7_pieces 18 = .ok (.aload_n 0, 1) := by decide +kernel
theorem dX7_pieces_19 : decode cX7_pieces 19 = .ok (.getfield 29, 3) := by decide +kernel
theorem dX7_pieces_22 : decode cX7_pieces 22 = .ok (.iload_n 2, 1) := by decide +kernel
theorem dX7_pieces_23 : decode cX7_pieces 23 = .ok (.iaload, 1) := by decide +kernel
theorem dX7_pieces_24 : decode cX7_pieces 24 = .ok (.iload_n 2, 1) := by decide +kernel
theorem dX7_pieces_25 : decode cX7_pieces 25 = .ok (.if_icmp .ne 7, 3) := by decide +kernel
theorem dX7_pieces_28 : decode cX7_pieces 28 = .ok (.iconst 1, 1) := by decide +kernel
theorem dX7_pieces_29 : decode cX7_pieces 29 = .ok (.goto 4, 3) := by decide +kernel
theorem dX7_pieces_32 : decode cX7_pieces 32 = .ok (.iconst 0, 1) := by decide +kernel
theorem dX7_pieces_33 : decode cX7_pieces 33 = .ok (.iadd, 1) := by decide +kernel
theorem dX7_pieces_34 : decode cX7_pieces 34 = .ok (.istore_n 1, 1) := by decide +kernel
theorem dX7_pieces_35 : decode cX7_pieces 35 = .ok (.iinc 2 1, 3) := by decide +kernel
theorem dX7_pieces_38 : decode cX7_pieces 38 = .ok (.goto (-27), 3) := by decide +kernel
theorem dX7_pieces_41 : decode cX7_pieces 41 = .ok (.iload_n 1, 1) := by decide +kernel
theorem dX7_pieces_42 : decode cX7_pieces 42 = .ok (.ireturn, 1) := by decide +kernel
def ch_wsX7_winner : List (List Cond) := [[.code yX7_winner cX7_winner 2 (some .int)], [.fieldLink RX7 7 "TailorChalksModel" "s" "[I", .methodLink RX7 32 yX7_at, .static yX7_at, .initialized RX7, .code yX7_at cX7_at 2 (some .int), .methodLink RX7 84 yX7_isOver, .instanceMethod yX7_isOver, .selects RX7 yX7_isOver yX7_isOver, .code yX7_isOver cX7_isOver 1 (some .boolean), .methodLink RX7 71 yX7_left, .instanceMethod yX7_left, .selects RX7 yX7_left yX7_left, .code yX7_left cX7_left 3 (some .int), .methodLink RX7 44 yX7_isGone, .instanceMethod yX7_isGone, .selects RX7 yX7_isGone yX7_isGone, .code yX7_isGone cX7_isGone 2 (some .boolean)], wsX70]
set_option maxRecDepth 20000 in
theorem hf_wsX7_winner : wsX7_winner = (ch_wsX7_winner).flatten := rfl
set_option maxRecDepth 20000 in
theorem hg_wsX7_winner : (wsX7_winner).all goodWord = true := by decide +kernel
set_option maxRecDepth 20000 in
theorem gX7_winner_X7_at : GoodIn wsX7_winner (va_wsS RX7 32 yX7_at wsX7_at) := goodIn_c ch_wsX7_winner hf_wsX7_winner hg_wsX7_winner _ [(1, 1), (1, 2), (1, 3), (1, 4)] rfl
set_option maxRecDepth 20000 in
theorem gX7_winner_X7_isOver : GoodIn wsX7_winner (wsV RX7 84 RX7 yX7_isOver wsX7_isOver) := goodIn_c ch_wsX7_winner hf_wsX7_winner hg_wsX7_winner _ [(1, 5), (1, 6), (1, 7), (1, 3), (1, 8), (1, 0), (1, 9), (1, 10), (1, 11), (1, 3), (1, 12), (1, 13), (1, 14), (1, 15), (1, 16), (2, 0), (2, 1), (2, 2), (2, 3), (2, 4), (2, 5), (2, 6), (2, 7), (2, 8)] rfl
theorem dX7_winner_0 : decode cX7_winner 0 = .ok (.aload_n 0, 1) := by decide +kernel
theorem dX7_winner_1 : decode cX7_winner 1 = .ok (.getfield 7, 3) := by decide +kernel
theorem dX7_winner_4 : decode cX7_winner 4 = .ok (.iconst 0, 1) := by decide +kernel
theorem dX7_winner_5 : decode cX7_winner 5 = .ok (.iconst 0, 1) := by decide +kernel
theorem dX7_winner_6 : decode cX7_winner 6 = .ok (.invokestatic 32, 3) := by decide +kernel
theorem dX7_winner_9 : decode cX7_winner 9 = .ok (.iaload, 1) := by decide +kernel
theorem dX7_winner_10 : decode cX7_winner 10 = .ok (.aload_n 0, 1) := by decide +kernel
theorem dX7_winner_11 : decode cX7_winner 11 = .ok (.getfield 7, 3) := by decide +kernel
theorem dX7_winner_14 : decode cX7_winner 14 = .ok (.iconst 1, 1) := by decide +kernel
theorem dX7_winner_15 : decode cX7_winner 15 = .ok (.iconst 0, 1) := by decide +kernel
theorem dX7_winner_16 : decode cX7_winner 16 = .ok (.invokestatic 32, 3) := by decide +kernel
theorem dX7_winner_19 : decode cX7_winner 19 = .ok (.iaload, 1) := by decide +kernel
theorem dX7_winner_20 : decode cX7_winner 20 = .ok (.isub, 1) := by decide +kernel
theorem dX7_winner_21 : decode cX7_winner 21 = .ok (.istore_n 1, 1) := by decide +kernel
theorem dX7_winner_22 : decode cX7_winner 22 = .ok (.aload_n 0, 1) := by decide +kernel
theorem dX7_winner_23 : decode cX7_winner 23 = .ok (.invokevirtual 84, 3) := by decide +kernel
theorem dX7_winner_26 : decode cX7_winner 26 = .ok (.ifCond .ne 8, 3) := by decide +kernel
theorem dX7_winner_29 : decode cX7_winner 29 = .ok (.bipush (-6), 2) := by decide +kernel
theorem dX7_winner_31 : decode cX7_winner 31 = .ok (.goto 20, 3) := by decide +kernel
theorem dX7_winner_34 : decode cX7_winner 34 = .ok (.iload_n 1, 1) := by decide +kernel
theorem dX7_winner_35 : decode cX7_winner 35 = .ok (.ifCond .le 7, 3) := by decide +kernel
theorem dX7_winner_38 : decode cX7_winner 38 = .ok (.iconst 0, 1) := by decide +kernel
theorem dX7_winner_39 : decode cX7_winner 39 = .ok (.goto 12, 3) := by decide +kernel
theorem dX7_winner_42 : decode cX7_winner 42 = .ok (.iload_n 1, 1) := by decide +kernel
theorem dX7_winner_43 : decode cX7_winner 43 = .ok (.ifCond .ge 7, 3) := by decide +kernel
theorem dX7_winner_46 : decode cX7_winner 46 = .ok (.iconst 1, 1) := by decide +kernel
theorem dX7_winner_47 : decode cX7_winner 47 = .ok (.goto 4, 3) := by decide +kernel
theorem dX7_winner_50 : decode cX7_winner 50 = .ok (.iconst 2, 1) := by decide +kernel
theorem dX7_winner_51 : decode cX7_winner 51 = .ok (.ireturn, 1) := by decide +kernel
def ch_wsX7_count : List (List Cond) := [[.code yX7_count cX7_count 2 (some .int)], wsX7_count_r1, wsX7_count_r2, wsX7_count_r3, wsX70]
set_option maxRecDepth 20000 in
theorem hf_wsX7_count : wsX7_count = (ch_wsX7_count).flatten := rfl
set_option maxRecDepth 20000 in
theorem hg_wsX7_count : (wsX7_count).all goodWord = true := by decide +kernel
set_option maxRecDepth 20000 in
theorem gX7_count_X7_isOver : GoodIn wsX7_count (wsV RX7 84 RX7 yX7_isOver wsX7_isOver) := goodIn_c ch_wsX7_count hf_wsX7_count hg_wsX7_count _ [(1, 3), (1, 4), (1, 5), (1, 6), (1, 7), (1, 0), (1, 8), (1, 9), (1, 10), (1, 6), (1, 11), (1, 12), (1, 13), (1, 14), (1, 15), (4, 0), (4, 1), (4, 2), (4, 3), (4, 4), (4, 5), (4, 6), (4, 7), (4, 8)] rfl
set_option maxRecDepth 20000 in
theorem gX7_count_X7_winner : GoodIn wsX7_count (wsV RX7 147 RX7 yX7_winner wsX7_winner) := goodIn_c ch_wsX7_count hf_wsX7_count hg_wsX7_count _ [(1, 16), (1, 17), (1, 18), (1, 6), (1, 19), (1, 0), (1, 20), (1, 21), (1, 6), (1, 22), (1, 3), (1, 4), (1, 5), (1, 7), (1, 8), (1, 9), (1, 10), (1, 11), (1, 12), (1, 13), (1, 14), (1, 15), (4, 0), (4, 1), (4, 2), (4, 3), (4, 4), (4, 5), (4, 6), (4, 7), (4, 8)] rfl
set_option maxRecDepth 20000 in
theorem gX7_count_X7_left : GoodIn wsX7_count (wsV RX7 71 RX7 yX7_left wsX7_left) := goodIn_c ch_wsX7_count hf_wsX7_count hg_wsX7_count _ [(1, 8), (1, 9), (1, 10), (1, 6), (1, 11), (1, 12), (1, 13), (1, 14), (1, 6), (1, 15), (1, 0), (4, 0), (4, 1), (4, 2), (4, 3), (4, 4), (4, 5), (4, 6), (4, 7), (4, 8)] rfl
set_option maxRecDepth 20000 in
theorem gX7_count_X7_pieces : GoodIn wsX7_count (wsV RX7 150 RX7 yX7_pieces wsX7_pieces) := goodIn_c ch_wsX7_count hf_wsX7_count hg_wsX7_count _ [(1, 23), (2, 0), (2, 1), (1, 6), (2, 2), (2, 3), (2, 4), (2, 5), (2, 6), (1, 6), (2, 7), (1, 0), (1, 12), (1, 13), (1, 14), (1, 15), (2, 8), (2, 9), (2, 10), (2, 11), (2, 12), (2, 13), (2, 14), (2, 15), (2, 16), (2, 17), (2, 18), (2, 19), (2, 20), (2, 21), (4, 0), (4, 1), (4, 2), (4, 3), (4, 4), (4, 5), (4, 6), (4, 7), (4, 8)] rfl
set_option maxRecDepth 20000 in
theorem gX7_count_X7_many : GoodIn wsX7_count (wsV RX7 105 RX7 yX7_many wsX7_many) := goodIn_c ch_wsX7_count hf_wsX7_count hg_wsX7_count _ [(2, 22), (2, 23), (3, 0), (1, 6), (3, 1), (1, 0), (2, 12), (2, 13), (2, 14), (1, 6), (2, 15), (2, 16), (2, 17), (2, 18), (1, 12), (1, 13), (1, 14), (1, 15), (2, 19), (2, 20), (2, 21), (4, 0), (4, 1), (4, 2), (4, 3), (4, 4), (4, 5), (4, 6), (4, 7), (4, 8)] rfl
theorem dX7_count_0 : decode cX7_count 0 = .ok (.iload_n 1, 1) := by decide +kernel
theorem dX7_count_1 : decode cX7_count 1 = .ok (.tableswitch 116 0 10 #[59, 59, 70, 83, 88, 93, 98, 98, 98, 106, 111], 59) := by decide +kernel
theorem dX7_count_60 : decode cX7_count 60 = .ok (.aload_n 0, 1) := by decide +kernel
theorem dX7_count_61 : decode cX7_count 61 = .ok (.getfield 7, 3) := by decide +kernel
theorem dX7_count_64 : decode cX7_count 64 = .ok (.sipush 244, 3) := by decide +kernel
theorem dX7_count_67 : decode cX7_count 67 = .ok (.iload_n 1, 1) := by decide +kernel
theorem dX7_count_68 : decode cX7_count 68 = .ok (.iadd, 1) := by decide +kernel
theorem dX7_count_69 : decode cX7_count 69 = .ok (.iaload, 1) := by decide +kernel
theorem dX7_count_70 : decode cX7_count 70 = .ok (.ireturn, 1) := by decide +kernel
theorem dX7_count_71 : decode cX7_count 71 = .ok (.aload_n 0, 1) := by decide +kernel
theorem dX7_count_72 : decode cX7_count 72 = .ok (.invokevirtual 84, 3) := by decide +kernel
theorem dX7_count_75 : decode cX7_count 75 = .ok (.ifCond .eq 7, 3) := by decide +kernel
theorem dX7_count_78 : decode cX7_count 78 = .ok (.iconst 1, 1) := by decide +kernel
theorem dX7_count_79 : decode cX7_count 79 = .ok (.goto 4, 3) := by decide +kernel
theorem dX7_count_82 : decode cX7_count 82 = .ok (.iconst 0, 1) := by decide +kernel
theorem dX7_count_83 : decode cX7_count 83 = .ok (.ireturn, 1) := by decide +kernel
theorem dX7_count_84 : decode cX7_count 84 = .ok (.aload_n 0, 1) := by decide +kernel
theorem dX7_count_85 : decode cX7_count 85 = .ok (.invokevirtual 147, 3) := by decide +kernel
theorem dX7_count_88 : decode cX7_count 88 = .ok (.ireturn, 1) := by decide +kernel
theorem dX7_count_89 : decode cX7_count 89 = .ok (.aload_n 0, 1) := by decide +kernel
theorem dX7_count_90 : decode cX7_count 90 = .ok (.invokevirtual 71, 3) := by decide +kernel
theorem dX7_count_93 : decode cX7_count 93 = .ok (.ireturn, 1) := by decide +kernel
theorem dX7_count_94 : decode cX7_count 94 = .ok (.aload_n 0, 1) := by decide +kernel
theorem dX7_count_95 : decode cX7_count 95 = .ok (.invokevirtual 150, 3) := by decide +kernel
theorem dX7_count_98 : decode cX7_count 98 = .ok (.ireturn, 1) := by decide +kernel
theorem dX7_count_99 : decode cX7_count 99 = .ok (.aload_n 0, 1) := by decide +kernel
theorem dX7_count_100 : decode cX7_count 100 = .ok (.iload_n 1, 1) := by decide +kernel
theorem dX7_count_101 : decode cX7_count 101 = .ok (.iconst 5, 1) := by decide +kernel
theorem dX7_count_102 : decode cX7_count 102 = .ok (.isub, 1) := by decide +kernel
theorem dX7_count_103 : decode cX7_count 103 = .ok (.invokevirtual 105, 3) := by decide +kernel
theorem dX7_count_106 : decode cX7_count 106 = .ok (.ireturn, 1) := by decide +kernel
theorem dX7_count_107 : decode cX7_count 107 = .ok (.aload_n 0, 1) := by decide +kernel
theorem dX7_count_108 : decode cX7_count 108 = .ok (.getfield 153, 3) := by decide +kernel
theorem dX7_count_111 : decode cX7_count 111 = .ok (.ireturn, 1) := by decide +kernel
theorem dX7_count_112 : decode cX7_count 112 = .ok (.aload_n 0, 1) := by decide +kernel
theorem dX7_count_113 : decode cX7_count 113 = .ok (.getfield 54, 3) := by decide +kernel
theorem dX7_count_116 : decode cX7_count 116 = .ok (.ireturn, 1) := by decide +kernel
theorem dX7_count_117 : decode cX7_count 117 = .ok (.bipush (-2), 2) := by decide +kernel
theorem dX7_count_119 : decode cX7_count 119 = .ok (.ireturn, 1) := by decide +kernel
def ch_wsX7_why : List (List Cond) := [[.code yX7_why cX7_why 2 (some .int)], wsX7_why_r1, wsX7_why_r2, wsX70]
set_option maxRecDepth 20000 in
theorem hf_wsX7_why : wsX7_why = (ch_wsX7_why).flatten := rfl
set_option maxRecDepth 20000 in
theorem hg_wsX7_why : (wsX7_why).all goodWord = true := by decide +kernel
set_option maxRecDepth 20000 in
theorem gX7_why_X7_isJoint : GoodIn wsX7_why (va_wsS RX7 81 yX7_isJoint wsX7_isJoint) := goodIn_c ch_wsX7_why hf_wsX7_why hg_wsX7_why _ [(1, 0), (1, 1), (1, 2), (1, 3), (1, 4), (1, 5), (1, 2), (1, 6)] rfl
set_option maxRecDepth 20000 in
theorem gX7_why_X7_reason : GoodIn wsX7_why (wsV RX7 95 RX7 yX7_reason wsX7_reason) := goodIn_c ch_wsX7_why hf_wsX7_why hg_wsX7_why _ [(1, 7), (1, 8), (1, 9), (1, 2), (1, 10), (1, 11), (1, 12), (1, 13), (1, 14), (1, 2), (1, 15), (1, 16), (1, 17), (1, 18), (1, 19), (1, 20), (1, 21), (1, 22), (1, 23), (2, 0), (2, 1), (2, 2), (2, 3), (2, 4), (2, 5), (2, 6), (2, 7), (2, 8), (2, 9), (3, 0), (3, 1), (3, 2), (3, 3), (3, 4), (3, 5), (3, 6), (3, 7), (3, 8)] rfl
theorem dX7_why_0 : decode cX7_why 0 = .ok (.iload_n 1, 1) := by decide +kernel
theorem dX7_why_1 : decode cX7_why 1 = .ok (.invokestatic 81, 3) := by decide +kernel
theorem dX7_why_4 : decode cX7_why 4 = .ok (.ifCond .eq 11, 3) := by decide +kernel
theorem dX7_why_7 : decode cX7_why 7 = .ok (.aload_n 0, 1) := by decide +kernel
theorem dX7_why_8 : decode cX7_why 8 = .ok (.iload_n 1, 1) := by decide +kernel
theorem dX7_why_9 : decode cX7_why 9 = .ok (.invokevirtual 95, 3) := by decide +kernel
theorem dX7_why_12 : decode cX7_why 12 = .ok (.goto 4, 3) := by decide +kernel
theorem dX7_why_15 : decode cX7_why 15 = .ok (.iconst (-1), 1) := by decide +kernel
theorem dX7_why_16 : decode cX7_why 16 = .ok (.ireturn, 1) := by decide +kernel
def ch_wsX7_ifSnipped : List (List Cond) := [[.code yX7_ifSnipped cX7_ifSnipped 2 (some .int)], wsX7_ifSnipped_r1, wsX7_ifSnipped_r2, wsX7_ifSnipped_r3, wsX70]
set_option maxRecDepth 20000 in
theorem hf_wsX7_ifSnipped : wsX7_ifSnipped = (ch_wsX7_ifSnipped).flatten := rfl
set_option maxRecDepth 20000 in
theorem hg_wsX7_ifSnipped : (wsX7_ifSnipped).all goodWord = true := by decide +kernel
set_option maxRecDepth 20000 in
theorem gX7_ifSnipped_X7_isJoint : GoodIn wsX7_ifSnipped (va_wsS RX7 81 yX7_isJoint wsX7_isJoint) := goodIn_c ch_wsX7_ifSnipped hf_wsX7_ifSnipped hg_wsX7_ifSnipped _ [(1, 0), (1, 1), (1, 2), (1, 3), (1, 4), (1, 5), (1, 2), (1, 6)] rfl
set_option maxRecDepth 20000 in
theorem gX7_ifSnipped_X7_reason : GoodIn wsX7_ifSnipped (wsV RX7 95 RX7 yX7_reason wsX7_reason) := goodIn_c ch_wsX7_ifSnipped hf_wsX7_ifSnipped hg_wsX7_ifSnipped _ [(1, 7), (1, 8), (1, 9), (1, 2), (1, 10), (1, 11), (1, 12), (1, 13), (1, 14), (1, 2), (1, 15), (1, 16), (1, 17), (1, 18), (1, 19), (1, 20), (1, 21), (1, 22), (1, 23), (2, 0), (2, 1), (2, 2), (2, 3), (2, 4), (2, 5), (2, 6), (2, 7), (2, 8), (2, 9), (4, 0), (4, 1), (4, 2), (4, 3), (4, 4), (4, 5), (4, 6), (4, 7), (4, 8)] rfl
set_option maxRecDepth 20000 in
theorem gX7_ifSnipped_X7_cellsBy : GoodIn wsX7_ifSnipped (wsV RX7 156 RX7 yX7_cellsBy wsX7_cellsBy) := goodIn_c ch_wsX7_ifSnipped hf_wsX7_ifSnipped hg_wsX7_ifSnipped _ [(2, 10), (2, 11), (2, 12), (1, 2), (2, 13), (2, 14), (2, 15), (2, 16), (1, 2), (2, 17), (2, 18), (2, 19), (2, 20), (2, 21), (2, 22), (1, 11), (1, 20), (1, 21), (1, 22), (1, 23), (2, 23), (3, 0), (3, 1), (3, 2), (2, 0), (2, 1), (2, 2), (2, 3), (2, 4), (2, 5), (2, 6), (2, 7), (2, 8), (2, 9), (3, 3), (3, 4), (3, 5), (3, 6), (4, 0), (4, 1), (4, 2), (4, 3), (4, 4), (4, 5), (4, 6), (4, 7), (4, 8)] rfl
