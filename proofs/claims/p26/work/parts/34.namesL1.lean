theorem dL_cell_0 : decode cL_cell 0 = .ok (.iload_n 1, 1) := by decide +kernel
theorem dL_cell_1 : decode cL_cell 1 = .ok (.aload_n 0, 1) := by decide +kernel
theorem dL_cell_2 : decode cL_cell 2 = .ok (.arraylength, 1) := by decide +kernel
theorem dL_cell_3 : decode cL_cell 3 = .ok (.if_icmp .ge 9, 3) := by decide +kernel
theorem dL_cell_6 : decode cL_cell 6 = .ok (.aload_n 0, 1) := by decide +kernel
theorem dL_cell_7 : decode cL_cell 7 = .ok (.iload_n 1, 1) := by decide +kernel
theorem dL_cell_8 : decode cL_cell 8 = .ok (.iaload, 1) := by decide +kernel
theorem dL_cell_9 : decode cL_cell 9 = .ok (.goto 11, 3) := by decide +kernel
theorem dL_cell_12 : decode cL_cell 12 = .ok (.ldc 7, 2) := by decide +kernel
theorem dL_cell_14 : decode cL_cell 14 = .ok (.iload_n 1, 1) := by decide +kernel
theorem dL_cell_15 : decode cL_cell 15 = .ok (.imul, 1) := by decide +kernel
theorem dL_cell_16 : decode cL_cell 16 = .ok (.sipush 977, 3) := by decide +kernel
theorem dL_cell_19 : decode cL_cell 19 = .ok (.iadd, 1) := by decide +kernel
theorem dL_cell_20 : decode cL_cell 20 = .ok (.ireturn, 1) := by decide +kernel
theorem dL_low_0 : decode cL_low 0 = .ok (.iload_n 0, 1) := by decide +kernel
theorem dL_low_1 : decode cL_low 1 = .ok (.ldc 8, 2) := by decide +kernel
theorem dL_low_3 : decode cL_low 3 = .ok (.iand, 1) := by decide +kernel
theorem dL_low_4 : decode cL_low 4 = .ok (.iload_n 1, 1) := by decide +kernel
theorem dL_low_5 : decode cL_low 5 = .ok (.irem, 1) := by decide +kernel
theorem dL_low_6 : decode cL_low 6 = .ok (.ireturn, 1) := by decide +kernel
def ch_wsL_joint : List (List Cond) := [[.code yL_joint cL_joint 3 (some .int)], [.methodLink RL 9 yL_low, .static yL_low, .initialized RL, .code yL_low cL_low 2 (some .int), .constant RL 8 (2147483647)]]
set_option maxRecDepth 20000 in
theorem hf_wsL_joint : wsL_joint = (ch_wsL_joint).flatten := rfl
set_option maxRecDepth 20000 in
theorem hg_wsL_joint : (wsL_joint).all goodWord = true := by decide +kernel
set_option maxRecDepth 20000 in
theorem gL_joint_L_low : GoodIn wsL_joint (va_wsS RL 9 yL_low wsL_low) := goodIn_c ch_wsL_joint hf_wsL_joint hg_wsL_joint _ [(1, 0), (1, 1), (1, 2), (1, 3), (1, 4)] rfl
theorem dL_joint_0 : decode cL_joint 0 = .ok (.iload_n 0, 1) := by decide +kernel
theorem dL_joint_1 : decode cL_joint 1 = .ok (.iconst 3, 1) := by decide +kernel
theorem dL_joint_2 : decode cL_joint 2 = .ok (.ishr, 1) := by decide +kernel
theorem dL_joint_3 : decode cL_joint 3 = .ok (.iconst 3, 1) := by decide +kernel
theorem dL_joint_4 : decode cL_joint 4 = .ok (.invokestatic 9, 3) := by decide +kernel
theorem dL_joint_7 : decode cL_joint 7 = .ok (.istore_n 1, 1) := by decide +kernel
theorem dL_joint_8 : decode cL_joint 8 = .ok (.iload_n 0, 1) := by decide +kernel
theorem dL_joint_9 : decode cL_joint 9 = .ok (.bipush 6, 2) := by decide +kernel
theorem dL_joint_11 : decode cL_joint 11 = .ok (.ishr, 1) := by decide +kernel
theorem dL_joint_12 : decode cL_joint 12 = .ok (.iconst 4, 1) := by decide +kernel
theorem dL_joint_13 : decode cL_joint 13 = .ok (.invokestatic 9, 3) := by decide +kernel
theorem dL_joint_16 : decode cL_joint 16 = .ok (.istore_n 2, 1) := by decide +kernel
theorem dL_joint_17 : decode cL_joint 17 = .ok (.iload_n 0, 1) := by decide +kernel
theorem dL_joint_18 : decode cL_joint 18 = .ok (.bipush 7, 2) := by decide +kernel
theorem dL_joint_20 : decode cL_joint 20 = .ok (.iand, 1) := by decide +kernel
theorem dL_joint_21 : decode cL_joint 21 = .ok (.ifCond .ne 14, 3) := by decide +kernel
theorem dL_joint_24 : decode cL_joint 24 = .ok (.iload_n 0, 1) := by decide +kernel
theorem dL_joint_25 : decode cL_joint 25 = .ok (.iconst 3, 1) := by decide +kernel
theorem dL_joint_26 : decode cL_joint 26 = .ok (.ishr, 1) := by decide +kernel
theorem dL_joint_27 : decode cL_joint 27 = .ok (.bipush 83, 2) := by decide +kernel
theorem dL_joint_29 : decode cL_joint 29 = .ok (.invokestatic 9, 3) := by decide +kernel
theorem dL_joint_32 : decode cL_joint 32 = .ok (.goto 29, 3) := by decide +kernel
theorem dL_joint_35 : decode cL_joint 35 = .ok (.iload_n 0, 1) := by decide +kernel
theorem dL_joint_36 : decode cL_joint 36 = .ok (.bipush 7, 2) := by decide +kernel
theorem dL_joint_38 : decode cL_joint 38 = .ok (.iand, 1) := by decide +kernel
theorem dL_joint_39 : decode cL_joint 39 = .ok (.iconst 4, 1) := by decide +kernel
theorem dL_joint_40 : decode cL_joint 40 = .ok (.if_icmp .ge 12, 3) := by decide +kernel
theorem dL_joint_43 : decode cL_joint 43 = .ok (.bipush 7, 2) := by decide +kernel
theorem dL_joint_45 : decode cL_joint 45 = .ok (.iload_n 1, 1) := by decide +kernel
theorem dL_joint_46 : decode cL_joint 46 = .ok (.imul, 1) := by decide +kernel
theorem dL_joint_47 : decode cL_joint 47 = .ok (.iload_n 2, 1) := by decide +kernel
theorem dL_joint_48 : decode cL_joint 48 = .ok (.iadd, 1) := by decide +kernel
theorem dL_joint_49 : decode cL_joint 49 = .ok (.goto 12, 3) := by decide +kernel
theorem dL_joint_52 : decode cL_joint 52 = .ok (.bipush 42, 2) := by decide +kernel
theorem dL_joint_54 : decode cL_joint 54 = .ok (.bipush 8, 2) := by decide +kernel
theorem dL_joint_56 : decode cL_joint 56 = .ok (.iload_n 1, 1) := by decide +kernel
theorem dL_joint_57 : decode cL_joint 57 = .ok (.imul, 1) := by decide +kernel
theorem dL_joint_58 : decode cL_joint 58 = .ok (.iadd, 1) := by decide +kernel
theorem dL_joint_59 : decode cL_joint 59 = .ok (.iload_n 2, 1) := by decide +kernel
theorem dL_joint_60 : decode cL_joint 60 = .ok (.iadd, 1) := by decide +kernel
theorem dL_joint_61 : decode cL_joint 61 = .ok (.ireturn, 1) := by decide +kernel
def ch_wsL_turn : List (List Cond) := [[.code yL_turn cL_turn 16 (some .boolean)], wsL_turn_r1, wsL_turn_r2, wsL_turn_r3, wsL_turn_r4, wsL_turn_r5, wsL_turn_r6, wsL_turn_r7, wsL_turn_r8, wsL_turn_r9, wsL_turn_r10, wsL_turn_r11, wsL_turn_r12, wsL_turn_r13, wsX60, wsX10, wsX30, wsX20, wsX00, wsX50]
set_option maxRecDepth 20000 in
theorem hf_wsL_turn : wsL_turn = (ch_wsL_turn).flatten := rfl
set_option maxRecDepth 20000 in
theorem hg_wsL_turn : (wsL_turn).all goodWord = true := by decide +kernel
set_option maxRecDepth 20000 in
theorem gL_turn_L_joint : GoodIn wsL_turn (va_wsS RL 15 yL_joint wsL_joint) := goodIn_c ch_wsL_turn hf_wsL_turn hg_wsL_turn _ [(1, 0), (1, 1), (1, 2), (1, 3), (1, 4), (1, 5), (1, 2), (1, 6), (1, 7)] rfl
set_option maxRecDepth 20000 in
theorem gL_turn_X6_count : GoodIn wsL_turn (wsV RL 19 RX6 yX6_count wsX6_count) := goodIn_c ch_wsL_turn hf_wsL_turn hg_wsL_turn _ [(1, 8), (1, 9), (1, 10), (1, 11), (1, 12), (1, 13), (1, 14), (1, 15), (1, 16), (1, 17), (1, 18), (1, 19), (1, 20), (1, 21), (1, 22), (1, 23), (2, 0), (2, 1), (2, 2), (2, 3), (2, 4), (2, 5), (2, 6), (2, 7), (2, 8), (2, 9), (2, 10), (2, 11), (2, 12), (2, 13), (2, 14), (2, 15), (2, 16), (2, 17), (2, 18), (1, 11), (2, 19), (2, 20), (2, 21), (2, 22), (2, 23), (3, 0), (3, 1), (3, 2), (3, 3), (3, 4), (3, 5), (3, 6), (3, 7), (3, 8), (3, 9), (3, 10), (3, 11), (3, 12), (3, 13), (3, 14), (3, 15), (3, 16), (3, 17), (3, 18), (3, 19), (3, 20), (3, 21), (3, 22), (3, 23), (4, 0), (4, 1), (4, 2), (4, 3), (4, 4), (4, 5), (4, 6), (4, 7), (4, 8), (4, 9), (4, 10), (4, 11), (4, 12), (4, 13), (4, 14), (4, 15), (14, 0), (14, 1), (14, 2), (14, 3), (14, 4), (15, 0), (15, 1), (15, 2), (15, 3), (15, 4), (16, 0), (16, 1), (17, 0), (17, 1), (17, 2), (18, 0), (18, 1), (18, 2), (18, 3), (18, 4), (19, 0), (19, 1), (19, 2), (19, 3), (19, 4), (19, 5), (19, 6), (19, 7), (19, 8)] rfl
set_option maxRecDepth 20000 in
theorem gL_turn_X6_player : GoodIn wsL_turn (wsV RL 24 RX6 yX6_player wsX6_player) := goodIn_c ch_wsL_turn hf_wsL_turn hg_wsL_turn _ [(4, 16), (4, 17), (4, 18), (1, 11), (4, 19), (1, 13), (4, 20), (4, 21), (4, 22), (4, 23), (5, 0), (5, 1), (5, 2), (5, 3), (5, 4), (5, 5), (2, 0), (5, 6), (5, 7), (5, 8), (5, 9), (5, 10), (3, 0), (3, 2), (14, 0), (14, 1), (14, 2), (14, 3), (14, 4), (19, 0), (19, 1), (19, 2), (19, 3), (19, 4), (19, 5), (19, 6), (19, 7), (19, 8), (15, 0), (15, 1), (15, 2), (15, 3), (15, 4)] rfl
set_option maxRecDepth 20000 in
theorem gL_turn_X6_of : GoodIn wsL_turn (wsV RL 27 RX6 yX6_of wsX6_of) := goodIn_c ch_wsL_turn hf_wsL_turn hg_wsL_turn _ [(5, 11), (5, 12), (5, 13), (1, 11), (5, 14), (1, 13), (1, 16), (5, 15), (5, 16), (2, 7), (5, 17), (5, 18), (5, 19), (5, 20), (5, 21), (4, 5), (5, 22), (5, 23), (4, 7), (4, 8), (4, 9), (2, 9), (4, 10), (4, 11), (4, 12), (4, 13), (4, 14), (4, 15), (3, 9), (3, 10), (3, 11), (2, 17), (2, 18), (1, 11), (2, 19), (6, 0), (6, 1), (6, 2), (6, 3), (6, 4), (6, 5), (6, 6), (2, 0), (6, 7), (3, 0), (3, 2), (6, 8), (6, 9), (6, 10), (6, 11), (6, 12), (6, 13), (6, 14), (6, 15), (6, 16), (6, 17), (6, 18), (2, 3), (3, 3), (1, 22), (1, 23), (2, 1), (2, 2), (2, 4), (2, 5), (2, 6), (2, 8), (2, 10), (2, 11), (2, 12), (2, 13), (2, 14), (2, 15), (2, 16), (6, 19), (6, 20), (6, 21), (6, 22), (6, 23), (7, 0), (7, 1), (7, 2), (7, 3), (7, 4), (3, 17), (3, 16), (14, 0), (14, 1), (14, 2), (14, 3), (14, 4), (15, 0), (15, 1), (15, 2), (15, 3), (15, 4), (18, 0), (18, 1), (18, 2), (18, 3), (18, 4), (19, 0), (19, 1), (19, 2), (19, 3), (19, 4), (19, 5), (19, 6), (19, 7), (19, 8)] rfl
set_option maxRecDepth 20000 in
theorem gL_turn_L_low : GoodIn wsL_turn (va_wsS RL 9 yL_low wsL_low) := goodIn_c ch_wsL_turn hf_wsL_turn hg_wsL_turn _ [(1, 4), (1, 5), (1, 2), (1, 6), (1, 7)] rfl
set_option maxRecDepth 20000 in
theorem gL_turn_X6_chalk : GoodIn wsL_turn (wsV RL 30 RX6 yX6_chalk wsX6_chalk) := goodIn_c ch_wsL_turn hf_wsL_turn hg_wsL_turn _ [(7, 5), (7, 6), (7, 7), (1, 11), (7, 8), (7, 9), (7, 10), (7, 11), (1, 11), (7, 12), (1, 19), (1, 13), (7, 13), (7, 14), (7, 15), (7, 16), (7, 17), (7, 18), (7, 19), (7, 20), (7, 21), (2, 0), (7, 22), (2, 3), (3, 0), (3, 2), (7, 23), (2, 2), (8, 0), (8, 1), (8, 2), (2, 7), (8, 3), (4, 5), (7, 0), (2, 9), (3, 16), (3, 17), (8, 4), (8, 5), (8, 6), (6, 11), (8, 7), (6, 14), (6, 13), (8, 8), (8, 9), (8, 10), (8, 11), (8, 12), (8, 13), (8, 14), (8, 15), (8, 16), (8, 17), (8, 18), (8, 19), (8, 20), (8, 21), (8, 22), (3, 3), (1, 22), (1, 23), (2, 1), (2, 4), (2, 5), (2, 6), (2, 8), (2, 10), (2, 11), (2, 12), (2, 13), (2, 14), (2, 15), (2, 16), (8, 23), (9, 0), (9, 1), (9, 2), (9, 3), (5, 16), (5, 17), (6, 19), (4, 7), (4, 8), (4, 9), (4, 10), (4, 11), (4, 12), (4, 13), (4, 14), (4, 15), (3, 9), (3, 10), (3, 11), (9, 4), (9, 5), (9, 6), (9, 7), (9, 8), (9, 9), (5, 8), (5, 9), (5, 10), (9, 10), (7, 2), (7, 3), (7, 4), (6, 8), (6, 9), (6, 10), (6, 12), (9, 11), (9, 12), (9, 13), (9, 14), (9, 15), (9, 16), (9, 17), (9, 18), (9, 19), (9, 20), (9, 21), (9, 22), (9, 23), (5, 19), (5, 20), (5, 21), (5, 22), (10, 0), (10, 1), (10, 2), (10, 3), (3, 1), (10, 4), (10, 5), (10, 6), (10, 7), (10, 8), (10, 9), (10, 10), (10, 11), (10, 12), (10, 13), (10, 14), (10, 15), (10, 16), (10, 17), (3, 22), (3, 23), (4, 0), (10, 18), (6, 2), (6, 3), (10, 19), (10, 20), (10, 21), (10, 22), (10, 23), (11, 0), (11, 1), (11, 2), (11, 3), (11, 4), (11, 5), (11, 6), (11, 7), (11, 8), (11, 9), (11, 10), (11, 11), (11, 12), (11, 13), (11, 14), (11, 15), (11, 16), (11, 17), (11, 18), (11, 19), (11, 20), (11, 21), (4, 2), (4, 3), (4, 4), (4, 6), (11, 22), (11, 23), (12, 0), (12, 1), (12, 2), (12, 3), (6, 20), (6, 21), (6, 22), (6, 23), (12, 4), (12, 5), (12, 6), (12, 7), (12, 8), (12, 9), (12, 10), (12, 11), (12, 12), (12, 13), (14, 0), (14, 1), (14, 2), (14, 3), (14, 4), (17, 0), (17, 1), (17, 2), (15, 0), (15, 1), (15, 2), (15, 3), (15, 4), (18, 0), (18, 1), (18, 2), (18, 3), (18, 4), (19, 0), (19, 1), (19, 2), (19, 3), (19, 4), (19, 5), (19, 6), (19, 7), (19, 8)] rfl
set_option maxRecDepth 20000 in
theorem gL_turn_X6_ifSnipped : GoodIn wsL_turn (wsV RL 33 RX6 yX6_ifSnipped wsX6_ifSnipped) := goodIn_c ch_wsL_turn hf_wsL_turn hg_wsL_turn _ [(12, 14), (12, 15), (12, 16), (1, 11), (12, 17), (1, 13), (1, 16), (5, 15), (5, 16), (2, 7), (5, 17), (12, 18), (9, 20), (9, 21), (2, 0), (9, 22), (2, 3), (3, 3), (1, 22), (1, 23), (2, 1), (2, 2), (2, 4), (2, 5), (2, 6), (2, 8), (2, 9), (2, 10), (2, 11), (2, 12), (2, 13), (2, 14), (2, 15), (2, 16), (6, 19), (4, 7), (4, 8), (4, 9), (4, 10), (4, 11), (4, 12), (4, 13), (4, 14), (4, 15), (3, 9), (3, 10), (3, 11), (9, 23), (5, 19), (5, 20), (5, 21), (4, 5), (5, 22), (12, 19), (10, 14), (10, 15), (10, 16), (3, 16), (10, 17), (3, 17), (3, 22), (3, 23), (4, 0), (10, 18), (6, 2), (6, 3), (12, 20), (14, 0), (14, 1), (14, 2), (14, 3), (14, 4), (15, 0), (15, 1), (15, 2), (15, 3), (15, 4), (18, 0), (18, 1), (18, 2), (18, 3), (18, 4)] rfl
set_option maxRecDepth 20000 in
theorem gL_turn_X6_snip : GoodIn wsL_turn (wsV RL 36 RX6 yX6_snip wsX6_snip) := goodIn_c ch_wsL_turn hf_wsL_turn hg_wsL_turn _ [(12, 21), (12, 22), (12, 23), (1, 11), (13, 0), (7, 9), (7, 10), (7, 11), (1, 11), (7, 12), (1, 19), (1, 13), (7, 13), (7, 14), (7, 15), (7, 16), (7, 17), (7, 18), (7, 19), (7, 20), (7, 21), (2, 0), (7, 22), (2, 3), (3, 0), (3, 2), (7, 23), (2, 2), (8, 0), (8, 1), (8, 2), (2, 7), (8, 3), (4, 5), (7, 0), (2, 9), (3, 16), (3, 17), (8, 4), (8, 5), (8, 6), (6, 11), (8, 7), (6, 14), (6, 13), (8, 8), (8, 9), (8, 10), (8, 11), (8, 12), (8, 13), (8, 14), (8, 15), (8, 16), (8, 17), (8, 18), (8, 19), (8, 20), (8, 21), (8, 22), (3, 3), (1, 22), (1, 23), (2, 1), (2, 4), (2, 5), (2, 6), (2, 8), (2, 10), (2, 11), (2, 12), (2, 13), (2, 14), (2, 15), (2, 16), (8, 23), (9, 0), (9, 1), (9, 2), (9, 3), (5, 16), (5, 17), (6, 19), (4, 7), (4, 8), (4, 9), (4, 10), (4, 11), (4, 12), (4, 13), (4, 14), (4, 15), (3, 9), (3, 10), (3, 11), (9, 4), (9, 5), (9, 6), (9, 7), (9, 8), (9, 9), (5, 8), (5, 9), (5, 10), (9, 10), (7, 2), (7, 3), (7, 4), (6, 8), (6, 9), (6, 10), (6, 12), (9, 11), (9, 12), (9, 13), (9, 14), (9, 15), (9, 16), (9, 17), (9, 18), (9, 19), (9, 20), (9, 21), (9, 22), (9, 23), (5, 19), (5, 20), (5, 21), (5, 22), (10, 0), (10, 1), (10, 2), (10, 3), (3, 1), (10, 4), (10, 5), (10, 6), (10, 7), (10, 8), (10, 9), (10, 10), (10, 11), (10, 12), (10, 13), (10, 14), (10, 15), (10, 16), (10, 17), (3, 22), (3, 23), (4, 0), (10, 18), (6, 2), (6, 3), (10, 19), (10, 20), (10, 21), (10, 22), (10, 23), (11, 0), (11, 1), (11, 2), (11, 3), (11, 4), (11, 5), (11, 6), (11, 7), (11, 8), (11, 9), (11, 10), (11, 11), (11, 12), (11, 13), (11, 14), (11, 15), (11, 16), (11, 17), (11, 18), (11, 19), (11, 20), (11, 21), (4, 2), (4, 3), (4, 4), (4, 6), (11, 22), (11, 23), (12, 0), (12, 1), (12, 2), (12, 3), (6, 20), (6, 21), (6, 22), (6, 23), (12, 4), (12, 5), (12, 6), (12, 7), (12, 8), (12, 9), (12, 10), (12, 11), (12, 12), (12, 13), (14, 0), (14, 1), (14, 2), (14, 3), (14, 4), (17, 0), (17, 1), (17, 2), (15, 0), (15, 1), (15, 2), (15, 3), (15, 4), (18, 0), (18, 1), (18, 2), (18, 3), (18, 4), (19, 0), (19, 1), (19, 2), (19, 3), (19, 4), (19, 5), (19, 6), (19, 7), (19, 8)] rfl
set_option maxRecDepth 20000 in
theorem gL_turn_X6_sew : GoodIn wsL_turn (wsV RL 39 RX6 yX6_sew wsX6_sew) := goodIn_c ch_wsL_turn hf_wsL_turn hg_wsL_turn _ [(13, 1), (13, 2), (13, 3), (1, 11), (13, 4), (7, 9), (7, 10), (7, 11), (1, 11), (7, 12), (1, 19), (1, 13), (7, 13), (7, 14), (7, 15), (7, 16), (7, 17), (7, 18), (7, 19), (7, 20), (7, 21), (2, 0), (7, 22), (2, 3), (3, 0), (3, 2), (7, 23), (2, 2), (8, 0), (8, 1), (8, 2), (2, 7), (8, 3), (4, 5), (7, 0), (2, 9), (3, 16), (3, 17), (8, 4), (8, 5), (8, 6), (6, 11), (8, 7), (6, 14), (6, 13), (8, 8), (8, 9), (8, 10), (8, 11), (8, 12), (8, 13), (8, 14), (8, 15), (8, 16), (8, 17), (8, 18), (8, 19), (8, 20), (8, 21), (8, 22), (3, 3), (1, 22), (1, 23), (2, 1), (2, 4), (2, 5), (2, 6), (2, 8), (2, 10), (2, 11), (2, 12), (2, 13), (2, 14), (2, 15), (2, 16), (8, 23), (9, 0), (9, 1), (9, 2), (9, 3), (5, 16), (5, 17), (6, 19), (4, 7), (4, 8), (4, 9), (4, 10), (4, 11), (4, 12), (4, 13), (4, 14), (4, 15), (3, 9), (3, 10), (3, 11), (9, 4), (9, 5), (9, 6), (9, 7), (9, 8), (9, 9), (5, 8), (5, 9), (5, 10), (9, 10), (7, 2), (7, 3), (7, 4), (6, 8), (6, 9), (6, 10), (6, 12), (9, 11), (9, 12), (9, 13), (9, 14), (9, 15), (9, 16), (9, 17), (9, 18), (9, 19), (9, 20), (9, 21), (9, 22), (9, 23), (5, 19), (5, 20), (5, 21), (5, 22), (10, 0), (10, 1), (10, 2), (10, 3), (3, 1), (10, 4), (10, 5), (10, 6), (10, 7), (10, 8), (10, 9), (10, 10), (10, 11), (10, 12), (10, 13), (10, 14), (10, 15), (10, 16), (10, 17), (3, 22), (3, 23), (4, 0), (10, 18), (6, 2), (6, 3), (10, 19), (10, 20), (10, 21), (10, 22), (10, 23), (11, 0), (11, 1), (11, 2), (11, 3), (11, 4), (11, 5), (11, 6), (11, 7), (11, 8), (11, 9), (11, 10), (11, 11), (11, 12), (11, 13), (11, 14), (11, 15), (11, 16), (11, 17), (11, 18), (11, 19), (11, 20), (11, 21), (4, 2), (4, 3), (4, 4), (4, 6), (11, 22), (11, 23), (12, 0), (12, 1), (12, 2), (12, 3), (6, 20), (6, 21), (6, 22), (6, 23), (12, 4), (12, 5), (12, 6), (12, 7), (12, 8), (12, 9), (12, 10), (12, 11), (12, 12), (12, 13), (14, 0), (14, 1), (14, 2), (14, 3), (14, 4), (17, 0), (17, 1), (17, 2), (15, 0), (15, 1), (15, 2), (15, 3), (15, 4), (18, 0), (18, 1), (18, 2), (18, 3), (18, 4), (19, 0), (19, 1), (19, 2), (19, 3), (19, 4), (19, 5), (19, 6), (19, 7), (19, 8)] rfl
set_option maxRecDepth 20000 in
theorem gL_turn_X6_bluff : GoodIn wsL_turn (wsV RL 42 RX6 yX6_bluff wsX6_bluff) := goodIn_c ch_wsL_turn hf_wsL_turn hg_wsL_turn _ [(13, 5), (13, 6), (13, 7), (1, 11), (13, 8), (7, 9), (7, 10), (7, 11), (1, 11), (7, 12), (1, 19), (1, 13), (7, 13), (7, 14), (7, 15), (7, 16), (7, 17), (7, 18), (7, 19), (7, 20), (7, 21), (2, 0), (7, 22), (2, 3), (3, 0), (3, 2), (7, 23), (2, 2), (8, 0), (8, 1), (8, 2), (2, 7), (8, 3), (4, 5), (7, 0), (2, 9), (3, 16), (3, 17), (8, 4), (8, 5), (8, 6), (6, 11), (8, 7), (6, 14), (6, 13), (8, 8), (8, 9), (8, 10), (8, 11), (8, 12), (8, 13), (8, 14), (8, 15), (8, 16), (8, 17), (8, 18), (8, 19), (8, 20), (8, 21), (8, 22), (3, 3), (1, 22), (1, 23), (2, 1), (2, 4), (2, 5), (2, 6), (2, 8), (2, 10), (2, 11), (2, 12), (2, 13), (2, 14), (2, 15), (2, 16), (8, 23), (9, 0), (9, 1), (9, 2), (9, 3), (5, 16), (5, 17), (6, 19), (4, 7), (4, 8), (4, 9), (4, 10), (4, 11), (4, 12), (4, 13), (4, 14), (4, 15), (3, 9), (3, 10), (3, 11), (9, 4), (9, 5), (9, 6), (9, 7), (9, 8), (9, 9), (5, 8), (5, 9), (5, 10), (9, 10), (7, 2), (7, 3), (7, 4), (6, 8), (6, 9), (6, 10), (6, 12), (9, 11), (9, 12), (9, 13), (9, 14), (9, 15), (9, 16), (9, 17), (9, 18), (9, 19), (9, 20), (9, 21), (9, 22), (9, 23), (5, 19), (5, 20), (5, 21), (5, 22), (10, 0), (10, 1), (10, 2), (10, 3), (3, 1), (10, 4), (10, 5), (10, 6), (10, 7), (10, 8), (10, 9), (10, 10), (10, 11), (10, 12), (10, 13), (10, 14), (10, 15), (10, 16), (10, 17), (3, 22), (3, 23), (4, 0), (10, 18), (6, 2), (6, 3), (10, 19), (10, 20), (10, 21), (10, 22), (10, 23), (11, 0), (11, 1), (11, 2), (11, 3), (11, 4), (11, 5), (11, 6), (11, 7), (11, 8), (11, 9), (11, 10), (11, 11), (11, 12), (11, 13), (11, 14), (11, 15), (11, 16), (11, 17), (11, 18), (11, 19), (11, 20), (11, 21), (4, 2), (4, 3), (4, 4), (4, 6), (11, 22), (11, 23), (12, 0), (12, 1), (12, 2), (12, 3), (6, 20), (6, 21), (6, 22), (6, 23), (12, 4), (12, 5), (12, 6), (12, 7), (12, 8), (12, 9), (12, 10), (12, 11), (12, 12), (12, 13), (14, 0), (14, 1), (14, 2), (14, 3), (14, 4), (17, 0), (17, 1), (17, 2), (15, 0), (15, 1), (15, 2), (15, 3), (15, 4), (18, 0), (18, 1), (18, 2), (18, 3), (18, 4), (19, 0), (19, 1), (19, 2), (19, 3), (19, 4), (19, 5), (19, 6), (19, 7), (19, 8)] rfl
set_option maxRecDepth 20000 in
theorem gL_turn_X6_doubt : GoodIn wsL_turn (wsV RL 45 RX6 yX6_doubt wsX6_doubt) := goodIn_c ch_wsL_turn hf_wsL_turn hg_wsL_turn _ [(13, 9), (13, 10), (13, 11), (1, 11), (13, 12), (7, 9), (7, 10), (7, 11), (1, 11), (7, 12), (1, 19), (1, 13), (7, 13), (7, 14), (7, 15), (7, 16), (7, 17), (7, 18), (7, 19), (7, 20), (7, 21), (2, 0), (7, 22), (2, 3), (3, 0), (3, 2), (7, 23), (2, 2), (8, 0), (8, 1), (8, 2), (2, 7), (8, 3), (4, 5), (7, 0), (2, 9), (3, 16), (3, 17), (8, 4), (8, 5), (8, 6), (6, 11), (8, 7), (6, 14), (6, 13), (8, 8), (8, 9), (8, 10), (8, 11), (8, 12), (8, 13), (8, 14), (8, 15), (8, 16), (8, 17), (8, 18), (8, 19), (8, 20), (8, 21), (8, 22), (3, 3), (1, 22), (1, 23), (2, 1), (2, 4), (2, 5), (2, 6), (2, 8), (2, 10), (2, 11), (2, 12), (2, 13), (2, 14), (2, 15), (2, 16), (8, 23), (9, 0), (9, 1), (9, 2), (9, 3), (5, 16), (5, 17), (6, 19), (4, 7), (4, 8), (4, 9), (4, 10), (4, 11), (4, 12), (4, 13), (4, 14), (4, 15), (3, 9), (3, 10), (3, 11), (9, 4), (9, 5), (9, 6), (9, 7), (9, 8), (9, 9), (5, 8), (5, 9), (5, 10), (9, 10), (7, 2), (7, 3), (7, 4), (6, 8), (6, 9), (6, 10), (6, 12), (9, 11), (9, 12), (9, 13), (9, 14), (9, 15), (9, 16), (9, 17), (9, 18), (9, 19), (9, 20), (9, 21), (9, 22), (9, 23), (5, 19), (5, 20), (5, 21), (5, 22), (10, 0), (10, 1), (10, 2), (10, 3), (3, 1), (10, 4), (10, 5), (10, 6), (10, 7), (10, 8), (10, 9), (10, 10), (10, 11), (10, 12), (10, 13), (10, 14), (10, 15), (10, 16), (10, 17), (3, 22), (3, 23), (4, 0), (10, 18), (6, 2), (6, 3), (10, 19), (10, 20), (10, 21), (10, 22), (10, 23), (11, 0), (11, 1), (11, 2), (11, 3), (11, 4), (11, 5), (11, 6), (11, 7), (11, 8), (11, 9), (11, 10), (11, 11), (11, 12), (11, 13), (11, 14), (11, 15), (11, 16), (11, 17), (11, 18), (11, 19), (11, 20), (11, 21), (4, 2), (4, 3), (4, 4), (4, 6), (11, 22), (11, 23), (12, 0), (12, 1), (12, 2), (12, 3), (6, 20), (6, 21), (6, 22), (6, 23), (12, 4), (12, 5), (12, 6), (12, 7), (12, 8), (12, 9), (12, 10), (12, 11), (12, 12), (12, 13), (14, 0), (14, 1), (14, 2), (14, 3), (14, 4), (17, 0), (17, 1), (17, 2), (15, 0), (15, 1), (15, 2), (15, 3), (15, 4), (18, 0), (18, 1), (18, 2), (18, 3), (18, 4), (19, 0), (19, 1), (19, 2), (19, 3), (19, 4), (19, 5), (19, 6), (19, 7), (19, 8)] rfl
set_option maxRecDepth 20000 in
theorem gL_turn_X6_pass : GoodIn wsL_turn (wsV RL 48 RX6 yX6_pass wsX6_pass) := goodIn_c ch_wsL_turn hf_wsL_turn hg_wsL_turn _ [(13, 13), (13, 14), (13, 15), (1, 11), (13, 16), (7, 9), (7, 10), (7, 11), (1, 11), (7, 12), (1, 19), (1, 13), (7, 13), (7, 14), (7, 15), (7, 16), (7, 17), (7, 18), (7, 19), (7, 20), (7, 21), (2, 0), (7, 22), (2, 3), (3, 0), (3, 2), (7, 23), (2, 2), (8, 0), (8, 1), (8, 2), (2, 7), (8, 3), (4, 5), (7, 0), (2, 9), (3, 16), (3, 17), (8, 4), (8, 5), (8, 6), (6, 11), (8, 7), (6, 14), (6, 13), (8, 8), (8, 9), (8, 10), (8, 11), (8, 12), (8, 13), (8, 14), (8, 15), (8, 16), (8, 17), (8, 18), (8, 19), (8, 20), (8, 21), (8, 22), (3, 3), (1, 22), (1, 23), (2, 1), (2, 4), (2, 5), (2, 6), (2, 8), (2, 10), (2, 11), (2, 12), (2, 13), (2, 14), (2, 15), (2, 16), (8, 23), (9, 0), (9, 1), (9, 2), (9, 3), (5, 16), (5, 17), (6, 19), (4, 7), (4, 8), (4, 9), (4, 10), (4, 11), (4, 12), (4, 13), (4, 14), (4, 15), (3, 9), (3, 10), (3, 11), (9, 4), (9, 5), (9, 6), (9, 7), (9, 8), (9, 9), (5, 8), (5, 9), (5, 10), (9, 10), (7, 2), (7, 3), (7, 4), (6, 8), (6, 9), (6, 10), (6, 12), (9, 11), (9, 12), (9, 13), (9, 14), (9, 15), (9, 16), (9, 17), (9, 18), (9, 19), (9, 20), (9, 21), (9, 22), (9, 23), (5, 19), (5, 20), (5, 21), (5, 22), (10, 0), (10, 1), (10, 2), (10, 3), (3, 1), (10, 4), (10, 5), (10, 6), (10, 7), (10, 8), (10, 9), (10, 10), (10, 11), (10, 12), (10, 13), (10, 14), (10, 15), (10, 16), (10, 17), (3, 22), (3, 23), (4, 0), (10, 18), (6, 2), (6, 3), (10, 19), (10, 20), (10, 21), (10, 22), (10, 23), (11, 0), (11, 1), (11, 2), (11, 3), (11, 4), (11, 5), (11, 6), (11, 7), (11, 8), (11, 9), (11, 10), (11, 11), (11, 12), (11, 13), (11, 14), (11, 15), (11, 16), (11, 17), (11, 18), (11, 19), (11, 20), (11, 21), (4, 2), (4, 3), (4, 4), (4, 6), (11, 22), (11, 23), (12, 0), (12, 1), (12, 2), (12, 3), (6, 20), (6, 21), (6, 22), (6, 23), (12, 4), (12, 5), (12, 6), (12, 7), (12, 8), (12, 9), (12, 10), (12, 11), (12, 12), (12, 13), (14, 0), (14, 1), (14, 2), (14, 3), (14, 4), (17, 0), (17, 1), (17, 2), (15, 0), (15, 1), (15, 2), (15, 3), (15, 4), (18, 0), (18, 1), (18, 2), (18, 3), (18, 4), (19, 0), (19, 1), (19, 2), (19, 3), (19, 4), (19, 5), (19, 6), (19, 7), (19, 8)] rfl
theorem dL_turn_0 : decode cL_turn 0 = .ok (.iload_n 2, 1) := by decide +kernel
theorem dL_turn_1 : decode cL_turn 1 = .ok (.invokestatic 15, 3) := by decide +kernel
theorem dL_turn_4 : decode cL_turn 4 = .ok (.istore_n 3, 1) := by decide +kernel
theorem dL_turn_5 : decode cL_turn 5 = .ok (.aload_n 0, 1) := by decide +kernel
theorem dL_turn_6 : decode cL_turn 6 = .ok (.iconst 1, 1) := by decide +kernel
theorem dL_turn_7 : decode cL_turn 7 = .ok (.invokevirtual 19, 3) := by decide +kernel
theorem dL_turn_10 : decode cL_turn 10 = .ok (.istore 4, 2) := by decide +kernel
theorem dL_turn_12 : decode cL_turn 12 = .ok (.aload_n 0, 1) := by decide +kernel
theorem dL_turn_13 : decode cL_turn 13 = .ok (.iload 4, 2) := by decide +kernel
theorem dL_turn_15 : decode cL_turn 15 = .ok (.iconst 0, 1) := by decide +kernel
theorem dL_turn_16 : decode cL_turn 16 = .ok (.invokevirtual 24, 3) := by decide +kernel
theorem dL_turn_19 : decode cL_turn 19 = .ok (.istore 5, 2) := by decide +kernel
theorem dL_turn_21 : decode cL_turn 21 = .ok (.aload_n 0, 1) := by decide +kernel
theorem dL_turn_22 : decode cL_turn 22 = .ok (.iconst 1, 1) := by decide +kernel
theorem dL_turn_23 : decode cL_turn 23 = .ok (.iload 4, 2) := by decide +kernel
theorem dL_turn_25 : decode cL_turn 25 = .ok (.isub, 1) := by decide +kernel
theorem dL_turn_26 : decode cL_turn 26 = .ok (.iconst 0, 1) := by decide +kernel
theorem dL_turn_27 : decode cL_turn 27 = .ok (.invokevirtual 24, 3) := by decide +kernel
theorem dL_turn_30 : decode cL_turn 30 = .ok (.istore 6, 2) := by decide +kernel
theorem dL_turn_32 : decode cL_turn 32 = .ok (.aload_n 0, 1) := by decide +kernel
theorem dL_turn_33 : decode cL_turn 33 = .ok (.iconst 0, 1) := by decide +kernel
theorem dL_turn_34 : decode cL_turn 34 = .ok (.invokevirtual 19, 3) := by decide +kernel
theorem dL_turn_37 : decode cL_turn 37 = .ok (.istore 7, 2) := by decide +kernel
theorem dL_turn_39 : decode cL_turn 39 = .ok (.aload_n 0, 1) := by decide +kernel
theorem dL_turn_40 : decode cL_turn 40 = .ok (.iconst 2, 1) := by decide +kernel
theorem dL_turn_41 : decode cL_turn 41 = .ok (.invokevirtual 19, 3) := by decide +kernel
theorem dL_turn_44 : decode cL_turn 44 = .ok (.iconst 1, 1) := by decide +kernel
theorem dL_turn_45 : decode cL_turn 45 = .ok (.if_icmp .ne 7, 3) := by decide +kernel
theorem dL_turn_48 : decode cL_turn 48 = .ok (.iconst 1, 1) := by decide +kernel
theorem dL_turn_49 : decode cL_turn 49 = .ok (.goto 4, 3) := by decide +kernel
theorem dL_turn_52 : decode cL_turn 52 = .ok (.iconst 0, 1) := by decide +kernel
theorem dL_turn_53 : decode cL_turn 53 = .ok (.istore 8, 2) := by decide +kernel
theorem dL_turn_55 : decode cL_turn 55 = .ok (.aload_n 0, 1) := by decide +kernel
theorem dL_turn_56 : decode cL_turn 56 = .ok (.iload_n 3, 1) := by decide +kernel
theorem dL_turn_57 : decode cL_turn 57 = .ok (.iconst 0, 1) := by decide +kernel
theorem dL_turn_58 : decode cL_turn 58 = .ok (.invokevirtual 27, 3) := by decide +kernel
theorem dL_turn_61 : decode cL_turn 61 = .ok (.istore 9, 2) := by decide +kernel
theorem dL_turn_63 : decode cL_turn 63 = .ok (.iload 8, 2) := by decide +kernel
theorem dL_turn_65 : decode cL_turn 65 = .ok (.ifCond .ne 22, 3) := by decide +kernel
theorem dL_turn_68 : decode cL_turn 68 = .ok (.iload_n 3, 1) := by decide +kernel
theorem dL_turn_69 : decode cL_turn 69 = .ok (.bipush 82, 2) := by decide +kernel
theorem dL_turn_71 : decode cL_turn 71 = .ok (.if_icmp .ge 16, 3) := by decide +kernel
theorem dL_turn_74 : decode cL_turn 74 = .ok (.aload_n 0, 1) := by decide +kernel
theorem dL_turn_75 : decode cL_turn 75 = .ok (.iload_n 3, 1) := by decide +kernel
theorem dL_turn_76 : decode cL_turn 76 = .ok (.iconst 1, 1) := by decide +kernel
theorem dL_turn_77 : decode cL_turn 77 = .ok (.invokevirtual 27, 3) := by decide +kernel
theorem dL_turn_80 : decode cL_turn 80 = .ok (.ifCond .ne 7, 3) := by decide +kernel
theorem dL_turn_83 : decode cL_turn 83 = .ok (.iconst 1, 1) := by decide +kernel
theorem dL_turn_84 : decode cL_turn 84 = .ok (.goto 4, 3) := by decide +kernel
theorem dL_turn_87 : decode cL_turn 87 = .ok (.iconst 0, 1) := by decide +kernel
theorem dL_turn_88 : decode cL_turn 88 = .ok (.istore 10, 2) := by decide +kernel
theorem dL_turn_90 : decode cL_turn 90 = .ok (.iconst 0, 1) := by decide +kernel
theorem dL_turn_91 : decode cL_turn 91 = .ok (.istore 11, 2) := by decide +kernel
theorem dL_turn_93 : decode cL_turn 93 = .ok (.iconst 0, 1) := by decide +kernel
theorem dL_turn_94 : decode cL_turn 94 = .ok (.istore 12, 2) := by decide +kernel
theorem dL_turn_96 : decode cL_turn 96 = .ok (.iconst 0, 1) := by decide +kernel
theorem dL_turn_97 : decode cL_turn 97 = .ok (.istore 13, 2) := by decide +kernel
theorem dL_turn_99 : decode cL_turn 99 = .ok (.iload_n 1, 1) := by decide +kernel
theorem dL_turn_100 : decode cL_turn 100 = .ok (.bipush 16, 2) := by decide +kernel
theorem dL_turn_102 : decode cL_turn 102 = .ok (.invokestatic 9, 3) := by decide +kernel
theorem dL_turn_105 : decode cL_turn 105 = .ok (.tableswitch 431 0 14 #[75, 75, 75, 176, 176, 176, 176, 176, 176, 250, 250, 306, 306, 352, 352], 75) := by decide +kernel
theorem dL_turn_180 : decode cL_turn 180 = .ok (.iload_n 3, 1) := by decide +kernel
theorem dL_turn_181 : decode cL_turn 181 = .ok (.bipush 82, 2) := by decide +kernel
theorem dL_turn_183 : decode cL_turn 183 = .ok (.if_icmp .ge 22, 3) := by decide +kernel
theorem dL_turn_186 : decode cL_turn 186 = .ok (.aload_n 0, 1) := by decide +kernel
theorem dL_turn_187 : decode cL_turn 187 = .ok (.iload_n 3, 1) := by decide +kernel
theorem dL_turn_188 : decode cL_turn 188 = .ok (.iconst 4, 1) := by decide +kernel
theorem dL_turn_189 : decode cL_turn 189 = .ok (.invokevirtual 27, 3) := by decide +kernel
theorem dL_turn_192 : decode cL_turn 192 = .ok (.iload 4, 2) := by decide +kernel
theorem dL_turn_194 : decode cL_turn 194 = .ok (.ishr, 1) := by decide +kernel
theorem dL_turn_195 : decode cL_turn 195 = .ok (.iconst 1, 1) := by decide +kernel
theorem dL_turn_196 : decode cL_turn 196 = .ok (.iand, 1) := by decide +kernel
theorem dL_turn_197 : decode cL_turn 197 = .ok (.iconst 1, 1) := by decide +kernel
theorem dL_turn_198 : decode cL_turn 198 = .ok (.if_icmp .ne 7, 3) := by decide +kernel
theorem dL_turn_201 : decode cL_turn 201 = .ok (.iconst 1, 1) := by decide +kernel
theorem dL_turn_202 : decode cL_turn 202 = .ok (.goto 4, 3) := by decide +kernel
theorem dL_turn_205 : decode cL_turn 205 = .ok (.iconst 0, 1) := by decide +kernel
theorem dL_turn_206 : decode cL_turn 206 = .ok (.istore 14, 2) := by decide +kernel
theorem dL_turn_208 : decode cL_turn 208 = .ok (.iload_n 3, 1) := by decide +kernel
theorem dL_turn_209 : decode cL_turn 209 = .ok (.bipush 82, 2) := by decide +kernel
theorem dL_turn_211 : decode cL_turn 211 = .ok (.if_icmp .ne 7, 3) := by decide +kernel
theorem dL_turn_214 : decode cL_turn 214 = .ok (.iconst (-1), 1) := by decide +kernel
theorem dL_turn_215 : decode cL_turn 215 = .ok (.goto 54, 3) := by decide +kernel
theorem dL_turn_218 : decode cL_turn 218 = .ok (.iload 10, 2) := by decide +kernel
theorem dL_turn_220 : decode cL_turn 220 = .ok (.ifCond .eq 18, 3) := by decide +kernel
theorem dL_turn_223 : decode cL_turn 223 = .ok (.aload_n 0, 1) := by decide +kernel
theorem dL_turn_224 : decode cL_turn 224 = .ok (.iload_n 3, 1) := by decide +kernel
theorem dL_turn_225 : decode cL_turn 225 = .ok (.bipush 6, 2) := by decide +kernel
theorem dL_turn_227 : decode cL_turn 227 = .ok (.invokevirtual 27, 3) := by decide +kernel
theorem dL_turn_230 : decode cL_turn 230 = .ok (.ifCond .eq 8, 3) := by decide +kernel
theorem dL_turn_233 : decode cL_turn 233 = .ok (.iload 14, 2) := by decide +kernel
theorem dL_turn_235 : decode cL_turn 235 = .ok (.ifCond .eq 8, 3) := by decide +kernel
theorem dL_turn_238 : decode cL_turn 238 = .ok (.bipush (-5), 2) := by decide +kernel
theorem dL_turn_240 : decode cL_turn 240 = .ok (.goto 29, 3) := by decide +kernel
theorem dL_turn_243 : decode cL_turn 243 = .ok (.aload_n 0, 1) := by decide +kernel
theorem dL_turn_244 : decode cL_turn 244 = .ok (.iload 4, 2) := by decide +kernel
theorem dL_turn_246 : decode cL_turn 246 = .ok (.iconst 2, 1) := by decide +kernel
theorem dL_turn_247 : decode cL_turn 247 = .ok (.invokevirtual 24, 3) := by decide +kernel
theorem dL_turn_250 : decode cL_turn 250 = .ok (.bipush 8, 2) := by decide +kernel
theorem dL_turn_252 : decode cL_turn 252 = .ok (.if_icmp .ne 8, 3) := by decide +kernel
theorem dL_turn_255 : decode cL_turn 255 = .ok (.bipush (-4), 2) := by decide +kernel
theorem dL_turn_257 : decode cL_turn 257 = .ok (.goto 12, 3) := by decide +kernel
theorem dL_turn_260 : decode cL_turn 260 = .ok (.aload_n 0, 1) := by decide +kernel
theorem dL_turn_261 : decode cL_turn 261 = .ok (.iload 4, 2) := by decide +kernel
theorem dL_turn_263 : decode cL_turn 263 = .ok (.iconst 2, 1) := by decide +kernel
theorem dL_turn_264 : decode cL_turn 264 = .ok (.invokevirtual 24, 3) := by decide +kernel
theorem dL_turn_267 : decode cL_turn 267 = .ok (.iconst 1, 1) := by decide +kernel
theorem dL_turn_268 : decode cL_turn 268 = .ok (.iadd, 1) := by decide +kernel
theorem dL_turn_269 : decode cL_turn 269 = .ok (.istore 12, 2) := by decide +kernel
theorem dL_turn_271 : decode cL_turn 271 = .ok (.aload_n 0, 1) := by decide +kernel
theorem dL_turn_272 : decode cL_turn 272 = .ok (.iload_n 3, 1) := by decide +kernel
theorem dL_turn_273 : decode cL_turn 273 = .ok (.invokevirtual 30, 3) := by decide +kernel
theorem dL_turn_276 : decode cL_turn 276 = .ok (.istore 11, 2) := by decide +kernel
theorem dL_turn_278 : decode cL_turn 278 = .ok (.goto 280, 3) := by decide +kernel
theorem dL_turn_281 : decode cL_turn 281 = .ok (.aload_n 0, 1) := by decide +kernel
theorem dL_turn_282 : decode cL_turn 282 = .ok (.iload_n 3, 1) := by decide +kernel
theorem dL_turn_283 : decode cL_turn 283 = .ok (.invokevirtual 33, 3) := by decide +kernel
theorem dL_turn_286 : decode cL_turn 286 = .ok (.istore 12, 2) := by decide +kernel
theorem dL_turn_288 : decode cL_turn 288 = .ok (.iload 12, 2) := by decide +kernel
theorem dL_turn_290 : decode cL_turn 290 = .ok (.ifCond .ge 7, 3) := by decide +kernel
theorem dL_turn_293 : decode cL_turn 293 = .ok (.iconst 0, 1) := by decide +kernel
theorem dL_turn_294 : decode cL_turn 294 = .ok (.goto 49, 3) := by decide +kernel
theorem dL_turn_297 : decode cL_turn 297 = .ok (.iload 12, 2) := by decide +kernel
theorem dL_turn_299 : decode cL_turn 299 = .ok (.aload_n 0, 1) := by decide +kernel
theorem dL_turn_300 : decode cL_turn 300 = .ok (.iload_n 3, 1) := by decide +kernel
theorem dL_turn_301 : decode cL_turn 301 = .ok (.iconst 4, 1) := by decide +kernel
theorem dL_turn_302 : decode cL_turn 302 = .ok (.invokevirtual 27, 3) := by decide +kernel
theorem dL_turn_305 : decode cL_turn 305 = .ok (.iload 4, 2) := by decide +kernel
theorem dL_turn_307 : decode cL_turn 307 = .ok (.ishr, 1) := by decide +kernel
theorem dL_turn_308 : decode cL_turn 308 = .ok (.iconst 1, 1) := by decide +kernel
theorem dL_turn_309 : decode cL_turn 309 = .ok (.iand, 1) := by decide +kernel
theorem dL_turn_310 : decode cL_turn 310 = .ok (.iconst 1, 1) := by decide +kernel
theorem dL_turn_311 : decode cL_turn 311 = .ok (.if_icmp .ne 7, 3) := by decide +kernel
theorem dL_turn_314 : decode cL_turn 314 = .ok (.iconst 1, 1) := by decide +kernel
theorem dL_turn_315 : decode cL_turn 315 = .ok (.goto 4, 3) := by decide +kernel
theorem dL_turn_318 : decode cL_turn 318 = .ok (.iconst 0, 1) := by decide +kernel
theorem dL_turn_319 : decode cL_turn 319 = .ok (.iadd, 1) := by decide +kernel
theorem dL_turn_320 : decode cL_turn 320 = .ok (.aload_n 0, 1) := by decide +kernel
theorem dL_turn_321 : decode cL_turn 321 = .ok (.iload_n 3, 1) := by decide +kernel
theorem dL_turn_322 : decode cL_turn 322 = .ok (.iconst 4, 1) := by decide +kernel
theorem dL_turn_323 : decode cL_turn 323 = .ok (.invokevirtual 27, 3) := by decide +kernel
theorem dL_turn_326 : decode cL_turn 326 = .ok (.iconst 1, 1) := by decide +kernel
theorem dL_turn_327 : decode cL_turn 327 = .ok (.iload 4, 2) := by decide +kernel
theorem dL_turn_329 : decode cL_turn 329 = .ok (.isub, 1) := by decide +kernel
theorem dL_turn_330 : decode cL_turn 330 = .ok (.ishr, 1) := by decide +kernel
theorem dL_turn_331 : decode cL_turn 331 = .ok (.iconst 1, 1) := by decide +kernel
theorem dL_turn_332 : decode cL_turn 332 = .ok (.iand, 1) := by decide +kernel
theorem dL_turn_333 : decode cL_turn 333 = .ok (.iconst 1, 1) := by decide +kernel
theorem dL_turn_334 : decode cL_turn 334 = .ok (.if_icmp .ne 7, 3) := by decide +kernel
theorem dL_turn_337 : decode cL_turn 337 = .ok (.iconst 3, 1) := by decide +kernel
theorem dL_turn_338 : decode cL_turn 338 = .ok (.goto 4, 3) := by decide +kernel
theorem dL_turn_341 : decode cL_turn 341 = .ok (.iconst 0, 1) := by decide +kernel
theorem dL_turn_342 : decode cL_turn 342 = .ok (.isub, 1) := by decide +kernel
theorem dL_turn_343 : decode cL_turn 343 = .ok (.istore 13, 2) := by decide +kernel
theorem dL_turn_345 : decode cL_turn 345 = .ok (.aload_n 0, 1) := by decide +kernel
theorem dL_turn_346 : decode cL_turn 346 = .ok (.iload_n 3, 1) := by decide +kernel
theorem dL_turn_347 : decode cL_turn 347 = .ok (.invokevirtual 36, 3) := by decide +kernel
theorem dL_turn_350 : decode cL_turn 350 = .ok (.istore 11, 2) := by decide +kernel
theorem dL_turn_352 : decode cL_turn 352 = .ok (.goto 206, 3) := by decide +kernel
theorem dL_turn_355 : decode cL_turn 355 = .ok (.aload_n 0, 1) := by decide +kernel
theorem dL_turn_356 : decode cL_turn 356 = .ok (.iload 4, 2) := by decide +kernel
theorem dL_turn_358 : decode cL_turn 358 = .ok (.iconst 1, 1) := by decide +kernel
theorem dL_turn_359 : decode cL_turn 359 = .ok (.invokevirtual 24, 3) := by decide +kernel
theorem dL_turn_362 : decode cL_turn 362 = .ok (.istore 15, 2) := by decide +kernel
theorem dL_turn_364 : decode cL_turn 364 = .ok (.iload_n 3, 1) := by decide +kernel
theorem dL_turn_365 : decode cL_turn 365 = .ok (.bipush 82, 2) := by decide +kernel
theorem dL_turn_367 : decode cL_turn 367 = .ok (.if_icmp .ne 7, 3) := by decide +kernel
theorem dL_turn_370 : decode cL_turn 370 = .ok (.iconst (-1), 1) := by decide +kernel
theorem dL_turn_371 : decode cL_turn 371 = .ok (.goto 28, 3) := by decide +kernel
theorem dL_turn_374 : decode cL_turn 374 = .ok (.iload 10, 2) := by decide +kernel
theorem dL_turn_376 : decode cL_turn 376 = .ok (.ifCond .eq 14, 3) := by decide +kernel
theorem dL_turn_379 : decode cL_turn 379 = .ok (.iload 9, 2) := by decide +kernel
theorem dL_turn_381 : decode cL_turn 381 = .ok (.iconst 1, 1) := by decide +kernel
theorem dL_turn_382 : decode cL_turn 382 = .ok (.if_icmp .ne 8, 3) := by decide +kernel
theorem dL_turn_385 : decode cL_turn 385 = .ok (.iload 15, 2) := by decide +kernel
theorem dL_turn_387 : decode cL_turn 387 = .ok (.ifCond .ne 8, 3) := by decide +kernel
theorem dL_turn_390 : decode cL_turn 390 = .ok (.bipush (-5), 2) := by decide +kernel
theorem dL_turn_392 : decode cL_turn 392 = .ok (.goto 7, 3) := by decide +kernel
theorem dL_turn_395 : decode cL_turn 395 = .ok (.iload 15, 2) := by decide +kernel
theorem dL_turn_397 : decode cL_turn 397 = .ok (.iconst 1, 1) := by decide +kernel
theorem dL_turn_398 : decode cL_turn 398 = .ok (.isub, 1) := by decide +kernel
theorem dL_turn_399 : decode cL_turn 399 = .ok (.istore 12, 2) := by decide +kernel
theorem dL_turn_401 : decode cL_turn 401 = .ok (.aload_n 0, 1) := by decide +kernel
theorem dL_turn_402 : decode cL_turn 402 = .ok (.iload_n 3, 1) := by decide +kernel
theorem dL_turn_403 : decode cL_turn 403 = .ok (.invokevirtual 39, 3) := by decide +kernel
theorem dL_turn_406 : decode cL_turn 406 = .ok (.istore 11, 2) := by decide +kernel
theorem dL_turn_408 : decode cL_turn 408 = .ok (.goto 150, 3) := by decide +kernel
theorem dL_turn_411 : decode cL_turn 411 = .ok (.iload_n 3, 1) := by decide +kernel
theorem dL_turn_412 : decode cL_turn 412 = .ok (.bipush 82, 2) := by decide +kernel
theorem dL_turn_414 : decode cL_turn 414 = .ok (.if_icmp .ne 7, 3) := by decide +kernel
theorem dL_turn_417 : decode cL_turn 417 = .ok (.iconst (-1), 1) := by decide +kernel
theorem dL_turn_418 : decode cL_turn 418 = .ok (.goto 27, 3) := by decide +kernel
theorem dL_turn_421 : decode cL_turn 421 = .ok (.iload 10, 2) := by decide +kernel
theorem dL_turn_423 : decode cL_turn 423 = .ok (.ifCond .eq 9, 3) := by decide +kernel
theorem dL_turn_426 : decode cL_turn 426 = .ok (.iload 9, 2) := by decide +kernel
theorem dL_turn_428 : decode cL_turn 428 = .ok (.iconst 1, 1) := by decide +kernel
theorem dL_turn_429 : decode cL_turn 429 = .ok (.if_icmp .eq 8, 3) := by decide +kernel
theorem dL_turn_432 : decode cL_turn 432 = .ok (.bipush (-5), 2) := by decide +kernel
theorem dL_turn_434 : decode cL_turn 434 = .ok (.goto 11, 3) := by decide +kernel
theorem dL_turn_437 : decode cL_turn 437 = .ok (.aload_n 0, 1) := by decide +kernel
theorem dL_turn_438 : decode cL_turn 438 = .ok (.bipush 8, 2) := by decide +kernel
theorem dL_turn_440 : decode cL_turn 440 = .ok (.invokevirtual 19, 3) := by decide +kernel
theorem dL_turn_443 : decode cL_turn 443 = .ok (.iconst 1, 1) := by decide +kernel
theorem dL_turn_444 : decode cL_turn 444 = .ok (.iadd, 1) := by decide +kernel
theorem dL_turn_445 : decode cL_turn 445 = .ok (.istore 12, 2) := by decide +kernel
theorem dL_turn_447 : decode cL_turn 447 = .ok (.aload_n 0, 1) := by decide +kernel
theorem dL_turn_448 : decode cL_turn 448 = .ok (.iload_n 3, 1) := by decide +kernel
theorem dL_turn_449 : decode cL_turn 449 = .ok (.invokevirtual 42, 3) := by decide +kernel
theorem dL_turn_452 : decode cL_turn 452 = .ok (.istore 11, 2) := by decide +kernel
theorem dL_turn_454 : decode cL_turn 454 = .ok (.goto 104, 3) := by decide +kernel
theorem dL_turn_457 : decode cL_turn 457 = .ok (.iload_n 3, 1) := by decide +kernel
theorem dL_turn_458 : decode cL_turn 458 = .ok (.bipush 82, 2) := by decide +kernel
theorem dL_turn_460 : decode cL_turn 460 = .ok (.if_icmp .ne 7, 3) := by decide +kernel
theorem dL_turn_463 : decode cL_turn 463 = .ok (.iconst (-1), 1) := by decide +kernel
theorem dL_turn_464 : decode cL_turn 464 = .ok (.goto 37, 3) := by decide +kernel
theorem dL_turn_467 : decode cL_turn 467 = .ok (.iload 10, 2) := by decide +kernel
theorem dL_turn_469 : decode cL_turn 469 = .ok (.ifCond .eq 16, 3) := by decide +kernel
theorem dL_turn_472 : decode cL_turn 472 = .ok (.aload_n 0, 1) := by decide +kernel
theorem dL_turn_473 : decode cL_turn 473 = .ok (.iload_n 3, 1) := by decide +kernel
theorem dL_turn_474 : decode cL_turn 474 = .ok (.iconst 5, 1) := by decide +kernel
theorem dL_turn_475 : decode cL_turn 475 = .ok (.invokevirtual 27, 3) := by decide +kernel
theorem dL_turn_478 : decode cL_turn 478 = .ok (.iconst 1, 1) := by decide +kernel
theorem dL_turn_479 : decode cL_turn 479 = .ok (.iload 4, 2) := by decide +kernel
theorem dL_turn_481 : decode cL_turn 481 = .ok (.isub, 1) := by decide +kernel
theorem dL_turn_482 : decode cL_turn 482 = .ok (.if_icmp .eq 8, 3) := by decide +kernel
theorem dL_turn_485 : decode cL_turn 485 = .ok (.bipush (-5), 2) := by decide +kernel
theorem dL_turn_487 : decode cL_turn 487 = .ok (.goto 14, 3) := by decide +kernel
theorem dL_turn_490 : decode cL_turn 490 = .ok (.iload 9, 2) := by decide +kernel
theorem dL_turn_492 : decode cL_turn 492 = .ok (.iconst 3, 1) := by decide +kernel
theorem dL_turn_493 : decode cL_turn 493 = .ok (.if_icmp .ne 7, 3) := by decide +kernel
theorem dL_turn_496 : decode cL_turn 496 = .ok (.iconst 1, 1) := by decide +kernel
theorem dL_turn_497 : decode cL_turn 497 = .ok (.goto 4, 3) := by decide +kernel
theorem dL_turn_500 : decode cL_turn 500 = .ok (.iconst 0, 1) := by decide +kernel
theorem dL_turn_501 : decode cL_turn 501 = .ok (.istore 12, 2) := by decide +kernel
theorem dL_turn_503 : decode cL_turn 503 = .ok (.iload 12, 2) := by decide +kernel
theorem dL_turn_505 : decode cL_turn 505 = .ok (.ifCond .ge 7, 3) := by decide +kernel
theorem dL_turn_508 : decode cL_turn 508 = .ok (.iconst 0, 1) := by decide +kernel
theorem dL_turn_509 : decode cL_turn 509 = .ok (.goto 15, 3) := by decide +kernel
theorem dL_turn_512 : decode cL_turn 512 = .ok (.iload 12, 2) := by decide +kernel
theorem dL_turn_514 : decode cL_turn 514 = .ok (.iconst 1, 1) := by decide +kernel
theorem dL_turn_515 : decode cL_turn 515 = .ok (.if_icmp .ne 7, 3) := by decide +kernel
theorem dL_turn_518 : decode cL_turn 518 = .ok (.iconst 2, 1) := by decide +kernel
theorem dL_turn_519 : decode cL_turn 519 = .ok (.goto 5, 3) := by decide +kernel
theorem dL_turn_522 : decode cL_turn 522 = .ok (.bipush (-2), 2) := by decide +kernel
theorem dL_turn_524 : decode cL_turn 524 = .ok (.istore 13, 2) := by decide +kernel
theorem dL_turn_526 : decode cL_turn 526 = .ok (.aload_n 0, 1) := by decide +kernel
theorem dL_turn_527 : decode cL_turn 527 = .ok (.iload_n 3, 1) := by decide +kernel
theorem dL_turn_528 : decode cL_turn 528 = .ok (.invokevirtual 45, 3) := by decide +kernel
theorem dL_turn_531 : decode cL_turn 531 = .ok (.istore 11, 2) := by decide +kernel
theorem dL_turn_533 : decode cL_turn 533 = .ok (.goto 25, 3) := by decide +kernel
theorem dL_turn_536 : decode cL_turn 536 = .ok (.iload 8, 2) := by decide +kernel
theorem dL_turn_538 : decode cL_turn 538 = .ok (.ifCond .eq 8, 3) := by decide +kernel
theorem dL_turn_541 : decode cL_turn 541 = .ok (.bipush (-5), 2) := by decide +kernel
theorem dL_turn_543 : decode cL_turn 543 = .ok (.goto 7, 3) := by decide +kernel
theorem dL_turn_546 : decode cL_turn 546 = .ok (.iconst 1, 1) := by decide +kernel
theorem dL_turn_547 : decode cL_turn 547 = .ok (.iload 4, 2) := by decide +kernel
theorem dL_turn_549 : decode cL_turn 549 = .ok (.isub, 1) := by decide +kernel
theorem dL_turn_550 : decode cL_turn 550 = .ok (.istore 12, 2) := by decide +kernel
theorem dL_turn_552 : decode cL_turn 552 = .ok (.aload_n 0, 1) := by decide +kernel
theorem dL_turn_553 : decode cL_turn 553 = .ok (.invokevirtual 48, 3) := by decide +kernel
theorem dL_turn_556 : decode cL_turn 556 = .ok (.istore 11, 2) := by decide +kernel
theorem dL_turn_558 : decode cL_turn 558 = .ok (.iload 11, 2) := by decide +kernel
theorem dL_turn_560 : decode cL_turn 560 = .ok (.iload 12, 2) := by decide +kernel
theorem dL_turn_562 : decode cL_turn 562 = .ok (.if_icmp .ne 57, 3) := by decide +kernel
theorem dL_turn_565 : decode cL_turn 565 = .ok (.aload_n 0, 1) := by decide +kernel
theorem dL_turn_566 : decode cL_turn 566 = .ok (.iload 4, 2) := by decide +kernel
theorem dL_turn_568 : decode cL_turn 568 = .ok (.iconst 0, 1) := by decide +kernel
theorem dL_turn_569 : decode cL_turn 569 = .ok (.invokevirtual 24, 3) := by decide +kernel
theorem dL_turn_572 : decode cL_turn 572 = .ok (.iload 5, 2) := by decide +kernel
theorem dL_turn_574 : decode cL_turn 574 = .ok (.iload 13, 2) := by decide +kernel
theorem dL_turn_576 : decode cL_turn 576 = .ok (.iadd, 1) := by decide +kernel
theorem dL_turn_577 : decode cL_turn 577 = .ok (.if_icmp .ne 42, 3) := by decide +kernel
theorem dL_turn_580 : decode cL_turn 580 = .ok (.aload_n 0, 1) := by decide +kernel
theorem dL_turn_581 : decode cL_turn 581 = .ok (.iconst 1, 1) := by decide +kernel
theorem dL_turn_582 : decode cL_turn 582 = .ok (.iload 4, 2) := by decide +kernel
theorem dL_turn_584 : decode cL_turn 584 = .ok (.isub, 1) := by decide +kernel
theorem dL_turn_585 : decode cL_turn 585 = .ok (.iconst 0, 1) := by decide +kernel
theorem dL_turn_586 : decode cL_turn 586 = .ok (.invokevirtual 24, 3) := by decide +kernel
theorem dL_turn_589 : decode cL_turn 589 = .ok (.iload 6, 2) := by decide +kernel
theorem dL_turn_591 : decode cL_turn 591 = .ok (.if_icmp .ne 28, 3) := by decide +kernel
theorem dL_turn_594 : decode cL_turn 594 = .ok (.aload_n 0, 1) := by decide +kernel
theorem dL_turn_595 : decode cL_turn 595 = .ok (.iconst 0, 1) := by decide +kernel
theorem dL_turn_596 : decode cL_turn 596 = .ok (.invokevirtual 19, 3) := by decide +kernel
theorem dL_turn_599 : decode cL_turn 599 = .ok (.iload 7, 2) := by decide +kernel
theorem dL_turn_601 : decode cL_turn 601 = .ok (.iload 12, 2) := by decide +kernel
theorem dL_turn_603 : decode cL_turn 603 = .ok (.ifCond .ge 7, 3) := by decide +kernel
theorem dL_turn_606 : decode cL_turn 606 = .ok (.iconst 0, 1) := by decide +kernel
theorem dL_turn_607 : decode cL_turn 607 = .ok (.goto 4, 3) := by decide +kernel
theorem dL_turn_610 : decode cL_turn 610 = .ok (.iconst 1, 1) := by decide +kernel
theorem dL_turn_611 : decode cL_turn 611 = .ok (.iadd, 1) := by decide +kernel
theorem dL_turn_612 : decode cL_turn 612 = .ok (.if_icmp .ne 7, 3) := by decide +kernel
theorem dL_turn_615 : decode cL_turn 615 = .ok (.iconst 1, 1) := by decide +kernel
theorem dL_turn_616 : decode cL_turn 616 = .ok (.goto 4, 3) := by decide +kernel
theorem dL_turn_619 : decode cL_turn 619 = .ok (.iconst 0, 1) := by decide +kernel
theorem dL_turn_620 : decode cL_turn 620 = .ok (.istore 14, 2) := by decide +kernel
theorem dL_turn_622 : decode cL_turn 622 = .ok (.iload 14, 2) := by decide +kernel
theorem dL_turn_624 : decode cL_turn 624 = .ok (.ifCond .eq 29, 3) := by decide +kernel
theorem dL_turn_627 : decode cL_turn 627 = .ok (.aload_n 0, 1) := by decide +kernel
theorem dL_turn_628 : decode cL_turn 628 = .ok (.iconst 1, 1) := by decide +kernel
theorem dL_turn_629 : decode cL_turn 629 = .ok (.invokevirtual 19, 3) := by decide +kernel
theorem dL_turn_632 : decode cL_turn 632 = .ok (.iload 12, 2) := by decide +kernel
theorem dL_turn_634 : decode cL_turn 634 = .ok (.ifCond .ge 8, 3) := by decide +kernel
theorem dL_turn_637 : decode cL_turn 637 = .ok (.iload 4, 2) := by decide +kernel
theorem dL_turn_639 : decode cL_turn 639 = .ok (.goto 7, 3) := by decide +kernel
theorem dL_turn_642 : decode cL_turn 642 = .ok (.iconst 1, 1) := by decide +kernel
theorem dL_turn_643 : decode cL_turn 643 = .ok (.iload 4, 2) := by decide +kernel
theorem dL_turn_645 : decode cL_turn 645 = .ok (.isub, 1) := by decide +kernel
theorem dL_turn_646 : decode cL_turn 646 = .ok (.if_icmp .ne 7, 3) := by decide +kernel
theorem dL_turn_649 : decode cL_turn 649 = .ok (.iconst 1, 1) := by decide +kernel
theorem dL_turn_650 : decode cL_turn 650 = .ok (.goto 4, 3) := by decide +kernel
theorem dL_turn_653 : decode cL_turn 653 = .ok (.iconst 0, 1) := by decide +kernel
theorem dL_turn_654 : decode cL_turn 654 = .ok (.ireturn, 1) := by decide +kernel
def ch_wsL_piece : List (List Cond) := [[.code yL_piece cL_piece 13 (some .int)], wsL_piece_r1, wsL_piece_r2, wsL_piece_r3, wsL_piece_r4, wsL_piece_r5, wsX60, wsX10, wsX00, wsX50]
set_option maxRecDepth 20000 in
theorem hf_wsL_piece : wsL_piece = (ch_wsL_piece).flatten := rfl
set_option maxRecDepth 20000 in
theorem hg_wsL_piece : (wsL_piece).all goodWord = true := by decide +kernel
set_option maxRecDepth 20000 in
theorem gL_piece_X6_cell : GoodIn wsL_piece (wsV RL 52 RX6 yX6_cell wsX6_cell) := goodIn_c ch_wsL_piece hf_wsL_piece hg_wsL_piece _ [(1, 1), (1, 2), (1, 3), (1, 4), (1, 5), (1, 6), (1, 7), (1, 8), (1, 9), (1, 10), (1, 11), (1, 12), (1, 13), (1, 14), (1, 15), (1, 16), (1, 17), (1, 18), (1, 19), (1, 20), (1, 21), (1, 4), (1, 22), (1, 23), (2, 0), (2, 1), (2, 2), (2, 3), (2, 4), (2, 5), (2, 6), (2, 7), (2, 8), (2, 9), (2, 10), (2, 11), (2, 12), (2, 13), (2, 14), (2, 15), (2, 16), (2, 17), (2, 18), (2, 19), (2, 20), (2, 21), (2, 22), (2, 23), (3, 0), (3, 1), (3, 2), (3, 3), (3, 4), (3, 5), (3, 6), (3, 7), (3, 8), (3, 9), (3, 10), (3, 11), (3, 12), (3, 13), (6, 0), (6, 1), (6, 2), (6, 3), (6, 4), (7, 0), (7, 1), (7, 2), (7, 3), (7, 4), (8, 0), (8, 1), (8, 2), (8, 3), (8, 4)] rfl
set_option maxRecDepth 20000 in
theorem gL_piece_X6_of : GoodIn wsL_piece (wsV RL 27 RX6 yX6_of wsX6_of) := goodIn_c ch_wsL_piece hf_wsL_piece hg_wsL_piece _ [(3, 14), (3, 15), (3, 16), (1, 4), (3, 17), (1, 6), (1, 7), (3, 18), (3, 19), (1, 10), (3, 20), (3, 21), (3, 22), (3, 23), (4, 0), (4, 1), (4, 2), (4, 3), (4, 4), (4, 5), (4, 6), (1, 16), (3, 5), (3, 6), (3, 7), (3, 8), (3, 9), (3, 10), (1, 17), (1, 18), (1, 19), (1, 20), (1, 21), (1, 4), (1, 22), (4, 7), (4, 8), (3, 12), (3, 13), (4, 9), (4, 10), (4, 11), (4, 12), (4, 13), (4, 14), (4, 15), (4, 16), (4, 17), (4, 18), (4, 19), (4, 20), (4, 21), (4, 22), (4, 23), (5, 0), (5, 1), (5, 2), (5, 3), (5, 4), (5, 5), (5, 6), (5, 7), (5, 8), (5, 9), (5, 10), (5, 11), (5, 12), (5, 13), (2, 10), (2, 11), (2, 12), (2, 13), (2, 14), (2, 15), (5, 14), (5, 15), (5, 16), (5, 17), (5, 18), (5, 19), (5, 20), (3, 2), (3, 3), (3, 4), (2, 4), (2, 3), (6, 0), (6, 1), (6, 2), (6, 3), (6, 4), (7, 0), (7, 1), (7, 2), (7, 3), (7, 4), (8, 0), (8, 1), (8, 2), (8, 3), (8, 4), (9, 0), (9, 1), (9, 2), (9, 3), (9, 4), (9, 5), (9, 6), (9, 7), (9, 8)] rfl
theorem dL_piece_0 : decode cL_piece 0 = .ok (.bipush 48, 2) := by decide +kernel
theorem dL_piece_2 : decode cL_piece 2 = .ok (.newarray .int, 2) := by decide +kernel
theorem dL_piece_4 : decode cL_piece 4 = .ok (.astore 5, 2) := by decide +kernel
theorem dL_piece_6 : decode cL_piece 6 = .ok (.iconst 1, 1) := by decide +kernel
theorem dL_piece_7 : decode cL_piece 7 = .ok (.istore 6, 2) := by decide +kernel
theorem dL_piece_9 : decode cL_piece 9 = .ok (.iconst 0, 1) := by decide +kernel
theorem dL_piece_10 : decode cL_piece 10 = .ok (.istore 7, 2) := by decide +kernel
theorem dL_piece_12 : decode cL_piece 12 = .ok (.iload 7, 2) := by decide +kernel
theorem dL_piece_14 : decode cL_piece 14 = .ok (.bipush 48, 2) := by decide +kernel
theorem dL_piece_16 : decode cL_piece 16 = .ok (.if_icmp .ge 24, 3) := by decide +kernel
theorem dL_piece_19 : decode cL_piece 19 = .ok (.aload_n 1, 1) := by decide +kernel
theorem dL_piece_20 : decode cL_piece 20 = .ok (.iload 7, 2) := by decide +kernel
theorem dL_piece_22 : decode cL_piece 22 = .ok (.iload 7, 2) := by decide +kernel
theorem dL_piece_24 : decode cL_piece 24 = .ok (.iload_n 2, 1) := by decide +kernel
theorem dL_piece_25 : decode cL_piece 25 = .ok (.if_icmp .ne 7, 3) := by decide +kernel
theorem dL_piece_28 : decode cL_piece 28 = .ok (.iconst 1, 1) := by decide +kernel
theorem dL_piece_29 : decode cL_piece 29 = .ok (.goto 4, 3) := by decide +kernel
theorem dL_piece_32 : decode cL_piece 32 = .ok (.iconst 0, 1) := by decide +kernel
theorem dL_piece_33 : decode cL_piece 33 = .ok (.iastore, 1) := by decide +kernel
theorem dL_piece_34 : decode cL_piece 34 = .ok (.iinc 7 1, 3) := by decide +kernel
theorem dL_piece_37 : decode cL_piece 37 = .ok (.goto (-25), 3) := by decide +kernel
theorem dL_piece_40 : decode cL_piece 40 = .ok (.aload 5, 2) := by decide +kernel
theorem dL_piece_42 : decode cL_piece 42 = .ok (.iconst 0, 1) := by decide +kernel
theorem dL_piece_43 : decode cL_piece 43 = .ok (.iload_n 2, 1) := by decide +kernel
theorem dL_piece_44 : decode cL_piece 44 = .ok (.iastore, 1) := by decide +kernel
theorem dL_piece_45 : decode cL_piece 45 = .ok (.iconst 0, 1) := by decide +kernel
theorem dL_piece_46 : decode cL_piece 46 = .ok (.istore 7, 2) := by decide +kernel
theorem dL_piece_48 : decode cL_piece 48 = .ok (.iload 7, 2) := by decide +kernel
theorem dL_piece_50 : decode cL_piece 50 = .ok (.iload 6, 2) := by decide +kernel
theorem dL_piece_52 : decode cL_piece 52 = .ok (.if_icmp .ge 276, 3) := by decide +kernel
theorem dL_piece_55 : decode cL_piece 55 = .ok (.aload 5, 2) := by decide +kernel
theorem dL_piece_57 : decode cL_piece 57 = .ok (.iload 7, 2) := by decide +kernel
theorem dL_piece_59 : decode cL_piece 59 = .ok (.iaload, 1) := by decide +kernel
theorem dL_piece_60 : decode cL_piece 60 = .ok (.istore 8, 2) := by decide +kernel
theorem dL_piece_62 : decode cL_piece 62 = .ok (.iconst 0, 1) := by decide +kernel
theorem dL_piece_63 : decode cL_piece 63 = .ok (.istore 9, 2) := by decide +kernel
theorem dL_piece_65 : decode cL_piece 65 = .ok (.iload 9, 2) := by decide +kernel
theorem dL_piece_67 : decode cL_piece 67 = .ok (.iconst 4, 1) := by decide +kernel
theorem dL_piece_68 : decode cL_piece 68 = .ok (.if_icmp .ge 254, 3) := by decide +kernel
theorem dL_piece_71 : decode cL_piece 71 = .ok (.iload 9, 2) := by decide +kernel
theorem dL_piece_73 : decode cL_piece 73 = .ok (.ifCond .ne 34, 3) := by decide +kernel
theorem dL_piece_76 : decode cL_piece 76 = .ok (.iload 8, 2) := by decide +kernel
theorem dL_piece_78 : decode cL_piece 78 = .ok (.bipush 8, 2) := by decide +kernel
theorem dL_piece_80 : decode cL_piece 80 = .ok (.irem, 1) := by decide +kernel
theorem dL_piece_81 : decode cL_piece 81 = .ok (.bipush 7, 2) := by decide +kernel
theorem dL_piece_83 : decode cL_piece 83 = .ok (.if_icmp .ge 20, 3) := by decide +kernel
theorem dL_piece_86 : decode cL_piece 86 = .ok (.bipush 7, 2) := by decide +kernel
theorem dL_piece_88 : decode cL_piece 88 = .ok (.iload 8, 2) := by decide +kernel
theorem dL_piece_90 : decode cL_piece 90 = .ok (.bipush 8, 2) := by decide +kernel
theorem dL_piece_92 : decode cL_piece 92 = .ok (.idiv, 1) := by decide +kernel
theorem dL_piece_93 : decode cL_piece 93 = .ok (.imul, 1) := by decide +kernel
theorem dL_piece_94 : decode cL_piece 94 = .ok (.iload 8, 2) := by decide +kernel
theorem dL_piece_96 : decode cL_piece 96 = .ok (.bipush 8, 2) := by decide +kernel
theorem dL_piece_98 : decode cL_piece 98 = .ok (.irem, 1) := by decide +kernel
theorem dL_piece_99 : decode cL_piece 99 = .ok (.iadd, 1) := by decide +kernel
theorem dL_piece_100 : decode cL_piece 100 = .ok (.goto 85, 3) := by decide +kernel
theorem dL_piece_103 : decode cL_piece 103 = .ok (.iconst (-1), 1) := by decide +kernel
theorem dL_piece_104 : decode cL_piece 104 = .ok (.goto 81, 3) := by decide +kernel
theorem dL_piece_107 : decode cL_piece 107 = .ok (.iload 9, 2) := by decide +kernel
theorem dL_piece_109 : decode cL_piece 109 = .ok (.iconst 1, 1) := by decide +kernel
theorem dL_piece_110 : decode cL_piece 110 = .ok (.if_icmp .ne 34, 3) := by decide +kernel
theorem dL_piece_113 : decode cL_piece 113 = .ok (.iload 8, 2) := by decide +kernel
theorem dL_piece_115 : decode cL_piece 115 = .ok (.bipush 8, 2) := by decide +kernel
theorem dL_piece_117 : decode cL_piece 117 = .ok (.irem, 1) := by decide +kernel
theorem dL_piece_118 : decode cL_piece 118 = .ok (.ifCond .le 22, 3) := by decide +kernel
theorem dL_piece_121 : decode cL_piece 121 = .ok (.bipush 7, 2) := by decide +kernel
theorem dL_piece_123 : decode cL_piece 123 = .ok (.iload 8, 2) := by decide +kernel
theorem dL_piece_125 : decode cL_piece 125 = .ok (.bipush 8, 2) := by decide +kernel
theorem dL_piece_127 : decode cL_piece 127 = .ok (.idiv, 1) := by decide +kernel
theorem dL_piece_128 : decode cL_piece 128 = .ok (.imul, 1) := by decide +kernel
theorem dL_piece_129 : decode cL_piece 129 = .ok (.iload 8, 2) := by decide +kernel
theorem dL_piece_131 : decode cL_piece 131 = .ok (.bipush 8, 2) := by decide +kernel
theorem dL_piece_133 : decode cL_piece 133 = .ok (.irem, 1) := by decide +kernel
theorem dL_piece_134 : decode cL_piece 134 = .ok (.iadd, 1) := by decide +kernel
theorem dL_piece_135 : decode cL_piece 135 = .ok (.iconst 1, 1) := by decide +kernel
theorem dL_piece_136 : decode cL_piece 136 = .ok (.isub, 1) := by decide +kernel
theorem dL_piece_137 : decode cL_piece 137 = .ok (.goto 48, 3) := by decide +kernel
theorem dL_piece_140 : decode cL_piece 140 = .ok (.iconst (-1), 1) := by decide +kernel
theorem dL_piece_141 : decode cL_piece 141 = .ok (.goto 44, 3) := by decide +kernel
theorem dL_piece_144 : decode cL_piece 144 = .ok (.iload 9, 2) := by decide +kernel
theorem dL_piece_146 : decode cL_piece 146 = .ok (.iconst 2, 1) := by decide +kernel
theorem dL_piece_147 : decode cL_piece 147 = .ok (.if_icmp .ne 22, 3) := by decide +kernel
theorem dL_piece_150 : decode cL_piece 150 = .ok (.iload 8, 2) := by decide +kernel
theorem dL_piece_152 : decode cL_piece 152 = .ok (.bipush 40, 2) := by decide +kernel
theorem dL_piece_154 : decode cL_piece 154 = .ok (.if_icmp .ge 11, 3) := by decide +kernel
theorem dL_piece_157 : decode cL_piece 157 = .ok (.bipush 42, 2) := by decide +kernel
theorem dL_piece_159 : decode cL_piece 159 = .ok (.iload 8, 2) := by decide +kernel
theorem dL_piece_161 : decode cL_piece 161 = .ok (.iadd, 1) := by decide +kernel
theorem dL_piece_162 : decode cL_piece 162 = .ok (.goto 23, 3) := by decide +kernel
theorem dL_piece_165 : decode cL_piece 165 = .ok (.iconst (-1), 1) := by decide +kernel
theorem dL_piece_166 : decode cL_piece 166 = .ok (.goto 19, 3) := by decide +kernel
theorem dL_piece_169 : decode cL_piece 169 = .ok (.iload 8, 2) := by decide +kernel
theorem dL_piece_171 : decode cL_piece 171 = .ok (.bipush 7, 2) := by decide +kernel
theorem dL_piece_173 : decode cL_piece 173 = .ok (.if_icmp .le 11, 3) := by decide +kernel
theorem dL_piece_176 : decode cL_piece 176 = .ok (.bipush 34, 2) := by decide +kernel
theorem dL_piece_178 : decode cL_piece 178 = .ok (.iload 8, 2) := by decide +kernel
theorem dL_piece_180 : decode cL_piece 180 = .ok (.iadd, 1) := by decide +kernel
theorem dL_piece_181 : decode cL_piece 181 = .ok (.goto 4, 3) := by decide +kernel
theorem dL_piece_184 : decode cL_piece 184 = .ok (.iconst (-1), 1) := by decide +kernel
theorem dL_piece_185 : decode cL_piece 185 = .ok (.istore 10, 2) := by decide +kernel
theorem dL_piece_187 : decode cL_piece 187 = .ok (.iload 9, 2) := by decide +kernel
theorem dL_piece_189 : decode cL_piece 189 = .ok (.ifCond .ne 10, 3) := by decide +kernel
theorem dL_piece_192 : decode cL_piece 192 = .ok (.iload 8, 2) := by decide +kernel
theorem dL_piece_194 : decode cL_piece 194 = .ok (.iconst 1, 1) := by decide +kernel
theorem dL_piece_195 : decode cL_piece 195 = .ok (.iadd, 1) := by decide +kernel
theorem dL_piece_196 : decode cL_piece 196 = .ok (.goto 35, 3) := by decide +kernel
theorem dL_piece_199 : decode cL_piece 199 = .ok (.iload 9, 2) := by decide +kernel
theorem dL_piece_201 : decode cL_piece 201 = .ok (.iconst 1, 1) := by decide +kernel
theorem dL_piece_202 : decode cL_piece 202 = .ok (.if_icmp .ne 10, 3) := by decide +kernel
theorem dL_piece_205 : decode cL_piece 205 = .ok (.iload 8, 2) := by decide +kernel
theorem dL_piece_207 : decode cL_piece 207 = .ok (.iconst 1, 1) := by decide +kernel
theorem dL_piece_208 : decode cL_piece 208 = .ok (.isub, 1) := by decide +kernel
theorem dL_piece_209 : decode cL_piece 209 = .ok (.goto 22, 3) := by decide +kernel
theorem dL_piece_212 : decode cL_piece 212 = .ok (.iload 9, 2) := by decide +kernel
theorem dL_piece_214 : decode cL_piece 214 = .ok (.iconst 2, 1) := by decide +kernel
theorem dL_piece_215 : decode cL_piece 215 = .ok (.if_icmp .ne 11, 3) := by decide +kernel
theorem dL_piece_218 : decode cL_piece 218 = .ok (.iload 8, 2) := by decide +kernel
theorem dL_piece_220 : decode cL_piece 220 = .ok (.bipush 8, 2) := by decide +kernel
theorem dL_piece_222 : decode cL_piece 222 = .ok (.iadd, 1) := by decide +kernel
theorem dL_piece_223 : decode cL_piece 223 = .ok (.goto 8, 3) := by decide +kernel
theorem dL_piece_226 : decode cL_piece 226 = .ok (.iload 8, 2) := by decide +kernel
theorem dL_piece_228 : decode cL_piece 228 = .ok (.bipush 8, 2) := by decide +kernel
theorem dL_piece_230 : decode cL_piece 230 = .ok (.isub, 1) := by decide +kernel
theorem dL_piece_231 : decode cL_piece 231 = .ok (.istore 11, 2) := by decide +kernel
theorem dL_piece_233 : decode cL_piece 233 = .ok (.iload 10, 2) := by decide +kernel
theorem dL_piece_235 : decode cL_piece 235 = .ok (.ifCond .lt 51, 3) := by decide +kernel
theorem dL_piece_238 : decode cL_piece 238 = .ok (.iload 10, 2) := by decide +kernel
theorem dL_piece_240 : decode cL_piece 240 = .ok (.iload_n 3, 1) := by decide +kernel
theorem dL_piece_241 : decode cL_piece 241 = .ok (.if_icmp .eq 45, 3) := by decide +kernel
theorem dL_piece_244 : decode cL_piece 244 = .ok (.aload_n 0, 1) := by decide +kernel
theorem dL_piece_245 : decode cL_piece 245 = .ok (.iload 11, 2) := by decide +kernel
theorem dL_piece_247 : decode cL_piece 247 = .ok (.iconst 0, 1) := by decide +kernel
theorem dL_piece_248 : decode cL_piece 248 = .ok (.invokevirtual 52, 3) := by decide +kernel
theorem dL_piece_251 : decode cL_piece 251 = .ok (.ifCond .ne 35, 3) := by decide +kernel
theorem dL_piece_254 : decode cL_piece 254 = .ok (.aload_n 0, 1) := by decide +kernel
theorem dL_piece_255 : decode cL_piece 255 = .ok (.iload 10, 2) := by decide +kernel
theorem dL_piece_257 : decode cL_piece 257 = .ok (.bipush 6, 2) := by decide +kernel
theorem dL_piece_259 : decode cL_piece 259 = .ok (.invokevirtual 27, 3) := by decide +kernel
theorem dL_piece_262 : decode cL_piece 262 = .ok (.iconst 1, 1) := by decide +kernel
theorem dL_piece_263 : decode cL_piece 263 = .ok (.if_icmp .eq 19, 3) := by decide +kernel
theorem dL_piece_266 : decode cL_piece 266 = .ok (.iload 4, 2) := by decide +kernel
theorem dL_piece_268 : decode cL_piece 268 = .ok (.ifCond .eq 18, 3) := by decide +kernel
theorem dL_piece_271 : decode cL_piece 271 = .ok (.aload_n 0, 1) := by decide +kernel
theorem dL_piece_272 : decode cL_piece 272 = .ok (.iload 10, 2) := by decide +kernel
theorem dL_piece_274 : decode cL_piece 274 = .ok (.iconst 0, 1) := by decide +kernel
theorem dL_piece_275 : decode cL_piece 275 = .ok (.invokevirtual 27, 3) := by decide +kernel
theorem dL_piece_278 : decode cL_piece 278 = .ok (.iconst 3, 1) := by decide +kernel
theorem dL_piece_279 : decode cL_piece 279 = .ok (.if_icmp .ne 7, 3) := by decide +kernel
theorem dL_piece_282 : decode cL_piece 282 = .ok (.iconst 1, 1) := by decide +kernel
theorem dL_piece_283 : decode cL_piece 283 = .ok (.goto 4, 3) := by decide +kernel
theorem dL_piece_286 : decode cL_piece 286 = .ok (.iconst 0, 1) := by decide +kernel
theorem dL_piece_287 : decode cL_piece 287 = .ok (.istore 12, 2) := by decide +kernel
theorem dL_piece_289 : decode cL_piece 289 = .ok (.iload 12, 2) := by decide +kernel
theorem dL_piece_291 : decode cL_piece 291 = .ok (.ifCond .eq 25, 3) := by decide +kernel
theorem dL_piece_294 : decode cL_piece 294 = .ok (.aload_n 1, 1) := by decide +kernel
theorem dL_piece_295 : decode cL_piece 295 = .ok (.iload 11, 2) := by decide +kernel
theorem dL_piece_297 : decode cL_piece 297 = .ok (.iaload, 1) := by decide +kernel
theorem dL_piece_298 : decode cL_piece 298 = .ok (.ifCond .ne 18, 3) := by decide +kernel
theorem dL_piece_301 : decode cL_piece 301 = .ok (.aload_n 1, 1) := by decide +kernel
theorem dL_piece_302 : decode cL_piece 302 = .ok (.iload 11, 2) := by decide +kernel
theorem dL_piece_304 : decode cL_piece 304 = .ok (.iconst 1, 1) := by decide +kernel
theorem dL_piece_305 : decode cL_piece 305 = .ok (.iastore, 1) := by decide +kernel
theorem dL_piece_306 : decode cL_piece 306 = .ok (.aload 5, 2) := by decide +kernel
theorem dL_piece_308 : decode cL_piece 308 = .ok (.iload 6, 2) := by decide +kernel
theorem dL_piece_310 : decode cL_piece 310 = .ok (.iload 11, 2) := by decide +kernel
theorem dL_piece_312 : decode cL_piece 312 = .ok (.iastore, 1) := by decide +kernel
theorem dL_piece_313 : decode cL_piece 313 = .ok (.iinc 6 1, 3) := by decide +kernel
theorem dL_piece_316 : decode cL_piece 316 = .ok (.iinc 9 1, 3) := by decide +kernel
theorem dL_piece_319 : decode cL_piece 319 = .ok (.goto (-254), 3) := by decide +kernel
theorem dL_piece_322 : decode cL_piece 322 = .ok (.iinc 7 1, 3) := by decide +kernel
theorem dL_piece_325 : decode cL_piece 325 = .ok (.goto (-277), 3) := by decide +kernel
theorem dL_piece_328 : decode cL_piece 328 = .ok (.iload 6, 2) := by decide +kernel
theorem dL_piece_330 : decode cL_piece 330 = .ok (.ireturn, 1) := by decide +kernel
def ch_wsL_isJoint : List (List Cond) := [[.code yL_isJoint cL_isJoint 9 (some .boolean)], wsL_isJoint_r1, wsL_isJoint_r2, wsL_isJoint_r3, wsL_isJoint_r4, wsL_isJoint_r5, wsL_isJoint_r6, wsL_isJoint_r7, wsX60, wsX10, wsX00, wsX50, wsX30, wsX20]
set_option maxRecDepth 20000 in
theorem hf_wsL_isJoint : wsL_isJoint = (ch_wsL_isJoint).flatten := rfl
set_option maxRecDepth 20000 in
theorem hg_wsL_isJoint : (wsL_isJoint).all goodWord = true := by decide +kernel
set_option maxRecDepth 20000 in
theorem gL_isJoint_X6_of : GoodIn wsL_isJoint (wsV RL 27 RX6 yX6_of wsX6_of) := goodIn_c ch_wsL_isJoint hf_wsL_isJoint hg_wsL_isJoint _ [(1, 0), (1, 1), (1, 2), (1, 3), (1, 4), (1, 5), (1, 6), (1, 7), (1, 8), (1, 9), (1, 10), (1, 11), (1, 12), (1, 13), (1, 14), (1, 15), (1, 16), (1, 17), (1, 18), (1, 19), (1, 20), (1, 21), (1, 22), (1, 23), (2, 0), (2, 1), (2, 2), (2, 3), (2, 4), (2, 5), (2, 6), (2, 7), (2, 8), (1, 3), (2, 9), (2, 10), (2, 11), (2, 12), (2, 13), (2, 14), (2, 15), (2, 16), (2, 17), (2, 18), (2, 19), (2, 20), (2, 21), (2, 22), (2, 23), (3, 0), (3, 1), (3, 2), (3, 3), (3, 4), (3, 5), (3, 6), (3, 7), (3, 8), (3, 9), (3, 10), (3, 11), (3, 12), (3, 13), (3, 14), (3, 15), (3, 16), (3, 17), (3, 18), (3, 19), (3, 20), (3, 21), (3, 22), (3, 23), (4, 0), (4, 1), (4, 2), (4, 3), (4, 4), (4, 5), (4, 6), (4, 7), (4, 8), (4, 9), (4, 10), (4, 11), (4, 12), (8, 0), (8, 1), (8, 2), (8, 3), (8, 4), (9, 0), (9, 1), (9, 2), (9, 3), (9, 4), (10, 0), (10, 1), (10, 2), (10, 3), (10, 4), (11, 0), (11, 1), (11, 2), (11, 3), (11, 4), (11, 5), (11, 6), (11, 7), (11, 8)] rfl
set_option maxRecDepth 20000 in
theorem gL_isJoint_X6_cell : GoodIn wsL_isJoint (wsV RL 52 RX6 yX6_cell wsX6_cell) := goodIn_c ch_wsL_isJoint hf_wsL_isJoint hg_wsL_isJoint _ [(4, 13), (4, 14), (4, 15), (1, 3), (4, 16), (1, 5), (1, 6), (4, 17), (4, 18), (1, 9), (4, 19), (4, 20), (4, 21), (4, 22), (4, 23), (1, 21), (2, 4), (2, 5), (2, 6), (2, 7), (2, 8), (1, 3), (2, 9), (5, 0), (5, 1), (5, 2), (5, 3), (4, 12), (4, 11), (5, 4), (5, 5), (5, 6), (5, 7), (5, 8), (3, 19), (3, 20), (3, 21), (3, 22), (3, 23), (4, 0), (5, 9), (5, 10), (5, 11), (5, 12), (5, 13), (5, 14), (5, 15), (5, 16), (5, 17), (5, 18), (4, 8), (4, 9), (4, 10), (1, 22), (1, 23), (2, 0), (2, 1), (2, 2), (2, 3), (5, 19), (2, 12), (2, 13), (8, 0), (8, 1), (8, 2), (8, 3), (8, 4), (9, 0), (9, 1), (9, 2), (9, 3), (9, 4), (10, 0), (10, 1), (10, 2), (10, 3), (10, 4)] rfl
set_option maxRecDepth 20000 in
theorem gL_isJoint_X6_count : GoodIn wsL_isJoint (wsV RL 19 RX6 yX6_count wsX6_count) := goodIn_c ch_wsL_isJoint hf_wsL_isJoint hg_wsL_isJoint _ [(5, 20), (5, 21), (5, 22), (1, 3), (5, 23), (1, 5), (6, 0), (6, 1), (1, 6), (6, 2), (6, 3), (6, 4), (6, 5), (6, 6), (3, 10), (3, 11), (2, 17), (3, 12), (3, 13), (3, 8), (3, 14), (3, 15), (3, 16), (1, 9), (3, 17), (1, 21), (3, 18), (3, 19), (3, 20), (3, 21), (3, 22), (3, 23), (4, 0), (2, 7), (2, 8), (1, 3), (2, 9), (6, 7), (6, 8), (6, 9), (6, 10), (2, 19), (6, 11), (2, 20), (3, 9), (6, 12), (6, 13), (6, 14), (6, 15), (6, 16), (2, 4), (2, 5), (2, 6), (5, 13), (5, 1), (5, 2), (5, 3), (4, 12), (4, 11), (5, 4), (4, 21), (4, 22), (4, 23), (5, 5), (5, 6), (5, 7), (6, 17), (6, 18), (6, 19), (6, 20), (1, 15), (6, 21), (1, 18), (1, 19), (1, 20), (1, 22), (1, 23), (2, 0), (2, 1), (2, 2), (2, 3), (8, 0), (8, 1), (8, 2), (8, 3), (8, 4), (9, 0), (9, 1), (9, 2), (9, 3), (9, 4), (12, 0), (12, 1), (13, 0), (13, 1), (13, 2), (10, 0), (10, 1), (10, 2), (10, 3), (10, 4), (11, 0), (11, 1), (11, 2), (11, 3), (11, 4), (11, 5), (11, 6), (11, 7), (11, 8)] rfl
set_option maxRecDepth 20000 in
theorem gL_isJoint_X6_why : GoodIn wsL_isJoint (wsV RL 55 RX6 yX6_why wsX6_why) := goodIn_c ch_wsL_isJoint hf_wsL_isJoint hg_wsL_isJoint _ [(6, 22), (6, 23), (7, 0), (1, 3), (7, 1), (1, 5), (1, 7), (1, 8), (1, 9), (1, 10), (7, 2), (7, 3), (7, 4), (2, 17), (7, 5), (3, 8), (3, 9), (3, 10), (3, 11), (3, 12), (3, 13), (3, 14), (3, 15), (3, 16), (3, 17), (1, 21), (3, 18), (3, 19), (3, 20), (3, 21), (3, 22), (3, 23), (4, 0), (4, 1), (1, 18), (1, 19), (1, 20), (1, 22), (1, 23), (2, 0), (2, 1), (2, 2), (2, 3), (2, 4), (2, 5), (2, 6), (7, 6), (1, 12), (1, 13), (1, 14), (1, 15), (1, 16), (8, 0), (8, 1), (8, 2), (8, 3), (8, 4), (9, 0), (9, 1), (9, 2), (9, 3), (9, 4), (10, 0), (10, 1), (10, 2), (10, 3), (10, 4)] rfl
set_option maxRecDepth 20000 in
theorem gL_isJoint_X6_ifSnipped : GoodIn wsL_isJoint (wsV RL 33 RX6 yX6_ifSnipped wsX6_ifSnipped) := goodIn_c ch_wsL_isJoint hf_wsL_isJoint hg_wsL_isJoint _ [(7, 7), (7, 8), (7, 9), (1, 3), (7, 10), (1, 5), (1, 6), (1, 7), (1, 8), (1, 9), (1, 10), (7, 2), (7, 3), (7, 4), (2, 17), (7, 5), (3, 8), (3, 9), (3, 10), (3, 11), (3, 12), (3, 13), (3, 14), (3, 15), (3, 16), (3, 17), (1, 21), (3, 18), (3, 19), (3, 20), (3, 21), (3, 22), (3, 23), (4, 0), (4, 1), (1, 18), (1, 19), (1, 20), (1, 22), (1, 23), (2, 0), (2, 1), (2, 2), (2, 3), (2, 4), (2, 5), (2, 6), (7, 6), (1, 12), (1, 13), (1, 14), (1, 15), (1, 16), (7, 11), (7, 12), (7, 13), (7, 14), (4, 12), (7, 15), (4, 11), (5, 5), (5, 6), (5, 7), (5, 19), (2, 12), (2, 13), (5, 8), (8, 0), (8, 1), (8, 2), (8, 3), (8, 4), (9, 0), (9, 1), (9, 2), (9, 3), (9, 4), (10, 0), (10, 1), (10, 2), (10, 3), (10, 4)] rfl
theorem dL_isJoint_0 : decode cL_isJoint 0 = .ok (.aload_n 0, 1) := by decide +kernel
theorem dL_isJoint_1 : decode cL_isJoint 1 = .ok (.iload_n 1, 1) := by decide +kernel
theorem dL_isJoint_2 : decode cL_isJoint 2 = .ok (.iconst 2, 1) := by decide +kernel
theorem dL_isJoint_3 : decode cL_isJoint 3 = .ok (.invokevirtual 27, 3) := by decide +kernel
theorem dL_isJoint_6 : decode cL_isJoint 6 = .ok (.istore_n 3, 1) := by decide +kernel
theorem dL_isJoint_7 : decode cL_isJoint 7 = .ok (.aload_n 0, 1) := by decide +kernel
theorem dL_isJoint_8 : decode cL_isJoint 8 = .ok (.iload_n 1, 1) := by decide +kernel
theorem dL_isJoint_9 : decode cL_isJoint 9 = .ok (.iconst 3, 1) := by decide +kernel
theorem dL_isJoint_10 : decode cL_isJoint 10 = .ok (.invokevirtual 27, 3) := by decide +kernel
theorem dL_isJoint_13 : decode cL_isJoint 13 = .ok (.istore 4, 2) := by decide +kernel
theorem dL_isJoint_15 : decode cL_isJoint 15 = .ok (.aload_n 0, 1) := by decide +kernel
theorem dL_isJoint_16 : decode cL_isJoint 16 = .ok (.iload_n 3, 1) := by decide +kernel
theorem dL_isJoint_17 : decode cL_isJoint 17 = .ok (.iconst 0, 1) := by decide +kernel
theorem dL_isJoint_18 : decode cL_isJoint 18 = .ok (.invokevirtual 52, 3) := by decide +kernel
theorem dL_isJoint_21 : decode cL_isJoint 21 = .ok (.iconst 1, 1) := by decide +kernel
theorem dL_isJoint_22 : decode cL_isJoint 22 = .ok (.if_icmp .eq 14, 3) := by decide +kernel
theorem dL_isJoint_25 : decode cL_isJoint 25 = .ok (.aload_n 0, 1) := by decide +kernel
theorem dL_isJoint_26 : decode cL_isJoint 26 = .ok (.iload 4, 2) := by decide +kernel
theorem dL_isJoint_28 : decode cL_isJoint 28 = .ok (.iconst 0, 1) := by decide +kernel
theorem dL_isJoint_29 : decode cL_isJoint 29 = .ok (.invokevirtual 52, 3) := by decide +kernel
theorem dL_isJoint_32 : decode cL_isJoint 32 = .ok (.iconst 1, 1) := by decide +kernel
theorem dL_isJoint_33 : decode cL_isJoint 33 = .ok (.if_icmp .ne 7, 3) := by decide +kernel
theorem dL_isJoint_36 : decode cL_isJoint 36 = .ok (.iconst 1, 1) := by decide +kernel
theorem dL_isJoint_37 : decode cL_isJoint 37 = .ok (.goto 4, 3) := by decide +kernel
theorem dL_isJoint_40 : decode cL_isJoint 40 = .ok (.iconst 0, 1) := by decide +kernel
theorem dL_isJoint_41 : decode cL_isJoint 41 = .ok (.istore 5, 2) := by decide +kernel
theorem dL_isJoint_43 : decode cL_isJoint 43 = .ok (.aload_n 0, 1) := by decide +kernel
theorem dL_isJoint_44 : decode cL_isJoint 44 = .ok (.iload_n 1, 1) := by decide +kernel
theorem dL_isJoint_45 : decode cL_isJoint 45 = .ok (.iconst 0, 1) := by decide +kernel
theorem dL_isJoint_46 : decode cL_isJoint 46 = .ok (.invokevirtual 27, 3) := by decide +kernel
theorem dL_isJoint_49 : decode cL_isJoint 49 = .ok (.istore 6, 2) := by decide +kernel
theorem dL_isJoint_51 : decode cL_isJoint 51 = .ok (.iload 4, 2) := by decide +kernel
theorem dL_isJoint_53 : decode cL_isJoint 53 = .ok (.iload_n 1, 1) := by decide +kernel
theorem dL_isJoint_54 : decode cL_isJoint 54 = .ok (.bipush 42, 2) := by decide +kernel
theorem dL_isJoint_56 : decode cL_isJoint 56 = .ok (.if_icmp .ge 9, 3) := by decide +kernel
theorem dL_isJoint_59 : decode cL_isJoint 59 = .ok (.iload_n 3, 1) := by decide +kernel
theorem dL_isJoint_60 : decode cL_isJoint 60 = .ok (.iconst 1, 1) := by decide +kernel
theorem dL_isJoint_61 : decode cL_isJoint 61 = .ok (.iadd, 1) := by decide +kernel
theorem dL_isJoint_62 : decode cL_isJoint 62 = .ok (.goto 7, 3) := by decide +kernel
theorem dL_isJoint_65 : decode cL_isJoint 65 = .ok (.iload_n 3, 1) := by decide +kernel
theorem dL_isJoint_66 : decode cL_isJoint 66 = .ok (.bipush 8, 2) := by decide +kernel
theorem dL_isJoint_68 : decode cL_isJoint 68 = .ok (.iadd, 1) := by decide +kernel
theorem dL_isJoint_69 : decode cL_isJoint 69 = .ok (.if_icmp .ne 121, 3) := by decide +kernel
theorem dL_isJoint_72 : decode cL_isJoint 72 = .ok (.aload_n 0, 1) := by decide +kernel
theorem dL_isJoint_73 : decode cL_isJoint 73 = .ok (.iload_n 1, 1) := by decide +kernel
theorem dL_isJoint_74 : decode cL_isJoint 74 = .ok (.iconst 1, 1) := by decide +kernel
theorem dL_isJoint_75 : decode cL_isJoint 75 = .ok (.invokevirtual 27, 3) := by decide +kernel
theorem dL_isJoint_78 : decode cL_isJoint 78 = .ok (.iload 5, 2) := by decide +kernel
theorem dL_isJoint_80 : decode cL_isJoint 80 = .ok (.ifCond .eq 7, 3) := by decide +kernel
theorem dL_isJoint_83 : decode cL_isJoint 83 = .ok (.iconst 1, 1) := by decide +kernel
theorem dL_isJoint_84 : decode cL_isJoint 84 = .ok (.goto 4, 3) := by decide +kernel
theorem dL_isJoint_87 : decode cL_isJoint 87 = .ok (.iconst 0, 1) := by decide +kernel
theorem dL_isJoint_88 : decode cL_isJoint 88 = .ok (.if_icmp .ne 102, 3) := by decide +kernel
theorem dL_isJoint_91 : decode cL_isJoint 91 = .ok (.aload_n 0, 1) := by decide +kernel
theorem dL_isJoint_92 : decode cL_isJoint 92 = .ok (.iload_n 1, 1) := by decide +kernel
theorem dL_isJoint_93 : decode cL_isJoint 93 = .ok (.bipush 6, 2) := by decide +kernel
theorem dL_isJoint_95 : decode cL_isJoint 95 = .ok (.invokevirtual 27, 3) := by decide +kernel
theorem dL_isJoint_98 : decode cL_isJoint 98 = .ok (.iload 5, 2) := by decide +kernel
theorem dL_isJoint_100 : decode cL_isJoint 100 = .ok (.ifCond .ne 14, 3) := by decide +kernel
theorem dL_isJoint_103 : decode cL_isJoint 103 = .ok (.iload 6, 2) := by decide +kernel
theorem dL_isJoint_105 : decode cL_isJoint 105 = .ok (.iconst 2, 1) := by decide +kernel
theorem dL_isJoint_106 : decode cL_isJoint 106 = .ok (.irem, 1) := by decide +kernel
theorem dL_isJoint_107 : decode cL_isJoint 107 = .ok (.ifCond .ne 7, 3) := by decide +kernel
theorem dL_isJoint_110 : decode cL_isJoint 110 = .ok (.iconst 1, 1) := by decide +kernel
theorem dL_isJoint_111 : decode cL_isJoint 111 = .ok (.goto 4, 3) := by decide +kernel
theorem dL_isJoint_114 : decode cL_isJoint 114 = .ok (.iconst 0, 1) := by decide +kernel
theorem dL_isJoint_115 : decode cL_isJoint 115 = .ok (.if_icmp .ne 75, 3) := by decide +kernel
theorem dL_isJoint_118 : decode cL_isJoint 118 = .ok (.iload 5, 2) := by decide +kernel
theorem dL_isJoint_120 : decode cL_isJoint 120 = .ok (.ifCond .eq 23, 3) := by decide +kernel
theorem dL_isJoint_123 : decode cL_isJoint 123 = .ok (.aload_n 0, 1) := by decide +kernel
theorem dL_isJoint_124 : decode cL_isJoint 124 = .ok (.iload_n 1, 1) := by decide +kernel
theorem dL_isJoint_125 : decode cL_isJoint 125 = .ok (.iconst 4, 1) := by decide +kernel
theorem dL_isJoint_126 : decode cL_isJoint 126 = .ok (.invokevirtual 27, 3) := by decide +kernel
theorem dL_isJoint_129 : decode cL_isJoint 129 = .ok (.ifCond .ne 61, 3) := by decide +kernel
theorem dL_isJoint_132 : decode cL_isJoint 132 = .ok (.aload_n 0, 1) := by decide +kernel
theorem dL_isJoint_133 : decode cL_isJoint 133 = .ok (.iload_n 1, 1) := by decide +kernel
theorem dL_isJoint_134 : decode cL_isJoint 134 = .ok (.iconst 5, 1) := by decide +kernel
theorem dL_isJoint_135 : decode cL_isJoint 135 = .ok (.invokevirtual 27, 3) := by decide +kernel
theorem dL_isJoint_138 : decode cL_isJoint 138 = .ok (.bipush (-6), 2) := by decide +kernel
theorem dL_isJoint_140 : decode cL_isJoint 140 = .ok (.if_icmp .ne 50, 3) := by decide +kernel
theorem dL_isJoint_143 : decode cL_isJoint 143 = .ok (.iload 6, 2) := by decide +kernel
theorem dL_isJoint_145 : decode cL_isJoint 145 = .ok (.iconst 1, 1) := by decide +kernel
theorem dL_isJoint_146 : decode cL_isJoint 146 = .ok (.if_icmp .gt 14, 3) := by decide +kernel
theorem dL_isJoint_149 : decode cL_isJoint 149 = .ok (.aload_n 0, 1) := by decide +kernel
theorem dL_isJoint_150 : decode cL_isJoint 150 = .ok (.iload_n 1, 1) := by decide +kernel
theorem dL_isJoint_151 : decode cL_isJoint 151 = .ok (.iconst 5, 1) := by decide +kernel
theorem dL_isJoint_152 : decode cL_isJoint 152 = .ok (.invokevirtual 27, 3) := by decide +kernel
theorem dL_isJoint_155 : decode cL_isJoint 155 = .ok (.bipush (-6), 2) := by decide +kernel
theorem dL_isJoint_157 : decode cL_isJoint 157 = .ok (.if_icmp .ne 33, 3) := by decide +kernel
theorem dL_isJoint_160 : decode cL_isJoint 160 = .ok (.aload_n 0, 1) := by decide +kernel
theorem dL_isJoint_161 : decode cL_isJoint 161 = .ok (.iload_n 1, 1) := by decide +kernel
theorem dL_isJoint_162 : decode cL_isJoint 162 = .ok (.bipush 6, 2) := by decide +kernel
theorem dL_isJoint_164 : decode cL_isJoint 164 = .ok (.invokevirtual 27, 3) := by decide +kernel
theorem dL_isJoint_167 : decode cL_isJoint 167 = .ok (.iconst 1, 1) := by decide +kernel
theorem dL_isJoint_168 : decode cL_isJoint 168 = .ok (.if_icmp .eq 18, 3) := by decide +kernel
theorem dL_isJoint_171 : decode cL_isJoint 171 = .ok (.aload_n 0, 1) := by decide +kernel
theorem dL_isJoint_172 : decode cL_isJoint 172 = .ok (.iload_n 1, 1) := by decide +kernel
theorem dL_isJoint_173 : decode cL_isJoint 173 = .ok (.iconst 4, 1) := by decide +kernel
theorem dL_isJoint_174 : decode cL_isJoint 174 = .ok (.invokevirtual 27, 3) := by decide +kernel
theorem dL_isJoint_177 : decode cL_isJoint 177 = .ok (.ifCond .eq 9, 3) := by decide +kernel
theorem dL_isJoint_180 : decode cL_isJoint 180 = .ok (.iload 6, 2) := by decide +kernel
theorem dL_isJoint_182 : decode cL_isJoint 182 = .ok (.iconst 3, 1) := by decide +kernel
theorem dL_isJoint_183 : decode cL_isJoint 183 = .ok (.if_icmp .ne 7, 3) := by decide +kernel
theorem dL_isJoint_186 : decode cL_isJoint 186 = .ok (.iconst 1, 1) := by decide +kernel
theorem dL_isJoint_187 : decode cL_isJoint 187 = .ok (.goto 4, 3) := by decide +kernel
theorem dL_isJoint_190 : decode cL_isJoint 190 = .ok (.iconst 0, 1) := by decide +kernel
theorem dL_isJoint_191 : decode cL_isJoint 191 = .ok (.istore 7, 2) := by decide +kernel
theorem dL_isJoint_193 : decode cL_isJoint 193 = .ok (.aload_n 0, 1) := by decide +kernel
theorem dL_isJoint_194 : decode cL_isJoint 194 = .ok (.iconst 2, 1) := by decide +kernel
theorem dL_isJoint_195 : decode cL_isJoint 195 = .ok (.invokevirtual 19, 3) := by decide +kernel
theorem dL_isJoint_198 : decode cL_isJoint 198 = .ok (.iconst 1, 1) := by decide +kernel
theorem dL_isJoint_199 : decode cL_isJoint 199 = .ok (.if_icmp .ne 7, 3) := by decide +kernel
theorem dL_isJoint_202 : decode cL_isJoint 202 = .ok (.iconst 1, 1) := by decide +kernel
theorem dL_isJoint_203 : decode cL_isJoint 203 = .ok (.goto 23, 3) := by decide +kernel
theorem dL_isJoint_206 : decode cL_isJoint 206 = .ok (.iload 5, 2) := by decide +kernel
theorem dL_isJoint_208 : decode cL_isJoint 208 = .ok (.ifCond .eq 7, 3) := by decide +kernel
theorem dL_isJoint_211 : decode cL_isJoint 211 = .ok (.iconst 2, 1) := by decide +kernel
theorem dL_isJoint_212 : decode cL_isJoint 212 = .ok (.goto 14, 3) := by decide +kernel
theorem dL_isJoint_215 : decode cL_isJoint 215 = .ok (.iload 6, 2) := by decide +kernel
theorem dL_isJoint_217 : decode cL_isJoint 217 = .ok (.iconst 1, 1) := by decide +kernel
theorem dL_isJoint_218 : decode cL_isJoint 218 = .ok (.if_icmp .ne 7, 3) := by decide +kernel
theorem dL_isJoint_221 : decode cL_isJoint 221 = .ok (.iconst 3, 1) := by decide +kernel
theorem dL_isJoint_222 : decode cL_isJoint 222 = .ok (.goto 4, 3) := by decide +kernel
theorem dL_isJoint_225 : decode cL_isJoint 225 = .ok (.iconst 0, 1) := by decide +kernel
theorem dL_isJoint_226 : decode cL_isJoint 226 = .ok (.istore 8, 2) := by decide +kernel
theorem dL_isJoint_228 : decode cL_isJoint 228 = .ok (.iload 7, 2) := by decide +kernel
theorem dL_isJoint_230 : decode cL_isJoint 230 = .ok (.ifCond .eq 43, 3) := by decide +kernel
theorem dL_isJoint_233 : decode cL_isJoint 233 = .ok (.aload_n 0, 1) := by decide +kernel
theorem dL_isJoint_234 : decode cL_isJoint 234 = .ok (.iload_n 1, 1) := by decide +kernel
theorem dL_isJoint_235 : decode cL_isJoint 235 = .ok (.invokevirtual 55, 3) := by decide +kernel
theorem dL_isJoint_238 : decode cL_isJoint 238 = .ok (.iload 8, 2) := by decide +kernel
theorem dL_isJoint_240 : decode cL_isJoint 240 = .ok (.if_icmp .ne 33, 3) := by decide +kernel
theorem dL_isJoint_243 : decode cL_isJoint 243 = .ok (.iload 8, 2) := by decide +kernel
theorem dL_isJoint_245 : decode cL_isJoint 245 = .ok (.ifCond .ne 14, 3) := by decide +kernel
theorem dL_isJoint_248 : decode cL_isJoint 248 = .ok (.aload_n 0, 1) := by decide +kernel
theorem dL_isJoint_249 : decode cL_isJoint 249 = .ok (.iload_n 1, 1) := by decide +kernel
theorem dL_isJoint_250 : decode cL_isJoint 250 = .ok (.invokevirtual 33, 3) := by decide +kernel
theorem dL_isJoint_253 : decode cL_isJoint 253 = .ok (.ifCond .lt 20, 3) := by decide +kernel
theorem dL_isJoint_256 : decode cL_isJoint 256 = .ok (.goto 13, 3) := by decide +kernel
theorem dL_isJoint_259 : decode cL_isJoint 259 = .ok (.aload_n 0, 1) := by decide +kernel
theorem dL_isJoint_260 : decode cL_isJoint 260 = .ok (.iload_n 1, 1) := by decide +kernel
theorem dL_isJoint_261 : decode cL_isJoint 261 = .ok (.invokevirtual 33, 3) := by decide +kernel
theorem dL_isJoint_264 : decode cL_isJoint 264 = .ok (.bipush (-5), 2) := by decide +kernel
theorem dL_isJoint_266 : decode cL_isJoint 266 = .ok (.if_icmp .ne 7, 3) := by decide +kernel
theorem dL_isJoint_269 : decode cL_isJoint 269 = .ok (.iconst 1, 1) := by decide +kernel
theorem dL_isJoint_270 : decode cL_isJoint 270 = .ok (.goto 4, 3) := by decide +kernel
theorem dL_isJoint_273 : decode cL_isJoint 273 = .ok (.iconst 0, 1) := by decide +kernel
theorem dL_isJoint_274 : decode cL_isJoint 274 = .ok (.ireturn, 1) := by decide +kernel
def ch_wsL_falls : List (List Cond) := [[.code yL_falls cL_falls 7 (some .int)], wsL_falls_r1, wsL_falls_r2, wsL_falls_r3, wsL_falls_r4, wsL_falls_r5, wsL_falls_r6, wsX60, wsX10, wsX00, wsX50]
set_option maxRecDepth 20000 in
theorem hf_wsL_falls : wsL_falls = (ch_wsL_falls).flatten := rfl
set_option maxRecDepth 20000 in
theorem hg_wsL_falls : (wsL_falls).all goodWord = true := by decide +kernel
set_option maxRecDepth 20000 in
theorem gL_falls_X6_of : GoodIn wsL_falls (wsV RL 27 RX6 yX6_of wsX6_of) := goodIn_c ch_wsL_falls hf_wsL_falls hg_wsL_falls _ [(1, 0), (1, 1), (1, 2), (1, 3), (1, 4), (1, 5), (1, 6), (1, 7), (1, 8), (1, 9), (1, 10), (1, 11), (1, 12), (1, 13), (1, 14), (1, 15), (1, 16), (1, 17), (1, 18), (1, 19), (1, 20), (1, 21), (1, 22), (1, 23), (2, 0), (2, 1), (2, 2), (2, 3), (2, 4), (2, 5), (2, 6), (2, 7), (2, 8), (1, 3), (2, 9), (2, 10), (2, 11), (2, 12), (2, 13), (2, 14), (2, 15), (2, 16), (2, 17), (2, 18), (2, 19), (2, 20), (2, 21), (2, 22), (2, 23), (3, 0), (3, 1), (3, 2), (3, 3), (3, 4), (3, 5), (3, 6), (3, 7), (3, 8), (3, 9), (3, 10), (3, 11), (3, 12), (3, 13), (3, 14), (3, 15), (3, 16), (3, 17), (3, 18), (3, 19), (3, 20), (3, 21), (3, 22), (3, 23), (4, 0), (4, 1), (4, 2), (4, 3), (4, 4), (4, 5), (4, 6), (4, 7), (4, 8), (4, 9), (4, 10), (4, 11), (4, 12), (7, 0), (7, 1), (7, 2), (7, 3), (7, 4), (8, 0), (8, 1), (8, 2), (8, 3), (8, 4), (9, 0), (9, 1), (9, 2), (9, 3), (9, 4), (10, 0), (10, 1), (10, 2), (10, 3), (10, 4), (10, 5), (10, 6), (10, 7), (10, 8)] rfl
set_option maxRecDepth 20000 in
theorem gL_falls_L_piece : GoodIn wsL_falls (va_wsS RL 58 yL_piece wsL_piece) := goodIn_c ch_wsL_falls hf_wsL_falls hg_wsL_falls _ [(4, 13), (4, 14), (4, 15), (4, 16), (4, 17), (4, 18), (4, 19), (4, 20), (1, 3), (4, 21), (1, 5), (1, 6), (4, 22), (4, 23), (1, 9), (5, 0), (5, 1), (5, 2), (5, 3), (5, 4), (1, 21), (2, 4), (2, 5), (2, 6), (2, 7), (2, 8), (2, 9), (5, 5), (5, 6), (5, 7), (5, 8), (4, 12), (4, 11), (5, 9), (5, 10), (5, 11), (5, 12), (5, 13), (3, 19), (3, 20), (3, 21), (3, 22), (3, 23), (4, 0), (5, 14), (5, 15), (5, 16), (5, 17), (5, 18), (5, 19), (5, 20), (5, 21), (5, 22), (5, 23), (4, 8), (4, 9), (4, 10), (1, 22), (1, 23), (2, 0), (2, 1), (2, 2), (2, 3), (6, 0), (2, 12), (2, 13), (1, 0), (1, 1), (1, 2), (1, 4), (1, 7), (1, 8), (1, 10), (1, 11), (1, 12), (1, 13), (1, 14), (1, 15), (1, 16), (1, 17), (1, 18), (1, 19), (1, 20), (2, 10), (2, 11), (2, 14), (2, 15), (2, 16), (2, 17), (2, 18), (2, 19), (2, 20), (2, 21), (2, 22), (2, 23), (3, 0), (3, 1), (3, 2), (3, 3), (3, 4), (3, 5), (3, 6), (3, 7), (3, 8), (3, 9), (3, 10), (3, 11), (3, 12), (3, 13), (3, 14), (3, 15), (3, 16), (3, 17), (3, 18), (4, 1), (4, 2), (4, 3), (4, 4), (4, 5), (4, 6), (4, 7), (7, 0), (7, 1), (7, 2), (7, 3), (7, 4), (8, 0), (8, 1), (8, 2), (8, 3), (8, 4), (9, 0), (9, 1), (9, 2), (9, 3), (9, 4), (10, 0), (10, 1), (10, 2), (10, 3), (10, 4), (10, 5), (10, 6), (10, 7), (10, 8)] rfl
theorem dL_falls_0 : decode cL_falls 0 = .ok (.aload_n 0, 1) := by decide +kernel
theorem dL_falls_1 : decode cL_falls 1 = .ok (.aload_n 2, 1) := by decide +kernel
theorem dL_falls_2 : decode cL_falls 2 = .ok (.aload_n 0, 1) := by decide +kernel
theorem dL_falls_3 : decode cL_falls 3 = .ok (.iload_n 1, 1) := by decide +kernel
theorem dL_falls_4 : decode cL_falls 4 = .ok (.iconst 2, 1) := by decide +kernel
theorem dL_falls_5 : decode cL_falls 5 = .ok (.invokevirtual 27, 3) := by decide +kernel
theorem dL_falls_8 : decode cL_falls 8 = .ok (.iload_n 1, 1) := by decide +kernel
theorem dL_falls_9 : decode cL_falls 9 = .ok (.iconst 0, 1) := by decide +kernel
theorem dL_falls_10 : decode cL_falls 10 = .ok (.invokestatic 58, 3) := by decide +kernel
theorem dL_falls_13 : decode cL_falls 13 = .ok (.istore_n 3, 1) := by decide +kernel
theorem dL_falls_14 : decode cL_falls 14 = .ok (.aload_n 0, 1) := by decide +kernel
theorem dL_falls_15 : decode cL_falls 15 = .ok (.aload_n 2, 1) := by decide +kernel
theorem dL_falls_16 : decode cL_falls 16 = .ok (.aload_n 0, 1) := by decide +kernel
theorem dL_falls_17 : decode cL_falls 17 = .ok (.iload_n 1, 1) := by decide +kernel
theorem dL_falls_18 : decode cL_falls 18 = .ok (.iconst 3, 1) := by decide +kernel
theorem dL_falls_19 : decode cL_falls 19 = .ok (.invokevirtual 27, 3) := by decide +kernel
theorem dL_falls_22 : decode cL_falls 22 = .ok (.iload_n 1, 1) := by decide +kernel
theorem dL_falls_23 : decode cL_falls 23 = .ok (.iconst 0, 1) := by decide +kernel
theorem dL_falls_24 : decode cL_falls 24 = .ok (.invokestatic 58, 3) := by decide +kernel
theorem dL_falls_27 : decode cL_falls 27 = .ok (.istore 4, 2) := by decide +kernel
theorem dL_falls_29 : decode cL_falls 29 = .ok (.aload_n 2, 1) := by decide +kernel
theorem dL_falls_30 : decode cL_falls 30 = .ok (.aload_n 0, 1) := by decide +kernel
theorem dL_falls_31 : decode cL_falls 31 = .ok (.iload_n 1, 1) := by decide +kernel
theorem dL_falls_32 : decode cL_falls 32 = .ok (.iconst 2, 1) := by decide +kernel
theorem dL_falls_33 : decode cL_falls 33 = .ok (.invokevirtual 27, 3) := by decide +kernel
theorem dL_falls_36 : decode cL_falls 36 = .ok (.iaload, 1) := by decide +kernel
theorem dL_falls_37 : decode cL_falls 37 = .ok (.iconst 1, 1) := by decide +kernel
theorem dL_falls_38 : decode cL_falls 38 = .ok (.if_icmp .ne 7, 3) := by decide +kernel
theorem dL_falls_41 : decode cL_falls 41 = .ok (.iconst 1, 1) := by decide +kernel
theorem dL_falls_42 : decode cL_falls 42 = .ok (.goto 4, 3) := by decide +kernel
theorem dL_falls_45 : decode cL_falls 45 = .ok (.iconst 0, 1) := by decide +kernel
theorem dL_falls_46 : decode cL_falls 46 = .ok (.istore 5, 2) := by decide +kernel
theorem dL_falls_48 : decode cL_falls 48 = .ok (.iload_n 3, 1) := by decide +kernel
theorem dL_falls_49 : decode cL_falls 49 = .ok (.iload 4, 2) := by decide +kernel
theorem dL_falls_51 : decode cL_falls 51 = .ok (.if_icmp .ge 7, 3) := by decide +kernel
theorem dL_falls_54 : decode cL_falls 54 = .ok (.iload_n 3, 1) := by decide +kernel
theorem dL_falls_55 : decode cL_falls 55 = .ok (.goto 5, 3) := by decide +kernel
theorem dL_falls_58 : decode cL_falls 58 = .ok (.iload 4, 2) := by decide +kernel
theorem dL_falls_60 : decode cL_falls 60 = .ok (.istore 6, 2) := by decide +kernel
theorem dL_falls_62 : decode cL_falls 62 = .ok (.iload 5, 2) := by decide +kernel
theorem dL_falls_64 : decode cL_falls 64 = .ok (.ifCond .ne 10, 3) := by decide +kernel
theorem dL_falls_67 : decode cL_falls 67 = .ok (.iload 6, 2) := by decide +kernel
theorem dL_falls_69 : decode cL_falls 69 = .ok (.bipush 12, 2) := by decide +kernel
theorem dL_falls_71 : decode cL_falls 71 = .ok (.if_icmp .le 7, 3) := by decide +kernel
theorem dL_falls_74 : decode cL_falls 74 = .ok (.iconst 0, 1) := by decide +kernel
theorem dL_falls_75 : decode cL_falls 75 = .ok (.goto 5, 3) := by decide +kernel
theorem dL_falls_78 : decode cL_falls 78 = .ok (.iload 6, 2) := by decide +kernel
theorem dL_falls_80 : decode cL_falls 80 = .ok (.ireturn, 1) := by decide +kernel
def ch_wsL_holds : List (List Cond) := [[.code yL_holds cL_holds 11 (some .boolean)], wsL_holds_r1, wsL_holds_r2, wsL_holds_r3, wsL_holds_r4, wsL_holds_r5, wsL_holds_r6, wsL_holds_r7, wsL_holds_r8, wsL_holds_r9, wsL_holds_r10, wsL_holds_r11, wsX60, wsX10, wsX00, wsX50, wsX30, wsX20]
set_option maxRecDepth 20000 in
theorem hf_wsL_holds : wsL_holds = (ch_wsL_holds).flatten := rfl
set_option maxRecDepth 20000 in
theorem hg_wsL_holds : (wsL_holds).all goodWord = true := by decide +kernel
set_option maxRecDepth 20000 in
theorem gL_holds_X6_of : GoodIn wsL_holds (wsV RL 27 RX6 yX6_of wsX6_of) := goodIn_c ch_wsL_holds hf_wsL_holds hg_wsL_holds _ [(1, 1), (1, 2), (1, 3), (1, 4), (1, 5), (1, 6), (1, 7), (1, 8), (1, 9), (1, 10), (1, 11), (1, 12), (1, 13), (1, 14), (1, 15), (1, 16), (1, 17), (1, 18), (1, 19), (1, 20), (1, 21), (1, 22), (1, 23), (2, 0), (2, 1), (2, 2), (2, 3), (2, 4), (2, 5), (2, 6), (2, 7), (2, 8), (2, 9), (1, 4), (2, 10), (2, 11), (2, 12), (2, 13), (2, 14), (2, 15), (2, 16), (2, 17), (2, 18), (2, 19), (2, 20), (2, 21), (2, 22), (2, 23), (3, 0), (3, 1), (3, 2), (3, 3), (3, 4), (3, 5), (3, 6), (3, 7), (3, 8), (3, 9), (3, 10), (3, 11), (3, 12), (3, 13), (3, 14), (3, 15), (3, 16), (3, 17), (3, 18), (3, 19), (3, 20), (3, 21), (3, 22), (3, 23), (4, 0), (4, 1), (4, 2), (4, 3), (4, 4), (4, 5), (4, 6), (4, 7), (4, 8), (4, 9), (4, 10), (4, 11), (4, 12), (4, 13), (12, 0), (12, 1), (12, 2), (12, 3), (12, 4), (13, 0), (13, 1), (13, 2), (13, 3), (13, 4), (14, 0), (14, 1), (14, 2), (14, 3), (14, 4), (15, 0), (15, 1), (15, 2), (15, 3), (15, 4), (15, 5), (15, 6), (15, 7), (15, 8)] rfl
set_option maxRecDepth 20000 in
theorem gL_holds_X6_cell : GoodIn wsL_holds (wsV RL 52 RX6 yX6_cell wsX6_cell) := goodIn_c ch_wsL_holds hf_wsL_holds hg_wsL_holds _ [(4, 14), (4, 15), (4, 16), (1, 4), (4, 17), (1, 6), (1, 7), (4, 18), (4, 19), (1, 10), (4, 20), (4, 21), (4, 22), (4, 23), (5, 0), (1, 22), (2, 5), (2, 6), (2, 7), (2, 8), (2, 9), (1, 4), (2, 10), (5, 1), (5, 2), (5, 3), (5, 4), (4, 13), (4, 12), (5, 5), (5, 6), (5, 7), (5, 8), (5, 9), (3, 20), (3, 21), (3, 22), (3, 23), (4, 0), (4, 1), (5, 10), (5, 11), (5, 12), (5, 13), (5, 14), (5, 15), (5, 16), (5, 17), (5, 18), (5, 19), (4, 9), (4, 10), (4, 11), (1, 23), (2, 0), (2, 1), (2, 2), (2, 3), (2, 4), (5, 20), (2, 13), (2, 14), (12, 0), (12, 1), (12, 2), (12, 3), (12, 4), (13, 0), (13, 1), (13, 2), (13, 3), (13, 4), (14, 0), (14, 1), (14, 2), (14, 3), (14, 4)] rfl
set_option maxRecDepth 20000 in
theorem gL_holds_L_isJoint : GoodIn wsL_holds (va_wsS RL 62 yL_isJoint wsL_isJoint) := goodIn_c ch_wsL_holds hf_wsL_holds hg_wsL_holds _ [(5, 21), (5, 22), (5, 23), (6, 0), (1, 1), (1, 2), (1, 3), (1, 4), (1, 5), (1, 6), (1, 7), (1, 8), (1, 9), (1, 10), (1, 11), (1, 12), (1, 13), (1, 14), (1, 15), (1, 16), (1, 17), (1, 18), (1, 19), (1, 20), (1, 21), (1, 22), (1, 23), (2, 0), (2, 1), (2, 2), (2, 3), (2, 4), (2, 5), (2, 6), (2, 7), (2, 8), (2, 9), (2, 10), (2, 11), (2, 12), (2, 13), (2, 14), (2, 15), (2, 16), (2, 17), (2, 18), (2, 19), (2, 20), (2, 21), (2, 22), (2, 23), (3, 0), (3, 1), (3, 2), (3, 3), (3, 4), (3, 5), (3, 6), (3, 7), (3, 8), (3, 9), (3, 10), (3, 11), (3, 12), (3, 13), (3, 14), (3, 15), (3, 16), (3, 17), (3, 18), (3, 19), (3, 20), (3, 21), (3, 22), (3, 23), (4, 0), (4, 1), (4, 2), (4, 3), (4, 4), (4, 5), (4, 6), (4, 7), (4, 8), (4, 9), (4, 10), (4, 11), (4, 12), (4, 13), (4, 14), (4, 15), (4, 16), (4, 17), (4, 18), (4, 19), (4, 20), (4, 21), (4, 22), (4, 23), (5, 0), (5, 1), (5, 2), (5, 3), (5, 4), (5, 5), (5, 6), (5, 7), (5, 8), (5, 9), (5, 10), (5, 11), (5, 12), (5, 13), (5, 14), (5, 15), (5, 16), (5, 17), (5, 18), (5, 19), (5, 20), (6, 1), (6, 2), (6, 3), (6, 4), (6, 5), (6, 6), (6, 7), (6, 8), (6, 9), (6, 10), (6, 11), (6, 12), (6, 13), (6, 14), (6, 15), (6, 16), (6, 17), (6, 18), (6, 19), (6, 20), (6, 21), (6, 22), (6, 23), (7, 0), (7, 1), (7, 2), (7, 3), (7, 4), (7, 5), (7, 6), (7, 7), (7, 8), (7, 9), (7, 10), (7, 11), (7, 12), (7, 13), (7, 14), (7, 15), (7, 16), (7, 17), (7, 18), (7, 19), (7, 20), (12, 0), (12, 1), (12, 2), (12, 3), (12, 4), (13, 0), (13, 1), (13, 2), (13, 3), (13, 4), (14, 0), (14, 1), (14, 2), (14, 3), (14, 4), (15, 0), (15, 1), (15, 2), (15, 3), (15, 4), (15, 5), (15, 6), (15, 7), (15, 8), (16, 0), (16, 1), (17, 0), (17, 1), (17, 2)] rfl
set_option maxRecDepth 20000 in
theorem gL_holds_L_low : GoodIn wsL_holds (va_wsS RL 9 yL_low wsL_low) := goodIn_c ch_wsL_holds hf_wsL_holds hg_wsL_holds _ [(7, 21), (7, 22), (5, 23), (7, 23), (8, 0)] rfl
set_option maxRecDepth 20000 in
theorem gL_holds_L_piece : GoodIn wsL_holds (va_wsS RL 58 yL_piece wsL_piece) := goodIn_c ch_wsL_holds hf_wsL_holds hg_wsL_holds _ [(8, 1), (8, 2), (5, 23), (8, 3), (1, 0), (4, 14), (4, 15), (4, 16), (1, 4), (4, 17), (1, 6), (1, 7), (4, 18), (4, 19), (1, 10), (4, 20), (4, 21), (4, 22), (4, 23), (5, 0), (1, 22), (2, 5), (2, 6), (2, 7), (2, 8), (2, 9), (2, 10), (5, 1), (5, 2), (5, 3), (5, 4), (4, 13), (4, 12), (5, 5), (5, 6), (5, 7), (5, 8), (5, 9), (3, 20), (3, 21), (3, 22), (3, 23), (4, 0), (4, 1), (5, 10), (5, 11), (5, 12), (5, 13), (5, 14), (5, 15), (5, 16), (5, 17), (5, 18), (5, 19), (4, 9), (4, 10), (4, 11), (1, 23), (2, 0), (2, 1), (2, 2), (2, 3), (2, 4), (5, 20), (2, 13), (2, 14), (1, 1), (1, 2), (1, 3), (1, 5), (1, 8), (1, 9), (1, 11), (1, 12), (1, 13), (1, 14), (1, 15), (1, 16), (1, 17), (1, 18), (1, 19), (1, 20), (1, 21), (2, 11), (2, 12), (2, 15), (2, 16), (2, 17), (2, 18), (2, 19), (2, 20), (2, 21), (2, 22), (2, 23), (3, 0), (3, 1), (3, 2), (3, 3), (3, 4), (3, 5), (3, 6), (3, 7), (3, 8), (3, 9), (3, 10), (3, 11), (3, 12), (3, 13), (3, 14), (3, 15), (3, 16), (3, 17), (3, 18), (3, 19), (4, 2), (4, 3), (4, 4), (4, 5), (4, 6), (4, 7), (4, 8), (12, 0), (12, 1), (12, 2), (12, 3), (12, 4), (13, 0), (13, 1), (13, 2), (13, 3), (13, 4), (14, 0), (14, 1), (14, 2), (14, 3), (14, 4), (15, 0), (15, 1), (15, 2), (15, 3), (15, 4), (15, 5), (15, 6), (15, 7), (15, 8)] rfl
set_option maxRecDepth 20000 in
theorem gL_holds_X6_together : GoodIn wsL_holds (wsV RL 66 RX6 yX6_together wsX6_together) := goodIn_c ch_wsL_holds hf_wsL_holds hg_wsL_holds _ [(8, 4), (8, 5), (8, 6), (1, 4), (8, 7), (1, 6), (1, 7), (4, 18), (4, 19), (1, 10), (4, 20), (4, 21), (4, 22), (4, 23), (5, 0), (1, 22), (2, 5), (2, 6), (2, 7), (5, 1), (5, 2), (5, 3), (5, 4), (4, 13), (4, 12), (5, 5), (5, 6), (5, 7), (5, 8), (8, 8), (8, 9), (8, 10), (8, 11), (1, 16), (7, 2), (1, 19), (1, 20), (1, 21), (1, 23), (2, 0), (2, 1), (2, 2), (2, 3), (2, 4), (8, 12), (2, 8), (2, 9), (1, 4), (2, 10), (12, 0), (12, 1), (12, 2), (12, 3), (12, 4), (13, 0), (13, 1), (13, 2), (13, 3), (13, 4), (14, 0), (14, 1), (14, 2), (14, 3), (14, 4)] rfl
set_option maxRecDepth 20000 in
theorem gL_holds_X6_player : GoodIn wsL_holds (wsV RL 24 RX6 yX6_player wsX6_player) := goodIn_c ch_wsL_holds hf_wsL_holds hg_wsL_holds _ [(8, 13), (8, 14), (8, 15), (1, 4), (8, 16), (1, 6), (8, 17), (8, 18), (8, 19), (8, 20), (8, 21), (8, 22), (8, 23), (9, 0), (9, 1), (9, 2), (2, 18), (9, 3), (9, 4), (9, 5), (9, 6), (9, 7), (2, 20), (2, 21), (12, 0), (12, 1), (12, 2), (12, 3), (12, 4), (15, 0), (15, 1), (15, 2), (15, 3), (15, 4), (15, 5), (15, 6), (15, 7), (15, 8), (13, 0), (13, 1), (13, 2), (13, 3), (13, 4)] rfl
set_option maxRecDepth 20000 in
theorem gL_holds_X6_chalked : GoodIn wsL_holds (wsV RL 70 RX6 yX6_chalked wsX6_chalked) := goodIn_c ch_wsL_holds hf_wsL_holds hg_wsL_holds _ [(9, 8), (9, 9), (9, 10), (1, 4), (9, 11), (1, 6), (9, 1), (9, 2), (2, 18), (9, 3), (9, 4), (9, 5), (9, 6), (9, 7), (2, 20), (2, 21), (9, 12), (9, 13), (9, 14), (3, 1), (9, 15), (3, 3), (3, 4), (12, 0), (12, 1), (12, 2), (12, 3), (12, 4), (13, 0), (13, 1), (13, 2), (13, 3), (13, 4), (15, 0), (15, 1), (15, 2), (15, 3), (15, 4), (15, 5), (15, 6), (15, 7), (15, 8)] rfl
set_option maxRecDepth 20000 in
theorem gL_holds_X6_count : GoodIn wsL_holds (wsV RL 19 RX6 yX6_count wsX6_count) := goodIn_c ch_wsL_holds hf_wsL_holds hg_wsL_holds _ [(6, 1), (6, 2), (6, 3), (1, 4), (6, 4), (1, 6), (6, 5), (6, 6), (1, 7), (6, 7), (6, 8), (6, 9), (6, 10), (6, 11), (3, 11), (3, 12), (2, 18), (3, 13), (3, 14), (3, 9), (3, 15), (3, 16), (3, 17), (1, 10), (3, 18), (1, 22), (3, 19), (3, 20), (3, 21), (3, 22), (3, 23), (4, 0), (4, 1), (2, 8), (2, 9), (1, 4), (2, 10), (6, 12), (6, 13), (6, 14), (6, 15), (2, 20), (6, 16), (2, 21), (3, 10), (6, 17), (6, 18), (6, 19), (6, 20), (6, 21), (2, 5), (2, 6), (2, 7), (5, 14), (5, 2), (5, 3), (5, 4), (4, 13), (4, 12), (5, 5), (4, 22), (4, 23), (5, 0), (5, 6), (5, 7), (5, 8), (6, 22), (6, 23), (7, 0), (7, 1), (1, 16), (7, 2), (1, 19), (1, 20), (1, 21), (1, 23), (2, 0), (2, 1), (2, 2), (2, 3), (2, 4), (12, 0), (12, 1), (12, 2), (12, 3), (12, 4), (13, 0), (13, 1), (13, 2), (13, 3), (13, 4), (16, 0), (16, 1), (17, 0), (17, 1), (17, 2), (14, 0), (14, 1), (14, 2), (14, 3), (14, 4), (15, 0), (15, 1), (15, 2), (15, 3), (15, 4), (15, 5), (15, 6), (15, 7), (15, 8)] rfl
set_option maxRecDepth 20000 in
theorem gL_holds_L_isBest : GoodIn wsL_holds (va_wsS RL 73 yL_isBest wsL_isBest) := goodIn_c ch_wsL_holds hf_wsL_holds hg_wsL_holds _ [(9, 16), (9, 17), (5, 23), (9, 18), (7, 12), (7, 13), (7, 14), (1, 4), (7, 15), (1, 6), (1, 7), (1, 8), (1, 9), (1, 10), (1, 11), (7, 7), (7, 8), (7, 9), (2, 18), (7, 10), (3, 9), (3, 10), (3, 11), (3, 12), (3, 13), (3, 14), (3, 15), (3, 16), (3, 17), (3, 18), (1, 22), (3, 19), (3, 20), (3, 21), (3, 22), (3, 23), (4, 0), (4, 1), (4, 2), (1, 19), (1, 20), (1, 21), (1, 23), (2, 0), (2, 1), (2, 2), (2, 3), (2, 4), (2, 5), (2, 6), (2, 7), (7, 11), (1, 13), (1, 14), (1, 15), (1, 16), (1, 17), (7, 16), (7, 17), (7, 18), (7, 19), (4, 13), (7, 20), (4, 12), (5, 6), (5, 7), (5, 8), (5, 20), (2, 13), (2, 14), (5, 9), (1, 1), (1, 2), (1, 3), (1, 5), (1, 12), (1, 18), (2, 8), (2, 9), (2, 10), (2, 11), (2, 12), (2, 15), (2, 16), (2, 17), (2, 19), (2, 20), (2, 21), (2, 22), (2, 23), (3, 0), (3, 1), (3, 2), (3, 3), (3, 4), (3, 5), (3, 6), (3, 7), (3, 8), (4, 3), (4, 4), (4, 5), (4, 6), (4, 7), (4, 8), (4, 9), (4, 10), (4, 11), (6, 1), (6, 2), (6, 3), (6, 4), (6, 5), (6, 6), (6, 7), (6, 8), (6, 9), (6, 10), (6, 11), (6, 12), (6, 13), (6, 14), (6, 15), (6, 16), (6, 17), (6, 18), (6, 19), (6, 20), (6, 21), (5, 14), (5, 2), (5, 3), (5, 4), (5, 5), (4, 22), (4, 23), (5, 0), (6, 22), (6, 23), (7, 0), (7, 1), (7, 2), (9, 19), (9, 20), (5, 23), (9, 21), (8, 1), (8, 2), (8, 3), (1, 0), (4, 14), (4, 15), (4, 16), (4, 17), (4, 18), (4, 19), (4, 20), (4, 21), (5, 1), (5, 10), (5, 11), (5, 12), (5, 13), (5, 15), (5, 16), (5, 17), (5, 18), (5, 19), (9, 22), (9, 23), (10, 0), (10, 1), (10, 2), (10, 3), (10, 4), (10, 5), (10, 6), (10, 7), (10, 8), (10, 9), (10, 10), (10, 11), (10, 12), (9, 5), (9, 6), (9, 7), (10, 13), (10, 14), (10, 15), (10, 16), (10, 17), (10, 18), (10, 19), (10, 20), (10, 21), (10, 22), (10, 23), (11, 0), (12, 0), (12, 1), (12, 2), (12, 3), (12, 4), (13, 0), (13, 1), (13, 2), (13, 3), (13, 4), (14, 0), (14, 1), (14, 2), (14, 3), (14, 4), (15, 0), (15, 1), (15, 2), (15, 3), (15, 4), (15, 5), (15, 6), (15, 7), (15, 8), (16, 0), (16, 1), (17, 0), (17, 1), (17, 2)] rfl
theorem dL_holds_0 : decode cL_holds 0 = .ok (.bipush 48, 2) := by decide +kernel
theorem dL_holds_2 : decode cL_holds 2 = .ok (.newarray .int, 2) := by decide +kernel
theorem dL_holds_4 : decode cL_holds 4 = .ok (.astore_n 2, 1) := by decide +kernel
theorem dL_holds_5 : decode cL_holds 5 = .ok (.iconst 0, 1) := by decide +kernel
theorem dL_holds_6 : decode cL_holds 6 = .ok (.istore_n 3, 1) := by decide +kernel
theorem dL_holds_7 : decode cL_holds 7 = .ok (.iconst 0, 1) := by decide +kernel
theorem dL_holds_8 : decode cL_holds 8 = .ok (.istore 4, 2) := by decide +kernel
theorem dL_holds_10 : decode cL_holds 10 = .ok (.iconst 4, 1) := by decide +kernel
theorem dL_holds_11 : decode cL_holds 11 = .ok (.newarray .int, 2) := by decide +kernel
theorem dL_holds_13 : decode cL_holds 13 = .ok (.astore 5, 2) := by decide +kernel
theorem dL_holds_15 : decode cL_holds 15 = .ok (.aload_n 0, 1) := by decide +kernel
theorem dL_holds_16 : decode cL_holds 16 = .ok (.bipush 82, 2) := by decide +kernel
theorem dL_holds_18 : decode cL_holds 18 = .ok (.iconst 0, 1) := by decide +kernel
theorem dL_holds_19 : decode cL_holds 19 = .ok (.invokevirtual 27, 3) := by decide +kernel
theorem dL_holds_22 : decode cL_holds 22 = .ok (.iconst (-1), 1) := by decide +kernel
theorem dL_holds_23 : decode cL_holds 23 = .ok (.if_icmp .ne 18, 3) := by decide +kernel
theorem dL_holds_26 : decode cL_holds 26 = .ok (.aload_n 0, 1) := by decide +kernel
theorem dL_holds_27 : decode cL_holds 27 = .ok (.bipush 48, 2) := by decide +kernel
theorem dL_holds_29 : decode cL_holds 29 = .ok (.iconst 0, 1) := by decide +kernel
theorem dL_holds_30 : decode cL_holds 30 = .ok (.invokevirtual 52, 3) := by decide +kernel
theorem dL_holds_33 : decode cL_holds 33 = .ok (.iconst (-1), 1) := by decide +kernel
theorem dL_holds_34 : decode cL_holds 34 = .ok (.if_icmp .ne 7, 3) := by decide +kernel
theorem dL_holds_37 : decode cL_holds 37 = .ok (.iconst 1, 1) := by decide +kernel
theorem dL_holds_38 : decode cL_holds 38 = .ok (.goto 4, 3) := by decide +kernel
theorem dL_holds_41 : decode cL_holds 41 = .ok (.iconst 0, 1) := by decide +kernel
theorem dL_holds_42 : decode cL_holds 42 = .ok (.istore 6, 2) := by decide +kernel
theorem dL_holds_44 : decode cL_holds 44 = .ok (.iconst 0, 1) := by decide +kernel
theorem dL_holds_45 : decode cL_holds 45 = .ok (.istore 7, 2) := by decide +kernel
theorem dL_holds_47 : decode cL_holds 47 = .ok (.iload 7, 2) := by decide +kernel
theorem dL_holds_49 : decode cL_holds 49 = .ok (.bipush 82, 2) := by decide +kernel
