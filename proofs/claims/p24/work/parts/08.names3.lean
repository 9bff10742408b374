theorem dX6_count_0 : decode cX6_count 0 = .ok (.iload_n 1, 1) := by decide +kernel
theorem dX6_count_1 : decode cX6_count 1 = .ok (.tableswitch 168 0 10 #[59, 67, 75, 86, 94, 105, 116, 128, 140, 152, 160], 59) := by decide +kernel
theorem dX6_count_60 : decode cX6_count 60 = .ok (.aload_n 0, 1) := by decide +kernel
theorem dX6_count_61 : decode cX6_count 61 = .ok (.getfield 10, 3) := by decide +kernel
theorem dX6_count_64 : decode cX6_count 64 = .ok (.getfield 149, 3) := by decide +kernel
theorem dX6_count_67 : decode cX6_count 67 = .ok (.ireturn, 1) := by decide +kernel
theorem dX6_count_68 : decode cX6_count 68 = .ok (.aload_n 0, 1) := by decide +kernel
theorem dX6_count_69 : decode cX6_count 69 = .ok (.getfield 10, 3) := by decide +kernel
theorem dX6_count_72 : decode cX6_count 72 = .ok (.getfield 152, 3) := by decide +kernel
theorem dX6_count_75 : decode cX6_count 75 = .ok (.ireturn, 1) := by decide +kernel
theorem dX6_count_76 : decode cX6_count 76 = .ok (.aload_n 0, 1) := by decide +kernel
theorem dX6_count_77 : decode cX6_count 77 = .ok (.getfield 10, 3) := by decide +kernel
theorem dX6_count_80 : decode cX6_count 80 = .ok (.invokevirtual 155, 3) := by decide +kernel
theorem dX6_count_83 : decode cX6_count 83 = .ok (.invokestatic 71, 3) := by decide +kernel
theorem dX6_count_86 : decode cX6_count 86 = .ok (.ireturn, 1) := by decide +kernel
theorem dX6_count_87 : decode cX6_count 87 = .ok (.aload_n 0, 1) := by decide +kernel
theorem dX6_count_88 : decode cX6_count 88 = .ok (.getfield 10, 3) := by decide +kernel
theorem dX6_count_91 : decode cX6_count 91 = .ok (.invokevirtual 159, 3) := by decide +kernel
theorem dX6_count_94 : decode cX6_count 94 = .ok (.ireturn, 1) := by decide +kernel
theorem dX6_count_95 : decode cX6_count 95 = .ok (.aload_n 0, 1) := by decide +kernel
theorem dX6_count_96 : decode cX6_count 96 = .ok (.getfield 10, 3) := by decide +kernel
theorem dX6_count_99 : decode cX6_count 99 = .ok (.getfield 60, 3) := by decide +kernel
theorem dX6_count_102 : decode cX6_count 102 = .ok (.invokevirtual 163, 3) := by decide +kernel
theorem dX6_count_105 : decode cX6_count 105 = .ok (.ireturn, 1) := by decide +kernel
theorem dX6_count_106 : decode cX6_count 106 = .ok (.aload_n 0, 1) := by decide +kernel
theorem dX6_count_107 : decode cX6_count 107 = .ok (.getfield 10, 3) := by decide +kernel
theorem dX6_count_110 : decode cX6_count 110 = .ok (.getfield 60, 3) := by decide +kernel
theorem dX6_count_113 : decode cX6_count 113 = .ok (.invokevirtual 166, 3) := by decide +kernel
theorem dX6_count_116 : decode cX6_count 116 = .ok (.ireturn, 1) := by decide +kernel
theorem dX6_count_117 : decode cX6_count 117 = .ok (.aload_n 0, 1) := by decide +kernel
theorem dX6_count_118 : decode cX6_count 118 = .ok (.getfield 10, 3) := by decide +kernel
theorem dX6_count_121 : decode cX6_count 121 = .ok (.getfield 60, 3) := by decide +kernel
theorem dX6_count_124 : decode cX6_count 124 = .ok (.iconst 1, 1) := by decide +kernel
theorem dX6_count_125 : decode cX6_count 125 = .ok (.invokevirtual 169, 3) := by decide +kernel
theorem dX6_count_128 : decode cX6_count 128 = .ok (.ireturn, 1) := by decide +kernel
theorem dX6_count_129 : decode cX6_count 129 = .ok (.aload_n 0, 1) := by decide +kernel
theorem dX6_count_130 : decode cX6_count 130 = .ok (.getfield 10, 3) := by decide +kernel
theorem dX6_count_133 : decode cX6_count 133 = .ok (.getfield 60, 3) := by decide +kernel
theorem dX6_count_136 : decode cX6_count 136 = .ok (.iconst 2, 1) := by decide +kernel
theorem dX6_count_137 : decode cX6_count 137 = .ok (.invokevirtual 169, 3) := by decide +kernel
theorem dX6_count_140 : decode cX6_count 140 = .ok (.ireturn, 1) := by decide +kernel
theorem dX6_count_141 : decode cX6_count 141 = .ok (.aload_n 0, 1) := by decide +kernel
theorem dX6_count_142 : decode cX6_count 142 = .ok (.getfield 10, 3) := by decide +kernel
theorem dX6_count_145 : decode cX6_count 145 = .ok (.getfield 60, 3) := by decide +kernel
theorem dX6_count_148 : decode cX6_count 148 = .ok (.iconst 3, 1) := by decide +kernel
theorem dX6_count_149 : decode cX6_count 149 = .ok (.invokevirtual 169, 3) := by decide +kernel
theorem dX6_count_152 : decode cX6_count 152 = .ok (.ireturn, 1) := by decide +kernel
theorem dX6_count_153 : decode cX6_count 153 = .ok (.aload_n 0, 1) := by decide +kernel
theorem dX6_count_154 : decode cX6_count 154 = .ok (.getfield 36, 3) := by decide +kernel
theorem dX6_count_157 : decode cX6_count 157 = .ok (.getfield 172, 3) := by decide +kernel
theorem dX6_count_160 : decode cX6_count 160 = .ok (.ireturn, 1) := by decide +kernel
theorem dX6_count_161 : decode cX6_count 161 = .ok (.aload_n 0, 1) := by decide +kernel
theorem dX6_count_162 : decode cX6_count 162 = .ok (.getfield 19, 3) := by decide +kernel
theorem dX6_count_165 : decode cX6_count 165 = .ok (.getfield 175, 3) := by decide +kernel
theorem dX6_count_168 : decode cX6_count 168 = .ok (.ireturn, 1) := by decide +kernel
theorem dX6_count_169 : decode cX6_count 169 = .ok (.bipush (-2), 2) := by decide +kernel
theorem dX6_count_171 : decode cX6_count 171 = .ok (.ireturn, 1) := by decide +kernel
theorem dX6_asNumber_0 : decode cX6_asNumber 0 = .ok (.iload_n 0, 1) := by decide +kernel
theorem dX6_asNumber_1 : decode cX6_asNumber 1 = .ok (.ifCond .eq 7, 3) := by decide +kernel
theorem dX6_asNumber_4 : decode cX6_asNumber 4 = .ok (.iconst 1, 1) := by decide +kernel
theorem dX6_asNumber_5 : decode cX6_asNumber 5 = .ok (.goto 4, 3) := by decide +kernel
theorem dX6_asNumber_8 : decode cX6_asNumber 8 = .ok (.iconst 0, 1) := by decide +kernel
theorem dX6_asNumber_9 : decode cX6_asNumber 9 = .ok (.ireturn, 1) := by decide +kernel
def ch_wsX6_why : List (List Cond) := [[.code yX6_why cX6_why 2 (some .int)], wsX6_why_r1, wsX6_why_r2, wsX60, wsX10, wsX00]
set_option maxRecDepth 20000 in
theorem hf_wsX6_why : wsX6_why = (ch_wsX6_why).flatten := rfl
set_option maxRecDepth 20000 in
theorem hg_wsX6_why : (wsX6_why).all goodWord = true := by decide +kernel
set_option maxRecDepth 20000 in
theorem gX6_why_X0_isJoint : GoodIn wsX6_why (va_wsS RX6 54 yX0_isJoint wsX0_isJoint) := goodIn_c ch_wsX6_why hf_wsX6_why hg_wsX6_why _ [(1, 1), (1, 2), (1, 3), (1, 4)] rfl
set_option maxRecDepth 20000 in
theorem gX6_why_X1_whyNoSnip : GoodIn wsX6_why (wsV RX6 178 RX1 yX1_whyNoSnip wsX1_whyNoSnip) := goodIn_c ch_wsX6_why hf_wsX6_why hg_wsX6_why _ [(1, 5), (1, 6), (1, 7), (1, 8), (1, 9), (1, 10), (1, 11), (1, 12), (1, 13), (1, 8), (1, 14), (1, 15), (1, 16), (1, 17), (1, 18), (1, 3), (1, 19), (1, 20), (1, 21), (1, 22), (1, 23), (2, 0), (2, 1), (2, 2), (2, 3), (2, 4), (2, 5), (2, 6), (2, 7), (2, 8), (2, 9), (2, 10), (2, 11), (2, 12), (2, 13), (2, 14), (2, 15), (2, 16), (2, 17), (2, 18), (2, 19), (2, 20), (2, 21), (2, 22), (1, 2), (1, 4), (4, 0), (4, 1), (4, 2), (4, 3), (4, 4), (5, 0), (5, 1), (5, 2), (5, 3), (5, 4)] rfl
theorem dX6_why_0 : decode cX6_why 0 = .ok (.iload_n 1, 1) := by decide +kernel
theorem dX6_why_1 : decode cX6_why 1 = .ok (.invokestatic 54, 3) := by decide +kernel
theorem dX6_why_4 : decode cX6_why 4 = .ok (.ifCond .eq 14, 3) := by decide +kernel
theorem dX6_why_7 : decode cX6_why 7 = .ok (.aload_n 0, 1) := by decide +kernel
theorem dX6_why_8 : decode cX6_why 8 = .ok (.getfield 10, 3) := by decide +kernel
theorem dX6_why_11 : decode cX6_why 11 = .ok (.iload_n 1, 1) := by decide +kernel
theorem dX6_why_12 : decode cX6_why 12 = .ok (.invokevirtual 178, 3) := by decide +kernel
theorem dX6_why_15 : decode cX6_why 15 = .ok (.goto 4, 3) := by decide +kernel
theorem dX6_why_18 : decode cX6_why 18 = .ok (.iconst (-1), 1) := by decide +kernel
theorem dX6_why_19 : decode cX6_why 19 = .ok (.ireturn, 1) := by decide +kernel
def ch_wsX6_ifSnipped : List (List Cond) := [[.code yX6_ifSnipped cX6_ifSnipped 2 (some .int)], wsX6_ifSnipped_r1, wsX6_ifSnipped_r2, wsX6_ifSnipped_r3, wsX60, wsX10, wsX00]
set_option maxRecDepth 20000 in
theorem hf_wsX6_ifSnipped : wsX6_ifSnipped = (ch_wsX6_ifSnipped).flatten := rfl
set_option maxRecDepth 20000 in
theorem hg_wsX6_ifSnipped : (wsX6_ifSnipped).all goodWord = true := by decide +kernel
set_option maxRecDepth 20000 in
theorem gX6_ifSnipped_X0_isJoint : GoodIn wsX6_ifSnipped (va_wsS RX6 54 yX0_isJoint wsX0_isJoint) := goodIn_c ch_wsX6_ifSnipped hf_wsX6_ifSnipped hg_wsX6_ifSnipped _ [(1, 2), (1, 3), (1, 4), (1, 5)] rfl
set_option maxRecDepth 20000 in
theorem gX6_ifSnipped_X1_whyNoSnip : GoodIn wsX6_ifSnipped (wsV RX6 178 RX1 yX1_whyNoSnip wsX1_whyNoSnip) := goodIn_c ch_wsX6_ifSnipped hf_wsX6_ifSnipped hg_wsX6_ifSnipped _ [(1, 6), (1, 7), (1, 8), (1, 9), (1, 10), (1, 11), (1, 12), (1, 13), (1, 14), (1, 9), (1, 15), (1, 16), (1, 17), (1, 18), (1, 19), (1, 4), (1, 20), (1, 21), (1, 22), (1, 23), (2, 0), (2, 1), (2, 2), (2, 3), (2, 4), (2, 5), (2, 6), (2, 7), (2, 8), (2, 9), (2, 10), (2, 11), (2, 12), (2, 13), (2, 14), (2, 15), (2, 16), (2, 17), (2, 18), (2, 19), (2, 20), (2, 21), (2, 22), (2, 23), (1, 3), (1, 5), (5, 0), (5, 1), (5, 2), (5, 3), (5, 4), (6, 0), (6, 1), (6, 2), (6, 3), (6, 4)] rfl
set_option maxRecDepth 20000 in
theorem gX6_ifSnipped_X0_ragOf : GoodIn wsX6_ifSnipped (wsV RX6 181 RX0 yX0_ragOf wsX0_ragOf) := goodIn_c ch_wsX6_ifSnipped hf_wsX6_ifSnipped hg_wsX6_ifSnipped _ [(3, 0), (3, 1), (3, 2), (1, 4), (3, 3), (3, 4), (3, 5), (3, 6), (2, 12), (2, 13), (1, 4), (2, 14), (2, 9), (2, 10), (2, 11), (3, 7), (3, 8), (3, 9), (3, 10), (3, 11), (3, 12), (2, 15), (2, 16), (2, 17), (1, 22), (1, 23), (2, 0), (2, 1), (2, 2), (2, 3), (2, 4), (6, 0), (6, 1), (6, 2), (6, 3), (6, 4)] rfl
set_option maxRecDepth 20000 in
theorem gX6_ifSnipped_J13_bitCount_95d88 : GoodIn wsX6_ifSnipped (va_wsS RX6 100 yJ13_bitCount_95d88 wsJ13_bitCount_95d88) := goodIn_c ch_wsX6_ifSnipped hf_wsX6_ifSnipped hg_wsX6_ifSnipped _ [(3, 13), (1, 23), (2, 0), (2, 1), (2, 2), (2, 3), (2, 4)] rfl
theorem dX6_ifSnipped_0 : decode cX6_ifSnipped 0 = .ok (.iload_n 1, 1) := by decide +kernel
theorem dX6_ifSnipped_1 : decode cX6_ifSnipped 1 = .ok (.invokestatic 54, 3) := by decide +kernel
theorem dX6_ifSnipped_4 : decode cX6_ifSnipped 4 = .ok (.ifCond .ne 5, 3) := by decide +kernel
theorem dX6_ifSnipped_7 : decode cX6_ifSnipped 7 = .ok (.iconst (-1), 1) := by decide +kernel
theorem dX6_ifSnipped_8 : decode cX6_ifSnipped 8 = .ok (.ireturn, 1) := by decide +kernel
theorem dX6_ifSnipped_9 : decode cX6_ifSnipped 9 = .ok (.aload_n 0, 1) := by decide +kernel
theorem dX6_ifSnipped_10 : decode cX6_ifSnipped 10 = .ok (.getfield 10, 3) := by decide +kernel
theorem dX6_ifSnipped_13 : decode cX6_ifSnipped 13 = .ok (.iload_n 1, 1) := by decide +kernel
theorem dX6_ifSnipped_14 : decode cX6_ifSnipped 14 = .ok (.invokevirtual 178, 3) := by decide +kernel
theorem dX6_ifSnipped_17 : decode cX6_ifSnipped 17 = .ok (.ifCond .eq 6, 3) := by decide +kernel
theorem dX6_ifSnipped_20 : decode cX6_ifSnipped 20 = .ok (.bipush (-5), 2) := by decide +kernel
theorem dX6_ifSnipped_22 : decode cX6_ifSnipped 22 = .ok (.ireturn, 1) := by decide +kernel
theorem dX6_ifSnipped_23 : decode cX6_ifSnipped 23 = .ok (.aload_n 0, 1) := by decide +kernel
theorem dX6_ifSnipped_24 : decode cX6_ifSnipped 24 = .ok (.getfield 10, 3) := by decide +kernel
theorem dX6_ifSnipped_27 : decode cX6_ifSnipped 27 = .ok (.getfield 60, 3) := by decide +kernel
theorem dX6_ifSnipped_30 : decode cX6_ifSnipped 30 = .ok (.iload_n 1, 1) := by decide +kernel
theorem dX6_ifSnipped_31 : decode cX6_ifSnipped 31 = .ok (.invokevirtual 181, 3) := by decide +kernel
theorem dX6_ifSnipped_34 : decode cX6_ifSnipped 34 = .ok (.invokestatic 100, 3) := by decide +kernel
theorem dX6_ifSnipped_37 : decode cX6_ifSnipped 37 = .ok (.ireturn, 1) := by decide +kernel
def ch_wsX6_bestSnip : List (List Cond) := [[.code yX6_bestSnip cX6_bestSnip 3 (some .int)], wsX6_bestSnip_r1, wsX6_bestSnip_r2, wsX6_bestSnip_r3, wsX6_bestSnip_r4, wsX60, wsX10, wsX00, wsX50]
set_option maxRecDepth 20000 in
theorem hf_wsX6_bestSnip : wsX6_bestSnip = (ch_wsX6_bestSnip).flatten := rfl
set_option maxRecDepth 20000 in
theorem hg_wsX6_bestSnip : (wsX6_bestSnip).all goodWord = true := by decide +kernel
set_option maxRecDepth 20000 in
theorem gX6_bestSnip_X1_bestJoint : GoodIn wsX6_bestSnip (wsV RX6 184 RX1 yX1_bestJoint wsX1_bestJoint) := goodIn_c ch_wsX6_bestSnip hf_wsX6_bestSnip hg_wsX6_bestSnip _ [(1, 1), (1, 2), (1, 3), (1, 4), (1, 5), (1, 6), (1, 7), (1, 8), (1, 4), (1, 9), (1, 10), (1, 11), (1, 12), (1, 13), (1, 14), (1, 15), (1, 16), (1, 17), (1, 18), (1, 19), (1, 20), (1, 21), (1, 22), (1, 23), (2, 0), (2, 1), (2, 2), (2, 3), (2, 4), (2, 5), (2, 6), (2, 7), (2, 8), (2, 9), (2, 10), (2, 11), (2, 12), (2, 13), (2, 14), (2, 15), (2, 16), (2, 17), (2, 18), (2, 19), (2, 20), (2, 21), (2, 22), (2, 23), (3, 0), (3, 1), (3, 2), (3, 3), (3, 4), (3, 5), (3, 6), (3, 7), (3, 8), (3, 9), (3, 10), (3, 11), (3, 12), (3, 13), (3, 14), (3, 15), (3, 16), (3, 17), (3, 18), (3, 19), (3, 20), (3, 21), (3, 22), (3, 23), (4, 0), (4, 1), (4, 2), (4, 3), (4, 4), (4, 5), (4, 6), (4, 7), (4, 8), (4, 9), (6, 0), (6, 1), (6, 2), (6, 3), (6, 4), (7, 0), (7, 1), (7, 2), (7, 3), (7, 4), (8, 0), (8, 1), (8, 2), (8, 3), (8, 4), (8, 5), (8, 6), (8, 7), (8, 8)] rfl
set_option maxRecDepth 20000 in
theorem gX6_bestSnip_X1_openGain : GoodIn wsX6_bestSnip (wsV RX6 187 RX1 yX1_openGain wsX1_openGain) := goodIn_c ch_wsX6_bestSnip hf_wsX6_bestSnip hg_wsX6_bestSnip _ [(4, 10), (3, 3), (3, 4), (1, 4), (3, 5), (3, 6), (1, 10), (3, 7), (3, 8), (3, 9), (1, 4), (3, 10), (3, 11), (3, 12), (3, 13), (3, 14), (3, 15), (3, 16), (3, 17), (3, 18), (3, 19), (3, 20), (3, 21), (3, 22), (1, 19), (3, 23), (4, 0), (4, 1), (4, 2), (2, 12), (2, 13), (2, 14), (2, 9), (2, 10), (2, 11), (4, 3), (4, 4), (4, 5), (4, 6), (4, 7), (4, 8), (2, 15), (2, 16), (2, 17), (1, 22), (1, 23), (2, 0), (2, 1), (2, 2), (2, 3), (2, 4), (4, 9), (6, 0), (6, 1), (6, 2), (6, 3), (6, 4), (8, 0), (8, 1), (8, 2), (8, 3), (8, 4), (8, 5), (8, 6), (8, 7), (8, 8), (7, 0), (7, 1), (7, 2), (7, 3), (7, 4)] rfl
theorem dX6_bestSnip_0 : decode cX6_bestSnip 0 = .ok (.iload_n 1, 1) := by decide +kernel
theorem dX6_bestSnip_1 : decode cX6_bestSnip 1 = .ok (.ifCond .eq 11, 3) := by decide +kernel
theorem dX6_bestSnip_4 : decode cX6_bestSnip 4 = .ok (.iload_n 1, 1) := by decide +kernel
theorem dX6_bestSnip_5 : decode cX6_bestSnip 5 = .ok (.iconst 1, 1) := by decide +kernel
theorem dX6_bestSnip_6 : decode cX6_bestSnip 6 = .ok (.if_icmp .eq 6, 3) := by decide +kernel
theorem dX6_bestSnip_9 : decode cX6_bestSnip 9 = .ok (.bipush (-2), 2) := by decide +kernel
theorem dX6_bestSnip_11 : decode cX6_bestSnip 11 = .ok (.ireturn, 1) := by decide +kernel
theorem dX6_bestSnip_12 : decode cX6_bestSnip 12 = .ok (.aload_n 0, 1) := by decide +kernel
theorem dX6_bestSnip_13 : decode cX6_bestSnip 13 = .ok (.getfield 10, 3) := by decide +kernel
theorem dX6_bestSnip_16 : decode cX6_bestSnip 16 = .ok (.invokevirtual 184, 3) := by decide +kernel
theorem dX6_bestSnip_19 : decode cX6_bestSnip 19 = .ok (.istore_n 2, 1) := by decide +kernel
theorem dX6_bestSnip_20 : decode cX6_bestSnip 20 = .ok (.iload_n 1, 1) := by decide +kernel
theorem dX6_bestSnip_21 : decode cX6_bestSnip 21 = .ok (.ifCond .eq 9, 3) := by decide +kernel
theorem dX6_bestSnip_24 : decode cX6_bestSnip 24 = .ok (.iload_n 2, 1) := by decide +kernel
theorem dX6_bestSnip_25 : decode cX6_bestSnip 25 = .ok (.bipush (-6), 2) := by decide +kernel
theorem dX6_bestSnip_27 : decode cX6_bestSnip 27 = .ok (.if_icmp .ne 7, 3) := by decide +kernel
theorem dX6_bestSnip_30 : decode cX6_bestSnip 30 = .ok (.iload_n 2, 1) := by decide +kernel
theorem dX6_bestSnip_31 : decode cX6_bestSnip 31 = .ok (.goto 11, 3) := by decide +kernel
theorem dX6_bestSnip_34 : decode cX6_bestSnip 34 = .ok (.aload_n 0, 1) := by decide +kernel
theorem dX6_bestSnip_35 : decode cX6_bestSnip 35 = .ok (.getfield 10, 3) := by decide +kernel
theorem dX6_bestSnip_38 : decode cX6_bestSnip 38 = .ok (.iload_n 2, 1) := by decide +kernel
theorem dX6_bestSnip_39 : decode cX6_bestSnip 39 = .ok (.invokevirtual 187, 3) := by decide +kernel
theorem dX6_bestSnip_42 : decode cX6_bestSnip 42 = .ok (.ireturn, 1) := by decide +kernel
def ch_wsX6_weak : List (List Cond) := [[.code yX6_weak cX6_weak 1 (some .int)], wsX6_weak_r1, wsX6_weak_r2, wsX6_weak_r3, wsX60, wsX10, wsX00]
set_option maxRecDepth 20000 in
theorem hf_wsX6_weak : wsX6_weak = (ch_wsX6_weak).flatten := rfl
set_option maxRecDepth 20000 in
theorem hg_wsX6_weak : (wsX6_weak).all goodWord = true := by decide +kernel
set_option maxRecDepth 20000 in
theorem gX6_weak_X1_isOver : GoodIn wsX6_weak (wsV RX6 155 RX1 yX1_isOver wsX1_isOver) := goodIn_c ch_wsX6_weak hf_wsX6_weak hg_wsX6_weak _ [(1, 2), (1, 3), (1, 4), (1, 5), (1, 6), (1, 7), (1, 8), (1, 9), (1, 10), (1, 11), (1, 12), (1, 13), (1, 14), (1, 15), (1, 16), (1, 17), (1, 18), (1, 19), (1, 20), (1, 21), (5, 0), (5, 1), (5, 2), (5, 3), (5, 4), (6, 0), (6, 1), (6, 2), (6, 3), (6, 4)] rfl
set_option maxRecDepth 20000 in
theorem gX6_weak_X0_weakJoints : GoodIn wsX6_weak (wsV RX6 190 RX0 yX0_weakJoints wsX0_weakJoints) := goodIn_c ch_wsX6_weak hf_wsX6_weak hg_wsX6_weak _ [(1, 22), (1, 23), (2, 0), (1, 12), (2, 1), (2, 2), (2, 3), (2, 4), (1, 12), (2, 5), (2, 6), (2, 7), (2, 8), (2, 9), (2, 10), (2, 11), (2, 12), (2, 13), (2, 14), (2, 15), (2, 16), (2, 17), (2, 18), (2, 19), (2, 20), (2, 21), (2, 22), (2, 23), (3, 0), (3, 1), (3, 2), (3, 3), (1, 15), (1, 16), (1, 17), (1, 18), (1, 19), (1, 20), (1, 21), (6, 0), (6, 1), (6, 2), (6, 3), (6, 4)] rfl
theorem dX6_weak_0 : decode cX6_weak 0 = .ok (.aload_n 0, 1) := by decide +kernel
theorem dX6_weak_1 : decode cX6_weak 1 = .ok (.getfield 10, 3) := by decide +kernel
theorem dX6_weak_4 : decode cX6_weak 4 = .ok (.invokevirtual 155, 3) := by decide +kernel
theorem dX6_weak_7 : decode cX6_weak 7 = .ok (.ifCond .eq 7, 3) := by decide +kernel
theorem dX6_weak_10 : decode cX6_weak 10 = .ok (.iconst 0, 1) := by decide +kernel
theorem dX6_weak_11 : decode cX6_weak 11 = .ok (.goto 13, 3) := by decide +kernel
theorem dX6_weak_14 : decode cX6_weak 14 = .ok (.aload_n 0, 1) := by decide +kernel
theorem dX6_weak_15 : decode cX6_weak 15 = .ok (.getfield 10, 3) := by decide +kernel
theorem dX6_weak_18 : decode cX6_weak 18 = .ok (.getfield 60, 3) := by decide +kernel
theorem dX6_weak_21 : decode cX6_weak 21 = .ok (.invokevirtual 190, 3) := by decide +kernel
theorem dX6_weak_24 : decode cX6_weak 24 = .ok (.ireturn, 1) := by decide +kernel
def ch_wsX6_together : List (List Cond) := [[.code yX6_together cX6_together 6 (some .int)], wsX6_together_r1, wsX6_together_r2, wsX60, wsX10, wsX00]
set_option maxRecDepth 20000 in
theorem hf_wsX6_together : wsX6_together = (ch_wsX6_together).flatten := rfl
set_option maxRecDepth 20000 in
theorem hg_wsX6_together : (wsX6_together).all goodWord = true := by decide +kernel
set_option maxRecDepth 20000 in
theorem gX6_together_X0_isCell : GoodIn wsX6_together (va_wsS RX6 90 yX0_isCell wsX0_isCell) := goodIn_c ch_wsX6_together hf_wsX6_together hg_wsX6_together _ [(1, 2), (1, 3), (1, 4), (1, 5)] rfl
set_option maxRecDepth 20000 in
theorem gX6_together_X0_isGone : GoodIn wsX6_together (wsV RX6 93 RX0 yX0_isGone wsX0_isGone) := goodIn_c ch_wsX6_together hf_wsX6_together hg_wsX6_together _ [(1, 6), (1, 7), (1, 8), (1, 4), (1, 9), (1, 10), (1, 11), (1, 12), (1, 4), (1, 13), (5, 0), (5, 1), (5, 2), (5, 3), (5, 4)] rfl
set_option maxRecDepth 20000 in
theorem gX6_together_X0_pieceOf : GoodIn wsX6_together (wsV RX6 96 RX0 yX0_pieceOf wsX0_pieceOf) := goodIn_c ch_wsX6_together hf_wsX6_together hg_wsX6_together _ [(1, 14), (1, 15), (1, 16), (1, 4), (1, 17), (1, 18), (1, 19), (1, 20), (1, 7), (1, 8), (1, 4), (1, 9), (1, 10), (1, 11), (1, 12), (1, 13), (1, 21), (1, 22), (1, 23), (5, 0), (5, 1), (5, 2), (5, 3), (5, 4)] rfl
set_option maxRecDepth 20000 in
theorem gX6_together_X0_pieceIfBluffedHeld : GoodIn wsX6_together (wsV RX6 193 RX0 yX0_pieceIfBluffedHeld wsX0_pieceIfBluffedHeld) := goodIn_c ch_wsX6_together hf_wsX6_together hg_wsX6_together _ [(2, 0), (2, 1), (2, 2), (1, 4), (2, 3), (1, 18), (1, 19), (2, 4), (2, 5), (2, 6), (2, 7), (1, 4), (2, 8), (1, 10), (2, 9), (2, 10), (2, 11), (2, 12), (2, 13), (2, 14), (1, 11), (1, 12), (1, 13), (1, 21), (1, 22), (1, 23), (5, 0), (5, 1), (5, 2), (5, 3), (5, 4)] rfl
set_option maxRecDepth 20000 in
theorem gX6_together_X0_has : GoodIn wsX6_together (va_wsS RX6 196 yX0_has wsX0_has) := goodIn_c ch_wsX6_together hf_wsX6_together hg_wsX6_together _ [(2, 15), (1, 12), (1, 4), (1, 13)] rfl
set_option maxRecDepth 20000 in
theorem gX6_together_X6_asNumber : GoodIn wsX6_together (va_wsS RX6 71 yX6_asNumber wsX6_asNumber) := goodIn_c ch_wsX6_together hf_wsX6_together hg_wsX6_together _ [(2, 16), (2, 17), (2, 18), (2, 19)] rfl
theorem dX6_together_0 : decode cX6_together 0 = .ok (.iload_n 1, 1) := by decide +kernel
theorem dX6_together_1 : decode cX6_together 1 = .ok (.invokestatic 90, 3) := by decide +kernel
theorem dX6_together_4 : decode cX6_together 4 = .ok (.ifCond .eq 10, 3) := by decide +kernel
theorem dX6_together_7 : decode cX6_together 7 = .ok (.iload_n 2, 1) := by decide +kernel
theorem dX6_together_8 : decode cX6_together 8 = .ok (.invokestatic 90, 3) := by decide +kernel
theorem dX6_together_11 : decode cX6_together 11 = .ok (.ifCond .ne 5, 3) := by decide +kernel
theorem dX6_together_14 : decode cX6_together 14 = .ok (.iconst (-1), 1) := by decide +kernel
theorem dX6_together_15 : decode cX6_together 15 = .ok (.ireturn, 1) := by decide +kernel
theorem dX6_together_16 : decode cX6_together 16 = .ok (.iload_n 3, 1) := by decide +kernel
theorem dX6_together_17 : decode cX6_together 17 = .ok (.ifCond .eq 11, 3) := by decide +kernel
theorem dX6_together_20 : decode cX6_together 20 = .ok (.iload_n 3, 1) := by decide +kernel
theorem dX6_together_21 : decode cX6_together 21 = .ok (.iconst 1, 1) := by decide +kernel
theorem dX6_together_22 : decode cX6_together 22 = .ok (.if_icmp .eq 6, 3) := by decide +kernel
theorem dX6_together_25 : decode cX6_together 25 = .ok (.bipush (-2), 2) := by decide +kernel
theorem dX6_together_27 : decode cX6_together 27 = .ok (.ireturn, 1) := by decide +kernel
theorem dX6_together_28 : decode cX6_together 28 = .ok (.aload_n 0, 1) := by decide +kernel
theorem dX6_together_29 : decode cX6_together 29 = .ok (.getfield 10, 3) := by decide +kernel
theorem dX6_together_32 : decode cX6_together 32 = .ok (.getfield 60, 3) := by decide +kernel
theorem dX6_together_35 : decode cX6_together 35 = .ok (.iload_n 1, 1) := by decide +kernel
theorem dX6_together_36 : decode cX6_together 36 = .ok (.invokevirtual 93, 3) := by decide +kernel
theorem dX6_together_39 : decode cX6_together 39 = .ok (.ifCond .ne 17, 3) := by decide +kernel
theorem dX6_together_42 : decode cX6_together 42 = .ok (.aload_n 0, 1) := by decide +kernel
theorem dX6_together_43 : decode cX6_together 43 = .ok (.getfield 10, 3) := by decide +kernel
theorem dX6_together_46 : decode cX6_together 46 = .ok (.getfield 60, 3) := by decide +kernel
theorem dX6_together_49 : decode cX6_together 49 = .ok (.iload_n 2, 1) := by decide +kernel
theorem dX6_together_50 : decode cX6_together 50 = .ok (.invokevirtual 93, 3) := by decide +kernel
theorem dX6_together_53 : decode cX6_together 53 = .ok (.ifCond .eq 6, 3) := by decide +kernel
theorem dX6_together_56 : decode cX6_together 56 = .ok (.bipush (-5), 2) := by decide +kernel
theorem dX6_together_58 : decode cX6_together 58 = .ok (.ireturn, 1) := by decide +kernel
theorem dX6_together_59 : decode cX6_together 59 = .ok (.iload_n 3, 1) := by decide +kernel
theorem dX6_together_60 : decode cX6_together 60 = .ok (.ifCond .ne 17, 3) := by decide +kernel
theorem dX6_together_63 : decode cX6_together 63 = .ok (.aload_n 0, 1) := by decide +kernel
theorem dX6_together_64 : decode cX6_together 64 = .ok (.getfield 10, 3) := by decide +kernel
theorem dX6_together_67 : decode cX6_together 67 = .ok (.getfield 60, 3) := by decide +kernel
theorem dX6_together_70 : decode cX6_together 70 = .ok (.iload_n 1, 1) := by decide +kernel
theorem dX6_together_71 : decode cX6_together 71 = .ok (.invokevirtual 96, 3) := by decide +kernel
theorem dX6_together_74 : decode cX6_together 74 = .ok (.goto 14, 3) := by decide +kernel
theorem dX6_together_77 : decode cX6_together 77 = .ok (.aload_n 0, 1) := by decide +kernel
theorem dX6_together_78 : decode cX6_together 78 = .ok (.getfield 10, 3) := by decide +kernel
theorem dX6_together_81 : decode cX6_together 81 = .ok (.getfield 60, 3) := by decide +kernel
theorem dX6_together_84 : decode cX6_together 84 = .ok (.iload_n 1, 1) := by decide +kernel
theorem dX6_together_85 : decode cX6_together 85 = .ok (.invokevirtual 193, 3) := by decide +kernel
theorem dX6_together_88 : decode cX6_together 88 = .ok (.lstore 4, 2) := by decide +kernel
theorem dX6_together_90 : decode cX6_together 90 = .ok (.lload 4, 2) := by decide +kernel
theorem dX6_together_92 : decode cX6_together 92 = .ok (.iload_n 2, 1) := by decide +kernel
theorem dX6_together_93 : decode cX6_together 93 = .ok (.invokestatic 196, 3) := by decide +kernel
theorem dX6_together_96 : decode cX6_together 96 = .ok (.invokestatic 71, 3) := by decide +kernel
theorem dX6_together_99 : decode cX6_together 99 = .ok (.ireturn, 1) := by decide +kernel
def ch_wsX6_put : List (List Cond) := [[.code yX6_put cX6_put 3 (some .int)], [.fieldLink RX6 36 "TailorChalks" "pad" "LTailorChalks$Pad;", .methodLink RX6 200 yX3_append, .instanceMethod yX3_append, .selects RX3 yX3_append yX3_append, .initialized RX3, .code yX3_append cX3_append 5 (some .int), .fieldLink RX3 19 "TailorChalks$Pad" "length" "I", .fieldLink RX3 11 "TailorChalks$Pad" "signs" "[C", .constantLong RX3 23 (255), .methodLink RX3 15 yX3_charactersIn, .static yX3_charactersIn, .code yX3_charactersIn cX3_charactersIn 7 (some .int), .constantLong RX3 25 (33), .constantLong RX3 27 (126)], wsX60, wsX30]
set_option maxRecDepth 20000 in
theorem hf_wsX6_put : wsX6_put = (ch_wsX6_put).flatten := rfl
set_option maxRecDepth 20000 in
theorem hg_wsX6_put : (wsX6_put).all goodWord = true := by decide +kernel
set_option maxRecDepth 20000 in
theorem gX6_put_X3_append : GoodIn wsX6_put (wsV RX6 200 RX3 yX3_append wsX3_append) := goodIn_c ch_wsX6_put hf_wsX6_put hg_wsX6_put _ [(1, 1), (1, 2), (1, 3), (1, 4), (1, 5), (1, 6), (1, 7), (1, 8), (1, 9), (1, 10), (1, 4), (1, 11), (1, 12), (1, 13), (3, 0), (3, 1)] rfl
theorem dX6_put_0 : decode cX6_put 0 = .ok (.aload_n 0, 1) := by decide +kernel
theorem dX6_put_1 : decode cX6_put 1 = .ok (.getfield 36, 3) := by decide +kernel
theorem dX6_put_4 : decode cX6_put 4 = .ok (.lload_n 1, 1) := by decide +kernel
theorem dX6_put_5 : decode cX6_put 5 = .ok (.invokevirtual 200, 3) := by decide +kernel
theorem dX6_put_8 : decode cX6_put 8 = .ok (.ireturn, 1) := by decide +kernel
def ch_wsX6_wipe : List (List Cond) := [[.code yX6_wipe cX6_wipe 1 (some .int)], [.fieldLink RX6 36 "TailorChalks" "pad" "LTailorChalks$Pad;", .methodLink RX6 203 yX3_clear, .instanceMethod yX3_clear, .selects RX3 yX3_clear yX3_clear, .initialized RX3, .code yX3_clear cX3_clear 2 (some .int), .fieldLink RX3 19 "TailorChalks$Pad" "length" "I"], wsX60, wsX30]
set_option maxRecDepth 20000 in
theorem hf_wsX6_wipe : wsX6_wipe = (ch_wsX6_wipe).flatten := rfl
set_option maxRecDepth 20000 in
theorem hg_wsX6_wipe : (wsX6_wipe).all goodWord = true := by decide +kernel
set_option maxRecDepth 20000 in
theorem gX6_wipe_X3_clear : GoodIn wsX6_wipe (wsV RX6 203 RX3 yX3_clear wsX3_clear) := goodIn_c ch_wsX6_wipe hf_wsX6_wipe hg_wsX6_wipe _ [(1, 1), (1, 2), (1, 3), (1, 4), (1, 5), (1, 6), (3, 0), (3, 1)] rfl
theorem dX6_wipe_0 : decode cX6_wipe 0 = .ok (.aload_n 0, 1) := by decide +kernel
theorem dX6_wipe_1 : decode cX6_wipe 1 = .ok (.getfield 36, 3) := by decide +kernel
theorem dX6_wipe_4 : decode cX6_wipe 4 = .ok (.invokevirtual 203, 3) := by decide +kernel
theorem dX6_wipe_7 : decode cX6_wipe 7 = .ok (.ireturn, 1) := by decide +kernel
def ch_wsX6_fault : List (List Cond) := [[.code yX6_fault cX6_fault 1 (some .int)], [.fieldLink RX6 36 "TailorChalks" "pad" "LTailorChalks$Pad;", .methodLink RX6 206 yX3_firstFault, .instanceMethod yX3_firstFault, .selects RX3 yX3_firstFault yX3_firstFault, .initialized RX3, .code yX3_firstFault cX3_firstFault 3 (some .int), .fieldLink RX3 19 "TailorChalks$Pad" "length" "I", .fieldLink RX3 11 "TailorChalks$Pad" "signs" "[C", .methodLink RX3 29 yX3_placeBehind, .static yX3_placeBehind, .code yX3_placeBehind cX3_placeBehind 3 (some .int), .methodLink RX3 33 yX3_placeBehindOrder, .static yX3_placeBehindOrder, .code yX3_placeBehindOrder cX3_placeBehindOrder 1 (some .int), .methodLink RX3 37 yX3_isDigit, .static yX3_isDigit, .code yX3_isDigit cX3_isDigit 1 (some .boolean)], wsX60, wsX30]
set_option maxRecDepth 20000 in
theorem hf_wsX6_fault : wsX6_fault = (ch_wsX6_fault).flatten := rfl
set_option maxRecDepth 20000 in
theorem hg_wsX6_fault : (wsX6_fault).all goodWord = true := by decide +kernel
set_option maxRecDepth 20000 in
theorem gX6_fault_X3_firstFault : GoodIn wsX6_fault (wsV RX6 206 RX3 yX3_firstFault wsX3_firstFault) := goodIn_c ch_wsX6_fault hf_wsX6_fault hg_wsX6_fault _ [(1, 1), (1, 2), (1, 3), (1, 4), (1, 5), (1, 6), (1, 7), (1, 8), (1, 9), (1, 4), (1, 10), (1, 11), (1, 12), (1, 13), (1, 14), (1, 15), (1, 16), (3, 0), (3, 1)] rfl
theorem dX6_fault_0 : decode cX6_fault 0 = .ok (.aload_n 0, 1) := by decide +kernel
theorem dX6_fault_1 : decode cX6_fault 1 = .ok (.getfield 36, 3) := by decide +kernel
theorem dX6_fault_4 : decode cX6_fault 4 = .ok (.invokevirtual 206, 3) := by decide +kernel
theorem dX6_fault_7 : decode cX6_fault 7 = .ok (.ireturn, 1) := by decide +kernel
def ch_wsX6_carryOut : List (List Cond) := [[.code yX6_carryOut cX6_carryOut 2 (some .int)], wsX6_carryOut_r1, wsX6_carryOut_r2, wsX6_carryOut_r3, wsX6_carryOut_r4, wsX6_carryOut_r5, wsX6_carryOut_r6, wsX6_carryOut_r7, wsX6_carryOut_r8, wsX6_carryOut_r9, wsX6_carryOut_r10, wsX60, wsX30, wsX20, wsX10, wsX00, wsX50]
set_option maxRecDepth 20000 in
theorem hf_wsX6_carryOut : wsX6_carryOut = (ch_wsX6_carryOut).flatten := rfl
set_option maxRecDepth 20000 in
theorem hg_wsX6_carryOut : (wsX6_carryOut).all goodWord = true := by decide +kernel
set_option maxRecDepth 20000 in
theorem gX6_carryOut_X3_firstFault : GoodIn wsX6_carryOut (wsV RX6 206 RX3 yX3_firstFault wsX3_firstFault) := goodIn_c ch_wsX6_carryOut hf_wsX6_carryOut hg_wsX6_carryOut _ [(1, 3), (1, 4), (1, 5), (1, 6), (1, 7), (1, 8), (1, 9), (1, 10), (1, 11), (1, 6), (1, 12), (1, 13), (1, 14), (1, 15), (1, 16), (1, 17), (1, 18), (12, 0), (12, 1)] rfl
set_option maxRecDepth 20000 in
theorem gX6_carryOut_X2_note : GoodIn wsX6_carryOut (wsV RX6 44 RX2 yX2_note wsX2_note) := goodIn_c ch_wsX6_carryOut hf_wsX6_carryOut hg_wsX6_carryOut _ [(1, 19), (1, 20), (1, 21), (1, 22), (1, 23), (2, 0), (2, 1), (2, 2), (2, 3), (2, 4), (2, 5), (2, 6), (2, 7), (2, 8), (2, 9), (2, 10), (2, 11), (2, 12), (2, 13), (2, 14), (2, 15), (2, 16), (2, 17), (2, 18), (2, 19), (2, 20), (2, 21), (2, 22), (2, 23), (3, 0), (3, 1), (3, 2), (3, 3), (3, 4), (3, 5), (3, 6), (3, 7), (3, 8), (3, 9), (3, 10), (13, 0), (13, 1), (13, 2), (14, 0), (14, 1), (14, 2), (14, 3), (14, 4), (15, 0), (15, 1), (15, 2), (15, 3), (15, 4), (16, 0), (16, 1), (16, 2), (16, 3), (16, 4), (16, 5), (16, 6), (16, 7), (16, 8)] rfl
set_option maxRecDepth 20000 in
theorem gX6_carryOut_X2_keepNoted : GoodIn wsX6_carryOut (wsV RX6 51 RX2 yX2_keepNoted wsX2_keepNoted) := goodIn_c ch_wsX6_carryOut hf_wsX6_carryOut hg_wsX6_carryOut _ [(3, 11), (3, 12), (3, 13), (1, 22), (3, 14), (3, 15), (3, 16), (2, 0), (3, 17), (3, 18), (3, 19), (1, 22), (3, 20), (13, 0), (13, 1), (13, 2)] rfl
set_option maxRecDepth 20000 in
theorem gX6_carryOut_X6_obeyPad : GoodIn wsX6_carryOut (wsV RX6 209 RX6 yX6_obeyPad wsX6_obeyPad) := goodIn_c ch_wsX6_carryOut hf_wsX6_carryOut hg_wsX6_carryOut _ [(3, 21), (3, 22), (3, 23), (4, 0), (4, 1), (1, 0), (4, 2), (1, 2), (4, 3), (4, 4), (4, 5), (1, 6), (4, 6), (1, 8), (1, 9), (4, 7), (4, 8), (4, 9), (2, 4), (4, 10), (2, 6), (4, 11), (4, 12), (4, 13), (4, 14), (2, 9), (4, 15), (4, 16), (4, 17), (4, 18), (2, 10), (4, 19), (4, 20), (4, 21), (2, 14), (4, 22), (2, 18), (4, 23), (5, 0), (5, 1), (5, 2), (5, 3), (5, 4), (5, 5), (5, 6), (5, 7), (5, 8), (5, 9), (5, 10), (5, 11), (5, 12), (5, 13), (5, 14), (5, 15), (5, 16), (5, 17), (5, 18), (5, 19), (5, 20), (5, 21), (5, 22), (5, 23), (6, 0), (6, 1), (6, 2), (6, 3), (6, 4), (6, 5), (6, 6), (6, 7), (6, 8), (6, 9), (6, 10), (2, 7), (2, 8), (6, 11), (6, 12), (6, 13), (6, 14), (2, 20), (2, 19), (6, 15), (6, 16), (6, 17), (3, 0), (6, 18), (3, 3), (3, 2), (6, 19), (6, 20), (6, 21), (6, 22), (6, 23), (7, 0), (7, 1), (7, 2), (7, 3), (7, 4), (7, 5), (7, 6), (7, 7), (7, 8), (7, 9), (7, 10), (2, 16), (7, 11), (7, 12), (7, 13), (7, 14), (7, 15), (7, 16), (7, 17), (7, 18), (7, 19), (7, 20), (7, 21), (7, 22), (7, 23), (8, 0), (8, 1), (8, 2), (8, 3), (8, 4), (8, 5), (8, 6), (8, 7), (8, 8), (8, 9), (8, 10), (8, 11), (8, 12), (8, 13), (8, 14), (8, 15), (8, 16), (2, 17), (8, 17), (8, 18), (8, 19), (8, 20), (8, 21), (8, 22), (8, 23), (9, 0), (9, 1), (9, 2), (9, 3), (9, 4), (9, 5), (3, 6), (3, 7), (3, 4), (9, 6), (9, 7), (9, 8), (9, 9), (9, 10), (9, 11), (9, 12), (9, 13), (9, 14), (9, 15), (9, 16), (9, 17), (9, 18), (9, 19), (9, 20), (9, 21), (9, 22), (9, 23), (10, 0), (10, 1), (10, 2), (10, 3), (10, 4), (10, 5), (10, 6), (1, 17), (1, 18), (11, 0), (11, 1), (11, 2), (11, 3), (11, 4), (12, 0), (12, 1), (14, 0), (14, 1), (14, 2), (14, 3), (14, 4), (15, 0), (15, 1), (15, 2), (15, 3), (15, 4), (16, 0), (16, 1), (16, 2), (16, 3), (16, 4), (16, 5), (16, 6), (16, 7), (16, 8)] rfl
set_option maxRecDepth 20000 in
theorem gX6_carryOut_X3_clear : GoodIn wsX6_carryOut (wsV RX6 203 RX3 yX3_clear wsX3_clear) := goodIn_c ch_wsX6_carryOut hf_wsX6_carryOut hg_wsX6_carryOut _ [(10, 7), (10, 8), (10, 9), (1, 6), (10, 10), (1, 8), (12, 0), (12, 1)] rfl
theorem dX6_carryOut_0 : decode cX6_carryOut 0 = .ok (.aload_n 0, 1) := by decide +kernel
theorem dX6_carryOut_1 : decode cX6_carryOut 1 = .ok (.getfield 36, 3) := by decide +kernel
theorem dX6_carryOut_4 : decode cX6_carryOut 4 = .ok (.invokevirtual 206, 3) := by decide +kernel
theorem dX6_carryOut_7 : decode cX6_carryOut 7 = .ok (.bipush (-6), 2) := by decide +kernel
theorem dX6_carryOut_9 : decode cX6_carryOut 9 = .ok (.if_icmp .eq 6, 3) := by decide +kernel
theorem dX6_carryOut_12 : decode cX6_carryOut 12 = .ok (.bipush (-3), 2) := by decide +kernel
theorem dX6_carryOut_14 : decode cX6_carryOut 14 = .ok (.ireturn, 1) := by decide +kernel
theorem dX6_carryOut_15 : decode cX6_carryOut 15 = .ok (.aload_n 0, 1) := by decide +kernel
theorem dX6_carryOut_16 : decode cX6_carryOut 16 = .ok (.getfield 19, 3) := by decide +kernel
theorem dX6_carryOut_19 : decode cX6_carryOut 19 = .ok (.aload_n 0, 1) := by decide +kernel
theorem dX6_carryOut_20 : decode cX6_carryOut 20 = .ok (.getfield 10, 3) := by decide +kernel
theorem dX6_carryOut_23 : decode cX6_carryOut 23 = .ok (.invokevirtual 44, 3) := by decide +kernel
theorem dX6_carryOut_26 : decode cX6_carryOut 26 = .ok (.aload_n 0, 1) := by decide +kernel
theorem dX6_carryOut_27 : decode cX6_carryOut 27 = .ok (.getfield 19, 3) := by decide +kernel
theorem dX6_carryOut_30 : decode cX6_carryOut 30 = .ok (.invokevirtual 51, 3) := by decide +kernel
theorem dX6_carryOut_33 : decode cX6_carryOut 33 = .ok (.aload_n 0, 1) := by decide +kernel
theorem dX6_carryOut_34 : decode cX6_carryOut 34 = .ok (.invokevirtual 209, 3) := by decide +kernel
theorem dX6_carryOut_37 : decode cX6_carryOut 37 = .ok (.istore_n 1, 1) := by decide +kernel
theorem dX6_carryOut_38 : decode cX6_carryOut 38 = .ok (.aload_n 0, 1) := by decide +kernel
theorem dX6_carryOut_39 : decode cX6_carryOut 39 = .ok (.getfield 36, 3) := by decide +kernel
theorem dX6_carryOut_42 : decode cX6_carryOut 42 = .ok (.invokevirtual 203, 3) := by decide +kernel
theorem dX6_carryOut_45 : decode cX6_carryOut 45 = .ok (.pop, 1) := by decide +kernel
theorem dX6_carryOut_46 : decode cX6_carryOut 46 = .ok (.iload_n 1, 1) := by decide +kernel
theorem dX6_carryOut_47 : decode cX6_carryOut 47 = .ok (.ireturn, 1) := by decide +kernel
def ch_wsX6_obeyPad : List (List Cond) := [[.code yX6_obeyPad cX6_obeyPad 6 (some .int)], wsX6_obeyPad_r1, wsX6_obeyPad_r2, wsX6_obeyPad_r3, wsX6_obeyPad_r4, wsX6_obeyPad_r5, wsX6_obeyPad_r6, wsX6_obeyPad_r7, wsX6_obeyPad_r8, wsX60, wsX30, wsX10, wsX00, wsX50]
set_option maxRecDepth 20000 in
theorem hf_wsX6_obeyPad : wsX6_obeyPad = (ch_wsX6_obeyPad).flatten := rfl
set_option maxRecDepth 20000 in
theorem hg_wsX6_obeyPad : (wsX6_obeyPad).all goodWord = true := by decide +kernel
set_option maxRecDepth 20000 in
theorem gX6_obeyPad_X3_signAt : GoodIn wsX6_obeyPad (wsV RX6 212 RX3 yX3_signAt wsX3_signAt) := goodIn_c ch_wsX6_obeyPad hf_wsX6_obeyPad hg_wsX6_obeyPad _ [(1, 3), (1, 4), (1, 5), (1, 6), (1, 7), (1, 8), (1, 9), (10, 0), (10, 1)] rfl
set_option maxRecDepth 20000 in
theorem gX6_obeyPad_X1_obey : GoodIn wsX6_obeyPad (wsV RX6 48 RX1 yX1_obey wsX1_obey) := goodIn_c ch_wsX6_obeyPad hf_wsX6_obeyPad hg_wsX6_obeyPad _ [(1, 10), (1, 11), (1, 12), (1, 13), (1, 14), (1, 15), (1, 16), (1, 17), (1, 18), (1, 13), (1, 19), (1, 20), (1, 21), (1, 22), (1, 23), (2, 0), (2, 1), (2, 2), (2, 3), (2, 4), (2, 5), (2, 6), (2, 7), (2, 8), (2, 9), (2, 10), (2, 11), (2, 12), (2, 13), (2, 14), (2, 15), (2, 16), (2, 17), (2, 18), (2, 19), (2, 20), (2, 21), (2, 22), (2, 23), (3, 0), (3, 1), (3, 2), (3, 3), (3, 4), (3, 5), (3, 6), (3, 7), (3, 8), (3, 9), (3, 10), (3, 11), (3, 12), (3, 13), (3, 14), (3, 15), (3, 16), (3, 17), (3, 18), (3, 19), (3, 20), (3, 21), (3, 22), (3, 23), (4, 0), (4, 1), (4, 2), (4, 3), (4, 4), (4, 5), (4, 6), (4, 7), (4, 8), (4, 9), (4, 10), (4, 11), (4, 12), (4, 13), (4, 14), (4, 15), (4, 16), (4, 17), (4, 18), (4, 19), (4, 20), (4, 21), (4, 22), (4, 23), (5, 0), (5, 1), (5, 2), (5, 3), (5, 4), (5, 5), (5, 6), (5, 7), (5, 8), (5, 9), (5, 10), (5, 11), (5, 12), (5, 13), (5, 14), (5, 15), (5, 16), (5, 17), (5, 18), (5, 19), (5, 20), (5, 21), (5, 22), (5, 23), (6, 0), (6, 1), (6, 2), (6, 3), (6, 4), (6, 5), (6, 6), (6, 7), (6, 8), (6, 9), (6, 10), (6, 11), (6, 12), (6, 13), (6, 14), (6, 15), (6, 16), (6, 17), (6, 18), (6, 19), (6, 20), (6, 21), (6, 22), (6, 23), (7, 0), (7, 1), (7, 2), (7, 3), (7, 4), (7, 5), (7, 6), (7, 7), (7, 8), (7, 9), (7, 10), (7, 11), (7, 12), (7, 13), (7, 14), (7, 15), (7, 16), (7, 17), (7, 18), (7, 19), (7, 20), (7, 21), (7, 22), (7, 23), (8, 0), (8, 1), (8, 2), (11, 0), (11, 1), (11, 2), (11, 3), (11, 4), (12, 0), (12, 1), (12, 2), (12, 3), (12, 4), (13, 0), (13, 1), (13, 2), (13, 3), (13, 4), (13, 5), (13, 6), (13, 7), (13, 8)] rfl
set_option maxRecDepth 20000 in
theorem gX6_obeyPad_X3_isDigit : GoodIn wsX6_obeyPad (va_wsS RX6 216 yX3_isDigit wsX3_isDigit) := goodIn_c ch_wsX6_obeyPad hf_wsX6_obeyPad hg_wsX6_obeyPad _ [(8, 3), (8, 4), (1, 6), (8, 5)] rfl
theorem dX6_obeyPad_0 : decode cX6_obeyPad 0 = .ok (.iconst 0, 1) := by decide +kernel
theorem dX6_obeyPad_1 : decode cX6_obeyPad 1 = .ok (.istore_n 1, 1) := by decide +kernel
theorem dX6_obeyPad_2 : decode cX6_obeyPad 2 = .ok (.bipush 112, 2) := by decide +kernel
theorem dX6_obeyPad_4 : decode cX6_obeyPad 4 = .ok (.istore_n 2, 1) := by decide +kernel
theorem dX6_obeyPad_5 : decode cX6_obeyPad 5 = .ok (.iconst 0, 1) := by decide +kernel
theorem dX6_obeyPad_6 : decode cX6_obeyPad 6 = .ok (.istore_n 3, 1) := by decide +kernel
theorem dX6_obeyPad_7 : decode cX6_obeyPad 7 = .ok (.iconst 0, 1) := by decide +kernel
theorem dX6_obeyPad_8 : decode cX6_obeyPad 8 = .ok (.istore 4, 2) := by decide +kernel
theorem dX6_obeyPad_10 : decode cX6_obeyPad 10 = .ok (.iload 4, 2) := by decide +kernel
theorem dX6_obeyPad_12 : decode cX6_obeyPad 12 = .ok (.aload_n 0, 1) := by decide +kernel
theorem dX6_obeyPad_13 : decode cX6_obeyPad 13 = .ok (.getfield 36, 3) := by decide +kernel
theorem dX6_obeyPad_16 : decode cX6_obeyPad 16 = .ok (.getfield 172, 3) := by decide +kernel
theorem dX6_obeyPad_19 : decode cX6_obeyPad 19 = .ok (.if_icmp .gt 74, 3) := by decide +kernel
theorem dX6_obeyPad_22 : decode cX6_obeyPad 22 = .ok (.aload_n 0, 1) := by decide +kernel
theorem dX6_obeyPad_23 : decode cX6_obeyPad 23 = .ok (.getfield 36, 3) := by decide +kernel
theorem dX6_obeyPad_26 : decode cX6_obeyPad 26 = .ok (.iload 4, 2) := by decide +kernel
theorem dX6_obeyPad_28 : decode cX6_obeyPad 28 = .ok (.invokevirtual 212, 3) := by decide +kernel
theorem dX6_obeyPad_31 : decode cX6_obeyPad 31 = .ok (.istore 5, 2) := by decide +kernel
theorem dX6_obeyPad_33 : decode cX6_obeyPad 33 = .ok (.iload 5, 2) := by decide +kernel
theorem dX6_obeyPad_35 : decode cX6_obeyPad 35 = .ok (.bipush 59, 2) := by decide +kernel
theorem dX6_obeyPad_37 : decode cX6_obeyPad 37 = .ok (.if_icmp .ne 25, 3) := by decide +kernel
theorem dX6_obeyPad_40 : decode cX6_obeyPad 40 = .ok (.aload_n 0, 1) := by decide +kernel
theorem dX6_obeyPad_41 : decode cX6_obeyPad 41 = .ok (.getfield 10, 3) := by decide +kernel
theorem dX6_obeyPad_44 : decode cX6_obeyPad 44 = .ok (.iload_n 2, 1) := by decide +kernel
theorem dX6_obeyPad_45 : decode cX6_obeyPad 45 = .ok (.iload_n 3, 1) := by decide +kernel
theorem dX6_obeyPad_46 : decode cX6_obeyPad 46 = .ok (.invokevirtual 48, 3) := by decide +kernel
theorem dX6_obeyPad_49 : decode cX6_obeyPad 49 = .ok (.ifCond .ge 5, 3) := by decide +kernel
theorem dX6_obeyPad_52 : decode cX6_obeyPad 52 = .ok (.iload_n 1, 1) := by decide +kernel
theorem dX6_obeyPad_53 : decode cX6_obeyPad 53 = .ok (.ireturn, 1) := by decide +kernel
theorem dX6_obeyPad_54 : decode cX6_obeyPad 54 = .ok (.iinc 1 1, 3) := by decide +kernel
theorem dX6_obeyPad_57 : decode cX6_obeyPad 57 = .ok (.iconst 0, 1) := by decide +kernel
theorem dX6_obeyPad_58 : decode cX6_obeyPad 58 = .ok (.istore_n 3, 1) := by decide +kernel
theorem dX6_obeyPad_59 : decode cX6_obeyPad 59 = .ok (.goto 28, 3) := by decide +kernel
theorem dX6_obeyPad_62 : decode cX6_obeyPad 62 = .ok (.iload 5, 2) := by decide +kernel
theorem dX6_obeyPad_64 : decode cX6_obeyPad 64 = .ok (.invokestatic 216, 3) := by decide +kernel
theorem dX6_obeyPad_67 : decode cX6_obeyPad 67 = .ok (.ifCond .eq 17, 3) := by decide +kernel
theorem dX6_obeyPad_70 : decode cX6_obeyPad 70 = .ok (.bipush 10, 2) := by decide +kernel
theorem dX6_obeyPad_72 : decode cX6_obeyPad 72 = .ok (.iload_n 3, 1) := by decide +kernel
theorem dX6_obeyPad_73 : decode cX6_obeyPad 73 = .ok (.imul, 1) := by decide +kernel
theorem dX6_obeyPad_74 : decode cX6_obeyPad 74 = .ok (.iload 5, 2) := by decide +kernel
theorem dX6_obeyPad_76 : decode cX6_obeyPad 76 = .ok (.bipush 48, 2) := by decide +kernel
theorem dX6_obeyPad_78 : decode cX6_obeyPad 78 = .ok (.isub, 1) := by decide +kernel
theorem dX6_obeyPad_79 : decode cX6_obeyPad 79 = .ok (.iadd, 1) := by decide +kernel
theorem dX6_obeyPad_80 : decode cX6_obeyPad 80 = .ok (.istore_n 3, 1) := by decide +kernel
theorem dX6_obeyPad_81 : decode cX6_obeyPad 81 = .ok (.goto 6, 3) := by decide +kernel
theorem dX6_obeyPad_84 : decode cX6_obeyPad 84 = .ok (.iload 5, 2) := by decide +kernel
theorem dX6_obeyPad_86 : decode cX6_obeyPad 86 = .ok (.istore_n 2, 1) := by decide +kernel
theorem dX6_obeyPad_87 : decode cX6_obeyPad 87 = .ok (.iinc 4 1, 3) := by decide +kernel
theorem dX6_obeyPad_90 : decode cX6_obeyPad 90 = .ok (.goto (-80), 3) := by decide +kernel
theorem dX6_obeyPad_93 : decode cX6_obeyPad 93 = .ok (.iload_n 1, 1) := by decide +kernel
theorem dX6_obeyPad_94 : decode cX6_obeyPad 94 = .ok (.ireturn, 1) := by decide +kernel
def ch_wsX6_undo : List (List Cond) := [[.code yX6_undo cX6_undo 1 (some .int)], wsX6_undo_r1, wsX6_undo_r2, wsX60, wsX20, wsX10, wsX00, wsX50]
set_option maxRecDepth 20000 in
theorem hf_wsX6_undo : wsX6_undo = (ch_wsX6_undo).flatten := rfl
set_option maxRecDepth 20000 in
theorem hg_wsX6_undo : (wsX6_undo).all goodWord = true := by decide +kernel
set_option maxRecDepth 20000 in
theorem gX6_undo_X2_goBack : GoodIn wsX6_undo (wsV RX6 220 RX2 yX2_goBack wsX2_goBack) := goodIn_c ch_wsX6_undo hf_wsX6_undo hg_wsX6_undo _ [(1, 2), (1, 3), (1, 4), (1, 5), (1, 6), (1, 7), (1, 8), (1, 9), (1, 10), (1, 11), (1, 12), (1, 13), (1, 14), (1, 15), (1, 16), (1, 17), (1, 18), (1, 19), (1, 20), (1, 21), (1, 22), (1, 23), (2, 0), (2, 1), (2, 2), (2, 3), (2, 4), (2, 5), (2, 6), (2, 7), (2, 8), (2, 9), (2, 10), (2, 11), (2, 12), (2, 13), (2, 14), (2, 15), (2, 16), (2, 17), (2, 18), (4, 0), (4, 1), (4, 2), (5, 0), (5, 1), (5, 2), (5, 3), (5, 4), (6, 0), (6, 1), (6, 2), (6, 3), (6, 4), (7, 0), (7, 1), (7, 2), (7, 3), (7, 4), (7, 5), (7, 6), (7, 7), (7, 8)] rfl
theorem dX6_undo_0 : decode cX6_undo 0 = .ok (.aload_n 0, 1) := by decide +kernel
theorem dX6_undo_1 : decode cX6_undo 1 = .ok (.getfield 19, 3) := by decide +kernel
theorem dX6_undo_4 : decode cX6_undo 4 = .ok (.aload_n 0, 1) := by decide +kernel
theorem dX6_undo_5 : decode cX6_undo 5 = .ok (.getfield 10, 3) := by decide +kernel
theorem dX6_undo_8 : decode cX6_undo 8 = .ok (.invokevirtual 220, 3) := by decide +kernel
theorem dX6_undo_11 : decode cX6_undo 11 = .ok (.ireturn, 1) := by decide +kernel
def ch_wsX6_save : List (List Cond) := [[.code yX6_save cX6_save 2 (some .int)], wsX6_save_r1, wsX6_save_r2, wsX6_save_r3, wsX60, wsX10, wsX40, wsX00, wsX50]
set_option maxRecDepth 20000 in
theorem hf_wsX6_save : wsX6_save = (ch_wsX6_save).flatten := rfl
set_option maxRecDepth 20000 in
theorem hg_wsX6_save : (wsX6_save).all goodWord = true := by decide +kernel
set_option maxRecDepth 20000 in
theorem gX6_save_X6_isSlot : GoodIn wsX6_save (va_wsS RX6 224 yX6_isSlot wsX6_isSlot) := goodIn_c ch_wsX6_save hf_wsX6_save hg_wsX6_save _ [(1, 2), (1, 3), (1, 4), (1, 5)] rfl
set_option maxRecDepth 20000 in
theorem gX6_save_X6_slotOf : GoodIn wsX6_save (wsV RX6 227 RX6 yX6_slotOf wsX6_slotOf) := goodIn_c ch_wsX6_save hf_wsX6_save hg_wsX6_save _ [(1, 6), (1, 7), (1, 8), (1, 4), (1, 9), (1, 10), (1, 11), (4, 0), (4, 1), (4, 2), (4, 3), (4, 4)] rfl
set_option maxRecDepth 20000 in
theorem gX6_save_X4_fill : GoodIn wsX6_save (wsV RX6 231 RX4 yX4_fill wsX4_fill) := goodIn_c ch_wsX6_save hf_wsX6_save hg_wsX6_save _ [(1, 12), (1, 13), (1, 14), (1, 15), (1, 16), (1, 17), (1, 18), (1, 19), (1, 20), (1, 21), (1, 22), (1, 23), (2, 0), (2, 1), (2, 2), (2, 3), (2, 4), (2, 5), (2, 6), (2, 7), (2, 8), (2, 9), (2, 10), (2, 11), (2, 12), (2, 13), (2, 14), (2, 15), (2, 16), (2, 17), (2, 18), (2, 19), (2, 20), (2, 21), (2, 22), (2, 23), (3, 0), (3, 1), (3, 2), (3, 3), (3, 4), (6, 0), (6, 1), (5, 0), (5, 1), (5, 2), (5, 3), (5, 4), (7, 0), (7, 1), (7, 2), (7, 3), (7, 4), (8, 0), (8, 1), (8, 2), (8, 3), (8, 4), (8, 5), (8, 6), (8, 7), (8, 8)] rfl
set_option maxRecDepth 20000 in
theorem gX6_save_X0_cellsLeft : GoodIn wsX6_save (wsV RX6 163 RX0 yX0_cellsLeft wsX0_cellsLeft) := goodIn_c ch_wsX6_save hf_wsX6_save hg_wsX6_save _ [(3, 5), (3, 6), (3, 7), (2, 8), (3, 8), (2, 12), (3, 9), (3, 10), (3, 11), (3, 12), (3, 13), (3, 14), (3, 15), (7, 0), (7, 1), (7, 2), (7, 3), (7, 4)] rfl
theorem dX6_save_0 : decode cX6_save 0 = .ok (.iload_n 1, 1) := by decide +kernel
theorem dX6_save_1 : decode cX6_save 1 = .ok (.invokestatic 224, 3) := by decide +kernel
theorem dX6_save_4 : decode cX6_save 4 = .ok (.ifCond .ne 6, 3) := by decide +kernel
theorem dX6_save_7 : decode cX6_save 7 = .ok (.bipush (-2), 2) := by decide +kernel
theorem dX6_save_9 : decode cX6_save 9 = .ok (.ireturn, 1) := by decide +kernel
theorem dX6_save_10 : decode cX6_save 10 = .ok (.aload_n 0, 1) := by decide +kernel
theorem dX6_save_11 : decode cX6_save 11 = .ok (.iload_n 1, 1) := by decide +kernel
theorem dX6_save_12 : decode cX6_save 12 = .ok (.invokevirtual 227, 3) := by decide +kernel
theorem dX6_save_15 : decode cX6_save 15 = .ok (.aload_n 0, 1) := by decide +kernel
theorem dX6_save_16 : decode cX6_save 16 = .ok (.getfield 10, 3) := by decide +kernel
theorem dX6_save_19 : decode cX6_save 19 = .ok (.invokevirtual 231, 3) := by decide +kernel
theorem dX6_save_22 : decode cX6_save 22 = .ok (.aload_n 0, 1) := by decide +kernel
theorem dX6_save_23 : decode cX6_save 23 = .ok (.getfield 10, 3) := by decide +kernel
theorem dX6_save_26 : decode cX6_save 26 = .ok (.getfield 60, 3) := by decide +kernel
theorem dX6_save_29 : decode cX6_save 29 = .ok (.invokevirtual 163, 3) := by decide +kernel
theorem dX6_save_32 : decode cX6_save 32 = .ok (.ireturn, 1) := by decide +kernel
def ch_wsX6_restore : List (List Cond) := [[.code yX6_restore cX6_restore 3 (some .int)], wsX6_restore_r1, wsX6_restore_r2, wsX6_restore_r3, wsX6_restore_r4, wsX40, wsX60, wsX10, wsX20, wsX00, wsX50]
set_option maxRecDepth 20000 in
theorem hf_wsX6_restore : wsX6_restore = (ch_wsX6_restore).flatten := rfl
set_option maxRecDepth 20000 in
theorem hg_wsX6_restore : (wsX6_restore).all goodWord = true := by decide +kernel
set_option maxRecDepth 20000 in
theorem gX6_restore_X6_isSlot : GoodIn wsX6_restore (va_wsS RX6 224 yX6_isSlot wsX6_isSlot) := goodIn_c ch_wsX6_restore hf_wsX6_restore hg_wsX6_restore _ [(1, 5), (1, 6), (1, 7), (1, 8)] rfl
set_option maxRecDepth 20000 in
theorem gX6_restore_X6_slotOf : GoodIn wsX6_restore (wsV RX6 227 RX6 yX6_slotOf wsX6_slotOf) := goodIn_c ch_wsX6_restore hf_wsX6_restore hg_wsX6_restore _ [(1, 9), (1, 10), (1, 11), (1, 7), (1, 12), (1, 13), (1, 14), (6, 0), (6, 1), (6, 2), (6, 3), (6, 4)] rfl
set_option maxRecDepth 20000 in
theorem gX6_restore_X2_note : GoodIn wsX6_restore (wsV RX6 44 RX2 yX2_note wsX2_note) := goodIn_c ch_wsX6_restore hf_wsX6_restore hg_wsX6_restore _ [(1, 15), (1, 16), (1, 17), (1, 18), (1, 19), (1, 20), (1, 21), (1, 22), (1, 23), (2, 0), (2, 1), (2, 2), (2, 3), (2, 4), (2, 5), (2, 6), (2, 7), (2, 8), (2, 9), (2, 10), (2, 11), (2, 12), (2, 13), (2, 14), (2, 15), (2, 16), (2, 17), (2, 18), (2, 19), (2, 20), (2, 21), (2, 22), (2, 23), (3, 0), (3, 1), (3, 2), (3, 3), (3, 4), (3, 5), (3, 6), (8, 0), (8, 1), (8, 2), (7, 0), (7, 1), (7, 2), (7, 3), (7, 4), (9, 0), (9, 1), (9, 2), (9, 3), (9, 4), (10, 0), (10, 1), (10, 2), (10, 3), (10, 4), (10, 5), (10, 6), (10, 7), (10, 8)] rfl
set_option maxRecDepth 20000 in
theorem gX6_restore_X2_keepNoted : GoodIn wsX6_restore (wsV RX6 51 RX2 yX2_keepNoted wsX2_keepNoted) := goodIn_c ch_wsX6_restore hf_wsX6_restore hg_wsX6_restore _ [(3, 7), (3, 8), (3, 9), (1, 18), (3, 10), (3, 11), (3, 12), (1, 20), (3, 13), (3, 14), (3, 15), (1, 18), (3, 16), (8, 0), (8, 1), (8, 2)] rfl
set_option maxRecDepth 20000 in
theorem gX6_restore_X1_become : GoodIn wsX6_restore (wsV RX6 241 RX1 yX1_become wsX1_become) := goodIn_c ch_wsX6_restore hf_wsX6_restore hg_wsX6_restore _ [(3, 17), (1, 22), (1, 23), (2, 0), (2, 1), (2, 2), (2, 3), (2, 4), (2, 5), (2, 6), (2, 7), (2, 8), (2, 9), (2, 10), (2, 11), (2, 12), (2, 13), (2, 14), (2, 15), (2, 16), (2, 17), (2, 18), (2, 19), (2, 20), (2, 21), (2, 22), (2, 23), (3, 0), (3, 1), (3, 2), (3, 3), (3, 4), (3, 5), (3, 6), (7, 0), (7, 1), (7, 2), (7, 3), (7, 4), (9, 0), (9, 1), (9, 2), (9, 3), (9, 4), (10, 0), (10, 1), (10, 2), (10, 3), (10, 4), (10, 5), (10, 6), (10, 7), (10, 8)] rfl
set_option maxRecDepth 20000 in
theorem gX6_restore_X0_cellsLeft : GoodIn wsX6_restore (wsV RX6 163 RX0 yX0_cellsLeft wsX0_cellsLeft) := goodIn_c ch_wsX6_restore hf_wsX6_restore hg_wsX6_restore _ [(3, 18), (3, 19), (3, 20), (2, 10), (3, 21), (2, 14), (3, 22), (3, 23), (4, 0), (4, 1), (4, 2), (4, 3), (4, 4), (9, 0), (9, 1), (9, 2), (9, 3), (9, 4)] rfl
theorem dX6_restore_0 : decode cX6_restore 0 = .ok (.iload_n 1, 1) := by decide +kernel
theorem dX6_restore_1 : decode cX6_restore 1 = .ok (.invokestatic 224, 3) := by decide +kernel
theorem dX6_restore_4 : decode cX6_restore 4 = .ok (.ifCond .ne 6, 3) := by decide +kernel
theorem dX6_restore_7 : decode cX6_restore 7 = .ok (.bipush (-2), 2) := by decide +kernel
theorem dX6_restore_9 : decode cX6_restore 9 = .ok (.ireturn, 1) := by decide +kernel
theorem dX6_restore_10 : decode cX6_restore 10 = .ok (.aload_n 0, 1) := by decide +kernel
theorem dX6_restore_11 : decode cX6_restore 11 = .ok (.iload_n 1, 1) := by decide +kernel
theorem dX6_restore_12 : decode cX6_restore 12 = .ok (.invokevirtual 227, 3) := by decide +kernel
theorem dX6_restore_15 : decode cX6_restore 15 = .ok (.astore_n 2, 1) := by decide +kernel
theorem dX6_restore_16 : decode cX6_restore 16 = .ok (.aload_n 2, 1) := by decide +kernel
theorem dX6_restore_17 : decode cX6_restore 17 = .ok (.getfield 234, 3) := by decide +kernel
theorem dX6_restore_20 : decode cX6_restore 20 = .ok (.ifCond .ne 6, 3) := by decide +kernel
theorem dX6_restore_23 : decode cX6_restore 23 = .ok (.bipush (-5), 2) := by decide +kernel
theorem dX6_restore_25 : decode cX6_restore 25 = .ok (.ireturn, 1) := by decide +kernel
theorem dX6_restore_26 : decode cX6_restore 26 = .ok (.aload_n 0, 1) := by decide +kernel
theorem dX6_restore_27 : decode cX6_restore 27 = .ok (.getfield 19, 3) := by decide +kernel
theorem dX6_restore_30 : decode cX6_restore 30 = .ok (.aload_n 0, 1) := by decide +kernel
theorem dX6_restore_31 : decode cX6_restore 31 = .ok (.getfield 10, 3) := by decide +kernel
theorem dX6_restore_34 : decode cX6_restore 34 = .ok (.invokevirtual 44, 3) := by decide +kernel
theorem dX6_restore_37 : decode cX6_restore 37 = .ok (.aload_n 0, 1) := by decide +kernel
theorem dX6_restore_38 : decode cX6_restore 38 = .ok (.getfield 19, 3) := by decide +kernel
theorem dX6_restore_41 : decode cX6_restore 41 = .ok (.invokevirtual 51, 3) := by decide +kernel
theorem dX6_restore_44 : decode cX6_restore 44 = .ok (.aload_n 0, 1) := by decide +kernel
theorem dX6_restore_45 : decode cX6_restore 45 = .ok (.getfield 10, 3) := by decide +kernel
theorem dX6_restore_48 : decode cX6_restore 48 = .ok (.aload_n 2, 1) := by decide +kernel
theorem dX6_restore_49 : decode cX6_restore 49 = .ok (.getfield 238, 3) := by decide +kernel
theorem dX6_restore_52 : decode cX6_restore 52 = .ok (.invokevirtual 241, 3) := by decide +kernel
theorem dX6_restore_55 : decode cX6_restore 55 = .ok (.aload_n 0, 1) := by decide +kernel
theorem dX6_restore_56 : decode cX6_restore 56 = .ok (.getfield 10, 3) := by decide +kernel
theorem dX6_restore_59 : decode cX6_restore 59 = .ok (.getfield 60, 3) := by decide +kernel
theorem dX6_restore_62 : decode cX6_restore 62 = .ok (.invokevirtual 163, 3) := by decide +kernel
theorem dX6_restore_65 : decode cX6_restore 65 = .ok (.ireturn, 1) := by decide +kernel
theorem dX6_isSlot_0 : decode cX6_isSlot 0 = .ok (.iload_n 0, 1) := by decide +kernel
theorem dX6_isSlot_1 : decode cX6_isSlot 1 = .ok (.ifCond .eq 8, 3) := by decide +kernel
theorem dX6_isSlot_4 : decode cX6_isSlot 4 = .ok (.iload_n 0, 1) := by decide +kernel
theorem dX6_isSlot_5 : decode cX6_isSlot 5 = .ok (.iconst 1, 1) := by decide +kernel
theorem dX6_isSlot_6 : decode cX6_isSlot 6 = .ok (.if_icmp .ne 7, 3) := by decide +kernel
theorem dX6_isSlot_9 : decode cX6_isSlot 9 = .ok (.iconst 1, 1) := by decide +kernel
theorem dX6_isSlot_10 : decode cX6_isSlot 10 = .ok (.goto 4, 3) := by decide +kernel
theorem dX6_isSlot_13 : decode cX6_isSlot 13 = .ok (.iconst 0, 1) := by decide +kernel
theorem dX6_isSlot_14 : decode cX6_isSlot 14 = .ok (.ireturn, 1) := by decide +kernel
theorem dX6_slotOf_0 : decode cX6_slotOf 0 = .ok (.iload_n 1, 1) := by decide +kernel
theorem dX6_slotOf_1 : decode cX6_slotOf 1 = .ok (.ifCond .ne 10, 3) := by decide +kernel
theorem dX6_slotOf_4 : decode cX6_slotOf 4 = .ok (.aload_n 0, 1) := by decide +kernel
theorem dX6_slotOf_5 : decode cX6_slotOf 5 = .ok (.getfield 26, 3) := by decide +kernel
theorem dX6_slotOf_8 : decode cX6_slotOf 8 = .ok (.goto 7, 3) := by decide +kernel
theorem dX6_slotOf_11 : decode cX6_slotOf 11 = .ok (.aload_n 0, 1) := by decide +kernel
theorem dX6_slotOf_12 : decode cX6_slotOf 12 = .ok (.getfield 30, 3) := by decide +kernel
theorem dX6_slotOf_15 : decode cX6_slotOf 15 = .ok (.areturn, 1) := by decide +kernel
def ch_wsX7_init : List (List Cond) := [[.code yX7_init cX7_init 2 none], [.methodLink RX7 1 objectInit, .instanceMethod objectInit, .code objectInit ⟨#[0xb1]⟩ 1 none, .arrayClass .int, .fieldLink RX7 7 "TailorChalksModel" "s" "[I", .fieldLink RX7 13 "TailorChalksModel" "ahead" "[I", .fieldLink RX7 16 "TailorChalksModel" "history" "[I", .fieldLink RX7 19 "TailorChalksModel" "slots" "[I", .arrayClass .boolean, .fieldLink RX7 22 "TailorChalksModel" "isSaved" "[Z", .fieldLink RX7 26 "TailorChalksModel" "pad" "[I", .fieldLink RX7 29 "TailorChalksModel" "label" "[I", .methodLink RX7 32 yX7_at, .static yX7_at, .initialized RX7, .code yX7_at cX7_at 2 (some .int)], wsX70]
set_option maxRecDepth 20000 in
theorem hf_wsX7_init : wsX7_init = (ch_wsX7_init).flatten := rfl
set_option maxRecDepth 20000 in
theorem hg_wsX7_init : (wsX7_init).all goodWord = true := by decide +kernel
set_option maxRecDepth 20000 in
theorem gX7_init_X7_at : GoodIn wsX7_init (va_wsS RX7 32 yX7_at wsX7_at) := goodIn_c ch_wsX7_init hf_wsX7_init hg_wsX7_init _ [(1, 12), (1, 13), (1, 14), (1, 15)] rfl
theorem dX7_init_0 : decode cX7_init 0 = .ok (.aload_n 0, 1) := by decide +kernel
theorem dX7_init_1 : decode cX7_init 1 = .ok (.invokespecial 1, 3) := by decide +kernel
theorem dX7_init_4 : decode cX7_init 4 = .ok (.aload_n 0, 1) := by decide +kernel
theorem dX7_init_5 : decode cX7_init 5 = .ok (.sipush 246, 3) := by decide +kernel
theorem dX7_init_8 : decode cX7_init 8 = .ok (.newarray .int, 2) := by decide +kernel
theorem dX7_init_10 : decode cX7_init 10 = .ok (.putfield 7, 3) := by decide +kernel
theorem dX7_init_13 : decode cX7_init 13 = .ok (.aload_n 0, 1) := by decide +kernel
theorem dX7_init_14 : decode cX7_init 14 = .ok (.sipush 246, 3) := by decide +kernel
theorem dX7_init_17 : decode cX7_init 17 = .ok (.newarray .int, 2) := by decide +kernel
theorem dX7_init_19 : decode cX7_init 19 = .ok (.putfield 13, 3) := by decide +kernel
theorem dX7_init_22 : decode cX7_init 22 = .ok (.aload_n 0, 1) := by decide +kernel
theorem dX7_init_23 : decode cX7_init 23 = .ok (.sipush 1476, 3) := by decide +kernel
theorem dX7_init_26 : decode cX7_init 26 = .ok (.newarray .int, 2) := by decide +kernel
theorem dX7_init_28 : decode cX7_init 28 = .ok (.putfield 16, 3) := by decide +kernel
theorem dX7_init_31 : decode cX7_init 31 = .ok (.aload_n 0, 1) := by decide +kernel
theorem dX7_init_32 : decode cX7_init 32 = .ok (.sipush 492, 3) := by decide +kernel
theorem dX7_init_35 : decode cX7_init 35 = .ok (.newarray .int, 2) := by decide +kernel
theorem dX7_init_37 : decode cX7_init 37 = .ok (.putfield 19, 3) := by decide +kernel
theorem dX7_init_40 : decode cX7_init 40 = .ok (.aload_n 0, 1) := by decide +kernel
theorem dX7_init_41 : decode cX7_init 41 = .ok (.iconst 2, 1) := by decide +kernel
theorem dX7_init_42 : decode cX7_init 42 = .ok (.newarray .boolean, 2) := by decide +kernel
theorem dX7_init_44 : decode cX7_init 44 = .ok (.putfield 22, 3) := by decide +kernel
theorem dX7_init_47 : decode cX7_init 47 = .ok (.aload_n 0, 1) := by decide +kernel
theorem dX7_init_48 : decode cX7_init 48 = .ok (.bipush 80, 2) := by decide +kernel
theorem dX7_init_50 : decode cX7_init 50 = .ok (.newarray .int, 2) := by decide +kernel
theorem dX7_init_52 : decode cX7_init 52 = .ok (.putfield 26, 3) := by decide +kernel
theorem dX7_init_55 : decode cX7_init 55 = .ok (.aload_n 0, 1) := by decide +kernel
theorem dX7_init_56 : decode cX7_init 56 = .ok (.bipush 48, 2) := by decide +kernel
theorem dX7_init_58 : decode cX7_init 58 = .ok (.newarray .int, 2) := by decide +kernel
theorem dX7_init_60 : decode cX7_init 60 = .ok (.putfield 29, 3) := by decide +kernel
theorem dX7_init_63 : decode cX7_init 63 = .ok (.iconst 0, 1) := by decide +kernel
theorem dX7_init_64 : decode cX7_init 64 = .ok (.istore_n 1, 1) := by decide +kernel
theorem dX7_init_65 : decode cX7_init 65 = .ok (.iload_n 1, 1) := by decide +kernel
theorem dX7_init_66 : decode cX7_init 66 = .ok (.bipush 82, 2) := by decide +kernel
theorem dX7_init_68 : decode cX7_init 68 = .ok (.if_icmp .ge 20, 3) := by decide +kernel
theorem dX7_init_71 : decode cX7_init 71 = .ok (.aload_n 0, 1) := by decide +kernel
theorem dX7_init_72 : decode cX7_init 72 = .ok (.getfield 7, 3) := by decide +kernel
theorem dX7_init_75 : decode cX7_init 75 = .ok (.bipush 82, 2) := by decide +kernel
theorem dX7_init_77 : decode cX7_init 77 = .ok (.iload_n 1, 1) := by decide +kernel
theorem dX7_init_78 : decode cX7_init 78 = .ok (.iadd, 1) := by decide +kernel
theorem dX7_init_79 : decode cX7_init 79 = .ok (.bipush (-6), 2) := by decide +kernel
theorem dX7_init_81 : decode cX7_init 81 = .ok (.iastore, 1) := by decide +kernel
theorem dX7_init_82 : decode cX7_init 82 = .ok (.iinc 1 1, 3) := by decide +kernel
theorem dX7_init_85 : decode cX7_init 85 = .ok (.goto (-20), 3) := by decide +kernel
theorem dX7_init_88 : decode cX7_init 88 = .ok (.aload_n 0, 1) := by decide +kernel
theorem dX7_init_89 : decode cX7_init 89 = .ok (.getfield 7, 3) := by decide +kernel
theorem dX7_init_92 : decode cX7_init 92 = .ok (.iconst 0, 1) := by decide +kernel
theorem dX7_init_93 : decode cX7_init 93 = .ok (.iconst 1, 1) := by decide +kernel
theorem dX7_init_94 : decode cX7_init 94 = .ok (.invokestatic 32, 3) := by decide +kernel
theorem dX7_init_97 : decode cX7_init 97 = .ok (.iconst 5, 1) := by decide +kernel
theorem dX7_init_98 : decode cX7_init 98 = .ok (.iastore, 1) := by decide +kernel
theorem dX7_init_99 : decode cX7_init 99 = .ok (.aload_n 0, 1) := by decide +kernel
theorem dX7_init_100 : decode cX7_init 100 = .ok (.getfield 7, 3) := by decide +kernel
theorem dX7_init_103 : decode cX7_init 103 = .ok (.iconst 1, 1) := by decide +kernel
theorem dX7_init_104 : decode cX7_init 104 = .ok (.iconst 1, 1) := by decide +kernel
theorem dX7_init_105 : decode cX7_init 105 = .ok (.invokestatic 32, 3) := by decide +kernel
theorem dX7_init_108 : decode cX7_init 108 = .ok (.iconst 5, 1) := by decide +kernel
theorem dX7_init_109 : decode cX7_init 109 = .ok (.iastore, 1) := by decide +kernel
theorem dX7_init_110 : decode cX7_init 110 = .ok (.return_, 1) := by decide +kernel
theorem dX7_in_0 : decode cX7_in 0 = .ok (.iload_n 0, 1) := by decide +kernel
theorem dX7_in_1 : decode cX7_in 1 = .ok (.iload_n 1, 1) := by decide +kernel
theorem dX7_in_2 : decode cX7_in 2 = .ok (.if_icmp .lt 12, 3) := by decide +kernel
theorem dX7_in_5 : decode cX7_in 5 = .ok (.iload_n 0, 1) := by decide +kernel
theorem dX7_in_6 : decode cX7_in 6 = .ok (.iload_n 2, 1) := by decide +kernel
theorem dX7_in_7 : decode cX7_in 7 = .ok (.if_icmp .gt 7, 3) := by decide +kernel
theorem dX7_in_10 : decode cX7_in 10 = .ok (.iconst 1, 1) := by decide +kernel
theorem dX7_in_11 : decode cX7_in 11 = .ok (.goto 4, 3) := by decide +kernel
theorem dX7_in_14 : decode cX7_in 14 = .ok (.iconst 0, 1) := by decide +kernel
theorem dX7_in_15 : decode cX7_in 15 = .ok (.ireturn, 1) := by decide +kernel
def ch_wsX7_isJoint : List (List Cond) := [[.code yX7_isJoint cX7_isJoint 1 (some .boolean)], [.methodLink RX7 36 yX7_in, .static yX7_in, .initialized RX7, .code yX7_in cX7_in 3 (some .boolean)]]
set_option maxRecDepth 20000 in
theorem hf_wsX7_isJoint : wsX7_isJoint = (ch_wsX7_isJoint).flatten := rfl
set_option maxRecDepth 20000 in
theorem hg_wsX7_isJoint : (wsX7_isJoint).all goodWord = true := by decide +kernel
set_option maxRecDepth 20000 in
theorem gX7_isJoint_X7_in : GoodIn wsX7_isJoint (va_wsS RX7 36 yX7_in wsX7_in) := goodIn_c ch_wsX7_isJoint hf_wsX7_isJoint hg_wsX7_isJoint _ [(1, 0), (1, 1), (1, 2), (1, 3)] rfl
theorem dX7_isJoint_0 : decode cX7_isJoint 0 = .ok (.iload_n 0, 1) := by decide +kernel
theorem dX7_isJoint_1 : decode cX7_isJoint 1 = .ok (.iconst 0, 1) := by decide +kernel
theorem dX7_isJoint_2 : decode cX7_isJoint 2 = .ok (.bipush 81, 2) := by decide +kernel
theorem dX7_isJoint_4 : decode cX7_isJoint 4 = .ok (.invokestatic 36, 3) := by decide +kernel
theorem dX7_isJoint_7 : decode cX7_isJoint 7 = .ok (.ireturn, 1) := by decide +kernel
def ch_wsX7_isCell : List (List Cond) := [[.code yX7_isCell cX7_isCell 1 (some .boolean)], [.methodLink RX7 36 yX7_in, .static yX7_in, .initialized RX7, .code yX7_in cX7_in 3 (some .boolean)]]
set_option maxRecDepth 20000 in
theorem hf_wsX7_isCell : wsX7_isCell = (ch_wsX7_isCell).flatten := rfl
set_option maxRecDepth 20000 in
theorem hg_wsX7_isCell : (wsX7_isCell).all goodWord = true := by decide +kernel
set_option maxRecDepth 20000 in
theorem gX7_isCell_X7_in : GoodIn wsX7_isCell (va_wsS RX7 36 yX7_in wsX7_in) := goodIn_c ch_wsX7_isCell hf_wsX7_isCell hg_wsX7_isCell _ [(1, 0), (1, 1), (1, 2), (1, 3)] rfl
theorem dX7_isCell_0 : decode cX7_isCell 0 = .ok (.iload_n 0, 1) := by decide +kernel
theorem dX7_isCell_1 : decode cX7_isCell 1 = .ok (.iconst 0, 1) := by decide +kernel
theorem dX7_isCell_2 : decode cX7_isCell 2 = .ok (.bipush 47, 2) := by decide +kernel
theorem dX7_isCell_4 : decode cX7_isCell 4 = .ok (.invokestatic 36, 3) := by decide +kernel
theorem dX7_isCell_7 : decode cX7_isCell 7 = .ok (.ireturn, 1) := by decide +kernel
theorem dX7_at_0 : decode cX7_at 0 = .ok (.sipush 212, 3) := by decide +kernel
theorem dX7_at_3 : decode cX7_at 3 = .ok (.bipush 16, 2) := by decide +kernel
theorem dX7_at_5 : decode cX7_at 5 = .ok (.iload_n 0, 1) := by decide +kernel
theorem dX7_at_6 : decode cX7_at 6 = .ok (.imul, 1) := by decide +kernel
theorem dX7_at_7 : decode cX7_at 7 = .ok (.iadd, 1) := by decide +kernel
theorem dX7_at_8 : decode cX7_at 8 = .ok (.iload_n 1, 1) := by decide +kernel
theorem dX7_at_9 : decode cX7_at 9 = .ok (.iadd, 1) := by decide +kernel
theorem dX7_at_10 : decode cX7_at 10 = .ok (.ireturn, 1) := by decide +kernel
def ch_wsX7_chalkAt : List (List Cond) := [[.code yX7_chalkAt cX7_chalkAt 3 (some .int)], [.fieldLink RX7 7 "TailorChalksModel" "s" "[I", .methodLink RX7 32 yX7_at, .static yX7_at, .initialized RX7, .code yX7_at cX7_at 2 (some .int)], wsX70]
set_option maxRecDepth 20000 in
theorem hf_wsX7_chalkAt : wsX7_chalkAt = (ch_wsX7_chalkAt).flatten := rfl
set_option maxRecDepth 20000 in
theorem hg_wsX7_chalkAt : (wsX7_chalkAt).all goodWord = true := by decide +kernel
set_option maxRecDepth 20000 in
theorem gX7_chalkAt_X7_at : GoodIn wsX7_chalkAt (va_wsS RX7 32 yX7_at wsX7_at) := goodIn_c ch_wsX7_chalkAt hf_wsX7_chalkAt hg_wsX7_chalkAt _ [(1, 1), (1, 2), (1, 3), (1, 4)] rfl
theorem dX7_chalkAt_0 : decode cX7_chalkAt 0 = .ok (.aload_n 0, 1) := by decide +kernel
theorem dX7_chalkAt_1 : decode cX7_chalkAt 1 = .ok (.getfield 7, 3) := by decide +kernel
theorem dX7_chalkAt_4 : decode cX7_chalkAt 4 = .ok (.iload_n 1, 1) := by decide +kernel
theorem dX7_chalkAt_5 : decode cX7_chalkAt 5 = .ok (.bipush 8, 2) := by decide +kernel
theorem dX7_chalkAt_7 : decode cX7_chalkAt 7 = .ok (.invokestatic 32, 3) := by decide +kernel
theorem dX7_chalkAt_10 : decode cX7_chalkAt 10 = .ok (.iload_n 2, 1) := by decide +kernel
theorem dX7_chalkAt_11 : decode cX7_chalkAt 11 = .ok (.iadd, 1) := by decide +kernel
theorem dX7_chalkAt_12 : decode cX7_chalkAt 12 = .ok (.iaload, 1) := by decide +kernel
theorem dX7_chalkAt_13 : decode cX7_chalkAt 13 = .ok (.ireturn, 1) := by decide +kernel
theorem dX7_first_0 : decode cX7_first 0 = .ok (.iload_n 0, 1) := by decide +kernel
theorem dX7_first_1 : decode cX7_first 1 = .ok (.bipush 42, 2) := by decide +kernel
theorem dX7_first_3 : decode cX7_first 3 = .ok (.if_icmp .ge 18, 3) := by decide +kernel
theorem dX7_first_6 : decode cX7_first 6 = .ok (.iload_n 0, 1) := by decide +kernel
theorem dX7_first_7 : decode cX7_first 7 = .ok (.bipush 7, 2) := by decide +kernel
theorem dX7_first_9 : decode cX7_first 9 = .ok (.idiv, 1) := by decide +kernel
theorem dX7_first_10 : decode cX7_first 10 = .ok (.bipush 8, 2) := by decide +kernel
theorem dX7_first_12 : decode cX7_first 12 = .ok (.imul, 1) := by decide +kernel
theorem dX7_first_13 : decode cX7_first 13 = .ok (.iload_n 0, 1) := by decide +kernel
theorem dX7_first_14 : decode cX7_first 14 = .ok (.bipush 7, 2) := by decide +kernel
theorem dX7_first_16 : decode cX7_first 16 = .ok (.irem, 1) := by decide +kernel
theorem dX7_first_17 : decode cX7_first 17 = .ok (.iadd, 1) := by decide +kernel
theorem dX7_first_18 : decode cX7_first 18 = .ok (.goto 7, 3) := by decide +kernel
theorem dX7_first_21 : decode cX7_first 21 = .ok (.iload_n 0, 1) := by decide +kernel
theorem dX7_first_22 : decode cX7_first 22 = .ok (.bipush 42, 2) := by decide +kernel
theorem dX7_first_24 : decode cX7_first 24 = .ok (.isub, 1) := by decide +kernel
theorem dX7_first_25 : decode cX7_first 25 = .ok (.ireturn, 1) := by decide +kernel
def ch_wsX7_second : List (List Cond) := [[.code yX7_second cX7_second 1 (some .int)], [.methodLink RX7 40 yX7_first, .static yX7_first, .initialized RX7, .code yX7_first cX7_first 1 (some .int)]]
set_option maxRecDepth 20000 in
theorem hf_wsX7_second : wsX7_second = (ch_wsX7_second).flatten := rfl
set_option maxRecDepth 20000 in
theorem hg_wsX7_second : (wsX7_second).all goodWord = true := by decide +kernel
set_option maxRecDepth 20000 in
theorem gX7_second_X7_first : GoodIn wsX7_second (va_wsS RX7 40 yX7_first wsX7_first) := goodIn_c ch_wsX7_second hf_wsX7_second hg_wsX7_second _ [(1, 0), (1, 1), (1, 2), (1, 3)] rfl
theorem dX7_second_0 : decode cX7_second 0 = .ok (.iload_n 0, 1) := by decide +kernel
theorem dX7_second_1 : decode cX7_second 1 = .ok (.bipush 42, 2) := by decide +kernel
theorem dX7_second_3 : decode cX7_second 3 = .ok (.if_icmp .ge 12, 3) := by decide +kernel
theorem dX7_second_6 : decode cX7_second 6 = .ok (.iload_n 0, 1) := by decide +kernel
theorem dX7_second_7 : decode cX7_second 7 = .ok (.invokestatic 40, 3) := by decide +kernel
theorem dX7_second_10 : decode cX7_second 10 = .ok (.iconst 1, 1) := by decide +kernel
theorem dX7_second_11 : decode cX7_second 11 = .ok (.iadd, 1) := by decide +kernel
theorem dX7_second_12 : decode cX7_second 12 = .ok (.goto 10, 3) := by decide +kernel
theorem dX7_second_15 : decode cX7_second 15 = .ok (.iload_n 0, 1) := by decide +kernel
theorem dX7_second_16 : decode cX7_second 16 = .ok (.invokestatic 40, 3) := by decide +kernel
theorem dX7_second_19 : decode cX7_second 19 = .ok (.bipush 8, 2) := by decide +kernel
theorem dX7_second_21 : decode cX7_second 21 = .ok (.iadd, 1) := by decide +kernel
theorem dX7_second_22 : decode cX7_second 22 = .ok (.ireturn, 1) := by decide +kernel
theorem dX7_isGone_0 : decode cX7_isGone 0 = .ok (.aload_n 0, 1) := by decide +kernel
theorem dX7_isGone_1 : decode cX7_isGone 1 = .ok (.getfield 7, 3) := by decide +kernel
theorem dX7_isGone_4 : decode cX7_isGone 4 = .ok (.sipush 164, 3) := by decide +kernel
theorem dX7_isGone_7 : decode cX7_isGone 7 = .ok (.iload_n 1, 1) := by decide +kernel
theorem dX7_isGone_8 : decode cX7_isGone 8 = .ok (.iadd, 1) := by decide +kernel
theorem dX7_isGone_9 : decode cX7_isGone 9 = .ok (.iaload, 1) := by decide +kernel
theorem dX7_isGone_10 : decode cX7_isGone 10 = .ok (.iconst 1, 1) := by decide +kernel
theorem dX7_isGone_11 : decode cX7_isGone 11 = .ok (.if_icmp .ne 7, 3) := by decide +kernel
theorem dX7_isGone_14 : decode cX7_isGone 14 = .ok (.iconst 1, 1) := by decide +kernel
theorem dX7_isGone_15 : decode cX7_isGone 15 = .ok (.goto 4, 3) := by decide +kernel
theorem dX7_isGone_18 : decode cX7_isGone 18 = .ok (.iconst 0, 1) := by decide +kernel
theorem dX7_isGone_19 : decode cX7_isGone 19 = .ok (.ireturn, 1) := by decide +kernel
def ch_wsX7_isVoid : List (List Cond) := [[.code yX7_isVoid cX7_isVoid 2 (some .boolean)], [.methodLink RX7 40 yX7_first, .static yX7_first, .initialized RX7, .code yX7_first cX7_first 1 (some .int), .methodLink RX7 44 yX7_isGone, .instanceMethod yX7_isGone, .selects RX7 yX7_isGone yX7_isGone, .code yX7_isGone cX7_isGone 2 (some .boolean), .fieldLink RX7 7 "TailorChalksModel" "s" "[I", .methodLink RX7 48 yX7_second, .static yX7_second, .code yX7_second cX7_second 1 (some .int)], wsX70]
set_option maxRecDepth 20000 in
theorem hf_wsX7_isVoid : wsX7_isVoid = (ch_wsX7_isVoid).flatten := rfl
set_option maxRecDepth 20000 in
theorem hg_wsX7_isVoid : (wsX7_isVoid).all goodWord = true := by decide +kernel
set_option maxRecDepth 20000 in
theorem gX7_isVoid_X7_first : GoodIn wsX7_isVoid (va_wsS RX7 40 yX7_first wsX7_first) := goodIn_c ch_wsX7_isVoid hf_wsX7_isVoid hg_wsX7_isVoid _ [(1, 0), (1, 1), (1, 2), (1, 3)] rfl
set_option maxRecDepth 20000 in
theorem gX7_isVoid_X7_isGone : GoodIn wsX7_isVoid (wsV RX7 44 RX7 yX7_isGone wsX7_isGone) := goodIn_c ch_wsX7_isVoid hf_wsX7_isVoid hg_wsX7_isVoid _ [(1, 4), (1, 5), (1, 6), (1, 2), (1, 7), (1, 8), (2, 0), (2, 1), (2, 2), (2, 3), (2, 4), (2, 5), (2, 6), (2, 7), (2, 8)] rfl
set_option maxRecDepth 20000 in
theorem gX7_isVoid_X7_second : GoodIn wsX7_isVoid (va_wsS RX7 48 yX7_second wsX7_second) := goodIn_c ch_wsX7_isVoid hf_wsX7_isVoid hg_wsX7_isVoid _ [(1, 9), (1, 10), (1, 2), (1, 11), (1, 0), (1, 1), (1, 2), (1, 3)] rfl
theorem dX7_isVoid_0 : decode cX7_isVoid 0 = .ok (.aload_n 0, 1) := by decide +kernel
theorem dX7_isVoid_1 : decode cX7_isVoid 1 = .ok (.iload_n 1, 1) := by decide +kernel
theorem dX7_isVoid_2 : decode cX7_isVoid 2 = .ok (.invokestatic 40, 3) := by decide +kernel
theorem dX7_isVoid_5 : decode cX7_isVoid 5 = .ok (.invokevirtual 44, 3) := by decide +kernel
theorem dX7_isVoid_8 : decode cX7_isVoid 8 = .ok (.ifCond .ne 14, 3) := by decide +kernel
theorem dX7_isVoid_11 : decode cX7_isVoid 11 = .ok (.aload_n 0, 1) := by decide +kernel
theorem dX7_isVoid_12 : decode cX7_isVoid 12 = .ok (.iload_n 1, 1) := by decide +kernel
theorem dX7_isVoid_13 : decode cX7_isVoid 13 = .ok (.invokestatic 48, 3) := by decide +kernel
theorem dX7_isVoid_16 : decode cX7_isVoid 16 = .ok (.invokevirtual 44, 3) := by decide +kernel
theorem dX7_isVoid_19 : decode cX7_isVoid 19 = .ok (.ifCond .eq 7, 3) := by decide +kernel
theorem dX7_isVoid_22 : decode cX7_isVoid 22 = .ok (.iconst 1, 1) := by decide +kernel
theorem dX7_isVoid_23 : decode cX7_isVoid 23 = .ok (.goto 4, 3) := by decide +kernel
theorem dX7_isVoid_26 : decode cX7_isVoid 26 = .ok (.iconst 0, 1) := by decide +kernel
theorem dX7_isVoid_27 : decode cX7_isVoid 27 = .ok (.ireturn, 1) := by decide +kernel
def ch_wsX7_holds : List (List Cond) := [[.code yX7_holds cX7_holds 2 (some .boolean)], [.fieldLink RX7 7 "TailorChalksModel" "s" "[I", .methodLink RX7 51 yX7_isVoid, .instanceMethod yX7_isVoid, .selects RX7 yX7_isVoid yX7_isVoid, .initialized RX7, .code yX7_isVoid cX7_isVoid 2 (some .boolean), .methodLink RX7 40 yX7_first, .static yX7_first, .code yX7_first cX7_first 1 (some .int), .methodLink RX7 44 yX7_isGone, .instanceMethod yX7_isGone, .selects RX7 yX7_isGone yX7_isGone, .code yX7_isGone cX7_isGone 2 (some .boolean), .methodLink RX7 48 yX7_second, .static yX7_second, .code yX7_second cX7_second 1 (some .int)], wsX70]
set_option maxRecDepth 20000 in
theorem hf_wsX7_holds : wsX7_holds = (ch_wsX7_holds).flatten := rfl
set_option maxRecDepth 20000 in
theorem hg_wsX7_holds : (wsX7_holds).all goodWord = true := by decide +kernel
set_option maxRecDepth 20000 in
theorem gX7_holds_X7_isVoid : GoodIn wsX7_holds (wsV RX7 51 RX7 yX7_isVoid wsX7_isVoid) := goodIn_c ch_wsX7_holds hf_wsX7_holds hg_wsX7_holds _ [(1, 1), (1, 2), (1, 3), (1, 4), (1, 5), (1, 6), (1, 7), (1, 4), (1, 8), (1, 9), (1, 10), (1, 11), (1, 12), (1, 0), (1, 13), (1, 14), (1, 15), (2, 0), (2, 1), (2, 2), (2, 3), (2, 4), (2, 5), (2, 6), (2, 7), (2, 8)] rfl
theorem dX7_holds_0 : decode cX7_holds 0 = .ok (.aload_n 0, 1) := by decide +kernel
theorem dX7_holds_1 : decode cX7_holds 1 = .ok (.iload_n 1, 1) := by decide +kernel
theorem dX7_holds_2 : decode cX7_holds 2 = .ok (.invokevirtual 51, 3) := by decide +kernel
theorem dX7_holds_5 : decode cX7_holds 5 = .ok (.ifCond .ne 30, 3) := by decide +kernel
theorem dX7_holds_8 : decode cX7_holds 8 = .ok (.aload_n 0, 1) := by decide +kernel
theorem dX7_holds_9 : decode cX7_holds 9 = .ok (.getfield 7, 3) := by decide +kernel
theorem dX7_holds_12 : decode cX7_holds 12 = .ok (.iconst 0, 1) := by decide +kernel
theorem dX7_holds_13 : decode cX7_holds 13 = .ok (.iload_n 1, 1) := by decide +kernel
theorem dX7_holds_14 : decode cX7_holds 14 = .ok (.iadd, 1) := by decide +kernel
theorem dX7_holds_15 : decode cX7_holds 15 = .ok (.iaload, 1) := by decide +kernel
theorem dX7_holds_16 : decode cX7_holds 16 = .ok (.ifCond .eq 15, 3) := by decide +kernel
theorem dX7_holds_19 : decode cX7_holds 19 = .ok (.aload_n 0, 1) := by decide +kernel
theorem dX7_holds_20 : decode cX7_holds 20 = .ok (.getfield 7, 3) := by decide +kernel
theorem dX7_holds_23 : decode cX7_holds 23 = .ok (.iconst 0, 1) := by decide +kernel
theorem dX7_holds_24 : decode cX7_holds 24 = .ok (.iload_n 1, 1) := by decide +kernel
theorem dX7_holds_25 : decode cX7_holds 25 = .ok (.iadd, 1) := by decide +kernel
theorem dX7_holds_26 : decode cX7_holds 26 = .ok (.iaload, 1) := by decide +kernel
theorem dX7_holds_27 : decode cX7_holds 27 = .ok (.iconst 2, 1) := by decide +kernel
theorem dX7_holds_28 : decode cX7_holds 28 = .ok (.if_icmp .ne 7, 3) := by decide +kernel
theorem dX7_holds_31 : decode cX7_holds 31 = .ok (.iconst 1, 1) := by decide +kernel
theorem dX7_holds_32 : decode cX7_holds 32 = .ok (.goto 4, 3) := by decide +kernel
theorem dX7_holds_35 : decode cX7_holds 35 = .ok (.iconst 0, 1) := by decide +kernel
theorem dX7_holds_36 : decode cX7_holds 36 = .ok (.ireturn, 1) := by decide +kernel
theorem dX7_looks_0 : decode cX7_looks 0 = .ok (.iconst 0, 1) := by decide +kernel
theorem dX7_looks_1 : decode cX7_looks 1 = .ok (.istore_n 1, 1) := by decide +kernel
theorem dX7_looks_2 : decode cX7_looks 2 = .ok (.iload_n 1, 1) := by decide +kernel
theorem dX7_looks_3 : decode cX7_looks 3 = .ok (.sipush 246, 3) := by decide +kernel
theorem dX7_looks_6 : decode cX7_looks 6 = .ok (.if_icmp .ge 21, 3) := by decide +kernel
theorem dX7_looks_9 : decode cX7_looks 9 = .ok (.aload_n 0, 1) := by decide +kernel
theorem dX7_looks_10 : decode cX7_looks 10 = .ok (.getfield 13, 3) := by decide +kernel
theorem dX7_looks_13 : decode cX7_looks 13 = .ok (.iload_n 1, 1) := by decide +kernel
theorem dX7_looks_14 : decode cX7_looks 14 = .ok (.aload_n 0, 1) := by decide +kernel
theorem dX7_looks_15 : decode cX7_looks 15 = .ok (.getfield 7, 3) := by decide +kernel
theorem dX7_looks_18 : decode cX7_looks 18 = .ok (.iload_n 1, 1) := by decide +kernel
theorem dX7_looks_19 : decode cX7_looks 19 = .ok (.iaload, 1) := by decide +kernel
theorem dX7_looks_20 : decode cX7_looks 20 = .ok (.iastore, 1) := by decide +kernel
theorem dX7_looks_21 : decode cX7_looks 21 = .ok (.iinc 1 1, 3) := by decide +kernel
theorem dX7_looks_24 : decode cX7_looks 24 = .ok (.goto (-22), 3) := by decide +kernel
theorem dX7_looks_27 : decode cX7_looks 27 = .ok (.return_, 1) := by decide +kernel
theorem dX7_records_0 : decode cX7_records 0 = .ok (.aload_n 0, 1) := by decide +kernel
theorem dX7_records_1 : decode cX7_records 1 = .ok (.getfield 54, 3) := by decide +kernel
theorem dX7_records_4 : decode cX7_records 4 = .ok (.bipush 6, 2) := by decide +kernel
theorem dX7_records_6 : decode cX7_records 6 = .ok (.if_icmp .ne 44, 3) := by decide +kernel
theorem dX7_records_9 : decode cX7_records 9 = .ok (.iconst 0, 1) := by decide +kernel
theorem dX7_records_10 : decode cX7_records 10 = .ok (.istore_n 1, 1) := by decide +kernel
theorem dX7_records_11 : decode cX7_records 11 = .ok (.iload_n 1, 1) := by decide +kernel
theorem dX7_records_12 : decode cX7_records 12 = .ok (.sipush 1230, 3) := by decide +kernel
theorem dX7_records_15 : decode cX7_records 15 = .ok (.if_icmp .ge 25, 3) := by decide +kernel
theorem dX7_records_18 : decode cX7_records 18 = .ok (.aload_n 0, 1) := by decide +kernel
theorem dX7_records_19 : decode cX7_records 19 = .ok (.getfield 16, 3) := by decide +kernel
theorem dX7_records_22 : decode cX7_records 22 = .ok (.iload_n 1, 1) := by decide +kernel
theorem dX7_records_23 : decode cX7_records 23 = .ok (.aload_n 0, 1) := by decide +kernel
theorem dX7_records_24 : decode cX7_records 24 = .ok (.getfield 16, 3) := by decide +kernel
theorem dX7_records_27 : decode cX7_records 27 = .ok (.iload_n 1, 1) := by decide +kernel
theorem dX7_records_28 : decode cX7_records 28 = .ok (.sipush 246, 3) := by decide +kernel
theorem dX7_records_31 : decode cX7_records 31 = .ok (.iadd, 1) := by decide +kernel
theorem dX7_records_32 : decode cX7_records 32 = .ok (.iaload, 1) := by decide +kernel
theorem dX7_records_33 : decode cX7_records 33 = .ok (.iastore, 1) := by decide +kernel
theorem dX7_records_34 : decode cX7_records 34 = .ok (.iinc 1 1, 3) := by decide +kernel
theorem dX7_records_37 : decode cX7_records 37 = .ok (.goto (-26), 3) := by decide +kernel
theorem dX7_records_40 : decode cX7_records 40 = .ok (.aload_n 0, 1) := by decide +kernel
theorem dX7_records_41 : decode cX7_records 41 = .ok (.dup, 1) := by decide +kernel
theorem dX7_records_42 : decode cX7_records 42 = .ok (.getfield 54, 3) := by decide +kernel
theorem dX7_records_45 : decode cX7_records 45 = .ok (.iconst 1, 1) := by decide +kernel
theorem dX7_records_46 : decode cX7_records 46 = .ok (.isub, 1) := by decide +kernel
theorem dX7_records_47 : decode cX7_records 47 = .ok (.putfield 54, 3) := by decide +kernel
theorem dX7_records_50 : decode cX7_records 50 = .ok (.iconst 0, 1) := by decide +kernel
theorem dX7_records_51 : decode cX7_records 51 = .ok (.istore_n 1, 1) := by decide +kernel
theorem dX7_records_52 : decode cX7_records 52 = .ok (.iload_n 1, 1) := by decide +kernel
theorem dX7_records_53 : decode cX7_records 53 = .ok (.sipush 246, 3) := by decide +kernel
theorem dX7_records_56 : decode cX7_records 56 = .ok (.if_icmp .ge 30, 3) := by decide +kernel
theorem dX7_records_59 : decode cX7_records 59 = .ok (.aload_n 0, 1) := by decide +kernel
theorem dX7_records_60 : decode cX7_records 60 = .ok (.getfield 16, 3) := by decide +kernel
theorem dX7_records_63 : decode cX7_records 63 = .ok (.sipush 246, 3) := by decide +kernel
theorem dX7_records_66 : decode cX7_records 66 = .ok (.aload_n 0, 1) := by decide +kernel
theorem dX7_records_67 : decode cX7_records 67 = .ok (.getfield 54, 3) := by decide +kernel
theorem dX7_records_70 : decode cX7_records 70 = .ok (.imul, 1) := by decide +kernel
theorem dX7_records_71 : decode cX7_records 71 = .ok (.iload_n 1, 1) := by decide +kernel
theorem dX7_records_72 : decode cX7_records 72 = .ok (.iadd, 1) := by decide +kernel
theorem dX7_records_73 : decode cX7_records 73 = .ok (.aload_n 0, 1) := by decide +kernel
theorem dX7_records_74 : decode cX7_records 74 = .ok (.getfield 13, 3) := by decide +kernel
theorem dX7_records_77 : decode cX7_records 77 = .ok (.iload_n 1, 1) := by decide +kernel
theorem dX7_records_78 : decode cX7_records 78 = .ok (.iaload, 1) := by decide +kernel
theorem dX7_records_79 : decode cX7_records 79 = .ok (.iastore, 1) := by decide +kernel
theorem dX7_records_80 : decode cX7_records 80 = .ok (.iinc 1 1, 3) := by decide +kernel
theorem dX7_records_83 : decode cX7_records 83 = .ok (.goto (-31), 3) := by decide +kernel
theorem dX7_records_86 : decode cX7_records 86 = .ok (.aload_n 0, 1) := by decide +kernel
theorem dX7_records_87 : decode cX7_records 87 = .ok (.dup, 1) := by decide +kernel
theorem dX7_records_88 : decode cX7_records 88 = .ok (.getfield 54, 3) := by decide +kernel
theorem dX7_records_91 : decode cX7_records 91 = .ok (.iconst 1, 1) := by decide +kernel
theorem dX7_records_92 : decode cX7_records 92 = .ok (.iadd, 1) := by decide +kernel
theorem dX7_records_93 : decode cX7_records 93 = .ok (.putfield 54, 3) := by decide +kernel
theorem dX7_records_96 : decode cX7_records 96 = .ok (.return_, 1) := by decide +kernel
def ch_wsX7_layPieces : List (List Cond) := [[.code yX7_layPieces cX7_layPieces 8 none], [.fieldLink RX7 29 "TailorChalksModel" "label" "[I", .fieldLink RX7 7 "TailorChalksModel" "s" "[I", .methodLink RX7 44 yX7_isGone, .instanceMethod yX7_isGone, .selects RX7 yX7_isGone yX7_isGone, .initialized RX7, .code yX7_isGone cX7_isGone 2 (some .boolean), .methodLink RX7 58 yX7_holds, .instanceMethod yX7_holds, .selects RX7 yX7_holds yX7_holds, .code yX7_holds cX7_holds 2 (some .boolean), .methodLink RX7 51 yX7_isVoid, .instanceMethod yX7_isVoid, .selects RX7 yX7_isVoid yX7_isVoid, .code yX7_isVoid cX7_isVoid 2 (some .boolean), .methodLink RX7 40 yX7_first, .static yX7_first, .code yX7_first cX7_first 1 (some .int), .methodLink RX7 48 yX7_second, .static yX7_second, .code yX7_second cX7_second 1 (some .int)], wsX70]
set_option maxRecDepth 20000 in
theorem hf_wsX7_layPieces : wsX7_layPieces = (ch_wsX7_layPieces).flatten := rfl
set_option maxRecDepth 20000 in
theorem hg_wsX7_layPieces : (wsX7_layPieces).all goodWord = true := by decide +kernel
set_option maxRecDepth 20000 in
theorem gX7_layPieces_X7_isGone : GoodIn wsX7_layPieces (wsV RX7 44 RX7 yX7_isGone wsX7_isGone) := goodIn_c ch_wsX7_layPieces hf_wsX7_layPieces hg_wsX7_layPieces _ [(1, 2), (1, 3), (1, 4), (1, 5), (1, 6), (1, 1), (2, 0), (2, 1), (2, 2), (2, 3), (2, 4), (2, 5), (2, 6), (2, 7), (2, 8)] rfl
set_option maxRecDepth 20000 in
theorem gX7_layPieces_X7_holds : GoodIn wsX7_layPieces (wsV RX7 58 RX7 yX7_holds wsX7_holds) := goodIn_c ch_wsX7_layPieces hf_wsX7_layPieces hg_wsX7_layPieces _ [(1, 7), (1, 8), (1, 9), (1, 5), (1, 10), (1, 1), (1, 11), (1, 12), (1, 13), (1, 5), (1, 14), (1, 15), (1, 16), (1, 17), (1, 2), (1, 3), (1, 4), (1, 6), (1, 18), (1, 19), (1, 20), (2, 0), (2, 1), (2, 2), (2, 3), (2, 4), (2, 5), (2, 6), (2, 7), (2, 8)] rfl
set_option maxRecDepth 20000 in
theorem gX7_layPieces_X7_isVoid : GoodIn wsX7_layPieces (wsV RX7 51 RX7 yX7_isVoid wsX7_isVoid) := goodIn_c ch_wsX7_layPieces hf_wsX7_layPieces hg_wsX7_layPieces _ [(1, 11), (1, 12), (1, 13), (1, 5), (1, 14), (1, 15), (1, 16), (1, 5), (1, 17), (1, 2), (1, 3), (1, 4), (1, 6), (1, 1), (1, 18), (1, 19), (1, 20), (2, 0), (2, 1), (2, 2), (2, 3), (2, 4), (2, 5), (2, 6), (2, 7), (2, 8)] rfl
set_option maxRecDepth 20000 in
theorem gX7_layPieces_X7_first : GoodIn wsX7_layPieces (va_wsS RX7 40 yX7_first wsX7_first) := goodIn_c ch_wsX7_layPieces hf_wsX7_layPieces hg_wsX7_layPieces _ [(1, 15), (1, 16), (1, 5), (1, 17)] rfl
set_option maxRecDepth 20000 in
theorem gX7_layPieces_X7_second : GoodIn wsX7_layPieces (va_wsS RX7 48 yX7_second wsX7_second) := goodIn_c ch_wsX7_layPieces hf_wsX7_layPieces hg_wsX7_layPieces _ [(1, 18), (1, 19), (1, 5), (1, 20), (1, 15), (1, 16), (1, 5), (1, 17)] rfl
theorem dX7_layPieces_0 : decode cX7_layPieces 0 = .ok (.iconst 0, 1) := by decide +kernel
theorem dX7_layPieces_1 : decode cX7_layPieces 1 = .ok (.istore_n 3, 1) := by decide +kernel
theorem dX7_layPieces_2 : decode cX7_layPieces 2 = .ok (.iload_n 3, 1) := by decide +kernel
theorem dX7_layPieces_3 : decode cX7_layPieces 3 = .ok (.bipush 48, 2) := by decide +kernel
theorem dX7_layPieces_5 : decode cX7_layPieces 5 = .ok (.if_icmp .ge 29, 3) := by decide +kernel
theorem dX7_layPieces_8 : decode cX7_layPieces 8 = .ok (.aload_n 0, 1) := by decide +kernel
theorem dX7_layPieces_9 : decode cX7_layPieces 9 = .ok (.getfield 29, 3) := by decide +kernel
theorem dX7_layPieces_12 : decode cX7_layPieces 12 = .ok (.iload_n 3, 1) := by decide +kernel
theorem dX7_layPieces_13 : decode cX7_layPieces 13 = .ok (.aload_n 0, 1) := by decide +kernel
theorem dX7_layPieces_14 : decode cX7_layPieces 14 = .ok (.iload_n 3, 1) := by decide +kernel
theorem dX7_layPieces_15 : decode cX7_layPieces 15 = .ok (.invokevirtual 44, 3) := by decide +kernel
theorem dX7_layPieces_18 : decode cX7_layPieces 18 = .ok (.ifCond .eq 8, 3) := by decide +kernel
theorem dX7_layPieces_21 : decode cX7_layPieces 21 = .ok (.bipush (-6), 2) := by decide +kernel
theorem dX7_layPieces_23 : decode cX7_layPieces 23 = .ok (.goto 4, 3) := by decide +kernel
theorem dX7_layPieces_26 : decode cX7_layPieces 26 = .ok (.iload_n 3, 1) := by decide +kernel
theorem dX7_layPieces_27 : decode cX7_layPieces 27 = .ok (.iastore, 1) := by decide +kernel
theorem dX7_layPieces_28 : decode cX7_layPieces 28 = .ok (.iinc 3 1, 3) := by decide +kernel
theorem dX7_layPieces_31 : decode cX7_layPieces 31 = .ok (.goto (-29), 3) := by decide +kernel
theorem dX7_layPieces_34 : decode cX7_layPieces 34 = .ok (.iconst 1, 1) := by decide +kernel
theorem dX7_layPieces_35 : decode cX7_layPieces 35 = .ok (.istore_n 3, 1) := by decide +kernel
theorem dX7_layPieces_36 : decode cX7_layPieces 36 = .ok (.iload_n 3, 1) := by decide +kernel
theorem dX7_layPieces_37 : decode cX7_layPieces 37 = .ok (.ifCond .eq 154, 3) := by decide +kernel
theorem dX7_layPieces_40 : decode cX7_layPieces 40 = .ok (.iconst 0, 1) := by decide +kernel
theorem dX7_layPieces_41 : decode cX7_layPieces 41 = .ok (.istore_n 3, 1) := by decide +kernel
theorem dX7_layPieces_42 : decode cX7_layPieces 42 = .ok (.iconst 0, 1) := by decide +kernel
theorem dX7_layPieces_43 : decode cX7_layPieces 43 = .ok (.istore 4, 2) := by decide +kernel
theorem dX7_layPieces_45 : decode cX7_layPieces 45 = .ok (.iload 4, 2) := by decide +kernel
theorem dX7_layPieces_47 : decode cX7_layPieces 47 = .ok (.bipush 82, 2) := by decide +kernel
theorem dX7_layPieces_49 : decode cX7_layPieces 49 = .ok (.if_icmp .ge 139, 3) := by decide +kernel
theorem dX7_layPieces_52 : decode cX7_layPieces 52 = .ok (.iload 4, 2) := by decide +kernel
theorem dX7_layPieces_54 : decode cX7_layPieces 54 = .ok (.iload_n 1, 1) := by decide +kernel
theorem dX7_layPieces_55 : decode cX7_layPieces 55 = .ok (.if_icmp .eq 42, 3) := by decide +kernel
theorem dX7_layPieces_58 : decode cX7_layPieces 58 = .ok (.aload_n 0, 1) := by decide +kernel
theorem dX7_layPieces_59 : decode cX7_layPieces 59 = .ok (.iload 4, 2) := by decide +kernel
theorem dX7_layPieces_61 : decode cX7_layPieces 61 = .ok (.invokevirtual 58, 3) := by decide +kernel
theorem dX7_layPieces_64 : decode cX7_layPieces 64 = .ok (.ifCond .ne 29, 3) := by decide +kernel
theorem dX7_layPieces_67 : decode cX7_layPieces 67 = .ok (.iload_n 2, 1) := by decide +kernel
theorem dX7_layPieces_68 : decode cX7_layPieces 68 = .ok (.ifCond .eq 29, 3) := by decide +kernel
theorem dX7_layPieces_71 : decode cX7_layPieces 71 = .ok (.aload_n 0, 1) := by decide +kernel
theorem dX7_layPieces_72 : decode cX7_layPieces 72 = .ok (.iload 4, 2) := by decide +kernel
theorem dX7_layPieces_74 : decode cX7_layPieces 74 = .ok (.invokevirtual 51, 3) := by decide +kernel
theorem dX7_layPieces_77 : decode cX7_layPieces 77 = .ok (.ifCond .ne 20, 3) := by decide +kernel
theorem dX7_layPieces_80 : decode cX7_layPieces 80 = .ok (.aload_n 0, 1) := by decide +kernel
theorem dX7_layPieces_81 : decode cX7_layPieces 81 = .ok (.getfield 7, 3) := by decide +kernel
theorem dX7_layPieces_84 : decode cX7_layPieces 84 = .ok (.iconst 0, 1) := by decide +kernel
theorem dX7_layPieces_85 : decode cX7_layPieces 85 = .ok (.iload 4, 2) := by decide +kernel
theorem dX7_layPieces_87 : decode cX7_layPieces 87 = .ok (.iadd, 1) := by decide +kernel
theorem dX7_layPieces_88 : decode cX7_layPieces 88 = .ok (.iaload, 1) := by decide +kernel
theorem dX7_layPieces_89 : decode cX7_layPieces 89 = .ok (.iconst 3, 1) := by decide +kernel
theorem dX7_layPieces_90 : decode cX7_layPieces 90 = .ok (.if_icmp .ne 7, 3) := by decide +kernel
theorem dX7_layPieces_93 : decode cX7_layPieces 93 = .ok (.iconst 1, 1) := by decide +kernel
theorem dX7_layPieces_94 : decode cX7_layPieces 94 = .ok (.goto 4, 3) := by decide +kernel
theorem dX7_layPieces_97 : decode cX7_layPieces 97 = .ok (.iconst 0, 1) := by decide +kernel
theorem dX7_layPieces_98 : decode cX7_layPieces 98 = .ok (.istore 5, 2) := by decide +kernel
theorem dX7_layPieces_100 : decode cX7_layPieces 100 = .ok (.aload_n 0, 1) := by decide +kernel
theorem dX7_layPieces_101 : decode cX7_layPieces 101 = .ok (.getfield 29, 3) := by decide +kernel
theorem dX7_layPieces_104 : decode cX7_layPieces 104 = .ok (.iload 4, 2) := by decide +kernel
theorem dX7_layPieces_106 : decode cX7_layPieces 106 = .ok (.invokestatic 40, 3) := by decide +kernel
theorem dX7_layPieces_109 : decode cX7_layPieces 109 = .ok (.iaload, 1) := by decide +kernel
theorem dX7_layPieces_110 : decode cX7_layPieces 110 = .ok (.istore 6, 2) := by decide +kernel
theorem dX7_layPieces_112 : decode cX7_layPieces 112 = .ok (.aload_n 0, 1) := by decide +kernel
theorem dX7_layPieces_113 : decode cX7_layPieces 113 = .ok (.getfield 29, 3) := by decide +kernel
theorem dX7_layPieces_116 : decode cX7_layPieces 116 = .ok (.iload 4, 2) := by decide +kernel
theorem dX7_layPieces_118 : decode cX7_layPieces 118 = .ok (.invokestatic 48, 3) := by decide +kernel
theorem dX7_layPieces_121 : decode cX7_layPieces 121 = .ok (.iaload, 1) := by decide +kernel
theorem dX7_layPieces_122 : decode cX7_layPieces 122 = .ok (.istore 7, 2) := by decide +kernel
theorem dX7_layPieces_124 : decode cX7_layPieces 124 = .ok (.iload 5, 2) := by decide +kernel
theorem dX7_layPieces_126 : decode cX7_layPieces 126 = .ok (.ifCond .eq 56, 3) := by decide +kernel
theorem dX7_layPieces_129 : decode cX7_layPieces 129 = .ok (.iload 6, 2) := by decide +kernel
theorem dX7_layPieces_131 : decode cX7_layPieces 131 = .ok (.iload 7, 2) := by decide +kernel
theorem dX7_layPieces_133 : decode cX7_layPieces 133 = .ok (.if_icmp .eq 49, 3) := by decide +kernel
theorem dX7_layPieces_136 : decode cX7_layPieces 136 = .ok (.aload_n 0, 1) := by decide +kernel
theorem dX7_layPieces_137 : decode cX7_layPieces 137 = .ok (.getfield 29, 3) := by decide +kernel
theorem dX7_layPieces_140 : decode cX7_layPieces 140 = .ok (.iload 4, 2) := by decide +kernel
theorem dX7_layPieces_142 : decode cX7_layPieces 142 = .ok (.invokestatic 40, 3) := by decide +kernel
theorem dX7_layPieces_145 : decode cX7_layPieces 145 = .ok (.iload 6, 2) := by decide +kernel
theorem dX7_layPieces_147 : decode cX7_layPieces 147 = .ok (.iload 7, 2) := by decide +kernel
theorem dX7_layPieces_149 : decode cX7_layPieces 149 = .ok (.if_icmp .ge 8, 3) := by decide +kernel
theorem dX7_layPieces_152 : decode cX7_layPieces 152 = .ok (.iload 6, 2) := by decide +kernel
theorem dX7_layPieces_154 : decode cX7_layPieces 154 = .ok (.goto 5, 3) := by decide +kernel
theorem dX7_layPieces_157 : decode cX7_layPieces 157 = .ok (.iload 7, 2) := by decide +kernel
theorem dX7_layPieces_159 : decode cX7_layPieces 159 = .ok (.iastore, 1) := by decide +kernel
theorem dX7_layPieces_160 : decode cX7_layPieces 160 = .ok (.aload_n 0, 1) := by decide +kernel
theorem dX7_layPieces_161 : decode cX7_layPieces 161 = .ok (.getfield 29, 3) := by decide +kernel
theorem dX7_layPieces_164 : decode cX7_layPieces 164 = .ok (.iload 4, 2) := by decide +kernel
theorem dX7_layPieces_166 : decode cX7_layPieces 166 = .ok (.invokestatic 48, 3) := by decide +kernel
theorem dX7_layPieces_169 : decode cX7_layPieces 169 = .ok (.aload_n 0, 1) := by decide +kernel
theorem dX7_layPieces_170 : decode cX7_layPieces 170 = .ok (.getfield 29, 3) := by decide +kernel
theorem dX7_layPieces_173 : decode cX7_layPieces 173 = .ok (.iload 4, 2) := by decide +kernel
theorem dX7_layPieces_175 : decode cX7_layPieces 175 = .ok (.invokestatic 40, 3) := by decide +kernel
theorem dX7_layPieces_178 : decode cX7_layPieces 178 = .ok (.iaload, 1) := by decide +kernel
theorem dX7_layPieces_179 : decode cX7_layPieces 179 = .ok (.iastore, 1) := by decide +kernel
theorem dX7_layPieces_180 : decode cX7_layPieces 180 = .ok (.iconst 1, 1) := by decide +kernel
theorem dX7_layPieces_181 : decode cX7_layPieces 181 = .ok (.istore_n 3, 1) := by decide +kernel
theorem dX7_layPieces_182 : decode cX7_layPieces 182 = .ok (.iinc 4 1, 3) := by decide +kernel
theorem dX7_layPieces_185 : decode cX7_layPieces 185 = .ok (.goto (-140), 3) := by decide +kernel
theorem dX7_layPieces_188 : decode cX7_layPieces 188 = .ok (.goto (-152), 3) := by decide +kernel
theorem dX7_layPieces_191 : decode cX7_layPieces 191 = .ok (.return_, 1) := by decide +kernel
theorem dX7_cellsOf_0 : decode cX7_cellsOf 0 = .ok (.iconst 0, 1) := by decide +kernel
theorem dX7_cellsOf_1 : decode cX7_cellsOf 1 = .ok (.istore_n 2, 1) := by decide +kernel
theorem dX7_cellsOf_2 : decode cX7_cellsOf 2 = .ok (.iconst 0, 1) := by decide +kernel
theorem dX7_cellsOf_3 : decode cX7_cellsOf 3 = .ok (.istore_n 3, 1) := by decide +kernel
theorem dX7_cellsOf_4 : decode cX7_cellsOf 4 = .ok (.iload_n 3, 1) := by decide +kernel
theorem dX7_cellsOf_5 : decode cX7_cellsOf 5 = .ok (.bipush 48, 2) := by decide +kernel
theorem dX7_cellsOf_7 : decode cX7_cellsOf 7 = .ok (.if_icmp .ge 27, 3) := by decide +kernel
theorem dX7_cellsOf_10 : decode cX7_cellsOf 10 = .ok (.iload_n 2, 1) := by decide +kernel
theorem dX7_cellsOf_11 : decode cX7_cellsOf 11 = .ok (.aload_n 0, 1) := by decide +kernel
theorem dX7_cellsOf_12 : decode cX7_cellsOf 12 = .ok (.getfield 29, 3) := by decide +kernel
theorem dX7_cellsOf_15 : decode cX7_cellsOf 15 = .ok (.iload_n 3, 1) := by decide +kernel
theorem dX7_cellsOf_16 : decode cX7_cellsOf 16 = .ok (.iaload, 1) := by decide +kernel
theorem dX7_cellsOf_17 : decode cX7_cellsOf 17 = .ok (.iload_n 1, 1) := by decide +kernel
theorem dX7_cellsOf_18 : decode cX7_cellsOf 18 = .ok (.if_icmp .ne 7, 3) := by decide +kernel
theorem dX7_cellsOf_21 : decode cX7_cellsOf 21 = .ok (.iconst 1, 1) := by decide +kernel
theorem dX7_cellsOf_22 : decode cX7_cellsOf 22 = .ok (.goto 4, 3) := by decide +kernel
theorem dX7_cellsOf_25 : decode cX7_cellsOf 25 = .ok (.iconst 0, 1) := by decide +kernel
theorem dX7_cellsOf_26 : decode cX7_cellsOf 26 = .ok (.iadd, 1) := by decide +kernel
theorem dX7_cellsOf_27 : decode cX7_cellsOf 27 = .ok (.istore_n 2, 1) := by decide +kernel
theorem dX7_cellsOf_28 : decode cX7_cellsOf 28 = .ok (.iinc 3 1, 3) := by decide +kernel
theorem dX7_cellsOf_31 : decode cX7_cellsOf 31 = .ok (.goto (-27), 3) := by decide +kernel
theorem dX7_cellsOf_34 : decode cX7_cellsOf 34 = .ok (.iload_n 2, 1) := by decide +kernel
theorem dX7_cellsOf_35 : decode cX7_cellsOf 35 = .ok (.ireturn, 1) := by decide +kernel
def ch_wsX7_fallsBy : List (List Cond) := [[.code yX7_fallsBy cX7_fallsBy 5 (some .int)], wsX7_fallsBy_r1, wsX7_fallsBy_r2, wsX70]
set_option maxRecDepth 20000 in
theorem hf_wsX7_fallsBy : wsX7_fallsBy = (ch_wsX7_fallsBy).flatten := rfl
set_option maxRecDepth 20000 in
theorem hg_wsX7_fallsBy : (wsX7_fallsBy).all goodWord = true := by decide +kernel
set_option maxRecDepth 20000 in
theorem gX7_fallsBy_X7_layPieces : GoodIn wsX7_fallsBy (wsV RX7 61 RX7 yX7_layPieces wsX7_layPieces) := goodIn_c ch_wsX7_fallsBy hf_wsX7_fallsBy hg_wsX7_fallsBy _ [(1, 1), (1, 2), (1, 3), (1, 4), (1, 5), (1, 0), (1, 6), (1, 7), (1, 8), (1, 9), (1, 4), (1, 10), (1, 11), (1, 12), (1, 13), (1, 14), (1, 15), (1, 16), (1, 17), (1, 18), (1, 19), (1, 20), (1, 21), (1, 22), (1, 23), (2, 0), (3, 0), (3, 1), (3, 2), (3, 3), (3, 4), (3, 5), (3, 6), (3, 7), (3, 8)] rfl
set_option maxRecDepth 20000 in
theorem gX7_fallsBy_X7_first : GoodIn wsX7_fallsBy (va_wsS RX7 40 yX7_first wsX7_first) := goodIn_c ch_wsX7_fallsBy hf_wsX7_fallsBy hg_wsX7_fallsBy _ [(1, 19), (1, 20), (1, 4), (1, 21)] rfl
set_option maxRecDepth 20000 in
theorem gX7_fallsBy_X7_second : GoodIn wsX7_fallsBy (va_wsS RX7 48 yX7_second wsX7_second) := goodIn_c ch_wsX7_fallsBy hf_wsX7_fallsBy hg_wsX7_fallsBy _ [(1, 22), (1, 23), (1, 4), (2, 0), (1, 19), (1, 20), (1, 4), (1, 21)] rfl
set_option maxRecDepth 20000 in
theorem gX7_fallsBy_X7_cellsOf : GoodIn wsX7_fallsBy (wsV RX7 65 RX7 yX7_cellsOf wsX7_cellsOf) := goodIn_c ch_wsX7_fallsBy hf_wsX7_fallsBy hg_wsX7_fallsBy _ [(2, 1), (2, 2), (2, 3), (1, 4), (2, 4), (1, 0), (3, 0), (3, 1), (3, 2), (3, 3), (3, 4), (3, 5), (3, 6), (3, 7), (3, 8)] rfl
theorem dX7_fallsBy_0 : decode cX7_fallsBy 0 = .ok (.aload_n 0, 1) := by decide +kernel
theorem dX7_fallsBy_1 : decode cX7_fallsBy 1 = .ok (.iload_n 1, 1) := by decide +kernel
theorem dX7_fallsBy_2 : decode cX7_fallsBy 2 = .ok (.iconst 0, 1) := by decide +kernel
theorem dX7_fallsBy_3 : decode cX7_fallsBy 3 = .ok (.invokevirtual 61, 3) := by decide +kernel
theorem dX7_fallsBy_6 : decode cX7_fallsBy 6 = .ok (.aload_n 0, 1) := by decide +kernel
theorem dX7_fallsBy_7 : decode cX7_fallsBy 7 = .ok (.getfield 29, 3) := by decide +kernel
theorem dX7_fallsBy_10 : decode cX7_fallsBy 10 = .ok (.iload_n 1, 1) := by decide +kernel
theorem dX7_fallsBy_11 : decode cX7_fallsBy 11 = .ok (.invokestatic 40, 3) := by decide +kernel
theorem dX7_fallsBy_14 : decode cX7_fallsBy 14 = .ok (.iaload, 1) := by decide +kernel
theorem dX7_fallsBy_15 : decode cX7_fallsBy 15 = .ok (.istore_n 2, 1) := by decide +kernel
theorem dX7_fallsBy_16 : decode cX7_fallsBy 16 = .ok (.aload_n 0, 1) := by decide +kernel
theorem dX7_fallsBy_17 : decode cX7_fallsBy 17 = .ok (.getfield 29, 3) := by decide +kernel
theorem dX7_fallsBy_20 : decode cX7_fallsBy 20 = .ok (.iload_n 1, 1) := by decide +kernel
theorem dX7_fallsBy_21 : decode cX7_fallsBy 21 = .ok (.invokestatic 48, 3) := by decide +kernel
theorem dX7_fallsBy_24 : decode cX7_fallsBy 24 = .ok (.iaload, 1) := by decide +kernel
theorem dX7_fallsBy_25 : decode cX7_fallsBy 25 = .ok (.istore_n 3, 1) := by decide +kernel
theorem dX7_fallsBy_26 : decode cX7_fallsBy 26 = .ok (.aload_n 0, 1) := by decide +kernel
theorem dX7_fallsBy_27 : decode cX7_fallsBy 27 = .ok (.iload_n 2, 1) := by decide +kernel
theorem dX7_fallsBy_28 : decode cX7_fallsBy 28 = .ok (.invokevirtual 65, 3) := by decide +kernel
theorem dX7_fallsBy_31 : decode cX7_fallsBy 31 = .ok (.aload_n 0, 1) := by decide +kernel
theorem dX7_fallsBy_32 : decode cX7_fallsBy 32 = .ok (.iload_n 3, 1) := by decide +kernel
theorem dX7_fallsBy_33 : decode cX7_fallsBy 33 = .ok (.invokevirtual 65, 3) := by decide +kernel
theorem dX7_fallsBy_36 : decode cX7_fallsBy 36 = .ok (.if_icmp .ge 7, 3) := by decide +kernel
theorem dX7_fallsBy_39 : decode cX7_fallsBy 39 = .ok (.iload_n 2, 1) := by decide +kernel
theorem dX7_fallsBy_40 : decode cX7_fallsBy 40 = .ok (.goto 4, 3) := by decide +kernel
theorem dX7_fallsBy_43 : decode cX7_fallsBy 43 = .ok (.iload_n 3, 1) := by decide +kernel
theorem dX7_fallsBy_44 : decode cX7_fallsBy 44 = .ok (.istore 4, 2) := by decide +kernel
theorem dX7_fallsBy_46 : decode cX7_fallsBy 46 = .ok (.iload_n 2, 1) := by decide +kernel
theorem dX7_fallsBy_47 : decode cX7_fallsBy 47 = .ok (.iload_n 3, 1) := by decide +kernel
theorem dX7_fallsBy_48 : decode cX7_fallsBy 48 = .ok (.if_icmp .eq 14, 3) := by decide +kernel
theorem dX7_fallsBy_51 : decode cX7_fallsBy 51 = .ok (.aload_n 0, 1) := by decide +kernel
theorem dX7_fallsBy_52 : decode cX7_fallsBy 52 = .ok (.iload 4, 2) := by decide +kernel
theorem dX7_fallsBy_54 : decode cX7_fallsBy 54 = .ok (.invokevirtual 65, 3) := by decide +kernel
theorem dX7_fallsBy_57 : decode cX7_fallsBy 57 = .ok (.bipush 12, 2) := by decide +kernel
theorem dX7_fallsBy_59 : decode cX7_fallsBy 59 = .ok (.if_icmp .le 8, 3) := by decide +kernel
theorem dX7_fallsBy_62 : decode cX7_fallsBy 62 = .ok (.bipush (-6), 2) := by decide +kernel
theorem dX7_fallsBy_64 : decode cX7_fallsBy 64 = .ok (.goto 5, 3) := by decide +kernel
theorem dX7_fallsBy_67 : decode cX7_fallsBy 67 = .ok (.iload 4, 2) := by decide +kernel
theorem dX7_fallsBy_69 : decode cX7_fallsBy 69 = .ok (.ireturn, 1) := by decide +kernel
def ch_wsX7_cellsBy : List (List Cond) := [[.code yX7_cellsBy cX7_cellsBy 3 (some .int)], wsX7_cellsBy_r1, wsX7_cellsBy_r2, wsX70]
set_option maxRecDepth 20000 in
theorem hf_wsX7_cellsBy : wsX7_cellsBy = (ch_wsX7_cellsBy).flatten := rfl
set_option maxRecDepth 20000 in
theorem hg_wsX7_cellsBy : (wsX7_cellsBy).all goodWord = true := by decide +kernel
set_option maxRecDepth 20000 in
theorem gX7_cellsBy_X7_fallsBy : GoodIn wsX7_cellsBy (wsV RX7 68 RX7 yX7_fallsBy wsX7_fallsBy) := goodIn_c ch_wsX7_cellsBy hf_wsX7_cellsBy hg_wsX7_cellsBy _ [(1, 0), (1, 1), (1, 2), (1, 3), (1, 4), (1, 5), (1, 6), (1, 7), (1, 8), (1, 3), (1, 9), (1, 10), (1, 11), (1, 12), (1, 13), (1, 14), (1, 15), (1, 16), (1, 17), (1, 18), (1, 19), (1, 20), (1, 21), (1, 22), (1, 23), (2, 0), (2, 1), (2, 2), (2, 3), (2, 4), (2, 5), (2, 6), (2, 7), (2, 8), (3, 0), (3, 1), (3, 2), (3, 3), (3, 4), (3, 5), (3, 6), (3, 7), (3, 8)] rfl
set_option maxRecDepth 20000 in
theorem gX7_cellsBy_X7_cellsOf : GoodIn wsX7_cellsBy (wsV RX7 65 RX7 yX7_cellsOf wsX7_cellsOf) := goodIn_c ch_wsX7_cellsBy hf_wsX7_cellsBy hg_wsX7_cellsBy _ [(2, 5), (2, 6), (2, 7), (1, 3), (2, 8), (1, 5), (3, 0), (3, 1), (3, 2), (3, 3), (3, 4), (3, 5), (3, 6), (3, 7), (3, 8)] rfl
theorem dX7_cellsBy_0 : decode cX7_cellsBy 0 = .ok (.aload_n 0, 1) := by decide +kernel
theorem dX7_cellsBy_1 : decode cX7_cellsBy 1 = .ok (.iload_n 1, 1) := by decide +kernel
theorem dX7_cellsBy_2 : decode cX7_cellsBy 2 = .ok (.invokevirtual 68, 3) := by decide +kernel
theorem dX7_cellsBy_5 : decode cX7_cellsBy 5 = .ok (.istore_n 2, 1) := by decide +kernel
theorem dX7_cellsBy_6 : decode cX7_cellsBy 6 = .ok (.iload_n 2, 1) := by decide +kernel
theorem dX7_cellsBy_7 : decode cX7_cellsBy 7 = .ok (.bipush (-6), 2) := by decide +kernel
theorem dX7_cellsBy_9 : decode cX7_cellsBy 9 = .ok (.if_icmp .ne 7, 3) := by decide +kernel
theorem dX7_cellsBy_12 : decode cX7_cellsBy 12 = .ok (.iconst 0, 1) := by decide +kernel
theorem dX7_cellsBy_13 : decode cX7_cellsBy 13 = .ok (.goto 8, 3) := by decide +kernel
theorem dX7_cellsBy_16 : decode cX7_cellsBy 16 = .ok (.aload_n 0, 1) := by decide +kernel
theorem dX7_cellsBy_17 : decode cX7_cellsBy 17 = .ok (.iload_n 2, 1) := by decide +kernel
theorem dX7_cellsBy_18 : decode cX7_cellsBy 18 = .ok (.invokevirtual 65, 3) := by decide +kernel
theorem dX7_cellsBy_21 : decode cX7_cellsBy 21 = .ok (.ireturn, 1) := by decide +kernel
def ch_wsX7_left : List (List Cond) := [[.code yX7_left cX7_left 3 (some .int)], [.methodLink RX7 44 yX7_isGone, .instanceMethod yX7_isGone, .selects RX7 yX7_isGone yX7_isGone, .initialized RX7, .code yX7_isGone cX7_isGone 2 (some .boolean), .fieldLink RX7 7 "TailorChalksModel" "s" "[I"], wsX70]
set_option maxRecDepth 20000 in
theorem hf_wsX7_left : wsX7_left = (ch_wsX7_left).flatten := rfl
set_option maxRecDepth 20000 in
theorem hg_wsX7_left : (wsX7_left).all goodWord = true := by decide +kernel
set_option maxRecDepth 20000 in
theorem gX7_left_X7_isGone : GoodIn wsX7_left (wsV RX7 44 RX7 yX7_isGone wsX7_isGone) := goodIn_c ch_wsX7_left hf_wsX7_left hg_wsX7_left _ [(1, 0), (1, 1), (1, 2), (1, 3), (1, 4), (1, 5), (2, 0), (2, 1), (2, 2), (2, 3), (2, 4), (2, 5), (2, 6), (2, 7), (2, 8)] rfl
theorem dX7_left_0 : decode cX7_left 0 = .ok (.iconst 0, 1) := by decide +kernel
theorem dX7_left_1 : decode cX7_left 1 = .ok (.istore_n 1, 1) := by decide +kernel
theorem dX7_left_2 : decode cX7_left 2 = .ok (.iconst 0, 1) := by decide +kernel
theorem dX7_left_3 : decode cX7_left 3 = .ok (.istore_n 2, 1) := by decide +kernel
theorem dX7_left_4 : decode cX7_left 4 = .ok (.iload_n 2, 1) := by decide +kernel
theorem dX7_left_5 : decode cX7_left 5 = .ok (.bipush 48, 2) := by decide +kernel
theorem dX7_left_7 : decode cX7_left 7 = .ok (.if_icmp .ge 25, 3) := by decide +kernel
theorem dX7_left_10 : decode cX7_left 10 = .ok (.iload_n 1, 1) := by decide +kernel
theorem dX7_left_11 : decode cX7_left 11 = .ok (.aload_n 0, 1) := by decide +kernel
theorem dX7_left_12 : decode cX7_left 12 = .ok (.iload_n 2, 1) := by decide +kernel
theorem dX7_left_13 : decode cX7_left 13 = .ok (.invokevirtual 44, 3) := by decide +kernel
theorem dX7_left_16 : decode cX7_left 16 = .ok (.ifCond .eq 7, 3) := by decide +kernel
theorem dX7_left_19 : decode cX7_left 19 = .ok (.iconst 0, 1) := by decide +kernel
theorem dX7_left_20 : decode cX7_left 20 = .ok (.goto 4, 3) := by decide +kernel
theorem dX7_left_23 : decode cX7_left 23 = .ok (.iconst 1, 1) := by decide +kernel
theorem dX7_left_24 : decode cX7_left 24 = .ok (.iadd, 1) := by decide +kernel
theorem dX7_left_25 : decode cX7_left 25 = .ok (.istore_n 1, 1) := by decide +kernel
theorem dX7_left_26 : decode cX7_left 26 = .ok (.iinc 2 1, 3) := by decide +kernel
theorem dX7_left_29 : decode cX7_left 29 = .ok (.goto (-25), 3) := by decide +kernel
theorem dX7_left_32 : decode cX7_left 32 = .ok (.iload_n 1, 1) := by decide +kernel
theorem dX7_left_33 : decode cX7_left 33 = .ok (.ireturn, 1) := by decide +kernel
def ch_wsX7_isOver : List (List Cond) := [[.code yX7_isOver cX7_isOver 1 (some .boolean)], [.fieldLink RX7 7 "TailorChalksModel" "s" "[I", .methodLink RX7 71 yX7_left, .instanceMethod yX7_left, .selects RX7 yX7_left yX7_left, .initialized RX7, .code yX7_left cX7_left 3 (some .int), .methodLink RX7 44 yX7_isGone, .instanceMethod yX7_isGone, .selects RX7 yX7_isGone yX7_isGone, .code yX7_isGone cX7_isGone 2 (some .boolean)], wsX70]
set_option maxRecDepth 20000 in
theorem hf_wsX7_isOver : wsX7_isOver = (ch_wsX7_isOver).flatten := rfl
set_option maxRecDepth 20000 in
theorem hg_wsX7_isOver : (wsX7_isOver).all goodWord = true := by decide +kernel
set_option maxRecDepth 20000 in
theorem gX7_isOver_X7_left : GoodIn wsX7_isOver (wsV RX7 71 RX7 yX7_left wsX7_left) := goodIn_c ch_wsX7_isOver hf_wsX7_isOver hg_wsX7_isOver _ [(1, 1), (1, 2), (1, 3), (1, 4), (1, 5), (1, 6), (1, 7), (1, 8), (1, 4), (1, 9), (1, 0), (2, 0), (2, 1), (2, 2), (2, 3), (2, 4), (2, 5), (2, 6), (2, 7), (2, 8)] rfl
theorem dX7_isOver_0 : decode cX7_isOver 0 = .ok (.aload_n 0, 1) := by decide +kernel
theorem dX7_isOver_1 : decode cX7_isOver 1 = .ok (.getfield 7, 3) := by decide +kernel
theorem dX7_isOver_4 : decode cX7_isOver 4 = .ok (.sipush 244, 3) := by decide +kernel
theorem dX7_isOver_7 : decode cX7_isOver 7 = .ok (.iaload, 1) := by decide +kernel
theorem dX7_isOver_8 : decode cX7_isOver 8 = .ok (.sipush 200, 3) := by decide +kernel
theorem dX7_isOver_11 : decode cX7_isOver 11 = .ok (.if_icmp .ge 12, 3) := by decide +kernel
theorem dX7_isOver_14 : decode cX7_isOver 14 = .ok (.aload_n 0, 1) := by decide +kernel
theorem dX7_isOver_15 : decode cX7_isOver 15 = .ok (.invokevirtual 71, 3) := by decide +kernel
theorem dX7_isOver_18 : decode cX7_isOver 18 = .ok (.bipush 13, 2) := by decide +kernel
theorem dX7_isOver_20 : decode cX7_isOver 20 = .ok (.if_icmp .ge 7, 3) := by decide +kernel
theorem dX7_isOver_23 : decode cX7_isOver 23 = .ok (.iconst 1, 1) := by decide +kernel
theorem dX7_isOver_24 : decode cX7_isOver 24 = .ok (.goto 4, 3) := by decide +kernel
theorem dX7_isOver_27 : decode cX7_isOver 27 = .ok (.iconst 0, 1) := by decide +kernel
theorem dX7_isOver_28 : decode cX7_isOver 28 = .ok (.ireturn, 1) := by decide +kernel
def ch_wsX7_rankOf : List (List Cond) := [[.code yX7_rankOf cX7_rankOf 5 (some .int)], [.fieldLink RX7 7 "TailorChalksModel" "s" "[I", .methodLink RX7 32 yX7_at, .static yX7_at, .initialized RX7, .code yX7_at cX7_at 2 (some .int), .methodLink RX7 75 yX7_chalkAt, .instanceMethod yX7_chalkAt, .selects RX7 yX7_chalkAt yX7_chalkAt, .code yX7_chalkAt cX7_chalkAt 3 (some .int)], wsX70]
set_option maxRecDepth 20000 in
theorem hf_wsX7_rankOf : wsX7_rankOf = (ch_wsX7_rankOf).flatten := rfl
set_option maxRecDepth 20000 in
theorem hg_wsX7_rankOf : (wsX7_rankOf).all goodWord = true := by decide +kernel
set_option maxRecDepth 20000 in
theorem gX7_rankOf_X7_at : GoodIn wsX7_rankOf (va_wsS RX7 32 yX7_at wsX7_at) := goodIn_c ch_wsX7_rankOf hf_wsX7_rankOf hg_wsX7_rankOf _ [(1, 1), (1, 2), (1, 3), (1, 4)] rfl
set_option maxRecDepth 20000 in
theorem gX7_rankOf_X7_chalkAt : GoodIn wsX7_rankOf (wsV RX7 75 RX7 yX7_chalkAt wsX7_chalkAt) := goodIn_c ch_wsX7_rankOf hf_wsX7_rankOf hg_wsX7_rankOf _ [(1, 5), (1, 6), (1, 7), (1, 3), (1, 8), (1, 0), (1, 1), (1, 2), (1, 3), (1, 4), (2, 0), (2, 1), (2, 2), (2, 3), (2, 4), (2, 5), (2, 6), (2, 7), (2, 8)] rfl
theorem dX7_rankOf_0 : decode cX7_rankOf 0 = .ok (.bipush (-6), 2) := by decide +kernel
theorem dX7_rankOf_2 : decode cX7_rankOf 2 = .ok (.istore_n 3, 1) := by decide +kernel
theorem dX7_rankOf_3 : decode cX7_rankOf 3 = .ok (.iconst 0, 1) := by decide +kernel
theorem dX7_rankOf_4 : decode cX7_rankOf 4 = .ok (.istore 4, 2) := by decide +kernel
theorem dX7_rankOf_6 : decode cX7_rankOf 6 = .ok (.iload 4, 2) := by decide +kernel
theorem dX7_rankOf_8 : decode cX7_rankOf 8 = .ok (.aload_n 0, 1) := by decide +kernel
theorem dX7_rankOf_9 : decode cX7_rankOf 9 = .ok (.getfield 7, 3) := by decide +kernel
theorem dX7_rankOf_12 : decode cX7_rankOf 12 = .ok (.iload_n 1, 1) := by decide +kernel
theorem dX7_rankOf_13 : decode cX7_rankOf 13 = .ok (.iconst 2, 1) := by decide +kernel
theorem dX7_rankOf_14 : decode cX7_rankOf 14 = .ok (.invokestatic 32, 3) := by decide +kernel
theorem dX7_rankOf_17 : decode cX7_rankOf 17 = .ok (.iaload, 1) := by decide +kernel
theorem dX7_rankOf_18 : decode cX7_rankOf 18 = .ok (.if_icmp .ge 27, 3) := by decide +kernel
theorem dX7_rankOf_21 : decode cX7_rankOf 21 = .ok (.aload_n 0, 1) := by decide +kernel
theorem dX7_rankOf_22 : decode cX7_rankOf 22 = .ok (.iload_n 1, 1) := by decide +kernel
theorem dX7_rankOf_23 : decode cX7_rankOf 23 = .ok (.iload 4, 2) := by decide +kernel
theorem dX7_rankOf_25 : decode cX7_rankOf 25 = .ok (.invokevirtual 75, 3) := by decide +kernel
theorem dX7_rankOf_28 : decode cX7_rankOf 28 = .ok (.iload_n 2, 1) := by decide +kernel
theorem dX7_rankOf_29 : decode cX7_rankOf 29 = .ok (.if_icmp .ne 8, 3) := by decide +kernel
theorem dX7_rankOf_32 : decode cX7_rankOf 32 = .ok (.iload 4, 2) := by decide +kernel
theorem dX7_rankOf_34 : decode cX7_rankOf 34 = .ok (.goto 4, 3) := by decide +kernel
theorem dX7_rankOf_37 : decode cX7_rankOf 37 = .ok (.iload_n 3, 1) := by decide +kernel
theorem dX7_rankOf_38 : decode cX7_rankOf 38 = .ok (.istore_n 3, 1) := by decide +kernel
theorem dX7_rankOf_39 : decode cX7_rankOf 39 = .ok (.iinc 4 1, 3) := by decide +kernel
theorem dX7_rankOf_42 : decode cX7_rankOf 42 = .ok (.goto (-36), 3) := by decide +kernel
theorem dX7_rankOf_45 : decode cX7_rankOf 45 = .ok (.iload_n 3, 1) := by decide +kernel
theorem dX7_rankOf_46 : decode cX7_rankOf 46 = .ok (.ireturn, 1) := by decide +kernel
def ch_wsX7_hasChalk : List (List Cond) := [[.code yX7_hasChalk cX7_hasChalk 3 (some .boolean)], [.methodLink RX7 78 yX7_rankOf, .instanceMethod yX7_rankOf, .selects RX7 yX7_rankOf yX7_rankOf, .initialized RX7, .code yX7_rankOf cX7_rankOf 5 (some .int), .fieldLink RX7 7 "TailorChalksModel" "s" "[I", .methodLink RX7 32 yX7_at, .static yX7_at, .code yX7_at cX7_at 2 (some .int), .methodLink RX7 75 yX7_chalkAt, .instanceMethod yX7_chalkAt, .selects RX7 yX7_chalkAt yX7_chalkAt, .code yX7_chalkAt cX7_chalkAt 3 (some .int)], wsX70]
set_option maxRecDepth 20000 in
theorem hf_wsX7_hasChalk : wsX7_hasChalk = (ch_wsX7_hasChalk).flatten := rfl
set_option maxRecDepth 20000 in
theorem hg_wsX7_hasChalk : (wsX7_hasChalk).all goodWord = true := by decide +kernel
set_option maxRecDepth 20000 in
theorem gX7_hasChalk_X7_rankOf : GoodIn wsX7_hasChalk (wsV RX7 78 RX7 yX7_rankOf wsX7_rankOf) := goodIn_c ch_wsX7_hasChalk hf_wsX7_hasChalk hg_wsX7_hasChalk _ [(1, 0), (1, 1), (1, 2), (1, 3), (1, 4), (1, 5), (1, 6), (1, 7), (1, 3), (1, 8), (1, 9), (1, 10), (1, 11), (1, 12), (2, 0), (2, 1), (2, 2), (2, 3), (2, 4), (2, 5), (2, 6), (2, 7), (2, 8)] rfl
theorem dX7_hasChalk_0 : decode cX7_hasChalk 0 = .ok (.aload_n 0, 1) := by decide +kernel
theorem dX7_hasChalk_1 : decode cX7_hasChalk 1 = .ok (.iload_n 1, 1) := by decide +kernel
theorem dX7_hasChalk_2 : decode cX7_hasChalk 2 = .ok (.iload_n 2, 1) := by decide +kernel
theorem dX7_hasChalk_3 : decode cX7_hasChalk 3 = .ok (.invokevirtual 78, 3) := by decide +kernel
theorem dX7_hasChalk_6 : decode cX7_hasChalk 6 = .ok (.bipush (-6), 2) := by decide +kernel
theorem dX7_hasChalk_8 : decode cX7_hasChalk 8 = .ok (.if_icmp .eq 7, 3) := by decide +kernel
theorem dX7_hasChalk_11 : decode cX7_hasChalk 11 = .ok (.iconst 1, 1) := by decide +kernel
theorem dX7_hasChalk_12 : decode cX7_hasChalk 12 = .ok (.goto 4, 3) := by decide +kernel
theorem dX7_hasChalk_15 : decode cX7_hasChalk 15 = .ok (.iconst 0, 1) := by decide +kernel
theorem dX7_hasChalk_16 : decode cX7_hasChalk 16 = .ok (.ireturn, 1) := by decide +kernel
def ch_wsX7_rubs : List (List Cond) := [[.code yX7_rubs cX7_rubs 5 none], [.fieldLink RX7 7 "TailorChalksModel" "s" "[I", .methodLink RX7 78 yX7_rankOf, .instanceMethod yX7_rankOf, .selects RX7 yX7_rankOf yX7_rankOf, .initialized RX7, .code yX7_rankOf cX7_rankOf 5 (some .int), .methodLink RX7 32 yX7_at, .static yX7_at, .code yX7_at cX7_at 2 (some .int), .methodLink RX7 75 yX7_chalkAt, .instanceMethod yX7_chalkAt, .selects RX7 yX7_chalkAt yX7_chalkAt, .code yX7_chalkAt cX7_chalkAt 3 (some .int)], wsX70]
set_option maxRecDepth 20000 in
theorem hf_wsX7_rubs : wsX7_rubs = (ch_wsX7_rubs).flatten := rfl
set_option maxRecDepth 20000 in
theorem hg_wsX7_rubs : (wsX7_rubs).all goodWord = true := by decide +kernel
set_option maxRecDepth 20000 in
theorem gX7_rubs_X7_rankOf : GoodIn wsX7_rubs (wsV RX7 78 RX7 yX7_rankOf wsX7_rankOf) := goodIn_c ch_wsX7_rubs hf_wsX7_rubs hg_wsX7_rubs _ [(1, 1), (1, 2), (1, 3), (1, 4), (1, 5), (1, 0), (1, 6), (1, 7), (1, 4), (1, 8), (1, 9), (1, 10), (1, 11), (1, 12), (2, 0), (2, 1), (2, 2), (2, 3), (2, 4), (2, 5), (2, 6), (2, 7), (2, 8)] rfl
set_option maxRecDepth 20000 in
theorem gX7_rubs_X7_at : GoodIn wsX7_rubs (va_wsS RX7 32 yX7_at wsX7_at) := goodIn_c ch_wsX7_rubs hf_wsX7_rubs hg_wsX7_rubs _ [(1, 6), (1, 7), (1, 4), (1, 8)] rfl
set_option maxRecDepth 20000 in
theorem gX7_rubs_X7_chalkAt : GoodIn wsX7_rubs (wsV RX7 75 RX7 yX7_chalkAt wsX7_chalkAt) := goodIn_c ch_wsX7_rubs hf_wsX7_rubs hg_wsX7_rubs _ [(1, 9), (1, 10), (1, 11), (1, 4), (1, 12), (1, 0), (1, 6), (1, 7), (1, 4), (1, 8), (2, 0), (2, 1), (2, 2), (2, 3), (2, 4), (2, 5), (2, 6), (2, 7), (2, 8)] rfl
theorem dX7_rubs_0 : decode cX7_rubs 0 = .ok (.aload_n 0, 1) := by decide +kernel
theorem dX7_rubs_1 : decode cX7_rubs 1 = .ok (.iload_n 1, 1) := by decide +kernel
theorem dX7_rubs_2 : decode cX7_rubs 2 = .ok (.iload_n 2, 1) := by decide +kernel
theorem dX7_rubs_3 : decode cX7_rubs 3 = .ok (.invokevirtual 78, 3) := by decide +kernel
theorem dX7_rubs_6 : decode cX7_rubs 6 = .ok (.istore_n 3, 1) := by decide +kernel
theorem dX7_rubs_7 : decode cX7_rubs 7 = .ok (.iload_n 3, 1) := by decide +kernel
theorem dX7_rubs_8 : decode cX7_rubs 8 = .ok (.bipush (-6), 2) := by decide +kernel
theorem dX7_rubs_10 : decode cX7_rubs 10 = .ok (.if_icmp .eq 87, 3) := by decide +kernel
theorem dX7_rubs_13 : decode cX7_rubs 13 = .ok (.aload_n 0, 1) := by decide +kernel
theorem dX7_rubs_14 : decode cX7_rubs 14 = .ok (.getfield 7, 3) := by decide +kernel
theorem dX7_rubs_17 : decode cX7_rubs 17 = .ok (.iload_n 1, 1) := by decide +kernel
theorem dX7_rubs_18 : decode cX7_rubs 18 = .ok (.iconst 2, 1) := by decide +kernel
theorem dX7_rubs_19 : decode cX7_rubs 19 = .ok (.invokestatic 32, 3) := by decide +kernel
theorem dX7_rubs_22 : decode cX7_rubs 22 = .ok (.dup2, 1) := by decide +kernel
theorem dX7_rubs_23 : decode cX7_rubs 23 = .ok (.iaload, 1) := by decide +kernel
theorem dX7_rubs_24 : decode cX7_rubs 24 = .ok (.iconst 1, 1) := by decide +kernel
theorem dX7_rubs_25 : decode cX7_rubs 25 = .ok (.isub, 1) := by decide +kernel
theorem dX7_rubs_26 : decode cX7_rubs 26 = .ok (.iastore, 1) := by decide +kernel
theorem dX7_rubs_27 : decode cX7_rubs 27 = .ok (.iload_n 3, 1) := by decide +kernel
theorem dX7_rubs_28 : decode cX7_rubs 28 = .ok (.istore 4, 2) := by decide +kernel
theorem dX7_rubs_30 : decode cX7_rubs 30 = .ok (.iload 4, 2) := by decide +kernel
theorem dX7_rubs_32 : decode cX7_rubs 32 = .ok (.aload_n 0, 1) := by decide +kernel
theorem dX7_rubs_33 : decode cX7_rubs 33 = .ok (.getfield 7, 3) := by decide +kernel
theorem dX7_rubs_36 : decode cX7_rubs 36 = .ok (.iload_n 1, 1) := by decide +kernel
theorem dX7_rubs_37 : decode cX7_rubs 37 = .ok (.iconst 2, 1) := by decide +kernel
theorem dX7_rubs_38 : decode cX7_rubs 38 = .ok (.invokestatic 32, 3) := by decide +kernel
theorem dX7_rubs_41 : decode cX7_rubs 41 = .ok (.iaload, 1) := by decide +kernel
theorem dX7_rubs_42 : decode cX7_rubs 42 = .ok (.if_icmp .ge 32, 3) := by decide +kernel
theorem dX7_rubs_45 : decode cX7_rubs 45 = .ok (.aload_n 0, 1) := by decide +kernel
theorem dX7_rubs_46 : decode cX7_rubs 46 = .ok (.getfield 7, 3) := by decide +kernel
theorem dX7_rubs_49 : decode cX7_rubs 49 = .ok (.iload_n 1, 1) := by decide +kernel
theorem dX7_rubs_50 : decode cX7_rubs 50 = .ok (.bipush 8, 2) := by decide +kernel
theorem dX7_rubs_52 : decode cX7_rubs 52 = .ok (.invokestatic 32, 3) := by decide +kernel
theorem dX7_rubs_55 : decode cX7_rubs 55 = .ok (.iload 4, 2) := by decide +kernel
theorem dX7_rubs_57 : decode cX7_rubs 57 = .ok (.iadd, 1) := by decide +kernel
theorem dX7_rubs_58 : decode cX7_rubs 58 = .ok (.aload_n 0, 1) := by decide +kernel
theorem dX7_rubs_59 : decode cX7_rubs 59 = .ok (.iload_n 1, 1) := by decide +kernel
theorem dX7_rubs_60 : decode cX7_rubs 60 = .ok (.iload 4, 2) := by decide +kernel
theorem dX7_rubs_62 : decode cX7_rubs 62 = .ok (.iconst 1, 1) := by decide +kernel
theorem dX7_rubs_63 : decode cX7_rubs 63 = .ok (.iadd, 1) := by decide +kernel
theorem dX7_rubs_64 : decode cX7_rubs 64 = .ok (.invokevirtual 75, 3) := by decide +kernel
theorem dX7_rubs_67 : decode cX7_rubs 67 = .ok (.iastore, 1) := by decide +kernel
theorem dX7_rubs_68 : decode cX7_rubs 68 = .ok (.iinc 4 1, 3) := by decide +kernel
theorem dX7_rubs_71 : decode cX7_rubs 71 = .ok (.goto (-41), 3) := by decide +kernel
theorem dX7_rubs_74 : decode cX7_rubs 74 = .ok (.aload_n 0, 1) := by decide +kernel
theorem dX7_rubs_75 : decode cX7_rubs 75 = .ok (.getfield 7, 3) := by decide +kernel
theorem dX7_rubs_78 : decode cX7_rubs 78 = .ok (.iload_n 1, 1) := by decide +kernel
theorem dX7_rubs_79 : decode cX7_rubs 79 = .ok (.bipush 8, 2) := by decide +kernel
theorem dX7_rubs_81 : decode cX7_rubs 81 = .ok (.invokestatic 32, 3) := by decide +kernel
theorem dX7_rubs_84 : decode cX7_rubs 84 = .ok (.aload_n 0, 1) := by decide +kernel
theorem dX7_rubs_85 : decode cX7_rubs 85 = .ok (.getfield 7, 3) := by decide +kernel
theorem dX7_rubs_88 : decode cX7_rubs 88 = .ok (.iload_n 1, 1) := by decide +kernel
theorem dX7_rubs_89 : decode cX7_rubs 89 = .ok (.iconst 2, 1) := by decide +kernel
theorem dX7_rubs_90 : decode cX7_rubs 90 = .ok (.invokestatic 32, 3) := by decide +kernel
theorem dX7_rubs_93 : decode cX7_rubs 93 = .ok (.iaload, 1) := by decide +kernel
theorem dX7_rubs_94 : decode cX7_rubs 94 = .ok (.iadd, 1) := by decide +kernel
theorem dX7_rubs_95 : decode cX7_rubs 95 = .ok (.iconst 0, 1) := by decide +kernel
theorem dX7_rubs_96 : decode cX7_rubs 96 = .ok (.iastore, 1) := by decide +kernel
theorem dX7_rubs_97 : decode cX7_rubs 97 = .ok (.return_, 1) := by decide +kernel
theorem dX7_ends_0 : decode cX7_ends 0 = .ok (.aload_n 0, 1) := by decide +kernel
theorem dX7_ends_1 : decode cX7_ends 1 = .ok (.getfield 7, 3) := by decide +kernel
theorem dX7_ends_4 : decode cX7_ends 4 = .ok (.sipush 244, 3) := by decide +kernel
theorem dX7_ends_7 : decode cX7_ends 7 = .ok (.dup2, 1) := by decide +kernel
theorem dX7_ends_8 : decode cX7_ends 8 = .ok (.iaload, 1) := by decide +kernel
theorem dX7_ends_9 : decode cX7_ends 9 = .ok (.iconst 1, 1) := by decide +kernel
theorem dX7_ends_10 : decode cX7_ends 10 = .ok (.iadd, 1) := by decide +kernel
theorem dX7_ends_11 : decode cX7_ends 11 = .ok (.iastore, 1) := by decide +kernel
theorem dX7_ends_12 : decode cX7_ends 12 = .ok (.aload_n 0, 1) := by decide +kernel
theorem dX7_ends_13 : decode cX7_ends 13 = .ok (.getfield 7, 3) := by decide +kernel
theorem dX7_ends_16 : decode cX7_ends 16 = .ok (.sipush 245, 3) := by decide +kernel
theorem dX7_ends_19 : decode cX7_ends 19 = .ok (.iconst 1, 1) := by decide +kernel
theorem dX7_ends_20 : decode cX7_ends 20 = .ok (.aload_n 0, 1) := by decide +kernel
theorem dX7_ends_21 : decode cX7_ends 21 = .ok (.getfield 7, 3) := by decide +kernel
theorem dX7_ends_24 : decode cX7_ends 24 = .ok (.sipush 245, 3) := by decide +kernel
theorem dX7_ends_27 : decode cX7_ends 27 = .ok (.iaload, 1) := by decide +kernel
theorem dX7_ends_28 : decode cX7_ends 28 = .ok (.isub, 1) := by decide +kernel
theorem dX7_ends_29 : decode cX7_ends 29 = .ok (.iastore, 1) := by decide +kernel
theorem dX7_ends_30 : decode cX7_ends 30 = .ok (.iload_n 1, 1) := by decide +kernel
theorem dX7_ends_31 : decode cX7_ends 31 = .ok (.ireturn, 1) := by decide +kernel
def ch_wsX7_chalks : List (List Cond) := [[.code yX7_chalks cX7_chalks 3 (some .int)], wsX7_chalks_r1, wsX7_chalks_r2, wsX7_chalks_r3, wsX70]
set_option maxRecDepth 20000 in
theorem hf_wsX7_chalks : wsX7_chalks = (ch_wsX7_chalks).flatten := rfl
set_option maxRecDepth 20000 in
theorem hg_wsX7_chalks : (wsX7_chalks).all goodWord = true := by decide +kernel
set_option maxRecDepth 20000 in
theorem gX7_chalks_X7_isJoint : GoodIn wsX7_chalks (va_wsS RX7 81 yX7_isJoint wsX7_isJoint) := goodIn_c ch_wsX7_chalks hf_wsX7_chalks hg_wsX7_chalks _ [(1, 1), (1, 2), (1, 3), (1, 4), (1, 5), (1, 6), (1, 3), (1, 7)] rfl
set_option maxRecDepth 20000 in
theorem gX7_chalks_X7_isOver : GoodIn wsX7_chalks (wsV RX7 84 RX7 yX7_isOver wsX7_isOver) := goodIn_c ch_wsX7_chalks hf_wsX7_chalks hg_wsX7_chalks _ [(1, 8), (1, 9), (1, 10), (1, 3), (1, 11), (1, 0), (1, 12), (1, 13), (1, 14), (1, 3), (1, 15), (1, 16), (1, 17), (1, 18), (1, 19), (4, 0), (4, 1), (4, 2), (4, 3), (4, 4), (4, 5), (4, 6), (4, 7), (4, 8)] rfl
set_option maxRecDepth 20000 in
theorem gX7_chalks_X7_holds : GoodIn wsX7_chalks (wsV RX7 58 RX7 yX7_holds wsX7_holds) := goodIn_c ch_wsX7_chalks hf_wsX7_chalks hg_wsX7_chalks _ [(1, 20), (1, 21), (1, 22), (1, 3), (1, 23), (1, 0), (2, 0), (2, 1), (2, 2), (1, 3), (2, 3), (2, 4), (2, 5), (2, 6), (1, 16), (1, 17), (1, 18), (1, 19), (2, 7), (2, 8), (2, 9), (4, 0), (4, 1), (4, 2), (4, 3), (4, 4), (4, 5), (4, 6), (4, 7), (4, 8)] rfl
set_option maxRecDepth 20000 in
theorem gX7_chalks_X7_hasChalk : GoodIn wsX7_chalks (wsV RX7 88 RX7 yX7_hasChalk wsX7_hasChalk) := goodIn_c ch_wsX7_chalks hf_wsX7_chalks hg_wsX7_chalks _ [(2, 10), (2, 11), (2, 12), (1, 3), (2, 13), (2, 14), (2, 15), (2, 16), (1, 3), (2, 17), (1, 0), (2, 18), (2, 19), (2, 20), (2, 21), (2, 22), (2, 23), (3, 0), (4, 0), (4, 1), (4, 2), (4, 3), (4, 4), (4, 5), (4, 6), (4, 7), (4, 8)] rfl
set_option maxRecDepth 20000 in
theorem gX7_chalks_X7_at : GoodIn wsX7_chalks (va_wsS RX7 32 yX7_at wsX7_at) := goodIn_c ch_wsX7_chalks hf_wsX7_chalks hg_wsX7_chalks _ [(2, 18), (2, 19), (1, 3), (2, 20)] rfl
set_option maxRecDepth 20000 in
theorem gX7_chalks_X7_ends : GoodIn wsX7_chalks (wsV RX7 92 RX7 yX7_ends wsX7_ends) := goodIn_c ch_wsX7_chalks hf_wsX7_chalks hg_wsX7_chalks _ [(3, 1), (3, 2), (3, 3), (1, 3), (3, 4), (1, 0), (4, 0), (4, 1), (4, 2), (4, 3), (4, 4), (4, 5), (4, 6), (4, 7), (4, 8)] rfl
theorem dX7_chalks_0 : decode cX7_chalks 0 = .ok (.aload_n 0, 1) := by decide +kernel
theorem dX7_chalks_1 : decode cX7_chalks 1 = .ok (.getfield 7, 3) := by decide +kernel
theorem dX7_chalks_4 : decode cX7_chalks 4 = .ok (.sipush 245, 3) := by decide +kernel
theorem dX7_chalks_7 : decode cX7_chalks 7 = .ok (.iaload, 1) := by decide +kernel
theorem dX7_chalks_8 : decode cX7_chalks 8 = .ok (.istore_n 2, 1) := by decide +kernel
theorem dX7_chalks_9 : decode cX7_chalks 9 = .ok (.iload_n 1, 1) := by decide +kernel
theorem dX7_chalks_10 : decode cX7_chalks 10 = .ok (.invokestatic 81, 3) := by decide +kernel
theorem dX7_chalks_13 : decode cX7_chalks 13 = .ok (.ifCond .ne 5, 3) := by decide +kernel
theorem dX7_chalks_16 : decode cX7_chalks 16 = .ok (.iconst (-1), 1) := by decide +kernel
theorem dX7_chalks_17 : decode cX7_chalks 17 = .ok (.ireturn, 1) := by decide +kernel
theorem dX7_chalks_18 : decode cX7_chalks 18 = .ok (.aload_n 0, 1) := by decide +kernel
