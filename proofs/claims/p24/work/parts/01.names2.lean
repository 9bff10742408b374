theorem dX1_dropMarks_13 : decode cX1_dropMarks 13 = .ok (.invokevirtual 135, 3) := by decide +kernel
theorem dX1_dropMarks_16 : decode cX1_dropMarks 16 = .ok (.return_, 1) := by decide +kernel
def ch_wsX1_loseRag : List (List Cond) := [[.code yX1_loseRag cX1_loseRag 4 none], wsX1_loseRag_r1, wsX1_loseRag_r2, wsX1_loseRag_r3, wsX10, wsX00, wsX50]
set_option maxRecDepth 20000 in
theorem hf_wsX1_loseRag : wsX1_loseRag = (ch_wsX1_loseRag).flatten := rfl
set_option maxRecDepth 20000 in
theorem hg_wsX1_loseRag : (wsX1_loseRag).all goodWord = true := by decide +kernel
set_option maxRecDepth 20000 in
theorem gX1_loseRag_X0_tearOff : GoodIn wsX1_loseRag (wsV RX1 138 RX0 yX0_tearOff wsX0_tearOff) := goodIn_c ch_wsX1_loseRag hf_wsX1_loseRag hg_wsX1_loseRag _ [(1, 2), (1, 3), (1, 4), (1, 5), (1, 6), (1, 7), (1, 8), (1, 9), (1, 10), (5, 0), (5, 1), (5, 2), (5, 3), (5, 4)] rfl
set_option maxRecDepth 20000 in
theorem gX1_loseRag_X1_tailorOf : GoodIn wsX1_loseRag (wsV RX1 91 RX1 yX1_tailorOf wsX1_tailorOf) := goodIn_c ch_wsX1_loseRag hf_wsX1_loseRag hg_wsX1_loseRag _ [(1, 11), (1, 12), (1, 13), (1, 14), (1, 15), (1, 16), (1, 17), (4, 0), (4, 1), (4, 2), (4, 3), (4, 4)] rfl
set_option maxRecDepth 20000 in
theorem gX1_loseRag_J13_bitCount_95d88 : GoodIn wsX1_loseRag (va_wsS RX1 123 yJ13_bitCount_95d88 wsJ13_bitCount_95d88) := goodIn_c ch_wsX1_loseRag hf_wsX1_loseRag hg_wsX1_loseRag _ [(1, 18), (1, 19), (1, 20), (1, 21), (1, 22), (1, 23), (2, 0)] rfl
set_option maxRecDepth 20000 in
theorem gX1_loseRag_X5_winRag : GoodIn wsX1_loseRag (wsV RX1 141 RX5 yX5_winRag wsX5_winRag) := goodIn_c ch_wsX1_loseRag hf_wsX1_loseRag hg_wsX1_loseRag _ [(2, 1), (2, 2), (2, 3), (2, 4), (2, 5), (2, 6), (2, 7), (2, 8), (6, 0), (6, 1), (6, 2), (6, 3), (6, 4), (6, 5), (6, 6), (6, 7), (6, 8)] rfl
set_option maxRecDepth 20000 in
theorem gX1_loseRag_X0_isVoid : GoodIn wsX1_loseRag (wsV RX1 57 RX0 yX0_isVoid wsX0_isVoid) := goodIn_c ch_wsX1_loseRag hf_wsX1_loseRag hg_wsX1_loseRag _ [(2, 9), (2, 10), (2, 11), (1, 5), (2, 12), (1, 7), (2, 13), (2, 14), (1, 5), (2, 15), (2, 16), (2, 17), (2, 18), (2, 19), (2, 20), (2, 21), (5, 0), (5, 1), (5, 2), (5, 3), (5, 4)] rfl
set_option maxRecDepth 20000 in
theorem gX1_loseRag_X1_dropMarks : GoodIn wsX1_loseRag (wsV RX1 132 RX1 yX1_dropMarks wsX1_dropMarks) := goodIn_c ch_wsX1_loseRag hf_wsX1_loseRag hg_wsX1_loseRag _ [(2, 22), (2, 23), (3, 0), (1, 14), (3, 1), (1, 16), (1, 17), (3, 2), (3, 3), (3, 4), (2, 4), (3, 5), (3, 6), (3, 7), (4, 0), (4, 1), (4, 2), (4, 3), (4, 4), (6, 0), (6, 1), (6, 2), (6, 3), (6, 4), (6, 5), (6, 6), (6, 7), (6, 8)] rfl
theorem dX1_loseRag_0 : decode cX1_loseRag 0 = .ok (.aload_n 0, 1) := by decide +kernel
theorem dX1_loseRag_1 : decode cX1_loseRag 1 = .ok (.getfield 12, 3) := by decide +kernel
theorem dX1_loseRag_4 : decode cX1_loseRag 4 = .ok (.lload_n 1, 1) := by decide +kernel
theorem dX1_loseRag_5 : decode cX1_loseRag 5 = .ok (.invokevirtual 138, 3) := by decide +kernel
theorem dX1_loseRag_8 : decode cX1_loseRag 8 = .ok (.aload_n 0, 1) := by decide +kernel
theorem dX1_loseRag_9 : decode cX1_loseRag 9 = .ok (.aload_n 0, 1) := by decide +kernel
theorem dX1_loseRag_10 : decode cX1_loseRag 10 = .ok (.getfield 35, 3) := by decide +kernel
theorem dX1_loseRag_13 : decode cX1_loseRag 13 = .ok (.invokevirtual 91, 3) := by decide +kernel
theorem dX1_loseRag_16 : decode cX1_loseRag 16 = .ok (.lload_n 1, 1) := by decide +kernel
theorem dX1_loseRag_17 : decode cX1_loseRag 17 = .ok (.invokestatic 123, 3) := by decide +kernel
theorem dX1_loseRag_20 : decode cX1_loseRag 20 = .ok (.invokevirtual 141, 3) := by decide +kernel
theorem dX1_loseRag_23 : decode cX1_loseRag 23 = .ok (.iconst 0, 1) := by decide +kernel
theorem dX1_loseRag_24 : decode cX1_loseRag 24 = .ok (.istore_n 3, 1) := by decide +kernel
theorem dX1_loseRag_25 : decode cX1_loseRag 25 = .ok (.iload_n 3, 1) := by decide +kernel
theorem dX1_loseRag_26 : decode cX1_loseRag 26 = .ok (.bipush 82, 2) := by decide +kernel
theorem dX1_loseRag_28 : decode cX1_loseRag 28 = .ok (.if_icmp .ge 25, 3) := by decide +kernel
theorem dX1_loseRag_31 : decode cX1_loseRag 31 = .ok (.aload_n 0, 1) := by decide +kernel
theorem dX1_loseRag_32 : decode cX1_loseRag 32 = .ok (.getfield 12, 3) := by decide +kernel
theorem dX1_loseRag_35 : decode cX1_loseRag 35 = .ok (.iload_n 3, 1) := by decide +kernel
theorem dX1_loseRag_36 : decode cX1_loseRag 36 = .ok (.invokevirtual 57, 3) := by decide +kernel
theorem dX1_loseRag_39 : decode cX1_loseRag 39 = .ok (.ifCond .eq 8, 3) := by decide +kernel
theorem dX1_loseRag_42 : decode cX1_loseRag 42 = .ok (.aload_n 0, 1) := by decide +kernel
theorem dX1_loseRag_43 : decode cX1_loseRag 43 = .ok (.iload_n 3, 1) := by decide +kernel
theorem dX1_loseRag_44 : decode cX1_loseRag 44 = .ok (.invokevirtual 132, 3) := by decide +kernel
theorem dX1_loseRag_47 : decode cX1_loseRag 47 = .ok (.iinc 3 1, 3) := by decide +kernel
theorem dX1_loseRag_50 : decode cX1_loseRag 50 = .ok (.goto (-25), 3) := by decide +kernel
theorem dX1_loseRag_53 : decode cX1_loseRag 53 = .ok (.return_, 1) := by decide +kernel
def ch_wsX1_sewJoint : List (List Cond) := [[.code yX1_sewJoint cX1_sewJoint 3 (some .int)], wsX1_sewJoint_r1, wsX1_sewJoint_r2, wsX10, wsX50, wsX00]
set_option maxRecDepth 20000 in
theorem hf_wsX1_sewJoint : wsX1_sewJoint = (ch_wsX1_sewJoint).flatten := rfl
set_option maxRecDepth 20000 in
theorem hg_wsX1_sewJoint : (wsX1_sewJoint).all goodWord = true := by decide +kernel
set_option maxRecDepth 20000 in
theorem gX1_sewJoint_X1_tailorOf : GoodIn wsX1_sewJoint (wsV RX1 91 RX1 yX1_tailorOf wsX1_tailorOf) := goodIn_c ch_wsX1_sewJoint hf_wsX1_sewJoint hg_wsX1_sewJoint _ [(1, 3), (1, 4), (1, 5), (1, 6), (1, 7), (1, 8), (1, 9), (3, 0), (3, 1), (3, 2), (3, 3), (3, 4)] rfl
set_option maxRecDepth 20000 in
theorem gX1_sewJoint_X0_stateOf : GoodIn wsX1_sewJoint (wsV RX1 64 RX0 yX0_stateOf wsX0_stateOf) := goodIn_c ch_wsX1_sewJoint hf_wsX1_sewJoint hg_wsX1_sewJoint _ [(1, 10), (1, 11), (1, 12), (1, 13), (1, 14), (1, 15), (1, 16), (1, 17), (1, 13), (1, 18), (5, 0), (5, 1), (5, 2), (5, 3), (5, 4)] rfl
set_option maxRecDepth 20000 in
theorem gX1_sewJoint_X0_make : GoodIn wsX1_sewJoint (wsV RX1 115 RX0 yX0_make wsX0_make) := goodIn_c ch_wsX1_sewJoint hf_wsX1_sewJoint hg_wsX1_sewJoint _ [(1, 19), (1, 20), (1, 21), (1, 13), (1, 22), (1, 15), (1, 23), (2, 0), (2, 1), (2, 2), (1, 16), (1, 17), (1, 13), (1, 18), (2, 3), (2, 4), (2, 5), (2, 6), (2, 7), (2, 8), (5, 0), (5, 1), (5, 2), (5, 3), (5, 4)] rfl
set_option maxRecDepth 20000 in
theorem gX1_sewJoint_X1_endTurn : GoodIn wsX1_sewJoint (wsV RX1 88 RX1 yX1_endTurn wsX1_endTurn) := goodIn_c ch_wsX1_sewJoint hf_wsX1_sewJoint hg_wsX1_sewJoint _ [(2, 9), (2, 10), (2, 11), (1, 6), (2, 12), (2, 13), (1, 0), (3, 0), (3, 1), (3, 2), (3, 3), (3, 4)] rfl
theorem dX1_sewJoint_0 : decode cX1_sewJoint 0 = .ok (.aload_n 0, 1) := by decide +kernel
theorem dX1_sewJoint_1 : decode cX1_sewJoint 1 = .ok (.aload_n 0, 1) := by decide +kernel
theorem dX1_sewJoint_2 : decode cX1_sewJoint 2 = .ok (.getfield 35, 3) := by decide +kernel
theorem dX1_sewJoint_5 : decode cX1_sewJoint 5 = .ok (.invokevirtual 91, 3) := by decide +kernel
theorem dX1_sewJoint_8 : decode cX1_sewJoint 8 = .ok (.astore_n 2, 1) := by decide +kernel
theorem dX1_sewJoint_9 : decode cX1_sewJoint 9 = .ok (.aload_n 0, 1) := by decide +kernel
theorem dX1_sewJoint_10 : decode cX1_sewJoint 10 = .ok (.getfield 12, 3) := by decide +kernel
theorem dX1_sewJoint_13 : decode cX1_sewJoint 13 = .ok (.iload_n 1, 1) := by decide +kernel
theorem dX1_sewJoint_14 : decode cX1_sewJoint 14 = .ok (.invokevirtual 64, 3) := by decide +kernel
theorem dX1_sewJoint_17 : decode cX1_sewJoint 17 = .ok (.iconst 1, 1) := by decide +kernel
theorem dX1_sewJoint_18 : decode cX1_sewJoint 18 = .ok (.if_icmp .ne 10, 3) := by decide +kernel
theorem dX1_sewJoint_21 : decode cX1_sewJoint 21 = .ok (.aload_n 2, 1) := by decide +kernel
theorem dX1_sewJoint_22 : decode cX1_sewJoint 22 = .ok (.getfield 144, 3) := by decide +kernel
theorem dX1_sewJoint_25 : decode cX1_sewJoint 25 = .ok (.ifCond .ne 6, 3) := by decide +kernel
theorem dX1_sewJoint_28 : decode cX1_sewJoint 28 = .ok (.bipush (-5), 2) := by decide +kernel
theorem dX1_sewJoint_30 : decode cX1_sewJoint 30 = .ok (.ireturn, 1) := by decide +kernel
theorem dX1_sewJoint_31 : decode cX1_sewJoint 31 = .ok (.aload_n 2, 1) := by decide +kernel
theorem dX1_sewJoint_32 : decode cX1_sewJoint 32 = .ok (.dup, 1) := by decide +kernel
theorem dX1_sewJoint_33 : decode cX1_sewJoint 33 = .ok (.getfield 144, 3) := by decide +kernel
theorem dX1_sewJoint_36 : decode cX1_sewJoint 36 = .ok (.iconst 1, 1) := by decide +kernel
theorem dX1_sewJoint_37 : decode cX1_sewJoint 37 = .ok (.isub, 1) := by decide +kernel
theorem dX1_sewJoint_38 : decode cX1_sewJoint 38 = .ok (.putfield 144, 3) := by decide +kernel
theorem dX1_sewJoint_41 : decode cX1_sewJoint 41 = .ok (.aload_n 0, 1) := by decide +kernel
theorem dX1_sewJoint_42 : decode cX1_sewJoint 42 = .ok (.getfield 12, 3) := by decide +kernel
theorem dX1_sewJoint_45 : decode cX1_sewJoint 45 = .ok (.iload_n 1, 1) := by decide +kernel
theorem dX1_sewJoint_46 : decode cX1_sewJoint 46 = .ok (.iconst 2, 1) := by decide +kernel
theorem dX1_sewJoint_47 : decode cX1_sewJoint 47 = .ok (.aload_n 0, 1) := by decide +kernel
theorem dX1_sewJoint_48 : decode cX1_sewJoint 48 = .ok (.getfield 35, 3) := by decide +kernel
theorem dX1_sewJoint_51 : decode cX1_sewJoint 51 = .ok (.invokevirtual 115, 3) := by decide +kernel
theorem dX1_sewJoint_54 : decode cX1_sewJoint 54 = .ok (.aload_n 0, 1) := by decide +kernel
theorem dX1_sewJoint_55 : decode cX1_sewJoint 55 = .ok (.invokevirtual 88, 3) := by decide +kernel
theorem dX1_sewJoint_58 : decode cX1_sewJoint 58 = .ok (.aload_n 2, 1) := by decide +kernel
theorem dX1_sewJoint_59 : decode cX1_sewJoint 59 = .ok (.getfield 144, 3) := by decide +kernel
theorem dX1_sewJoint_62 : decode cX1_sewJoint 62 = .ok (.ireturn, 1) := by decide +kernel
def ch_wsX1_bluffJoint : List (List Cond) := [[.code yX1_bluffJoint cX1_bluffJoint 2 (some .int)], wsX1_bluffJoint_r1, wsX1_bluffJoint_r2, wsX10, wsX00]
set_option maxRecDepth 20000 in
theorem hf_wsX1_bluffJoint : wsX1_bluffJoint = (ch_wsX1_bluffJoint).flatten := rfl
set_option maxRecDepth 20000 in
theorem hg_wsX1_bluffJoint : (wsX1_bluffJoint).all goodWord = true := by decide +kernel
set_option maxRecDepth 20000 in
theorem gX1_bluffJoint_X0_stateOf : GoodIn wsX1_bluffJoint (wsV RX1 64 RX0 yX0_stateOf wsX0_stateOf) := goodIn_c ch_wsX1_bluffJoint hf_wsX1_bluffJoint hg_wsX1_bluffJoint _ [(1, 2), (1, 3), (1, 4), (1, 5), (1, 6), (1, 7), (1, 8), (1, 9), (1, 5), (1, 10), (4, 0), (4, 1), (4, 2), (4, 3), (4, 4)] rfl
set_option maxRecDepth 20000 in
theorem gX1_bluffJoint_X0_make : GoodIn wsX1_bluffJoint (wsV RX1 115 RX0 yX0_make wsX0_make) := goodIn_c ch_wsX1_bluffJoint hf_wsX1_bluffJoint hg_wsX1_bluffJoint _ [(1, 11), (1, 12), (1, 13), (1, 5), (1, 14), (1, 7), (1, 15), (1, 16), (1, 17), (1, 18), (1, 8), (1, 9), (1, 5), (1, 10), (1, 19), (1, 20), (1, 21), (1, 22), (1, 23), (2, 0), (4, 0), (4, 1), (4, 2), (4, 3), (4, 4)] rfl
set_option maxRecDepth 20000 in
theorem gX1_bluffJoint_X1_endTurn : GoodIn wsX1_bluffJoint (wsV RX1 88 RX1 yX1_endTurn wsX1_endTurn) := goodIn_c ch_wsX1_bluffJoint hf_wsX1_bluffJoint hg_wsX1_bluffJoint _ [(2, 1), (2, 2), (2, 3), (2, 4), (2, 5), (2, 6), (1, 1), (3, 0), (3, 1), (3, 2), (3, 3), (3, 4)] rfl
set_option maxRecDepth 20000 in
theorem gX1_bluffJoint_X0_jointsThatAre : GoodIn wsX1_bluffJoint (wsV RX1 147 RX0 yX0_jointsThatAre wsX0_jointsThatAre) := goodIn_c ch_wsX1_bluffJoint hf_wsX1_bluffJoint hg_wsX1_bluffJoint _ [(2, 7), (2, 8), (2, 9), (1, 5), (2, 10), (1, 7), (2, 11), (2, 12), (2, 13), (1, 5), (2, 14), (2, 15), (1, 22), (1, 23), (2, 0), (1, 19), (1, 20), (1, 21), (2, 16), (2, 17), (2, 18), (4, 0), (4, 1), (4, 2), (4, 3), (4, 4)] rfl
theorem dX1_bluffJoint_0 : decode cX1_bluffJoint 0 = .ok (.aload_n 0, 1) := by decide +kernel
theorem dX1_bluffJoint_1 : decode cX1_bluffJoint 1 = .ok (.getfield 12, 3) := by decide +kernel
theorem dX1_bluffJoint_4 : decode cX1_bluffJoint 4 = .ok (.iload_n 1, 1) := by decide +kernel
theorem dX1_bluffJoint_5 : decode cX1_bluffJoint 5 = .ok (.invokevirtual 64, 3) := by decide +kernel
theorem dX1_bluffJoint_8 : decode cX1_bluffJoint 8 = .ok (.iconst 1, 1) := by decide +kernel
theorem dX1_bluffJoint_9 : decode cX1_bluffJoint 9 = .ok (.if_icmp .eq 6, 3) := by decide +kernel
theorem dX1_bluffJoint_12 : decode cX1_bluffJoint 12 = .ok (.bipush (-5), 2) := by decide +kernel
theorem dX1_bluffJoint_14 : decode cX1_bluffJoint 14 = .ok (.ireturn, 1) := by decide +kernel
theorem dX1_bluffJoint_15 : decode cX1_bluffJoint 15 = .ok (.aload_n 0, 1) := by decide +kernel
theorem dX1_bluffJoint_16 : decode cX1_bluffJoint 16 = .ok (.getfield 12, 3) := by decide +kernel
theorem dX1_bluffJoint_19 : decode cX1_bluffJoint 19 = .ok (.iload_n 1, 1) := by decide +kernel
theorem dX1_bluffJoint_20 : decode cX1_bluffJoint 20 = .ok (.iconst 3, 1) := by decide +kernel
theorem dX1_bluffJoint_21 : decode cX1_bluffJoint 21 = .ok (.aload_n 0, 1) := by decide +kernel
theorem dX1_bluffJoint_22 : decode cX1_bluffJoint 22 = .ok (.getfield 35, 3) := by decide +kernel
theorem dX1_bluffJoint_25 : decode cX1_bluffJoint 25 = .ok (.invokevirtual 115, 3) := by decide +kernel
theorem dX1_bluffJoint_28 : decode cX1_bluffJoint 28 = .ok (.aload_n 0, 1) := by decide +kernel
theorem dX1_bluffJoint_29 : decode cX1_bluffJoint 29 = .ok (.invokevirtual 88, 3) := by decide +kernel
theorem dX1_bluffJoint_32 : decode cX1_bluffJoint 32 = .ok (.aload_n 0, 1) := by decide +kernel
theorem dX1_bluffJoint_33 : decode cX1_bluffJoint 33 = .ok (.getfield 12, 3) := by decide +kernel
theorem dX1_bluffJoint_36 : decode cX1_bluffJoint 36 = .ok (.iconst 3, 1) := by decide +kernel
theorem dX1_bluffJoint_37 : decode cX1_bluffJoint 37 = .ok (.invokevirtual 147, 3) := by decide +kernel
theorem dX1_bluffJoint_40 : decode cX1_bluffJoint 40 = .ok (.ireturn, 1) := by decide +kernel
def ch_wsX1_doubtJoint : List (List Cond) := [[.code yX1_doubtJoint cX1_doubtJoint 4 (some .int)], wsX1_doubtJoint_r1, wsX1_doubtJoint_r2, wsX10, wsX50, wsX00]
set_option maxRecDepth 20000 in
theorem hf_wsX1_doubtJoint : wsX1_doubtJoint = (ch_wsX1_doubtJoint).flatten := rfl
set_option maxRecDepth 20000 in
theorem hg_wsX1_doubtJoint : (wsX1_doubtJoint).all goodWord = true := by decide +kernel
set_option maxRecDepth 20000 in
theorem gX1_doubtJoint_X0_makerOf : GoodIn wsX1_doubtJoint (wsV RX1 60 RX0 yX0_makerOf wsX0_makerOf) := goodIn_c ch_wsX1_doubtJoint hf_wsX1_doubtJoint hg_wsX1_doubtJoint _ [(1, 5), (1, 6), (1, 7), (1, 8), (1, 9), (1, 10), (1, 11), (1, 12), (1, 8), (1, 13), (5, 0), (5, 1), (5, 2), (5, 3), (5, 4)] rfl
set_option maxRecDepth 20000 in
theorem gX1_doubtJoint_X0_stateOf : GoodIn wsX1_doubtJoint (wsV RX1 64 RX0 yX0_stateOf wsX0_stateOf) := goodIn_c ch_wsX1_doubtJoint hf_wsX1_doubtJoint hg_wsX1_doubtJoint _ [(1, 14), (1, 15), (1, 16), (1, 8), (1, 17), (1, 18), (1, 11), (1, 12), (1, 8), (1, 13), (5, 0), (5, 1), (5, 2), (5, 3), (5, 4)] rfl
set_option maxRecDepth 20000 in
theorem gX1_doubtJoint_X1_tailorOf : GoodIn wsX1_doubtJoint (wsV RX1 91 RX1 yX1_tailorOf wsX1_tailorOf) := goodIn_c ch_wsX1_doubtJoint hf_wsX1_doubtJoint hg_wsX1_doubtJoint _ [(1, 19), (1, 20), (1, 21), (1, 22), (1, 23), (2, 0), (2, 1), (3, 0), (3, 1), (3, 2), (3, 3), (3, 4)] rfl
set_option maxRecDepth 20000 in
theorem gX1_doubtJoint_X0_make : GoodIn wsX1_doubtJoint (wsV RX1 115 RX0 yX0_make wsX0_make) := goodIn_c ch_wsX1_doubtJoint hf_wsX1_doubtJoint hg_wsX1_doubtJoint _ [(2, 2), (2, 3), (2, 4), (1, 8), (2, 5), (1, 18), (1, 10), (2, 6), (2, 7), (2, 8), (1, 11), (1, 12), (1, 8), (1, 13), (2, 9), (2, 10), (2, 11), (2, 12), (2, 13), (2, 14), (5, 0), (5, 1), (5, 2), (5, 3), (5, 4)] rfl
set_option maxRecDepth 20000 in
theorem gX1_doubtJoint_X1_endTurn : GoodIn wsX1_doubtJoint (wsV RX1 88 RX1 yX1_endTurn wsX1_endTurn) := goodIn_c ch_wsX1_doubtJoint hf_wsX1_doubtJoint hg_wsX1_doubtJoint _ [(2, 15), (2, 16), (2, 17), (1, 22), (2, 18), (2, 19), (1, 1), (3, 0), (3, 1), (3, 2), (3, 3), (3, 4)] rfl
theorem dX1_doubtJoint_0 : decode cX1_doubtJoint 0 = .ok (.aload_n 0, 1) := by decide +kernel
theorem dX1_doubtJoint_1 : decode cX1_doubtJoint 1 = .ok (.getfield 12, 3) := by decide +kernel
theorem dX1_doubtJoint_4 : decode cX1_doubtJoint 4 = .ok (.iload_n 1, 1) := by decide +kernel
theorem dX1_doubtJoint_5 : decode cX1_doubtJoint 5 = .ok (.invokevirtual 60, 3) := by decide +kernel
theorem dX1_doubtJoint_8 : decode cX1_doubtJoint 8 = .ok (.iconst 1, 1) := by decide +kernel
theorem dX1_doubtJoint_9 : decode cX1_doubtJoint 9 = .ok (.aload_n 0, 1) := by decide +kernel
theorem dX1_doubtJoint_10 : decode cX1_doubtJoint 10 = .ok (.getfield 35, 3) := by decide +kernel
theorem dX1_doubtJoint_13 : decode cX1_doubtJoint 13 = .ok (.isub, 1) := by decide +kernel
theorem dX1_doubtJoint_14 : decode cX1_doubtJoint 14 = .ok (.if_icmp .eq 6, 3) := by decide +kernel
theorem dX1_doubtJoint_17 : decode cX1_doubtJoint 17 = .ok (.bipush (-5), 2) := by decide +kernel
theorem dX1_doubtJoint_19 : decode cX1_doubtJoint 19 = .ok (.ireturn, 1) := by decide +kernel
theorem dX1_doubtJoint_20 : decode cX1_doubtJoint 20 = .ok (.aload_n 0, 1) := by decide +kernel
theorem dX1_doubtJoint_21 : decode cX1_doubtJoint 21 = .ok (.getfield 12, 3) := by decide +kernel
theorem dX1_doubtJoint_24 : decode cX1_doubtJoint 24 = .ok (.iload_n 1, 1) := by decide +kernel
theorem dX1_doubtJoint_25 : decode cX1_doubtJoint 25 = .ok (.invokevirtual 64, 3) := by decide +kernel
theorem dX1_doubtJoint_28 : decode cX1_doubtJoint 28 = .ok (.iconst 3, 1) := by decide +kernel
theorem dX1_doubtJoint_29 : decode cX1_doubtJoint 29 = .ok (.if_icmp .ne 7, 3) := by decide +kernel
theorem dX1_doubtJoint_32 : decode cX1_doubtJoint 32 = .ok (.iconst 1, 1) := by decide +kernel
theorem dX1_doubtJoint_33 : decode cX1_doubtJoint 33 = .ok (.goto 4, 3) := by decide +kernel
theorem dX1_doubtJoint_36 : decode cX1_doubtJoint 36 = .ok (.iconst 0, 1) := by decide +kernel
theorem dX1_doubtJoint_37 : decode cX1_doubtJoint 37 = .ok (.istore_n 2, 1) := by decide +kernel
theorem dX1_doubtJoint_38 : decode cX1_doubtJoint 38 = .ok (.aload_n 0, 1) := by decide +kernel
theorem dX1_doubtJoint_39 : decode cX1_doubtJoint 39 = .ok (.aload_n 0, 1) := by decide +kernel
theorem dX1_doubtJoint_40 : decode cX1_doubtJoint 40 = .ok (.getfield 35, 3) := by decide +kernel
theorem dX1_doubtJoint_43 : decode cX1_doubtJoint 43 = .ok (.invokevirtual 91, 3) := by decide +kernel
theorem dX1_doubtJoint_46 : decode cX1_doubtJoint 46 = .ok (.astore_n 3, 1) := by decide +kernel
theorem dX1_doubtJoint_47 : decode cX1_doubtJoint 47 = .ok (.iload_n 2, 1) := by decide +kernel
theorem dX1_doubtJoint_48 : decode cX1_doubtJoint 48 = .ok (.ifCond .eq 26, 3) := by decide +kernel
theorem dX1_doubtJoint_51 : decode cX1_doubtJoint 51 = .ok (.aload_n 3, 1) := by decide +kernel
theorem dX1_doubtJoint_52 : decode cX1_doubtJoint 52 = .ok (.dup, 1) := by decide +kernel
theorem dX1_doubtJoint_53 : decode cX1_doubtJoint 53 = .ok (.getfield 50, 3) := by decide +kernel
theorem dX1_doubtJoint_56 : decode cX1_doubtJoint 56 = .ok (.iconst 2, 1) := by decide +kernel
theorem dX1_doubtJoint_57 : decode cX1_doubtJoint 57 = .ok (.iadd, 1) := by decide +kernel
theorem dX1_doubtJoint_58 : decode cX1_doubtJoint 58 = .ok (.putfield 50, 3) := by decide +kernel
theorem dX1_doubtJoint_61 : decode cX1_doubtJoint 61 = .ok (.aload_n 3, 1) := by decide +kernel
theorem dX1_doubtJoint_62 : decode cX1_doubtJoint 62 = .ok (.dup, 1) := by decide +kernel
theorem dX1_doubtJoint_63 : decode cX1_doubtJoint 63 = .ok (.getfield 150, 3) := by decide +kernel
theorem dX1_doubtJoint_66 : decode cX1_doubtJoint 66 = .ok (.iconst 1, 1) := by decide +kernel
theorem dX1_doubtJoint_67 : decode cX1_doubtJoint 67 = .ok (.iadd, 1) := by decide +kernel
theorem dX1_doubtJoint_68 : decode cX1_doubtJoint 68 = .ok (.putfield 150, 3) := by decide +kernel
theorem dX1_doubtJoint_71 : decode cX1_doubtJoint 71 = .ok (.goto 23, 3) := by decide +kernel
theorem dX1_doubtJoint_74 : decode cX1_doubtJoint 74 = .ok (.aload_n 3, 1) := by decide +kernel
theorem dX1_doubtJoint_75 : decode cX1_doubtJoint 75 = .ok (.dup, 1) := by decide +kernel
theorem dX1_doubtJoint_76 : decode cX1_doubtJoint 76 = .ok (.getfield 50, 3) := by decide +kernel
theorem dX1_doubtJoint_79 : decode cX1_doubtJoint 79 = .ok (.iconst 2, 1) := by decide +kernel
theorem dX1_doubtJoint_80 : decode cX1_doubtJoint 80 = .ok (.isub, 1) := by decide +kernel
theorem dX1_doubtJoint_81 : decode cX1_doubtJoint 81 = .ok (.putfield 50, 3) := by decide +kernel
theorem dX1_doubtJoint_84 : decode cX1_doubtJoint 84 = .ok (.aload_n 3, 1) := by decide +kernel
theorem dX1_doubtJoint_85 : decode cX1_doubtJoint 85 = .ok (.dup, 1) := by decide +kernel
theorem dX1_doubtJoint_86 : decode cX1_doubtJoint 86 = .ok (.getfield 153, 3) := by decide +kernel
theorem dX1_doubtJoint_89 : decode cX1_doubtJoint 89 = .ok (.iconst 1, 1) := by decide +kernel
theorem dX1_doubtJoint_90 : decode cX1_doubtJoint 90 = .ok (.iadd, 1) := by decide +kernel
theorem dX1_doubtJoint_91 : decode cX1_doubtJoint 91 = .ok (.putfield 153, 3) := by decide +kernel
theorem dX1_doubtJoint_94 : decode cX1_doubtJoint 94 = .ok (.aload_n 0, 1) := by decide +kernel
theorem dX1_doubtJoint_95 : decode cX1_doubtJoint 95 = .ok (.getfield 12, 3) := by decide +kernel
theorem dX1_doubtJoint_98 : decode cX1_doubtJoint 98 = .ok (.iload_n 1, 1) := by decide +kernel
theorem dX1_doubtJoint_99 : decode cX1_doubtJoint 99 = .ok (.iload_n 2, 1) := by decide +kernel
theorem dX1_doubtJoint_100 : decode cX1_doubtJoint 100 = .ok (.ifCond .eq 7, 3) := by decide +kernel
theorem dX1_doubtJoint_103 : decode cX1_doubtJoint 103 = .ok (.iconst 1, 1) := by decide +kernel
theorem dX1_doubtJoint_104 : decode cX1_doubtJoint 104 = .ok (.goto 4, 3) := by decide +kernel
theorem dX1_doubtJoint_107 : decode cX1_doubtJoint 107 = .ok (.iconst 2, 1) := by decide +kernel
theorem dX1_doubtJoint_108 : decode cX1_doubtJoint 108 = .ok (.bipush (-6), 2) := by decide +kernel
theorem dX1_doubtJoint_110 : decode cX1_doubtJoint 110 = .ok (.invokevirtual 115, 3) := by decide +kernel
theorem dX1_doubtJoint_113 : decode cX1_doubtJoint 113 = .ok (.aload_n 0, 1) := by decide +kernel
theorem dX1_doubtJoint_114 : decode cX1_doubtJoint 114 = .ok (.invokevirtual 88, 3) := by decide +kernel
theorem dX1_doubtJoint_117 : decode cX1_doubtJoint 117 = .ok (.iload_n 2, 1) := by decide +kernel
theorem dX1_doubtJoint_118 : decode cX1_doubtJoint 118 = .ok (.ifCond .eq 7, 3) := by decide +kernel
theorem dX1_doubtJoint_121 : decode cX1_doubtJoint 121 = .ok (.iconst 1, 1) := by decide +kernel
theorem dX1_doubtJoint_122 : decode cX1_doubtJoint 122 = .ok (.goto 4, 3) := by decide +kernel
theorem dX1_doubtJoint_125 : decode cX1_doubtJoint 125 = .ok (.iconst 0, 1) := by decide +kernel
theorem dX1_doubtJoint_126 : decode cX1_doubtJoint 126 = .ok (.ireturn, 1) := by decide +kernel
def ch_wsX1_openGain : List (List Cond) := [[.code yX1_openGain cX1_openGain 3 (some .int)], wsX1_openGain_r1, wsX1_openGain_r2, wsX10, wsX50, wsX00]
set_option maxRecDepth 20000 in
theorem hf_wsX1_openGain : wsX1_openGain = (ch_wsX1_openGain).flatten := rfl
set_option maxRecDepth 20000 in
theorem hg_wsX1_openGain : (wsX1_openGain).all goodWord = true := by decide +kernel
set_option maxRecDepth 20000 in
theorem gX1_openGain_X1_tailorOf : GoodIn wsX1_openGain (wsV RX1 91 RX1 yX1_tailorOf wsX1_tailorOf) := goodIn_c ch_wsX1_openGain hf_wsX1_openGain hg_wsX1_openGain _ [(1, 2), (1, 3), (1, 4), (1, 5), (1, 6), (1, 7), (1, 8), (3, 0), (3, 1), (3, 2), (3, 3), (3, 4)] rfl
set_option maxRecDepth 20000 in
theorem gX1_openGain_X5_hasMark : GoodIn wsX1_openGain (wsV RX1 53 RX5 yX5_hasMark wsX5_hasMark) := goodIn_c ch_wsX1_openGain hf_wsX1_openGain hg_wsX1_openGain _ [(1, 9), (1, 10), (1, 11), (1, 12), (1, 13), (1, 14), (1, 15), (4, 0), (4, 1), (4, 2), (4, 3), (4, 4), (4, 5), (4, 6), (4, 7), (4, 8)] rfl
set_option maxRecDepth 20000 in
theorem gX1_openGain_X0_ragOf : GoodIn wsX1_openGain (wsV RX1 111 RX0 yX0_ragOf wsX0_ragOf) := goodIn_c ch_wsX1_openGain hf_wsX1_openGain hg_wsX1_openGain _ [(1, 16), (1, 17), (1, 18), (1, 19), (1, 20), (1, 21), (1, 22), (1, 23), (2, 0), (2, 1), (1, 19), (2, 2), (2, 3), (2, 4), (2, 5), (2, 6), (2, 7), (2, 8), (2, 9), (2, 10), (2, 11), (2, 12), (2, 13), (2, 14), (2, 15), (2, 16), (2, 17), (2, 18), (2, 19), (2, 20), (2, 21), (5, 0), (5, 1), (5, 2), (5, 3), (5, 4)] rfl
set_option maxRecDepth 20000 in
theorem gX1_openGain_J13_bitCount_95d88 : GoodIn wsX1_openGain (va_wsS RX1 123 yJ13_bitCount_95d88 wsJ13_bitCount_95d88) := goodIn_c ch_wsX1_openGain hf_wsX1_openGain hg_wsX1_openGain _ [(2, 22), (2, 16), (2, 17), (2, 18), (2, 19), (2, 20), (2, 21)] rfl
theorem dX1_openGain_0 : decode cX1_openGain 0 = .ok (.aload_n 0, 1) := by decide +kernel
theorem dX1_openGain_1 : decode cX1_openGain 1 = .ok (.aload_n 0, 1) := by decide +kernel
theorem dX1_openGain_2 : decode cX1_openGain 2 = .ok (.getfield 35, 3) := by decide +kernel
theorem dX1_openGain_5 : decode cX1_openGain 5 = .ok (.invokevirtual 91, 3) := by decide +kernel
theorem dX1_openGain_8 : decode cX1_openGain 8 = .ok (.iload_n 1, 1) := by decide +kernel
theorem dX1_openGain_9 : decode cX1_openGain 9 = .ok (.invokevirtual 53, 3) := by decide +kernel
theorem dX1_openGain_12 : decode cX1_openGain 12 = .ok (.ifCond .eq 7, 3) := by decide +kernel
theorem dX1_openGain_15 : decode cX1_openGain 15 = .ok (.iconst 1, 1) := by decide +kernel
theorem dX1_openGain_16 : decode cX1_openGain 16 = .ok (.goto 4, 3) := by decide +kernel
theorem dX1_openGain_19 : decode cX1_openGain 19 = .ok (.iconst 0, 1) := by decide +kernel
theorem dX1_openGain_20 : decode cX1_openGain 20 = .ok (.istore_n 2, 1) := by decide +kernel
theorem dX1_openGain_21 : decode cX1_openGain 21 = .ok (.aload_n 0, 1) := by decide +kernel
theorem dX1_openGain_22 : decode cX1_openGain 22 = .ok (.getfield 12, 3) := by decide +kernel
theorem dX1_openGain_25 : decode cX1_openGain 25 = .ok (.iload_n 1, 1) := by decide +kernel
theorem dX1_openGain_26 : decode cX1_openGain 26 = .ok (.invokevirtual 111, 3) := by decide +kernel
theorem dX1_openGain_29 : decode cX1_openGain 29 = .ok (.invokestatic 123, 3) := by decide +kernel
theorem dX1_openGain_32 : decode cX1_openGain 32 = .ok (.iload_n 2, 1) := by decide +kernel
theorem dX1_openGain_33 : decode cX1_openGain 33 = .ok (.iadd, 1) := by decide +kernel
theorem dX1_openGain_34 : decode cX1_openGain 34 = .ok (.ireturn, 1) := by decide +kernel
def ch_wsX1_bestJoint : List (List Cond) := [[.code yX1_bestJoint cX1_bestJoint 5 (some .int)], wsX1_bestJoint_r1, wsX1_bestJoint_r2, wsX1_bestJoint_r3, wsX1_bestJoint_r4, wsX10, wsX00, wsX50]
set_option maxRecDepth 20000 in
theorem hf_wsX1_bestJoint : wsX1_bestJoint = (ch_wsX1_bestJoint).flatten := rfl
set_option maxRecDepth 20000 in
theorem hg_wsX1_bestJoint : (wsX1_bestJoint).all goodWord = true := by decide +kernel
set_option maxRecDepth 20000 in
theorem gX1_bestJoint_X1_whyNoSnip : GoodIn wsX1_bestJoint (wsV RX1 104 RX1 yX1_whyNoSnip wsX1_whyNoSnip) := goodIn_c ch_wsX1_bestJoint hf_wsX1_bestJoint hg_wsX1_bestJoint _ [(1, 0), (1, 1), (1, 2), (1, 3), (1, 4), (1, 5), (1, 6), (1, 7), (1, 8), (1, 3), (1, 9), (1, 10), (1, 11), (1, 12), (1, 13), (1, 14), (1, 15), (1, 16), (1, 17), (1, 18), (1, 19), (1, 20), (1, 21), (1, 22), (1, 23), (2, 0), (2, 1), (2, 2), (2, 3), (2, 4), (2, 5), (2, 6), (2, 7), (2, 8), (2, 9), (2, 10), (2, 11), (2, 12), (2, 13), (2, 14), (2, 15), (2, 16), (2, 17), (2, 18), (2, 19), (2, 20), (5, 0), (5, 1), (5, 2), (5, 3), (5, 4), (6, 0), (6, 1), (6, 2), (6, 3), (6, 4)] rfl
set_option maxRecDepth 20000 in
theorem gX1_bestJoint_X1_openGain : GoodIn wsX1_bestJoint (wsV RX1 156 RX1 yX1_openGain wsX1_openGain) := goodIn_c ch_wsX1_bestJoint hf_wsX1_bestJoint hg_wsX1_bestJoint _ [(2, 21), (2, 22), (2, 23), (1, 3), (3, 0), (3, 1), (1, 5), (3, 2), (3, 3), (3, 4), (1, 3), (3, 5), (3, 6), (3, 7), (3, 8), (3, 9), (3, 10), (3, 11), (3, 12), (3, 13), (3, 14), (3, 15), (3, 16), (3, 17), (1, 14), (3, 18), (3, 19), (3, 20), (3, 21), (2, 7), (2, 8), (2, 9), (2, 4), (2, 5), (2, 6), (3, 22), (3, 23), (4, 0), (4, 1), (4, 2), (4, 3), (2, 10), (2, 11), (2, 12), (1, 17), (1, 18), (1, 19), (1, 20), (1, 21), (1, 22), (1, 23), (4, 4), (5, 0), (5, 1), (5, 2), (5, 3), (5, 4), (7, 0), (7, 1), (7, 2), (7, 3), (7, 4), (7, 5), (7, 6), (7, 7), (7, 8), (6, 0), (6, 1), (6, 2), (6, 3), (6, 4)] rfl
theorem dX1_bestJoint_0 : decode cX1_bestJoint 0 = .ok (.bipush (-6), 2) := by decide +kernel
theorem dX1_bestJoint_2 : decode cX1_bestJoint 2 = .ok (.istore_n 1, 1) := by decide +kernel
theorem dX1_bestJoint_3 : decode cX1_bestJoint 3 = .ok (.iconst (-1), 1) := by decide +kernel
theorem dX1_bestJoint_4 : decode cX1_bestJoint 4 = .ok (.istore_n 2, 1) := by decide +kernel
theorem dX1_bestJoint_5 : decode cX1_bestJoint 5 = .ok (.iconst 0, 1) := by decide +kernel
theorem dX1_bestJoint_6 : decode cX1_bestJoint 6 = .ok (.istore_n 3, 1) := by decide +kernel
theorem dX1_bestJoint_7 : decode cX1_bestJoint 7 = .ok (.iload_n 3, 1) := by decide +kernel
theorem dX1_bestJoint_8 : decode cX1_bestJoint 8 = .ok (.bipush 82, 2) := by decide +kernel
theorem dX1_bestJoint_10 : decode cX1_bestJoint 10 = .ok (.if_icmp .ge 39, 3) := by decide +kernel
theorem dX1_bestJoint_13 : decode cX1_bestJoint 13 = .ok (.aload_n 0, 1) := by decide +kernel
theorem dX1_bestJoint_14 : decode cX1_bestJoint 14 = .ok (.iload_n 3, 1) := by decide +kernel
theorem dX1_bestJoint_15 : decode cX1_bestJoint 15 = .ok (.invokevirtual 104, 3) := by decide +kernel
theorem dX1_bestJoint_18 : decode cX1_bestJoint 18 = .ok (.ifCond .ne 11, 3) := by decide +kernel
theorem dX1_bestJoint_21 : decode cX1_bestJoint 21 = .ok (.aload_n 0, 1) := by decide +kernel
theorem dX1_bestJoint_22 : decode cX1_bestJoint 22 = .ok (.iload_n 3, 1) := by decide +kernel
theorem dX1_bestJoint_23 : decode cX1_bestJoint 23 = .ok (.invokevirtual 156, 3) := by decide +kernel
theorem dX1_bestJoint_26 : decode cX1_bestJoint 26 = .ok (.goto 4, 3) := by decide +kernel
theorem dX1_bestJoint_29 : decode cX1_bestJoint 29 = .ok (.iconst (-1), 1) := by decide +kernel
theorem dX1_bestJoint_30 : decode cX1_bestJoint 30 = .ok (.istore 4, 2) := by decide +kernel
theorem dX1_bestJoint_32 : decode cX1_bestJoint 32 = .ok (.iload 4, 2) := by decide +kernel
theorem dX1_bestJoint_34 : decode cX1_bestJoint 34 = .ok (.iload_n 2, 1) := by decide +kernel
theorem dX1_bestJoint_35 : decode cX1_bestJoint 35 = .ok (.if_icmp .le 8, 3) := by decide +kernel
theorem dX1_bestJoint_38 : decode cX1_bestJoint 38 = .ok (.iload 4, 2) := by decide +kernel
theorem dX1_bestJoint_40 : decode cX1_bestJoint 40 = .ok (.istore_n 2, 1) := by decide +kernel
theorem dX1_bestJoint_41 : decode cX1_bestJoint 41 = .ok (.iload_n 3, 1) := by decide +kernel
theorem dX1_bestJoint_42 : decode cX1_bestJoint 42 = .ok (.istore_n 1, 1) := by decide +kernel
theorem dX1_bestJoint_43 : decode cX1_bestJoint 43 = .ok (.iinc 3 1, 3) := by decide +kernel
theorem dX1_bestJoint_46 : decode cX1_bestJoint 46 = .ok (.goto (-39), 3) := by decide +kernel
theorem dX1_bestJoint_49 : decode cX1_bestJoint 49 = .ok (.iload_n 1, 1) := by decide +kernel
theorem dX1_bestJoint_50 : decode cX1_bestJoint 50 = .ok (.ireturn, 1) := by decide +kernel
def ch_wsX2_init : List (List Cond) := [[.code yX2_init cX2_init 2 none], wsX2_init_r1, wsX2_init_r2, wsX2_init_r3, wsX20, wsX10, wsX00, wsX50]
set_option maxRecDepth 20000 in
theorem hf_wsX2_init : wsX2_init = (ch_wsX2_init).flatten := rfl
set_option maxRecDepth 20000 in
theorem hg_wsX2_init : (wsX2_init).all goodWord = true := by decide +kernel
set_option maxRecDepth 20000 in
theorem gX2_init_X1_init : GoodIn wsX2_init (wsX1_init) := goodIn_c ch_wsX2_init hf_wsX2_init hg_wsX2_init _ [(1, 10), (1, 11), (1, 1), (1, 2), (1, 12), (1, 13), (1, 14), (1, 15), (1, 16), (1, 17), (1, 18), (1, 19), (1, 20), (1, 21), (1, 22), (1, 23), (2, 0), (2, 1), (2, 2), (2, 3), (2, 4), (2, 5), (2, 6), (2, 7), (2, 8), (2, 9), (2, 10), (2, 11), (2, 12), (2, 13), (2, 14), (2, 15), (2, 16), (2, 17), (2, 18), (2, 19), (2, 20), (2, 21), (2, 22), (2, 23), (3, 0), (3, 1), (6, 0), (6, 1), (6, 2), (6, 3), (6, 4), (5, 0), (5, 1), (5, 2), (5, 3), (5, 4), (7, 0), (7, 1), (7, 2), (7, 3), (7, 4), (7, 5), (7, 6), (7, 7), (7, 8)] rfl
theorem dX2_init_0 : decode cX2_init 0 = .ok (.aload_n 0, 1) := by decide +kernel
theorem dX2_init_1 : decode cX2_init 1 = .ok (.invokespecial 3, 3) := by decide +kernel
theorem dX2_init_4 : decode cX2_init 4 = .ok (.aload_n 0, 1) := by decide +kernel
theorem dX2_init_5 : decode cX2_init 5 = .ok (.bipush 6, 2) := by decide +kernel
theorem dX2_init_7 : decode cX2_init 7 = .ok (.anewarray 11, 3) := by decide +kernel
theorem dX2_init_10 : decode cX2_init 10 = .ok (.putfield 13, 3) := by decide +kernel
theorem dX2_init_13 : decode cX2_init 13 = .ok (.iconst 0, 1) := by decide +kernel
theorem dX2_init_14 : decode cX2_init 14 = .ok (.istore_n 1, 1) := by decide +kernel
theorem dX2_init_15 : decode cX2_init 15 = .ok (.iload_n 1, 1) := by decide +kernel
theorem dX2_init_16 : decode cX2_init 16 = .ok (.bipush 6, 2) := by decide +kernel
theorem dX2_init_18 : decode cX2_init 18 = .ok (.if_icmp .ge 22, 3) := by decide +kernel
theorem dX2_init_21 : decode cX2_init 21 = .ok (.aload_n 0, 1) := by decide +kernel
theorem dX2_init_22 : decode cX2_init 22 = .ok (.getfield 13, 3) := by decide +kernel
theorem dX2_init_25 : decode cX2_init 25 = .ok (.iload_n 1, 1) := by decide +kernel
theorem dX2_init_26 : decode cX2_init 26 = .ok (.new 11, 3) := by decide +kernel
theorem dX2_init_29 : decode cX2_init 29 = .ok (.dup, 1) := by decide +kernel
theorem dX2_init_30 : decode cX2_init 30 = .ok (.invokespecial 17, 3) := by decide +kernel
theorem dX2_init_33 : decode cX2_init 33 = .ok (.aastore, 1) := by decide +kernel
theorem dX2_init_34 : decode cX2_init 34 = .ok (.iinc 1 1, 3) := by decide +kernel
theorem dX2_init_37 : decode cX2_init 37 = .ok (.goto (-22), 3) := by decide +kernel
theorem dX2_init_40 : decode cX2_init 40 = .ok (.aload_n 0, 1) := by decide +kernel
theorem dX2_init_41 : decode cX2_init 41 = .ok (.new 11, 3) := by decide +kernel
theorem dX2_init_44 : decode cX2_init 44 = .ok (.dup, 1) := by decide +kernel
theorem dX2_init_45 : decode cX2_init 45 = .ok (.invokespecial 17, 3) := by decide +kernel
theorem dX2_init_48 : decode cX2_init 48 = .ok (.putfield 18, 3) := by decide +kernel
theorem dX2_init_51 : decode cX2_init 51 = .ok (.return_, 1) := by decide +kernel
def ch_wsX2_note : List (List Cond) := [[.code yX2_note cX2_note 2 none], wsX2_note_r1, wsX2_note_r2, wsX20, wsX10, wsX00, wsX50]
set_option maxRecDepth 20000 in
theorem hf_wsX2_note : wsX2_note = (ch_wsX2_note).flatten := rfl
set_option maxRecDepth 20000 in
theorem hg_wsX2_note : (wsX2_note).all goodWord = true := by decide +kernel
set_option maxRecDepth 20000 in
theorem gX2_note_X1_become : GoodIn wsX2_note (wsV RX2 22 RX1 yX1_become wsX1_become) := goodIn_c ch_wsX2_note hf_wsX2_note hg_wsX2_note _ [(1, 1), (1, 2), (1, 3), (1, 4), (1, 5), (1, 6), (1, 7), (1, 8), (1, 9), (1, 10), (1, 11), (1, 12), (1, 13), (1, 14), (1, 15), (1, 16), (1, 17), (1, 18), (1, 19), (1, 20), (1, 21), (1, 22), (1, 23), (2, 0), (2, 1), (2, 2), (2, 3), (2, 4), (2, 5), (2, 6), (2, 7), (2, 8), (2, 9), (2, 10), (4, 0), (4, 1), (4, 2), (4, 3), (4, 4), (5, 0), (5, 1), (5, 2), (5, 3), (5, 4), (6, 0), (6, 1), (6, 2), (6, 3), (6, 4), (6, 5), (6, 6), (6, 7), (6, 8)] rfl
theorem dX2_note_0 : decode cX2_note 0 = .ok (.aload_n 0, 1) := by decide +kernel
theorem dX2_note_1 : decode cX2_note 1 = .ok (.getfield 18, 3) := by decide +kernel
theorem dX2_note_4 : decode cX2_note 4 = .ok (.aload_n 1, 1) := by decide +kernel
theorem dX2_note_5 : decode cX2_note 5 = .ok (.invokevirtual 22, 3) := by decide +kernel
theorem dX2_note_8 : decode cX2_note 8 = .ok (.return_, 1) := by decide +kernel
def ch_wsX2_keepNoted : List (List Cond) := [[.code yX2_keepNoted cX2_keepNoted 2 none], [.fieldLink RX2 26 "TailorChalks$History" "kept" "I", .fieldLink RX2 13 "TailorChalks$History" "states" "[LTailorChalks$Game;", .fieldLink RX2 18 "TailorChalks$History" "noted" "LTailorChalks$Game;", .methodLink RX2 30 yX2_dropOldest, .instanceMethod yX2_dropOldest, .selects RX2 yX2_dropOldest yX2_dropOldest, .initialized RX2, .code yX2_dropOldest cX2_dropOldest 3 none], wsX20]
set_option maxRecDepth 20000 in
theorem hf_wsX2_keepNoted : wsX2_keepNoted = (ch_wsX2_keepNoted).flatten := rfl
set_option maxRecDepth 20000 in
theorem hg_wsX2_keepNoted : (wsX2_keepNoted).all goodWord = true := by decide +kernel
set_option maxRecDepth 20000 in
theorem gX2_keepNoted_X2_dropOldest : GoodIn wsX2_keepNoted (wsV RX2 30 RX2 yX2_dropOldest wsX2_dropOldest) := goodIn_c ch_wsX2_keepNoted hf_wsX2_keepNoted hg_wsX2_keepNoted _ [(1, 3), (1, 4), (1, 5), (1, 6), (1, 7), (1, 1), (1, 0), (2, 0), (2, 1), (2, 2)] rfl
theorem dX2_keepNoted_0 : decode cX2_keepNoted 0 = .ok (.aload_n 0, 1) := by decide +kernel
theorem dX2_keepNoted_1 : decode cX2_keepNoted 1 = .ok (.getfield 26, 3) := by decide +kernel
theorem dX2_keepNoted_4 : decode cX2_keepNoted 4 = .ok (.bipush 6, 2) := by decide +kernel
theorem dX2_keepNoted_6 : decode cX2_keepNoted 6 = .ok (.if_icmp .lt 7, 3) := by decide +kernel
theorem dX2_keepNoted_9 : decode cX2_keepNoted 9 = .ok (.aload_n 0, 1) := by decide +kernel
theorem dX2_keepNoted_10 : decode cX2_keepNoted 10 = .ok (.invokevirtual 30, 3) := by decide +kernel
theorem dX2_keepNoted_13 : decode cX2_keepNoted 13 = .ok (.aload_n 0, 1) := by decide +kernel
theorem dX2_keepNoted_14 : decode cX2_keepNoted 14 = .ok (.getfield 13, 3) := by decide +kernel
theorem dX2_keepNoted_17 : decode cX2_keepNoted 17 = .ok (.aload_n 0, 1) := by decide +kernel
theorem dX2_keepNoted_18 : decode cX2_keepNoted 18 = .ok (.getfield 26, 3) := by decide +kernel
theorem dX2_keepNoted_21 : decode cX2_keepNoted 21 = .ok (.aaload, 1) := by decide +kernel
theorem dX2_keepNoted_22 : decode cX2_keepNoted 22 = .ok (.astore_n 1, 1) := by decide +kernel
theorem dX2_keepNoted_23 : decode cX2_keepNoted 23 = .ok (.aload_n 0, 1) := by decide +kernel
theorem dX2_keepNoted_24 : decode cX2_keepNoted 24 = .ok (.getfield 13, 3) := by decide +kernel
theorem dX2_keepNoted_27 : decode cX2_keepNoted 27 = .ok (.aload_n 0, 1) := by decide +kernel
theorem dX2_keepNoted_28 : decode cX2_keepNoted 28 = .ok (.getfield 26, 3) := by decide +kernel
theorem dX2_keepNoted_31 : decode cX2_keepNoted 31 = .ok (.aload_n 0, 1) := by decide +kernel
theorem dX2_keepNoted_32 : decode cX2_keepNoted 32 = .ok (.getfield 18, 3) := by decide +kernel
theorem dX2_keepNoted_35 : decode cX2_keepNoted 35 = .ok (.aastore, 1) := by decide +kernel
theorem dX2_keepNoted_36 : decode cX2_keepNoted 36 = .ok (.aload_n 0, 1) := by decide +kernel
theorem dX2_keepNoted_37 : decode cX2_keepNoted 37 = .ok (.aload_n 1, 1) := by decide +kernel
theorem dX2_keepNoted_38 : decode cX2_keepNoted 38 = .ok (.putfield 18, 3) := by decide +kernel
theorem dX2_keepNoted_41 : decode cX2_keepNoted 41 = .ok (.aload_n 0, 1) := by decide +kernel
theorem dX2_keepNoted_42 : decode cX2_keepNoted 42 = .ok (.dup, 1) := by decide +kernel
theorem dX2_keepNoted_43 : decode cX2_keepNoted 43 = .ok (.getfield 26, 3) := by decide +kernel
theorem dX2_keepNoted_46 : decode cX2_keepNoted 46 = .ok (.iconst 1, 1) := by decide +kernel
theorem dX2_keepNoted_47 : decode cX2_keepNoted 47 = .ok (.iadd, 1) := by decide +kernel
theorem dX2_keepNoted_48 : decode cX2_keepNoted 48 = .ok (.putfield 26, 3) := by decide +kernel
theorem dX2_keepNoted_51 : decode cX2_keepNoted 51 = .ok (.return_, 1) := by decide +kernel
theorem dX2_dropOldest_0 : decode cX2_dropOldest 0 = .ok (.aload_n 0, 1) := by decide +kernel
theorem dX2_dropOldest_1 : decode cX2_dropOldest 1 = .ok (.getfield 13, 3) := by decide +kernel
theorem dX2_dropOldest_4 : decode cX2_dropOldest 4 = .ok (.iconst 0, 1) := by decide +kernel
theorem dX2_dropOldest_5 : decode cX2_dropOldest 5 = .ok (.aaload, 1) := by decide +kernel
theorem dX2_dropOldest_6 : decode cX2_dropOldest 6 = .ok (.astore_n 1, 1) := by decide +kernel
theorem dX2_dropOldest_7 : decode cX2_dropOldest 7 = .ok (.iconst 1, 1) := by decide +kernel
theorem dX2_dropOldest_8 : decode cX2_dropOldest 8 = .ok (.istore_n 2, 1) := by decide +kernel
theorem dX2_dropOldest_9 : decode cX2_dropOldest 9 = .ok (.iload_n 2, 1) := by decide +kernel
theorem dX2_dropOldest_10 : decode cX2_dropOldest 10 = .ok (.bipush 6, 2) := by decide +kernel
theorem dX2_dropOldest_12 : decode cX2_dropOldest 12 = .ok (.if_icmp .ge 23, 3) := by decide +kernel
theorem dX2_dropOldest_15 : decode cX2_dropOldest 15 = .ok (.aload_n 0, 1) := by decide +kernel
theorem dX2_dropOldest_16 : decode cX2_dropOldest 16 = .ok (.getfield 13, 3) := by decide +kernel
theorem dX2_dropOldest_19 : decode cX2_dropOldest 19 = .ok (.iload_n 2, 1) := by decide +kernel
theorem dX2_dropOldest_20 : decode cX2_dropOldest 20 = .ok (.iconst 1, 1) := by decide +kernel
theorem dX2_dropOldest_21 : decode cX2_dropOldest 21 = .ok (.isub, 1) := by decide +kernel
theorem dX2_dropOldest_22 : decode cX2_dropOldest 22 = .ok (.aload_n 0, 1) := by decide +kernel
theorem dX2_dropOldest_23 : decode cX2_dropOldest 23 = .ok (.getfield 13, 3) := by decide +kernel
theorem dX2_dropOldest_26 : decode cX2_dropOldest 26 = .ok (.iload_n 2, 1) := by decide +kernel
theorem dX2_dropOldest_27 : decode cX2_dropOldest 27 = .ok (.aaload, 1) := by decide +kernel
theorem dX2_dropOldest_28 : decode cX2_dropOldest 28 = .ok (.aastore, 1) := by decide +kernel
theorem dX2_dropOldest_29 : decode cX2_dropOldest 29 = .ok (.iinc 2 1, 3) := by decide +kernel
theorem dX2_dropOldest_32 : decode cX2_dropOldest 32 = .ok (.goto (-23), 3) := by decide +kernel
theorem dX2_dropOldest_35 : decode cX2_dropOldest 35 = .ok (.aload_n 0, 1) := by decide +kernel
theorem dX2_dropOldest_36 : decode cX2_dropOldest 36 = .ok (.getfield 13, 3) := by decide +kernel
theorem dX2_dropOldest_39 : decode cX2_dropOldest 39 = .ok (.iconst 5, 1) := by decide +kernel
theorem dX2_dropOldest_40 : decode cX2_dropOldest 40 = .ok (.aload_n 1, 1) := by decide +kernel
theorem dX2_dropOldest_41 : decode cX2_dropOldest 41 = .ok (.aastore, 1) := by decide +kernel
theorem dX2_dropOldest_42 : decode cX2_dropOldest 42 = .ok (.aload_n 0, 1) := by decide +kernel
theorem dX2_dropOldest_43 : decode cX2_dropOldest 43 = .ok (.iconst 5, 1) := by decide +kernel
theorem dX2_dropOldest_44 : decode cX2_dropOldest 44 = .ok (.putfield 26, 3) := by decide +kernel
theorem dX2_dropOldest_47 : decode cX2_dropOldest 47 = .ok (.return_, 1) := by decide +kernel
def ch_wsX2_goBack : List (List Cond) := [[.code yX2_goBack cX2_goBack 2 (some .int)], wsX2_goBack_r1, wsX2_goBack_r2, wsX20, wsX10, wsX00, wsX50]
set_option maxRecDepth 20000 in
theorem hf_wsX2_goBack : wsX2_goBack = (ch_wsX2_goBack).flatten := rfl
set_option maxRecDepth 20000 in
theorem hg_wsX2_goBack : (wsX2_goBack).all goodWord = true := by decide +kernel
set_option maxRecDepth 20000 in
theorem gX2_goBack_X1_become : GoodIn wsX2_goBack (wsV RX2 22 RX1 yX1_become wsX1_become) := goodIn_c ch_wsX2_goBack hf_wsX2_goBack hg_wsX2_goBack _ [(1, 2), (1, 3), (1, 4), (1, 5), (1, 6), (1, 7), (1, 8), (1, 9), (1, 10), (1, 11), (1, 12), (1, 13), (1, 14), (1, 15), (1, 16), (1, 17), (1, 18), (1, 19), (1, 20), (1, 21), (1, 22), (1, 23), (2, 0), (2, 1), (2, 2), (2, 3), (2, 4), (2, 5), (2, 6), (2, 7), (2, 8), (2, 9), (2, 10), (2, 11), (4, 0), (4, 1), (4, 2), (4, 3), (4, 4), (5, 0), (5, 1), (5, 2), (5, 3), (5, 4), (6, 0), (6, 1), (6, 2), (6, 3), (6, 4), (6, 5), (6, 6), (6, 7), (6, 8)] rfl
theorem dX2_goBack_0 : decode cX2_goBack 0 = .ok (.aload_n 0, 1) := by decide +kernel
theorem dX2_goBack_1 : decode cX2_goBack 1 = .ok (.getfield 26, 3) := by decide +kernel
theorem dX2_goBack_4 : decode cX2_goBack 4 = .ok (.ifCond .gt 6, 3) := by decide +kernel
theorem dX2_goBack_7 : decode cX2_goBack 7 = .ok (.bipush (-5), 2) := by decide +kernel
theorem dX2_goBack_9 : decode cX2_goBack 9 = .ok (.ireturn, 1) := by decide +kernel
theorem dX2_goBack_10 : decode cX2_goBack 10 = .ok (.aload_n 0, 1) := by decide +kernel
theorem dX2_goBack_11 : decode cX2_goBack 11 = .ok (.dup, 1) := by decide +kernel
theorem dX2_goBack_12 : decode cX2_goBack 12 = .ok (.getfield 26, 3) := by decide +kernel
theorem dX2_goBack_15 : decode cX2_goBack 15 = .ok (.iconst 1, 1) := by decide +kernel
theorem dX2_goBack_16 : decode cX2_goBack 16 = .ok (.isub, 1) := by decide +kernel
theorem dX2_goBack_17 : decode cX2_goBack 17 = .ok (.putfield 26, 3) := by decide +kernel
theorem dX2_goBack_20 : decode cX2_goBack 20 = .ok (.aload_n 1, 1) := by decide +kernel
theorem dX2_goBack_21 : decode cX2_goBack 21 = .ok (.aload_n 0, 1) := by decide +kernel
theorem dX2_goBack_22 : decode cX2_goBack 22 = .ok (.getfield 13, 3) := by decide +kernel
theorem dX2_goBack_25 : decode cX2_goBack 25 = .ok (.aload_n 0, 1) := by decide +kernel
theorem dX2_goBack_26 : decode cX2_goBack 26 = .ok (.getfield 26, 3) := by decide +kernel
theorem dX2_goBack_29 : decode cX2_goBack 29 = .ok (.aaload, 1) := by decide +kernel
theorem dX2_goBack_30 : decode cX2_goBack 30 = .ok (.invokevirtual 22, 3) := by decide +kernel
theorem dX2_goBack_33 : decode cX2_goBack 33 = .ok (.aload_n 0, 1) := by decide +kernel
theorem dX2_goBack_34 : decode cX2_goBack 34 = .ok (.getfield 26, 3) := by decide +kernel
theorem dX2_goBack_37 : decode cX2_goBack 37 = .ok (.ireturn, 1) := by decide +kernel
theorem dX3_init_0 : decode cX3_init 0 = .ok (.aload_n 0, 1) := by decide +kernel
theorem dX3_init_1 : decode cX3_init 1 = .ok (.invokespecial 3, 3) := by decide +kernel
theorem dX3_init_4 : decode cX3_init 4 = .ok (.aload_n 0, 1) := by decide +kernel
theorem dX3_init_5 : decode cX3_init 5 = .ok (.bipush 80, 2) := by decide +kernel
theorem dX3_init_7 : decode cX3_init 7 = .ok (.newarray .char, 2) := by decide +kernel
theorem dX3_init_9 : decode cX3_init 9 = .ok (.putfield 11, 3) := by decide +kernel
theorem dX3_init_12 : decode cX3_init 12 = .ok (.return_, 1) := by decide +kernel
def ch_wsX3_append : List (List Cond) := [[.code yX3_append cX3_append 5 (some .int)], [.fieldLink RX3 19 "TailorChalks$Pad" "length" "I", .fieldLink RX3 11 "TailorChalks$Pad" "signs" "[C", .constantLong RX3 23 (255), .methodLink RX3 15 yX3_charactersIn, .static yX3_charactersIn, .initialized RX3, .code yX3_charactersIn cX3_charactersIn 7 (some .int), .constantLong RX3 25 (33), .constantLong RX3 27 (126)], wsX30]
set_option maxRecDepth 20000 in
theorem hf_wsX3_append : wsX3_append = (ch_wsX3_append).flatten := rfl
set_option maxRecDepth 20000 in
theorem hg_wsX3_append : (wsX3_append).all goodWord = true := by decide +kernel
set_option maxRecDepth 20000 in
theorem gX3_append_X3_charactersIn : GoodIn wsX3_append (va_wsS RX3 15 yX3_charactersIn wsX3_charactersIn) := goodIn_c ch_wsX3_append hf_wsX3_append hg_wsX3_append _ [(1, 3), (1, 4), (1, 5), (1, 6), (1, 2), (1, 7), (1, 8)] rfl
theorem dX3_append_0 : decode cX3_append 0 = .ok (.lload_n 1, 1) := by decide +kernel
theorem dX3_append_1 : decode cX3_append 1 = .ok (.invokestatic 15, 3) := by decide +kernel
theorem dX3_append_4 : decode cX3_append 4 = .ok (.istore_n 3, 1) := by decide +kernel
theorem dX3_append_5 : decode cX3_append 5 = .ok (.iload_n 3, 1) := by decide +kernel
theorem dX3_append_6 : decode cX3_append 6 = .ok (.ifCond .ne 6, 3) := by decide +kernel
theorem dX3_append_9 : decode cX3_append 9 = .ok (.bipush (-2), 2) := by decide +kernel
theorem dX3_append_11 : decode cX3_append 11 = .ok (.ireturn, 1) := by decide +kernel
theorem dX3_append_12 : decode cX3_append 12 = .ok (.iload_n 3, 1) := by decide +kernel
theorem dX3_append_13 : decode cX3_append 13 = .ok (.bipush 80, 2) := by decide +kernel
theorem dX3_append_15 : decode cX3_append 15 = .ok (.aload_n 0, 1) := by decide +kernel
theorem dX3_append_16 : decode cX3_append 16 = .ok (.getfield 19, 3) := by decide +kernel
theorem dX3_append_19 : decode cX3_append 19 = .ok (.isub, 1) := by decide +kernel
theorem dX3_append_20 : decode cX3_append 20 = .ok (.if_icmp .le 6, 3) := by decide +kernel
theorem dX3_append_23 : decode cX3_append 23 = .ok (.bipush (-4), 2) := by decide +kernel
theorem dX3_append_25 : decode cX3_append 25 = .ok (.ireturn, 1) := by decide +kernel
theorem dX3_append_26 : decode cX3_append 26 = .ok (.iload_n 3, 1) := by decide +kernel
theorem dX3_append_27 : decode cX3_append 27 = .ok (.iconst 1, 1) := by decide +kernel
theorem dX3_append_28 : decode cX3_append 28 = .ok (.isub, 1) := by decide +kernel
theorem dX3_append_29 : decode cX3_append 29 = .ok (.istore 4, 2) := by decide +kernel
theorem dX3_append_31 : decode cX3_append 31 = .ok (.iload 4, 2) := by decide +kernel
theorem dX3_append_33 : decode cX3_append 33 = .ok (.ifCond .lt 41, 3) := by decide +kernel
theorem dX3_append_36 : decode cX3_append 36 = .ok (.aload_n 0, 1) := by decide +kernel
theorem dX3_append_37 : decode cX3_append 37 = .ok (.getfield 11, 3) := by decide +kernel
theorem dX3_append_40 : decode cX3_append 40 = .ok (.aload_n 0, 1) := by decide +kernel
theorem dX3_append_41 : decode cX3_append 41 = .ok (.getfield 19, 3) := by decide +kernel
theorem dX3_append_44 : decode cX3_append 44 = .ok (.lload_n 1, 1) := by decide +kernel
theorem dX3_append_45 : decode cX3_append 45 = .ok (.bipush 8, 2) := by decide +kernel
theorem dX3_append_47 : decode cX3_append 47 = .ok (.iload 4, 2) := by decide +kernel
theorem dX3_append_49 : decode cX3_append 49 = .ok (.imul, 1) := by decide +kernel
theorem dX3_append_50 : decode cX3_append 50 = .ok (.lushr, 1) := by decide +kernel
theorem dX3_append_51 : decode cX3_append 51 = .ok (.ldc2_w 23, 3) := by decide +kernel
theorem dX3_append_54 : decode cX3_append 54 = .ok (.land, 1) := by decide +kernel
theorem dX3_append_55 : decode cX3_append 55 = .ok (.l2i, 1) := by decide +kernel
theorem dX3_append_56 : decode cX3_append 56 = .ok (.i2c, 1) := by decide +kernel
theorem dX3_append_57 : decode cX3_append 57 = .ok (.castore, 1) := by decide +kernel
theorem dX3_append_58 : decode cX3_append 58 = .ok (.aload_n 0, 1) := by decide +kernel
theorem dX3_append_59 : decode cX3_append 59 = .ok (.dup, 1) := by decide +kernel
theorem dX3_append_60 : decode cX3_append 60 = .ok (.getfield 19, 3) := by decide +kernel
theorem dX3_append_63 : decode cX3_append 63 = .ok (.iconst 1, 1) := by decide +kernel
theorem dX3_append_64 : decode cX3_append 64 = .ok (.iadd, 1) := by decide +kernel
theorem dX3_append_65 : decode cX3_append 65 = .ok (.putfield 19, 3) := by decide +kernel
theorem dX3_append_68 : decode cX3_append 68 = .ok (.iinc 4 (-1), 3) := by decide +kernel
theorem dX3_append_71 : decode cX3_append 71 = .ok (.goto (-40), 3) := by decide +kernel
theorem dX3_append_74 : decode cX3_append 74 = .ok (.aload_n 0, 1) := by decide +kernel
theorem dX3_append_75 : decode cX3_append 75 = .ok (.getfield 19, 3) := by decide +kernel
theorem dX3_append_78 : decode cX3_append 78 = .ok (.ireturn, 1) := by decide +kernel
theorem dX3_charactersIn_0 : decode cX3_charactersIn 0 = .ok (.iconst 0, 1) := by decide +kernel
theorem dX3_charactersIn_1 : decode cX3_charactersIn 1 = .ok (.istore_n 2, 1) := by decide +kernel
theorem dX3_charactersIn_2 : decode cX3_charactersIn 2 = .ok (.lload_n 0, 1) := by decide +kernel
theorem dX3_charactersIn_3 : decode cX3_charactersIn 3 = .ok (.lstore_n 3, 1) := by decide +kernel
theorem dX3_charactersIn_4 : decode cX3_charactersIn 4 = .ok (.lload_n 3, 1) := by decide +kernel
theorem dX3_charactersIn_5 : decode cX3_charactersIn 5 = .ok (.lconst 0, 1) := by decide +kernel
theorem dX3_charactersIn_6 : decode cX3_charactersIn 6 = .ok (.lcmp, 1) := by decide +kernel
theorem dX3_charactersIn_7 : decode cX3_charactersIn 7 = .ok (.ifCond .eq 47, 3) := by decide +kernel
theorem dX3_charactersIn_10 : decode cX3_charactersIn 10 = .ok (.iload_n 2, 1) := by decide +kernel
theorem dX3_charactersIn_11 : decode cX3_charactersIn 11 = .ok (.bipush 8, 2) := by decide +kernel
theorem dX3_charactersIn_13 : decode cX3_charactersIn 13 = .ok (.if_icmp .ge 41, 3) := by decide +kernel
theorem dX3_charactersIn_16 : decode cX3_charactersIn 16 = .ok (.lload_n 3, 1) := by decide +kernel
theorem dX3_charactersIn_17 : decode cX3_charactersIn 17 = .ok (.ldc2_w 23, 3) := by decide +kernel
theorem dX3_charactersIn_20 : decode cX3_charactersIn 20 = .ok (.land, 1) := by decide +kernel
theorem dX3_charactersIn_21 : decode cX3_charactersIn 21 = .ok (.lstore 5, 2) := by decide +kernel
theorem dX3_charactersIn_23 : decode cX3_charactersIn 23 = .ok (.lload 5, 2) := by decide +kernel
theorem dX3_charactersIn_25 : decode cX3_charactersIn 25 = .ok (.ldc2_w 25, 3) := by decide +kernel
theorem dX3_charactersIn_28 : decode cX3_charactersIn 28 = .ok (.lcmp, 1) := by decide +kernel
theorem dX3_charactersIn_29 : decode cX3_charactersIn 29 = .ok (.ifCond .lt 12, 3) := by decide +kernel
theorem dX3_charactersIn_32 : decode cX3_charactersIn 32 = .ok (.lload 5, 2) := by decide +kernel
theorem dX3_charactersIn_34 : decode cX3_charactersIn 34 = .ok (.ldc2_w 27, 3) := by decide +kernel
theorem dX3_charactersIn_37 : decode cX3_charactersIn 37 = .ok (.lcmp, 1) := by decide +kernel
theorem dX3_charactersIn_38 : decode cX3_charactersIn 38 = .ok (.ifCond .le 5, 3) := by decide +kernel
theorem dX3_charactersIn_41 : decode cX3_charactersIn 41 = .ok (.iconst 0, 1) := by decide +kernel
theorem dX3_charactersIn_42 : decode cX3_charactersIn 42 = .ok (.ireturn, 1) := by decide +kernel
theorem dX3_charactersIn_43 : decode cX3_charactersIn 43 = .ok (.iinc 2 1, 3) := by decide +kernel
theorem dX3_charactersIn_46 : decode cX3_charactersIn 46 = .ok (.lload_n 3, 1) := by decide +kernel
theorem dX3_charactersIn_47 : decode cX3_charactersIn 47 = .ok (.bipush 8, 2) := by decide +kernel
theorem dX3_charactersIn_49 : decode cX3_charactersIn 49 = .ok (.lushr, 1) := by decide +kernel
theorem dX3_charactersIn_50 : decode cX3_charactersIn 50 = .ok (.lstore_n 3, 1) := by decide +kernel
theorem dX3_charactersIn_51 : decode cX3_charactersIn 51 = .ok (.goto (-47), 3) := by decide +kernel
theorem dX3_charactersIn_54 : decode cX3_charactersIn 54 = .ok (.iload_n 2, 1) := by decide +kernel
theorem dX3_charactersIn_55 : decode cX3_charactersIn 55 = .ok (.ireturn, 1) := by decide +kernel
theorem dX3_clear_0 : decode cX3_clear 0 = .ok (.aload_n 0, 1) := by decide +kernel
theorem dX3_clear_1 : decode cX3_clear 1 = .ok (.getfield 19, 3) := by decide +kernel
theorem dX3_clear_4 : decode cX3_clear 4 = .ok (.istore_n 1, 1) := by decide +kernel
theorem dX3_clear_5 : decode cX3_clear 5 = .ok (.aload_n 0, 1) := by decide +kernel
theorem dX3_clear_6 : decode cX3_clear 6 = .ok (.iconst 0, 1) := by decide +kernel
theorem dX3_clear_7 : decode cX3_clear 7 = .ok (.putfield 19, 3) := by decide +kernel
theorem dX3_clear_10 : decode cX3_clear 10 = .ok (.iload_n 1, 1) := by decide +kernel
theorem dX3_clear_11 : decode cX3_clear 11 = .ok (.ireturn, 1) := by decide +kernel
theorem dX3_signAt_0 : decode cX3_signAt 0 = .ok (.iload_n 1, 1) := by decide +kernel
theorem dX3_signAt_1 : decode cX3_signAt 1 = .ok (.ifCond .lt 20, 3) := by decide +kernel
theorem dX3_signAt_4 : decode cX3_signAt 4 = .ok (.iload_n 1, 1) := by decide +kernel
theorem dX3_signAt_5 : decode cX3_signAt 5 = .ok (.aload_n 0, 1) := by decide +kernel
theorem dX3_signAt_6 : decode cX3_signAt 6 = .ok (.getfield 19, 3) := by decide +kernel
theorem dX3_signAt_9 : decode cX3_signAt 9 = .ok (.if_icmp .ge 12, 3) := by decide +kernel
theorem dX3_signAt_12 : decode cX3_signAt 12 = .ok (.aload_n 0, 1) := by decide +kernel
theorem dX3_signAt_13 : decode cX3_signAt 13 = .ok (.getfield 11, 3) := by decide +kernel
theorem dX3_signAt_16 : decode cX3_signAt 16 = .ok (.iload_n 1, 1) := by decide +kernel
theorem dX3_signAt_17 : decode cX3_signAt 17 = .ok (.caload, 1) := by decide +kernel
theorem dX3_signAt_18 : decode cX3_signAt 18 = .ok (.goto 5, 3) := by decide +kernel
theorem dX3_signAt_21 : decode cX3_signAt 21 = .ok (.bipush 59, 2) := by decide +kernel
theorem dX3_signAt_23 : decode cX3_signAt 23 = .ok (.ireturn, 1) := by decide +kernel
theorem dX3_isDigit_0 : decode cX3_isDigit 0 = .ok (.iload_n 0, 1) := by decide +kernel
theorem dX3_isDigit_1 : decode cX3_isDigit 1 = .ok (.bipush 48, 2) := by decide +kernel
theorem dX3_isDigit_3 : decode cX3_isDigit 3 = .ok (.if_icmp .lt 13, 3) := by decide +kernel
theorem dX3_isDigit_6 : decode cX3_isDigit 6 = .ok (.iload_n 0, 1) := by decide +kernel
theorem dX3_isDigit_7 : decode cX3_isDigit 7 = .ok (.bipush 57, 2) := by decide +kernel
theorem dX3_isDigit_9 : decode cX3_isDigit 9 = .ok (.if_icmp .gt 7, 3) := by decide +kernel
theorem dX3_isDigit_12 : decode cX3_isDigit 12 = .ok (.iconst 1, 1) := by decide +kernel
theorem dX3_isDigit_13 : decode cX3_isDigit 13 = .ok (.goto 4, 3) := by decide +kernel
theorem dX3_isDigit_16 : decode cX3_isDigit 16 = .ok (.iconst 0, 1) := by decide +kernel
theorem dX3_isDigit_17 : decode cX3_isDigit 17 = .ok (.ireturn, 1) := by decide +kernel
def ch_wsX3_firstFault : List (List Cond) := [[.code yX3_firstFault cX3_firstFault 3 (some .int)], [.fieldLink RX3 19 "TailorChalks$Pad" "length" "I", .fieldLink RX3 11 "TailorChalks$Pad" "signs" "[C", .methodLink RX3 29 yX3_placeBehind, .static yX3_placeBehind, .initialized RX3, .code yX3_placeBehind cX3_placeBehind 3 (some .int), .methodLink RX3 33 yX3_placeBehindOrder, .static yX3_placeBehindOrder, .code yX3_placeBehindOrder cX3_placeBehindOrder 1 (some .int), .methodLink RX3 37 yX3_isDigit, .static yX3_isDigit, .code yX3_isDigit cX3_isDigit 1 (some .boolean)], wsX30]
set_option maxRecDepth 20000 in
theorem hf_wsX3_firstFault : wsX3_firstFault = (ch_wsX3_firstFault).flatten := rfl
set_option maxRecDepth 20000 in
theorem hg_wsX3_firstFault : (wsX3_firstFault).all goodWord = true := by decide +kernel
set_option maxRecDepth 20000 in
theorem gX3_firstFault_X3_placeBehind : GoodIn wsX3_firstFault (va_wsS RX3 29 yX3_placeBehind wsX3_placeBehind) := goodIn_c ch_wsX3_firstFault hf_wsX3_firstFault hg_wsX3_firstFault _ [(1, 2), (1, 3), (1, 4), (1, 5), (1, 6), (1, 7), (1, 4), (1, 8), (1, 9), (1, 10), (1, 11)] rfl
theorem dX3_firstFault_0 : decode cX3_firstFault 0 = .ok (.iconst 0, 1) := by decide +kernel
theorem dX3_firstFault_1 : decode cX3_firstFault 1 = .ok (.istore_n 1, 1) := by decide +kernel
theorem dX3_firstFault_2 : decode cX3_firstFault 2 = .ok (.iconst 0, 1) := by decide +kernel
theorem dX3_firstFault_3 : decode cX3_firstFault 3 = .ok (.istore_n 2, 1) := by decide +kernel
theorem dX3_firstFault_4 : decode cX3_firstFault 4 = .ok (.iload_n 2, 1) := by decide +kernel
theorem dX3_firstFault_5 : decode cX3_firstFault 5 = .ok (.aload_n 0, 1) := by decide +kernel
theorem dX3_firstFault_6 : decode cX3_firstFault 6 = .ok (.getfield 19, 3) := by decide +kernel
theorem dX3_firstFault_9 : decode cX3_firstFault 9 = .ok (.if_icmp .ge 27, 3) := by decide +kernel
theorem dX3_firstFault_12 : decode cX3_firstFault 12 = .ok (.iload_n 1, 1) := by decide +kernel
theorem dX3_firstFault_13 : decode cX3_firstFault 13 = .ok (.aload_n 0, 1) := by decide +kernel
theorem dX3_firstFault_14 : decode cX3_firstFault 14 = .ok (.getfield 11, 3) := by decide +kernel
theorem dX3_firstFault_17 : decode cX3_firstFault 17 = .ok (.iload_n 2, 1) := by decide +kernel
theorem dX3_firstFault_18 : decode cX3_firstFault 18 = .ok (.caload, 1) := by decide +kernel
theorem dX3_firstFault_19 : decode cX3_firstFault 19 = .ok (.invokestatic 29, 3) := by decide +kernel
theorem dX3_firstFault_22 : decode cX3_firstFault 22 = .ok (.istore_n 1, 1) := by decide +kernel
theorem dX3_firstFault_23 : decode cX3_firstFault 23 = .ok (.iload_n 1, 1) := by decide +kernel
theorem dX3_firstFault_24 : decode cX3_firstFault 24 = .ok (.iconst 4, 1) := by decide +kernel
theorem dX3_firstFault_25 : decode cX3_firstFault 25 = .ok (.if_icmp .ne 5, 3) := by decide +kernel
theorem dX3_firstFault_28 : decode cX3_firstFault 28 = .ok (.iload_n 2, 1) := by decide +kernel
theorem dX3_firstFault_29 : decode cX3_firstFault 29 = .ok (.ireturn, 1) := by decide +kernel
theorem dX3_firstFault_30 : decode cX3_firstFault 30 = .ok (.iinc 2 1, 3) := by decide +kernel
theorem dX3_firstFault_33 : decode cX3_firstFault 33 = .ok (.goto (-29), 3) := by decide +kernel
theorem dX3_firstFault_36 : decode cX3_firstFault 36 = .ok (.iload_n 1, 1) := by decide +kernel
theorem dX3_firstFault_37 : decode cX3_firstFault 37 = .ok (.iconst 2, 1) := by decide +kernel
theorem dX3_firstFault_38 : decode cX3_firstFault 38 = .ok (.if_icmp .eq 8, 3) := by decide +kernel
theorem dX3_firstFault_41 : decode cX3_firstFault 41 = .ok (.iload_n 1, 1) := by decide +kernel
theorem dX3_firstFault_42 : decode cX3_firstFault 42 = .ok (.iconst 3, 1) := by decide +kernel
theorem dX3_firstFault_43 : decode cX3_firstFault 43 = .ok (.if_icmp .ne 8, 3) := by decide +kernel
theorem dX3_firstFault_46 : decode cX3_firstFault 46 = .ok (.bipush (-6), 2) := by decide +kernel
theorem dX3_firstFault_48 : decode cX3_firstFault 48 = .ok (.goto 7, 3) := by decide +kernel
theorem dX3_firstFault_51 : decode cX3_firstFault 51 = .ok (.aload_n 0, 1) := by decide +kernel
theorem dX3_firstFault_52 : decode cX3_firstFault 52 = .ok (.getfield 19, 3) := by decide +kernel
theorem dX3_firstFault_55 : decode cX3_firstFault 55 = .ok (.ireturn, 1) := by decide +kernel
def ch_wsX3_placeBehind : List (List Cond) := [[.code yX3_placeBehind cX3_placeBehind 3 (some .int)], [.methodLink RX3 33 yX3_placeBehindOrder, .static yX3_placeBehindOrder, .initialized RX3, .code yX3_placeBehindOrder cX3_placeBehindOrder 1 (some .int), .methodLink RX3 37 yX3_isDigit, .static yX3_isDigit, .code yX3_isDigit cX3_isDigit 1 (some .boolean)]]
set_option maxRecDepth 20000 in
theorem hf_wsX3_placeBehind : wsX3_placeBehind = (ch_wsX3_placeBehind).flatten := rfl
set_option maxRecDepth 20000 in
theorem hg_wsX3_placeBehind : (wsX3_placeBehind).all goodWord = true := by decide +kernel
set_option maxRecDepth 20000 in
theorem gX3_placeBehind_X3_placeBehindOrder : GoodIn wsX3_placeBehind (va_wsS RX3 33 yX3_placeBehindOrder wsX3_placeBehindOrder) := goodIn_c ch_wsX3_placeBehind hf_wsX3_placeBehind hg_wsX3_placeBehind _ [(1, 0), (1, 1), (1, 2), (1, 3)] rfl
set_option maxRecDepth 20000 in
theorem gX3_placeBehind_X3_isDigit : GoodIn wsX3_placeBehind (va_wsS RX3 37 yX3_isDigit wsX3_isDigit) := goodIn_c ch_wsX3_placeBehind hf_wsX3_placeBehind hg_wsX3_placeBehind _ [(1, 4), (1, 5), (1, 2), (1, 6)] rfl
theorem dX3_placeBehind_0 : decode cX3_placeBehind 0 = .ok (.iload_n 0, 1) := by decide +kernel
theorem dX3_placeBehind_1 : decode cX3_placeBehind 1 = .ok (.ifCond .ne 8, 3) := by decide +kernel
theorem dX3_placeBehind_4 : decode cX3_placeBehind 4 = .ok (.iload_n 1, 1) := by decide +kernel
theorem dX3_placeBehind_5 : decode cX3_placeBehind 5 = .ok (.invokestatic 33, 3) := by decide +kernel
theorem dX3_placeBehind_8 : decode cX3_placeBehind 8 = .ok (.ireturn, 1) := by decide +kernel
theorem dX3_placeBehind_9 : decode cX3_placeBehind 9 = .ok (.iload_n 0, 1) := by decide +kernel
theorem dX3_placeBehind_10 : decode cX3_placeBehind 10 = .ok (.iconst 1, 1) := by decide +kernel
theorem dX3_placeBehind_11 : decode cX3_placeBehind 11 = .ok (.if_icmp .ne 22, 3) := by decide +kernel
theorem dX3_placeBehind_14 : decode cX3_placeBehind 14 = .ok (.iload_n 1, 1) := by decide +kernel
theorem dX3_placeBehind_15 : decode cX3_placeBehind 15 = .ok (.invokestatic 37, 3) := by decide +kernel
theorem dX3_placeBehind_18 : decode cX3_placeBehind 18 = .ok (.ifCond .eq 15, 3) := by decide +kernel
theorem dX3_placeBehind_21 : decode cX3_placeBehind 21 = .ok (.iload_n 1, 1) := by decide +kernel
theorem dX3_placeBehind_22 : decode cX3_placeBehind 22 = .ok (.bipush 48, 2) := by decide +kernel
theorem dX3_placeBehind_24 : decode cX3_placeBehind 24 = .ok (.if_icmp .ne 7, 3) := by decide +kernel
theorem dX3_placeBehind_27 : decode cX3_placeBehind 27 = .ok (.iconst 3, 1) := by decide +kernel
theorem dX3_placeBehind_28 : decode cX3_placeBehind 28 = .ok (.goto 4, 3) := by decide +kernel
theorem dX3_placeBehind_31 : decode cX3_placeBehind 31 = .ok (.iconst 2, 1) := by decide +kernel
theorem dX3_placeBehind_32 : decode cX3_placeBehind 32 = .ok (.ireturn, 1) := by decide +kernel
theorem dX3_placeBehind_33 : decode cX3_placeBehind 33 = .ok (.iload_n 0, 1) := by decide +kernel
theorem dX3_placeBehind_34 : decode cX3_placeBehind 34 = .ok (.iconst 2, 1) := by decide +kernel
theorem dX3_placeBehind_35 : decode cX3_placeBehind 35 = .ok (.if_icmp .ne 12, 3) := by decide +kernel
theorem dX3_placeBehind_38 : decode cX3_placeBehind 38 = .ok (.iload_n 1, 1) := by decide +kernel
theorem dX3_placeBehind_39 : decode cX3_placeBehind 39 = .ok (.invokestatic 37, 3) := by decide +kernel
theorem dX3_placeBehind_42 : decode cX3_placeBehind 42 = .ok (.ifCond .eq 5, 3) := by decide +kernel
theorem dX3_placeBehind_45 : decode cX3_placeBehind 45 = .ok (.iconst 3, 1) := by decide +kernel
theorem dX3_placeBehind_46 : decode cX3_placeBehind 46 = .ok (.ireturn, 1) := by decide +kernel
theorem dX3_placeBehind_47 : decode cX3_placeBehind 47 = .ok (.iload_n 0, 1) := by decide +kernel
theorem dX3_placeBehind_48 : decode cX3_placeBehind 48 = .ok (.iconst 2, 1) := by decide +kernel
theorem dX3_placeBehind_49 : decode cX3_placeBehind 49 = .ok (.if_icmp .eq 8, 3) := by decide +kernel
theorem dX3_placeBehind_52 : decode cX3_placeBehind 52 = .ok (.iload_n 0, 1) := by decide +kernel
theorem dX3_placeBehind_53 : decode cX3_placeBehind 53 = .ok (.iconst 3, 1) := by decide +kernel
theorem dX3_placeBehind_54 : decode cX3_placeBehind 54 = .ok (.if_icmp .ne 7, 3) := by decide +kernel
theorem dX3_placeBehind_57 : decode cX3_placeBehind 57 = .ok (.iconst 1, 1) := by decide +kernel
theorem dX3_placeBehind_58 : decode cX3_placeBehind 58 = .ok (.goto 4, 3) := by decide +kernel
theorem dX3_placeBehind_61 : decode cX3_placeBehind 61 = .ok (.iconst 0, 1) := by decide +kernel
theorem dX3_placeBehind_62 : decode cX3_placeBehind 62 = .ok (.istore_n 2, 1) := by decide +kernel
theorem dX3_placeBehind_63 : decode cX3_placeBehind 63 = .ok (.iload_n 2, 1) := by decide +kernel
theorem dX3_placeBehind_64 : decode cX3_placeBehind 64 = .ok (.ifCond .eq 13, 3) := by decide +kernel
theorem dX3_placeBehind_67 : decode cX3_placeBehind 67 = .ok (.iload_n 1, 1) := by decide +kernel
theorem dX3_placeBehind_68 : decode cX3_placeBehind 68 = .ok (.bipush 59, 2) := by decide +kernel
theorem dX3_placeBehind_70 : decode cX3_placeBehind 70 = .ok (.if_icmp .ne 7, 3) := by decide +kernel
theorem dX3_placeBehind_73 : decode cX3_placeBehind 73 = .ok (.iconst 0, 1) := by decide +kernel
theorem dX3_placeBehind_74 : decode cX3_placeBehind 74 = .ok (.goto 4, 3) := by decide +kernel
theorem dX3_placeBehind_77 : decode cX3_placeBehind 77 = .ok (.iconst 4, 1) := by decide +kernel
theorem dX3_placeBehind_78 : decode cX3_placeBehind 78 = .ok (.ireturn, 1) := by decide +kernel
theorem dX3_placeBehindOrder_0 : decode cX3_placeBehindOrder 0 = .ok (.iload_n 0, 1) := by decide +kernel
theorem dX3_placeBehindOrder_1 : decode cX3_placeBehindOrder 1 = .ok (.lookupswitch 63 #[(98, 59), (99, 59), (100, 59), (112, 61), (115, 59), (119, 59)], 59) := by decide +kernel
theorem dX3_placeBehindOrder_60 : decode cX3_placeBehindOrder 60 = .ok (.iconst 1, 1) := by decide +kernel
theorem dX3_placeBehindOrder_61 : decode cX3_placeBehindOrder 61 = .ok (.ireturn, 1) := by decide +kernel
theorem dX3_placeBehindOrder_62 : decode cX3_placeBehindOrder 62 = .ok (.iconst 3, 1) := by decide +kernel
theorem dX3_placeBehindOrder_63 : decode cX3_placeBehindOrder 63 = .ok (.ireturn, 1) := by decide +kernel
theorem dX3_placeBehindOrder_64 : decode cX3_placeBehindOrder 64 = .ok (.iconst 4, 1) := by decide +kernel
theorem dX3_placeBehindOrder_65 : decode cX3_placeBehindOrder 65 = .ok (.ireturn, 1) := by decide +kernel
def ch_wsX4_init : List (List Cond) := [[.code yX4_init cX4_init 1 none], wsX4_init_r1, wsX4_init_r2, wsX4_init_r3, wsX10, wsX40, wsX00, wsX50]
set_option maxRecDepth 20000 in
theorem hf_wsX4_init : wsX4_init = (ch_wsX4_init).flatten := rfl
set_option maxRecDepth 20000 in
theorem hg_wsX4_init : (wsX4_init).all goodWord = true := by decide +kernel
set_option maxRecDepth 20000 in
theorem gX4_init_X1_init : GoodIn wsX4_init (wsX1_init) := goodIn_c ch_wsX4_init hf_wsX4_init hg_wsX4_init _ [(1, 9), (1, 10), (1, 1), (1, 2), (1, 11), (1, 12), (1, 13), (1, 14), (1, 15), (1, 16), (1, 17), (1, 18), (1, 19), (1, 20), (1, 21), (1, 22), (1, 23), (2, 0), (2, 1), (2, 2), (2, 3), (2, 4), (2, 5), (2, 6), (2, 7), (2, 8), (2, 9), (2, 10), (2, 11), (2, 12), (2, 13), (2, 14), (2, 15), (2, 16), (2, 17), (2, 18), (2, 19), (2, 20), (2, 21), (2, 22), (2, 23), (3, 0), (6, 0), (6, 1), (6, 2), (6, 3), (6, 4), (4, 0), (4, 1), (4, 2), (4, 3), (4, 4), (7, 0), (7, 1), (7, 2), (7, 3), (7, 4), (7, 5), (7, 6), (7, 7), (7, 8)] rfl
theorem dX4_init_0 : decode cX4_init 0 = .ok (.aload_n 0, 1) := by decide +kernel
theorem dX4_init_1 : decode cX4_init 1 = .ok (.invokespecial 1, 3) := by decide +kernel
theorem dX4_init_4 : decode cX4_init 4 = .ok (.aload_n 0, 1) := by decide +kernel
theorem dX4_init_5 : decode cX4_init 5 = .ok (.new 7, 3) := by decide +kernel
theorem dX4_init_8 : decode cX4_init 8 = .ok (.dup, 1) := by decide +kernel
theorem dX4_init_9 : decode cX4_init 9 = .ok (.invokespecial 9, 3) := by decide +kernel
theorem dX4_init_12 : decode cX4_init 12 = .ok (.putfield 10, 3) := by decide +kernel
theorem dX4_init_15 : decode cX4_init 15 = .ok (.return_, 1) := by decide +kernel
def ch_wsX4_fill : List (List Cond) := [[.code yX4_fill cX4_fill 2 none], wsX4_fill_r1, wsX4_fill_r2, wsX40, wsX10, wsX00, wsX50]
set_option maxRecDepth 20000 in
theorem hf_wsX4_fill : wsX4_fill = (ch_wsX4_fill).flatten := rfl
set_option maxRecDepth 20000 in
theorem hg_wsX4_fill : (wsX4_fill).all goodWord = true := by decide +kernel
set_option maxRecDepth 20000 in
theorem gX4_fill_X1_become : GoodIn wsX4_fill (wsV RX4 16 RX1 yX1_become wsX1_become) := goodIn_c ch_wsX4_fill hf_wsX4_fill hg_wsX4_fill _ [(1, 2), (1, 3), (1, 4), (1, 5), (1, 6), (1, 7), (1, 8), (1, 9), (1, 10), (1, 11), (1, 12), (1, 13), (1, 14), (1, 15), (1, 16), (1, 17), (1, 18), (1, 19), (1, 20), (1, 21), (1, 22), (1, 23), (2, 0), (2, 1), (2, 2), (2, 3), (2, 4), (2, 5), (2, 6), (2, 7), (2, 8), (2, 9), (2, 10), (2, 11), (4, 0), (4, 1), (4, 2), (4, 3), (4, 4), (5, 0), (5, 1), (5, 2), (5, 3), (5, 4), (6, 0), (6, 1), (6, 2), (6, 3), (6, 4), (6, 5), (6, 6), (6, 7), (6, 8)] rfl
theorem dX4_fill_0 : decode cX4_fill 0 = .ok (.aload_n 0, 1) := by decide +kernel
theorem dX4_fill_1 : decode cX4_fill 1 = .ok (.getfield 10, 3) := by decide +kernel
theorem dX4_fill_4 : decode cX4_fill 4 = .ok (.aload_n 1, 1) := by decide +kernel
theorem dX4_fill_5 : decode cX4_fill 5 = .ok (.invokevirtual 16, 3) := by decide +kernel
theorem dX4_fill_8 : decode cX4_fill 8 = .ok (.aload_n 0, 1) := by decide +kernel
theorem dX4_fill_9 : decode cX4_fill 9 = .ok (.iconst 1, 1) := by decide +kernel
theorem dX4_fill_10 : decode cX4_fill 10 = .ok (.putfield 20, 3) := by decide +kernel
theorem dX4_fill_13 : decode cX4_fill 13 = .ok (.return_, 1) := by decide +kernel
theorem dX5_init_0 : decode cX5_init 0 = .ok (.aload_n 0, 1) := by decide +kernel
theorem dX5_init_1 : decode cX5_init 1 = .ok (.invokespecial 3, 3) := by decide +kernel
theorem dX5_init_4 : decode cX5_init 4 = .ok (.aload_n 0, 1) := by decide +kernel
theorem dX5_init_5 : decode cX5_init 5 = .ok (.bipush 8, 2) := by decide +kernel
theorem dX5_init_7 : decode cX5_init 7 = .ok (.newarray .int, 2) := by decide +kernel
theorem dX5_init_9 : decode cX5_init 9 = .ok (.putfield 11, 3) := by decide +kernel
theorem dX5_init_12 : decode cX5_init 12 = .ok (.aload_n 0, 1) := by decide +kernel
theorem dX5_init_13 : decode cX5_init 13 = .ok (.iconst 5, 1) := by decide +kernel
theorem dX5_init_14 : decode cX5_init 14 = .ok (.putfield 15, 3) := by decide +kernel
theorem dX5_init_17 : decode cX5_init 17 = .ok (.return_, 1) := by decide +kernel
theorem dX5_become_0 : decode cX5_become 0 = .ok (.iconst 0, 1) := by decide +kernel
theorem dX5_become_1 : decode cX5_become 1 = .ok (.istore_n 2, 1) := by decide +kernel
theorem dX5_become_2 : decode cX5_become 2 = .ok (.iload_n 2, 1) := by decide +kernel
theorem dX5_become_3 : decode cX5_become 3 = .ok (.bipush 8, 2) := by decide +kernel
theorem dX5_become_5 : decode cX5_become 5 = .ok (.if_icmp .ge 21, 3) := by decide +kernel
theorem dX5_become_8 : decode cX5_become 8 = .ok (.aload_n 0, 1) := by decide +kernel
theorem dX5_become_9 : decode cX5_become 9 = .ok (.getfield 11, 3) := by decide +kernel
theorem dX5_become_12 : decode cX5_become 12 = .ok (.iload_n 2, 1) := by decide +kernel
theorem dX5_become_13 : decode cX5_become 13 = .ok (.aload_n 1, 1) := by decide +kernel
theorem dX5_become_14 : decode cX5_become 14 = .ok (.getfield 11, 3) := by decide +kernel
theorem dX5_become_17 : decode cX5_become 17 = .ok (.iload_n 2, 1) := by decide +kernel
theorem dX5_become_18 : decode cX5_become 18 = .ok (.iaload, 1) := by decide +kernel
theorem dX5_become_19 : decode cX5_become 19 = .ok (.iastore, 1) := by decide +kernel
theorem dX5_become_20 : decode cX5_become 20 = .ok (.iinc 2 1, 3) := by decide +kernel
theorem dX5_become_23 : decode cX5_become 23 = .ok (.goto (-21), 3) := by decide +kernel
theorem dX5_become_26 : decode cX5_become 26 = .ok (.aload_n 0, 1) := by decide +kernel
theorem dX5_become_27 : decode cX5_become 27 = .ok (.aload_n 1, 1) := by decide +kernel
theorem dX5_become_28 : decode cX5_become 28 = .ok (.getfield 19, 3) := by decide +kernel
theorem dX5_become_31 : decode cX5_become 31 = .ok (.putfield 19, 3) := by decide +kernel
theorem dX5_become_34 : decode cX5_become 34 = .ok (.aload_n 0, 1) := by decide +kernel
theorem dX5_become_35 : decode cX5_become 35 = .ok (.aload_n 1, 1) := by decide +kernel
theorem dX5_become_36 : decode cX5_become 36 = .ok (.getfield 22, 3) := by decide +kernel
theorem dX5_become_39 : decode cX5_become 39 = .ok (.putfield 22, 3) := by decide +kernel
theorem dX5_become_42 : decode cX5_become 42 = .ok (.aload_n 0, 1) := by decide +kernel
theorem dX5_become_43 : decode cX5_become 43 = .ok (.aload_n 1, 1) := by decide +kernel
theorem dX5_become_44 : decode cX5_become 44 = .ok (.getfield 15, 3) := by decide +kernel
theorem dX5_become_47 : decode cX5_become 47 = .ok (.putfield 15, 3) := by decide +kernel
theorem dX5_become_50 : decode cX5_become 50 = .ok (.aload_n 0, 1) := by decide +kernel
theorem dX5_become_51 : decode cX5_become 51 = .ok (.aload_n 1, 1) := by decide +kernel
theorem dX5_become_52 : decode cX5_become 52 = .ok (.getfield 25, 3) := by decide +kernel
theorem dX5_become_55 : decode cX5_become 55 = .ok (.putfield 25, 3) := by decide +kernel
theorem dX5_become_58 : decode cX5_become 58 = .ok (.aload_n 0, 1) := by decide +kernel
theorem dX5_become_59 : decode cX5_become 59 = .ok (.aload_n 1, 1) := by decide +kernel
theorem dX5_become_60 : decode cX5_become 60 = .ok (.getfield 28, 3) := by decide +kernel
theorem dX5_become_63 : decode cX5_become 63 = .ok (.putfield 28, 3) := by decide +kernel
theorem dX5_become_66 : decode cX5_become 66 = .ok (.aload_n 0, 1) := by decide +kernel
theorem dX5_become_67 : decode cX5_become 67 = .ok (.aload_n 1, 1) := by decide +kernel
theorem dX5_become_68 : decode cX5_become 68 = .ok (.getfield 31, 3) := by decide +kernel
theorem dX5_become_71 : decode cX5_become 71 = .ok (.putfield 31, 3) := by decide +kernel
theorem dX5_become_74 : decode cX5_become 74 = .ok (.aload_n 0, 1) := by decide +kernel
theorem dX5_become_75 : decode cX5_become 75 = .ok (.aload_n 1, 1) := by decide +kernel
theorem dX5_become_76 : decode cX5_become 76 = .ok (.getfield 34, 3) := by decide +kernel
theorem dX5_become_79 : decode cX5_become 79 = .ok (.putfield 34, 3) := by decide +kernel
theorem dX5_become_82 : decode cX5_become 82 = .ok (.aload_n 0, 1) := by decide +kernel
theorem dX5_become_83 : decode cX5_become 83 = .ok (.aload_n 1, 1) := by decide +kernel
theorem dX5_become_84 : decode cX5_become 84 = .ok (.getfield 37, 3) := by decide +kernel
theorem dX5_become_87 : decode cX5_become 87 = .ok (.putfield 37, 3) := by decide +kernel
theorem dX5_become_90 : decode cX5_become 90 = .ok (.return_, 1) := by decide +kernel
theorem dX5_hasMark_0 : decode cX5_hasMark 0 = .ok (.iconst 0, 1) := by decide +kernel
theorem dX5_hasMark_1 : decode cX5_hasMark 1 = .ok (.istore_n 2, 1) := by decide +kernel
theorem dX5_hasMark_2 : decode cX5_hasMark 2 = .ok (.iload_n 2, 1) := by decide +kernel
theorem dX5_hasMark_3 : decode cX5_hasMark 3 = .ok (.aload_n 0, 1) := by decide +kernel
theorem dX5_hasMark_4 : decode cX5_hasMark 4 = .ok (.getfield 19, 3) := by decide +kernel
theorem dX5_hasMark_7 : decode cX5_hasMark 7 = .ok (.if_icmp .ge 21, 3) := by decide +kernel
theorem dX5_hasMark_10 : decode cX5_hasMark 10 = .ok (.aload_n 0, 1) := by decide +kernel
theorem dX5_hasMark_11 : decode cX5_hasMark 11 = .ok (.getfield 11, 3) := by decide +kernel
theorem dX5_hasMark_14 : decode cX5_hasMark 14 = .ok (.iload_n 2, 1) := by decide +kernel
theorem dX5_hasMark_15 : decode cX5_hasMark 15 = .ok (.iaload, 1) := by decide +kernel
theorem dX5_hasMark_16 : decode cX5_hasMark 16 = .ok (.iload_n 1, 1) := by decide +kernel
theorem dX5_hasMark_17 : decode cX5_hasMark 17 = .ok (.if_icmp .ne 5, 3) := by decide +kernel
theorem dX5_hasMark_20 : decode cX5_hasMark 20 = .ok (.iconst 1, 1) := by decide +kernel
theorem dX5_hasMark_21 : decode cX5_hasMark 21 = .ok (.ireturn, 1) := by decide +kernel
theorem dX5_hasMark_22 : decode cX5_hasMark 22 = .ok (.iinc 2 1, 3) := by decide +kernel
theorem dX5_hasMark_25 : decode cX5_hasMark 25 = .ok (.goto (-23), 3) := by decide +kernel
theorem dX5_hasMark_28 : decode cX5_hasMark 28 = .ok (.iconst 0, 1) := by decide +kernel
theorem dX5_hasMark_29 : decode cX5_hasMark 29 = .ok (.ireturn, 1) := by decide +kernel
theorem dX5_markAt_0 : decode cX5_markAt 0 = .ok (.iload_n 1, 1) := by decide +kernel
theorem dX5_markAt_1 : decode cX5_markAt 1 = .ok (.ifCond .lt 20, 3) := by decide +kernel
theorem dX5_markAt_4 : decode cX5_markAt 4 = .ok (.iload_n 1, 1) := by decide +kernel
theorem dX5_markAt_5 : decode cX5_markAt 5 = .ok (.aload_n 0, 1) := by decide +kernel
theorem dX5_markAt_6 : decode cX5_markAt 6 = .ok (.getfield 19, 3) := by decide +kernel
theorem dX5_markAt_9 : decode cX5_markAt 9 = .ok (.if_icmp .ge 12, 3) := by decide +kernel
theorem dX5_markAt_12 : decode cX5_markAt 12 = .ok (.aload_n 0, 1) := by decide +kernel
theorem dX5_markAt_13 : decode cX5_markAt 13 = .ok (.getfield 11, 3) := by decide +kernel
theorem dX5_markAt_16 : decode cX5_markAt 16 = .ok (.iload_n 1, 1) := by decide +kernel
theorem dX5_markAt_17 : decode cX5_markAt 17 = .ok (.iaload, 1) := by decide +kernel
theorem dX5_markAt_18 : decode cX5_markAt 18 = .ok (.goto 4, 3) := by decide +kernel
theorem dX5_markAt_21 : decode cX5_markAt 21 = .ok (.iconst (-1), 1) := by decide +kernel
theorem dX5_markAt_22 : decode cX5_markAt 22 = .ok (.ireturn, 1) := by decide +kernel
theorem dX5_addMark_0 : decode cX5_addMark 0 = .ok (.aload_n 0, 1) := by decide +kernel
theorem dX5_addMark_1 : decode cX5_addMark 1 = .ok (.getfield 19, 3) := by decide +kernel
theorem dX5_addMark_4 : decode cX5_addMark 4 = .ok (.bipush 8, 2) := by decide +kernel
theorem dX5_addMark_6 : decode cX5_addMark 6 = .ok (.if_icmp .lt 5, 3) := by decide +kernel
theorem dX5_addMark_9 : decode cX5_addMark 9 = .ok (.iconst 0, 1) := by decide +kernel
theorem dX5_addMark_10 : decode cX5_addMark 10 = .ok (.ireturn, 1) := by decide +kernel
theorem dX5_addMark_11 : decode cX5_addMark 11 = .ok (.aload_n 0, 1) := by decide +kernel
theorem dX5_addMark_12 : decode cX5_addMark 12 = .ok (.getfield 11, 3) := by decide +kernel
theorem dX5_addMark_15 : decode cX5_addMark 15 = .ok (.aload_n 0, 1) := by decide +kernel
theorem dX5_addMark_16 : decode cX5_addMark 16 = .ok (.getfield 19, 3) := by decide +kernel
theorem dX5_addMark_19 : decode cX5_addMark 19 = .ok (.iload_n 1, 1) := by decide +kernel
theorem dX5_addMark_20 : decode cX5_addMark 20 = .ok (.iastore, 1) := by decide +kernel
theorem dX5_addMark_21 : decode cX5_addMark 21 = .ok (.aload_n 0, 1) := by decide +kernel
theorem dX5_addMark_22 : decode cX5_addMark 22 = .ok (.dup, 1) := by decide +kernel
theorem dX5_addMark_23 : decode cX5_addMark 23 = .ok (.getfield 19, 3) := by decide +kernel
theorem dX5_addMark_26 : decode cX5_addMark 26 = .ok (.iconst 1, 1) := by decide +kernel
theorem dX5_addMark_27 : decode cX5_addMark 27 = .ok (.iadd, 1) := by decide +kernel
theorem dX5_addMark_28 : decode cX5_addMark 28 = .ok (.putfield 19, 3) := by decide +kernel
theorem dX5_addMark_31 : decode cX5_addMark 31 = .ok (.iconst 1, 1) := by decide +kernel
theorem dX5_addMark_32 : decode cX5_addMark 32 = .ok (.ireturn, 1) := by decide +kernel
theorem dX5_dropMark_0 : decode cX5_dropMark 0 = .ok (.iconst 0, 1) := by decide +kernel
theorem dX5_dropMark_1 : decode cX5_dropMark 1 = .ok (.istore_n 2, 1) := by decide +kernel
theorem dX5_dropMark_2 : decode cX5_dropMark 2 = .ok (.iconst 0, 1) := by decide +kernel
theorem dX5_dropMark_3 : decode cX5_dropMark 3 = .ok (.istore_n 3, 1) := by decide +kernel
theorem dX5_dropMark_4 : decode cX5_dropMark 4 = .ok (.iload_n 3, 1) := by decide +kernel
theorem dX5_dropMark_5 : decode cX5_dropMark 5 = .ok (.aload_n 0, 1) := by decide +kernel
theorem dX5_dropMark_6 : decode cX5_dropMark 6 = .ok (.getfield 19, 3) := by decide +kernel
theorem dX5_dropMark_9 : decode cX5_dropMark 9 = .ok (.if_icmp .ge 34, 3) := by decide +kernel
theorem dX5_dropMark_12 : decode cX5_dropMark 12 = .ok (.aload_n 0, 1) := by decide +kernel
theorem dX5_dropMark_13 : decode cX5_dropMark 13 = .ok (.getfield 11, 3) := by decide +kernel
theorem dX5_dropMark_16 : decode cX5_dropMark 16 = .ok (.iload_n 3, 1) := by decide +kernel
theorem dX5_dropMark_17 : decode cX5_dropMark 17 = .ok (.iaload, 1) := by decide +kernel
theorem dX5_dropMark_18 : decode cX5_dropMark 18 = .ok (.iload_n 1, 1) := by decide +kernel
theorem dX5_dropMark_19 : decode cX5_dropMark 19 = .ok (.if_icmp .eq 18, 3) := by decide +kernel
theorem dX5_dropMark_22 : decode cX5_dropMark 22 = .ok (.aload_n 0, 1) := by decide +kernel
theorem dX5_dropMark_23 : decode cX5_dropMark 23 = .ok (.getfield 11, 3) := by decide +kernel
theorem dX5_dropMark_26 : decode cX5_dropMark 26 = .ok (.iload_n 2, 1) := by decide +kernel
theorem dX5_dropMark_27 : decode cX5_dropMark 27 = .ok (.aload_n 0, 1) := by decide +kernel
theorem dX5_dropMark_28 : decode cX5_dropMark 28 = .ok (.getfield 11, 3) := by decide +kernel
theorem dX5_dropMark_31 : decode cX5_dropMark 31 = .ok (.iload_n 3, 1) := by decide +kernel
theorem dX5_dropMark_32 : decode cX5_dropMark 32 = .ok (.iaload, 1) := by decide +kernel
theorem dX5_dropMark_33 : decode cX5_dropMark 33 = .ok (.iastore, 1) := by decide +kernel
theorem dX5_dropMark_34 : decode cX5_dropMark 34 = .ok (.iinc 2 1, 3) := by decide +kernel
theorem dX5_dropMark_37 : decode cX5_dropMark 37 = .ok (.iinc 3 1, 3) := by decide +kernel
theorem dX5_dropMark_40 : decode cX5_dropMark 40 = .ok (.goto (-36), 3) := by decide +kernel
theorem dX5_dropMark_43 : decode cX5_dropMark 43 = .ok (.aload_n 0, 1) := by decide +kernel
theorem dX5_dropMark_44 : decode cX5_dropMark 44 = .ok (.iload_n 2, 1) := by decide +kernel
theorem dX5_dropMark_45 : decode cX5_dropMark 45 = .ok (.putfield 19, 3) := by decide +kernel
theorem dX5_dropMark_48 : decode cX5_dropMark 48 = .ok (.return_, 1) := by decide +kernel
theorem dX5_winRag_0 : decode cX5_winRag 0 = .ok (.aload_n 0, 1) := by decide +kernel
theorem dX5_winRag_1 : decode cX5_winRag 1 = .ok (.dup, 1) := by decide +kernel
theorem dX5_winRag_2 : decode cX5_winRag 2 = .ok (.getfield 25, 3) := by decide +kernel
theorem dX5_winRag_5 : decode cX5_winRag 5 = .ok (.iconst 1, 1) := by decide +kernel
theorem dX5_winRag_6 : decode cX5_winRag 6 = .ok (.iadd, 1) := by decide +kernel
theorem dX5_winRag_7 : decode cX5_winRag 7 = .ok (.putfield 25, 3) := by decide +kernel
theorem dX5_winRag_10 : decode cX5_winRag 10 = .ok (.aload_n 0, 1) := by decide +kernel
theorem dX5_winRag_11 : decode cX5_winRag 11 = .ok (.dup, 1) := by decide +kernel
theorem dX5_winRag_12 : decode cX5_winRag 12 = .ok (.getfield 28, 3) := by decide +kernel
theorem dX5_winRag_15 : decode cX5_winRag 15 = .ok (.iload_n 1, 1) := by decide +kernel
theorem dX5_winRag_16 : decode cX5_winRag 16 = .ok (.iadd, 1) := by decide +kernel
theorem dX5_winRag_17 : decode cX5_winRag 17 = .ok (.putfield 28, 3) := by decide +kernel
theorem dX5_winRag_20 : decode cX5_winRag 20 = .ok (.aload_n 0, 1) := by decide +kernel
theorem dX5_winRag_21 : decode cX5_winRag 21 = .ok (.dup, 1) := by decide +kernel
theorem dX5_winRag_22 : decode cX5_winRag 22 = .ok (.getfield 22, 3) := by decide +kernel
theorem dX5_winRag_25 : decode cX5_winRag 25 = .ok (.iload_n 1, 1) := by decide +kernel
theorem dX5_winRag_26 : decode cX5_winRag 26 = .ok (.iadd, 1) := by decide +kernel
theorem dX5_winRag_27 : decode cX5_winRag 27 = .ok (.putfield 22, 3) := by decide +kernel
theorem dX5_winRag_30 : decode cX5_winRag 30 = .ok (.return_, 1) := by decide +kernel
def ch_wsX6_init : List (List Cond) := [[.code yX6_init cX6_init 1 none], wsX6_init_r1, wsX6_init_r2, wsX6_init_r3, wsX6_init_r4, wsX10, wsX60, wsX20, wsX40, wsX30, wsX00, wsX50]
set_option maxRecDepth 20000 in
theorem hf_wsX6_init : wsX6_init = (ch_wsX6_init).flatten := rfl
set_option maxRecDepth 20000 in
theorem hg_wsX6_init : (wsX6_init).all goodWord = true := by decide +kernel
set_option maxRecDepth 20000 in
theorem gX6_init_X1_init : GoodIn wsX6_init (wsX1_init) := goodIn_c ch_wsX6_init hf_wsX6_init hg_wsX6_init _ [(1, 22), (1, 23), (1, 1), (1, 2), (2, 0), (2, 1), (2, 2), (2, 3), (2, 4), (2, 5), (2, 6), (2, 7), (2, 8), (2, 9), (2, 10), (2, 11), (2, 12), (2, 13), (2, 14), (2, 15), (2, 16), (2, 17), (2, 18), (2, 19), (2, 20), (2, 21), (2, 22), (2, 23), (3, 0), (3, 1), (3, 2), (3, 3), (3, 4), (3, 5), (3, 6), (3, 7), (3, 8), (3, 9), (3, 10), (3, 11), (3, 12), (3, 13), (10, 0), (10, 1), (10, 2), (10, 3), (10, 4), (5, 0), (5, 1), (5, 2), (5, 3), (5, 4), (11, 0), (11, 1), (11, 2), (11, 3), (11, 4), (11, 5), (11, 6), (11, 7), (11, 8)] rfl
set_option maxRecDepth 20000 in
theorem gX6_init_X2_init : GoodIn wsX6_init (wsX2_init) := goodIn_c ch_wsX6_init hf_wsX6_init hg_wsX6_init _ [(3, 16), (3, 17), (1, 1), (1, 2), (3, 18), (3, 19), (1, 4), (1, 5), (3, 20), (3, 21), (1, 21), (1, 22), (1, 23), (2, 0), (2, 1), (2, 2), (2, 3), (2, 4), (2, 5), (2, 6), (2, 7), (2, 8), (2, 9), (2, 10), (2, 11), (2, 12), (2, 13), (2, 14), (2, 15), (2, 16), (2, 17), (2, 18), (2, 19), (2, 20), (2, 21), (2, 22), (2, 23), (3, 0), (3, 1), (3, 2), (3, 3), (3, 4), (3, 5), (3, 6), (3, 7), (3, 8), (3, 9), (3, 10), (3, 11), (3, 12), (3, 13), (7, 0), (7, 1), (7, 2), (5, 0), (5, 1), (5, 2), (5, 3), (5, 4), (10, 0), (10, 1), (10, 2), (10, 3), (10, 4), (11, 0), (11, 1), (11, 2), (11, 3), (11, 4), (11, 5), (11, 6), (11, 7), (11, 8)] rfl
set_option maxRecDepth 20000 in
theorem gX6_init_X4_init : GoodIn wsX6_init (wsX4_init) := goodIn_c ch_wsX6_init hf_wsX6_init hg_wsX6_init _ [(4, 0), (4, 1), (1, 1), (1, 2), (4, 2), (1, 4), (1, 5), (4, 3), (4, 4), (1, 21), (1, 22), (1, 23), (2, 0), (2, 1), (2, 2), (2, 3), (2, 4), (2, 5), (2, 6), (2, 7), (2, 8), (2, 9), (2, 10), (2, 11), (2, 12), (2, 13), (2, 14), (2, 15), (2, 16), (2, 17), (2, 18), (2, 19), (2, 20), (2, 21), (2, 22), (2, 23), (3, 0), (3, 1), (3, 2), (3, 3), (3, 4), (3, 5), (3, 6), (3, 7), (3, 8), (3, 9), (3, 10), (3, 11), (3, 12), (3, 13), (5, 0), (5, 1), (5, 2), (5, 3), (5, 4), (8, 0), (8, 1), (10, 0), (10, 1), (10, 2), (10, 3), (10, 4), (11, 0), (11, 1), (11, 2), (11, 3), (11, 4), (11, 5), (11, 6), (11, 7), (11, 8)] rfl
set_option maxRecDepth 20000 in
theorem gX6_init_X3_init : GoodIn wsX6_init (wsX3_init) := goodIn_c ch_wsX6_init hf_wsX6_init hg_wsX6_init _ [(4, 7), (4, 8), (1, 1), (1, 2), (4, 9), (4, 10), (9, 0), (9, 1)] rfl
theorem dX6_init_0 : decode cX6_init 0 = .ok (.aload_n 0, 1) := by decide +kernel
theorem dX6_init_1 : decode cX6_init 1 = .ok (.invokespecial 1, 3) := by decide +kernel
theorem dX6_init_4 : decode cX6_init 4 = .ok (.aload_n 0, 1) := by decide +kernel
theorem dX6_init_5 : decode cX6_init 5 = .ok (.new 7, 3) := by decide +kernel
theorem dX6_init_8 : decode cX6_init 8 = .ok (.dup, 1) := by decide +kernel
theorem dX6_init_9 : decode cX6_init 9 = .ok (.invokespecial 9, 3) := by decide +kernel
theorem dX6_init_12 : decode cX6_init 12 = .ok (.putfield 10, 3) := by decide +kernel
theorem dX6_init_15 : decode cX6_init 15 = .ok (.aload_n 0, 1) := by decide +kernel
theorem dX6_init_16 : decode cX6_init 16 = .ok (.new 16, 3) := by decide +kernel
theorem dX6_init_19 : decode cX6_init 19 = .ok (.dup, 1) := by decide +kernel
theorem dX6_init_20 : decode cX6_init 20 = .ok (.invokespecial 18, 3) := by decide +kernel
theorem dX6_init_23 : decode cX6_init 23 = .ok (.putfield 19, 3) := by decide +kernel
theorem dX6_init_26 : decode cX6_init 26 = .ok (.aload_n 0, 1) := by decide +kernel
theorem dX6_init_27 : decode cX6_init 27 = .ok (.new 23, 3) := by decide +kernel
theorem dX6_init_30 : decode cX6_init 30 = .ok (.dup, 1) := by decide +kernel
theorem dX6_init_31 : decode cX6_init 31 = .ok (.invokespecial 25, 3) := by decide +kernel
theorem dX6_init_34 : decode cX6_init 34 = .ok (.putfield 26, 3) := by decide +kernel
theorem dX6_init_37 : decode cX6_init 37 = .ok (.aload_n 0, 1) := by decide +kernel
theorem dX6_init_38 : decode cX6_init 38 = .ok (.new 23, 3) := by decide +kernel
theorem dX6_init_41 : decode cX6_init 41 = .ok (.dup, 1) := by decide +kernel
theorem dX6_init_42 : decode cX6_init 42 = .ok (.invokespecial 25, 3) := by decide +kernel
theorem dX6_init_45 : decode cX6_init 45 = .ok (.putfield 30, 3) := by decide +kernel
theorem dX6_init_48 : decode cX6_init 48 = .ok (.aload_n 0, 1) := by decide +kernel
theorem dX6_init_49 : decode cX6_init 49 = .ok (.new 33, 3) := by decide +kernel
theorem dX6_init_52 : decode cX6_init 52 = .ok (.dup, 1) := by decide +kernel
theorem dX6_init_53 : decode cX6_init 53 = .ok (.invokespecial 35, 3) := by decide +kernel
theorem dX6_init_56 : decode cX6_init 56 = .ok (.putfield 36, 3) := by decide +kernel
theorem dX6_init_59 : decode cX6_init 59 = .ok (.return_, 1) := by decide +kernel
def ch_wsX6_chalk : List (List Cond) := [[.code yX6_chalk cX6_chalk 2 (some .int)], wsX6_chalk_r1, wsX6_chalk_r2, wsX6_chalk_r3, wsX6_chalk_r4, wsX6_chalk_r5, wsX6_chalk_r6, wsX6_chalk_r7, wsX6_chalk_r8, wsX6_chalk_r9, wsX60, wsX20, wsX10, wsX00, wsX50]
set_option maxRecDepth 20000 in
theorem hf_wsX6_chalk : wsX6_chalk = (ch_wsX6_chalk).flatten := rfl
set_option maxRecDepth 20000 in
theorem hg_wsX6_chalk : (wsX6_chalk).all goodWord = true := by decide +kernel
set_option maxRecDepth 20000 in
theorem gX6_chalk_X6_takeTurn : GoodIn wsX6_chalk (wsV RX6 40 RX6 yX6_takeTurn wsX6_takeTurn) := goodIn_c ch_wsX6_chalk hf_wsX6_chalk hg_wsX6_chalk _ [(1, 0), (1, 1), (1, 2), (1, 3), (1, 4), (1, 5), (1, 6), (1, 7), (1, 8), (1, 9), (1, 10), (1, 11), (1, 12), (1, 13), (1, 14), (1, 15), (1, 16), (1, 17), (1, 18), (1, 19), (1, 20), (1, 21), (1, 22), (1, 23), (2, 0), (2, 1), (2, 2), (2, 3), (2, 4), (2, 5), (2, 6), (2, 7), (2, 8), (2, 9), (2, 10), (2, 11), (2, 12), (2, 13), (2, 14), (2, 15), (2, 16), (2, 17), (2, 18), (2, 19), (2, 20), (2, 21), (2, 22), (2, 23), (3, 0), (3, 1), (3, 2), (3, 3), (3, 4), (3, 5), (3, 6), (3, 7), (3, 8), (3, 9), (3, 10), (3, 11), (3, 12), (3, 13), (3, 14), (3, 15), (3, 16), (3, 17), (3, 18), (3, 19), (3, 20), (3, 21), (3, 22), (3, 23), (4, 0), (4, 1), (4, 2), (4, 3), (4, 4), (4, 5), (4, 6), (4, 7), (4, 8), (4, 9), (4, 10), (4, 11), (4, 12), (4, 13), (4, 14), (4, 15), (4, 16), (4, 17), (4, 18), (4, 19), (4, 20), (4, 21), (4, 22), (4, 23), (5, 0), (5, 1), (5, 2), (5, 3), (5, 4), (5, 5), (5, 6), (5, 7), (5, 8), (5, 9), (5, 10), (5, 11), (5, 12), (5, 13), (5, 14), (5, 15), (5, 16), (5, 17), (5, 18), (5, 19), (5, 20), (5, 21), (5, 22), (5, 23), (6, 0), (6, 1), (6, 2), (6, 3), (6, 4), (6, 5), (6, 6), (6, 7), (6, 8), (6, 9), (6, 10), (6, 11), (6, 12), (6, 13), (6, 14), (6, 15), (6, 16), (6, 17), (6, 18), (6, 19), (6, 20), (6, 21), (6, 22), (6, 23), (7, 0), (7, 1), (7, 2), (7, 3), (7, 4), (7, 5), (7, 6), (7, 7), (7, 8), (7, 9), (7, 10), (7, 11), (7, 12), (7, 13), (7, 14), (7, 15), (7, 16), (7, 17), (7, 18), (7, 19), (7, 20), (7, 21), (7, 22), (7, 23), (8, 0), (8, 1), (8, 2), (8, 3), (8, 4), (8, 5), (8, 6), (8, 7), (8, 8), (8, 9), (8, 10), (8, 11), (8, 12), (8, 13), (8, 14), (8, 15), (8, 16), (8, 17), (8, 18), (8, 19), (8, 20), (8, 21), (8, 22), (8, 23), (9, 0), (9, 1), (9, 2), (9, 3), (9, 4), (9, 5), (9, 6), (9, 7), (10, 0), (10, 1), (10, 2), (10, 3), (10, 4), (11, 0), (11, 1), (11, 2), (12, 0), (12, 1), (12, 2), (12, 3), (12, 4), (13, 0), (13, 1), (13, 2), (13, 3), (13, 4), (14, 0), (14, 1), (14, 2), (14, 3), (14, 4), (14, 5), (14, 6), (14, 7), (14, 8)] rfl
theorem dX6_chalk_0 : decode cX6_chalk 0 = .ok (.aload_n 0, 1) := by decide +kernel
theorem dX6_chalk_1 : decode cX6_chalk 1 = .ok (.bipush 99, 2) := by decide +kernel
theorem dX6_chalk_3 : decode cX6_chalk 3 = .ok (.iload_n 1, 1) := by decide +kernel
theorem dX6_chalk_4 : decode cX6_chalk 4 = .ok (.invokevirtual 40, 3) := by decide +kernel
theorem dX6_chalk_7 : decode cX6_chalk 7 = .ok (.ireturn, 1) := by decide +kernel
def ch_wsX6_snip : List (List Cond) := [[.code yX6_snip cX6_snip 2 (some .int)], wsX6_snip_r1, wsX6_snip_r2, wsX6_snip_r3, wsX6_snip_r4, wsX6_snip_r5, wsX6_snip_r6, wsX6_snip_r7, wsX6_snip_r8, wsX6_snip_r9, wsX60, wsX20, wsX10, wsX00, wsX50]
set_option maxRecDepth 20000 in
theorem hf_wsX6_snip : wsX6_snip = (ch_wsX6_snip).flatten := rfl
set_option maxRecDepth 20000 in
theorem hg_wsX6_snip : (wsX6_snip).all goodWord = true := by decide +kernel
set_option maxRecDepth 20000 in
theorem gX6_snip_X6_takeTurn : GoodIn wsX6_snip (wsV RX6 40 RX6 yX6_takeTurn wsX6_takeTurn) := goodIn_c ch_wsX6_snip hf_wsX6_snip hg_wsX6_snip _ [(1, 0), (1, 1), (1, 2), (1, 3), (1, 4), (1, 5), (1, 6), (1, 7), (1, 8), (1, 9), (1, 10), (1, 11), (1, 12), (1, 13), (1, 14), (1, 15), (1, 16), (1, 17), (1, 18), (1, 19), (1, 20), (1, 21), (1, 22), (1, 23), (2, 0), (2, 1), (2, 2), (2, 3), (2, 4), (2, 5), (2, 6), (2, 7), (2, 8), (2, 9), (2, 10), (2, 11), (2, 12), (2, 13), (2, 14), (2, 15), (2, 16), (2, 17), (2, 18), (2, 19), (2, 20), (2, 21), (2, 22), (2, 23), (3, 0), (3, 1), (3, 2), (3, 3), (3, 4), (3, 5), (3, 6), (3, 7), (3, 8), (3, 9), (3, 10), (3, 11), (3, 12), (3, 13), (3, 14), (3, 15), (3, 16), (3, 17), (3, 18), (3, 19), (3, 20), (3, 21), (3, 22), (3, 23), (4, 0), (4, 1), (4, 2), (4, 3), (4, 4), (4, 5), (4, 6), (4, 7), (4, 8), (4, 9), (4, 10), (4, 11), (4, 12), (4, 13), (4, 14), (4, 15), (4, 16), (4, 17), (4, 18), (4, 19), (4, 20), (4, 21), (4, 22), (4, 23), (5, 0), (5, 1), (5, 2), (5, 3), (5, 4), (5, 5), (5, 6), (5, 7), (5, 8), (5, 9), (5, 10), (5, 11), (5, 12), (5, 13), (5, 14), (5, 15), (5, 16), (5, 17), (5, 18), (5, 19), (5, 20), (5, 21), (5, 22), (5, 23), (6, 0), (6, 1), (6, 2), (6, 3), (6, 4), (6, 5), (6, 6), (6, 7), (6, 8), (6, 9), (6, 10), (6, 11), (6, 12), (6, 13), (6, 14), (6, 15), (6, 16), (6, 17), (6, 18), (6, 19), (6, 20), (6, 21), (6, 22), (6, 23), (7, 0), (7, 1), (7, 2), (7, 3), (7, 4), (7, 5), (7, 6), (7, 7), (7, 8), (7, 9), (7, 10), (7, 11), (7, 12), (7, 13), (7, 14), (7, 15), (7, 16), (7, 17), (7, 18), (7, 19), (7, 20), (7, 21), (7, 22), (7, 23), (8, 0), (8, 1), (8, 2), (8, 3), (8, 4), (8, 5), (8, 6), (8, 7), (8, 8), (8, 9), (8, 10), (8, 11), (8, 12), (8, 13), (8, 14), (8, 15), (8, 16), (8, 17), (8, 18), (8, 19), (8, 20), (8, 21), (8, 22), (8, 23), (9, 0), (9, 1), (9, 2), (9, 3), (9, 4), (9, 5), (9, 6), (9, 7), (10, 0), (10, 1), (10, 2), (10, 3), (10, 4), (11, 0), (11, 1), (11, 2), (12, 0), (12, 1), (12, 2), (12, 3), (12, 4), (13, 0), (13, 1), (13, 2), (13, 3), (13, 4), (14, 0), (14, 1), (14, 2), (14, 3), (14, 4), (14, 5), (14, 6), (14, 7), (14, 8)] rfl
theorem dX6_snip_0 : decode cX6_snip 0 = .ok (.aload_n 0, 1) := by decide +kernel
theorem dX6_snip_1 : decode cX6_snip 1 = .ok (.bipush 115, 2) := by decide +kernel
theorem dX6_snip_3 : decode cX6_snip 3 = .ok (.iload_n 1, 1) := by decide +kernel
theorem dX6_snip_4 : decode cX6_snip 4 = .ok (.invokevirtual 40, 3) := by decide +kernel
theorem dX6_snip_7 : decode cX6_snip 7 = .ok (.ireturn, 1) := by decide +kernel
def ch_wsX6_sew : List (List Cond) := [[.code yX6_sew cX6_sew 2 (some .int)], wsX6_sew_r1, wsX6_sew_r2, wsX6_sew_r3, wsX6_sew_r4, wsX6_sew_r5, wsX6_sew_r6, wsX6_sew_r7, wsX6_sew_r8, wsX6_sew_r9, wsX60, wsX20, wsX10, wsX00, wsX50]
set_option maxRecDepth 20000 in
theorem hf_wsX6_sew : wsX6_sew = (ch_wsX6_sew).flatten := rfl
set_option maxRecDepth 20000 in
theorem hg_wsX6_sew : (wsX6_sew).all goodWord = true := by decide +kernel
set_option maxRecDepth 20000 in
theorem gX6_sew_X6_takeTurn : GoodIn wsX6_sew (wsV RX6 40 RX6 yX6_takeTurn wsX6_takeTurn) := goodIn_c ch_wsX6_sew hf_wsX6_sew hg_wsX6_sew _ [(1, 0), (1, 1), (1, 2), (1, 3), (1, 4), (1, 5), (1, 6), (1, 7), (1, 8), (1, 9), (1, 10), (1, 11), (1, 12), (1, 13), (1, 14), (1, 15), (1, 16), (1, 17), (1, 18), (1, 19), (1, 20), (1, 21), (1, 22), (1, 23), (2, 0), (2, 1), (2, 2), (2, 3), (2, 4), (2, 5), (2, 6), (2, 7), (2, 8), (2, 9), (2, 10), (2, 11), (2, 12), (2, 13), (2, 14), (2, 15), (2, 16), (2, 17), (2, 18), (2, 19), (2, 20), (2, 21), (2, 22), (2, 23), (3, 0), (3, 1), (3, 2), (3, 3), (3, 4), (3, 5), (3, 6), (3, 7), (3, 8), (3, 9), (3, 10), (3, 11), (3, 12), (3, 13), (3, 14), (3, 15), (3, 16), (3, 17), (3, 18), (3, 19), (3, 20), (3, 21), (3, 22), (3, 23), (4, 0), (4, 1), (4, 2), (4, 3), (4, 4), (4, 5), (4, 6), (4, 7), (4, 8), (4, 9), (4, 10), (4, 11), (4, 12), (4, 13), (4, 14), (4, 15), (4, 16), (4, 17), (4, 18), (4, 19), (4, 20), (4, 21), (4, 22), (4, 23), (5, 0), (5, 1), (5, 2), (5, 3), (5, 4), (5, 5), (5, 6), (5, 7), (5, 8), (5, 9), (5, 10), (5, 11), (5, 12), (5, 13), (5, 14), (5, 15), (5, 16), (5, 17), (5, 18), (5, 19), (5, 20), (5, 21), (5, 22), (5, 23), (6, 0), (6, 1), (6, 2), (6, 3), (6, 4), (6, 5), (6, 6), (6, 7), (6, 8), (6, 9), (6, 10), (6, 11), (6, 12), (6, 13), (6, 14), (6, 15), (6, 16), (6, 17), (6, 18), (6, 19), (6, 20), (6, 21), (6, 22), (6, 23), (7, 0), (7, 1), (7, 2), (7, 3), (7, 4), (7, 5), (7, 6), (7, 7), (7, 8), (7, 9), (7, 10), (7, 11), (7, 12), (7, 13), (7, 14), (7, 15), (7, 16), (7, 17), (7, 18), (7, 19), (7, 20), (7, 21), (7, 22), (7, 23), (8, 0), (8, 1), (8, 2), (8, 3), (8, 4), (8, 5), (8, 6), (8, 7), (8, 8), (8, 9), (8, 10), (8, 11), (8, 12), (8, 13), (8, 14), (8, 15), (8, 16), (8, 17), (8, 18), (8, 19), (8, 20), (8, 21), (8, 22), (8, 23), (9, 0), (9, 1), (9, 2), (9, 3), (9, 4), (9, 5), (9, 6), (9, 7), (10, 0), (10, 1), (10, 2), (10, 3), (10, 4), (11, 0), (11, 1), (11, 2), (12, 0), (12, 1), (12, 2), (12, 3), (12, 4), (13, 0), (13, 1), (13, 2), (13, 3), (13, 4), (14, 0), (14, 1), (14, 2), (14, 3), (14, 4), (14, 5), (14, 6), (14, 7), (14, 8)] rfl
theorem dX6_sew_0 : decode cX6_sew 0 = .ok (.aload_n 0, 1) := by decide +kernel
theorem dX6_sew_1 : decode cX6_sew 1 = .ok (.bipush 119, 2) := by decide +kernel
theorem dX6_sew_3 : decode cX6_sew 3 = .ok (.iload_n 1, 1) := by decide +kernel
theorem dX6_sew_4 : decode cX6_sew 4 = .ok (.invokevirtual 40, 3) := by decide +kernel
theorem dX6_sew_7 : decode cX6_sew 7 = .ok (.ireturn, 1) := by decide +kernel
def ch_wsX6_bluff : List (List Cond) := [[.code yX6_bluff cX6_bluff 2 (some .int)], wsX6_bluff_r1, wsX6_bluff_r2, wsX6_bluff_r3, wsX6_bluff_r4, wsX6_bluff_r5, wsX6_bluff_r6, wsX6_bluff_r7, wsX6_bluff_r8, wsX6_bluff_r9, wsX60, wsX20, wsX10, wsX00, wsX50]
set_option maxRecDepth 20000 in
theorem hf_wsX6_bluff : wsX6_bluff = (ch_wsX6_bluff).flatten := rfl
set_option maxRecDepth 20000 in
theorem hg_wsX6_bluff : (wsX6_bluff).all goodWord = true := by decide +kernel
set_option maxRecDepth 20000 in
theorem gX6_bluff_X6_takeTurn : GoodIn wsX6_bluff (wsV RX6 40 RX6 yX6_takeTurn wsX6_takeTurn) := goodIn_c ch_wsX6_bluff hf_wsX6_bluff hg_wsX6_bluff _ [(1, 0), (1, 1), (1, 2), (1, 3), (1, 4), (1, 5), (1, 6), (1, 7), (1, 8), (1, 9), (1, 10), (1, 11), (1, 12), (1, 13), (1, 14), (1, 15), (1, 16), (1, 17), (1, 18), (1, 19), (1, 20), (1, 21), (1, 22), (1, 23), (2, 0), (2, 1), (2, 2), (2, 3), (2, 4), (2, 5), (2, 6), (2, 7), (2, 8), (2, 9), (2, 10), (2, 11), (2, 12), (2, 13), (2, 14), (2, 15), (2, 16), (2, 17), (2, 18), (2, 19), (2, 20), (2, 21), (2, 22), (2, 23), (3, 0), (3, 1), (3, 2), (3, 3), (3, 4), (3, 5), (3, 6), (3, 7), (3, 8), (3, 9), (3, 10), (3, 11), (3, 12), (3, 13), (3, 14), (3, 15), (3, 16), (3, 17), (3, 18), (3, 19), (3, 20), (3, 21), (3, 22), (3, 23), (4, 0), (4, 1), (4, 2), (4, 3), (4, 4), (4, 5), (4, 6), (4, 7), (4, 8), (4, 9), (4, 10), (4, 11), (4, 12), (4, 13), (4, 14), (4, 15), (4, 16), (4, 17), (4, 18), (4, 19), (4, 20), (4, 21), (4, 22), (4, 23), (5, 0), (5, 1), (5, 2), (5, 3), (5, 4), (5, 5), (5, 6), (5, 7), (5, 8), (5, 9), (5, 10), (5, 11), (5, 12), (5, 13), (5, 14), (5, 15), (5, 16), (5, 17), (5, 18), (5, 19), (5, 20), (5, 21), (5, 22), (5, 23), (6, 0), (6, 1), (6, 2), (6, 3), (6, 4), (6, 5), (6, 6), (6, 7), (6, 8), (6, 9), (6, 10), (6, 11), (6, 12), (6, 13), (6, 14), (6, 15), (6, 16), (6, 17), (6, 18), (6, 19), (6, 20), (6, 21), (6, 22), (6, 23), (7, 0), (7, 1), (7, 2), (7, 3), (7, 4), (7, 5), (7, 6), (7, 7), (7, 8), (7, 9), (7, 10), (7, 11), (7, 12), (7, 13), (7, 14), (7, 15), (7, 16), (7, 17), (7, 18), (7, 19), (7, 20), (7, 21), (7, 22), (7, 23), (8, 0), (8, 1), (8, 2), (8, 3), (8, 4), (8, 5), (8, 6), (8, 7), (8, 8), (8, 9), (8, 10), (8, 11), (8, 12), (8, 13), (8, 14), (8, 15), (8, 16), (8, 17), (8, 18), (8, 19), (8, 20), (8, 21), (8, 22), (8, 23), (9, 0), (9, 1), (9, 2), (9, 3), (9, 4), (9, 5), (9, 6), (9, 7), (10, 0), (10, 1), (10, 2), (10, 3), (10, 4), (11, 0), (11, 1), (11, 2), (12, 0), (12, 1), (12, 2), (12, 3), (12, 4), (13, 0), (13, 1), (13, 2), (13, 3), (13, 4), (14, 0), (14, 1), (14, 2), (14, 3), (14, 4), (14, 5), (14, 6), (14, 7), (14, 8)] rfl
theorem dX6_bluff_0 : decode cX6_bluff 0 = .ok (.aload_n 0, 1) := by decide +kernel
theorem dX6_bluff_1 : decode cX6_bluff 1 = .ok (.bipush 98, 2) := by decide +kernel
theorem dX6_bluff_3 : decode cX6_bluff 3 = .ok (.iload_n 1, 1) := by decide +kernel
theorem dX6_bluff_4 : decode cX6_bluff 4 = .ok (.invokevirtual 40, 3) := by decide +kernel
theorem dX6_bluff_7 : decode cX6_bluff 7 = .ok (.ireturn, 1) := by decide +kernel
def ch_wsX6_doubt : List (List Cond) := [[.code yX6_doubt cX6_doubt 2 (some .int)], wsX6_doubt_r1, wsX6_doubt_r2, wsX6_doubt_r3, wsX6_doubt_r4, wsX6_doubt_r5, wsX6_doubt_r6, wsX6_doubt_r7, wsX6_doubt_r8, wsX6_doubt_r9, wsX60, wsX20, wsX10, wsX00, wsX50]
set_option maxRecDepth 20000 in
theorem hf_wsX6_doubt : wsX6_doubt = (ch_wsX6_doubt).flatten := rfl
set_option maxRecDepth 20000 in
theorem hg_wsX6_doubt : (wsX6_doubt).all goodWord = true := by decide +kernel
set_option maxRecDepth 20000 in
theorem gX6_doubt_X6_takeTurn : GoodIn wsX6_doubt (wsV RX6 40 RX6 yX6_takeTurn wsX6_takeTurn) := goodIn_c ch_wsX6_doubt hf_wsX6_doubt hg_wsX6_doubt _ [(1, 0), (1, 1), (1, 2), (1, 3), (1, 4), (1, 5), (1, 6), (1, 7), (1, 8), (1, 9), (1, 10), (1, 11), (1, 12), (1, 13), (1, 14), (1, 15), (1, 16), (1, 17), (1, 18), (1, 19), (1, 20), (1, 21), (1, 22), (1, 23), (2, 0), (2, 1), (2, 2), (2, 3), (2, 4), (2, 5), (2, 6), (2, 7), (2, 8), (2, 9), (2, 10), (2, 11), (2, 12), (2, 13), (2, 14), (2, 15), (2, 16), (2, 17), (2, 18), (2, 19), (2, 20), (2, 21), (2, 22), (2, 23), (3, 0), (3, 1), (3, 2), (3, 3), (3, 4), (3, 5), (3, 6), (3, 7), (3, 8), (3, 9), (3, 10), (3, 11), (3, 12), (3, 13), (3, 14), (3, 15), (3, 16), (3, 17), (3, 18), (3, 19), (3, 20), (3, 21), (3, 22), (3, 23), (4, 0), (4, 1), (4, 2), (4, 3), (4, 4), (4, 5), (4, 6), (4, 7), (4, 8), (4, 9), (4, 10), (4, 11), (4, 12), (4, 13), (4, 14), (4, 15), (4, 16), (4, 17), (4, 18), (4, 19), (4, 20), (4, 21), (4, 22), (4, 23), (5, 0), (5, 1), (5, 2), (5, 3), (5, 4), (5, 5), (5, 6), (5, 7), (5, 8), (5, 9), (5, 10), (5, 11), (5, 12), (5, 13), (5, 14), (5, 15), (5, 16), (5, 17), (5, 18), (5, 19), (5, 20), (5, 21), (5, 22), (5, 23), (6, 0), (6, 1), (6, 2), (6, 3), (6, 4), (6, 5), (6, 6), (6, 7), (6, 8), (6, 9), (6, 10), (6, 11), (6, 12), (6, 13), (6, 14), (6, 15), (6, 16), (6, 17), (6, 18), (6, 19), (6, 20), (6, 21), (6, 22), (6, 23), (7, 0), (7, 1), (7, 2), (7, 3), (7, 4), (7, 5), (7, 6), (7, 7), (7, 8), (7, 9), (7, 10), (7, 11), (7, 12), (7, 13), (7, 14), (7, 15), (7, 16), (7, 17), (7, 18), (7, 19), (7, 20), (7, 21), (7, 22), (7, 23), (8, 0), (8, 1), (8, 2), (8, 3), (8, 4), (8, 5), (8, 6), (8, 7), (8, 8), (8, 9), (8, 10), (8, 11), (8, 12), (8, 13), (8, 14), (8, 15), (8, 16), (8, 17), (8, 18), (8, 19), (8, 20), (8, 21), (8, 22), (8, 23), (9, 0), (9, 1), (9, 2), (9, 3), (9, 4), (9, 5), (9, 6), (9, 7), (10, 0), (10, 1), (10, 2), (10, 3), (10, 4), (11, 0), (11, 1), (11, 2), (12, 0), (12, 1), (12, 2), (12, 3), (12, 4), (13, 0), (13, 1), (13, 2), (13, 3), (13, 4), (14, 0), (14, 1), (14, 2), (14, 3), (14, 4), (14, 5), (14, 6), (14, 7), (14, 8)] rfl
theorem dX6_doubt_0 : decode cX6_doubt 0 = .ok (.aload_n 0, 1) := by decide +kernel
theorem dX6_doubt_1 : decode cX6_doubt 1 = .ok (.bipush 100, 2) := by decide +kernel
theorem dX6_doubt_3 : decode cX6_doubt 3 = .ok (.iload_n 1, 1) := by decide +kernel
theorem dX6_doubt_4 : decode cX6_doubt 4 = .ok (.invokevirtual 40, 3) := by decide +kernel
theorem dX6_doubt_7 : decode cX6_doubt 7 = .ok (.ireturn, 1) := by decide +kernel
def ch_wsX6_pass : List (List Cond) := [[.code yX6_pass cX6_pass 1 (some .int)], wsX6_pass_r1, wsX6_pass_r2, wsX6_pass_r3, wsX6_pass_r4, wsX6_pass_r5, wsX6_pass_r6, wsX6_pass_r7, wsX6_pass_r8, wsX6_pass_r9, wsX60, wsX20, wsX10, wsX00, wsX50]
set_option maxRecDepth 20000 in
theorem hf_wsX6_pass : wsX6_pass = (ch_wsX6_pass).flatten := rfl
set_option maxRecDepth 20000 in
theorem hg_wsX6_pass : (wsX6_pass).all goodWord = true := by decide +kernel
set_option maxRecDepth 20000 in
theorem gX6_pass_X6_takeTurn : GoodIn wsX6_pass (wsV RX6 40 RX6 yX6_takeTurn wsX6_takeTurn) := goodIn_c ch_wsX6_pass hf_wsX6_pass hg_wsX6_pass _ [(1, 0), (1, 1), (1, 2), (1, 3), (1, 4), (1, 5), (1, 6), (1, 7), (1, 8), (1, 9), (1, 10), (1, 11), (1, 12), (1, 13), (1, 14), (1, 15), (1, 16), (1, 17), (1, 18), (1, 19), (1, 20), (1, 21), (1, 22), (1, 23), (2, 0), (2, 1), (2, 2), (2, 3), (2, 4), (2, 5), (2, 6), (2, 7), (2, 8), (2, 9), (2, 10), (2, 11), (2, 12), (2, 13), (2, 14), (2, 15), (2, 16), (2, 17), (2, 18), (2, 19), (2, 20), (2, 21), (2, 22), (2, 23), (3, 0), (3, 1), (3, 2), (3, 3), (3, 4), (3, 5), (3, 6), (3, 7), (3, 8), (3, 9), (3, 10), (3, 11), (3, 12), (3, 13), (3, 14), (3, 15), (3, 16), (3, 17), (3, 18), (3, 19), (3, 20), (3, 21), (3, 22), (3, 23), (4, 0), (4, 1), (4, 2), (4, 3), (4, 4), (4, 5), (4, 6), (4, 7), (4, 8), (4, 9), (4, 10), (4, 11), (4, 12), (4, 13), (4, 14), (4, 15), (4, 16), (4, 17), (4, 18), (4, 19), (4, 20), (4, 21), (4, 22), (4, 23), (5, 0), (5, 1), (5, 2), (5, 3), (5, 4), (5, 5), (5, 6), (5, 7), (5, 8), (5, 9), (5, 10), (5, 11), (5, 12), (5, 13), (5, 14), (5, 15), (5, 16), (5, 17), (5, 18), (5, 19), (5, 20), (5, 21), (5, 22), (5, 23), (6, 0), (6, 1), (6, 2), (6, 3), (6, 4), (6, 5), (6, 6), (6, 7), (6, 8), (6, 9), (6, 10), (6, 11), (6, 12), (6, 13), (6, 14), (6, 15), (6, 16), (6, 17), (6, 18), (6, 19), (6, 20), (6, 21), (6, 22), (6, 23), (7, 0), (7, 1), (7, 2), (7, 3), (7, 4), (7, 5), (7, 6), (7, 7), (7, 8), (7, 9), (7, 10), (7, 11), (7, 12), (7, 13), (7, 14), (7, 15), (7, 16), (7, 17), (7, 18), (7, 19), (7, 20), (7, 21), (7, 22), (7, 23), (8, 0), (8, 1), (8, 2), (8, 3), (8, 4), (8, 5), (8, 6), (8, 7), (8, 8), (8, 9), (8, 10), (8, 11), (8, 12), (8, 13), (8, 14), (8, 15), (8, 16), (8, 17), (8, 18), (8, 19), (8, 20), (8, 21), (8, 22), (8, 23), (9, 0), (9, 1), (9, 2), (9, 3), (9, 4), (9, 5), (9, 6), (9, 7), (10, 0), (10, 1), (10, 2), (10, 3), (10, 4), (11, 0), (11, 1), (11, 2), (12, 0), (12, 1), (12, 2), (12, 3), (12, 4), (13, 0), (13, 1), (13, 2), (13, 3), (13, 4), (14, 0), (14, 1), (14, 2), (14, 3), (14, 4), (14, 5), (14, 6), (14, 7), (14, 8)] rfl
theorem dX6_pass_0 : decode cX6_pass 0 = .ok (.aload_n 0, 1) := by decide +kernel
theorem dX6_pass_1 : decode cX6_pass 1 = .ok (.bipush 112, 2) := by decide +kernel
theorem dX6_pass_3 : decode cX6_pass 3 = .ok (.iconst 0, 1) := by decide +kernel
theorem dX6_pass_4 : decode cX6_pass 4 = .ok (.invokevirtual 40, 3) := by decide +kernel
theorem dX6_pass_7 : decode cX6_pass 7 = .ok (.ireturn, 1) := by decide +kernel
def ch_wsX6_takeTurn : List (List Cond) := [[.code yX6_takeTurn cX6_takeTurn 4 (some .int)], wsX6_takeTurn_r1, wsX6_takeTurn_r2, wsX6_takeTurn_r3, wsX6_takeTurn_r4, wsX6_takeTurn_r5, wsX6_takeTurn_r6, wsX6_takeTurn_r7, wsX6_takeTurn_r8, wsX6_takeTurn_r9, wsX60, wsX20, wsX10, wsX00, wsX50]
set_option maxRecDepth 20000 in
theorem hf_wsX6_takeTurn : wsX6_takeTurn = (ch_wsX6_takeTurn).flatten := rfl
set_option maxRecDepth 20000 in
theorem hg_wsX6_takeTurn : (wsX6_takeTurn).all goodWord = true := by decide +kernel
set_option maxRecDepth 20000 in
theorem gX6_takeTurn_X2_note : GoodIn wsX6_takeTurn (wsV RX6 44 RX2 yX2_note wsX2_note) := goodIn_c ch_wsX6_takeTurn hf_wsX6_takeTurn hg_wsX6_takeTurn _ [(1, 2), (1, 3), (1, 4), (1, 5), (1, 6), (1, 7), (1, 8), (1, 9), (1, 10), (1, 11), (1, 12), (1, 13), (1, 14), (1, 15), (1, 16), (1, 17), (1, 18), (1, 19), (1, 20), (1, 21), (1, 22), (1, 23), (2, 0), (2, 1), (2, 2), (2, 3), (2, 4), (2, 5), (2, 6), (2, 7), (2, 8), (2, 9), (2, 10), (2, 11), (2, 12), (2, 13), (2, 14), (2, 15), (2, 16), (2, 17), (11, 0), (11, 1), (11, 2), (12, 0), (12, 1), (12, 2), (12, 3), (12, 4), (13, 0), (13, 1), (13, 2), (13, 3), (13, 4), (14, 0), (14, 1), (14, 2), (14, 3), (14, 4), (14, 5), (14, 6), (14, 7), (14, 8)] rfl
set_option maxRecDepth 20000 in
theorem gX6_takeTurn_X1_obey : GoodIn wsX6_takeTurn (wsV RX6 48 RX1 yX1_obey wsX1_obey) := goodIn_c ch_wsX6_takeTurn hf_wsX6_takeTurn hg_wsX6_takeTurn _ [(2, 18), (2, 19), (2, 20), (1, 11), (2, 21), (1, 13), (2, 22), (2, 23), (3, 0), (1, 11), (3, 1), (1, 16), (3, 2), (3, 3), (3, 4), (3, 5), (1, 17), (3, 6), (3, 7), (3, 8), (1, 21), (3, 9), (2, 1), (3, 10), (3, 11), (3, 12), (3, 13), (3, 14), (3, 15), (3, 16), (3, 17), (3, 18), (3, 19), (3, 20), (3, 21), (3, 22), (3, 23), (4, 0), (4, 1), (4, 2), (4, 3), (4, 4), (4, 5), (4, 6), (4, 7), (4, 8), (4, 9), (4, 10), (4, 11), (4, 12), (4, 13), (4, 14), (4, 15), (4, 16), (4, 17), (4, 18), (4, 19), (4, 20), (4, 21), (1, 14), (1, 15), (4, 22), (4, 23), (5, 0), (5, 1), (2, 3), (2, 2), (5, 2), (5, 3), (5, 4), (2, 7), (5, 5), (2, 10), (2, 9), (5, 6), (5, 7), (5, 8), (5, 9), (5, 10), (5, 11), (5, 12), (5, 13), (5, 14), (5, 15), (5, 16), (5, 17), (5, 18), (5, 19), (5, 20), (5, 21), (1, 23), (5, 22), (5, 23), (6, 0), (6, 1), (6, 2), (6, 3), (6, 4), (6, 5), (6, 6), (6, 7), (6, 8), (6, 9), (6, 10), (6, 11), (6, 12), (6, 13), (6, 14), (6, 15), (6, 16), (6, 17), (6, 18), (6, 19), (6, 20), (6, 21), (6, 22), (6, 23), (7, 0), (7, 1), (7, 2), (7, 3), (2, 0), (7, 4), (7, 5), (7, 6), (7, 7), (7, 8), (7, 9), (7, 10), (7, 11), (7, 12), (7, 13), (7, 14), (7, 15), (7, 16), (2, 13), (2, 14), (2, 11), (7, 17), (7, 18), (7, 19), (7, 20), (7, 21), (7, 22), (7, 23), (8, 0), (8, 1), (8, 2), (8, 3), (8, 4), (8, 5), (8, 6), (8, 7), (8, 8), (8, 9), (8, 10), (8, 11), (8, 12), (8, 13), (8, 14), (8, 15), (8, 16), (12, 0), (12, 1), (12, 2), (12, 3), (12, 4), (13, 0), (13, 1), (13, 2), (13, 3), (13, 4), (14, 0), (14, 1), (14, 2), (14, 3), (14, 4), (14, 5), (14, 6), (14, 7), (14, 8)] rfl
set_option maxRecDepth 20000 in
theorem gX6_takeTurn_X2_keepNoted : GoodIn wsX6_takeTurn (wsV RX6 51 RX2 yX2_keepNoted wsX2_keepNoted) := goodIn_c ch_wsX6_takeTurn hf_wsX6_takeTurn hg_wsX6_takeTurn _ [(8, 17), (8, 18), (8, 19), (1, 5), (8, 20), (8, 21), (8, 22), (1, 7), (8, 23), (9, 0), (9, 1), (1, 5), (9, 2), (11, 0), (11, 1), (11, 2)] rfl
theorem dX6_takeTurn_0 : decode cX6_takeTurn 0 = .ok (.aload_n 0, 1) := by decide +kernel
theorem dX6_takeTurn_1 : decode cX6_takeTurn 1 = .ok (.getfield 19, 3) := by decide +kernel
theorem dX6_takeTurn_4 : decode cX6_takeTurn 4 = .ok (.aload_n 0, 1) := by decide +kernel
theorem dX6_takeTurn_5 : decode cX6_takeTurn 5 = .ok (.getfield 10, 3) := by decide +kernel
theorem dX6_takeTurn_8 : decode cX6_takeTurn 8 = .ok (.invokevirtual 44, 3) := by decide +kernel
theorem dX6_takeTurn_11 : decode cX6_takeTurn 11 = .ok (.aload_n 0, 1) := by decide +kernel
theorem dX6_takeTurn_12 : decode cX6_takeTurn 12 = .ok (.getfield 10, 3) := by decide +kernel
theorem dX6_takeTurn_15 : decode cX6_takeTurn 15 = .ok (.iload_n 1, 1) := by decide +kernel
theorem dX6_takeTurn_16 : decode cX6_takeTurn 16 = .ok (.iload_n 2, 1) := by decide +kernel
theorem dX6_takeTurn_17 : decode cX6_takeTurn 17 = .ok (.invokevirtual 48, 3) := by decide +kernel
theorem dX6_takeTurn_20 : decode cX6_takeTurn 20 = .ok (.istore_n 3, 1) := by decide +kernel
theorem dX6_takeTurn_21 : decode cX6_takeTurn 21 = .ok (.iload_n 3, 1) := by decide +kernel
theorem dX6_takeTurn_22 : decode cX6_takeTurn 22 = .ok (.ifCond .lt 10, 3) := by decide +kernel
theorem dX6_takeTurn_25 : decode cX6_takeTurn 25 = .ok (.aload_n 0, 1) := by decide +kernel
theorem dX6_takeTurn_26 : decode cX6_takeTurn 26 = .ok (.getfield 19, 3) := by decide +kernel
theorem dX6_takeTurn_29 : decode cX6_takeTurn 29 = .ok (.invokevirtual 51, 3) := by decide +kernel
theorem dX6_takeTurn_32 : decode cX6_takeTurn 32 = .ok (.iload_n 3, 1) := by decide +kernel
theorem dX6_takeTurn_33 : decode cX6_takeTurn 33 = .ok (.ireturn, 1) := by decide +kernel
def ch_wsX6_of : List (List Cond) := [[.code yX6_of cX6_of 3 (some .int)], wsX6_of_r1, wsX6_of_r2, wsX6_of_r3, wsX6_of_r4, wsX60, wsX10, wsX00, wsX50]
set_option maxRecDepth 20000 in
theorem hf_wsX6_of : wsX6_of = (ch_wsX6_of).flatten := rfl
set_option maxRecDepth 20000 in
theorem hg_wsX6_of : (wsX6_of).all goodWord = true := by decide +kernel
set_option maxRecDepth 20000 in
theorem gX6_of_X0_isJoint : GoodIn wsX6_of (va_wsS RX6 54 yX0_isJoint wsX0_isJoint) := goodIn_c ch_wsX6_of hf_wsX6_of hg_wsX6_of _ [(1, 2), (1, 3), (1, 4), (1, 5)] rfl
set_option maxRecDepth 20000 in
theorem gX6_of_X0_stateOf : GoodIn wsX6_of (wsV RX6 64 RX0 yX0_stateOf wsX0_stateOf) := goodIn_c ch_wsX6_of hf_wsX6_of hg_wsX6_of _ [(1, 6), (1, 7), (1, 8), (1, 4), (1, 9), (1, 10), (1, 11), (1, 3), (1, 4), (1, 5), (7, 0), (7, 1), (7, 2), (7, 3), (7, 4)] rfl
set_option maxRecDepth 20000 in
theorem gX6_of_X0_isVoid : GoodIn wsX6_of (wsV RX6 68 RX0 yX0_isVoid wsX0_isVoid) := goodIn_c ch_wsX6_of hf_wsX6_of hg_wsX6_of _ [(1, 12), (1, 13), (1, 14), (1, 4), (1, 15), (1, 16), (1, 17), (1, 18), (1, 4), (1, 19), (1, 20), (1, 21), (1, 22), (1, 23), (2, 0), (2, 1), (7, 0), (7, 1), (7, 2), (7, 3), (7, 4)] rfl
set_option maxRecDepth 20000 in
theorem gX6_of_X6_asNumber : GoodIn wsX6_of (va_wsS RX6 71 yX6_asNumber wsX6_asNumber) := goodIn_c ch_wsX6_of hf_wsX6_of hg_wsX6_of _ [(2, 2), (2, 3), (2, 4), (2, 5)] rfl
set_option maxRecDepth 20000 in
theorem gX6_of_X0_firstCell : GoodIn wsX6_of (va_wsS RX6 75 yX0_firstCell wsX0_firstCell) := goodIn_c ch_wsX6_of hf_wsX6_of hg_wsX6_of _ [(2, 6), (1, 21), (1, 4), (1, 22)] rfl
set_option maxRecDepth 20000 in
theorem gX6_of_X0_secondCell : GoodIn wsX6_of (va_wsS RX6 78 yX0_secondCell wsX0_secondCell) := goodIn_c ch_wsX6_of hf_wsX6_of hg_wsX6_of _ [(2, 7), (2, 8), (1, 4), (2, 9), (1, 20), (1, 21), (1, 4), (1, 22), (1, 17), (1, 18), (1, 19)] rfl
set_option maxRecDepth 20000 in
theorem gX6_of_X1_chalkersOf : GoodIn wsX6_of (wsV RX6 81 RX1 yX1_chalkersOf wsX1_chalkersOf) := goodIn_c ch_wsX6_of hf_wsX6_of hg_wsX6_of _ [(2, 10), (2, 11), (2, 12), (2, 13), (2, 14), (2, 15), (2, 16), (2, 17), (2, 18), (2, 19), (2, 20), (2, 21), (2, 22), (2, 23), (6, 0), (6, 1), (6, 2), (6, 3), (6, 4), (8, 0), (8, 1), (8, 2), (8, 3), (8, 4), (8, 5), (8, 6), (8, 7), (8, 8)] rfl
set_option maxRecDepth 20000 in
theorem gX6_of_X1_doubtableMaker : GoodIn wsX6_of (wsV RX6 84 RX1 yX1_doubtableMaker wsX1_doubtableMaker) := goodIn_c ch_wsX6_of hf_wsX6_of hg_wsX6_of _ [(3, 0), (3, 1), (3, 2), (2, 13), (3, 3), (3, 4), (3, 5), (3, 6), (3, 7), (2, 13), (3, 8), (3, 9), (3, 10), (3, 11), (3, 12), (1, 4), (3, 13), (1, 16), (3, 14), (3, 15), (3, 16), (3, 17), (3, 18), (3, 19), (3, 20), (3, 21), (1, 13), (1, 14), (1, 15), (1, 17), (1, 18), (1, 19), (1, 20), (1, 21), (1, 22), (1, 23), (2, 0), (2, 1), (3, 22), (3, 23), (4, 0), (4, 1), (4, 2), (1, 11), (1, 3), (1, 5), (6, 0), (6, 1), (6, 2), (6, 3), (6, 4), (7, 0), (7, 1), (7, 2), (7, 3), (7, 4)] rfl
set_option maxRecDepth 20000 in
theorem gX6_of_X0_holds : GoodIn wsX6_of (wsV RX6 87 RX0 yX0_holds wsX0_holds) := goodIn_c ch_wsX6_of hf_wsX6_of hg_wsX6_of _ [(4, 3), (4, 4), (4, 5), (1, 4), (4, 6), (4, 7), (4, 8), (1, 17), (1, 18), (1, 4), (1, 19), (1, 20), (1, 21), (1, 22), (1, 23), (2, 0), (2, 1), (7, 0), (7, 1), (7, 2), (7, 3), (7, 4)] rfl
theorem dX6_of_0 : decode cX6_of 0 = .ok (.iload_n 1, 1) := by decide +kernel
theorem dX6_of_1 : decode cX6_of 1 = .ok (.invokestatic 54, 3) := by decide +kernel
theorem dX6_of_4 : decode cX6_of 4 = .ok (.ifCond .ne 5, 3) := by decide +kernel
theorem dX6_of_7 : decode cX6_of 7 = .ok (.iconst (-1), 1) := by decide +kernel
theorem dX6_of_8 : decode cX6_of 8 = .ok (.ireturn, 1) := by decide +kernel
theorem dX6_of_9 : decode cX6_of 9 = .ok (.iload_n 2, 1) := by decide +kernel
theorem dX6_of_10 : decode cX6_of 10 = .ok (.tableswitch 112 0 6 #[42, 54, 69, 74, 79, 88, 97], 42) := by decide +kernel
theorem dX6_of_52 : decode cX6_of 52 = .ok (.aload_n 0, 1) := by decide +kernel
theorem dX6_of_53 : decode cX6_of 53 = .ok (.getfield 10, 3) := by decide +kernel
theorem dX6_of_56 : decode cX6_of 56 = .ok (.getfield 60, 3) := by decide +kernel
theorem dX6_of_59 : decode cX6_of 59 = .ok (.iload_n 1, 1) := by decide +kernel
theorem dX6_of_60 : decode cX6_of 60 = .ok (.invokevirtual 64, 3) := by decide +kernel
theorem dX6_of_63 : decode cX6_of 63 = .ok (.ireturn, 1) := by decide +kernel
theorem dX6_of_64 : decode cX6_of 64 = .ok (.aload_n 0, 1) := by decide +kernel
theorem dX6_of_65 : decode cX6_of 65 = .ok (.getfield 10, 3) := by decide +kernel
theorem dX6_of_68 : decode cX6_of 68 = .ok (.getfield 60, 3) := by decide +kernel
theorem dX6_of_71 : decode cX6_of 71 = .ok (.iload_n 1, 1) := by decide +kernel
theorem dX6_of_72 : decode cX6_of 72 = .ok (.invokevirtual 68, 3) := by decide +kernel
theorem dX6_of_75 : decode cX6_of 75 = .ok (.invokestatic 71, 3) := by decide +kernel
theorem dX6_of_78 : decode cX6_of 78 = .ok (.ireturn, 1) := by decide +kernel
theorem dX6_of_79 : decode cX6_of 79 = .ok (.iload_n 1, 1) := by decide +kernel
theorem dX6_of_80 : decode cX6_of 80 = .ok (.invokestatic 75, 3) := by decide +kernel
theorem dX6_of_83 : decode cX6_of 83 = .ok (.ireturn, 1) := by decide +kernel
theorem dX6_of_84 : decode cX6_of 84 = .ok (.iload_n 1, 1) := by decide +kernel
theorem dX6_of_85 : decode cX6_of 85 = .ok (.invokestatic 78, 3) := by decide +kernel
theorem dX6_of_88 : decode cX6_of 88 = .ok (.ireturn, 1) := by decide +kernel
theorem dX6_of_89 : decode cX6_of 89 = .ok (.aload_n 0, 1) := by decide +kernel
theorem dX6_of_90 : decode cX6_of 90 = .ok (.getfield 10, 3) := by decide +kernel
theorem dX6_of_93 : decode cX6_of 93 = .ok (.iload_n 1, 1) := by decide +kernel
theorem dX6_of_94 : decode cX6_of 94 = .ok (.invokevirtual 81, 3) := by decide +kernel
theorem dX6_of_97 : decode cX6_of 97 = .ok (.ireturn, 1) := by decide +kernel
theorem dX6_of_98 : decode cX6_of 98 = .ok (.aload_n 0, 1) := by decide +kernel
theorem dX6_of_99 : decode cX6_of 99 = .ok (.getfield 10, 3) := by decide +kernel
theorem dX6_of_102 : decode cX6_of 102 = .ok (.iload_n 1, 1) := by decide +kernel
theorem dX6_of_103 : decode cX6_of 103 = .ok (.invokevirtual 84, 3) := by decide +kernel
theorem dX6_of_106 : decode cX6_of 106 = .ok (.ireturn, 1) := by decide +kernel
theorem dX6_of_107 : decode cX6_of 107 = .ok (.aload_n 0, 1) := by decide +kernel
theorem dX6_of_108 : decode cX6_of 108 = .ok (.getfield 10, 3) := by decide +kernel
theorem dX6_of_111 : decode cX6_of 111 = .ok (.getfield 60, 3) := by decide +kernel
theorem dX6_of_114 : decode cX6_of 114 = .ok (.iload_n 1, 1) := by decide +kernel
theorem dX6_of_115 : decode cX6_of 115 = .ok (.invokevirtual 87, 3) := by decide +kernel
theorem dX6_of_118 : decode cX6_of 118 = .ok (.invokestatic 71, 3) := by decide +kernel
theorem dX6_of_121 : decode cX6_of 121 = .ok (.ireturn, 1) := by decide +kernel
theorem dX6_of_122 : decode cX6_of 122 = .ok (.bipush (-2), 2) := by decide +kernel
theorem dX6_of_124 : decode cX6_of 124 = .ok (.ireturn, 1) := by decide +kernel
def ch_wsX6_cell : List (List Cond) := [[.code yX6_cell cX6_cell 3 (some .int)], wsX6_cell_r1, wsX6_cell_r2, wsX6_cell_r3, wsX60, wsX10, wsX00]
set_option maxRecDepth 20000 in
theorem hf_wsX6_cell : wsX6_cell = (ch_wsX6_cell).flatten := rfl
set_option maxRecDepth 20000 in
theorem hg_wsX6_cell : (wsX6_cell).all goodWord = true := by decide +kernel
set_option maxRecDepth 20000 in
theorem gX6_cell_X0_isCell : GoodIn wsX6_cell (va_wsS RX6 90 yX0_isCell wsX0_isCell) := goodIn_c ch_wsX6_cell hf_wsX6_cell hg_wsX6_cell _ [(1, 2), (1, 3), (1, 4), (1, 5)] rfl
set_option maxRecDepth 20000 in
theorem gX6_cell_X0_isGone : GoodIn wsX6_cell (wsV RX6 93 RX0 yX0_isGone wsX0_isGone) := goodIn_c ch_wsX6_cell hf_wsX6_cell hg_wsX6_cell _ [(1, 6), (1, 7), (1, 8), (1, 4), (1, 9), (1, 10), (1, 11), (1, 12), (1, 4), (1, 13), (6, 0), (6, 1), (6, 2), (6, 3), (6, 4)] rfl
set_option maxRecDepth 20000 in
theorem gX6_cell_X6_asNumber : GoodIn wsX6_cell (va_wsS RX6 71 yX6_asNumber wsX6_asNumber) := goodIn_c ch_wsX6_cell hf_wsX6_cell hg_wsX6_cell _ [(1, 14), (1, 15), (1, 16), (1, 17)] rfl
set_option maxRecDepth 20000 in
theorem gX6_cell_X0_pieceOf : GoodIn wsX6_cell (wsV RX6 96 RX0 yX0_pieceOf wsX0_pieceOf) := goodIn_c ch_wsX6_cell hf_wsX6_cell hg_wsX6_cell _ [(1, 18), (1, 19), (1, 20), (1, 4), (1, 21), (1, 22), (1, 23), (2, 0), (1, 7), (1, 8), (1, 4), (1, 9), (1, 10), (1, 11), (1, 12), (1, 13), (2, 1), (2, 2), (2, 3), (6, 0), (6, 1), (6, 2), (6, 3), (6, 4)] rfl
set_option maxRecDepth 20000 in
theorem gX6_cell_J13_bitCount_95d88 : GoodIn wsX6_cell (va_wsS RX6 100 yJ13_bitCount_95d88 wsJ13_bitCount_95d88) := goodIn_c ch_wsX6_cell hf_wsX6_cell hg_wsX6_cell _ [(2, 4), (2, 5), (2, 6), (2, 7), (2, 8), (2, 9), (2, 10)] rfl
set_option maxRecDepth 20000 in
theorem gX6_cell_X0_lowestOfPiece : GoodIn wsX6_cell (wsV RX6 106 RX0 yX0_lowestOfPiece wsX0_lowestOfPiece) := goodIn_c ch_wsX6_cell hf_wsX6_cell hg_wsX6_cell _ [(2, 11), (2, 12), (2, 13), (1, 4), (2, 14), (2, 15), (1, 19), (1, 20), (1, 4), (1, 21), (1, 22), (1, 23), (2, 0), (1, 7), (1, 8), (1, 9), (1, 10), (1, 11), (1, 12), (1, 13), (2, 1), (2, 2), (2, 3), (6, 0), (6, 1), (6, 2), (6, 3), (6, 4)] rfl
set_option maxRecDepth 20000 in
theorem gX6_cell_X0_holdsOn : GoodIn wsX6_cell (wsV RX6 109 RX0 yX0_holdsOn wsX0_holdsOn) := goodIn_c ch_wsX6_cell hf_wsX6_cell hg_wsX6_cell _ [(2, 16), (2, 17), (2, 18), (1, 4), (2, 19), (2, 20), (2, 21), (2, 22), (1, 4), (2, 23), (1, 23), (1, 22), (3, 0), (3, 1), (3, 2), (3, 3), (3, 4), (3, 5), (1, 11), (1, 12), (1, 13), (3, 6), (3, 7), (3, 8), (6, 0), (6, 1), (6, 2), (6, 3), (6, 4)] rfl
theorem dX6_cell_0 : decode cX6_cell 0 = .ok (.iload_n 1, 1) := by decide +kernel
theorem dX6_cell_1 : decode cX6_cell 1 = .ok (.invokestatic 90, 3) := by decide +kernel
theorem dX6_cell_4 : decode cX6_cell 4 = .ok (.ifCond .ne 5, 3) := by decide +kernel
theorem dX6_cell_7 : decode cX6_cell 7 = .ok (.iconst (-1), 1) := by decide +kernel
theorem dX6_cell_8 : decode cX6_cell 8 = .ok (.ireturn, 1) := by decide +kernel
theorem dX6_cell_9 : decode cX6_cell 9 = .ok (.iload_n 2, 1) := by decide +kernel
theorem dX6_cell_10 : decode cX6_cell 10 = .ok (.tableswitch 84 0 3 #[30, 45, 60, 72], 30) := by decide +kernel
theorem dX6_cell_40 : decode cX6_cell 40 = .ok (.aload_n 0, 1) := by decide +kernel
theorem dX6_cell_41 : decode cX6_cell 41 = .ok (.getfield 10, 3) := by decide +kernel
theorem dX6_cell_44 : decode cX6_cell 44 = .ok (.getfield 60, 3) := by decide +kernel
theorem dX6_cell_47 : decode cX6_cell 47 = .ok (.iload_n 1, 1) := by decide +kernel
theorem dX6_cell_48 : decode cX6_cell 48 = .ok (.invokevirtual 93, 3) := by decide +kernel
theorem dX6_cell_51 : decode cX6_cell 51 = .ok (.invokestatic 71, 3) := by decide +kernel
theorem dX6_cell_54 : decode cX6_cell 54 = .ok (.ireturn, 1) := by decide +kernel
theorem dX6_cell_55 : decode cX6_cell 55 = .ok (.aload_n 0, 1) := by decide +kernel
theorem dX6_cell_56 : decode cX6_cell 56 = .ok (.getfield 10, 3) := by decide +kernel
theorem dX6_cell_59 : decode cX6_cell 59 = .ok (.getfield 60, 3) := by decide +kernel
theorem dX6_cell_62 : decode cX6_cell 62 = .ok (.iload_n 1, 1) := by decide +kernel
theorem dX6_cell_63 : decode cX6_cell 63 = .ok (.invokevirtual 96, 3) := by decide +kernel
theorem dX6_cell_66 : decode cX6_cell 66 = .ok (.invokestatic 100, 3) := by decide +kernel
theorem dX6_cell_69 : decode cX6_cell 69 = .ok (.ireturn, 1) := by decide +kernel
theorem dX6_cell_70 : decode cX6_cell 70 = .ok (.aload_n 0, 1) := by decide +kernel
theorem dX6_cell_71 : decode cX6_cell 71 = .ok (.getfield 10, 3) := by decide +kernel
theorem dX6_cell_74 : decode cX6_cell 74 = .ok (.getfield 60, 3) := by decide +kernel
theorem dX6_cell_77 : decode cX6_cell 77 = .ok (.iload_n 1, 1) := by decide +kernel
theorem dX6_cell_78 : decode cX6_cell 78 = .ok (.invokevirtual 106, 3) := by decide +kernel
theorem dX6_cell_81 : decode cX6_cell 81 = .ok (.ireturn, 1) := by decide +kernel
theorem dX6_cell_82 : decode cX6_cell 82 = .ok (.aload_n 0, 1) := by decide +kernel
theorem dX6_cell_83 : decode cX6_cell 83 = .ok (.getfield 10, 3) := by decide +kernel
theorem dX6_cell_86 : decode cX6_cell 86 = .ok (.getfield 60, 3) := by decide +kernel
theorem dX6_cell_89 : decode cX6_cell 89 = .ok (.iload_n 1, 1) := by decide +kernel
theorem dX6_cell_90 : decode cX6_cell 90 = .ok (.invokevirtual 109, 3) := by decide +kernel
theorem dX6_cell_93 : decode cX6_cell 93 = .ok (.ireturn, 1) := by decide +kernel
theorem dX6_cell_94 : decode cX6_cell 94 = .ok (.bipush (-2), 2) := by decide +kernel
theorem dX6_cell_96 : decode cX6_cell 96 = .ok (.ireturn, 1) := by decide +kernel
def ch_wsX6_player : List (List Cond) := [[.code yX6_player cX6_player 4 (some .int)], [.fieldLink RX6 10 "TailorChalks" "game" "LTailorChalks$Game;", .fieldLink RX6 119 "TailorChalks$Tailor" "points" "I", .fieldLink RX6 125 "TailorChalks$Tailor" "threads" "I", .fieldLink RX6 128 "TailorChalks$Tailor" "marks" "I", .fieldLink RX6 131 "TailorChalks$Tailor" "rags" "I", .fieldLink RX6 134 "TailorChalks$Tailor" "ragCells" "I", .fieldLink RX6 137 "TailorChalks$Tailor" "found" "I", .fieldLink RX6 140 "TailorChalks$Tailor" "rightDoubts" "I", .fieldLink RX6 143 "TailorChalks$Tailor" "wrongDoubts" "I", .methodLink RX6 112 yX1_isPlayer, .static yX1_isPlayer, .initialized RX1, .code yX1_isPlayer cX1_isPlayer 1 (some .boolean), .methodLink RX6 115 yX1_tailorOf, .instanceMethod yX1_tailorOf, .selects RX1 yX1_tailorOf yX1_tailorOf, .code yX1_tailorOf cX1_tailorOf 2 (some (.object "TailorChalks$Tailor")), .fieldLink RX1 21 "TailorChalks$Game" "tailorZero" "LTailorChalks$Tailor;", .fieldLink RX1 25 "TailorChalks$Game" "tailorOne" "LTailorChalks$Tailor;"], wsX60, wsX50, wsX10]
set_option maxRecDepth 20000 in
theorem hf_wsX6_player : wsX6_player = (ch_wsX6_player).flatten := rfl
set_option maxRecDepth 20000 in
theorem hg_wsX6_player : (wsX6_player).all goodWord = true := by decide +kernel
set_option maxRecDepth 20000 in
theorem gX6_player_X1_isPlayer : GoodIn wsX6_player (va_wsS RX6 112 yX1_isPlayer wsX1_isPlayer) := goodIn_c ch_wsX6_player hf_wsX6_player hg_wsX6_player _ [(1, 9), (1, 10), (1, 11), (1, 12)] rfl
set_option maxRecDepth 20000 in
theorem gX6_player_X1_tailorOf : GoodIn wsX6_player (wsV RX6 115 RX1 yX1_tailorOf wsX1_tailorOf) := goodIn_c ch_wsX6_player hf_wsX6_player hg_wsX6_player _ [(1, 13), (1, 14), (1, 15), (1, 11), (1, 16), (1, 17), (1, 18), (4, 0), (4, 1), (4, 2), (4, 3), (4, 4)] rfl
theorem dX6_player_0 : decode cX6_player 0 = .ok (.iload_n 1, 1) := by decide +kernel
theorem dX6_player_1 : decode cX6_player 1 = .ok (.invokestatic 112, 3) := by decide +kernel
theorem dX6_player_4 : decode cX6_player 4 = .ok (.ifCond .ne 5, 3) := by decide +kernel
theorem dX6_player_7 : decode cX6_player 7 = .ok (.iconst (-1), 1) := by decide +kernel
theorem dX6_player_8 : decode cX6_player 8 = .ok (.ireturn, 1) := by decide +kernel
theorem dX6_player_9 : decode cX6_player 9 = .ok (.aload_n 0, 1) := by decide +kernel
theorem dX6_player_10 : decode cX6_player 10 = .ok (.getfield 10, 3) := by decide +kernel
theorem dX6_player_13 : decode cX6_player 13 = .ok (.iload_n 1, 1) := by decide +kernel
theorem dX6_player_14 : decode cX6_player 14 = .ok (.invokevirtual 115, 3) := by decide +kernel
theorem dX6_player_17 : decode cX6_player 17 = .ok (.astore_n 3, 1) := by decide +kernel
theorem dX6_player_18 : decode cX6_player 18 = .ok (.iload_n 2, 1) := by decide +kernel
theorem dX6_player_19 : decode cX6_player 19 = .ok (.tableswitch 89 0 7 #[45, 54, 59, 64, 69, 74, 79, 84], 45) := by decide +kernel
theorem dX6_player_64 : decode cX6_player 64 = .ok (.aload_n 3, 1) := by decide +kernel
theorem dX6_player_65 : decode cX6_player 65 = .ok (.getfield 119, 3) := by decide +kernel
theorem dX6_player_68 : decode cX6_player 68 = .ok (.sipush 500, 3) := by decide +kernel
theorem dX6_player_71 : decode cX6_player 71 = .ok (.iadd, 1) := by decide +kernel
theorem dX6_player_72 : decode cX6_player 72 = .ok (.ireturn, 1) := by decide +kernel
theorem dX6_player_73 : decode cX6_player 73 = .ok (.aload_n 3, 1) := by decide +kernel
theorem dX6_player_74 : decode cX6_player 74 = .ok (.getfield 125, 3) := by decide +kernel
theorem dX6_player_77 : decode cX6_player 77 = .ok (.ireturn, 1) := by decide +kernel
theorem dX6_player_78 : decode cX6_player 78 = .ok (.aload_n 3, 1) := by decide +kernel
theorem dX6_player_79 : decode cX6_player 79 = .ok (.getfield 128, 3) := by decide +kernel
theorem dX6_player_82 : decode cX6_player 82 = .ok (.ireturn, 1) := by decide +kernel
theorem dX6_player_83 : decode cX6_player 83 = .ok (.aload_n 3, 1) := by decide +kernel
theorem dX6_player_84 : decode cX6_player 84 = .ok (.getfield 131, 3) := by decide +kernel
theorem dX6_player_87 : decode cX6_player 87 = .ok (.ireturn, 1) := by decide +kernel
theorem dX6_player_88 : decode cX6_player 88 = .ok (.aload_n 3, 1) := by decide +kernel
theorem dX6_player_89 : decode cX6_player 89 = .ok (.getfield 134, 3) := by decide +kernel
theorem dX6_player_92 : decode cX6_player 92 = .ok (.ireturn, 1) := by decide +kernel
theorem dX6_player_93 : decode cX6_player 93 = .ok (.aload_n 3, 1) := by decide +kernel
theorem dX6_player_94 : decode cX6_player 94 = .ok (.getfield 137, 3) := by decide +kernel
theorem dX6_player_97 : decode cX6_player 97 = .ok (.ireturn, 1) := by decide +kernel
theorem dX6_player_98 : decode cX6_player 98 = .ok (.aload_n 3, 1) := by decide +kernel
theorem dX6_player_99 : decode cX6_player 99 = .ok (.getfield 140, 3) := by decide +kernel
theorem dX6_player_102 : decode cX6_player 102 = .ok (.ireturn, 1) := by decide +kernel
theorem dX6_player_103 : decode cX6_player 103 = .ok (.aload_n 3, 1) := by decide +kernel
theorem dX6_player_104 : decode cX6_player 104 = .ok (.getfield 143, 3) := by decide +kernel
theorem dX6_player_107 : decode cX6_player 107 = .ok (.ireturn, 1) := by decide +kernel
theorem dX6_player_108 : decode cX6_player 108 = .ok (.bipush (-2), 2) := by decide +kernel
theorem dX6_player_110 : decode cX6_player 110 = .ok (.ireturn, 1) := by decide +kernel
def ch_wsX6_chalked : List (List Cond) := [[.code yX6_chalked cX6_chalked 3 (some .int)], [.fieldLink RX6 10 "TailorChalks" "game" "LTailorChalks$Game;", .methodLink RX6 112 yX1_isPlayer, .static yX1_isPlayer, .initialized RX1, .code yX1_isPlayer cX1_isPlayer 1 (some .boolean), .methodLink RX6 115 yX1_tailorOf, .instanceMethod yX1_tailorOf, .selects RX1 yX1_tailorOf yX1_tailorOf, .code yX1_tailorOf cX1_tailorOf 2 (some (.object "TailorChalks$Tailor")), .fieldLink RX1 21 "TailorChalks$Game" "tailorZero" "LTailorChalks$Tailor;", .fieldLink RX1 25 "TailorChalks$Game" "tailorOne" "LTailorChalks$Tailor;", .methodLink RX6 146 yX5_markAt, .instanceMethod yX5_markAt, .selects RX5 yX5_markAt yX5_markAt, .initialized RX5, .code yX5_markAt cX5_markAt 2 (some .int), .fieldLink RX5 19 "TailorChalks$Tailor" "marks" "I", .fieldLink RX5 11 "TailorChalks$Tailor" "marked" "[I"], wsX60, wsX10, wsX50]
set_option maxRecDepth 20000 in
theorem hf_wsX6_chalked : wsX6_chalked = (ch_wsX6_chalked).flatten := rfl
set_option maxRecDepth 20000 in
theorem hg_wsX6_chalked : (wsX6_chalked).all goodWord = true := by decide +kernel
set_option maxRecDepth 20000 in
theorem gX6_chalked_X1_isPlayer : GoodIn wsX6_chalked (va_wsS RX6 112 yX1_isPlayer wsX1_isPlayer) := goodIn_c ch_wsX6_chalked hf_wsX6_chalked hg_wsX6_chalked _ [(1, 1), (1, 2), (1, 3), (1, 4)] rfl
set_option maxRecDepth 20000 in
theorem gX6_chalked_X1_tailorOf : GoodIn wsX6_chalked (wsV RX6 115 RX1 yX1_tailorOf wsX1_tailorOf) := goodIn_c ch_wsX6_chalked hf_wsX6_chalked hg_wsX6_chalked _ [(1, 5), (1, 6), (1, 7), (1, 3), (1, 8), (1, 9), (1, 10), (3, 0), (3, 1), (3, 2), (3, 3), (3, 4)] rfl
set_option maxRecDepth 20000 in
theorem gX6_chalked_X5_markAt : GoodIn wsX6_chalked (wsV RX6 146 RX5 yX5_markAt wsX5_markAt) := goodIn_c ch_wsX6_chalked hf_wsX6_chalked hg_wsX6_chalked _ [(1, 11), (1, 12), (1, 13), (1, 14), (1, 15), (1, 16), (1, 17), (4, 0), (4, 1), (4, 2), (4, 3), (4, 4), (4, 5), (4, 6), (4, 7), (4, 8)] rfl
theorem dX6_chalked_0 : decode cX6_chalked 0 = .ok (.iload_n 1, 1) := by decide +kernel
theorem dX6_chalked_1 : decode cX6_chalked 1 = .ok (.invokestatic 112, 3) := by decide +kernel
theorem dX6_chalked_4 : decode cX6_chalked 4 = .ok (.ifCond .ne 5, 3) := by decide +kernel
theorem dX6_chalked_7 : decode cX6_chalked 7 = .ok (.iconst (-1), 1) := by decide +kernel
theorem dX6_chalked_8 : decode cX6_chalked 8 = .ok (.ireturn, 1) := by decide +kernel
theorem dX6_chalked_9 : decode cX6_chalked 9 = .ok (.aload_n 0, 1) := by decide +kernel
theorem dX6_chalked_10 : decode cX6_chalked 10 = .ok (.getfield 10, 3) := by decide +kernel
theorem dX6_chalked_13 : decode cX6_chalked 13 = .ok (.iload_n 1, 1) := by decide +kernel
theorem dX6_chalked_14 : decode cX6_chalked 14 = .ok (.invokevirtual 115, 3) := by decide +kernel
theorem dX6_chalked_17 : decode cX6_chalked 17 = .ok (.iload_n 2, 1) := by decide +kernel
theorem dX6_chalked_18 : decode cX6_chalked 18 = .ok (.invokevirtual 146, 3) := by decide +kernel
theorem dX6_chalked_21 : decode cX6_chalked 21 = .ok (.ireturn, 1) := by decide +kernel
def ch_wsX6_count : List (List Cond) := [[.code yX6_count cX6_count 2 (some .int)], wsX6_count_r1, wsX6_count_r2, wsX6_count_r3, wsX6_count_r4, wsX60, wsX10, wsX30, wsX20, wsX00, wsX50]
set_option maxRecDepth 20000 in
theorem hf_wsX6_count : wsX6_count = (ch_wsX6_count).flatten := rfl
set_option maxRecDepth 20000 in
theorem hg_wsX6_count : (wsX6_count).all goodWord = true := by decide +kernel
set_option maxRecDepth 20000 in
theorem gX6_count_X1_isOver : GoodIn wsX6_count (wsV RX6 155 RX1 yX1_isOver wsX1_isOver) := goodIn_c ch_wsX6_count hf_wsX6_count hg_wsX6_count _ [(1, 8), (1, 9), (1, 10), (1, 11), (1, 12), (1, 13), (1, 14), (1, 15), (1, 16), (1, 17), (1, 18), (1, 19), (1, 20), (1, 21), (1, 22), (1, 23), (2, 0), (2, 1), (2, 2), (2, 3), (6, 0), (6, 1), (6, 2), (6, 3), (6, 4), (9, 0), (9, 1), (9, 2), (9, 3), (9, 4)] rfl
set_option maxRecDepth 20000 in
theorem gX6_count_X6_asNumber : GoodIn wsX6_count (va_wsS RX6 71 yX6_asNumber wsX6_asNumber) := goodIn_c ch_wsX6_count hf_wsX6_count hg_wsX6_count _ [(2, 4), (2, 5), (2, 6), (2, 7)] rfl
set_option maxRecDepth 20000 in
theorem gX6_count_X1_winner : GoodIn wsX6_count (wsV RX6 159 RX1 yX1_winner wsX1_winner) := goodIn_c ch_wsX6_count hf_wsX6_count hg_wsX6_count _ [(2, 8), (2, 9), (2, 10), (1, 11), (2, 11), (2, 12), (2, 13), (2, 14), (2, 15), (1, 9), (1, 10), (1, 11), (1, 12), (1, 13), (1, 14), (1, 15), (1, 16), (1, 17), (1, 18), (1, 19), (1, 20), (1, 21), (1, 22), (1, 23), (2, 0), (2, 1), (2, 2), (2, 3), (6, 0), (6, 1), (6, 2), (6, 3), (6, 4), (10, 0), (10, 1), (10, 2), (10, 3), (10, 4), (10, 5), (10, 6), (10, 7), (10, 8), (9, 0), (9, 1), (9, 2), (9, 3), (9, 4)] rfl
set_option maxRecDepth 20000 in
theorem gX6_count_X0_cellsLeft : GoodIn wsX6_count (wsV RX6 163 RX0 yX0_cellsLeft wsX0_cellsLeft) := goodIn_c ch_wsX6_count hf_wsX6_count hg_wsX6_count _ [(2, 16), (1, 16), (1, 17), (1, 18), (1, 19), (1, 20), (1, 21), (1, 22), (1, 23), (2, 0), (2, 1), (2, 2), (2, 3), (9, 0), (9, 1), (9, 2), (9, 3), (9, 4)] rfl
set_option maxRecDepth 20000 in
theorem gX6_count_X0_pieces : GoodIn wsX6_count (wsV RX6 166 RX0 yX0_pieces wsX0_pieces) := goodIn_c ch_wsX6_count hf_wsX6_count hg_wsX6_count _ [(2, 17), (2, 18), (2, 19), (1, 18), (2, 20), (1, 20), (2, 21), (2, 22), (1, 18), (2, 23), (3, 0), (3, 1), (3, 2), (3, 3), (3, 4), (3, 5), (3, 6), (3, 7), (3, 8), (3, 9), (3, 10), (3, 11), (3, 12), (9, 0), (9, 1), (9, 2), (9, 3), (9, 4)] rfl
set_option maxRecDepth 20000 in
theorem gX6_count_X0_jointsThatAre : GoodIn wsX6_count (wsV RX6 169 RX0 yX0_jointsThatAre wsX0_jointsThatAre) := goodIn_c ch_wsX6_count hf_wsX6_count hg_wsX6_count _ [(3, 13), (3, 14), (3, 15), (1, 18), (3, 16), (3, 17), (3, 18), (3, 19), (3, 20), (1, 18), (3, 21), (1, 20), (3, 22), (3, 23), (4, 0), (4, 1), (4, 2), (4, 3), (2, 21), (2, 22), (2, 23), (9, 0), (9, 1), (9, 2), (9, 3), (9, 4)] rfl
