theorem dX1_dropMarks_13 : decode cX1_dropMarks 13 = .ok (.invokevirtual 135, 3) := by decide +kernel
theorem dX1_dropMarks_16 : decode cX1_dropMarks 16 = .ok (.return_, 1) := by decide +kernel
set_option maxRecDepth 20000 in
theorem ggX1_loseRag_X0_tearOff : GoodIn wsX1_loseRag wsX0_tearOff := goodIn_r _ [7, 8, 9, 10, 11, 62, 63, 64, 65, 66] rfl (by decide +kernel)
set_option maxRecDepth 20000 in
theorem gX1_loseRag_X0_tearOff : GoodIn wsX1_loseRag (wsV RX1 138 RX0 yX0_tearOff wsX0_tearOff) := goodIn_app (goodIn_of _ (by decide +kernel)) ggX1_loseRag_X0_tearOff
set_option maxRecDepth 20000 in
theorem ggX1_loseRag_X1_tailorOf : GoodIn wsX1_loseRag wsX1_tailorOf := goodIn_r _ [16, 17, 18, 57, 58, 59, 60, 61] rfl (by decide +kernel)
set_option maxRecDepth 20000 in
theorem gX1_loseRag_X1_tailorOf : GoodIn wsX1_loseRag (wsV RX1 91 RX1 yX1_tailorOf wsX1_tailorOf) := goodIn_app (goodIn_of _ (by decide +kernel)) ggX1_loseRag_X1_tailorOf
set_option maxRecDepth 20000 in
theorem ggX1_loseRag_J13_bitCount_95d88 : GoodIn wsX1_loseRag wsJ13_bitCount_95d88 := goodIn_r _ [22, 23, 24, 25] rfl (by decide +kernel)
set_option maxRecDepth 20000 in
theorem gX1_loseRag_J13_bitCount_95d88 : GoodIn wsX1_loseRag (va_wsS RX1 123 yJ13_bitCount_95d88 wsJ13_bitCount_95d88) := goodIn_app (goodIn_of _ (by decide +kernel)) ggX1_loseRag_J13_bitCount_95d88
set_option maxRecDepth 20000 in
theorem ggX1_loseRag_X5_winRag : GoodIn wsX1_loseRag wsX5_winRag := goodIn_r _ [30, 31, 32, 33, 67, 68, 69, 70, 71, 72, 73, 74, 75] rfl (by decide +kernel)
set_option maxRecDepth 20000 in
theorem gX1_loseRag_X5_winRag : GoodIn wsX1_loseRag (wsV RX1 141 RX5 yX5_winRag wsX5_winRag) := goodIn_app (goodIn_of _ (by decide +kernel)) ggX1_loseRag_X5_winRag
set_option maxRecDepth 20000 in
theorem ggX1_loseRag_X0_isVoid : GoodIn wsX1_loseRag wsX0_isVoid := goodIn_r _ [37, 8, 38, 39, 6, 40, 41, 42, 43, 44, 45, 46, 62, 63, 64, 65, 66] rfl (by decide +kernel)
set_option maxRecDepth 20000 in
theorem gX1_loseRag_X0_isVoid : GoodIn wsX1_loseRag (wsV RX1 57 RX0 yX0_isVoid wsX0_isVoid) := goodIn_app (goodIn_of _ (by decide +kernel)) ggX1_loseRag_X0_isVoid
set_option maxRecDepth 20000 in
theorem ggX1_loseRag_X1_dropMarks : GoodIn wsX1_loseRag wsX1_dropMarks := goodIn_r _ [50, 17, 18, 51, 52, 53, 29, 54, 55, 56, 57, 58, 59, 60, 61, 67, 68, 69, 70, 71, 72, 73, 74, 75] rfl (by decide +kernel)
set_option maxRecDepth 20000 in
theorem gX1_loseRag_X1_dropMarks : GoodIn wsX1_loseRag (wsV RX1 132 RX1 yX1_dropMarks wsX1_dropMarks) := goodIn_app (goodIn_of _ (by decide +kernel)) ggX1_loseRag_X1_dropMarks
theorem dX1_loseRag_0 : decode cX1_loseRag 0 = .ok (.aload_n 0, 1) := by decide +kernel
theorem dX1_loseRag_1 : decode cX1_loseRag 1 = .ok (.getfield 12, 3) := by decide +kernel
theorem dX1_loseRag_4 : decode cX1_loseRag 4 = .ok (.lload_n 1, 1) := by decide +kernel
theorem dX1_loseRag_5 : decode cX1_loseRag 5 = .ok (.invokevirtual 138, 3) := by decide +kernel
theorem dX1_loseRag_8 : decode cX1_loseRag 8 = .ok (.aload_n 0, 1) := by decide +kernel
theorem dX1_loseRag_9 : decode cX1_loseRag 9 = .ok (.aload_n 0, 1) := by decide +kernel
theorem dX1_loseRag_10 : decode cX1_loseRag 10 = .ok (.getfield 35, 3) := by decide +kernel
theorem dX1_loseRag_13 : decode cX1_loseRag 13 = .ok (.invokevirtual 91, 3) := by decide +kernel
theorem dX1_loseRag_16 : decode cX1_loseRag 16 = .ok (.lload_n 1, 1) := by decide +kernel
theorem dX1_loseRag_17 : decode cX1_loseRag 17 = .ok (.invokestatic 123, 3) := by decide +kernel
theorem dX1_loseRag_20 : decode cX1_loseRag 20 = .ok (.invokevirtual 141, 3) := by decide +kernel
theorem dX1_loseRag_23 : decode cX1_loseRag 23 = .ok (.iconst 0, 1) := by decide +kernel
theorem dX1_loseRag_24 : decode cX1_loseRag 24 = .ok (.istore_n 3, 1) := by decide +kernel
theorem dX1_loseRag_25 : decode cX1_loseRag 25 = .ok (.iload_n 3, 1) := by decide +kernel
theorem dX1_loseRag_26 : decode cX1_loseRag 26 = .ok (.bipush 82, 2) := by decide +kernel
theorem dX1_loseRag_28 : decode cX1_loseRag 28 = .ok (.if_icmp .ge 25, 3) := by decide +kernel
theorem dX1_loseRag_31 : decode cX1_loseRag 31 = .ok (.aload_n 0, 1) := by decide +kernel
theorem dX1_loseRag_32 : decode cX1_loseRag 32 = .ok (.getfield 12, 3) := by decide +kernel
theorem dX1_loseRag_35 : decode cX1_loseRag 35 = .ok (.iload_n 3, 1) := by decide +kernel
theorem dX1_loseRag_36 : decode cX1_loseRag 36 = .ok (.invokevirtual 57, 3) := by decide +kernel
theorem dX1_loseRag_39 : decode cX1_loseRag 39 = .ok (.ifCond .eq 8, 3) := by decide +kernel
theorem dX1_loseRag_42 : decode cX1_loseRag 42 = .ok (.aload_n 0, 1) := by decide +kernel
theorem dX1_loseRag_43 : decode cX1_loseRag 43 = .ok (.iload_n 3, 1) := by decide +kernel
theorem dX1_loseRag_44 : decode cX1_loseRag 44 = .ok (.invokevirtual 132, 3) := by decide +kernel
theorem dX1_loseRag_47 : decode cX1_loseRag 47 = .ok (.iinc 3 1, 3) := by decide +kernel
theorem dX1_loseRag_50 : decode cX1_loseRag 50 = .ok (.goto (-25), 3) := by decide +kernel
theorem dX1_loseRag_53 : decode cX1_loseRag 53 = .ok (.return_, 1) := by decide +kernel
set_option maxRecDepth 20000 in
theorem ggX1_sewJoint_X1_tailorOf : GoodIn wsX1_sewJoint wsX1_tailorOf := goodIn_r _ [8, 9, 10, 39, 40, 41, 42, 43] rfl (by decide +kernel)
set_option maxRecDepth 20000 in
theorem gX1_sewJoint_X1_tailorOf : GoodIn wsX1_sewJoint (wsV RX1 91 RX1 yX1_tailorOf wsX1_tailorOf) := goodIn_app (goodIn_of _ (by decide +kernel)) ggX1_sewJoint_X1_tailorOf
set_option maxRecDepth 20000 in
theorem ggX1_sewJoint_X0_stateOf : GoodIn wsX1_sewJoint wsX0_stateOf := goodIn_r _ [15, 16, 17, 18, 14, 19, 53, 54, 55, 56, 57] rfl (by decide +kernel)
set_option maxRecDepth 20000 in
theorem gX1_sewJoint_X0_stateOf : GoodIn wsX1_sewJoint (wsV RX1 64 RX0 yX0_stateOf wsX0_stateOf) := goodIn_app (goodIn_of _ (by decide +kernel)) ggX1_sewJoint_X0_stateOf
set_option maxRecDepth 20000 in
theorem ggX1_sewJoint_X0_make : GoodIn wsX1_sewJoint wsX0_make := goodIn_r _ [23, 16, 24, 25, 26, 27, 17, 18, 14, 19, 28, 29, 30, 31, 32, 33, 53, 54, 55, 56, 57] rfl (by decide +kernel)
set_option maxRecDepth 20000 in
theorem gX1_sewJoint_X0_make : GoodIn wsX1_sewJoint (wsV RX1 115 RX0 yX0_make wsX0_make) := goodIn_app (goodIn_of _ (by decide +kernel)) ggX1_sewJoint_X0_make
set_option maxRecDepth 20000 in
theorem ggX1_sewJoint_X1_endTurn : GoodIn wsX1_sewJoint wsX1_endTurn := goodIn_r _ [37, 38, 1, 39, 40, 41, 42, 43] rfl (by decide +kernel)
set_option maxRecDepth 20000 in
theorem gX1_sewJoint_X1_endTurn : GoodIn wsX1_sewJoint (wsV RX1 88 RX1 yX1_endTurn wsX1_endTurn) := goodIn_app (goodIn_of _ (by decide +kernel)) ggX1_sewJoint_X1_endTurn
theorem dX1_sewJoint_0 : decode cX1_sewJoint 0 = .ok (.aload_n 0, 1) := by decide +kernel
theorem dX1_sewJoint_1 : decode cX1_sewJoint 1 = .ok (.aload_n 0, 1) := by decide +kernel
theorem dX1_sewJoint_2 : decode cX1_sewJoint 2 = .ok (.getfield 35, 3) := by decide +kernel
theorem dX1_sewJoint_5 : decode cX1_sewJoint 5 = .ok (.invokevirtual 91, 3) := by decide +kernel
theorem dX1_sewJoint_8 : decode cX1_sewJoint 8 = .ok (.astore_n 2, 1) := by decide +kernel
theorem dX1_sewJoint_9 : decode cX1_sewJoint 9 = .ok (.aload_n 0, 1) := by decide +kernel
theorem dX1_sewJoint_10 : decode cX1_sewJoint 10 = .ok (.getfield 12, 3) := by decide +kernel
theorem dX1_sewJoint_13 : decode cX1_sewJoint 13 = .ok (.iload_n 1, 1) := by decide +kernel
theorem dX1_sewJoint_14 : decode cX1_sewJoint 14 = .ok (.invokevirtual 64, 3) := by decide +kernel
theorem dX1_sewJoint_17 : decode cX1_sewJoint 17 = .ok (.iconst 1, 1) := by decide +kernel
theorem dX1_sewJoint_18 : decode cX1_sewJoint 18 = .ok (.if_icmp .ne 10, 3) := by decide +kernel
theorem dX1_sewJoint_21 : decode cX1_sewJoint 21 = .ok (.aload_n 2, 1) := by decide +kernel
theorem dX1_sewJoint_22 : decode cX1_sewJoint 22 = .ok (.getfield 144, 3) := by decide +kernel
theorem dX1_sewJoint_25 : decode cX1_sewJoint 25 = .ok (.ifCond .ne 6, 3) := by decide +kernel
theorem dX1_sewJoint_28 : decode cX1_sewJoint 28 = .ok (.bipush (-5), 2) := by decide +kernel
theorem dX1_sewJoint_30 : decode cX1_sewJoint 30 = .ok (.ireturn, 1) := by decide +kernel
theorem dX1_sewJoint_31 : decode cX1_sewJoint 31 = .ok (.aload_n 2, 1) := by decide +kernel
theorem dX1_sewJoint_32 : decode cX1_sewJoint 32 = .ok (.dup, 1) := by decide +kernel
theorem dX1_sewJoint_33 : decode cX1_sewJoint 33 = .ok (.getfield 144, 3) := by decide +kernel
theorem dX1_sewJoint_36 : decode cX1_sewJoint 36 = .ok (.iconst 1, 1) := by decide +kernel
theorem dX1_sewJoint_37 : decode cX1_sewJoint 37 = .ok (.isub, 1) := by decide +kernel
theorem dX1_sewJoint_38 : decode cX1_sewJoint 38 = .ok (.putfield 144, 3) := by decide +kernel
theorem dX1_sewJoint_41 : decode cX1_sewJoint 41 = .ok (.aload_n 0, 1) := by decide +kernel
theorem dX1_sewJoint_42 : decode cX1_sewJoint 42 = .ok (.getfield 12, 3) := by decide +kernel
theorem dX1_sewJoint_45 : decode cX1_sewJoint 45 = .ok (.iload_n 1, 1) := by decide +kernel
theorem dX1_sewJoint_46 : decode cX1_sewJoint 46 = .ok (.iconst 2, 1) := by decide +kernel
theorem dX1_sewJoint_47 : decode cX1_sewJoint 47 = .ok (.aload_n 0, 1) := by decide +kernel
theorem dX1_sewJoint_48 : decode cX1_sewJoint 48 = .ok (.getfield 35, 3) := by decide +kernel
theorem dX1_sewJoint_51 : decode cX1_sewJoint 51 = .ok (.invokevirtual 115, 3) := by decide +kernel
theorem dX1_sewJoint_54 : decode cX1_sewJoint 54 = .ok (.aload_n 0, 1) := by decide +kernel
theorem dX1_sewJoint_55 : decode cX1_sewJoint 55 = .ok (.invokevirtual 88, 3) := by decide +kernel
theorem dX1_sewJoint_58 : decode cX1_sewJoint 58 = .ok (.aload_n 2, 1) := by decide +kernel
theorem dX1_sewJoint_59 : decode cX1_sewJoint 59 = .ok (.getfield 144, 3) := by decide +kernel
theorem dX1_sewJoint_62 : decode cX1_sewJoint 62 = .ok (.ireturn, 1) := by decide +kernel
set_option maxRecDepth 20000 in
theorem ggX1_bluffJoint_X0_stateOf : GoodIn wsX1_bluffJoint wsX0_stateOf := goodIn_r _ [7, 8, 9, 10, 6, 11, 49, 50, 51, 52, 53] rfl (by decide +kernel)
set_option maxRecDepth 20000 in
theorem gX1_bluffJoint_X0_stateOf : GoodIn wsX1_bluffJoint (wsV RX1 64 RX0 yX0_stateOf wsX0_stateOf) := goodIn_app (goodIn_of _ (by decide +kernel)) ggX1_bluffJoint_X0_stateOf
set_option maxRecDepth 20000 in
theorem ggX1_bluffJoint_X0_make : GoodIn wsX1_bluffJoint wsX0_make := goodIn_r _ [15, 8, 16, 17, 18, 19, 9, 10, 6, 11, 20, 21, 22, 23, 24, 25, 49, 50, 51, 52, 53] rfl (by decide +kernel)
set_option maxRecDepth 20000 in
theorem gX1_bluffJoint_X0_make : GoodIn wsX1_bluffJoint (wsV RX1 115 RX0 yX0_make wsX0_make) := goodIn_app (goodIn_of _ (by decide +kernel)) ggX1_bluffJoint_X0_make
set_option maxRecDepth 20000 in
theorem ggX1_bluffJoint_X1_endTurn : GoodIn wsX1_bluffJoint wsX1_endTurn := goodIn_r _ [30, 31, 2, 44, 45, 46, 47, 48] rfl (by decide +kernel)
set_option maxRecDepth 20000 in
theorem gX1_bluffJoint_X1_endTurn : GoodIn wsX1_bluffJoint (wsV RX1 88 RX1 yX1_endTurn wsX1_endTurn) := goodIn_app (goodIn_of _ (by decide +kernel)) ggX1_bluffJoint_X1_endTurn
set_option maxRecDepth 20000 in
theorem ggX1_bluffJoint_X0_jointsThatAre : GoodIn wsX1_bluffJoint wsX0_jointsThatAre := goodIn_r _ [35, 8, 36, 37, 38, 6, 39, 40, 23, 24, 25, 20, 21, 22, 41, 42, 43, 49, 50, 51, 52, 53] rfl (by decide +kernel)
set_option maxRecDepth 20000 in
theorem gX1_bluffJoint_X0_jointsThatAre : GoodIn wsX1_bluffJoint (wsV RX1 147 RX0 yX0_jointsThatAre wsX0_jointsThatAre) := goodIn_app (goodIn_of _ (by decide +kernel)) ggX1_bluffJoint_X0_jointsThatAre
theorem dX1_bluffJoint_0 : decode cX1_bluffJoint 0 = .ok (.aload_n 0, 1) := by decide +kernel
theorem dX1_bluffJoint_1 : decode cX1_bluffJoint 1 = .ok (.getfield 12, 3) := by decide +kernel
theorem dX1_bluffJoint_4 : decode cX1_bluffJoint 4 = .ok (.iload_n 1, 1) := by decide +kernel
theorem dX1_bluffJoint_5 : decode cX1_bluffJoint 5 = .ok (.invokevirtual 64, 3) := by decide +kernel
theorem dX1_bluffJoint_8 : decode cX1_bluffJoint 8 = .ok (.iconst 1, 1) := by decide +kernel
theorem dX1_bluffJoint_9 : decode cX1_bluffJoint 9 = .ok (.if_icmp .eq 6, 3) := by decide +kernel
theorem dX1_bluffJoint_12 : decode cX1_bluffJoint 12 = .ok (.bipush (-5), 2) := by decide +kernel
theorem dX1_bluffJoint_14 : decode cX1_bluffJoint 14 = .ok (.ireturn, 1) := by decide +kernel
theorem dX1_bluffJoint_15 : decode cX1_bluffJoint 15 = .ok (.aload_n 0, 1) := by decide +kernel
theorem dX1_bluffJoint_16 : decode cX1_bluffJoint 16 = .ok (.getfield 12, 3) := by decide +kernel
theorem dX1_bluffJoint_19 : decode cX1_bluffJoint 19 = .ok (.iload_n 1, 1) := by decide +kernel
theorem dX1_bluffJoint_20 : decode cX1_bluffJoint 20 = .ok (.iconst 3, 1) := by decide +kernel
theorem dX1_bluffJoint_21 : decode cX1_bluffJoint 21 = .ok (.aload_n 0, 1) := by decide +kernel
theorem dX1_bluffJoint_22 : decode cX1_bluffJoint 22 = .ok (.getfield 35, 3) := by decide +kernel
theorem dX1_bluffJoint_25 : decode cX1_bluffJoint 25 = .ok (.invokevirtual 115, 3) := by decide +kernel
theorem dX1_bluffJoint_28 : decode cX1_bluffJoint 28 = .ok (.aload_n 0, 1) := by decide +kernel
theorem dX1_bluffJoint_29 : decode cX1_bluffJoint 29 = .ok (.invokevirtual 88, 3) := by decide +kernel
theorem dX1_bluffJoint_32 : decode cX1_bluffJoint 32 = .ok (.aload_n 0, 1) := by decide +kernel
theorem dX1_bluffJoint_33 : decode cX1_bluffJoint 33 = .ok (.getfield 12, 3) := by decide +kernel
theorem dX1_bluffJoint_36 : decode cX1_bluffJoint 36 = .ok (.iconst 3, 1) := by decide +kernel
theorem dX1_bluffJoint_37 : decode cX1_bluffJoint 37 = .ok (.invokevirtual 147, 3) := by decide +kernel
theorem dX1_bluffJoint_40 : decode cX1_bluffJoint 40 = .ok (.ireturn, 1) := by decide +kernel
set_option maxRecDepth 20000 in
theorem ggX1_doubtJoint_X0_makerOf : GoodIn wsX1_doubtJoint wsX0_makerOf := goodIn_r _ [10, 11, 12, 13, 9, 14, 59, 60, 61, 62, 63] rfl (by decide +kernel)
set_option maxRecDepth 20000 in
theorem gX1_doubtJoint_X0_makerOf : GoodIn wsX1_doubtJoint (wsV RX1 60 RX0 yX0_makerOf wsX0_makerOf) := goodIn_app (goodIn_of _ (by decide +kernel)) ggX1_doubtJoint_X0_makerOf
set_option maxRecDepth 20000 in
theorem ggX1_doubtJoint_X0_stateOf : GoodIn wsX1_doubtJoint wsX0_stateOf := goodIn_r _ [18, 19, 12, 13, 9, 14, 59, 60, 61, 62, 63] rfl (by decide +kernel)
set_option maxRecDepth 20000 in
theorem gX1_doubtJoint_X0_stateOf : GoodIn wsX1_doubtJoint (wsV RX1 64 RX0 yX0_stateOf wsX0_stateOf) := goodIn_app (goodIn_of _ (by decide +kernel)) ggX1_doubtJoint_X0_stateOf
set_option maxRecDepth 20000 in
theorem ggX1_doubtJoint_X1_tailorOf : GoodIn wsX1_doubtJoint wsX1_tailorOf := goodIn_r _ [24, 25, 26, 45, 46, 47, 48, 49] rfl (by decide +kernel)
set_option maxRecDepth 20000 in
theorem gX1_doubtJoint_X1_tailorOf : GoodIn wsX1_doubtJoint (wsV RX1 91 RX1 yX1_tailorOf wsX1_tailorOf) := goodIn_app (goodIn_of _ (by decide +kernel)) ggX1_doubtJoint_X1_tailorOf
set_option maxRecDepth 20000 in
theorem ggX1_doubtJoint_X0_make : GoodIn wsX1_doubtJoint wsX0_make := goodIn_r _ [30, 19, 11, 31, 32, 33, 12, 13, 9, 14, 34, 35, 36, 37, 38, 39, 59, 60, 61, 62, 63] rfl (by decide +kernel)
set_option maxRecDepth 20000 in
theorem gX1_doubtJoint_X0_make : GoodIn wsX1_doubtJoint (wsV RX1 115 RX0 yX0_make wsX0_make) := goodIn_app (goodIn_of _ (by decide +kernel)) ggX1_doubtJoint_X0_make
set_option maxRecDepth 20000 in
theorem ggX1_doubtJoint_X1_endTurn : GoodIn wsX1_doubtJoint wsX1_endTurn := goodIn_r _ [43, 44, 2, 45, 46, 47, 48, 49] rfl (by decide +kernel)
set_option maxRecDepth 20000 in
theorem gX1_doubtJoint_X1_endTurn : GoodIn wsX1_doubtJoint (wsV RX1 88 RX1 yX1_endTurn wsX1_endTurn) := goodIn_app (goodIn_of _ (by decide +kernel)) ggX1_doubtJoint_X1_endTurn
theorem dX1_doubtJoint_0 : decode cX1_doubtJoint 0 = .ok (.aload_n 0, 1) := by decide +kernel
theorem dX1_doubtJoint_1 : decode cX1_doubtJoint 1 = .ok (.getfield 12, 3) := by decide +kernel
theorem dX1_doubtJoint_4 : decode cX1_doubtJoint 4 = .ok (.iload_n 1, 1) := by decide +kernel
theorem dX1_doubtJoint_5 : decode cX1_doubtJoint 5 = .ok (.invokevirtual 60, 3) := by decide +kernel
theorem dX1_doubtJoint_8 : decode cX1_doubtJoint 8 = .ok (.iconst 1, 1) := by decide +kernel
theorem dX1_doubtJoint_9 : decode cX1_doubtJoint 9 = .ok (.aload_n 0, 1) := by decide +kernel
theorem dX1_doubtJoint_10 : decode cX1_doubtJoint 10 = .ok (.getfield 35, 3) := by decide +kernel
theorem dX1_doubtJoint_13 : decode cX1_doubtJoint 13 = .ok (.isub, 1) := by decide +kernel
theorem dX1_doubtJoint_14 : decode cX1_doubtJoint 14 = .ok (.if_icmp .eq 6, 3) := by decide +kernel
theorem dX1_doubtJoint_17 : decode cX1_doubtJoint 17 = .ok (.bipush (-5), 2) := by decide +kernel
theorem dX1_doubtJoint_19 : decode cX1_doubtJoint 19 = .ok (.ireturn, 1) := by decide +kernel
theorem dX1_doubtJoint_20 : decode cX1_doubtJoint 20 = .ok (.aload_n 0, 1) := by decide +kernel
theorem dX1_doubtJoint_21 : decode cX1_doubtJoint 21 = .ok (.getfield 12, 3) := by decide +kernel
theorem dX1_doubtJoint_24 : decode cX1_doubtJoint 24 = .ok (.iload_n 1, 1) := by decide +kernel
theorem dX1_doubtJoint_25 : decode cX1_doubtJoint 25 = .ok (.invokevirtual 64, 3) := by decide +kernel
theorem dX1_doubtJoint_28 : decode cX1_doubtJoint 28 = .ok (.iconst 3, 1) := by decide +kernel
theorem dX1_doubtJoint_29 : decode cX1_doubtJoint 29 = .ok (.if_icmp .ne 7, 3) := by decide +kernel
theorem dX1_doubtJoint_32 : decode cX1_doubtJoint 32 = .ok (.iconst 1, 1) := by decide +kernel
theorem dX1_doubtJoint_33 : decode cX1_doubtJoint 33 = .ok (.goto 4, 3) := by decide +kernel
theorem dX1_doubtJoint_36 : decode cX1_doubtJoint 36 = .ok (.iconst 0, 1) := by decide +kernel
theorem dX1_doubtJoint_37 : decode cX1_doubtJoint 37 = .ok (.istore_n 2, 1) := by decide +kernel
theorem dX1_doubtJoint_38 : decode cX1_doubtJoint 38 = .ok (.aload_n 0, 1) := by decide +kernel
theorem dX1_doubtJoint_39 : decode cX1_doubtJoint 39 = .ok (.aload_n 0, 1) := by decide +kernel
theorem dX1_doubtJoint_40 : decode cX1_doubtJoint 40 = .ok (.getfield 35, 3) := by decide +kernel
theorem dX1_doubtJoint_43 : decode cX1_doubtJoint 43 = .ok (.invokevirtual 91, 3) := by decide +kernel
theorem dX1_doubtJoint_46 : decode cX1_doubtJoint 46 = .ok (.astore_n 3, 1) := by decide +kernel
theorem dX1_doubtJoint_47 : decode cX1_doubtJoint 47 = .ok (.iload_n 2, 1) := by decide +kernel
theorem dX1_doubtJoint_48 : decode cX1_doubtJoint 48 = .ok (.ifCond .eq 26, 3) := by decide +kernel
theorem dX1_doubtJoint_51 : decode cX1_doubtJoint 51 = .ok (.aload_n 3, 1) := by decide +kernel
theorem dX1_doubtJoint_52 : decode cX1_doubtJoint 52 = .ok (.dup, 1) := by decide +kernel
theorem dX1_doubtJoint_53 : decode cX1_doubtJoint 53 = .ok (.getfield 50, 3) := by decide +kernel
theorem dX1_doubtJoint_56 : decode cX1_doubtJoint 56 = .ok (.iconst 2, 1) := by decide +kernel
theorem dX1_doubtJoint_57 : decode cX1_doubtJoint 57 = .ok (.iadd, 1) := by decide +kernel
theorem dX1_doubtJoint_58 : decode cX1_doubtJoint 58 = .ok (.putfield 50, 3) := by decide +kernel
theorem dX1_doubtJoint_61 : decode cX1_doubtJoint 61 = .ok (.aload_n 3, 1) := by decide +kernel
theorem dX1_doubtJoint_62 : decode cX1_doubtJoint 62 = .ok (.dup, 1) := by decide +kernel
theorem dX1_doubtJoint_63 : decode cX1_doubtJoint 63 = .ok (.getfield 150, 3) := by decide +kernel
theorem dX1_doubtJoint_66 : decode cX1_doubtJoint 66 = .ok (.iconst 1, 1) := by decide +kernel
theorem dX1_doubtJoint_67 : decode cX1_doubtJoint 67 = .ok (.iadd, 1) := by decide +kernel
theorem dX1_doubtJoint_68 : decode cX1_doubtJoint 68 = .ok (.putfield 150, 3) := by decide +kernel
theorem dX1_doubtJoint_71 : decode cX1_doubtJoint 71 = .ok (.goto 23, 3) := by decide +kernel
theorem dX1_doubtJoint_74 : decode cX1_doubtJoint 74 = .ok (.aload_n 3, 1) := by decide +kernel
theorem dX1_doubtJoint_75 : decode cX1_doubtJoint 75 = .ok (.dup, 1) := by decide +kernel
theorem dX1_doubtJoint_76 : decode cX1_doubtJoint 76 = .ok (.getfield 50, 3) := by decide +kernel
theorem dX1_doubtJoint_79 : decode cX1_doubtJoint 79 = .ok (.iconst 2, 1) := by decide +kernel
theorem dX1_doubtJoint_80 : decode cX1_doubtJoint 80 = .ok (.isub, 1) := by decide +kernel
theorem dX1_doubtJoint_81 : decode cX1_doubtJoint 81 = .ok (.putfield 50, 3) := by decide +kernel
theorem dX1_doubtJoint_84 : decode cX1_doubtJoint 84 = .ok (.aload_n 3, 1) := by decide +kernel
theorem dX1_doubtJoint_85 : decode cX1_doubtJoint 85 = .ok (.dup, 1) := by decide +kernel
theorem dX1_doubtJoint_86 : decode cX1_doubtJoint 86 = .ok (.getfield 153, 3) := by decide +kernel
theorem dX1_doubtJoint_89 : decode cX1_doubtJoint 89 = .ok (.iconst 1, 1) := by decide +kernel
theorem dX1_doubtJoint_90 : decode cX1_doubtJoint 90 = .ok (.iadd, 1) := by decide +kernel
theorem dX1_doubtJoint_91 : decode cX1_doubtJoint 91 = .ok (.putfield 153, 3) := by decide +kernel
theorem dX1_doubtJoint_94 : decode cX1_doubtJoint 94 = .ok (.aload_n 0, 1) := by decide +kernel
theorem dX1_doubtJoint_95 : decode cX1_doubtJoint 95 = .ok (.getfield 12, 3) := by decide +kernel
theorem dX1_doubtJoint_98 : decode cX1_doubtJoint 98 = .ok (.iload_n 1, 1) := by decide +kernel
theorem dX1_doubtJoint_99 : decode cX1_doubtJoint 99 = .ok (.iload_n 2, 1) := by decide +kernel
theorem dX1_doubtJoint_100 : decode cX1_doubtJoint 100 = .ok (.ifCond .eq 7, 3) := by decide +kernel
theorem dX1_doubtJoint_103 : decode cX1_doubtJoint 103 = .ok (.iconst 1, 1) := by decide +kernel
theorem dX1_doubtJoint_104 : decode cX1_doubtJoint 104 = .ok (.goto 4, 3) := by decide +kernel
theorem dX1_doubtJoint_107 : decode cX1_doubtJoint 107 = .ok (.iconst 2, 1) := by decide +kernel
theorem dX1_doubtJoint_108 : decode cX1_doubtJoint 108 = .ok (.bipush (-6), 2) := by decide +kernel
theorem dX1_doubtJoint_110 : decode cX1_doubtJoint 110 = .ok (.invokevirtual 115, 3) := by decide +kernel
theorem dX1_doubtJoint_113 : decode cX1_doubtJoint 113 = .ok (.aload_n 0, 1) := by decide +kernel
theorem dX1_doubtJoint_114 : decode cX1_doubtJoint 114 = .ok (.invokevirtual 88, 3) := by decide +kernel
theorem dX1_doubtJoint_117 : decode cX1_doubtJoint 117 = .ok (.iload_n 2, 1) := by decide +kernel
theorem dX1_doubtJoint_118 : decode cX1_doubtJoint 118 = .ok (.ifCond .eq 7, 3) := by decide +kernel
theorem dX1_doubtJoint_121 : decode cX1_doubtJoint 121 = .ok (.iconst 1, 1) := by decide +kernel
theorem dX1_doubtJoint_122 : decode cX1_doubtJoint 122 = .ok (.goto 4, 3) := by decide +kernel
theorem dX1_doubtJoint_125 : decode cX1_doubtJoint 125 = .ok (.iconst 0, 1) := by decide +kernel
theorem dX1_doubtJoint_126 : decode cX1_doubtJoint 126 = .ok (.ireturn, 1) := by decide +kernel
set_option maxRecDepth 20000 in
theorem ggX1_openGain_X1_tailorOf : GoodIn wsX1_openGain wsX1_tailorOf := goodIn_r _ [7, 8, 9, 48, 49, 50, 51, 52] rfl (by decide +kernel)
set_option maxRecDepth 20000 in
theorem gX1_openGain_X1_tailorOf : GoodIn wsX1_openGain (wsV RX1 91 RX1 yX1_tailorOf wsX1_tailorOf) := goodIn_app (goodIn_of _ (by decide +kernel)) ggX1_openGain_X1_tailorOf
set_option maxRecDepth 20000 in
theorem ggX1_openGain_X5_hasMark : GoodIn wsX1_openGain wsX5_hasMark := goodIn_r _ [14, 15, 16, 53, 54, 55, 56, 57, 58, 59, 60, 61] rfl (by decide +kernel)
set_option maxRecDepth 20000 in
theorem gX1_openGain_X5_hasMark : GoodIn wsX1_openGain (wsV RX1 53 RX5 yX5_hasMark wsX5_hasMark) := goodIn_app (goodIn_of _ (by decide +kernel)) ggX1_openGain_X5_hasMark
set_option maxRecDepth 20000 in
theorem ggX1_openGain_X0_ragOf : GoodIn wsX1_openGain wsX0_ragOf := goodIn_r _ [21, 22, 23, 24, 25, 26, 20, 27, 28, 29, 30, 31, 32, 33, 34, 35, 36, 37, 38, 39, 40, 41, 42, 43, 44, 45, 46, 62, 63, 64, 65, 66] rfl (by decide +kernel)
set_option maxRecDepth 20000 in
theorem gX1_openGain_X0_ragOf : GoodIn wsX1_openGain (wsV RX1 111 RX0 yX0_ragOf wsX0_ragOf) := goodIn_app (goodIn_of _ (by decide +kernel)) ggX1_openGain_X0_ragOf
set_option maxRecDepth 20000 in
theorem ggX1_openGain_J13_bitCount_95d88 : GoodIn wsX1_openGain wsJ13_bitCount_95d88 := goodIn_r _ [43, 44, 45, 46] rfl (by decide +kernel)
set_option maxRecDepth 20000 in
theorem gX1_openGain_J13_bitCount_95d88 : GoodIn wsX1_openGain (va_wsS RX1 123 yJ13_bitCount_95d88 wsJ13_bitCount_95d88) := goodIn_app (goodIn_of _ (by decide +kernel)) ggX1_openGain_J13_bitCount_95d88
theorem dX1_openGain_0 : decode cX1_openGain 0 = .ok (.aload_n 0, 1) := by decide +kernel
theorem dX1_openGain_1 : decode cX1_openGain 1 = .ok (.aload_n 0, 1) := by decide +kernel
theorem dX1_openGain_2 : decode cX1_openGain 2 = .ok (.getfield 35, 3) := by decide +kernel
theorem dX1_openGain_5 : decode cX1_openGain 5 = .ok (.invokevirtual 91, 3) := by decide +kernel
theorem dX1_openGain_8 : decode cX1_openGain 8 = .ok (.iload_n 1, 1) := by decide +kernel
theorem dX1_openGain_9 : decode cX1_openGain 9 = .ok (.invokevirtual 53, 3) := by decide +kernel
theorem dX1_openGain_12 : decode cX1_openGain 12 = .ok (.ifCond .eq 7, 3) := by decide +kernel
theorem dX1_openGain_15 : decode cX1_openGain 15 = .ok (.iconst 1, 1) := by decide +kernel
theorem dX1_openGain_16 : decode cX1_openGain 16 = .ok (.goto 4, 3) := by decide +kernel
theorem dX1_openGain_19 : decode cX1_openGain 19 = .ok (.iconst 0, 1) := by decide +kernel
theorem dX1_openGain_20 : decode cX1_openGain 20 = .ok (.istore_n 2, 1) := by decide +kernel
theorem dX1_openGain_21 : decode cX1_openGain 21 = .ok (.aload_n 0, 1) := by decide +kernel
theorem dX1_openGain_22 : decode cX1_openGain 22 = .ok (.getfield 12, 3) := by decide +kernel
theorem dX1_openGain_25 : decode cX1_openGain 25 = .ok (.iload_n 1, 1) := by decide +kernel
theorem dX1_openGain_26 : decode cX1_openGain 26 = .ok (.invokevirtual 111, 3) := by decide +kernel
theorem dX1_openGain_29 : decode cX1_openGain 29 = .ok (.invokestatic 123, 3) := by decide +kernel
theorem dX1_openGain_32 : decode cX1_openGain 32 = .ok (.iload_n 2, 1) := by decide +kernel
theorem dX1_openGain_33 : decode cX1_openGain 33 = .ok (.iadd, 1) := by decide +kernel
theorem dX1_openGain_34 : decode cX1_openGain 34 = .ok (.ireturn, 1) := by decide +kernel
set_option maxRecDepth 20000 in
theorem ggX1_bestJoint_X1_whyNoSnip : GoodIn wsX1_bestJoint wsX1_whyNoSnip := goodIn_r _ [5, 6, 7, 8, 9, 4, 10, 11, 12, 13, 14, 15, 16, 17, 18, 19, 20, 21, 22, 23, 24, 25, 26, 27, 28, 29, 30, 31, 32, 33, 34, 35, 36, 37, 38, 39, 40, 41, 42, 43, 44, 45, 78, 79, 80, 81, 82, 83, 84, 85, 86, 87] rfl (by decide +kernel)
set_option maxRecDepth 20000 in
theorem gX1_bestJoint_X1_whyNoSnip : GoodIn wsX1_bestJoint (wsV RX1 104 RX1 yX1_whyNoSnip wsX1_whyNoSnip) := goodIn_app (goodIn_of _ (by decide +kernel)) ggX1_bestJoint_X1_whyNoSnip
set_option maxRecDepth 20000 in
theorem ggX1_bestJoint_X1_openGain : GoodIn wsX1_bestJoint wsX1_openGain := goodIn_r _ [49, 50, 6, 51, 52, 53, 4, 54, 55, 56, 57, 58, 59, 60, 61, 62, 63, 64, 65, 66, 15, 67, 68, 69, 70, 32, 33, 34, 29, 30, 31, 71, 72, 73, 74, 75, 76, 35, 36, 37, 18, 19, 20, 21, 22, 23, 24, 77, 78, 79, 80, 81, 82, 88, 89, 90, 91, 92, 93, 94, 95, 96, 83, 84, 85, 86, 87] rfl (by decide +kernel)
set_option maxRecDepth 20000 in
theorem gX1_bestJoint_X1_openGain : GoodIn wsX1_bestJoint (wsV RX1 156 RX1 yX1_openGain wsX1_openGain) := goodIn_app (goodIn_of _ (by decide +kernel)) ggX1_bestJoint_X1_openGain
theorem dX1_bestJoint_0 : decode cX1_bestJoint 0 = .ok (.bipush (-6), 2) := by decide +kernel
theorem dX1_bestJoint_2 : decode cX1_bestJoint 2 = .ok (.istore_n 1, 1) := by decide +kernel
theorem dX1_bestJoint_3 : decode cX1_bestJoint 3 = .ok (.iconst (-1), 1) := by decide +kernel
theorem dX1_bestJoint_4 : decode cX1_bestJoint 4 = .ok (.istore_n 2, 1) := by decide +kernel
theorem dX1_bestJoint_5 : decode cX1_bestJoint 5 = .ok (.iconst 0, 1) := by decide +kernel
theorem dX1_bestJoint_6 : decode cX1_bestJoint 6 = .ok (.istore_n 3, 1) := by decide +kernel
theorem dX1_bestJoint_7 : decode cX1_bestJoint 7 = .ok (.iload_n 3, 1) := by decide +kernel
theorem dX1_bestJoint_8 : decode cX1_bestJoint 8 = .ok (.bipush 82, 2) := by decide +kernel
theorem dX1_bestJoint_10 : decode cX1_bestJoint 10 = .ok (.if_icmp .ge 39, 3) := by decide +kernel
theorem dX1_bestJoint_13 : decode cX1_bestJoint 13 = .ok (.aload_n 0, 1) := by decide +kernel
theorem dX1_bestJoint_14 : decode cX1_bestJoint 14 = .ok (.iload_n 3, 1) := by decide +kernel
theorem dX1_bestJoint_15 : decode cX1_bestJoint 15 = .ok (.invokevirtual 104, 3) := by decide +kernel
theorem dX1_bestJoint_18 : decode cX1_bestJoint 18 = .ok (.ifCond .ne 11, 3) := by decide +kernel
theorem dX1_bestJoint_21 : decode cX1_bestJoint 21 = .ok (.aload_n 0, 1) := by decide +kernel
theorem dX1_bestJoint_22 : decode cX1_bestJoint 22 = .ok (.iload_n 3, 1) := by decide +kernel
theorem dX1_bestJoint_23 : decode cX1_bestJoint 23 = .ok (.invokevirtual 156, 3) := by decide +kernel
theorem dX1_bestJoint_26 : decode cX1_bestJoint 26 = .ok (.goto 4, 3) := by decide +kernel
theorem dX1_bestJoint_29 : decode cX1_bestJoint 29 = .ok (.iconst (-1), 1) := by decide +kernel
theorem dX1_bestJoint_30 : decode cX1_bestJoint 30 = .ok (.istore 4, 2) := by decide +kernel
theorem dX1_bestJoint_32 : decode cX1_bestJoint 32 = .ok (.iload 4, 2) := by decide +kernel
theorem dX1_bestJoint_34 : decode cX1_bestJoint 34 = .ok (.iload_n 2, 1) := by decide +kernel
theorem dX1_bestJoint_35 : decode cX1_bestJoint 35 = .ok (.if_icmp .le 8, 3) := by decide +kernel
theorem dX1_bestJoint_38 : decode cX1_bestJoint 38 = .ok (.iload 4, 2) := by decide +kernel
theorem dX1_bestJoint_40 : decode cX1_bestJoint 40 = .ok (.istore_n 2, 1) := by decide +kernel
theorem dX1_bestJoint_41 : decode cX1_bestJoint 41 = .ok (.iload_n 3, 1) := by decide +kernel
theorem dX1_bestJoint_42 : decode cX1_bestJoint 42 = .ok (.istore_n 1, 1) := by decide +kernel
theorem dX1_bestJoint_43 : decode cX1_bestJoint 43 = .ok (.iinc 3 1, 3) := by decide +kernel
theorem dX1_bestJoint_46 : decode cX1_bestJoint 46 = .ok (.goto (-39), 3) := by decide +kernel
theorem dX1_bestJoint_49 : decode cX1_bestJoint 49 = .ok (.iload_n 1, 1) := by decide +kernel
theorem dX1_bestJoint_50 : decode cX1_bestJoint 50 = .ok (.ireturn, 1) := by decide +kernel
set_option maxRecDepth 20000 in
theorem ggX2_init_X1_init : GoodIn wsX2_init wsX1_init := goodIn_r _ [11, 12, 2, 3, 13, 14, 15, 16, 17, 18, 19, 20, 21, 22, 23, 24, 25, 26, 27, 28, 29, 30, 31, 32, 33, 34, 35, 36, 37, 38, 39, 40, 41, 42, 43, 44, 45, 46, 47, 48, 49, 50, 59, 60, 61, 62, 63, 54, 55, 56, 57, 58, 64, 65, 66, 67, 68, 69, 70, 71, 72] rfl (by decide +kernel)
set_option maxRecDepth 20000 in
theorem gX2_init_X1_init : GoodIn wsX2_init (wsX1_init) := ggX2_init_X1_init
theorem dX2_init_0 : decode cX2_init 0 = .ok (.aload_n 0, 1) := by decide +kernel
theorem dX2_init_1 : decode cX2_init 1 = .ok (.invokespecial 3, 3) := by decide +kernel
theorem dX2_init_4 : decode cX2_init 4 = .ok (.aload_n 0, 1) := by decide +kernel
theorem dX2_init_5 : decode cX2_init 5 = .ok (.bipush 6, 2) := by decide +kernel
theorem dX2_init_7 : decode cX2_init 7 = .ok (.anewarray 11, 3) := by decide +kernel
theorem dX2_init_10 : decode cX2_init 10 = .ok (.putfield 13, 3) := by decide +kernel
theorem dX2_init_13 : decode cX2_init 13 = .ok (.iconst 0, 1) := by decide +kernel
theorem dX2_init_14 : decode cX2_init 14 = .ok (.istore_n 1, 1) := by decide +kernel
theorem dX2_init_15 : decode cX2_init 15 = .ok (.iload_n 1, 1) := by decide +kernel
theorem dX2_init_16 : decode cX2_init 16 = .ok (.bipush 6, 2) := by decide +kernel
theorem dX2_init_18 : decode cX2_init 18 = .ok (.if_icmp .ge 22, 3) := by decide +kernel
theorem dX2_init_21 : decode cX2_init 21 = .ok (.aload_n 0, 1) := by decide +kernel
theorem dX2_init_22 : decode cX2_init 22 = .ok (.getfield 13, 3) := by decide +kernel
theorem dX2_init_25 : decode cX2_init 25 = .ok (.iload_n 1, 1) := by decide +kernel
theorem dX2_init_26 : decode cX2_init 26 = .ok (.new 11, 3) := by decide +kernel
theorem dX2_init_29 : decode cX2_init 29 = .ok (.dup, 1) := by decide +kernel
theorem dX2_init_30 : decode cX2_init 30 = .ok (.invokespecial 17, 3) := by decide +kernel
theorem dX2_init_33 : decode cX2_init 33 = .ok (.aastore, 1) := by decide +kernel
theorem dX2_init_34 : decode cX2_init 34 = .ok (.iinc 1 1, 3) := by decide +kernel
theorem dX2_init_37 : decode cX2_init 37 = .ok (.goto (-22), 3) := by decide +kernel
theorem dX2_init_40 : decode cX2_init 40 = .ok (.aload_n 0, 1) := by decide +kernel
theorem dX2_init_41 : decode cX2_init 41 = .ok (.new 11, 3) := by decide +kernel
theorem dX2_init_44 : decode cX2_init 44 = .ok (.dup, 1) := by decide +kernel
theorem dX2_init_45 : decode cX2_init 45 = .ok (.invokespecial 17, 3) := by decide +kernel
theorem dX2_init_48 : decode cX2_init 48 = .ok (.putfield 18, 3) := by decide +kernel
theorem dX2_init_51 : decode cX2_init 51 = .ok (.return_, 1) := by decide +kernel
set_option maxRecDepth 20000 in
theorem ggX2_note_X1_become : GoodIn wsX2_note wsX1_become := goodIn_r _ [6, 7, 8, 9, 10, 11, 12, 13, 14, 15, 16, 17, 18, 19, 20, 21, 22, 23, 24, 25, 26, 27, 28, 29, 30, 31, 32, 33, 34, 35, 39, 40, 41, 42, 43, 44, 45, 46, 47, 48, 49, 50, 51, 52, 53, 54, 55, 56, 57] rfl (by decide +kernel)
set_option maxRecDepth 20000 in
theorem gX2_note_X1_become : GoodIn wsX2_note (wsV RX2 22 RX1 yX1_become wsX1_become) := goodIn_app (goodIn_of _ (by decide +kernel)) ggX2_note_X1_become
theorem dX2_note_0 : decode cX2_note 0 = .ok (.aload_n 0, 1) := by decide +kernel
theorem dX2_note_1 : decode cX2_note 1 = .ok (.getfield 18, 3) := by decide +kernel
theorem dX2_note_4 : decode cX2_note 4 = .ok (.aload_n 1, 1) := by decide +kernel
theorem dX2_note_5 : decode cX2_note 5 = .ok (.invokevirtual 22, 3) := by decide +kernel
theorem dX2_note_8 : decode cX2_note 8 = .ok (.return_, 1) := by decide +kernel
set_option maxRecDepth 20000 in
theorem ggX2_keepNoted_X2_dropOldest : GoodIn wsX2_keepNoted wsX2_dropOldest := goodIn_r _ [8, 2, 1, 9, 10, 11] rfl (by decide +kernel)
set_option maxRecDepth 20000 in
theorem gX2_keepNoted_X2_dropOldest : GoodIn wsX2_keepNoted (wsV RX2 30 RX2 yX2_dropOldest wsX2_dropOldest) := goodIn_app (goodIn_of _ (by decide +kernel)) ggX2_keepNoted_X2_dropOldest
theorem dX2_keepNoted_0 : decode cX2_keepNoted 0 = .ok (.aload_n 0, 1) := by decide +kernel
theorem dX2_keepNoted_1 : decode cX2_keepNoted 1 = .ok (.getfield 26, 3) := by decide +kernel
theorem dX2_keepNoted_4 : decode cX2_keepNoted 4 = .ok (.bipush 6, 2) := by decide +kernel
theorem dX2_keepNoted_6 : decode cX2_keepNoted 6 = .ok (.if_icmp .lt 7, 3) := by decide +kernel
theorem dX2_keepNoted_9 : decode cX2_keepNoted 9 = .ok (.aload_n 0, 1) := by decide +kernel
theorem dX2_keepNoted_10 : decode cX2_keepNoted 10 = .ok (.invokevirtual 30, 3) := by decide +kernel
theorem dX2_keepNoted_13 : decode cX2_keepNoted 13 = .ok (.aload_n 0, 1) := by decide +kernel
theorem dX2_keepNoted_14 : decode cX2_keepNoted 14 = .ok (.getfield 13, 3) := by decide +kernel
theorem dX2_keepNoted_17 : decode cX2_keepNoted 17 = .ok (.aload_n 0, 1) := by decide +kernel
theorem dX2_keepNoted_18 : decode cX2_keepNoted 18 = .ok (.getfield 26, 3) := by decide +kernel
theorem dX2_keepNoted_21 : decode cX2_keepNoted 21 = .ok (.aaload, 1) := by decide +kernel
theorem dX2_keepNoted_22 : decode cX2_keepNoted 22 = .ok (.astore_n 1, 1) := by decide +kernel
theorem dX2_keepNoted_23 : decode cX2_keepNoted 23 = .ok (.aload_n 0, 1) := by decide +kernel
theorem dX2_keepNoted_24 : decode cX2_keepNoted 24 = .ok (.getfield 13, 3) := by decide +kernel
theorem dX2_keepNoted_27 : decode cX2_keepNoted 27 = .ok (.aload_n 0, 1) := by decide +kernel
theorem dX2_keepNoted_28 : decode cX2_keepNoted 28 = .ok (.getfield 26, 3) := by decide +kernel
theorem dX2_keepNoted_31 : decode cX2_keepNoted 31 = .ok (.aload_n 0, 1) := by decide +kernel
theorem dX2_keepNoted_32 : decode cX2_keepNoted 32 = .ok (.getfield 18, 3) := by decide +kernel
theorem dX2_keepNoted_35 : decode cX2_keepNoted 35 = .ok (.aastore, 1) := by decide +kernel
theorem dX2_keepNoted_36 : decode cX2_keepNoted 36 = .ok (.aload_n 0, 1) := by decide +kernel
theorem dX2_keepNoted_37 : decode cX2_keepNoted 37 = .ok (.aload_n 1, 1) := by decide +kernel
theorem dX2_keepNoted_38 : decode cX2_keepNoted 38 = .ok (.putfield 18, 3) := by decide +kernel
theorem dX2_keepNoted_41 : decode cX2_keepNoted 41 = .ok (.aload_n 0, 1) := by decide +kernel
theorem dX2_keepNoted_42 : decode cX2_keepNoted 42 = .ok (.dup, 1) := by decide +kernel
theorem dX2_keepNoted_43 : decode cX2_keepNoted 43 = .ok (.getfield 26, 3) := by decide +kernel
theorem dX2_keepNoted_46 : decode cX2_keepNoted 46 = .ok (.iconst 1, 1) := by decide +kernel
theorem dX2_keepNoted_47 : decode cX2_keepNoted 47 = .ok (.iadd, 1) := by decide +kernel
theorem dX2_keepNoted_48 : decode cX2_keepNoted 48 = .ok (.putfield 26, 3) := by decide +kernel
theorem dX2_keepNoted_51 : decode cX2_keepNoted 51 = .ok (.return_, 1) := by decide +kernel
theorem dX2_dropOldest_0 : decode cX2_dropOldest 0 = .ok (.aload_n 0, 1) := by decide +kernel
theorem dX2_dropOldest_1 : decode cX2_dropOldest 1 = .ok (.getfield 13, 3) := by decide +kernel
theorem dX2_dropOldest_4 : decode cX2_dropOldest 4 = .ok (.iconst 0, 1) := by decide +kernel
theorem dX2_dropOldest_5 : decode cX2_dropOldest 5 = .ok (.aaload, 1) := by decide +kernel
theorem dX2_dropOldest_6 : decode cX2_dropOldest 6 = .ok (.astore_n 1, 1) := by decide +kernel
theorem dX2_dropOldest_7 : decode cX2_dropOldest 7 = .ok (.iconst 1, 1) := by decide +kernel
theorem dX2_dropOldest_8 : decode cX2_dropOldest 8 = .ok (.istore_n 2, 1) := by decide +kernel
theorem dX2_dropOldest_9 : decode cX2_dropOldest 9 = .ok (.iload_n 2, 1) := by decide +kernel
theorem dX2_dropOldest_10 : decode cX2_dropOldest 10 = .ok (.bipush 6, 2) := by decide +kernel
theorem dX2_dropOldest_12 : decode cX2_dropOldest 12 = .ok (.if_icmp .ge 23, 3) := by decide +kernel
theorem dX2_dropOldest_15 : decode cX2_dropOldest 15 = .ok (.aload_n 0, 1) := by decide +kernel
theorem dX2_dropOldest_16 : decode cX2_dropOldest 16 = .ok (.getfield 13, 3) := by decide +kernel
theorem dX2_dropOldest_19 : decode cX2_dropOldest 19 = .ok (.iload_n 2, 1) := by decide +kernel
theorem dX2_dropOldest_20 : decode cX2_dropOldest 20 = .ok (.iconst 1, 1) := by decide +kernel
theorem dX2_dropOldest_21 : decode cX2_dropOldest 21 = .ok (.isub, 1) := by decide +kernel
theorem dX2_dropOldest_22 : decode cX2_dropOldest 22 = .ok (.aload_n 0, 1) := by decide +kernel
theorem dX2_dropOldest_23 : decode cX2_dropOldest 23 = .ok (.getfield 13, 3) := by decide +kernel
theorem dX2_dropOldest_26 : decode cX2_dropOldest 26 = .ok (.iload_n 2, 1) := by decide +kernel
theorem dX2_dropOldest_27 : decode cX2_dropOldest 27 = .ok (.aaload, 1) := by decide +kernel
theorem dX2_dropOldest_28 : decode cX2_dropOldest 28 = .ok (.aastore, 1) := by decide +kernel
theorem dX2_dropOldest_29 : decode cX2_dropOldest 29 = .ok (.iinc 2 1, 3) := by decide +kernel
theorem dX2_dropOldest_32 : decode cX2_dropOldest 32 = .ok (.goto (-23), 3) := by decide +kernel
theorem dX2_dropOldest_35 : decode cX2_dropOldest 35 = .ok (.aload_n 0, 1) := by decide +kernel
theorem dX2_dropOldest_36 : decode cX2_dropOldest 36 = .ok (.getfield 13, 3) := by decide +kernel
theorem dX2_dropOldest_39 : decode cX2_dropOldest 39 = .ok (.iconst 5, 1) := by decide +kernel
theorem dX2_dropOldest_40 : decode cX2_dropOldest 40 = .ok (.aload_n 1, 1) := by decide +kernel
theorem dX2_dropOldest_41 : decode cX2_dropOldest 41 = .ok (.aastore, 1) := by decide +kernel
theorem dX2_dropOldest_42 : decode cX2_dropOldest 42 = .ok (.aload_n 0, 1) := by decide +kernel
theorem dX2_dropOldest_43 : decode cX2_dropOldest 43 = .ok (.iconst 5, 1) := by decide +kernel
theorem dX2_dropOldest_44 : decode cX2_dropOldest 44 = .ok (.putfield 26, 3) := by decide +kernel
theorem dX2_dropOldest_47 : decode cX2_dropOldest 47 = .ok (.return_, 1) := by decide +kernel
set_option maxRecDepth 20000 in
theorem ggX2_goBack_X1_become : GoodIn wsX2_goBack wsX1_become := goodIn_r _ [7, 8, 9, 10, 11, 12, 13, 14, 15, 16, 17, 18, 19, 20, 21, 22, 23, 24, 25, 26, 27, 28, 29, 30, 31, 32, 33, 34, 35, 36, 40, 41, 42, 43, 44, 45, 46, 47, 48, 49, 50, 51, 52, 53, 54, 55, 56, 57, 58] rfl (by decide +kernel)
set_option maxRecDepth 20000 in
theorem gX2_goBack_X1_become : GoodIn wsX2_goBack (wsV RX2 22 RX1 yX1_become wsX1_become) := goodIn_app (goodIn_of _ (by decide +kernel)) ggX2_goBack_X1_become
theorem dX2_goBack_0 : decode cX2_goBack 0 = .ok (.aload_n 0, 1) := by decide +kernel
theorem dX2_goBack_1 : decode cX2_goBack 1 = .ok (.getfield 26, 3) := by decide +kernel
theorem dX2_goBack_4 : decode cX2_goBack 4 = .ok (.ifCond .gt 6, 3) := by decide +kernel
theorem dX2_goBack_7 : decode cX2_goBack 7 = .ok (.bipush (-5), 2) := by decide +kernel
theorem dX2_goBack_9 : decode cX2_goBack 9 = .ok (.ireturn, 1) := by decide +kernel
theorem dX2_goBack_10 : decode cX2_goBack 10 = .ok (.aload_n 0, 1) := by decide +kernel
theorem dX2_goBack_11 : decode cX2_goBack 11 = .ok (.dup, 1) := by decide +kernel
theorem dX2_goBack_12 : decode cX2_goBack 12 = .ok (.getfield 26, 3) := by decide +kernel
theorem dX2_goBack_15 : decode cX2_goBack 15 = .ok (.iconst 1, 1) := by decide +kernel
theorem dX2_goBack_16 : decode cX2_goBack 16 = .ok (.isub, 1) := by decide +kernel
theorem dX2_goBack_17 : decode cX2_goBack 17 = .ok (.putfield 26, 3) := by decide +kernel
theorem dX2_goBack_20 : decode cX2_goBack 20 = .ok (.aload_n 1, 1) := by decide +kernel
theorem dX2_goBack_21 : decode cX2_goBack 21 = .ok (.aload_n 0, 1) := by decide +kernel
theorem dX2_goBack_22 : decode cX2_goBack 22 = .ok (.getfield 13, 3) := by decide +kernel
theorem dX2_goBack_25 : decode cX2_goBack 25 = .ok (.aload_n 0, 1) := by decide +kernel
theorem dX2_goBack_26 : decode cX2_goBack 26 = .ok (.getfield 26, 3) := by decide +kernel
theorem dX2_goBack_29 : decode cX2_goBack 29 = .ok (.aaload, 1) := by decide +kernel
theorem dX2_goBack_30 : decode cX2_goBack 30 = .ok (.invokevirtual 22, 3) := by decide +kernel
theorem dX2_goBack_33 : decode cX2_goBack 33 = .ok (.aload_n 0, 1) := by decide +kernel
theorem dX2_goBack_34 : decode cX2_goBack 34 = .ok (.getfield 26, 3) := by decide +kernel
theorem dX2_goBack_37 : decode cX2_goBack 37 = .ok (.ireturn, 1) := by decide +kernel
theorem dX3_init_0 : decode cX3_init 0 = .ok (.aload_n 0, 1) := by decide +kernel
theorem dX3_init_1 : decode cX3_init 1 = .ok (.invokespecial 3, 3) := by decide +kernel
theorem dX3_init_4 : decode cX3_init 4 = .ok (.aload_n 0, 1) := by decide +kernel
theorem dX3_init_5 : decode cX3_init 5 = .ok (.bipush 80, 2) := by decide +kernel
theorem dX3_init_7 : decode cX3_init 7 = .ok (.newarray .char, 2) := by decide +kernel
theorem dX3_init_9 : decode cX3_init 9 = .ok (.putfield 11, 3) := by decide +kernel
theorem dX3_init_12 : decode cX3_init 12 = .ok (.return_, 1) := by decide +kernel
set_option maxRecDepth 20000 in
theorem ggX3_append_X3_charactersIn : GoodIn wsX3_append wsX3_charactersIn := goodIn_r _ [7, 3, 8, 9] rfl (by decide +kernel)
set_option maxRecDepth 20000 in
theorem gX3_append_X3_charactersIn : GoodIn wsX3_append (va_wsS RX3 15 yX3_charactersIn wsX3_charactersIn) := goodIn_app (goodIn_of _ (by decide +kernel)) ggX3_append_X3_charactersIn
theorem dX3_append_0 : decode cX3_append 0 = .ok (.lload_n 1, 1) := by decide +kernel
theorem dX3_append_1 : decode cX3_append 1 = .ok (.invokestatic 15, 3) := by decide +kernel
theorem dX3_append_4 : decode cX3_append 4 = .ok (.istore_n 3, 1) := by decide +kernel
theorem dX3_append_5 : decode cX3_append 5 = .ok (.iload_n 3, 1) := by decide +kernel
theorem dX3_append_6 : decode cX3_append 6 = .ok (.ifCond .ne 6, 3) := by decide +kernel
theorem dX3_append_9 : decode cX3_append 9 = .ok (.bipush (-2), 2) := by decide +kernel
theorem dX3_append_11 : decode cX3_append 11 = .ok (.ireturn, 1) := by decide +kernel
theorem dX3_append_12 : decode cX3_append 12 = .ok (.iload_n 3, 1) := by decide +kernel
theorem dX3_append_13 : decode cX3_append 13 = .ok (.bipush 80, 2) := by decide +kernel
theorem dX3_append_15 : decode cX3_append 15 = .ok (.aload_n 0, 1) := by decide +kernel
theorem dX3_append_16 : decode cX3_append 16 = .ok (.getfield 19, 3) := by decide +kernel
theorem dX3_append_19 : decode cX3_append 19 = .ok (.isub, 1) := by decide +kernel
theorem dX3_append_20 : decode cX3_append 20 = .ok (.if_icmp .le 6, 3) := by decide +kernel
theorem dX3_append_23 : decode cX3_append 23 = .ok (.bipush (-4), 2) := by decide +kernel
theorem dX3_append_25 : decode cX3_append 25 = .ok (.ireturn, 1) := by decide +kernel
theorem dX3_append_26 : decode cX3_append 26 = .ok (.iload_n 3, 1) := by decide +kernel
theorem dX3_append_27 : decode cX3_append 27 = .ok (.iconst 1, 1) := by decide +kernel
theorem dX3_append_28 : decode cX3_append 28 = .ok (.isub, 1) := by decide +kernel
theorem dX3_append_29 : decode cX3_append 29 = .ok (.istore 4, 2) := by decide +kernel
theorem dX3_append_31 : decode cX3_append 31 = .ok (.iload 4, 2) := by decide +kernel
theorem dX3_append_33 : decode cX3_append 33 = .ok (.ifCond .lt 41, 3) := by decide +kernel
theorem dX3_append_36 : decode cX3_append 36 = .ok (.aload_n 0, 1) := by decide +kernel
theorem dX3_append_37 : decode cX3_append 37 = .ok (.getfield 11, 3) := by decide +kernel
theorem dX3_append_40 : decode cX3_append 40 = .ok (.aload_n 0, 1) := by decide +kernel
theorem dX3_append_41 : decode cX3_append 41 = .ok (.getfield 19, 3) := by decide +kernel
theorem dX3_append_44 : decode cX3_append 44 = .ok (.lload_n 1, 1) := by decide +kernel
theorem dX3_append_45 : decode cX3_append 45 = .ok (.bipush 8, 2) := by decide +kernel
theorem dX3_append_47 : decode cX3_append 47 = .ok (.iload 4, 2) := by decide +kernel
theorem dX3_append_49 : decode cX3_append 49 = .ok (.imul, 1) := by decide +kernel
theorem dX3_append_50 : decode cX3_append 50 = .ok (.lushr, 1) := by decide +kernel
theorem dX3_append_51 : decode cX3_append 51 = .ok (.ldc2_w 23, 3) := by decide +kernel
theorem dX3_append_54 : decode cX3_append 54 = .ok (.land, 1) := by decide +kernel
theorem dX3_append_55 : decode cX3_append 55 = .ok (.l2i, 1) := by decide +kernel
theorem dX3_append_56 : decode cX3_append 56 = .ok (.i2c, 1) := by decide +kernel
theorem dX3_append_57 : decode cX3_append 57 = .ok (.castore, 1) := by decide +kernel
theorem dX3_append_58 : decode cX3_append 58 = .ok (.aload_n 0, 1) := by decide +kernel
theorem dX3_append_59 : decode cX3_append 59 = .ok (.dup, 1) := by decide +kernel
theorem dX3_append_60 : decode cX3_append 60 = .ok (.getfield 19, 3) := by decide +kernel
theorem dX3_append_63 : decode cX3_append 63 = .ok (.iconst 1, 1) := by decide +kernel
theorem dX3_append_64 : decode cX3_append 64 = .ok (.iadd, 1) := by decide +kernel
theorem dX3_append_65 : decode cX3_append 65 = .ok (.putfield 19, 3) := by decide +kernel
theorem dX3_append_68 : decode cX3_append 68 = .ok (.iinc 4 (-1), 3) := by decide +kernel
theorem dX3_append_71 : decode cX3_append 71 = .ok (.goto (-40), 3) := by decide +kernel
theorem dX3_append_74 : decode cX3_append 74 = .ok (.aload_n 0, 1) := by decide +kernel
theorem dX3_append_75 : decode cX3_append 75 = .ok (.getfield 19, 3) := by decide +kernel
theorem dX3_append_78 : decode cX3_append 78 = .ok (.ireturn, 1) := by decide +kernel
theorem dX3_charactersIn_0 : decode cX3_charactersIn 0 = .ok (.iconst 0, 1) := by decide +kernel
theorem dX3_charactersIn_1 : decode cX3_charactersIn 1 = .ok (.istore_n 2, 1) := by decide +kernel
theorem dX3_charactersIn_2 : decode cX3_charactersIn 2 = .ok (.lload_n 0, 1) := by decide +kernel
theorem dX3_charactersIn_3 : decode cX3_charactersIn 3 = .ok (.lstore_n 3, 1) := by decide +kernel
theorem dX3_charactersIn_4 : decode cX3_charactersIn 4 = .ok (.lload_n 3, 1) := by decide +kernel
theorem dX3_charactersIn_5 : decode cX3_charactersIn 5 = .ok (.lconst 0, 1) := by decide +kernel
theorem dX3_charactersIn_6 : decode cX3_charactersIn 6 = .ok (.lcmp, 1) := by decide +kernel
theorem dX3_charactersIn_7 : decode cX3_charactersIn 7 = .ok (.ifCond .eq 47, 3) := by decide +kernel
theorem dX3_charactersIn_10 : decode cX3_charactersIn 10 = .ok (.iload_n 2, 1) := by decide +kernel
theorem dX3_charactersIn_11 : decode cX3_charactersIn 11 = .ok (.bipush 8, 2) := by decide +kernel
theorem dX3_charactersIn_13 : decode cX3_charactersIn 13 = .ok (.if_icmp .ge 41, 3) := by decide +kernel
theorem dX3_charactersIn_16 : decode cX3_charactersIn 16 = .ok (.lload_n 3, 1) := by decide +kernel
theorem dX3_charactersIn_17 : decode cX3_charactersIn 17 = .ok (.ldc2_w 23, 3) := by decide +kernel
theorem dX3_charactersIn_20 : decode cX3_charactersIn 20 = .ok (.land, 1) := by decide +kernel
theorem dX3_charactersIn_21 : decode cX3_charactersIn 21 = .ok (.lstore 5, 2) := by decide +kernel
theorem dX3_charactersIn_23 : decode cX3_charactersIn 23 = .ok (.lload 5, 2) := by decide +kernel
theorem dX3_charactersIn_25 : decode cX3_charactersIn 25 = .ok (.ldc2_w 25, 3) := by decide +kernel
theorem dX3_charactersIn_28 : decode cX3_charactersIn 28 = .ok (.lcmp, 1) := by decide +kernel
theorem dX3_charactersIn_29 : decode cX3_charactersIn 29 = .ok (.ifCond .lt 12, 3) := by decide +kernel
theorem dX3_charactersIn_32 : decode cX3_charactersIn 32 = .ok (.lload 5, 2) := by decide +kernel
theorem dX3_charactersIn_34 : decode cX3_charactersIn 34 = .ok (.ldc2_w 27, 3) := by decide +kernel
theorem dX3_charactersIn_37 : decode cX3_charactersIn 37 = .ok (.lcmp, 1) := by decide +kernel
theorem dX3_charactersIn_38 : decode cX3_charactersIn 38 = .ok (.ifCond .le 5, 3) := by decide +kernel
theorem dX3_charactersIn_41 : decode cX3_charactersIn 41 = .ok (.iconst 0, 1) := by decide +kernel
theorem dX3_charactersIn_42 : decode cX3_charactersIn 42 = .ok (.ireturn, 1) := by decide +kernel
theorem dX3_charactersIn_43 : decode cX3_charactersIn 43 = .ok (.iinc 2 1, 3) := by decide +kernel
theorem dX3_charactersIn_46 : decode cX3_charactersIn 46 = .ok (.lload_n 3, 1) := by decide +kernel
theorem dX3_charactersIn_47 : decode cX3_charactersIn 47 = .ok (.bipush 8, 2) := by decide +kernel
theorem dX3_charactersIn_49 : decode cX3_charactersIn 49 = .ok (.lushr, 1) := by decide +kernel
theorem dX3_charactersIn_50 : decode cX3_charactersIn 50 = .ok (.lstore_n 3, 1) := by decide +kernel
theorem dX3_charactersIn_51 : decode cX3_charactersIn 51 = .ok (.goto (-47), 3) := by decide +kernel
theorem dX3_charactersIn_54 : decode cX3_charactersIn 54 = .ok (.iload_n 2, 1) := by decide +kernel
theorem dX3_charactersIn_55 : decode cX3_charactersIn 55 = .ok (.ireturn, 1) := by decide +kernel
theorem dX3_clear_0 : decode cX3_clear 0 = .ok (.aload_n 0, 1) := by decide +kernel
theorem dX3_clear_1 : decode cX3_clear 1 = .ok (.getfield 19, 3) := by decide +kernel
theorem dX3_clear_4 : decode cX3_clear 4 = .ok (.istore_n 1, 1) := by decide +kernel
theorem dX3_clear_5 : decode cX3_clear 5 = .ok (.aload_n 0, 1) := by decide +kernel
theorem dX3_clear_6 : decode cX3_clear 6 = .ok (.iconst 0, 1) := by decide +kernel
theorem dX3_clear_7 : decode cX3_clear 7 = .ok (.putfield 19, 3) := by decide +kernel
theorem dX3_clear_10 : decode cX3_clear 10 = .ok (.iload_n 1, 1) := by decide +kernel
theorem dX3_clear_11 : decode cX3_clear 11 = .ok (.ireturn, 1) := by decide +kernel
theorem dX3_signAt_0 : decode cX3_signAt 0 = .ok (.iload_n 1, 1) := by decide +kernel
theorem dX3_signAt_1 : decode cX3_signAt 1 = .ok (.ifCond .lt 20, 3) := by decide +kernel
theorem dX3_signAt_4 : decode cX3_signAt 4 = .ok (.iload_n 1, 1) := by decide +kernel
theorem dX3_signAt_5 : decode cX3_signAt 5 = .ok (.aload_n 0, 1) := by decide +kernel
theorem dX3_signAt_6 : decode cX3_signAt 6 = .ok (.getfield 19, 3) := by decide +kernel
theorem dX3_signAt_9 : decode cX3_signAt 9 = .ok (.if_icmp .ge 12, 3) := by decide +kernel
theorem dX3_signAt_12 : decode cX3_signAt 12 = .ok (.aload_n 0, 1) := by decide +kernel
theorem dX3_signAt_13 : decode cX3_signAt 13 = .ok (.getfield 11, 3) := by decide +kernel
theorem dX3_signAt_16 : decode cX3_signAt 16 = .ok (.iload_n 1, 1) := by decide +kernel
theorem dX3_signAt_17 : decode cX3_signAt 17 = .ok (.caload, 1) := by decide +kernel
theorem dX3_signAt_18 : decode cX3_signAt 18 = .ok (.goto 5, 3) := by decide +kernel
theorem dX3_signAt_21 : decode cX3_signAt 21 = .ok (.bipush 59, 2) := by decide +kernel
theorem dX3_signAt_23 : decode cX3_signAt 23 = .ok (.ireturn, 1) := by decide +kernel
theorem dX3_isDigit_0 : decode cX3_isDigit 0 = .ok (.iload_n 0, 1) := by decide +kernel
theorem dX3_isDigit_1 : decode cX3_isDigit 1 = .ok (.bipush 48, 2) := by decide +kernel
theorem dX3_isDigit_3 : decode cX3_isDigit 3 = .ok (.if_icmp .lt 13, 3) := by decide +kernel
theorem dX3_isDigit_6 : decode cX3_isDigit 6 = .ok (.iload_n 0, 1) := by decide +kernel
theorem dX3_isDigit_7 : decode cX3_isDigit 7 = .ok (.bipush 57, 2) := by decide +kernel
theorem dX3_isDigit_9 : decode cX3_isDigit 9 = .ok (.if_icmp .gt 7, 3) := by decide +kernel
theorem dX3_isDigit_12 : decode cX3_isDigit 12 = .ok (.iconst 1, 1) := by decide +kernel
theorem dX3_isDigit_13 : decode cX3_isDigit 13 = .ok (.goto 4, 3) := by decide +kernel
theorem dX3_isDigit_16 : decode cX3_isDigit 16 = .ok (.iconst 0, 1) := by decide +kernel
theorem dX3_isDigit_17 : decode cX3_isDigit 17 = .ok (.ireturn, 1) := by decide +kernel
set_option maxRecDepth 20000 in
theorem ggX3_firstFault_X3_placeBehind : GoodIn wsX3_firstFault wsX3_placeBehind := goodIn_r _ [6, 7, 8, 5, 9, 10, 11, 12] rfl (by decide +kernel)
set_option maxRecDepth 20000 in
theorem gX3_firstFault_X3_placeBehind : GoodIn wsX3_firstFault (va_wsS RX3 29 yX3_placeBehind wsX3_placeBehind) := goodIn_app (goodIn_of _ (by decide +kernel)) ggX3_firstFault_X3_placeBehind
theorem dX3_firstFault_0 : decode cX3_firstFault 0 = .ok (.iconst 0, 1) := by decide +kernel
theorem dX3_firstFault_1 : decode cX3_firstFault 1 = .ok (.istore_n 1, 1) := by decide +kernel
theorem dX3_firstFault_2 : decode cX3_firstFault 2 = .ok (.iconst 0, 1) := by decide +kernel
theorem dX3_firstFault_3 : decode cX3_firstFault 3 = .ok (.istore_n 2, 1) := by decide +kernel
theorem dX3_firstFault_4 : decode cX3_firstFault 4 = .ok (.iload_n 2, 1) := by decide +kernel
theorem dX3_firstFault_5 : decode cX3_firstFault 5 = .ok (.aload_n 0, 1) := by decide +kernel
theorem dX3_firstFault_6 : decode cX3_firstFault 6 = .ok (.getfield 19, 3) := by decide +kernel
theorem dX3_firstFault_9 : decode cX3_firstFault 9 = .ok (.if_icmp .ge 27, 3) := by decide +kernel
theorem dX3_firstFault_12 : decode cX3_firstFault 12 = .ok (.iload_n 1, 1) := by decide +kernel
theorem dX3_firstFault_13 : decode cX3_firstFault 13 = .ok (.aload_n 0, 1) := by decide +kernel
theorem dX3_firstFault_14 : decode cX3_firstFault 14 = .ok (.getfield 11, 3) := by decide +kernel
theorem dX3_firstFault_17 : decode cX3_firstFault 17 = .ok (.iload_n 2, 1) := by decide +kernel
theorem dX3_firstFault_18 : decode cX3_firstFault 18 = .ok (.caload, 1) := by decide +kernel
theorem dX3_firstFault_19 : decode cX3_firstFault 19 = .ok (.invokestatic 29, 3) := by decide +kernel
theorem dX3_firstFault_22 : decode cX3_firstFault 22 = .ok (.istore_n 1, 1) := by decide +kernel
theorem dX3_firstFault_23 : decode cX3_firstFault 23 = .ok (.iload_n 1, 1) := by decide +kernel
theorem dX3_firstFault_24 : decode cX3_firstFault 24 = .ok (.iconst 4, 1) := by decide +kernel
theorem dX3_firstFault_25 : decode cX3_firstFault 25 = .ok (.if_icmp .ne 5, 3) := by decide +kernel
theorem dX3_firstFault_28 : decode cX3_firstFault 28 = .ok (.iload_n 2, 1) := by decide +kernel
theorem dX3_firstFault_29 : decode cX3_firstFault 29 = .ok (.ireturn, 1) := by decide +kernel
theorem dX3_firstFault_30 : decode cX3_firstFault 30 = .ok (.iinc 2 1, 3) := by decide +kernel
theorem dX3_firstFault_33 : decode cX3_firstFault 33 = .ok (.goto (-29), 3) := by decide +kernel
theorem dX3_firstFault_36 : decode cX3_firstFault 36 = .ok (.iload_n 1, 1) := by decide +kernel
theorem dX3_firstFault_37 : decode cX3_firstFault 37 = .ok (.iconst 2, 1) := by decide +kernel
theorem dX3_firstFault_38 : decode cX3_firstFault 38 = .ok (.if_icmp .eq 8, 3) := by decide +kernel
theorem dX3_firstFault_41 : decode cX3_firstFault 41 = .ok (.iload_n 1, 1) := by decide +kernel
theorem dX3_firstFault_42 : decode cX3_firstFault 42 = .ok (.iconst 3, 1) := by decide +kernel
theorem dX3_firstFault_43 : decode cX3_firstFault 43 = .ok (.if_icmp .ne 8, 3) := by decide +kernel
theorem dX3_firstFault_46 : decode cX3_firstFault 46 = .ok (.bipush (-6), 2) := by decide +kernel
theorem dX3_firstFault_48 : decode cX3_firstFault 48 = .ok (.goto 7, 3) := by decide +kernel
theorem dX3_firstFault_51 : decode cX3_firstFault 51 = .ok (.aload_n 0, 1) := by decide +kernel
theorem dX3_firstFault_52 : decode cX3_firstFault 52 = .ok (.getfield 19, 3) := by decide +kernel
theorem dX3_firstFault_55 : decode cX3_firstFault 55 = .ok (.ireturn, 1) := by decide +kernel
set_option maxRecDepth 20000 in
theorem ggX3_placeBehind_X3_placeBehindOrder : GoodIn wsX3_placeBehind wsX3_placeBehindOrder := goodIn_r _ [4] rfl (by decide +kernel)
set_option maxRecDepth 20000 in
theorem gX3_placeBehind_X3_placeBehindOrder : GoodIn wsX3_placeBehind (va_wsS RX3 33 yX3_placeBehindOrder wsX3_placeBehindOrder) := goodIn_app (goodIn_of _ (by decide +kernel)) ggX3_placeBehind_X3_placeBehindOrder
set_option maxRecDepth 20000 in
theorem ggX3_placeBehind_X3_isDigit : GoodIn wsX3_placeBehind wsX3_isDigit := goodIn_r _ [7] rfl (by decide +kernel)
set_option maxRecDepth 20000 in
theorem gX3_placeBehind_X3_isDigit : GoodIn wsX3_placeBehind (va_wsS RX3 37 yX3_isDigit wsX3_isDigit) := goodIn_app (goodIn_of _ (by decide +kernel)) ggX3_placeBehind_X3_isDigit
theorem dX3_placeBehind_0 : decode cX3_placeBehind 0 = .ok (.iload_n 0, 1) := by decide +kernel
theorem dX3_placeBehind_1 : decode cX3_placeBehind 1 = .ok (.ifCond .ne 8, 3) := by decide +kernel
theorem dX3_placeBehind_4 : decode cX3_placeBehind 4 = .ok (.iload_n 1, 1) := by decide +kernel
theorem dX3_placeBehind_5 : decode cX3_placeBehind 5 = .ok (.invokestatic 33, 3) := by decide +kernel
theorem dX3_placeBehind_8 : decode cX3_placeBehind 8 = .ok (.ireturn, 1) := by decide +kernel
theorem dX3_placeBehind_9 : decode cX3_placeBehind 9 = .ok (.iload_n 0, 1) := by decide +kernel
theorem dX3_placeBehind_10 : decode cX3_placeBehind 10 = .ok (.iconst 1, 1) := by decide +kernel
theorem dX3_placeBehind_11 : decode cX3_placeBehind 11 = .ok (.if_icmp .ne 22, 3) := by decide +kernel
theorem dX3_placeBehind_14 : decode cX3_placeBehind 14 = .ok (.iload_n 1, 1) := by decide +kernel
theorem dX3_placeBehind_15 : decode cX3_placeBehind 15 = .ok (.invokestatic 37, 3) := by decide +kernel
theorem dX3_placeBehind_18 : decode cX3_placeBehind 18 = .ok (.ifCond .eq 15, 3) := by decide +kernel
theorem dX3_placeBehind_21 : decode cX3_placeBehind 21 = .ok (.iload_n 1, 1) := by decide +kernel
theorem dX3_placeBehind_22 : decode cX3_placeBehind 22 = .ok (.bipush 48, 2) := by decide +kernel
theorem dX3_placeBehind_24 : decode cX3_placeBehind 24 = .ok (.if_icmp .ne 7, 3) := by decide +kernel
theorem dX3_placeBehind_27 : decode cX3_placeBehind 27 = .ok (.iconst 3, 1) := by decide +kernel
theorem dX3_placeBehind_28 : decode cX3_placeBehind 28 = .ok (.goto 4, 3) := by decide +kernel
theorem dX3_placeBehind_31 : decode cX3_placeBehind 31 = .ok (.iconst 2, 1) := by decide +kernel
theorem dX3_placeBehind_32 : decode cX3_placeBehind 32 = .ok (.ireturn, 1) := by decide +kernel
theorem dX3_placeBehind_33 : decode cX3_placeBehind 33 = .ok (.iload_n 0, 1) := by decide +kernel
theorem dX3_placeBehind_34 : decode cX3_placeBehind 34 = .ok (.iconst 2, 1) := by decide +kernel
theorem dX3_placeBehind_35 : decode cX3_placeBehind 35 = .ok (.if_icmp .ne 12, 3) := by decide +kernel
theorem dX3_placeBehind_38 : decode cX3_placeBehind 38 = .ok (.iload_n 1, 1) := by decide +kernel
theorem dX3_placeBehind_39 : decode cX3_placeBehind 39 = .ok (.invokestatic 37, 3) := by decide +kernel
theorem dX3_placeBehind_42 : decode cX3_placeBehind 42 = .ok (.ifCond .eq 5, 3) := by decide +kernel
theorem dX3_placeBehind_45 : decode cX3_placeBehind 45 = .ok (.iconst 3, 1) := by decide +kernel
theorem dX3_placeBehind_46 : decode cX3_placeBehind 46 = .ok (.ireturn, 1) := by decide +kernel
theorem dX3_placeBehind_47 : decode cX3_placeBehind 47 = .ok (.iload_n 0, 1) := by decide +kernel
theorem dX3_placeBehind_48 : decode cX3_placeBehind 48 = .ok (.iconst 2, 1) := by decide +kernel
theorem dX3_placeBehind_49 : decode cX3_placeBehind 49 = .ok (.if_icmp .eq 8, 3) := by decide +kernel
theorem dX3_placeBehind_52 : decode cX3_placeBehind 52 = .ok (.iload_n 0, 1) := by decide +kernel
theorem dX3_placeBehind_53 : decode cX3_placeBehind 53 = .ok (.iconst 3, 1) := by decide +kernel
theorem dX3_placeBehind_54 : decode cX3_placeBehind 54 = .ok (.if_icmp .ne 7, 3) := by decide +kernel
theorem dX3_placeBehind_57 : decode cX3_placeBehind 57 = .ok (.iconst 1, 1) := by decide +kernel
theorem dX3_placeBehind_58 : decode cX3_placeBehind 58 = .ok (.goto 4, 3) := by decide +kernel
theorem dX3_placeBehind_61 : decode cX3_placeBehind 61 = .ok (.iconst 0, 1) := by decide +kernel
theorem dX3_placeBehind_62 : decode cX3_placeBehind 62 = .ok (.istore_n 2, 1) := by decide +kernel
theorem dX3_placeBehind_63 : decode cX3_placeBehind 63 = .ok (.iload_n 2, 1) := by decide +kernel
theorem dX3_placeBehind_64 : decode cX3_placeBehind 64 = .ok (.ifCond .eq 13, 3) := by decide +kernel
theorem dX3_placeBehind_67 : decode cX3_placeBehind 67 = .ok (.iload_n 1, 1) := by decide +kernel
theorem dX3_placeBehind_68 : decode cX3_placeBehind 68 = .ok (.bipush 59, 2) := by decide +kernel
theorem dX3_placeBehind_70 : decode cX3_placeBehind 70 = .ok (.if_icmp .ne 7, 3) := by decide +kernel
theorem dX3_placeBehind_73 : decode cX3_placeBehind 73 = .ok (.iconst 0, 1) := by decide +kernel
theorem dX3_placeBehind_74 : decode cX3_placeBehind 74 = .ok (.goto 4, 3) := by decide +kernel
theorem dX3_placeBehind_77 : decode cX3_placeBehind 77 = .ok (.iconst 4, 1) := by decide +kernel
theorem dX3_placeBehind_78 : decode cX3_placeBehind 78 = .ok (.ireturn, 1) := by decide +kernel
theorem dX3_placeBehindOrder_0 : decode cX3_placeBehindOrder 0 = .ok (.iload_n 0, 1) := by decide +kernel
theorem dX3_placeBehindOrder_1 : decode cX3_placeBehindOrder 1 = .ok (.lookupswitch 63 #[(98, 59), (99, 59), (100, 59), (112, 61), (115, 59), (119, 59)], 59) := by decide +kernel
theorem dX3_placeBehindOrder_60 : decode cX3_placeBehindOrder 60 = .ok (.iconst 1, 1) := by decide +kernel
theorem dX3_placeBehindOrder_61 : decode cX3_placeBehindOrder 61 = .ok (.ireturn, 1) := by decide +kernel
theorem dX3_placeBehindOrder_62 : decode cX3_placeBehindOrder 62 = .ok (.iconst 3, 1) := by decide +kernel
theorem dX3_placeBehindOrder_63 : decode cX3_placeBehindOrder 63 = .ok (.ireturn, 1) := by decide +kernel
theorem dX3_placeBehindOrder_64 : decode cX3_placeBehindOrder 64 = .ok (.iconst 4, 1) := by decide +kernel
theorem dX3_placeBehindOrder_65 : decode cX3_placeBehindOrder 65 = .ok (.ireturn, 1) := by decide +kernel
set_option maxRecDepth 20000 in
theorem ggX4_init_X1_init : GoodIn wsX4_init wsX1_init := goodIn_r _ [10, 11, 2, 3, 12, 13, 14, 15, 16, 17, 18, 19, 20, 21, 22, 23, 24, 25, 26, 27, 28, 29, 30, 31, 32, 33, 34, 35, 36, 37, 38, 39, 40, 41, 42, 43, 44, 45, 46, 47, 48, 49, 57, 58, 59, 60, 61, 50, 51, 52, 53, 54, 62, 63, 64, 65, 66, 67, 68, 69, 70] rfl (by decide +kernel)
set_option maxRecDepth 20000 in
theorem gX4_init_X1_init : GoodIn wsX4_init (wsX1_init) := ggX4_init_X1_init
theorem dX4_init_0 : decode cX4_init 0 = .ok (.aload_n 0, 1) := by decide +kernel
theorem dX4_init_1 : decode cX4_init 1 = .ok (.invokespecial 1, 3) := by decide +kernel
theorem dX4_init_4 : decode cX4_init 4 = .ok (.aload_n 0, 1) := by decide +kernel
theorem dX4_init_5 : decode cX4_init 5 = .ok (.new 7, 3) := by decide +kernel
theorem dX4_init_8 : decode cX4_init 8 = .ok (.dup, 1) := by decide +kernel
theorem dX4_init_9 : decode cX4_init 9 = .ok (.invokespecial 9, 3) := by decide +kernel
theorem dX4_init_12 : decode cX4_init 12 = .ok (.putfield 10, 3) := by decide +kernel
theorem dX4_init_15 : decode cX4_init 15 = .ok (.return_, 1) := by decide +kernel
set_option maxRecDepth 20000 in
theorem ggX4_fill_X1_become : GoodIn wsX4_fill wsX1_become := goodIn_r _ [7, 8, 9, 10, 11, 12, 13, 14, 15, 16, 17, 18, 19, 20, 21, 22, 23, 24, 25, 26, 27, 28, 29, 30, 31, 32, 33, 34, 35, 36, 39, 40, 41, 42, 43, 44, 45, 46, 47, 48, 49, 50, 51, 52, 53, 54, 55, 56, 57] rfl (by decide +kernel)
set_option maxRecDepth 20000 in
theorem gX4_fill_X1_become : GoodIn wsX4_fill (wsV RX4 16 RX1 yX1_become wsX1_become) := goodIn_app (goodIn_of _ (by decide +kernel)) ggX4_fill_X1_become
theorem dX4_fill_0 : decode cX4_fill 0 = .ok (.aload_n 0, 1) := by decide +kernel
theorem dX4_fill_1 : decode cX4_fill 1 = .ok (.getfield 10, 3) := by decide +kernel
theorem dX4_fill_4 : decode cX4_fill 4 = .ok (.aload_n 1, 1) := by decide +kernel
theorem dX4_fill_5 : decode cX4_fill 5 = .ok (.invokevirtual 16, 3) := by decide +kernel
theorem dX4_fill_8 : decode cX4_fill 8 = .ok (.aload_n 0, 1) := by decide +kernel
theorem dX4_fill_9 : decode cX4_fill 9 = .ok (.iconst 1, 1) := by decide +kernel
theorem dX4_fill_10 : decode cX4_fill 10 = .ok (.putfield 20, 3) := by decide +kernel
theorem dX4_fill_13 : decode cX4_fill 13 = .ok (.return_, 1) := by decide +kernel
theorem dX5_init_0 : decode cX5_init 0 = .ok (.aload_n 0, 1) := by decide +kernel
theorem dX5_init_1 : decode cX5_init 1 = .ok (.invokespecial 3, 3) := by decide +kernel
theorem dX5_init_4 : decode cX5_init 4 = .ok (.aload_n 0, 1) := by decide +kernel
theorem dX5_init_5 : decode cX5_init 5 = .ok (.bipush 8, 2) := by decide +kernel
theorem dX5_init_7 : decode cX5_init 7 = .ok (.newarray .int, 2) := by decide +kernel
theorem dX5_init_9 : decode cX5_init 9 = .ok (.putfield 11, 3) := by decide +kernel
theorem dX5_init_12 : decode cX5_init 12 = .ok (.aload_n 0, 1) := by decide +kernel
theorem dX5_init_13 : decode cX5_init 13 = .ok (.iconst 5, 1) := by decide +kernel
theorem dX5_init_14 : decode cX5_init 14 = .ok (.putfield 15, 3) := by decide +kernel
theorem dX5_init_17 : decode cX5_init 17 = .ok (.return_, 1) := by decide +kernel
theorem dX5_become_0 : decode cX5_become 0 = .ok (.iconst 0, 1) := by decide +kernel
theorem dX5_become_1 : decode cX5_become 1 = .ok (.istore_n 2, 1) := by decide +kernel
theorem dX5_become_2 : decode cX5_become 2 = .ok (.iload_n 2, 1) := by decide +kernel
theorem dX5_become_3 : decode cX5_become 3 = .ok (.bipush 8, 2) := by decide +kernel
theorem dX5_become_5 : decode cX5_become 5 = .ok (.if_icmp .ge 21, 3) := by decide +kernel
theorem dX5_become_8 : decode cX5_become 8 = .ok (.aload_n 0, 1) := by decide +kernel
theorem dX5_become_9 : decode cX5_become 9 = .ok (.getfield 11, 3) := by decide +kernel
theorem dX5_become_12 : decode cX5_become 12 = .ok (.iload_n 2, 1) := by decide +kernel
theorem dX5_become_13 : decode cX5_become 13 = .ok (.aload_n 1, 1) := by decide +kernel
theorem dX5_become_14 : decode cX5_become 14 = .ok (.getfield 11, 3) := by decide +kernel
theorem dX5_become_17 : decode cX5_become 17 = .ok (.iload_n 2, 1) := by decide +kernel
theorem dX5_become_18 : decode cX5_become 18 = .ok (.iaload, 1) := by decide +kernel
theorem dX5_become_19 : decode cX5_become 19 = .ok (.iastore, 1) := by decide +kernel
theorem dX5_become_20 : decode cX5_become 20 = .ok (.iinc 2 1, 3) := by decide +kernel
theorem dX5_become_23 : decode cX5_become 23 = .ok (.goto (-21), 3) := by decide +kernel
theorem dX5_become_26 : decode cX5_become 26 = .ok (.aload_n 0, 1) := by decide +kernel
theorem dX5_become_27 : decode cX5_become 27 = .ok (.aload_n 1, 1) := by decide +kernel
theorem dX5_become_28 : decode cX5_become 28 = .ok (.getfield 19, 3) := by decide +kernel
theorem dX5_become_31 : decode cX5_become 31 = .ok (.putfield 19, 3) := by decide +kernel
theorem dX5_become_34 : decode cX5_become 34 = .ok (.aload_n 0, 1) := by decide +kernel
theorem dX5_become_35 : decode cX5_become 35 = .ok (.aload_n 1, 1) := by decide +kernel
theorem dX5_become_36 : decode cX5_become 36 = .ok (.getfield 22, 3) := by decide +kernel
theorem dX5_become_39 : decode cX5_become 39 = .ok (.putfield 22, 3) := by decide +kernel
theorem dX5_become_42 : decode cX5_become 42 = .ok (.aload_n 0, 1) := by decide +kernel
theorem dX5_become_43 : decode cX5_become 43 = .ok (.aload_n 1, 1) := by decide +kernel
theorem dX5_become_44 : decode cX5_become 44 = .ok (.getfield 15, 3) := by decide +kernel
theorem dX5_become_47 : decode cX5_become 47 = .ok (.putfield 15, 3) := by decide +kernel
theorem dX5_become_50 : decode cX5_become 50 = .ok (.aload_n 0, 1) := by decide +kernel
theorem dX5_become_51 : decode cX5_become 51 = .ok (.aload_n 1, 1) := by decide +kernel
theorem dX5_become_52 : decode cX5_become 52 = .ok (.getfield 25, 3) := by decide +kernel
theorem dX5_become_55 : decode cX5_become 55 = .ok (.putfield 25, 3) := by decide +kernel
theorem dX5_become_58 : decode cX5_become 58 = .ok (.aload_n 0, 1) := by decide +kernel
theorem dX5_become_59 : decode cX5_become 59 = .ok (.aload_n 1, 1) := by decide +kernel
theorem dX5_become_60 : decode cX5_become 60 = .ok (.getfield 28, 3) := by decide +kernel
theorem dX5_become_63 : decode cX5_become 63 = .ok (.putfield 28, 3) := by decide +kernel
theorem dX5_become_66 : decode cX5_become 66 = .ok (.aload_n 0, 1) := by decide +kernel
theorem dX5_become_67 : decode cX5_become 67 = .ok (.aload_n 1, 1) := by decide +kernel
theorem dX5_become_68 : decode cX5_become 68 = .ok (.getfield 31, 3) := by decide +kernel
theorem dX5_become_71 : decode cX5_become 71 = .ok (.putfield 31, 3) := by decide +kernel
theorem dX5_become_74 : decode cX5_become 74 = .ok (.aload_n 0, 1) := by decide +kernel
theorem dX5_become_75 : decode cX5_become 75 = .ok (.aload_n 1, 1) := by decide +kernel
theorem dX5_become_76 : decode cX5_become 76 = .ok (.getfield 34, 3) := by decide +kernel
theorem dX5_become_79 : decode cX5_become 79 = .ok (.putfield 34, 3) := by decide +kernel
theorem dX5_become_82 : decode cX5_become 82 = .ok (.aload_n 0, 1) := by decide +kernel
theorem dX5_become_83 : decode cX5_become 83 = .ok (.aload_n 1, 1) := by decide +kernel
theorem dX5_become_84 : decode cX5_become 84 = .ok (.getfield 37, 3) := by decide +kernel
theorem dX5_become_87 : decode cX5_become 87 = .ok (.putfield 37, 3) := by decide +kernel
theorem dX5_become_90 : decode cX5_become 90 = .ok (.return_, 1) := by decide +kernel
theorem dX5_hasMark_0 : decode cX5_hasMark 0 = .ok (.iconst 0, 1) := by decide +kernel
theorem dX5_hasMark_1 : decode cX5_hasMark 1 = .ok (.istore_n 2, 1) := by decide +kernel
theorem dX5_hasMark_2 : decode cX5_hasMark 2 = .ok (.iload_n 2, 1) := by decide +kernel
theorem dX5_hasMark_3 : decode cX5_hasMark 3 = .ok (.aload_n 0, 1) := by decide +kernel
theorem dX5_hasMark_4 : decode cX5_hasMark 4 = .ok (.getfield 19, 3) := by decide +kernel
theorem dX5_hasMark_7 : decode cX5_hasMark 7 = .ok (.if_icmp .ge 21, 3) := by decide +kernel
theorem dX5_hasMark_10 : decode cX5_hasMark 10 = .ok (.aload_n 0, 1) := by decide +kernel
theorem dX5_hasMark_11 : decode cX5_hasMark 11 = .ok (.getfield 11, 3) := by decide +kernel
theorem dX5_hasMark_14 : decode cX5_hasMark 14 = .ok (.iload_n 2, 1) := by decide +kernel
theorem dX5_hasMark_15 : decode cX5_hasMark 15 = .ok (.iaload, 1) := by decide +kernel
theorem dX5_hasMark_16 : decode cX5_hasMark 16 = .ok (.iload_n 1, 1) := by decide +kernel
theorem dX5_hasMark_17 : decode cX5_hasMark 17 = .ok (.if_icmp .ne 5, 3) := by decide +kernel
theorem dX5_hasMark_20 : decode cX5_hasMark 20 = .ok (.iconst 1, 1) := by decide +kernel
theorem dX5_hasMark_21 : decode cX5_hasMark 21 = .ok (.ireturn, 1) := by decide +kernel
theorem dX5_hasMark_22 : decode cX5_hasMark 22 = .ok (.iinc 2 1, 3) := by decide +kernel
theorem dX5_hasMark_25 : decode cX5_hasMark 25 = .ok (.goto (-23), 3) := by decide +kernel
theorem dX5_hasMark_28 : decode cX5_hasMark 28 = .ok (.iconst 0, 1) := by decide +kernel
theorem dX5_hasMark_29 : decode cX5_hasMark 29 = .ok (.ireturn, 1) := by decide +kernel
theorem dX5_markAt_0 : decode cX5_markAt 0 = .ok (.iload_n 1, 1) := by decide +kernel
theorem dX5_markAt_1 : decode cX5_markAt 1 = .ok (.ifCond .lt 20, 3) := by decide +kernel
theorem dX5_markAt_4 : decode cX5_markAt 4 = .ok (.iload_n 1, 1) := by decide +kernel
theorem dX5_markAt_5 : decode cX5_markAt 5 = .ok (.aload_n 0, 1) := by decide +kernel
theorem dX5_markAt_6 : decode cX5_markAt 6 = .ok (.getfield 19, 3) := by decide +kernel
theorem dX5_markAt_9 : decode cX5_markAt 9 = .ok (.if_icmp .ge 12, 3) := by decide +kernel
theorem dX5_markAt_12 : decode cX5_markAt 12 = .ok (.aload_n 0, 1) := by decide +kernel
theorem dX5_markAt_13 : decode cX5_markAt 13 = .ok (.getfield 11, 3) := by decide +kernel
theorem dX5_markAt_16 : decode cX5_markAt 16 = .ok (.iload_n 1, 1) := by decide +kernel
theorem dX5_markAt_17 : decode cX5_markAt 17 = .ok (.iaload, 1) := by decide +kernel
theorem dX5_markAt_18 : decode cX5_markAt 18 = .ok (.goto 4, 3) := by decide +kernel
theorem dX5_markAt_21 : decode cX5_markAt 21 = .ok (.iconst (-1), 1) := by decide +kernel
theorem dX5_markAt_22 : decode cX5_markAt 22 = .ok (.ireturn, 1) := by decide +kernel
theorem dX5_addMark_0 : decode cX5_addMark 0 = .ok (.aload_n 0, 1) := by decide +kernel
theorem dX5_addMark_1 : decode cX5_addMark 1 = .ok (.getfield 19, 3) := by decide +kernel
theorem dX5_addMark_4 : decode cX5_addMark 4 = .ok (.bipush 8, 2) := by decide +kernel
theorem dX5_addMark_6 : decode cX5_addMark 6 = .ok (.if_icmp .lt 5, 3) := by decide +kernel
theorem dX5_addMark_9 : decode cX5_addMark 9 = .ok (.iconst 0, 1) := by decide +kernel
theorem dX5_addMark_10 : decode cX5_addMark 10 = .ok (.ireturn, 1) := by decide +kernel
theorem dX5_addMark_11 : decode cX5_addMark 11 = .ok (.aload_n 0, 1) := by decide +kernel
theorem dX5_addMark_12 : decode cX5_addMark 12 = .ok (.getfield 11, 3) := by decide +kernel
theorem dX5_addMark_15 : decode cX5_addMark 15 = .ok (.aload_n 0, 1) := by decide +kernel
theorem dX5_addMark_16 : decode cX5_addMark 16 = .ok (.getfield 19, 3) := by decide +kernel
theorem dX5_addMark_19 : decode cX5_addMark 19 = .ok (.iload_n 1, 1) := by decide +kernel
theorem dX5_addMark_20 : decode cX5_addMark 20 = .ok (.iastore, 1) := by decide +kernel
theorem dX5_addMark_21 : decode cX5_addMark 21 = .ok (.aload_n 0, 1) := by decide +kernel
theorem dX5_addMark_22 : decode cX5_addMark 22 = .ok (.dup, 1) := by decide +kernel
theorem dX5_addMark_23 : decode cX5_addMark 23 = .ok (.getfield 19, 3) := by decide +kernel
theorem dX5_addMark_26 : decode cX5_addMark 26 = .ok (.iconst 1, 1) := by decide +kernel
theorem dX5_addMark_27 : decode cX5_addMark 27 = .ok (.iadd, 1) := by decide +kernel
theorem dX5_addMark_28 : decode cX5_addMark 28 = .ok (.putfield 19, 3) := by decide +kernel
theorem dX5_addMark_31 : decode cX5_addMark 31 = .ok (.iconst 1, 1) := by decide +kernel
theorem dX5_addMark_32 : decode cX5_addMark 32 = .ok (.ireturn, 1) := by decide +kernel
theorem dX5_dropMark_0 : decode cX5_dropMark 0 = .ok (.iconst 0, 1) := by decide +kernel
theorem dX5_dropMark_1 : decode cX5_dropMark 1 = .ok (.istore_n 2, 1) := by decide +kernel
theorem dX5_dropMark_2 : decode cX5_dropMark 2 = .ok (.iconst 0, 1) := by decide +kernel
theorem dX5_dropMark_3 : decode cX5_dropMark 3 = .ok (.istore_n 3, 1) := by decide +kernel
theorem dX5_dropMark_4 : decode cX5_dropMark 4 = .ok (.iload_n 3, 1) := by decide +kernel
theorem dX5_dropMark_5 : decode cX5_dropMark 5 = .ok (.aload_n 0, 1) := by decide +kernel
theorem dX5_dropMark_6 : decode cX5_dropMark 6 = .ok (.getfield 19, 3) := by decide +kernel
theorem dX5_dropMark_9 : decode cX5_dropMark 9 = .ok (.if_icmp .ge 34, 3) := by decide +kernel
theorem dX5_dropMark_12 : decode cX5_dropMark 12 = .ok (.aload_n 0, 1) := by decide +kernel
theorem dX5_dropMark_13 : decode cX5_dropMark 13 = .ok (.getfield 11, 3) := by decide +kernel
theorem dX5_dropMark_16 : decode cX5_dropMark 16 = .ok (.iload_n 3, 1) := by decide +kernel
theorem dX5_dropMark_17 : decode cX5_dropMark 17 = .ok (.iaload, 1) := by decide +kernel
theorem dX5_dropMark_18 : decode cX5_dropMark 18 = .ok (.iload_n 1, 1) := by decide +kernel
theorem dX5_dropMark_19 : decode cX5_dropMark 19 = .ok (.if_icmp .eq 18, 3) := by decide +kernel
theorem dX5_dropMark_22 : decode cX5_dropMark 22 = .ok (.aload_n 0, 1) := by decide +kernel
theorem dX5_dropMark_23 : decode cX5_dropMark 23 = .ok (.getfield 11, 3) := by decide +kernel
theorem dX5_dropMark_26 : decode cX5_dropMark 26 = .ok (.iload_n 2, 1) := by decide +kernel
theorem dX5_dropMark_27 : decode cX5_dropMark 27 = .ok (.aload_n 0, 1) := by decide +kernel
theorem dX5_dropMark_28 : decode cX5_dropMark 28 = .ok (.getfield 11, 3) := by decide +kernel
theorem dX5_dropMark_31 : decode cX5_dropMark 31 = .ok (.iload_n 3, 1) := by decide +kernel
theorem dX5_dropMark_32 : decode cX5_dropMark 32 = .ok (.iaload, 1) := by decide +kernel
theorem dX5_dropMark_33 : decode cX5_dropMark 33 = .ok (.iastore, 1) := by decide +kernel
theorem dX5_dropMark_34 : decode cX5_dropMark 34 = .ok (.iinc 2 1, 3) := by decide +kernel
theorem dX5_dropMark_37 : decode cX5_dropMark 37 = .ok (.iinc 3 1, 3) := by decide +kernel
theorem dX5_dropMark_40 : decode cX5_dropMark 40 = .ok (.goto (-36), 3) := by decide +kernel
theorem dX5_dropMark_43 : decode cX5_dropMark 43 = .ok (.aload_n 0, 1) := by decide +kernel
theorem dX5_dropMark_44 : decode cX5_dropMark 44 = .ok (.iload_n 2, 1) := by decide +kernel
theorem dX5_dropMark_45 : decode cX5_dropMark 45 = .ok (.putfield 19, 3) := by decide +kernel
theorem dX5_dropMark_48 : decode cX5_dropMark 48 = .ok (.return_, 1) := by decide +kernel
theorem dX5_winRag_0 : decode cX5_winRag 0 = .ok (.aload_n 0, 1) := by decide +kernel
theorem dX5_winRag_1 : decode cX5_winRag 1 = .ok (.dup, 1) := by decide +kernel
theorem dX5_winRag_2 : decode cX5_winRag 2 = .ok (.getfield 25, 3) := by decide +kernel
theorem dX5_winRag_5 : decode cX5_winRag 5 = .ok (.iconst 1, 1) := by decide +kernel
theorem dX5_winRag_6 : decode cX5_winRag 6 = .ok (.iadd, 1) := by decide +kernel
theorem dX5_winRag_7 : decode cX5_winRag 7 = .ok (.putfield 25, 3) := by decide +kernel
theorem dX5_winRag_10 : decode cX5_winRag 10 = .ok (.aload_n 0, 1) := by decide +kernel
theorem dX5_winRag_11 : decode cX5_winRag 11 = .ok (.dup, 1) := by decide +kernel
theorem dX5_winRag_12 : decode cX5_winRag 12 = .ok (.getfield 28, 3) := by decide +kernel
theorem dX5_winRag_15 : decode cX5_winRag 15 = .ok (.iload_n 1, 1) := by decide +kernel
theorem dX5_winRag_16 : decode cX5_winRag 16 = .ok (.iadd, 1) := by decide +kernel
theorem dX5_winRag_17 : decode cX5_winRag 17 = .ok (.putfield 28, 3) := by decide +kernel
theorem dX5_winRag_20 : decode cX5_winRag 20 = .ok (.aload_n 0, 1) := by decide +kernel
theorem dX5_winRag_21 : decode cX5_winRag 21 = .ok (.dup, 1) := by decide +kernel
theorem dX5_winRag_22 : decode cX5_winRag 22 = .ok (.getfield 22, 3) := by decide +kernel
theorem dX5_winRag_25 : decode cX5_winRag 25 = .ok (.iload_n 1, 1) := by decide +kernel
theorem dX5_winRag_26 : decode cX5_winRag 26 = .ok (.iadd, 1) := by decide +kernel
theorem dX5_winRag_27 : decode cX5_winRag 27 = .ok (.putfield 22, 3) := by decide +kernel
theorem dX5_winRag_30 : decode cX5_winRag 30 = .ok (.return_, 1) := by decide +kernel
set_option maxRecDepth 20000 in
theorem ggX6_init_X1_init : GoodIn wsX6_init wsX1_init := goodIn_r _ [23, 24, 2, 3, 25, 26, 27, 28, 29, 30, 31, 32, 33, 34, 35, 36, 37, 38, 39, 40, 41, 42, 43, 44, 45, 46, 47, 48, 49, 50, 51, 52, 53, 54, 55, 56, 57, 58, 59, 60, 61, 62, 101, 102, 103, 104, 105, 84, 85, 86, 87, 88, 106, 107, 108, 109, 110, 111, 112, 113, 114] rfl (by decide +kernel)
set_option maxRecDepth 20000 in
theorem gX6_init_X1_init : GoodIn wsX6_init (wsX1_init) := ggX6_init_X1_init
set_option maxRecDepth 20000 in
theorem ggX6_init_X2_init : GoodIn wsX6_init wsX2_init := goodIn_r _ [65, 66, 2, 3, 67, 68, 5, 6, 69, 70, 22, 23, 24, 25, 26, 27, 28, 29, 30, 31, 32, 33, 34, 35, 36, 37, 38, 39, 40, 41, 42, 43, 44, 45, 46, 47, 48, 49, 50, 51, 52, 53, 54, 55, 56, 57, 58, 59, 60, 61, 62, 94, 95, 96, 84, 85, 86, 87, 88, 101, 102, 103, 104, 105, 106, 107, 108, 109, 110, 111, 112, 113, 114] rfl (by decide +kernel)
set_option maxRecDepth 20000 in
theorem gX6_init_X2_init : GoodIn wsX6_init (wsX2_init) := ggX6_init_X2_init
set_option maxRecDepth 20000 in
theorem ggX6_init_X4_init : GoodIn wsX6_init wsX4_init := goodIn_r _ [73, 74, 2, 3, 75, 5, 6, 76, 77, 22, 23, 24, 25, 26, 27, 28, 29, 30, 31, 32, 33, 34, 35, 36, 37, 38, 39, 40, 41, 42, 43, 44, 45, 46, 47, 48, 49, 50, 51, 52, 53, 54, 55, 56, 57, 58, 59, 60, 61, 62, 84, 85, 86, 87, 88, 97, 98, 101, 102, 103, 104, 105, 106, 107, 108, 109, 110, 111, 112, 113, 114] rfl (by decide +kernel)
set_option maxRecDepth 20000 in
theorem gX6_init_X4_init : GoodIn wsX6_init (wsX4_init) := ggX6_init_X4_init
set_option maxRecDepth 20000 in
theorem ggX6_init_X3_init : GoodIn wsX6_init wsX3_init := goodIn_r _ [80, 81, 2, 3, 82, 83, 99, 100] rfl (by decide +kernel)
set_option maxRecDepth 20000 in
theorem gX6_init_X3_init : GoodIn wsX6_init (wsX3_init) := ggX6_init_X3_init
theorem dX6_init_0 : decode cX6_init 0 = .ok (.aload_n 0, 1) := by decide +kernel
theorem dX6_init_1 : decode cX6_init 1 = .ok (.invokespecial 1, 3) := by decide +kernel
theorem dX6_init_4 : decode cX6_init 4 = .ok (.aload_n 0, 1) := by decide +kernel
theorem dX6_init_5 : decode cX6_init 5 = .ok (.new 7, 3) := by decide +kernel
theorem dX6_init_8 : decode cX6_init 8 = .ok (.dup, 1) := by decide +kernel
theorem dX6_init_9 : decode cX6_init 9 = .ok (.invokespecial 9, 3) := by decide +kernel
theorem dX6_init_12 : decode cX6_init 12 = .ok (.putfield 10, 3) := by decide +kernel
theorem dX6_init_15 : decode cX6_init 15 = .ok (.aload_n 0, 1) := by decide +kernel
theorem dX6_init_16 : decode cX6_init 16 = .ok (.new 16, 3) := by decide +kernel
theorem dX6_init_19 : decode cX6_init 19 = .ok (.dup, 1) := by decide +kernel
theorem dX6_init_20 : decode cX6_init 20 = .ok (.invokespecial 18, 3) := by decide +kernel
theorem dX6_init_23 : decode cX6_init 23 = .ok (.putfield 19, 3) := by decide +kernel
theorem dX6_init_26 : decode cX6_init 26 = .ok (.aload_n 0, 1) := by decide +kernel
theorem dX6_init_27 : decode cX6_init 27 = .ok (.new 23, 3) := by decide +kernel
theorem dX6_init_30 : decode cX6_init 30 = .ok (.dup, 1) := by decide +kernel
theorem dX6_init_31 : decode cX6_init 31 = .ok (.invokespecial 25, 3) := by decide +kernel
theorem dX6_init_34 : decode cX6_init 34 = .ok (.putfield 26, 3) := by decide +kernel
theorem dX6_init_37 : decode cX6_init 37 = .ok (.aload_n 0, 1) := by decide +kernel
theorem dX6_init_38 : decode cX6_init 38 = .ok (.new 23, 3) := by decide +kernel
theorem dX6_init_41 : decode cX6_init 41 = .ok (.dup, 1) := by decide +kernel
theorem dX6_init_42 : decode cX6_init 42 = .ok (.invokespecial 25, 3) := by decide +kernel
theorem dX6_init_45 : decode cX6_init 45 = .ok (.putfield 30, 3) := by decide +kernel
theorem dX6_init_48 : decode cX6_init 48 = .ok (.aload_n 0, 1) := by decide +kernel
theorem dX6_init_49 : decode cX6_init 49 = .ok (.new 33, 3) := by decide +kernel
theorem dX6_init_52 : decode cX6_init 52 = .ok (.dup, 1) := by decide +kernel
theorem dX6_init_53 : decode cX6_init 53 = .ok (.invokespecial 35, 3) := by decide +kernel
theorem dX6_init_56 : decode cX6_init 56 = .ok (.putfield 36, 3) := by decide +kernel
theorem dX6_init_59 : decode cX6_init 59 = .ok (.return_, 1) := by decide +kernel
set_option maxRecDepth 20000 in
theorem ggX6_chalk_X6_takeTurn : GoodIn wsX6_chalk wsX6_takeTurn := goodIn_r _ [5, 6, 7, 8, 9, 10, 11, 12, 13, 14, 15, 16, 17, 18, 19, 20, 21, 22, 23, 24, 25, 26, 27, 28, 29, 30, 31, 32, 33, 34, 35, 36, 37, 38, 39, 40, 41, 42, 43, 44, 45, 46, 47, 48, 49, 50, 51, 52, 53, 54, 55, 56, 57, 58, 59, 60, 61, 62, 63, 64, 65, 66, 67, 68, 69, 70, 71, 72, 73, 74, 75, 76, 77, 78, 79, 80, 81, 82, 83, 84, 85, 86, 87, 88, 89, 90, 91, 92, 93, 94, 95, 96, 97, 98, 99, 100, 101, 102, 103, 104, 105, 106, 107, 108, 109, 110, 111, 112, 113, 114, 115, 116, 117, 118, 119, 120, 121, 122, 123, 124, 125, 126, 127, 128, 129, 130, 131, 132, 133, 134, 135, 136, 137, 138, 139, 140, 141, 142, 143, 144, 145, 146, 147, 148, 149, 150, 151, 152, 153, 154, 155, 156, 157, 158, 159, 160, 161, 162, 163, 164, 165, 166, 167, 168, 169, 170, 171, 172, 173, 174, 175, 176, 177, 178, 179, 180, 181, 182, 183, 184, 185, 186, 187, 188, 189, 190, 191, 192, 193, 194, 195, 196, 197, 198, 199, 200, 201, 202, 203, 204, 205, 206, 207, 208, 209, 210, 211, 212, 213, 214, 215, 216, 217, 218, 219, 220, 221, 222, 223, 224, 225, 226, 227] rfl (by decide +kernel)
set_option maxRecDepth 20000 in
theorem gX6_chalk_X6_takeTurn : GoodIn wsX6_chalk (wsV RX6 40 RX6 yX6_takeTurn wsX6_takeTurn) := goodIn_app (goodIn_of _ (by decide +kernel)) ggX6_chalk_X6_takeTurn
theorem dX6_chalk_0 : decode cX6_chalk 0 = .ok (.aload_n 0, 1) := by decide +kernel
theorem dX6_chalk_1 : decode cX6_chalk 1 = .ok (.bipush 99, 2) := by decide +kernel
theorem dX6_chalk_3 : decode cX6_chalk 3 = .ok (.iload_n 1, 1) := by decide +kernel
theorem dX6_chalk_4 : decode cX6_chalk 4 = .ok (.invokevirtual 40, 3) := by decide +kernel
theorem dX6_chalk_7 : decode cX6_chalk 7 = .ok (.ireturn, 1) := by decide +kernel
set_option maxRecDepth 20000 in
theorem ggX6_snip_X6_takeTurn : GoodIn wsX6_snip wsX6_takeTurn := goodIn_r _ [5, 6, 7, 8, 9, 10, 11, 12, 13, 14, 15, 16, 17, 18, 19, 20, 21, 22, 23, 24, 25, 26, 27, 28, 29, 30, 31, 32, 33, 34, 35, 36, 37, 38, 39, 40, 41, 42, 43, 44, 45, 46, 47, 48, 49, 50, 51, 52, 53, 54, 55, 56, 57, 58, 59, 60, 61, 62, 63, 64, 65, 66, 67, 68, 69, 70, 71, 72, 73, 74, 75, 76, 77, 78, 79, 80, 81, 82, 83, 84, 85, 86, 87, 88, 89, 90, 91, 92, 93, 94, 95, 96, 97, 98, 99, 100, 101, 102, 103, 104, 105, 106, 107, 108, 109, 110, 111, 112, 113, 114, 115, 116, 117, 118, 119, 120, 121, 122, 123, 124, 125, 126, 127, 128, 129, 130, 131, 132, 133, 134, 135, 136, 137, 138, 139, 140, 141, 142, 143, 144, 145, 146, 147, 148, 149, 150, 151, 152, 153, 154, 155, 156, 157, 158, 159, 160, 161, 162, 163, 164, 165, 166, 167, 168, 169, 170, 171, 172, 173, 174, 175, 176, 177, 178, 179, 180, 181, 182, 183, 184, 185, 186, 187, 188, 189, 190, 191, 192, 193, 194, 195, 196, 197, 198, 199, 200, 201, 202, 203, 204, 205, 206, 207, 208, 209, 210, 211, 212, 213, 214, 215, 216, 217, 218, 219, 220, 221, 222, 223, 224, 225, 226, 227] rfl (by decide +kernel)
set_option maxRecDepth 20000 in
theorem gX6_snip_X6_takeTurn : GoodIn wsX6_snip (wsV RX6 40 RX6 yX6_takeTurn wsX6_takeTurn) := goodIn_app (goodIn_of _ (by decide +kernel)) ggX6_snip_X6_takeTurn
theorem dX6_snip_0 : decode cX6_snip 0 = .ok (.aload_n 0, 1) := by decide +kernel
theorem dX6_snip_1 : decode cX6_snip 1 = .ok (.bipush 115, 2) := by decide +kernel
theorem dX6_snip_3 : decode cX6_snip 3 = .ok (.iload_n 1, 1) := by decide +kernel
theorem dX6_snip_4 : decode cX6_snip 4 = .ok (.invokevirtual 40, 3) := by decide +kernel
theorem dX6_snip_7 : decode cX6_snip 7 = .ok (.ireturn, 1) := by decide +kernel
set_option maxRecDepth 20000 in
theorem ggX6_sew_X6_takeTurn : GoodIn wsX6_sew wsX6_takeTurn := goodIn_r _ [5, 6, 7, 8, 9, 10, 11, 12, 13, 14, 15, 16, 17, 18, 19, 20, 21, 22, 23, 24, 25, 26, 27, 28, 29, 30, 31, 32, 33, 34, 35, 36, 37, 38, 39, 40, 41, 42, 43, 44, 45, 46, 47, 48, 49, 50, 51, 52, 53, 54, 55, 56, 57, 58, 59, 60, 61, 62, 63, 64, 65, 66, 67, 68, 69, 70, 71, 72, 73, 74, 75, 76, 77, 78, 79, 80, 81, 82, 83, 84, 85, 86, 87, 88, 89, 90, 91, 92, 93, 94, 95, 96, 97, 98, 99, 100, 101, 102, 103, 104, 105, 106, 107, 108, 109, 110, 111, 112, 113, 114, 115, 116, 117, 118, 119, 120, 121, 122, 123, 124, 125, 126, 127, 128, 129, 130, 131, 132, 133, 134, 135, 136, 137, 138, 139, 140, 141, 142, 143, 144, 145, 146, 147, 148, 149, 150, 151, 152, 153, 154, 155, 156, 157, 158, 159, 160, 161, 162, 163, 164, 165, 166, 167, 168, 169, 170, 171, 172, 173, 174, 175, 176, 177, 178, 179, 180, 181, 182, 183, 184, 185, 186, 187, 188, 189, 190, 191, 192, 193, 194, 195, 196, 197, 198, 199, 200, 201, 202, 203, 204, 205, 206, 207, 208, 209, 210, 211, 212, 213, 214, 215, 216, 217, 218, 219, 220, 221, 222, 223, 224, 225, 226, 227] rfl (by decide +kernel)
set_option maxRecDepth 20000 in
theorem gX6_sew_X6_takeTurn : GoodIn wsX6_sew (wsV RX6 40 RX6 yX6_takeTurn wsX6_takeTurn) := goodIn_app (goodIn_of _ (by decide +kernel)) ggX6_sew_X6_takeTurn
theorem dX6_sew_0 : decode cX6_sew 0 = .ok (.aload_n 0, 1) := by decide +kernel
theorem dX6_sew_1 : decode cX6_sew 1 = .ok (.bipush 119, 2) := by decide +kernel
theorem dX6_sew_3 : decode cX6_sew 3 = .ok (.iload_n 1, 1) := by decide +kernel
theorem dX6_sew_4 : decode cX6_sew 4 = .ok (.invokevirtual 40, 3) := by decide +kernel
theorem dX6_sew_7 : decode cX6_sew 7 = .ok (.ireturn, 1) := by decide +kernel
set_option maxRecDepth 20000 in
theorem ggX6_bluff_X6_takeTurn : GoodIn wsX6_bluff wsX6_takeTurn := goodIn_r _ [5, 6, 7, 8, 9, 10, 11, 12, 13, 14, 15, 16, 17, 18, 19, 20, 21, 22, 23, 24, 25, 26, 27, 28, 29, 30, 31, 32, 33, 34, 35, 36, 37, 38, 39, 40, 41, 42, 43, 44, 45, 46, 47, 48, 49, 50, 51, 52, 53, 54, 55, 56, 57, 58, 59, 60, 61, 62, 63, 64, 65, 66, 67, 68, 69, 70, 71, 72, 73, 74, 75, 76, 77, 78, 79, 80, 81, 82, 83, 84, 85, 86, 87, 88, 89, 90, 91, 92, 93, 94, 95, 96, 97, 98, 99, 100, 101, 102, 103, 104, 105, 106, 107, 108, 109, 110, 111, 112, 113, 114, 115, 116, 117, 118, 119, 120, 121, 122, 123, 124, 125, 126, 127, 128, 129, 130, 131, 132, 133, 134, 135, 136, 137, 138, 139, 140, 141, 142, 143, 144, 145, 146, 147, 148, 149, 150, 151, 152, 153, 154, 155, 156, 157, 158, 159, 160, 161, 162, 163, 164, 165, 166, 167, 168, 169, 170, 171, 172, 173, 174, 175, 176, 177, 178, 179, 180, 181, 182, 183, 184, 185, 186, 187, 188, 189, 190, 191, 192, 193, 194, 195, 196, 197, 198, 199, 200, 201, 202, 203, 204, 205, 206, 207, 208, 209, 210, 211, 212, 213, 214, 215, 216, 217, 218, 219, 220, 221, 222, 223, 224, 225, 226, 227] rfl (by decide +kernel)
set_option maxRecDepth 20000 in
theorem gX6_bluff_X6_takeTurn : GoodIn wsX6_bluff (wsV RX6 40 RX6 yX6_takeTurn wsX6_takeTurn) := goodIn_app (goodIn_of _ (by decide +kernel)) ggX6_bluff_X6_takeTurn
theorem dX6_bluff_0 : decode cX6_bluff 0 = .ok (.aload_n 0, 1) := by decide +kernel
theorem dX6_bluff_1 : decode cX6_bluff 1 = .ok (.bipush 98, 2) := by decide +kernel
theorem dX6_bluff_3 : decode cX6_bluff 3 = .ok (.iload_n 1, 1) := by decide +kernel
theorem dX6_bluff_4 : decode cX6_bluff 4 = .ok (.invokevirtual 40, 3) := by decide +kernel
theorem dX6_bluff_7 : decode cX6_bluff 7 = .ok (.ireturn, 1) := by decide +kernel
set_option maxRecDepth 20000 in
theorem ggX6_doubt_X6_takeTurn : GoodIn wsX6_doubt wsX6_takeTurn := goodIn_r _ [5, 6, 7, 8, 9, 10, 11, 12, 13, 14, 15, 16, 17, 18, 19, 20, 21, 22, 23, 24, 25, 26, 27, 28, 29, 30, 31, 32, 33, 34, 35, 36, 37, 38, 39, 40, 41, 42, 43, 44, 45, 46, 47, 48, 49, 50, 51, 52, 53, 54, 55, 56, 57, 58, 59, 60, 61, 62, 63, 64, 65, 66, 67, 68, 69, 70, 71, 72, 73, 74, 75, 76, 77, 78, 79, 80, 81, 82, 83, 84, 85, 86, 87, 88, 89, 90, 91, 92, 93, 94, 95, 96, 97, 98, 99, 100, 101, 102, 103, 104, 105, 106, 107, 108, 109, 110, 111, 112, 113, 114, 115, 116, 117, 118, 119, 120, 121, 122, 123, 124, 125, 126, 127, 128, 129, 130, 131, 132, 133, 134, 135, 136, 137, 138, 139, 140, 141, 142, 143, 144, 145, 146, 147, 148, 149, 150, 151, 152, 153, 154, 155, 156, 157, 158, 159, 160, 161, 162, 163, 164, 165, 166, 167, 168, 169, 170, 171, 172, 173, 174, 175, 176, 177, 178, 179, 180, 181, 182, 183, 184, 185, 186, 187, 188, 189, 190, 191, 192, 193, 194, 195, 196, 197, 198, 199, 200, 201, 202, 203, 204, 205, 206, 207, 208, 209, 210, 211, 212, 213, 214, 215, 216, 217, 218, 219, 220, 221, 222, 223, 224, 225, 226, 227] rfl (by decide +kernel)
set_option maxRecDepth 20000 in
theorem gX6_doubt_X6_takeTurn : GoodIn wsX6_doubt (wsV RX6 40 RX6 yX6_takeTurn wsX6_takeTurn) := goodIn_app (goodIn_of _ (by decide +kernel)) ggX6_doubt_X6_takeTurn
theorem dX6_doubt_0 : decode cX6_doubt 0 = .ok (.aload_n 0, 1) := by decide +kernel
theorem dX6_doubt_1 : decode cX6_doubt 1 = .ok (.bipush 100, 2) := by decide +kernel
theorem dX6_doubt_3 : decode cX6_doubt 3 = .ok (.iload_n 1, 1) := by decide +kernel
theorem dX6_doubt_4 : decode cX6_doubt 4 = .ok (.invokevirtual 40, 3) := by decide +kernel
theorem dX6_doubt_7 : decode cX6_doubt 7 = .ok (.ireturn, 1) := by decide +kernel
set_option maxRecDepth 20000 in
theorem ggX6_pass_X6_takeTurn : GoodIn wsX6_pass wsX6_takeTurn := goodIn_r _ [5, 6, 7, 8, 9, 10, 11, 12, 13, 14, 15, 16, 17, 18, 19, 20, 21, 22, 23, 24, 25, 26, 27, 28, 29, 30, 31, 32, 33, 34, 35, 36, 37, 38, 39, 40, 41, 42, 43, 44, 45, 46, 47, 48, 49, 50, 51, 52, 53, 54, 55, 56, 57, 58, 59, 60, 61, 62, 63, 64, 65, 66, 67, 68, 69, 70, 71, 72, 73, 74, 75, 76, 77, 78, 79, 80, 81, 82, 83, 84, 85, 86, 87, 88, 89, 90, 91, 92, 93, 94, 95, 96, 97, 98, 99, 100, 101, 102, 103, 104, 105, 106, 107, 108, 109, 110, 111, 112, 113, 114, 115, 116, 117, 118, 119, 120, 121, 122, 123, 124, 125, 126, 127, 128, 129, 130, 131, 132, 133, 134, 135, 136, 137, 138, 139, 140, 141, 142, 143, 144, 145, 146, 147, 148, 149, 150, 151, 152, 153, 154, 155, 156, 157, 158, 159, 160, 161, 162, 163, 164, 165, 166, 167, 168, 169, 170, 171, 172, 173, 174, 175, 176, 177, 178, 179, 180, 181, 182, 183, 184, 185, 186, 187, 188, 189, 190, 191, 192, 193, 194, 195, 196, 197, 198, 199, 200, 201, 202, 203, 204, 205, 206, 207, 208, 209, 210, 211, 212, 213, 214, 215, 216, 217, 218, 219, 220, 221, 222, 223, 224, 225, 226, 227] rfl (by decide +kernel)
set_option maxRecDepth 20000 in
theorem gX6_pass_X6_takeTurn : GoodIn wsX6_pass (wsV RX6 40 RX6 yX6_takeTurn wsX6_takeTurn) := goodIn_app (goodIn_of _ (by decide +kernel)) ggX6_pass_X6_takeTurn
theorem dX6_pass_0 : decode cX6_pass 0 = .ok (.aload_n 0, 1) := by decide +kernel
theorem dX6_pass_1 : decode cX6_pass 1 = .ok (.bipush 112, 2) := by decide +kernel
theorem dX6_pass_3 : decode cX6_pass 3 = .ok (.iconst 0, 1) := by decide +kernel
theorem dX6_pass_4 : decode cX6_pass 4 = .ok (.invokevirtual 40, 3) := by decide +kernel
theorem dX6_pass_7 : decode cX6_pass 7 = .ok (.ireturn, 1) := by decide +kernel
set_option maxRecDepth 20000 in
theorem ggX6_takeTurn_X2_note : GoodIn wsX6_takeTurn wsX2_note := goodIn_r _ [7, 8, 9, 10, 11, 12, 13, 14, 15, 16, 17, 18, 19, 20, 21, 22, 23, 24, 25, 26, 27, 28, 29, 30, 31, 32, 33, 34, 35, 36, 37, 38, 39, 40, 41, 42, 201, 202, 203, 204, 205, 206, 207, 208, 209, 210, 211, 212, 213, 214, 215, 216, 217, 218, 219, 220, 221, 222] rfl (by decide +kernel)
set_option maxRecDepth 20000 in
theorem gX6_takeTurn_X2_note : GoodIn wsX6_takeTurn (wsV RX6 44 RX2 yX2_note wsX2_note) := goodIn_app (goodIn_of _ (by decide +kernel)) ggX6_takeTurn_X2_note
set_option maxRecDepth 20000 in
theorem ggX6_takeTurn_X1_obey : GoodIn wsX6_takeTurn wsX1_obey := goodIn_r _ [46, 14, 47, 48, 49, 12, 50, 17, 51, 52, 53, 54, 18, 55, 56, 57, 22, 58, 26, 59, 60, 61, 62, 63, 64, 65, 66, 67, 68, 69, 70, 71, 72, 73, 74, 75, 76, 77, 78, 79, 80, 81, 82, 83, 84, 85, 86, 87, 88, 89, 90, 91, 92, 93, 94, 15, 16, 95, 96, 97, 98, 28, 27, 99, 100, 101, 32, 102, 35, 34, 103, 104, 105, 106, 107, 108, 109, 110, 111, 112, 113, 114, 115, 116, 117, 118, 24, 119, 120, 121, 122, 123, 124, 125, 126, 127, 128, 129, 130, 131, 132, 133, 134, 135, 136, 137, 138, 139, 140, 141, 142, 143, 144, 145, 146, 147, 148, 25, 149, 150, 151, 152, 153, 154, 155, 156, 157, 158, 159, 160, 161, 38, 39, 36, 162, 163, 164, 165, 166, 167, 168, 169, 170, 171, 172, 173, 174, 175, 176, 177, 178, 179, 180, 181, 182, 183, 184, 185, 204, 205, 206, 207, 208, 209, 210, 211, 212, 213, 214, 215, 216, 217, 218, 219, 220, 221, 222] rfl (by decide +kernel)
set_option maxRecDepth 20000 in
theorem gX6_takeTurn_X1_obey : GoodIn wsX6_takeTurn (wsV RX6 48 RX1 yX1_obey wsX1_obey) := goodIn_app (goodIn_of _ (by decide +kernel)) ggX6_takeTurn_X1_obey
set_option maxRecDepth 20000 in
theorem ggX6_takeTurn_X2_keepNoted : GoodIn wsX6_takeTurn wsX2_keepNoted := goodIn_r _ [189, 190, 191, 8, 192, 193, 194, 6, 195, 201, 202, 203] rfl (by decide +kernel)
set_option maxRecDepth 20000 in
theorem gX6_takeTurn_X2_keepNoted : GoodIn wsX6_takeTurn (wsV RX6 51 RX2 yX2_keepNoted wsX2_keepNoted) := goodIn_app (goodIn_of _ (by decide +kernel)) ggX6_takeTurn_X2_keepNoted
theorem dX6_takeTurn_0 : decode cX6_takeTurn 0 = .ok (.aload_n 0, 1) := by decide +kernel
theorem dX6_takeTurn_1 : decode cX6_takeTurn 1 = .ok (.getfield 19, 3) := by decide +kernel
theorem dX6_takeTurn_4 : decode cX6_takeTurn 4 = .ok (.aload_n 0, 1) := by decide +kernel
theorem dX6_takeTurn_5 : decode cX6_takeTurn 5 = .ok (.getfield 10, 3) := by decide +kernel
theorem dX6_takeTurn_8 : decode cX6_takeTurn 8 = .ok (.invokevirtual 44, 3) := by decide +kernel
theorem dX6_takeTurn_11 : decode cX6_takeTurn 11 = .ok (.aload_n 0, 1) := by decide +kernel
theorem dX6_takeTurn_12 : decode cX6_takeTurn 12 = .ok (.getfield 10, 3) := by decide +kernel
theorem dX6_takeTurn_15 : decode cX6_takeTurn 15 = .ok (.iload_n 1, 1) := by decide +kernel
theorem dX6_takeTurn_16 : decode cX6_takeTurn 16 = .ok (.iload_n 2, 1) := by decide +kernel
theorem dX6_takeTurn_17 : decode cX6_takeTurn 17 = .ok (.invokevirtual 48, 3) := by decide +kernel
theorem dX6_takeTurn_20 : decode cX6_takeTurn 20 = .ok (.istore_n 3, 1) := by decide +kernel
theorem dX6_takeTurn_21 : decode cX6_takeTurn 21 = .ok (.iload_n 3, 1) := by decide +kernel
theorem dX6_takeTurn_22 : decode cX6_takeTurn 22 = .ok (.ifCond .lt 10, 3) := by decide +kernel
theorem dX6_takeTurn_25 : decode cX6_takeTurn 25 = .ok (.aload_n 0, 1) := by decide +kernel
theorem dX6_takeTurn_26 : decode cX6_takeTurn 26 = .ok (.getfield 19, 3) := by decide +kernel
theorem dX6_takeTurn_29 : decode cX6_takeTurn 29 = .ok (.invokevirtual 51, 3) := by decide +kernel
theorem dX6_takeTurn_32 : decode cX6_takeTurn 32 = .ok (.iload_n 3, 1) := by decide +kernel
theorem dX6_takeTurn_33 : decode cX6_takeTurn 33 = .ok (.ireturn, 1) := by decide +kernel
set_option maxRecDepth 20000 in
theorem ggX6_of_X0_isJoint : GoodIn wsX6_of wsX0_isJoint := goodIn_r _ [6] rfl (by decide +kernel)
set_option maxRecDepth 20000 in
theorem gX6_of_X0_isJoint : GoodIn wsX6_of (va_wsS RX6 54 yX0_isJoint wsX0_isJoint) := goodIn_app (goodIn_of _ (by decide +kernel)) ggX6_of_X0_isJoint
set_option maxRecDepth 20000 in
theorem ggX6_of_X0_stateOf : GoodIn wsX6_of wsX0_stateOf := goodIn_r _ [10, 11, 12, 4, 5, 6, 92, 93, 94, 95, 96] rfl (by decide +kernel)
set_option maxRecDepth 20000 in
theorem gX6_of_X0_stateOf : GoodIn wsX6_of (wsV RX6 64 RX0 yX0_stateOf wsX0_stateOf) := goodIn_app (goodIn_of _ (by decide +kernel)) ggX6_of_X0_stateOf
set_option maxRecDepth 20000 in
theorem ggX6_of_X0_isVoid : GoodIn wsX6_of wsX0_isVoid := goodIn_r _ [16, 17, 18, 19, 5, 20, 21, 22, 23, 24, 25, 26, 92, 93, 94, 95, 96] rfl (by decide +kernel)
set_option maxRecDepth 20000 in
theorem gX6_of_X0_isVoid : GoodIn wsX6_of (wsV RX6 68 RX0 yX0_isVoid wsX0_isVoid) := goodIn_app (goodIn_of _ (by decide +kernel)) ggX6_of_X0_isVoid
set_option maxRecDepth 20000 in
theorem ggX6_of_X6_asNumber : GoodIn wsX6_of wsX6_asNumber := goodIn_r _ [30] rfl (by decide +kernel)
set_option maxRecDepth 20000 in
theorem gX6_of_X6_asNumber : GoodIn wsX6_of (va_wsS RX6 71 yX6_asNumber wsX6_asNumber) := goodIn_app (goodIn_of _ (by decide +kernel)) ggX6_of_X6_asNumber
set_option maxRecDepth 20000 in
theorem ggX6_of_X0_firstCell : GoodIn wsX6_of wsX0_firstCell := goodIn_r _ [23] rfl (by decide +kernel)
set_option maxRecDepth 20000 in
theorem gX6_of_X0_firstCell : GoodIn wsX6_of (va_wsS RX6 75 yX0_firstCell wsX0_firstCell) := goodIn_app (goodIn_of _ (by decide +kernel)) ggX6_of_X0_firstCell
set_option maxRecDepth 20000 in
theorem ggX6_of_X0_secondCell : GoodIn wsX6_of wsX0_secondCell := goodIn_r _ [34, 21, 22, 5, 23, 18, 19, 20] rfl (by decide +kernel)
set_option maxRecDepth 20000 in
theorem gX6_of_X0_secondCell : GoodIn wsX6_of (va_wsS RX6 78 yX0_secondCell wsX0_secondCell) := goodIn_app (goodIn_of _ (by decide +kernel)) ggX6_of_X0_secondCell
set_option maxRecDepth 20000 in
theorem ggX6_of_X1_chalkersOf : GoodIn wsX6_of wsX1_chalkersOf := goodIn_r _ [39, 40, 41, 42, 43, 44, 45, 46, 47, 48, 87, 88, 89, 90, 91, 97, 98, 99, 100, 101, 102, 103, 104, 105] rfl (by decide +kernel)
set_option maxRecDepth 20000 in
theorem gX6_of_X1_chalkersOf : GoodIn wsX6_of (wsV RX6 81 RX1 yX1_chalkersOf wsX1_chalkersOf) := goodIn_app (goodIn_of _ (by decide +kernel)) ggX6_of_X1_chalkersOf
set_option maxRecDepth 20000 in
theorem ggX6_of_X1_doubtableMaker : GoodIn wsX6_of wsX1_doubtableMaker := goodIn_r _ [52, 53, 54, 55, 56, 38, 57, 58, 59, 60, 61, 5, 62, 17, 63, 64, 65, 66, 67, 68, 69, 70, 14, 15, 16, 18, 19, 20, 21, 22, 23, 24, 25, 26, 71, 72, 73, 74, 75, 12, 4, 6, 87, 88, 89, 90, 91, 92, 93, 94, 95, 96] rfl (by decide +kernel)
set_option maxRecDepth 20000 in
theorem gX6_of_X1_doubtableMaker : GoodIn wsX6_of (wsV RX6 84 RX1 yX1_doubtableMaker wsX1_doubtableMaker) := goodIn_app (goodIn_of _ (by decide +kernel)) ggX6_of_X1_doubtableMaker
set_option maxRecDepth 20000 in
theorem ggX6_of_X0_holds : GoodIn wsX6_of wsX0_holds := goodIn_r _ [79, 80, 81, 18, 19, 5, 20, 21, 22, 23, 24, 25, 26, 92, 93, 94, 95, 96] rfl (by decide +kernel)
set_option maxRecDepth 20000 in
theorem gX6_of_X0_holds : GoodIn wsX6_of (wsV RX6 87 RX0 yX0_holds wsX0_holds) := goodIn_app (goodIn_of _ (by decide +kernel)) ggX6_of_X0_holds
theorem dX6_of_0 : decode cX6_of 0 = .ok (.iload_n 1, 1) := by decide +kernel
theorem dX6_of_1 : decode cX6_of 1 = .ok (.invokestatic 54, 3) := by decide +kernel
theorem dX6_of_4 : decode cX6_of 4 = .ok (.ifCond .ne 5, 3) := by decide +kernel
theorem dX6_of_7 : decode cX6_of 7 = .ok (.iconst (-1), 1) := by decide +kernel
theorem dX6_of_8 : decode cX6_of 8 = .ok (.ireturn, 1) := by decide +kernel
theorem dX6_of_9 : decode cX6_of 9 = .ok (.iload_n 2, 1) := by decide +kernel
theorem dX6_of_10 : decode cX6_of 10 = .ok (.tableswitch 112 0 6 #[42, 54, 69, 74, 79, 88, 97], 42) := by decide +kernel
theorem dX6_of_52 : decode cX6_of 52 = .ok (.aload_n 0, 1) := by decide +kernel
theorem dX6_of_53 : decode cX6_of 53 = .ok (.getfield 10, 3) := by decide +kernel
theorem dX6_of_56 : decode cX6_of 56 = .ok (.getfield 60, 3) := by decide +kernel
theorem dX6_of_59 : decode cX6_of 59 = .ok (.iload_n 1, 1) := by decide +kernel
theorem dX6_of_60 : decode cX6_of 60 = .ok (.invokevirtual 64, 3) := by decide +kernel
theorem dX6_of_63 : decode cX6_of 63 = .ok (.ireturn, 1) := by decide +kernel
theorem dX6_of_64 : decode cX6_of 64 = .ok (.aload_n 0, 1) := by decide +kernel
theorem dX6_of_65 : decode cX6_of 65 = .ok (.getfield 10, 3) := by decide +kernel
theorem dX6_of_68 : decode cX6_of 68 = .ok (.getfield 60, 3) := by decide +kernel
theorem dX6_of_71 : decode cX6_of 71 = .ok (.iload_n 1, 1) := by decide +kernel
theorem dX6_of_72 : decode cX6_of 72 = .ok (.invokevirtual 68, 3) := by decide +kernel
theorem dX6_of_75 : decode cX6_of 75 = .ok (.invokestatic 71, 3) := by decide +kernel
theorem dX6_of_78 : decode cX6_of 78 = .ok (.ireturn, 1) := by decide +kernel
theorem dX6_of_79 : decode cX6_of 79 = .ok (.iload_n 1, 1) := by decide +kernel
theorem dX6_of_80 : decode cX6_of 80 = .ok (.invokestatic 75, 3) := by decide +kernel
theorem dX6_of_83 : decode cX6_of 83 = .ok (.ireturn, 1) := by decide +kernel
theorem dX6_of_84 : decode cX6_of 84 = .ok (.iload_n 1, 1) := by decide +kernel
theorem dX6_of_85 : decode cX6_of 85 = .ok (.invokestatic 78, 3) := by decide +kernel
theorem dX6_of_88 : decode cX6_of 88 = .ok (.ireturn, 1) := by decide +kernel
theorem dX6_of_89 : decode cX6_of 89 = .ok (.aload_n 0, 1) := by decide +kernel
theorem dX6_of_90 : decode cX6_of 90 = .ok (.getfield 10, 3) := by decide +kernel
theorem dX6_of_93 : decode cX6_of 93 = .ok (.iload_n 1, 1) := by decide +kernel
theorem dX6_of_94 : decode cX6_of 94 = .ok (.invokevirtual 81, 3) := by decide +kernel
theorem dX6_of_97 : decode cX6_of 97 = .ok (.ireturn, 1) := by decide +kernel
theorem dX6_of_98 : decode cX6_of 98 = .ok (.aload_n 0, 1) := by decide +kernel
theorem dX6_of_99 : decode cX6_of 99 = .ok (.getfield 10, 3) := by decide +kernel
theorem dX6_of_102 : decode cX6_of 102 = .ok (.iload_n 1, 1) := by decide +kernel
theorem dX6_of_103 : decode cX6_of 103 = .ok (.invokevirtual 84, 3) := by decide +kernel
theorem dX6_of_106 : decode cX6_of 106 = .ok (.ireturn, 1) := by decide +kernel
theorem dX6_of_107 : decode cX6_of 107 = .ok (.aload_n 0, 1) := by decide +kernel
theorem dX6_of_108 : decode cX6_of 108 = .ok (.getfield 10, 3) := by decide +kernel
theorem dX6_of_111 : decode cX6_of 111 = .ok (.getfield 60, 3) := by decide +kernel
theorem dX6_of_114 : decode cX6_of 114 = .ok (.iload_n 1, 1) := by decide +kernel
theorem dX6_of_115 : decode cX6_of 115 = .ok (.invokevirtual 87, 3) := by decide +kernel
theorem dX6_of_118 : decode cX6_of 118 = .ok (.invokestatic 71, 3) := by decide +kernel
theorem dX6_of_121 : decode cX6_of 121 = .ok (.ireturn, 1) := by decide +kernel
theorem dX6_of_122 : decode cX6_of 122 = .ok (.bipush (-2), 2) := by decide +kernel
theorem dX6_of_124 : decode cX6_of 124 = .ok (.ireturn, 1) := by decide +kernel
set_option maxRecDepth 20000 in
theorem ggX6_cell_X0_isCell : GoodIn wsX6_cell wsX0_isCell := goodIn_r _ [6] rfl (by decide +kernel)
set_option maxRecDepth 20000 in
theorem gX6_cell_X0_isCell : GoodIn wsX6_cell (va_wsS RX6 90 yX0_isCell wsX0_isCell) := goodIn_app (goodIn_of _ (by decide +kernel)) ggX6_cell_X0_isCell
set_option maxRecDepth 20000 in
theorem ggX6_cell_X0_isGone : GoodIn wsX6_cell wsX0_isGone := goodIn_r _ [10, 11, 12, 13, 5, 14, 68, 69, 70, 71, 72] rfl (by decide +kernel)
set_option maxRecDepth 20000 in
theorem gX6_cell_X0_isGone : GoodIn wsX6_cell (wsV RX6 93 RX0 yX0_isGone wsX0_isGone) := goodIn_app (goodIn_of _ (by decide +kernel)) ggX6_cell_X0_isGone
set_option maxRecDepth 20000 in
theorem ggX6_cell_X6_asNumber : GoodIn wsX6_cell wsX6_asNumber := goodIn_r _ [18] rfl (by decide +kernel)
set_option maxRecDepth 20000 in
theorem gX6_cell_X6_asNumber : GoodIn wsX6_cell (va_wsS RX6 71 yX6_asNumber wsX6_asNumber) := goodIn_app (goodIn_of _ (by decide +kernel)) ggX6_cell_X6_asNumber
set_option maxRecDepth 20000 in
theorem ggX6_cell_X0_pieceOf : GoodIn wsX6_cell wsX0_pieceOf := goodIn_r _ [22, 23, 24, 25, 8, 9, 5, 10, 11, 12, 13, 14, 26, 27, 28, 68, 69, 70, 71, 72] rfl (by decide +kernel)
set_option maxRecDepth 20000 in
theorem gX6_cell_X0_pieceOf : GoodIn wsX6_cell (wsV RX6 96 RX0 yX0_pieceOf wsX0_pieceOf) := goodIn_app (goodIn_of _ (by decide +kernel)) ggX6_cell_X0_pieceOf
set_option maxRecDepth 20000 in
theorem ggX6_cell_J13_bitCount_95d88 : GoodIn wsX6_cell wsJ13_bitCount_95d88 := goodIn_r _ [32, 33, 34, 35] rfl (by decide +kernel)
set_option maxRecDepth 20000 in
theorem gX6_cell_J13_bitCount_95d88 : GoodIn wsX6_cell (va_wsS RX6 100 yJ13_bitCount_95d88 wsJ13_bitCount_95d88) := goodIn_app (goodIn_of _ (by decide +kernel)) ggX6_cell_J13_bitCount_95d88
set_option maxRecDepth 20000 in
theorem ggX6_cell_X0_lowestOfPiece : GoodIn wsX6_cell wsX0_lowestOfPiece := goodIn_r _ [39, 40, 20, 21, 5, 22, 23, 24, 25, 8, 9, 10, 11, 12, 13, 14, 26, 27, 28, 68, 69, 70, 71, 72] rfl (by decide +kernel)
set_option maxRecDepth 20000 in
theorem gX6_cell_X0_lowestOfPiece : GoodIn wsX6_cell (wsV RX6 106 RX0 yX0_lowestOfPiece wsX0_lowestOfPiece) := goodIn_app (goodIn_of _ (by decide +kernel)) ggX6_cell_X0_lowestOfPiece
set_option maxRecDepth 20000 in
theorem ggX6_cell_X0_holdsOn : GoodIn wsX6_cell wsX0_holdsOn := goodIn_r _ [44, 45, 46, 47, 5, 48, 24, 23, 49, 50, 51, 52, 53, 54, 12, 13, 14, 55, 56, 57, 68, 69, 70, 71, 72] rfl (by decide +kernel)
set_option maxRecDepth 20000 in
theorem gX6_cell_X0_holdsOn : GoodIn wsX6_cell (wsV RX6 109 RX0 yX0_holdsOn wsX0_holdsOn) := goodIn_app (goodIn_of _ (by decide +kernel)) ggX6_cell_X0_holdsOn
theorem dX6_cell_0 : decode cX6_cell 0 = .ok (.iload_n 1, 1) := by decide +kernel
theorem dX6_cell_1 : decode cX6_cell 1 = .ok (.invokestatic 90, 3) := by decide +kernel
theorem dX6_cell_4 : decode cX6_cell 4 = .ok (.ifCond .ne 5, 3) := by decide +kernel
theorem dX6_cell_7 : decode cX6_cell 7 = .ok (.iconst (-1), 1) := by decide +kernel
theorem dX6_cell_8 : decode cX6_cell 8 = .ok (.ireturn, 1) := by decide +kernel
theorem dX6_cell_9 : decode cX6_cell 9 = .ok (.iload_n 2, 1) := by decide +kernel
theorem dX6_cell_10 : decode cX6_cell 10 = .ok (.tableswitch 84 0 3 #[30, 45, 60, 72], 30) := by decide +kernel
theorem dX6_cell_40 : decode cX6_cell 40 = .ok (.aload_n 0, 1) := by decide +kernel
theorem dX6_cell_41 : decode cX6_cell 41 = .ok (.getfield 10, 3) := by decide +kernel
theorem dX6_cell_44 : decode cX6_cell 44 = .ok (.getfield 60, 3) := by decide +kernel
theorem dX6_cell_47 : decode cX6_cell 47 = .ok (.iload_n 1, 1) := by decide +kernel
theorem dX6_cell_48 : decode cX6_cell 48 = .ok (.invokevirtual 93, 3) := by decide +kernel
theorem dX6_cell_51 : decode cX6_cell 51 = .ok (.invokestatic 71, 3) := by decide +kernel
theorem dX6_cell_54 : decode cX6_cell 54 = .ok (.ireturn, 1) := by decide +kernel
theorem dX6_cell_55 : decode cX6_cell 55 = .ok (.aload_n 0, 1) := by decide +kernel
theorem dX6_cell_56 : decode cX6_cell 56 = .ok (.getfield 10, 3) := by decide +kernel
theorem dX6_cell_59 : decode cX6_cell 59 = .ok (.getfield 60, 3) := by decide +kernel
theorem dX6_cell_62 : decode cX6_cell 62 = .ok (.iload_n 1, 1) := by decide +kernel
theorem dX6_cell_63 : decode cX6_cell 63 = .ok (.invokevirtual 96, 3) := by decide +kernel
theorem dX6_cell_66 : decode cX6_cell 66 = .ok (.invokestatic 100, 3) := by decide +kernel
theorem dX6_cell_69 : decode cX6_cell 69 = .ok (.ireturn, 1) := by decide +kernel
theorem dX6_cell_70 : decode cX6_cell 70 = .ok (.aload_n 0, 1) := by decide +kernel
theorem dX6_cell_71 : decode cX6_cell 71 = .ok (.getfield 10, 3) := by decide +kernel
theorem dX6_cell_74 : decode cX6_cell 74 = .ok (.getfield 60, 3) := by decide +kernel
theorem dX6_cell_77 : decode cX6_cell 77 = .ok (.iload_n 1, 1) := by decide +kernel
theorem dX6_cell_78 : decode cX6_cell 78 = .ok (.invokevirtual 106, 3) := by decide +kernel
theorem dX6_cell_81 : decode cX6_cell 81 = .ok (.ireturn, 1) := by decide +kernel
theorem dX6_cell_82 : decode cX6_cell 82 = .ok (.aload_n 0, 1) := by decide +kernel
theorem dX6_cell_83 : decode cX6_cell 83 = .ok (.getfield 10, 3) := by decide +kernel
theorem dX6_cell_86 : decode cX6_cell 86 = .ok (.getfield 60, 3) := by decide +kernel
theorem dX6_cell_89 : decode cX6_cell 89 = .ok (.iload_n 1, 1) := by decide +kernel
theorem dX6_cell_90 : decode cX6_cell 90 = .ok (.invokevirtual 109, 3) := by decide +kernel
theorem dX6_cell_93 : decode cX6_cell 93 = .ok (.ireturn, 1) := by decide +kernel
theorem dX6_cell_94 : decode cX6_cell 94 = .ok (.bipush (-2), 2) := by decide +kernel
theorem dX6_cell_96 : decode cX6_cell 96 = .ok (.ireturn, 1) := by decide +kernel
set_option maxRecDepth 20000 in
theorem ggX6_player_X1_isPlayer : GoodIn wsX6_player wsX1_isPlayer := goodIn_r _ [13] rfl (by decide +kernel)
set_option maxRecDepth 20000 in
theorem gX6_player_X1_isPlayer : GoodIn wsX6_player (va_wsS RX6 112 yX1_isPlayer wsX1_isPlayer) := goodIn_app (goodIn_of _ (by decide +kernel)) ggX6_player_X1_isPlayer
set_option maxRecDepth 20000 in
theorem ggX6_player_X1_tailorOf : GoodIn wsX6_player wsX1_tailorOf := goodIn_r _ [17, 18, 19, 34, 35, 36, 37, 38] rfl (by decide +kernel)
set_option maxRecDepth 20000 in
theorem gX6_player_X1_tailorOf : GoodIn wsX6_player (wsV RX6 115 RX1 yX1_tailorOf wsX1_tailorOf) := goodIn_app (goodIn_of _ (by decide +kernel)) ggX6_player_X1_tailorOf
theorem dX6_player_0 : decode cX6_player 0 = .ok (.iload_n 1, 1) := by decide +kernel
theorem dX6_player_1 : decode cX6_player 1 = .ok (.invokestatic 112, 3) := by decide +kernel
theorem dX6_player_4 : decode cX6_player 4 = .ok (.ifCond .ne 5, 3) := by decide +kernel
theorem dX6_player_7 : decode cX6_player 7 = .ok (.iconst (-1), 1) := by decide +kernel
theorem dX6_player_8 : decode cX6_player 8 = .ok (.ireturn, 1) := by decide +kernel
theorem dX6_player_9 : decode cX6_player 9 = .ok (.aload_n 0, 1) := by decide +kernel
theorem dX6_player_10 : decode cX6_player 10 = .ok (.getfield 10, 3) := by decide +kernel
theorem dX6_player_13 : decode cX6_player 13 = .ok (.iload_n 1, 1) := by decide +kernel
theorem dX6_player_14 : decode cX6_player 14 = .ok (.invokevirtual 115, 3) := by decide +kernel
theorem dX6_player_17 : decode cX6_player 17 = .ok (.astore_n 3, 1) := by decide +kernel
theorem dX6_player_18 : decode cX6_player 18 = .ok (.iload_n 2, 1) := by decide +kernel
theorem dX6_player_19 : decode cX6_player 19 = .ok (.tableswitch 89 0 7 #[45, 54, 59, 64, 69, 74, 79, 84], 45) := by decide +kernel
theorem dX6_player_64 : decode cX6_player 64 = .ok (.aload_n 3, 1) := by decide +kernel
theorem dX6_player_65 : decode cX6_player 65 = .ok (.getfield 119, 3) := by decide +kernel
theorem dX6_player_68 : decode cX6_player 68 = .ok (.sipush 500, 3) := by decide +kernel
theorem dX6_player_71 : decode cX6_player 71 = .ok (.iadd, 1) := by decide +kernel
theorem dX6_player_72 : decode cX6_player 72 = .ok (.ireturn, 1) := by decide +kernel
theorem dX6_player_73 : decode cX6_player 73 = .ok (.aload_n 3, 1) := by decide +kernel
theorem dX6_player_74 : decode cX6_player 74 = .ok (.getfield 125, 3) := by decide +kernel
theorem dX6_player_77 : decode cX6_player 77 = .ok (.ireturn, 1) := by decide +kernel
theorem dX6_player_78 : decode cX6_player 78 = .ok (.aload_n 3, 1) := by decide +kernel
theorem dX6_player_79 : decode cX6_player 79 = .ok (.getfield 128, 3) := by decide +kernel
theorem dX6_player_82 : decode cX6_player 82 = .ok (.ireturn, 1) := by decide +kernel
theorem dX6_player_83 : decode cX6_player 83 = .ok (.aload_n 3, 1) := by decide +kernel
theorem dX6_player_84 : decode cX6_player 84 = .ok (.getfield 131, 3) := by decide +kernel
theorem dX6_player_87 : decode cX6_player 87 = .ok (.ireturn, 1) := by decide +kernel
theorem dX6_player_88 : decode cX6_player 88 = .ok (.aload_n 3, 1) := by decide +kernel
theorem dX6_player_89 : decode cX6_player 89 = .ok (.getfield 134, 3) := by decide +kernel
theorem dX6_player_92 : decode cX6_player 92 = .ok (.ireturn, 1) := by decide +kernel
theorem dX6_player_93 : decode cX6_player 93 = .ok (.aload_n 3, 1) := by decide +kernel
theorem dX6_player_94 : decode cX6_player 94 = .ok (.getfield 137, 3) := by decide +kernel
theorem dX6_player_97 : decode cX6_player 97 = .ok (.ireturn, 1) := by decide +kernel
theorem dX6_player_98 : decode cX6_player 98 = .ok (.aload_n 3, 1) := by decide +kernel
theorem dX6_player_99 : decode cX6_player 99 = .ok (.getfield 140, 3) := by decide +kernel
theorem dX6_player_102 : decode cX6_player 102 = .ok (.ireturn, 1) := by decide +kernel
theorem dX6_player_103 : decode cX6_player 103 = .ok (.aload_n 3, 1) := by decide +kernel
theorem dX6_player_104 : decode cX6_player 104 = .ok (.getfield 143, 3) := by decide +kernel
theorem dX6_player_107 : decode cX6_player 107 = .ok (.ireturn, 1) := by decide +kernel
theorem dX6_player_108 : decode cX6_player 108 = .ok (.bipush (-2), 2) := by decide +kernel
theorem dX6_player_110 : decode cX6_player 110 = .ok (.ireturn, 1) := by decide +kernel
set_option maxRecDepth 20000 in
theorem ggX6_chalked_X1_isPlayer : GoodIn wsX6_chalked wsX1_isPlayer := goodIn_r _ [5] rfl (by decide +kernel)
set_option maxRecDepth 20000 in
theorem gX6_chalked_X1_isPlayer : GoodIn wsX6_chalked (va_wsS RX6 112 yX1_isPlayer wsX1_isPlayer) := goodIn_app (goodIn_of _ (by decide +kernel)) ggX6_chalked_X1_isPlayer
set_option maxRecDepth 20000 in
theorem ggX6_chalked_X1_tailorOf : GoodIn wsX6_chalked wsX1_tailorOf := goodIn_r _ [9, 10, 11, 24, 25, 26, 27, 28] rfl (by decide +kernel)
set_option maxRecDepth 20000 in
theorem gX6_chalked_X1_tailorOf : GoodIn wsX6_chalked (wsV RX6 115 RX1 yX1_tailorOf wsX1_tailorOf) := goodIn_app (goodIn_of _ (by decide +kernel)) ggX6_chalked_X1_tailorOf
set_option maxRecDepth 20000 in
theorem ggX6_chalked_X5_markAt : GoodIn wsX6_chalked wsX5_markAt := goodIn_r _ [16, 17, 18, 29, 30, 31, 32, 33, 34, 35, 36, 37] rfl (by decide +kernel)
set_option maxRecDepth 20000 in
theorem gX6_chalked_X5_markAt : GoodIn wsX6_chalked (wsV RX6 146 RX5 yX5_markAt wsX5_markAt) := goodIn_app (goodIn_of _ (by decide +kernel)) ggX6_chalked_X5_markAt
theorem dX6_chalked_0 : decode cX6_chalked 0 = .ok (.iload_n 1, 1) := by decide +kernel
theorem dX6_chalked_1 : decode cX6_chalked 1 = .ok (.invokestatic 112, 3) := by decide +kernel
theorem dX6_chalked_4 : decode cX6_chalked 4 = .ok (.ifCond .ne 5, 3) := by decide +kernel
theorem dX6_chalked_7 : decode cX6_chalked 7 = .ok (.iconst (-1), 1) := by decide +kernel
theorem dX6_chalked_8 : decode cX6_chalked 8 = .ok (.ireturn, 1) := by decide +kernel
theorem dX6_chalked_9 : decode cX6_chalked 9 = .ok (.aload_n 0, 1) := by decide +kernel
theorem dX6_chalked_10 : decode cX6_chalked 10 = .ok (.getfield 10, 3) := by decide +kernel
theorem dX6_chalked_13 : decode cX6_chalked 13 = .ok (.iload_n 1, 1) := by decide +kernel
theorem dX6_chalked_14 : decode cX6_chalked 14 = .ok (.invokevirtual 115, 3) := by decide +kernel
theorem dX6_chalked_17 : decode cX6_chalked 17 = .ok (.iload_n 2, 1) := by decide +kernel
theorem dX6_chalked_18 : decode cX6_chalked 18 = .ok (.invokevirtual 146, 3) := by decide +kernel
theorem dX6_chalked_21 : decode cX6_chalked 21 = .ok (.ireturn, 1) := by decide +kernel
set_option maxRecDepth 20000 in
theorem ggX6_count_X1_isOver : GoodIn wsX6_count wsX1_isOver := goodIn_r _ [13, 14, 15, 16, 17, 18, 19, 20, 21, 22, 23, 24, 25, 26, 27, 28, 82, 83, 84, 85, 86, 92, 93, 94, 95, 96] rfl (by decide +kernel)
set_option maxRecDepth 20000 in
theorem gX6_count_X1_isOver : GoodIn wsX6_count (wsV RX6 155 RX1 yX1_isOver wsX1_isOver) := goodIn_app (goodIn_of _ (by decide +kernel)) ggX6_count_X1_isOver
set_option maxRecDepth 20000 in
theorem ggX6_count_X6_asNumber : GoodIn wsX6_count wsX6_asNumber := goodIn_r _ [32] rfl (by decide +kernel)
set_option maxRecDepth 20000 in
theorem gX6_count_X6_asNumber : GoodIn wsX6_count (va_wsS RX6 71 yX6_asNumber wsX6_asNumber) := goodIn_app (goodIn_of _ (by decide +kernel)) ggX6_count_X6_asNumber
set_option maxRecDepth 20000 in
theorem ggX6_count_X1_winner : GoodIn wsX6_count wsX1_winner := goodIn_r _ [36, 37, 38, 39, 40, 10, 11, 12, 13, 14, 15, 16, 17, 18, 19, 20, 21, 22, 23, 24, 25, 26, 27, 28, 82, 83, 84, 85, 86, 97, 98, 99, 100, 101, 102, 103, 104, 105, 92, 93, 94, 95, 96] rfl (by decide +kernel)
set_option maxRecDepth 20000 in
theorem gX6_count_X1_winner : GoodIn wsX6_count (wsV RX6 159 RX1 yX1_winner wsX1_winner) := goodIn_app (goodIn_of _ (by decide +kernel)) ggX6_count_X1_winner
set_option maxRecDepth 20000 in
theorem ggX6_count_X0_cellsLeft : GoodIn wsX6_count wsX0_cellsLeft := goodIn_r _ [20, 21, 22, 23, 24, 25, 26, 27, 28, 92, 93, 94, 95, 96] rfl (by decide +kernel)
set_option maxRecDepth 20000 in
theorem gX6_count_X0_cellsLeft : GoodIn wsX6_count (wsV RX6 163 RX0 yX0_cellsLeft wsX0_cellsLeft) := goodIn_app (goodIn_of _ (by decide +kernel)) ggX6_count_X0_cellsLeft
set_option maxRecDepth 20000 in
theorem ggX6_count_X0_pieces : GoodIn wsX6_count wsX0_pieces := goodIn_r _ [45, 21, 46, 47, 19, 48, 49, 50, 51, 52, 53, 54, 55, 56, 57, 58, 59, 60, 61, 92, 93, 94, 95, 96] rfl (by decide +kernel)
set_option maxRecDepth 20000 in
theorem gX6_count_X0_pieces : GoodIn wsX6_count (wsV RX6 166 RX0 yX0_pieces wsX0_pieces) := goodIn_app (goodIn_of _ (by decide +kernel)) ggX6_count_X0_pieces
set_option maxRecDepth 20000 in
theorem ggX6_count_X0_jointsThatAre : GoodIn wsX6_count wsX0_jointsThatAre := goodIn_r _ [65, 66, 67, 68, 69, 19, 70, 21, 71, 72, 73, 74, 75, 76, 46, 47, 48, 92, 93, 94, 95, 96] rfl (by decide +kernel)
set_option maxRecDepth 20000 in
theorem gX6_count_X0_jointsThatAre : GoodIn wsX6_count (wsV RX6 169 RX0 yX0_jointsThatAre wsX0_jointsThatAre) := goodIn_app (goodIn_of _ (by decide +kernel)) ggX6_count_X0_jointsThatAre
