def ch_wsX0_init : List (List Cond) := [[.code yX0_init cX0_init 2 none], [.methodLink RX0 3 objectInit, .instanceMethod objectInit, .code objectInit ⟨#[0xb1]⟩ 1 none, .arrayClass .int, .fieldLink RX0 11 "TailorChalks$Cloth" "states" "[I", .fieldLink RX0 15 "TailorChalks$Cloth" "makers" "[I", .methodLink RX0 18 yX0_make, .instanceMethod yX0_make, .selects RX0 yX0_make yX0_make, .initialized RX0, .code yX0_make cX0_make 8 none, .fieldLink RX0 29 "TailorChalks$Cloth" "heldDown" "J", .constantLong RX0 53 (-1), .fieldLink RX0 26 "TailorChalks$Cloth" "heldAcross" "J", .methodLink RX0 40 yX0_isJoint, .static yX0_isJoint, .code yX0_isJoint cX0_isJoint 1 (some .boolean), .methodLink RX0 32 yX0_firstCell, .static yX0_firstCell, .code yX0_firstCell cX0_firstCell 1 (some .int), .methodLink RX0 36 yX0_isDown, .static yX0_isDown, .code yX0_isDown cX0_isDown 1 (some .boolean)], wsX00]
set_option maxRecDepth 20000 in
theorem hf_wsX0_init : wsX0_init = (ch_wsX0_init).flatten := rfl
set_option maxRecDepth 20000 in
theorem hg_wsX0_init : (wsX0_init).all goodWord = true := by decide +kernel
set_option maxRecDepth 20000 in
theorem gX0_init_X0_make : GoodIn wsX0_init (wsV RX0 18 RX0 yX0_make wsX0_make) := goodIn_c ch_wsX0_init hf_wsX0_init hg_wsX0_init _ [(1, 6), (1, 7), (1, 8), (1, 9), (1, 10), (1, 4), (1, 5), (1, 11), (1, 12), (1, 13), (1, 14), (1, 15), (1, 9), (1, 16), (1, 17), (1, 18), (1, 19), (1, 20), (1, 21), (1, 22), (2, 0), (2, 1), (2, 2), (2, 3), (2, 4)] rfl
theorem dX0_init_0 : decode cX0_init 0 = .ok (.aload_n 0, 1) := by decide +kernel
theorem dX0_init_1 : decode cX0_init 1 = .ok (.invokespecial 3, 3) := by decide +kernel
theorem dX0_init_4 : decode cX0_init 4 = .ok (.aload_n 0, 1) := by decide +kernel
theorem dX0_init_5 : decode cX0_init 5 = .ok (.bipush 82, 2) := by decide +kernel
theorem dX0_init_7 : decode cX0_init 7 = .ok (.newarray .int, 2) := by decide +kernel
theorem dX0_init_9 : decode cX0_init 9 = .ok (.putfield 11, 3) := by decide +kernel
theorem dX0_init_12 : decode cX0_init 12 = .ok (.aload_n 0, 1) := by decide +kernel
theorem dX0_init_13 : decode cX0_init 13 = .ok (.bipush 82, 2) := by decide +kernel
theorem dX0_init_15 : decode cX0_init 15 = .ok (.newarray .int, 2) := by decide +kernel
theorem dX0_init_17 : decode cX0_init 17 = .ok (.putfield 15, 3) := by decide +kernel
theorem dX0_init_20 : decode cX0_init 20 = .ok (.iconst 0, 1) := by decide +kernel
theorem dX0_init_21 : decode cX0_init 21 = .ok (.istore_n 1, 1) := by decide +kernel
theorem dX0_init_22 : decode cX0_init 22 = .ok (.iload_n 1, 1) := by decide +kernel
theorem dX0_init_23 : decode cX0_init 23 = .ok (.bipush 82, 2) := by decide +kernel
theorem dX0_init_25 : decode cX0_init 25 = .ok (.if_icmp .ge 17, 3) := by decide +kernel
theorem dX0_init_28 : decode cX0_init 28 = .ok (.aload_n 0, 1) := by decide +kernel
theorem dX0_init_29 : decode cX0_init 29 = .ok (.iload_n 1, 1) := by decide +kernel
theorem dX0_init_30 : decode cX0_init 30 = .ok (.iconst 0, 1) := by decide +kernel
theorem dX0_init_31 : decode cX0_init 31 = .ok (.bipush (-6), 2) := by decide +kernel
theorem dX0_init_33 : decode cX0_init 33 = .ok (.invokevirtual 18, 3) := by decide +kernel
theorem dX0_init_36 : decode cX0_init 36 = .ok (.iinc 1 1, 3) := by decide +kernel
theorem dX0_init_39 : decode cX0_init 39 = .ok (.goto (-17), 3) := by decide +kernel
theorem dX0_init_42 : decode cX0_init 42 = .ok (.return_, 1) := by decide +kernel
theorem dX0_become_0 : decode cX0_become 0 = .ok (.iconst 0, 1) := by decide +kernel
theorem dX0_become_1 : decode cX0_become 1 = .ok (.istore_n 2, 1) := by decide +kernel
theorem dX0_become_2 : decode cX0_become 2 = .ok (.iload_n 2, 1) := by decide +kernel
theorem dX0_become_3 : decode cX0_become 3 = .ok (.bipush 82, 2) := by decide +kernel
theorem dX0_become_5 : decode cX0_become 5 = .ok (.if_icmp .ge 33, 3) := by decide +kernel
theorem dX0_become_8 : decode cX0_become 8 = .ok (.aload_n 0, 1) := by decide +kernel
theorem dX0_become_9 : decode cX0_become 9 = .ok (.getfield 11, 3) := by decide +kernel
theorem dX0_become_12 : decode cX0_become 12 = .ok (.iload_n 2, 1) := by decide +kernel
theorem dX0_become_13 : decode cX0_become 13 = .ok (.aload_n 1, 1) := by decide +kernel
theorem dX0_become_14 : decode cX0_become 14 = .ok (.getfield 11, 3) := by decide +kernel
theorem dX0_become_17 : decode cX0_become 17 = .ok (.iload_n 2, 1) := by decide +kernel
theorem dX0_become_18 : decode cX0_become 18 = .ok (.iaload, 1) := by decide +kernel
theorem dX0_become_19 : decode cX0_become 19 = .ok (.iastore, 1) := by decide +kernel
theorem dX0_become_20 : decode cX0_become 20 = .ok (.aload_n 0, 1) := by decide +kernel
theorem dX0_become_21 : decode cX0_become 21 = .ok (.getfield 15, 3) := by decide +kernel
theorem dX0_become_24 : decode cX0_become 24 = .ok (.iload_n 2, 1) := by decide +kernel
theorem dX0_become_25 : decode cX0_become 25 = .ok (.aload_n 1, 1) := by decide +kernel
theorem dX0_become_26 : decode cX0_become 26 = .ok (.getfield 15, 3) := by decide +kernel
theorem dX0_become_29 : decode cX0_become 29 = .ok (.iload_n 2, 1) := by decide +kernel
theorem dX0_become_30 : decode cX0_become 30 = .ok (.iaload, 1) := by decide +kernel
theorem dX0_become_31 : decode cX0_become 31 = .ok (.iastore, 1) := by decide +kernel
theorem dX0_become_32 : decode cX0_become 32 = .ok (.iinc 2 1, 3) := by decide +kernel
theorem dX0_become_35 : decode cX0_become 35 = .ok (.goto (-33), 3) := by decide +kernel
theorem dX0_become_38 : decode cX0_become 38 = .ok (.aload_n 0, 1) := by decide +kernel
theorem dX0_become_39 : decode cX0_become 39 = .ok (.aload_n 1, 1) := by decide +kernel
theorem dX0_become_40 : decode cX0_become 40 = .ok (.getfield 22, 3) := by decide +kernel
theorem dX0_become_43 : decode cX0_become 43 = .ok (.putfield 22, 3) := by decide +kernel
theorem dX0_become_46 : decode cX0_become 46 = .ok (.aload_n 0, 1) := by decide +kernel
theorem dX0_become_47 : decode cX0_become 47 = .ok (.aload_n 1, 1) := by decide +kernel
theorem dX0_become_48 : decode cX0_become 48 = .ok (.getfield 26, 3) := by decide +kernel
theorem dX0_become_51 : decode cX0_become 51 = .ok (.putfield 26, 3) := by decide +kernel
theorem dX0_become_54 : decode cX0_become 54 = .ok (.aload_n 0, 1) := by decide +kernel
theorem dX0_become_55 : decode cX0_become 55 = .ok (.aload_n 1, 1) := by decide +kernel
theorem dX0_become_56 : decode cX0_become 56 = .ok (.getfield 29, 3) := by decide +kernel
theorem dX0_become_59 : decode cX0_become 59 = .ok (.putfield 29, 3) := by decide +kernel
theorem dX0_become_62 : decode cX0_become 62 = .ok (.return_, 1) := by decide +kernel
theorem dX0_isJoint_0 : decode cX0_isJoint 0 = .ok (.iload_n 0, 1) := by decide +kernel
theorem dX0_isJoint_1 : decode cX0_isJoint 1 = .ok (.ifCond .lt 13, 3) := by decide +kernel
theorem dX0_isJoint_4 : decode cX0_isJoint 4 = .ok (.iload_n 0, 1) := by decide +kernel
theorem dX0_isJoint_5 : decode cX0_isJoint 5 = .ok (.bipush 82, 2) := by decide +kernel
theorem dX0_isJoint_7 : decode cX0_isJoint 7 = .ok (.if_icmp .ge 7, 3) := by decide +kernel
theorem dX0_isJoint_10 : decode cX0_isJoint 10 = .ok (.iconst 1, 1) := by decide +kernel
theorem dX0_isJoint_11 : decode cX0_isJoint 11 = .ok (.goto 4, 3) := by decide +kernel
theorem dX0_isJoint_14 : decode cX0_isJoint 14 = .ok (.iconst 0, 1) := by decide +kernel
theorem dX0_isJoint_15 : decode cX0_isJoint 15 = .ok (.ireturn, 1) := by decide +kernel
theorem dX0_isCell_0 : decode cX0_isCell 0 = .ok (.iload_n 0, 1) := by decide +kernel
theorem dX0_isCell_1 : decode cX0_isCell 1 = .ok (.ifCond .lt 13, 3) := by decide +kernel
theorem dX0_isCell_4 : decode cX0_isCell 4 = .ok (.iload_n 0, 1) := by decide +kernel
theorem dX0_isCell_5 : decode cX0_isCell 5 = .ok (.bipush 48, 2) := by decide +kernel
theorem dX0_isCell_7 : decode cX0_isCell 7 = .ok (.if_icmp .ge 7, 3) := by decide +kernel
theorem dX0_isCell_10 : decode cX0_isCell 10 = .ok (.iconst 1, 1) := by decide +kernel
theorem dX0_isCell_11 : decode cX0_isCell 11 = .ok (.goto 4, 3) := by decide +kernel
theorem dX0_isCell_14 : decode cX0_isCell 14 = .ok (.iconst 0, 1) := by decide +kernel
theorem dX0_isCell_15 : decode cX0_isCell 15 = .ok (.ireturn, 1) := by decide +kernel
theorem dX0_isDown_0 : decode cX0_isDown 0 = .ok (.iload_n 0, 1) := by decide +kernel
theorem dX0_isDown_1 : decode cX0_isDown 1 = .ok (.bipush 42, 2) := by decide +kernel
theorem dX0_isDown_3 : decode cX0_isDown 3 = .ok (.if_icmp .lt 7, 3) := by decide +kernel
theorem dX0_isDown_6 : decode cX0_isDown 6 = .ok (.iconst 1, 1) := by decide +kernel
theorem dX0_isDown_7 : decode cX0_isDown 7 = .ok (.goto 4, 3) := by decide +kernel
theorem dX0_isDown_10 : decode cX0_isDown 10 = .ok (.iconst 0, 1) := by decide +kernel
theorem dX0_isDown_11 : decode cX0_isDown 11 = .ok (.ireturn, 1) := by decide +kernel
theorem dX0_firstCell_0 : decode cX0_firstCell 0 = .ok (.iload_n 0, 1) := by decide +kernel
theorem dX0_firstCell_1 : decode cX0_firstCell 1 = .ok (.bipush 42, 2) := by decide +kernel
theorem dX0_firstCell_3 : decode cX0_firstCell 3 = .ok (.if_icmp .lt 8, 3) := by decide +kernel
theorem dX0_firstCell_6 : decode cX0_firstCell 6 = .ok (.iload_n 0, 1) := by decide +kernel
theorem dX0_firstCell_7 : decode cX0_firstCell 7 = .ok (.bipush 42, 2) := by decide +kernel
theorem dX0_firstCell_9 : decode cX0_firstCell 9 = .ok (.isub, 1) := by decide +kernel
theorem dX0_firstCell_10 : decode cX0_firstCell 10 = .ok (.ireturn, 1) := by decide +kernel
theorem dX0_firstCell_11 : decode cX0_firstCell 11 = .ok (.bipush 8, 2) := by decide +kernel
theorem dX0_firstCell_13 : decode cX0_firstCell 13 = .ok (.iload_n 0, 1) := by decide +kernel
theorem dX0_firstCell_14 : decode cX0_firstCell 14 = .ok (.bipush 7, 2) := by decide +kernel
theorem dX0_firstCell_16 : decode cX0_firstCell 16 = .ok (.idiv, 1) := by decide +kernel
theorem dX0_firstCell_17 : decode cX0_firstCell 17 = .ok (.imul, 1) := by decide +kernel
theorem dX0_firstCell_18 : decode cX0_firstCell 18 = .ok (.iload_n 0, 1) := by decide +kernel
theorem dX0_firstCell_19 : decode cX0_firstCell 19 = .ok (.bipush 7, 2) := by decide +kernel
theorem dX0_firstCell_21 : decode cX0_firstCell 21 = .ok (.irem, 1) := by decide +kernel
theorem dX0_firstCell_22 : decode cX0_firstCell 22 = .ok (.iadd, 1) := by decide +kernel
theorem dX0_firstCell_23 : decode cX0_firstCell 23 = .ok (.ireturn, 1) := by decide +kernel
def ch_wsX0_secondCell : List (List Cond) := [[.code yX0_secondCell cX0_secondCell 1 (some .int)], [.methodLink RX0 32 yX0_firstCell, .static yX0_firstCell, .initialized RX0, .code yX0_firstCell cX0_firstCell 1 (some .int), .methodLink RX0 36 yX0_isDown, .static yX0_isDown, .code yX0_isDown cX0_isDown 1 (some .boolean)]]
set_option maxRecDepth 20000 in
theorem hf_wsX0_secondCell : wsX0_secondCell = (ch_wsX0_secondCell).flatten := rfl
set_option maxRecDepth 20000 in
theorem hg_wsX0_secondCell : (wsX0_secondCell).all goodWord = true := by decide +kernel
set_option maxRecDepth 20000 in
theorem gX0_secondCell_X0_firstCell : GoodIn wsX0_secondCell (va_wsS RX0 32 yX0_firstCell wsX0_firstCell) := goodIn_c ch_wsX0_secondCell hf_wsX0_secondCell hg_wsX0_secondCell _ [(1, 0), (1, 1), (1, 2), (1, 3)] rfl
set_option maxRecDepth 20000 in
theorem gX0_secondCell_X0_isDown : GoodIn wsX0_secondCell (va_wsS RX0 36 yX0_isDown wsX0_isDown) := goodIn_c ch_wsX0_secondCell hf_wsX0_secondCell hg_wsX0_secondCell _ [(1, 4), (1, 5), (1, 2), (1, 6)] rfl
theorem dX0_secondCell_0 : decode cX0_secondCell 0 = .ok (.iload_n 0, 1) := by decide +kernel
theorem dX0_secondCell_1 : decode cX0_secondCell 1 = .ok (.invokestatic 32, 3) := by decide +kernel
theorem dX0_secondCell_4 : decode cX0_secondCell 4 = .ok (.iload_n 0, 1) := by decide +kernel
theorem dX0_secondCell_5 : decode cX0_secondCell 5 = .ok (.invokestatic 36, 3) := by decide +kernel
theorem dX0_secondCell_8 : decode cX0_secondCell 8 = .ok (.ifCond .eq 8, 3) := by decide +kernel
theorem dX0_secondCell_11 : decode cX0_secondCell 11 = .ok (.bipush 8, 2) := by decide +kernel
theorem dX0_secondCell_13 : decode cX0_secondCell 13 = .ok (.goto 4, 3) := by decide +kernel
theorem dX0_secondCell_16 : decode cX0_secondCell 16 = .ok (.iconst 1, 1) := by decide +kernel
theorem dX0_secondCell_17 : decode cX0_secondCell 17 = .ok (.iadd, 1) := by decide +kernel
theorem dX0_secondCell_18 : decode cX0_secondCell 18 = .ok (.ireturn, 1) := by decide +kernel
theorem dX0_has_0 : decode cX0_has 0 = .ok (.lload_n 0, 1) := by decide +kernel
theorem dX0_has_1 : decode cX0_has 1 = .ok (.iload_n 2, 1) := by decide +kernel
theorem dX0_has_2 : decode cX0_has 2 = .ok (.lushr, 1) := by decide +kernel
theorem dX0_has_3 : decode cX0_has 3 = .ok (.lconst 1, 1) := by decide +kernel
theorem dX0_has_4 : decode cX0_has 4 = .ok (.land, 1) := by decide +kernel
theorem dX0_has_5 : decode cX0_has 5 = .ok (.lconst 0, 1) := by decide +kernel
theorem dX0_has_6 : decode cX0_has 6 = .ok (.lcmp, 1) := by decide +kernel
theorem dX0_has_7 : decode cX0_has 7 = .ok (.ifCond .eq 7, 3) := by decide +kernel
theorem dX0_has_10 : decode cX0_has 10 = .ok (.iconst 1, 1) := by decide +kernel
theorem dX0_has_11 : decode cX0_has 11 = .ok (.goto 4, 3) := by decide +kernel
theorem dX0_has_14 : decode cX0_has 14 = .ok (.iconst 0, 1) := by decide +kernel
theorem dX0_has_15 : decode cX0_has 15 = .ok (.ireturn, 1) := by decide +kernel
def ch_wsX0_stateOf : List (List Cond) := [[.code yX0_stateOf cX0_stateOf 2 (some .int)], [.fieldLink RX0 11 "TailorChalks$Cloth" "states" "[I", .methodLink RX0 40 yX0_isJoint, .static yX0_isJoint, .initialized RX0, .code yX0_isJoint cX0_isJoint 1 (some .boolean)], wsX00]
set_option maxRecDepth 20000 in
theorem hf_wsX0_stateOf : wsX0_stateOf = (ch_wsX0_stateOf).flatten := rfl
set_option maxRecDepth 20000 in
theorem hg_wsX0_stateOf : (wsX0_stateOf).all goodWord = true := by decide +kernel
set_option maxRecDepth 20000 in
theorem gX0_stateOf_X0_isJoint : GoodIn wsX0_stateOf (va_wsS RX0 40 yX0_isJoint wsX0_isJoint) := goodIn_c ch_wsX0_stateOf hf_wsX0_stateOf hg_wsX0_stateOf _ [(1, 1), (1, 2), (1, 3), (1, 4)] rfl
theorem dX0_stateOf_0 : decode cX0_stateOf 0 = .ok (.iload_n 1, 1) := by decide +kernel
theorem dX0_stateOf_1 : decode cX0_stateOf 1 = .ok (.invokestatic 40, 3) := by decide +kernel
theorem dX0_stateOf_4 : decode cX0_stateOf 4 = .ok (.ifCond .eq 12, 3) := by decide +kernel
theorem dX0_stateOf_7 : decode cX0_stateOf 7 = .ok (.aload_n 0, 1) := by decide +kernel
theorem dX0_stateOf_8 : decode cX0_stateOf 8 = .ok (.getfield 11, 3) := by decide +kernel
theorem dX0_stateOf_11 : decode cX0_stateOf 11 = .ok (.iload_n 1, 1) := by decide +kernel
theorem dX0_stateOf_12 : decode cX0_stateOf 12 = .ok (.iaload, 1) := by decide +kernel
theorem dX0_stateOf_13 : decode cX0_stateOf 13 = .ok (.goto 4, 3) := by decide +kernel
theorem dX0_stateOf_16 : decode cX0_stateOf 16 = .ok (.iconst 1, 1) := by decide +kernel
theorem dX0_stateOf_17 : decode cX0_stateOf 17 = .ok (.ireturn, 1) := by decide +kernel
def ch_wsX0_makerOf : List (List Cond) := [[.code yX0_makerOf cX0_makerOf 2 (some .int)], [.fieldLink RX0 15 "TailorChalks$Cloth" "makers" "[I", .methodLink RX0 40 yX0_isJoint, .static yX0_isJoint, .initialized RX0, .code yX0_isJoint cX0_isJoint 1 (some .boolean)], wsX00]
set_option maxRecDepth 20000 in
theorem hf_wsX0_makerOf : wsX0_makerOf = (ch_wsX0_makerOf).flatten := rfl
set_option maxRecDepth 20000 in
theorem hg_wsX0_makerOf : (wsX0_makerOf).all goodWord = true := by decide +kernel
set_option maxRecDepth 20000 in
theorem gX0_makerOf_X0_isJoint : GoodIn wsX0_makerOf (va_wsS RX0 40 yX0_isJoint wsX0_isJoint) := goodIn_c ch_wsX0_makerOf hf_wsX0_makerOf hg_wsX0_makerOf _ [(1, 1), (1, 2), (1, 3), (1, 4)] rfl
theorem dX0_makerOf_0 : decode cX0_makerOf 0 = .ok (.iload_n 1, 1) := by decide +kernel
theorem dX0_makerOf_1 : decode cX0_makerOf 1 = .ok (.invokestatic 40, 3) := by decide +kernel
theorem dX0_makerOf_4 : decode cX0_makerOf 4 = .ok (.ifCond .eq 12, 3) := by decide +kernel
theorem dX0_makerOf_7 : decode cX0_makerOf 7 = .ok (.aload_n 0, 1) := by decide +kernel
theorem dX0_makerOf_8 : decode cX0_makerOf 8 = .ok (.getfield 15, 3) := by decide +kernel
theorem dX0_makerOf_11 : decode cX0_makerOf 11 = .ok (.iload_n 1, 1) := by decide +kernel
theorem dX0_makerOf_12 : decode cX0_makerOf 12 = .ok (.iaload, 1) := by decide +kernel
theorem dX0_makerOf_13 : decode cX0_makerOf 13 = .ok (.goto 5, 3) := by decide +kernel
theorem dX0_makerOf_16 : decode cX0_makerOf 16 = .ok (.bipush (-6), 2) := by decide +kernel
theorem dX0_makerOf_18 : decode cX0_makerOf 18 = .ok (.ireturn, 1) := by decide +kernel
def ch_wsX0_isVoid : List (List Cond) := [[.code yX0_isVoid cX0_isVoid 4 (some .boolean)], [.fieldLink RX0 22 "TailorChalks$Cloth" "gone" "J", .methodLink RX0 36 yX0_isDown, .static yX0_isDown, .initialized RX0, .code yX0_isDown cX0_isDown 1 (some .boolean), .methodLink RX0 32 yX0_firstCell, .static yX0_firstCell, .code yX0_firstCell cX0_firstCell 1 (some .int), .methodLink RX0 43 yX0_has, .static yX0_has, .code yX0_has cX0_has 3 (some .boolean)], wsX00]
set_option maxRecDepth 20000 in
theorem hf_wsX0_isVoid : wsX0_isVoid = (ch_wsX0_isVoid).flatten := rfl
set_option maxRecDepth 20000 in
theorem hg_wsX0_isVoid : (wsX0_isVoid).all goodWord = true := by decide +kernel
set_option maxRecDepth 20000 in
theorem gX0_isVoid_X0_isDown : GoodIn wsX0_isVoid (va_wsS RX0 36 yX0_isDown wsX0_isDown) := goodIn_c ch_wsX0_isVoid hf_wsX0_isVoid hg_wsX0_isVoid _ [(1, 1), (1, 2), (1, 3), (1, 4)] rfl
set_option maxRecDepth 20000 in
theorem gX0_isVoid_X0_firstCell : GoodIn wsX0_isVoid (va_wsS RX0 32 yX0_firstCell wsX0_firstCell) := goodIn_c ch_wsX0_isVoid hf_wsX0_isVoid hg_wsX0_isVoid _ [(1, 5), (1, 6), (1, 3), (1, 7)] rfl
set_option maxRecDepth 20000 in
theorem gX0_isVoid_X0_has : GoodIn wsX0_isVoid (va_wsS RX0 43 yX0_has wsX0_has) := goodIn_c ch_wsX0_isVoid hf_wsX0_isVoid hg_wsX0_isVoid _ [(1, 8), (1, 9), (1, 3), (1, 10)] rfl
theorem dX0_isVoid_0 : decode cX0_isVoid 0 = .ok (.aload_n 0, 1) := by decide +kernel
theorem dX0_isVoid_1 : decode cX0_isVoid 1 = .ok (.getfield 22, 3) := by decide +kernel
theorem dX0_isVoid_4 : decode cX0_isVoid 4 = .ok (.iload_n 1, 1) := by decide +kernel
theorem dX0_isVoid_5 : decode cX0_isVoid 5 = .ok (.invokestatic 36, 3) := by decide +kernel
theorem dX0_isVoid_8 : decode cX0_isVoid 8 = .ok (.ifCond .eq 8, 3) := by decide +kernel
theorem dX0_isVoid_11 : decode cX0_isVoid 11 = .ok (.bipush 8, 2) := by decide +kernel
theorem dX0_isVoid_13 : decode cX0_isVoid 13 = .ok (.goto 4, 3) := by decide +kernel
theorem dX0_isVoid_16 : decode cX0_isVoid 16 = .ok (.iconst 1, 1) := by decide +kernel
theorem dX0_isVoid_17 : decode cX0_isVoid 17 = .ok (.lushr, 1) := by decide +kernel
theorem dX0_isVoid_18 : decode cX0_isVoid 18 = .ok (.lstore_n 2, 1) := by decide +kernel
theorem dX0_isVoid_19 : decode cX0_isVoid 19 = .ok (.aload_n 0, 1) := by decide +kernel
theorem dX0_isVoid_20 : decode cX0_isVoid 20 = .ok (.getfield 22, 3) := by decide +kernel
theorem dX0_isVoid_23 : decode cX0_isVoid 23 = .ok (.lload_n 2, 1) := by decide +kernel
theorem dX0_isVoid_24 : decode cX0_isVoid 24 = .ok (.lor, 1) := by decide +kernel
theorem dX0_isVoid_25 : decode cX0_isVoid 25 = .ok (.iload_n 1, 1) := by decide +kernel
theorem dX0_isVoid_26 : decode cX0_isVoid 26 = .ok (.invokestatic 32, 3) := by decide +kernel
theorem dX0_isVoid_29 : decode cX0_isVoid 29 = .ok (.invokestatic 43, 3) := by decide +kernel
theorem dX0_isVoid_32 : decode cX0_isVoid 32 = .ok (.ireturn, 1) := by decide +kernel
def ch_wsX0_holds : List (List Cond) := [[.code yX0_holds cX0_holds 2 (some .boolean)], [.fieldLink RX0 29 "TailorChalks$Cloth" "heldDown" "J", .fieldLink RX0 26 "TailorChalks$Cloth" "heldAcross" "J", .methodLink RX0 36 yX0_isDown, .static yX0_isDown, .initialized RX0, .code yX0_isDown cX0_isDown 1 (some .boolean), .methodLink RX0 32 yX0_firstCell, .static yX0_firstCell, .code yX0_firstCell cX0_firstCell 1 (some .int), .methodLink RX0 43 yX0_has, .static yX0_has, .code yX0_has cX0_has 3 (some .boolean)], wsX00]
set_option maxRecDepth 20000 in
theorem hf_wsX0_holds : wsX0_holds = (ch_wsX0_holds).flatten := rfl
set_option maxRecDepth 20000 in
theorem hg_wsX0_holds : (wsX0_holds).all goodWord = true := by decide +kernel
set_option maxRecDepth 20000 in
theorem gX0_holds_X0_isDown : GoodIn wsX0_holds (va_wsS RX0 36 yX0_isDown wsX0_isDown) := goodIn_c ch_wsX0_holds hf_wsX0_holds hg_wsX0_holds _ [(1, 2), (1, 3), (1, 4), (1, 5)] rfl
set_option maxRecDepth 20000 in
theorem gX0_holds_X0_firstCell : GoodIn wsX0_holds (va_wsS RX0 32 yX0_firstCell wsX0_firstCell) := goodIn_c ch_wsX0_holds hf_wsX0_holds hg_wsX0_holds _ [(1, 6), (1, 7), (1, 4), (1, 8)] rfl
set_option maxRecDepth 20000 in
theorem gX0_holds_X0_has : GoodIn wsX0_holds (va_wsS RX0 43 yX0_has wsX0_has) := goodIn_c ch_wsX0_holds hf_wsX0_holds hg_wsX0_holds _ [(1, 9), (1, 10), (1, 4), (1, 11)] rfl
theorem dX0_holds_0 : decode cX0_holds 0 = .ok (.iload_n 1, 1) := by decide +kernel
theorem dX0_holds_1 : decode cX0_holds 1 = .ok (.invokestatic 36, 3) := by decide +kernel
theorem dX0_holds_4 : decode cX0_holds 4 = .ok (.ifCond .eq 10, 3) := by decide +kernel
theorem dX0_holds_7 : decode cX0_holds 7 = .ok (.aload_n 0, 1) := by decide +kernel
theorem dX0_holds_8 : decode cX0_holds 8 = .ok (.getfield 29, 3) := by decide +kernel
theorem dX0_holds_11 : decode cX0_holds 11 = .ok (.goto 7, 3) := by decide +kernel
theorem dX0_holds_14 : decode cX0_holds 14 = .ok (.aload_n 0, 1) := by decide +kernel
theorem dX0_holds_15 : decode cX0_holds 15 = .ok (.getfield 26, 3) := by decide +kernel
theorem dX0_holds_18 : decode cX0_holds 18 = .ok (.iload_n 1, 1) := by decide +kernel
theorem dX0_holds_19 : decode cX0_holds 19 = .ok (.invokestatic 32, 3) := by decide +kernel
theorem dX0_holds_22 : decode cX0_holds 22 = .ok (.invokestatic 43, 3) := by decide +kernel
theorem dX0_holds_25 : decode cX0_holds 25 = .ok (.ireturn, 1) := by decide +kernel
def ch_wsX0_isGone : List (List Cond) := [[.code yX0_isGone cX0_isGone 2 (some .boolean)], [.fieldLink RX0 22 "TailorChalks$Cloth" "gone" "J", .methodLink RX0 43 yX0_has, .static yX0_has, .initialized RX0, .code yX0_has cX0_has 3 (some .boolean)], wsX00]
set_option maxRecDepth 20000 in
theorem hf_wsX0_isGone : wsX0_isGone = (ch_wsX0_isGone).flatten := rfl
set_option maxRecDepth 20000 in
theorem hg_wsX0_isGone : (wsX0_isGone).all goodWord = true := by decide +kernel
set_option maxRecDepth 20000 in
theorem gX0_isGone_X0_has : GoodIn wsX0_isGone (va_wsS RX0 43 yX0_has wsX0_has) := goodIn_c ch_wsX0_isGone hf_wsX0_isGone hg_wsX0_isGone _ [(1, 1), (1, 2), (1, 3), (1, 4)] rfl
theorem dX0_isGone_0 : decode cX0_isGone 0 = .ok (.aload_n 0, 1) := by decide +kernel
theorem dX0_isGone_1 : decode cX0_isGone 1 = .ok (.getfield 22, 3) := by decide +kernel
theorem dX0_isGone_4 : decode cX0_isGone 4 = .ok (.iload_n 1, 1) := by decide +kernel
theorem dX0_isGone_5 : decode cX0_isGone 5 = .ok (.invokestatic 43, 3) := by decide +kernel
theorem dX0_isGone_8 : decode cX0_isGone 8 = .ok (.ireturn, 1) := by decide +kernel
def ch_wsX0_cellsLeft : List (List Cond) := [[.code yX0_cellsLeft cX0_cellsLeft 1 (some .int)], [.fieldLink RX0 22 "TailorChalks$Cloth" "gone" "J", .methodLink RX0 47 yJ13_bitCount_95d88, .static yJ13_bitCount_95d88, .initialized RJ13, .code yJ13_bitCount_95d88 cJ13_bitCount_95d88 2 (some .int), .constantLong RJ13 314 (6148914691236517205), .constantLong RJ13 316 (3689348814741910323), .constantLong RJ13 318 (1085102592571150095)], wsX00]
set_option maxRecDepth 20000 in
theorem hf_wsX0_cellsLeft : wsX0_cellsLeft = (ch_wsX0_cellsLeft).flatten := rfl
set_option maxRecDepth 20000 in
theorem hg_wsX0_cellsLeft : (wsX0_cellsLeft).all goodWord = true := by decide +kernel
set_option maxRecDepth 20000 in
theorem gX0_cellsLeft_J13_bitCount_95d88 : GoodIn wsX0_cellsLeft (va_wsS RX0 47 yJ13_bitCount_95d88 wsJ13_bitCount_95d88) := goodIn_c ch_wsX0_cellsLeft hf_wsX0_cellsLeft hg_wsX0_cellsLeft _ [(1, 1), (1, 2), (1, 3), (1, 4), (1, 5), (1, 6), (1, 7)] rfl
theorem dX0_cellsLeft_0 : decode cX0_cellsLeft 0 = .ok (.bipush 48, 2) := by decide +kernel
theorem dX0_cellsLeft_2 : decode cX0_cellsLeft 2 = .ok (.aload_n 0, 1) := by decide +kernel
theorem dX0_cellsLeft_3 : decode cX0_cellsLeft 3 = .ok (.getfield 22, 3) := by decide +kernel
theorem dX0_cellsLeft_6 : decode cX0_cellsLeft 6 = .ok (.invokestatic 47, 3) := by decide +kernel
theorem dX0_cellsLeft_9 : decode cX0_cellsLeft 9 = .ok (.isub, 1) := by decide +kernel
theorem dX0_cellsLeft_10 : decode cX0_cellsLeft 10 = .ok (.ireturn, 1) := by decide +kernel
def ch_wsX0_make : List (List Cond) := [[.code yX0_make cX0_make 8 none], [.fieldLink RX0 11 "TailorChalks$Cloth" "states" "[I", .fieldLink RX0 15 "TailorChalks$Cloth" "makers" "[I", .fieldLink RX0 29 "TailorChalks$Cloth" "heldDown" "J", .constantLong RX0 53 (-1), .fieldLink RX0 26 "TailorChalks$Cloth" "heldAcross" "J", .methodLink RX0 40 yX0_isJoint, .static yX0_isJoint, .initialized RX0, .code yX0_isJoint cX0_isJoint 1 (some .boolean), .methodLink RX0 32 yX0_firstCell, .static yX0_firstCell, .code yX0_firstCell cX0_firstCell 1 (some .int), .methodLink RX0 36 yX0_isDown, .static yX0_isDown, .code yX0_isDown cX0_isDown 1 (some .boolean)], wsX00]
set_option maxRecDepth 20000 in
theorem hf_wsX0_make : wsX0_make = (ch_wsX0_make).flatten := rfl
set_option maxRecDepth 20000 in
theorem hg_wsX0_make : (wsX0_make).all goodWord = true := by decide +kernel
set_option maxRecDepth 20000 in
theorem gX0_make_X0_isJoint : GoodIn wsX0_make (va_wsS RX0 40 yX0_isJoint wsX0_isJoint) := goodIn_c ch_wsX0_make hf_wsX0_make hg_wsX0_make _ [(1, 5), (1, 6), (1, 7), (1, 8)] rfl
set_option maxRecDepth 20000 in
theorem gX0_make_X0_firstCell : GoodIn wsX0_make (va_wsS RX0 32 yX0_firstCell wsX0_firstCell) := goodIn_c ch_wsX0_make hf_wsX0_make hg_wsX0_make _ [(1, 9), (1, 10), (1, 7), (1, 11)] rfl
set_option maxRecDepth 20000 in
theorem gX0_make_X0_isDown : GoodIn wsX0_make (va_wsS RX0 36 yX0_isDown wsX0_isDown) := goodIn_c ch_wsX0_make hf_wsX0_make hg_wsX0_make _ [(1, 12), (1, 13), (1, 7), (1, 14)] rfl
theorem dX0_make_0 : decode cX0_make 0 = .ok (.iload_n 1, 1) := by decide +kernel
theorem dX0_make_1 : decode cX0_make 1 = .ok (.invokestatic 40, 3) := by decide +kernel
theorem dX0_make_4 : decode cX0_make 4 = .ok (.ifCond .ne 4, 3) := by decide +kernel
theorem dX0_make_7 : decode cX0_make 7 = .ok (.return_, 1) := by decide +kernel
theorem dX0_make_8 : decode cX0_make 8 = .ok (.aload_n 0, 1) := by decide +kernel
theorem dX0_make_9 : decode cX0_make 9 = .ok (.getfield 11, 3) := by decide +kernel
theorem dX0_make_12 : decode cX0_make 12 = .ok (.iload_n 1, 1) := by decide +kernel
theorem dX0_make_13 : decode cX0_make 13 = .ok (.iload_n 2, 1) := by decide +kernel
theorem dX0_make_14 : decode cX0_make 14 = .ok (.iastore, 1) := by decide +kernel
theorem dX0_make_15 : decode cX0_make 15 = .ok (.aload_n 0, 1) := by decide +kernel
theorem dX0_make_16 : decode cX0_make 16 = .ok (.getfield 15, 3) := by decide +kernel
theorem dX0_make_19 : decode cX0_make 19 = .ok (.iload_n 1, 1) := by decide +kernel
theorem dX0_make_20 : decode cX0_make 20 = .ok (.iload_n 3, 1) := by decide +kernel
theorem dX0_make_21 : decode cX0_make 21 = .ok (.iastore, 1) := by decide +kernel
theorem dX0_make_22 : decode cX0_make 22 = .ok (.lconst 1, 1) := by decide +kernel
theorem dX0_make_23 : decode cX0_make 23 = .ok (.iload_n 1, 1) := by decide +kernel
theorem dX0_make_24 : decode cX0_make 24 = .ok (.invokestatic 32, 3) := by decide +kernel
theorem dX0_make_27 : decode cX0_make 27 = .ok (.lshl, 1) := by decide +kernel
theorem dX0_make_28 : decode cX0_make 28 = .ok (.lstore 4, 2) := by decide +kernel
theorem dX0_make_30 : decode cX0_make 30 = .ok (.iload_n 2, 1) := by decide +kernel
theorem dX0_make_31 : decode cX0_make 31 = .ok (.ifCond .eq 8, 3) := by decide +kernel
theorem dX0_make_34 : decode cX0_make 34 = .ok (.iload_n 2, 1) := by decide +kernel
theorem dX0_make_35 : decode cX0_make 35 = .ok (.iconst 2, 1) := by decide +kernel
theorem dX0_make_36 : decode cX0_make 36 = .ok (.if_icmp .ne 8, 3) := by decide +kernel
theorem dX0_make_39 : decode cX0_make 39 = .ok (.lload 4, 2) := by decide +kernel
theorem dX0_make_41 : decode cX0_make 41 = .ok (.goto 4, 3) := by decide +kernel
theorem dX0_make_44 : decode cX0_make 44 = .ok (.lconst 0, 1) := by decide +kernel
theorem dX0_make_45 : decode cX0_make 45 = .ok (.lstore 6, 2) := by decide +kernel
theorem dX0_make_47 : decode cX0_make 47 = .ok (.iload_n 1, 1) := by decide +kernel
theorem dX0_make_48 : decode cX0_make 48 = .ok (.invokestatic 36, 3) := by decide +kernel
theorem dX0_make_51 : decode cX0_make 51 = .ok (.ifCond .eq 24, 3) := by decide +kernel
theorem dX0_make_54 : decode cX0_make 54 = .ok (.aload_n 0, 1) := by decide +kernel
theorem dX0_make_55 : decode cX0_make 55 = .ok (.aload_n 0, 1) := by decide +kernel
theorem dX0_make_56 : decode cX0_make 56 = .ok (.getfield 29, 3) := by decide +kernel
theorem dX0_make_59 : decode cX0_make 59 = .ok (.lload 4, 2) := by decide +kernel
theorem dX0_make_61 : decode cX0_make 61 = .ok (.ldc2_w 53, 3) := by decide +kernel
theorem dX0_make_64 : decode cX0_make 64 = .ok (.lxor, 1) := by decide +kernel
theorem dX0_make_65 : decode cX0_make 65 = .ok (.land, 1) := by decide +kernel
theorem dX0_make_66 : decode cX0_make 66 = .ok (.lload 6, 2) := by decide +kernel
theorem dX0_make_68 : decode cX0_make 68 = .ok (.lor, 1) := by decide +kernel
theorem dX0_make_69 : decode cX0_make 69 = .ok (.putfield 29, 3) := by decide +kernel
theorem dX0_make_72 : decode cX0_make 72 = .ok (.goto 21, 3) := by decide +kernel
theorem dX0_make_75 : decode cX0_make 75 = .ok (.aload_n 0, 1) := by decide +kernel
theorem dX0_make_76 : decode cX0_make 76 = .ok (.aload_n 0, 1) := by decide +kernel
theorem dX0_make_77 : decode cX0_make 77 = .ok (.getfield 26, 3) := by decide +kernel
theorem dX0_make_80 : decode cX0_make 80 = .ok (.lload 4, 2) := by decide +kernel
theorem dX0_make_82 : decode cX0_make 82 = .ok (.ldc2_w 53, 3) := by decide +kernel
theorem dX0_make_85 : decode cX0_make 85 = .ok (.lxor, 1) := by decide +kernel
theorem dX0_make_86 : decode cX0_make 86 = .ok (.land, 1) := by decide +kernel
theorem dX0_make_87 : decode cX0_make 87 = .ok (.lload 6, 2) := by decide +kernel
theorem dX0_make_89 : decode cX0_make 89 = .ok (.lor, 1) := by decide +kernel
theorem dX0_make_90 : decode cX0_make 90 = .ok (.putfield 26, 3) := by decide +kernel
theorem dX0_make_93 : decode cX0_make 93 = .ok (.return_, 1) := by decide +kernel
theorem dX0_tearOff_0 : decode cX0_tearOff 0 = .ok (.aload_n 0, 1) := by decide +kernel
theorem dX0_tearOff_1 : decode cX0_tearOff 1 = .ok (.dup, 1) := by decide +kernel
theorem dX0_tearOff_2 : decode cX0_tearOff 2 = .ok (.getfield 22, 3) := by decide +kernel
theorem dX0_tearOff_5 : decode cX0_tearOff 5 = .ok (.lload_n 1, 1) := by decide +kernel
theorem dX0_tearOff_6 : decode cX0_tearOff 6 = .ok (.lor, 1) := by decide +kernel
theorem dX0_tearOff_7 : decode cX0_tearOff 7 = .ok (.putfield 22, 3) := by decide +kernel
theorem dX0_tearOff_10 : decode cX0_tearOff 10 = .ok (.aload_n 0, 1) := by decide +kernel
theorem dX0_tearOff_11 : decode cX0_tearOff 11 = .ok (.dup, 1) := by decide +kernel
theorem dX0_tearOff_12 : decode cX0_tearOff 12 = .ok (.getfield 26, 3) := by decide +kernel
theorem dX0_tearOff_15 : decode cX0_tearOff 15 = .ok (.aload_n 0, 1) := by decide +kernel
theorem dX0_tearOff_16 : decode cX0_tearOff 16 = .ok (.getfield 22, 3) := by decide +kernel
theorem dX0_tearOff_19 : decode cX0_tearOff 19 = .ok (.aload_n 0, 1) := by decide +kernel
theorem dX0_tearOff_20 : decode cX0_tearOff 20 = .ok (.getfield 22, 3) := by decide +kernel
theorem dX0_tearOff_23 : decode cX0_tearOff 23 = .ok (.iconst 1, 1) := by decide +kernel
theorem dX0_tearOff_24 : decode cX0_tearOff 24 = .ok (.lushr, 1) := by decide +kernel
theorem dX0_tearOff_25 : decode cX0_tearOff 25 = .ok (.lor, 1) := by decide +kernel
theorem dX0_tearOff_26 : decode cX0_tearOff 26 = .ok (.ldc2_w 53, 3) := by decide +kernel
theorem dX0_tearOff_29 : decode cX0_tearOff 29 = .ok (.lxor, 1) := by decide +kernel
theorem dX0_tearOff_30 : decode cX0_tearOff 30 = .ok (.land, 1) := by decide +kernel
theorem dX0_tearOff_31 : decode cX0_tearOff 31 = .ok (.putfield 26, 3) := by decide +kernel
theorem dX0_tearOff_34 : decode cX0_tearOff 34 = .ok (.aload_n 0, 1) := by decide +kernel
theorem dX0_tearOff_35 : decode cX0_tearOff 35 = .ok (.dup, 1) := by decide +kernel
theorem dX0_tearOff_36 : decode cX0_tearOff 36 = .ok (.getfield 29, 3) := by decide +kernel
theorem dX0_tearOff_39 : decode cX0_tearOff 39 = .ok (.aload_n 0, 1) := by decide +kernel
theorem dX0_tearOff_40 : decode cX0_tearOff 40 = .ok (.getfield 22, 3) := by decide +kernel
theorem dX0_tearOff_43 : decode cX0_tearOff 43 = .ok (.aload_n 0, 1) := by decide +kernel
theorem dX0_tearOff_44 : decode cX0_tearOff 44 = .ok (.getfield 22, 3) := by decide +kernel
theorem dX0_tearOff_47 : decode cX0_tearOff 47 = .ok (.bipush 8, 2) := by decide +kernel
theorem dX0_tearOff_49 : decode cX0_tearOff 49 = .ok (.lushr, 1) := by decide +kernel
theorem dX0_tearOff_50 : decode cX0_tearOff 50 = .ok (.lor, 1) := by decide +kernel
theorem dX0_tearOff_51 : decode cX0_tearOff 51 = .ok (.ldc2_w 53, 3) := by decide +kernel
theorem dX0_tearOff_54 : decode cX0_tearOff 54 = .ok (.lxor, 1) := by decide +kernel
theorem dX0_tearOff_55 : decode cX0_tearOff 55 = .ok (.land, 1) := by decide +kernel
theorem dX0_tearOff_56 : decode cX0_tearOff 56 = .ok (.putfield 29, 3) := by decide +kernel
theorem dX0_tearOff_59 : decode cX0_tearOff 59 = .ok (.return_, 1) := by decide +kernel
def ch_wsX0_jointsThatAre : List (List Cond) := [[.code yX0_jointsThatAre cX0_jointsThatAre 4 (some .int)], [.fieldLink RX0 11 "TailorChalks$Cloth" "states" "[I", .methodLink RX0 55 yX0_isVoid, .instanceMethod yX0_isVoid, .selects RX0 yX0_isVoid yX0_isVoid, .initialized RX0, .code yX0_isVoid cX0_isVoid 4 (some .boolean), .fieldLink RX0 22 "TailorChalks$Cloth" "gone" "J", .methodLink RX0 36 yX0_isDown, .static yX0_isDown, .code yX0_isDown cX0_isDown 1 (some .boolean), .methodLink RX0 32 yX0_firstCell, .static yX0_firstCell, .code yX0_firstCell cX0_firstCell 1 (some .int), .methodLink RX0 43 yX0_has, .static yX0_has, .code yX0_has cX0_has 3 (some .boolean)], wsX00]
set_option maxRecDepth 20000 in
theorem hf_wsX0_jointsThatAre : wsX0_jointsThatAre = (ch_wsX0_jointsThatAre).flatten := rfl
set_option maxRecDepth 20000 in
theorem hg_wsX0_jointsThatAre : (wsX0_jointsThatAre).all goodWord = true := by decide +kernel
set_option maxRecDepth 20000 in
theorem gX0_jointsThatAre_X0_isVoid : GoodIn wsX0_jointsThatAre (wsV RX0 55 RX0 yX0_isVoid wsX0_isVoid) := goodIn_c ch_wsX0_jointsThatAre hf_wsX0_jointsThatAre hg_wsX0_jointsThatAre _ [(1, 1), (1, 2), (1, 3), (1, 4), (1, 5), (1, 6), (1, 7), (1, 8), (1, 4), (1, 9), (1, 10), (1, 11), (1, 12), (1, 13), (1, 14), (1, 15), (2, 0), (2, 1), (2, 2), (2, 3), (2, 4)] rfl
theorem dX0_jointsThatAre_0 : decode cX0_jointsThatAre 0 = .ok (.iconst 0, 1) := by decide +kernel
theorem dX0_jointsThatAre_1 : decode cX0_jointsThatAre 1 = .ok (.istore_n 2, 1) := by decide +kernel
theorem dX0_jointsThatAre_2 : decode cX0_jointsThatAre 2 = .ok (.iconst 0, 1) := by decide +kernel
theorem dX0_jointsThatAre_3 : decode cX0_jointsThatAre 3 = .ok (.istore_n 3, 1) := by decide +kernel
theorem dX0_jointsThatAre_4 : decode cX0_jointsThatAre 4 = .ok (.iload_n 3, 1) := by decide +kernel
theorem dX0_jointsThatAre_5 : decode cX0_jointsThatAre 5 = .ok (.bipush 82, 2) := by decide +kernel
theorem dX0_jointsThatAre_7 : decode cX0_jointsThatAre 7 = .ok (.if_icmp .ge 30, 3) := by decide +kernel
theorem dX0_jointsThatAre_10 : decode cX0_jointsThatAre 10 = .ok (.aload_n 0, 1) := by decide +kernel
theorem dX0_jointsThatAre_11 : decode cX0_jointsThatAre 11 = .ok (.getfield 11, 3) := by decide +kernel
theorem dX0_jointsThatAre_14 : decode cX0_jointsThatAre 14 = .ok (.iload_n 3, 1) := by decide +kernel
theorem dX0_jointsThatAre_15 : decode cX0_jointsThatAre 15 = .ok (.iaload, 1) := by decide +kernel
theorem dX0_jointsThatAre_16 : decode cX0_jointsThatAre 16 = .ok (.iload_n 1, 1) := by decide +kernel
theorem dX0_jointsThatAre_17 : decode cX0_jointsThatAre 17 = .ok (.if_icmp .ne 14, 3) := by decide +kernel
theorem dX0_jointsThatAre_20 : decode cX0_jointsThatAre 20 = .ok (.aload_n 0, 1) := by decide +kernel
theorem dX0_jointsThatAre_21 : decode cX0_jointsThatAre 21 = .ok (.iload_n 3, 1) := by decide +kernel
theorem dX0_jointsThatAre_22 : decode cX0_jointsThatAre 22 = .ok (.invokevirtual 55, 3) := by decide +kernel
theorem dX0_jointsThatAre_25 : decode cX0_jointsThatAre 25 = .ok (.ifCond .ne 6, 3) := by decide +kernel
theorem dX0_jointsThatAre_28 : decode cX0_jointsThatAre 28 = .ok (.iinc 2 1, 3) := by decide +kernel
theorem dX0_jointsThatAre_31 : decode cX0_jointsThatAre 31 = .ok (.iinc 3 1, 3) := by decide +kernel
theorem dX0_jointsThatAre_34 : decode cX0_jointsThatAre 34 = .ok (.goto (-30), 3) := by decide +kernel
theorem dX0_jointsThatAre_37 : decode cX0_jointsThatAre 37 = .ok (.iload_n 2, 1) := by decide +kernel
theorem dX0_jointsThatAre_38 : decode cX0_jointsThatAre 38 = .ok (.ireturn, 1) := by decide +kernel
def ch_wsX0_holdsOn : List (List Cond) := [[.code yX0_holdsOn cX0_holdsOn 4 (some .int)], [.methodLink RX0 58 yX0_holds, .instanceMethod yX0_holds, .selects RX0 yX0_holds yX0_holds, .initialized RX0, .code yX0_holds cX0_holds 2 (some .boolean), .fieldLink RX0 29 "TailorChalks$Cloth" "heldDown" "J", .fieldLink RX0 26 "TailorChalks$Cloth" "heldAcross" "J", .methodLink RX0 36 yX0_isDown, .static yX0_isDown, .code yX0_isDown cX0_isDown 1 (some .boolean), .methodLink RX0 32 yX0_firstCell, .static yX0_firstCell, .code yX0_firstCell cX0_firstCell 1 (some .int), .methodLink RX0 43 yX0_has, .static yX0_has, .code yX0_has cX0_has 3 (some .boolean), .methodLink RX0 61 yX0_secondCell, .static yX0_secondCell, .code yX0_secondCell cX0_secondCell 1 (some .int)], wsX00]
set_option maxRecDepth 20000 in
theorem hf_wsX0_holdsOn : wsX0_holdsOn = (ch_wsX0_holdsOn).flatten := rfl
set_option maxRecDepth 20000 in
theorem hg_wsX0_holdsOn : (wsX0_holdsOn).all goodWord = true := by decide +kernel
set_option maxRecDepth 20000 in
theorem gX0_holdsOn_X0_holds : GoodIn wsX0_holdsOn (wsV RX0 58 RX0 yX0_holds wsX0_holds) := goodIn_c ch_wsX0_holdsOn hf_wsX0_holdsOn hg_wsX0_holdsOn _ [(1, 0), (1, 1), (1, 2), (1, 3), (1, 4), (1, 5), (1, 6), (1, 7), (1, 8), (1, 3), (1, 9), (1, 10), (1, 11), (1, 12), (1, 13), (1, 14), (1, 15), (2, 0), (2, 1), (2, 2), (2, 3), (2, 4)] rfl
set_option maxRecDepth 20000 in
theorem gX0_holdsOn_X0_firstCell : GoodIn wsX0_holdsOn (va_wsS RX0 32 yX0_firstCell wsX0_firstCell) := goodIn_c ch_wsX0_holdsOn hf_wsX0_holdsOn hg_wsX0_holdsOn _ [(1, 10), (1, 11), (1, 3), (1, 12)] rfl
set_option maxRecDepth 20000 in
theorem gX0_holdsOn_X0_secondCell : GoodIn wsX0_holdsOn (va_wsS RX0 61 yX0_secondCell wsX0_secondCell) := goodIn_c ch_wsX0_holdsOn hf_wsX0_holdsOn hg_wsX0_holdsOn _ [(1, 16), (1, 17), (1, 3), (1, 18), (1, 10), (1, 11), (1, 3), (1, 12), (1, 7), (1, 8), (1, 9)] rfl
theorem dX0_holdsOn_0 : decode cX0_holdsOn 0 = .ok (.iconst 0, 1) := by decide +kernel
theorem dX0_holdsOn_1 : decode cX0_holdsOn 1 = .ok (.istore_n 2, 1) := by decide +kernel
theorem dX0_holdsOn_2 : decode cX0_holdsOn 2 = .ok (.iconst 0, 1) := by decide +kernel
theorem dX0_holdsOn_3 : decode cX0_holdsOn 3 = .ok (.istore_n 3, 1) := by decide +kernel
theorem dX0_holdsOn_4 : decode cX0_holdsOn 4 = .ok (.iload_n 3, 1) := by decide +kernel
theorem dX0_holdsOn_5 : decode cX0_holdsOn 5 = .ok (.bipush 82, 2) := by decide +kernel
theorem dX0_holdsOn_7 : decode cX0_holdsOn 7 = .ok (.if_icmp .ge 36, 3) := by decide +kernel
theorem dX0_holdsOn_10 : decode cX0_holdsOn 10 = .ok (.aload_n 0, 1) := by decide +kernel
theorem dX0_holdsOn_11 : decode cX0_holdsOn 11 = .ok (.iload_n 3, 1) := by decide +kernel
theorem dX0_holdsOn_12 : decode cX0_holdsOn 12 = .ok (.invokevirtual 58, 3) := by decide +kernel
theorem dX0_holdsOn_15 : decode cX0_holdsOn 15 = .ok (.ifCond .eq 22, 3) := by decide +kernel
theorem dX0_holdsOn_18 : decode cX0_holdsOn 18 = .ok (.iload_n 3, 1) := by decide +kernel
theorem dX0_holdsOn_19 : decode cX0_holdsOn 19 = .ok (.invokestatic 32, 3) := by decide +kernel
theorem dX0_holdsOn_22 : decode cX0_holdsOn 22 = .ok (.iload_n 1, 1) := by decide +kernel
theorem dX0_holdsOn_23 : decode cX0_holdsOn 23 = .ok (.if_icmp .eq 11, 3) := by decide +kernel
theorem dX0_holdsOn_26 : decode cX0_holdsOn 26 = .ok (.iload_n 3, 1) := by decide +kernel
theorem dX0_holdsOn_27 : decode cX0_holdsOn 27 = .ok (.invokestatic 61, 3) := by decide +kernel
theorem dX0_holdsOn_30 : decode cX0_holdsOn 30 = .ok (.iload_n 1, 1) := by decide +kernel
theorem dX0_holdsOn_31 : decode cX0_holdsOn 31 = .ok (.if_icmp .ne 6, 3) := by decide +kernel
theorem dX0_holdsOn_34 : decode cX0_holdsOn 34 = .ok (.iinc 2 1, 3) := by decide +kernel
theorem dX0_holdsOn_37 : decode cX0_holdsOn 37 = .ok (.iinc 3 1, 3) := by decide +kernel
theorem dX0_holdsOn_40 : decode cX0_holdsOn 40 = .ok (.goto (-36), 3) := by decide +kernel
theorem dX0_holdsOn_43 : decode cX0_holdsOn 43 = .ok (.iload_n 2, 1) := by decide +kernel
theorem dX0_holdsOn_44 : decode cX0_holdsOn 44 = .ok (.ireturn, 1) := by decide +kernel
def ch_wsX0_pieceOf : List (List Cond) := [[.code yX0_pieceOf cX0_pieceOf 2 (some .long)], [.fieldLink RX0 26 "TailorChalks$Cloth" "heldAcross" "J", .fieldLink RX0 29 "TailorChalks$Cloth" "heldDown" "J", .methodLink RX0 64 yX0_isGone, .instanceMethod yX0_isGone, .selects RX0 yX0_isGone yX0_isGone, .initialized RX0, .code yX0_isGone cX0_isGone 2 (some .boolean), .fieldLink RX0 22 "TailorChalks$Cloth" "gone" "J", .methodLink RX0 43 yX0_has, .static yX0_has, .code yX0_has cX0_has 3 (some .boolean), .methodLink RX0 67 yX0_spread, .static yX0_spread, .code yX0_spread cX0_spread 14 (some .long)], wsX00]
set_option maxRecDepth 20000 in
theorem hf_wsX0_pieceOf : wsX0_pieceOf = (ch_wsX0_pieceOf).flatten := rfl
set_option maxRecDepth 20000 in
theorem hg_wsX0_pieceOf : (wsX0_pieceOf).all goodWord = true := by decide +kernel
set_option maxRecDepth 20000 in
theorem gX0_pieceOf_X0_isGone : GoodIn wsX0_pieceOf (wsV RX0 64 RX0 yX0_isGone wsX0_isGone) := goodIn_c ch_wsX0_pieceOf hf_wsX0_pieceOf hg_wsX0_pieceOf _ [(1, 2), (1, 3), (1, 4), (1, 5), (1, 6), (1, 7), (1, 8), (1, 9), (1, 5), (1, 10), (2, 0), (2, 1), (2, 2), (2, 3), (2, 4)] rfl
set_option maxRecDepth 20000 in
theorem gX0_pieceOf_X0_spread : GoodIn wsX0_pieceOf (va_wsS RX0 67 yX0_spread wsX0_spread) := goodIn_c ch_wsX0_pieceOf hf_wsX0_pieceOf hg_wsX0_pieceOf _ [(1, 11), (1, 12), (1, 5), (1, 13)] rfl
theorem dX0_pieceOf_0 : decode cX0_pieceOf 0 = .ok (.aload_n 0, 1) := by decide +kernel
theorem dX0_pieceOf_1 : decode cX0_pieceOf 1 = .ok (.iload_n 1, 1) := by decide +kernel
theorem dX0_pieceOf_2 : decode cX0_pieceOf 2 = .ok (.invokevirtual 64, 3) := by decide +kernel
theorem dX0_pieceOf_5 : decode cX0_pieceOf 5 = .ok (.ifCond .eq 7, 3) := by decide +kernel
theorem dX0_pieceOf_8 : decode cX0_pieceOf 8 = .ok (.lconst 0, 1) := by decide +kernel
theorem dX0_pieceOf_9 : decode cX0_pieceOf 9 = .ok (.goto 15, 3) := by decide +kernel
theorem dX0_pieceOf_12 : decode cX0_pieceOf 12 = .ok (.iload_n 1, 1) := by decide +kernel
theorem dX0_pieceOf_13 : decode cX0_pieceOf 13 = .ok (.aload_n 0, 1) := by decide +kernel
theorem dX0_pieceOf_14 : decode cX0_pieceOf 14 = .ok (.getfield 26, 3) := by decide +kernel
theorem dX0_pieceOf_17 : decode cX0_pieceOf 17 = .ok (.aload_n 0, 1) := by decide +kernel
theorem dX0_pieceOf_18 : decode cX0_pieceOf 18 = .ok (.getfield 29, 3) := by decide +kernel
theorem dX0_pieceOf_21 : decode cX0_pieceOf 21 = .ok (.invokestatic 67, 3) := by decide +kernel
theorem dX0_pieceOf_24 : decode cX0_pieceOf 24 = .ok (.lreturn, 1) := by decide +kernel
def ch_wsX0_pieceIfBluffedHeld : List (List Cond) := [[.code yX0_pieceIfBluffedHeld cX0_pieceIfBluffedHeld 9 (some .long)], [.fieldLink RX0 26 "TailorChalks$Cloth" "heldAcross" "J", .fieldLink RX0 29 "TailorChalks$Cloth" "heldDown" "J", .fieldLink RX0 11 "TailorChalks$Cloth" "states" "[I", .methodLink RX0 55 yX0_isVoid, .instanceMethod yX0_isVoid, .selects RX0 yX0_isVoid yX0_isVoid, .initialized RX0, .code yX0_isVoid cX0_isVoid 4 (some .boolean), .fieldLink RX0 22 "TailorChalks$Cloth" "gone" "J", .methodLink RX0 36 yX0_isDown, .static yX0_isDown, .code yX0_isDown cX0_isDown 1 (some .boolean), .methodLink RX0 32 yX0_firstCell, .static yX0_firstCell, .code yX0_firstCell cX0_firstCell 1 (some .int), .methodLink RX0 43 yX0_has, .static yX0_has, .code yX0_has cX0_has 3 (some .boolean), .methodLink RX0 67 yX0_spread, .static yX0_spread, .code yX0_spread cX0_spread 14 (some .long)], wsX00]
set_option maxRecDepth 20000 in
theorem hf_wsX0_pieceIfBluffedHeld : wsX0_pieceIfBluffedHeld = (ch_wsX0_pieceIfBluffedHeld).flatten := rfl
set_option maxRecDepth 20000 in
theorem hg_wsX0_pieceIfBluffedHeld : (wsX0_pieceIfBluffedHeld).all goodWord = true := by decide +kernel
set_option maxRecDepth 20000 in
theorem gX0_pieceIfBluffedHeld_X0_isVoid : GoodIn wsX0_pieceIfBluffedHeld (wsV RX0 55 RX0 yX0_isVoid wsX0_isVoid) := goodIn_c ch_wsX0_pieceIfBluffedHeld hf_wsX0_pieceIfBluffedHeld hg_wsX0_pieceIfBluffedHeld _ [(1, 3), (1, 4), (1, 5), (1, 6), (1, 7), (1, 8), (1, 9), (1, 10), (1, 6), (1, 11), (1, 12), (1, 13), (1, 14), (1, 15), (1, 16), (1, 17), (2, 0), (2, 1), (2, 2), (2, 3), (2, 4)] rfl
set_option maxRecDepth 20000 in
theorem gX0_pieceIfBluffedHeld_X0_firstCell : GoodIn wsX0_pieceIfBluffedHeld (va_wsS RX0 32 yX0_firstCell wsX0_firstCell) := goodIn_c ch_wsX0_pieceIfBluffedHeld hf_wsX0_pieceIfBluffedHeld hg_wsX0_pieceIfBluffedHeld _ [(1, 12), (1, 13), (1, 6), (1, 14)] rfl
set_option maxRecDepth 20000 in
theorem gX0_pieceIfBluffedHeld_X0_isDown : GoodIn wsX0_pieceIfBluffedHeld (va_wsS RX0 36 yX0_isDown wsX0_isDown) := goodIn_c ch_wsX0_pieceIfBluffedHeld hf_wsX0_pieceIfBluffedHeld hg_wsX0_pieceIfBluffedHeld _ [(1, 9), (1, 10), (1, 6), (1, 11)] rfl
set_option maxRecDepth 20000 in
theorem gX0_pieceIfBluffedHeld_X0_spread : GoodIn wsX0_pieceIfBluffedHeld (va_wsS RX0 67 yX0_spread wsX0_spread) := goodIn_c ch_wsX0_pieceIfBluffedHeld hf_wsX0_pieceIfBluffedHeld hg_wsX0_pieceIfBluffedHeld _ [(1, 18), (1, 19), (1, 6), (1, 20)] rfl
theorem dX0_pieceIfBluffedHeld_0 : decode cX0_pieceIfBluffedHeld 0 = .ok (.aload_n 0, 1) := by decide +kernel
theorem dX0_pieceIfBluffedHeld_1 : decode cX0_pieceIfBluffedHeld 1 = .ok (.getfield 26, 3) := by decide +kernel
theorem dX0_pieceIfBluffedHeld_4 : decode cX0_pieceIfBluffedHeld 4 = .ok (.lstore_n 2, 1) := by decide +kernel
theorem dX0_pieceIfBluffedHeld_5 : decode cX0_pieceIfBluffedHeld 5 = .ok (.aload_n 0, 1) := by decide +kernel
theorem dX0_pieceIfBluffedHeld_6 : decode cX0_pieceIfBluffedHeld 6 = .ok (.getfield 29, 3) := by decide +kernel
theorem dX0_pieceIfBluffedHeld_9 : decode cX0_pieceIfBluffedHeld 9 = .ok (.lstore 4, 2) := by decide +kernel
theorem dX0_pieceIfBluffedHeld_11 : decode cX0_pieceIfBluffedHeld 11 = .ok (.iconst 0, 1) := by decide +kernel
theorem dX0_pieceIfBluffedHeld_12 : decode cX0_pieceIfBluffedHeld 12 = .ok (.istore 6, 2) := by decide +kernel
theorem dX0_pieceIfBluffedHeld_14 : decode cX0_pieceIfBluffedHeld 14 = .ok (.iload 6, 2) := by decide +kernel
theorem dX0_pieceIfBluffedHeld_16 : decode cX0_pieceIfBluffedHeld 16 = .ok (.bipush 82, 2) := by decide +kernel
theorem dX0_pieceIfBluffedHeld_18 : decode cX0_pieceIfBluffedHeld 18 = .ok (.if_icmp .ge 61, 3) := by decide +kernel
theorem dX0_pieceIfBluffedHeld_21 : decode cX0_pieceIfBluffedHeld 21 = .ok (.aload_n 0, 1) := by decide +kernel
theorem dX0_pieceIfBluffedHeld_22 : decode cX0_pieceIfBluffedHeld 22 = .ok (.getfield 11, 3) := by decide +kernel
theorem dX0_pieceIfBluffedHeld_25 : decode cX0_pieceIfBluffedHeld 25 = .ok (.iload 6, 2) := by decide +kernel
theorem dX0_pieceIfBluffedHeld_27 : decode cX0_pieceIfBluffedHeld 27 = .ok (.iaload, 1) := by decide +kernel
theorem dX0_pieceIfBluffedHeld_28 : decode cX0_pieceIfBluffedHeld 28 = .ok (.iconst 3, 1) := by decide +kernel
theorem dX0_pieceIfBluffedHeld_29 : decode cX0_pieceIfBluffedHeld 29 = .ok (.if_icmp .ne 44, 3) := by decide +kernel
theorem dX0_pieceIfBluffedHeld_32 : decode cX0_pieceIfBluffedHeld 32 = .ok (.aload_n 0, 1) := by decide +kernel
theorem dX0_pieceIfBluffedHeld_33 : decode cX0_pieceIfBluffedHeld 33 = .ok (.iload 6, 2) := by decide +kernel
theorem dX0_pieceIfBluffedHeld_35 : decode cX0_pieceIfBluffedHeld 35 = .ok (.invokevirtual 55, 3) := by decide +kernel
theorem dX0_pieceIfBluffedHeld_38 : decode cX0_pieceIfBluffedHeld 38 = .ok (.ifCond .ne 35, 3) := by decide +kernel
theorem dX0_pieceIfBluffedHeld_41 : decode cX0_pieceIfBluffedHeld 41 = .ok (.lconst 1, 1) := by decide +kernel
theorem dX0_pieceIfBluffedHeld_42 : decode cX0_pieceIfBluffedHeld 42 = .ok (.iload 6, 2) := by decide +kernel
theorem dX0_pieceIfBluffedHeld_44 : decode cX0_pieceIfBluffedHeld 44 = .ok (.invokestatic 32, 3) := by decide +kernel
theorem dX0_pieceIfBluffedHeld_47 : decode cX0_pieceIfBluffedHeld 47 = .ok (.lshl, 1) := by decide +kernel
theorem dX0_pieceIfBluffedHeld_48 : decode cX0_pieceIfBluffedHeld 48 = .ok (.lstore 7, 2) := by decide +kernel
theorem dX0_pieceIfBluffedHeld_50 : decode cX0_pieceIfBluffedHeld 50 = .ok (.iload 6, 2) := by decide +kernel
theorem dX0_pieceIfBluffedHeld_52 : decode cX0_pieceIfBluffedHeld 52 = .ok (.invokestatic 36, 3) := by decide +kernel
theorem dX0_pieceIfBluffedHeld_55 : decode cX0_pieceIfBluffedHeld 55 = .ok (.ifCond .eq 13, 3) := by decide +kernel
theorem dX0_pieceIfBluffedHeld_58 : decode cX0_pieceIfBluffedHeld 58 = .ok (.lload 4, 2) := by decide +kernel
theorem dX0_pieceIfBluffedHeld_60 : decode cX0_pieceIfBluffedHeld 60 = .ok (.lload 7, 2) := by decide +kernel
theorem dX0_pieceIfBluffedHeld_62 : decode cX0_pieceIfBluffedHeld 62 = .ok (.lor, 1) := by decide +kernel
theorem dX0_pieceIfBluffedHeld_63 : decode cX0_pieceIfBluffedHeld 63 = .ok (.lstore 4, 2) := by decide +kernel
theorem dX0_pieceIfBluffedHeld_65 : decode cX0_pieceIfBluffedHeld 65 = .ok (.goto 8, 3) := by decide +kernel
theorem dX0_pieceIfBluffedHeld_68 : decode cX0_pieceIfBluffedHeld 68 = .ok (.lload_n 2, 1) := by decide +kernel
theorem dX0_pieceIfBluffedHeld_69 : decode cX0_pieceIfBluffedHeld 69 = .ok (.lload 7, 2) := by decide +kernel
theorem dX0_pieceIfBluffedHeld_71 : decode cX0_pieceIfBluffedHeld 71 = .ok (.lor, 1) := by decide +kernel
theorem dX0_pieceIfBluffedHeld_72 : decode cX0_pieceIfBluffedHeld 72 = .ok (.lstore_n 2, 1) := by decide +kernel
theorem dX0_pieceIfBluffedHeld_73 : decode cX0_pieceIfBluffedHeld 73 = .ok (.iinc 6 1, 3) := by decide +kernel
theorem dX0_pieceIfBluffedHeld_76 : decode cX0_pieceIfBluffedHeld 76 = .ok (.goto (-62), 3) := by decide +kernel
theorem dX0_pieceIfBluffedHeld_79 : decode cX0_pieceIfBluffedHeld 79 = .ok (.iload_n 1, 1) := by decide +kernel
theorem dX0_pieceIfBluffedHeld_80 : decode cX0_pieceIfBluffedHeld 80 = .ok (.lload_n 2, 1) := by decide +kernel
theorem dX0_pieceIfBluffedHeld_81 : decode cX0_pieceIfBluffedHeld 81 = .ok (.lload 4, 2) := by decide +kernel
theorem dX0_pieceIfBluffedHeld_83 : decode cX0_pieceIfBluffedHeld 83 = .ok (.invokestatic 67, 3) := by decide +kernel
theorem dX0_pieceIfBluffedHeld_86 : decode cX0_pieceIfBluffedHeld 86 = .ok (.lreturn, 1) := by decide +kernel
def ch_wsX0_lowestOfPiece : List (List Cond) := [[.code yX0_lowestOfPiece cX0_lowestOfPiece 5 (some .int)], [.methodLink RX0 71 yX0_pieceOf, .instanceMethod yX0_pieceOf, .selects RX0 yX0_pieceOf yX0_pieceOf, .initialized RX0, .code yX0_pieceOf cX0_pieceOf 2 (some .long), .fieldLink RX0 26 "TailorChalks$Cloth" "heldAcross" "J", .fieldLink RX0 29 "TailorChalks$Cloth" "heldDown" "J", .methodLink RX0 64 yX0_isGone, .instanceMethod yX0_isGone, .selects RX0 yX0_isGone yX0_isGone, .code yX0_isGone cX0_isGone 2 (some .boolean), .fieldLink RX0 22 "TailorChalks$Cloth" "gone" "J", .methodLink RX0 43 yX0_has, .static yX0_has, .code yX0_has cX0_has 3 (some .boolean), .methodLink RX0 67 yX0_spread, .static yX0_spread, .code yX0_spread cX0_spread 14 (some .long)], wsX00]
set_option maxRecDepth 20000 in
theorem hf_wsX0_lowestOfPiece : wsX0_lowestOfPiece = (ch_wsX0_lowestOfPiece).flatten := rfl
set_option maxRecDepth 20000 in
theorem hg_wsX0_lowestOfPiece : (wsX0_lowestOfPiece).all goodWord = true := by decide +kernel
set_option maxRecDepth 20000 in
theorem gX0_lowestOfPiece_X0_pieceOf : GoodIn wsX0_lowestOfPiece (wsV RX0 71 RX0 yX0_pieceOf wsX0_pieceOf) := goodIn_c ch_wsX0_lowestOfPiece hf_wsX0_lowestOfPiece hg_wsX0_lowestOfPiece _ [(1, 0), (1, 1), (1, 2), (1, 3), (1, 4), (1, 5), (1, 6), (1, 7), (1, 8), (1, 9), (1, 3), (1, 10), (1, 11), (1, 12), (1, 13), (1, 14), (1, 15), (1, 16), (1, 17), (2, 0), (2, 1), (2, 2), (2, 3), (2, 4)] rfl
set_option maxRecDepth 20000 in
theorem gX0_lowestOfPiece_X0_has : GoodIn wsX0_lowestOfPiece (va_wsS RX0 43 yX0_has wsX0_has) := goodIn_c ch_wsX0_lowestOfPiece hf_wsX0_lowestOfPiece hg_wsX0_lowestOfPiece _ [(1, 12), (1, 13), (1, 3), (1, 14)] rfl
theorem dX0_lowestOfPiece_0 : decode cX0_lowestOfPiece 0 = .ok (.aload_n 0, 1) := by decide +kernel
theorem dX0_lowestOfPiece_1 : decode cX0_lowestOfPiece 1 = .ok (.iload_n 1, 1) := by decide +kernel
theorem dX0_lowestOfPiece_2 : decode cX0_lowestOfPiece 2 = .ok (.invokevirtual 71, 3) := by decide +kernel
theorem dX0_lowestOfPiece_5 : decode cX0_lowestOfPiece 5 = .ok (.lstore_n 2, 1) := by decide +kernel
theorem dX0_lowestOfPiece_6 : decode cX0_lowestOfPiece 6 = .ok (.iconst 0, 1) := by decide +kernel
theorem dX0_lowestOfPiece_7 : decode cX0_lowestOfPiece 7 = .ok (.istore 4, 2) := by decide +kernel
theorem dX0_lowestOfPiece_9 : decode cX0_lowestOfPiece 9 = .ok (.iload 4, 2) := by decide +kernel
theorem dX0_lowestOfPiece_11 : decode cX0_lowestOfPiece 11 = .ok (.bipush 48, 2) := by decide +kernel
theorem dX0_lowestOfPiece_13 : decode cX0_lowestOfPiece 13 = .ok (.if_icmp .ge 21, 3) := by decide +kernel
theorem dX0_lowestOfPiece_16 : decode cX0_lowestOfPiece 16 = .ok (.lload_n 2, 1) := by decide +kernel
theorem dX0_lowestOfPiece_17 : decode cX0_lowestOfPiece 17 = .ok (.iload 4, 2) := by decide +kernel
theorem dX0_lowestOfPiece_19 : decode cX0_lowestOfPiece 19 = .ok (.invokestatic 43, 3) := by decide +kernel
theorem dX0_lowestOfPiece_22 : decode cX0_lowestOfPiece 22 = .ok (.ifCond .eq 6, 3) := by decide +kernel
theorem dX0_lowestOfPiece_25 : decode cX0_lowestOfPiece 25 = .ok (.iload 4, 2) := by decide +kernel
theorem dX0_lowestOfPiece_27 : decode cX0_lowestOfPiece 27 = .ok (.ireturn, 1) := by decide +kernel
theorem dX0_lowestOfPiece_28 : decode cX0_lowestOfPiece 28 = .ok (.iinc 4 1, 3) := by decide +kernel
theorem dX0_lowestOfPiece_31 : decode cX0_lowestOfPiece 31 = .ok (.goto (-22), 3) := by decide +kernel
theorem dX0_lowestOfPiece_34 : decode cX0_lowestOfPiece 34 = .ok (.bipush (-6), 2) := by decide +kernel
theorem dX0_lowestOfPiece_36 : decode cX0_lowestOfPiece 36 = .ok (.ireturn, 1) := by decide +kernel
def ch_wsX0_pieces : List (List Cond) := [[.code yX0_pieces cX0_pieces 5 (some .int)], [.fieldLink RX0 22 "TailorChalks$Cloth" "gone" "J", .methodLink RX0 43 yX0_has, .static yX0_has, .initialized RX0, .code yX0_has cX0_has 3 (some .boolean), .methodLink RX0 71 yX0_pieceOf, .instanceMethod yX0_pieceOf, .selects RX0 yX0_pieceOf yX0_pieceOf, .code yX0_pieceOf cX0_pieceOf 2 (some .long), .fieldLink RX0 26 "TailorChalks$Cloth" "heldAcross" "J", .fieldLink RX0 29 "TailorChalks$Cloth" "heldDown" "J", .methodLink RX0 64 yX0_isGone, .instanceMethod yX0_isGone, .selects RX0 yX0_isGone yX0_isGone, .code yX0_isGone cX0_isGone 2 (some .boolean), .methodLink RX0 67 yX0_spread, .static yX0_spread, .code yX0_spread cX0_spread 14 (some .long)], wsX00]
set_option maxRecDepth 20000 in
theorem hf_wsX0_pieces : wsX0_pieces = (ch_wsX0_pieces).flatten := rfl
set_option maxRecDepth 20000 in
theorem hg_wsX0_pieces : (wsX0_pieces).all goodWord = true := by decide +kernel
set_option maxRecDepth 20000 in
theorem gX0_pieces_X0_has : GoodIn wsX0_pieces (va_wsS RX0 43 yX0_has wsX0_has) := goodIn_c ch_wsX0_pieces hf_wsX0_pieces hg_wsX0_pieces _ [(1, 1), (1, 2), (1, 3), (1, 4)] rfl
set_option maxRecDepth 20000 in
theorem gX0_pieces_X0_pieceOf : GoodIn wsX0_pieces (wsV RX0 71 RX0 yX0_pieceOf wsX0_pieceOf) := goodIn_c ch_wsX0_pieces hf_wsX0_pieces hg_wsX0_pieces _ [(1, 5), (1, 6), (1, 7), (1, 3), (1, 8), (1, 9), (1, 10), (1, 11), (1, 12), (1, 13), (1, 3), (1, 14), (1, 0), (1, 1), (1, 2), (1, 4), (1, 15), (1, 16), (1, 17), (2, 0), (2, 1), (2, 2), (2, 3), (2, 4)] rfl
theorem dX0_pieces_0 : decode cX0_pieces 0 = .ok (.aload_n 0, 1) := by decide +kernel
theorem dX0_pieces_1 : decode cX0_pieces 1 = .ok (.getfield 22, 3) := by decide +kernel
theorem dX0_pieces_4 : decode cX0_pieces 4 = .ok (.lstore_n 1, 1) := by decide +kernel
theorem dX0_pieces_5 : decode cX0_pieces 5 = .ok (.iconst 0, 1) := by decide +kernel
theorem dX0_pieces_6 : decode cX0_pieces 6 = .ok (.istore_n 3, 1) := by decide +kernel
theorem dX0_pieces_7 : decode cX0_pieces 7 = .ok (.iconst 0, 1) := by decide +kernel
theorem dX0_pieces_8 : decode cX0_pieces 8 = .ok (.istore 4, 2) := by decide +kernel
theorem dX0_pieces_10 : decode cX0_pieces 10 = .ok (.iload 4, 2) := by decide +kernel
theorem dX0_pieces_12 : decode cX0_pieces 12 = .ok (.bipush 48, 2) := by decide +kernel
theorem dX0_pieces_14 : decode cX0_pieces 14 = .ok (.if_icmp .ge 30, 3) := by decide +kernel
theorem dX0_pieces_17 : decode cX0_pieces 17 = .ok (.lload_n 1, 1) := by decide +kernel
theorem dX0_pieces_18 : decode cX0_pieces 18 = .ok (.iload 4, 2) := by decide +kernel
theorem dX0_pieces_20 : decode cX0_pieces 20 = .ok (.invokestatic 43, 3) := by decide +kernel
theorem dX0_pieces_23 : decode cX0_pieces 23 = .ok (.ifCond .ne 15, 3) := by decide +kernel
theorem dX0_pieces_26 : decode cX0_pieces 26 = .ok (.lload_n 1, 1) := by decide +kernel
theorem dX0_pieces_27 : decode cX0_pieces 27 = .ok (.aload_n 0, 1) := by decide +kernel
theorem dX0_pieces_28 : decode cX0_pieces 28 = .ok (.iload 4, 2) := by decide +kernel
theorem dX0_pieces_30 : decode cX0_pieces 30 = .ok (.invokevirtual 71, 3) := by decide +kernel
theorem dX0_pieces_33 : decode cX0_pieces 33 = .ok (.lor, 1) := by decide +kernel
theorem dX0_pieces_34 : decode cX0_pieces 34 = .ok (.lstore_n 1, 1) := by decide +kernel
theorem dX0_pieces_35 : decode cX0_pieces 35 = .ok (.iinc 3 1, 3) := by decide +kernel
theorem dX0_pieces_38 : decode cX0_pieces 38 = .ok (.iinc 4 1, 3) := by decide +kernel
theorem dX0_pieces_41 : decode cX0_pieces 41 = .ok (.goto (-31), 3) := by decide +kernel
theorem dX0_pieces_44 : decode cX0_pieces 44 = .ok (.iload_n 3, 1) := by decide +kernel
theorem dX0_pieces_45 : decode cX0_pieces 45 = .ok (.ireturn, 1) := by decide +kernel
def ch_wsX0_ragOf : List (List Cond) := [[.code yX0_ragOf cX0_ragOf 14 (some .long)], wsX0_ragOf_r1, wsX0_ragOf_r2, wsX00]
set_option maxRecDepth 20000 in
theorem hf_wsX0_ragOf : wsX0_ragOf = (ch_wsX0_ragOf).flatten := rfl
set_option maxRecDepth 20000 in
theorem hg_wsX0_ragOf : (wsX0_ragOf).all goodWord = true := by decide +kernel
set_option maxRecDepth 20000 in
theorem gX0_ragOf_X0_firstCell : GoodIn wsX0_ragOf (va_wsS RX0 32 yX0_firstCell wsX0_firstCell) := goodIn_c ch_wsX0_ragOf hf_wsX0_ragOf hg_wsX0_ragOf _ [(1, 3), (1, 4), (1, 5), (1, 6)] rfl
set_option maxRecDepth 20000 in
theorem gX0_ragOf_X0_isDown : GoodIn wsX0_ragOf (va_wsS RX0 36 yX0_isDown wsX0_isDown) := goodIn_c ch_wsX0_ragOf hf_wsX0_ragOf hg_wsX0_ragOf _ [(1, 7), (1, 8), (1, 5), (1, 9)] rfl
set_option maxRecDepth 20000 in
theorem gX0_ragOf_X0_spread : GoodIn wsX0_ragOf (va_wsS RX0 67 yX0_spread wsX0_spread) := goodIn_c ch_wsX0_ragOf hf_wsX0_ragOf hg_wsX0_ragOf _ [(1, 10), (1, 11), (1, 5), (1, 12)] rfl
set_option maxRecDepth 20000 in
theorem gX0_ragOf_X0_secondCell : GoodIn wsX0_ragOf (va_wsS RX0 61 yX0_secondCell wsX0_secondCell) := goodIn_c ch_wsX0_ragOf hf_wsX0_ragOf hg_wsX0_ragOf _ [(1, 13), (1, 14), (1, 5), (1, 15), (1, 3), (1, 4), (1, 5), (1, 6), (1, 7), (1, 8), (1, 9)] rfl
set_option maxRecDepth 20000 in
theorem gX0_ragOf_X0_has : GoodIn wsX0_ragOf (va_wsS RX0 43 yX0_has wsX0_has) := goodIn_c ch_wsX0_ragOf hf_wsX0_ragOf hg_wsX0_ragOf _ [(1, 16), (1, 17), (1, 5), (1, 18)] rfl
set_option maxRecDepth 20000 in
theorem gX0_ragOf_J13_bitCount_95d88 : GoodIn wsX0_ragOf (va_wsS RX0 47 yJ13_bitCount_95d88 wsJ13_bitCount_95d88) := goodIn_c ch_wsX0_ragOf hf_wsX0_ragOf hg_wsX0_ragOf _ [(1, 19), (1, 20), (1, 21), (1, 22), (1, 23), (2, 0), (2, 1)] rfl
theorem dX0_ragOf_0 : decode cX0_ragOf 0 = .ok (.lconst 1, 1) := by decide +kernel
theorem dX0_ragOf_1 : decode cX0_ragOf 1 = .ok (.iload_n 1, 1) := by decide +kernel
theorem dX0_ragOf_2 : decode cX0_ragOf 2 = .ok (.invokestatic 32, 3) := by decide +kernel
theorem dX0_ragOf_5 : decode cX0_ragOf 5 = .ok (.lshl, 1) := by decide +kernel
theorem dX0_ragOf_6 : decode cX0_ragOf 6 = .ok (.lstore_n 2, 1) := by decide +kernel
theorem dX0_ragOf_7 : decode cX0_ragOf 7 = .ok (.iload_n 1, 1) := by decide +kernel
theorem dX0_ragOf_8 : decode cX0_ragOf 8 = .ok (.invokestatic 36, 3) := by decide +kernel
theorem dX0_ragOf_11 : decode cX0_ragOf 11 = .ok (.ifCond .eq 10, 3) := by decide +kernel
theorem dX0_ragOf_14 : decode cX0_ragOf 14 = .ok (.aload_n 0, 1) := by decide +kernel
theorem dX0_ragOf_15 : decode cX0_ragOf 15 = .ok (.getfield 26, 3) := by decide +kernel
theorem dX0_ragOf_18 : decode cX0_ragOf 18 = .ok (.goto 13, 3) := by decide +kernel
theorem dX0_ragOf_21 : decode cX0_ragOf 21 = .ok (.aload_n 0, 1) := by decide +kernel
theorem dX0_ragOf_22 : decode cX0_ragOf 22 = .ok (.getfield 26, 3) := by decide +kernel
theorem dX0_ragOf_25 : decode cX0_ragOf 25 = .ok (.lload_n 2, 1) := by decide +kernel
theorem dX0_ragOf_26 : decode cX0_ragOf 26 = .ok (.ldc2_w 53, 3) := by decide +kernel
theorem dX0_ragOf_29 : decode cX0_ragOf 29 = .ok (.lxor, 1) := by decide +kernel
theorem dX0_ragOf_30 : decode cX0_ragOf 30 = .ok (.land, 1) := by decide +kernel
theorem dX0_ragOf_31 : decode cX0_ragOf 31 = .ok (.lstore 4, 2) := by decide +kernel
theorem dX0_ragOf_33 : decode cX0_ragOf 33 = .ok (.iload_n 1, 1) := by decide +kernel
theorem dX0_ragOf_34 : decode cX0_ragOf 34 = .ok (.invokestatic 36, 3) := by decide +kernel
theorem dX0_ragOf_37 : decode cX0_ragOf 37 = .ok (.ifCond .eq 16, 3) := by decide +kernel
theorem dX0_ragOf_40 : decode cX0_ragOf 40 = .ok (.aload_n 0, 1) := by decide +kernel
theorem dX0_ragOf_41 : decode cX0_ragOf 41 = .ok (.getfield 29, 3) := by decide +kernel
theorem dX0_ragOf_44 : decode cX0_ragOf 44 = .ok (.lload_n 2, 1) := by decide +kernel
theorem dX0_ragOf_45 : decode cX0_ragOf 45 = .ok (.ldc2_w 53, 3) := by decide +kernel
theorem dX0_ragOf_48 : decode cX0_ragOf 48 = .ok (.lxor, 1) := by decide +kernel
theorem dX0_ragOf_49 : decode cX0_ragOf 49 = .ok (.land, 1) := by decide +kernel
theorem dX0_ragOf_50 : decode cX0_ragOf 50 = .ok (.goto 7, 3) := by decide +kernel
theorem dX0_ragOf_53 : decode cX0_ragOf 53 = .ok (.aload_n 0, 1) := by decide +kernel
theorem dX0_ragOf_54 : decode cX0_ragOf 54 = .ok (.getfield 29, 3) := by decide +kernel
theorem dX0_ragOf_57 : decode cX0_ragOf 57 = .ok (.lstore 6, 2) := by decide +kernel
theorem dX0_ragOf_59 : decode cX0_ragOf 59 = .ok (.iload_n 1, 1) := by decide +kernel
theorem dX0_ragOf_60 : decode cX0_ragOf 60 = .ok (.invokestatic 32, 3) := by decide +kernel
theorem dX0_ragOf_63 : decode cX0_ragOf 63 = .ok (.lload 4, 2) := by decide +kernel
theorem dX0_ragOf_65 : decode cX0_ragOf 65 = .ok (.lload 6, 2) := by decide +kernel
theorem dX0_ragOf_67 : decode cX0_ragOf 67 = .ok (.invokestatic 67, 3) := by decide +kernel
theorem dX0_ragOf_70 : decode cX0_ragOf 70 = .ok (.lstore 8, 2) := by decide +kernel
theorem dX0_ragOf_72 : decode cX0_ragOf 72 = .ok (.lload 8, 2) := by decide +kernel
theorem dX0_ragOf_74 : decode cX0_ragOf 74 = .ok (.iload_n 1, 1) := by decide +kernel
theorem dX0_ragOf_75 : decode cX0_ragOf 75 = .ok (.invokestatic 61, 3) := by decide +kernel
theorem dX0_ragOf_78 : decode cX0_ragOf 78 = .ok (.invokestatic 43, 3) := by decide +kernel
theorem dX0_ragOf_81 : decode cX0_ragOf 81 = .ok (.ifCond .eq 5, 3) := by decide +kernel
theorem dX0_ragOf_84 : decode cX0_ragOf 84 = .ok (.lconst 0, 1) := by decide +kernel
theorem dX0_ragOf_85 : decode cX0_ragOf 85 = .ok (.lreturn, 1) := by decide +kernel
theorem dX0_ragOf_86 : decode cX0_ragOf 86 = .ok (.iload_n 1, 1) := by decide +kernel
theorem dX0_ragOf_87 : decode cX0_ragOf 87 = .ok (.invokestatic 61, 3) := by decide +kernel
theorem dX0_ragOf_90 : decode cX0_ragOf 90 = .ok (.lload 4, 2) := by decide +kernel
theorem dX0_ragOf_92 : decode cX0_ragOf 92 = .ok (.lload 6, 2) := by decide +kernel
theorem dX0_ragOf_94 : decode cX0_ragOf 94 = .ok (.invokestatic 67, 3) := by decide +kernel
theorem dX0_ragOf_97 : decode cX0_ragOf 97 = .ok (.lstore 10, 2) := by decide +kernel
theorem dX0_ragOf_99 : decode cX0_ragOf 99 = .ok (.lload 8, 2) := by decide +kernel
theorem dX0_ragOf_101 : decode cX0_ragOf 101 = .ok (.invokestatic 47, 3) := by decide +kernel
theorem dX0_ragOf_104 : decode cX0_ragOf 104 = .ok (.lload 10, 2) := by decide +kernel
theorem dX0_ragOf_106 : decode cX0_ragOf 106 = .ok (.invokestatic 47, 3) := by decide +kernel
theorem dX0_ragOf_109 : decode cX0_ragOf 109 = .ok (.if_icmp .ge 8, 3) := by decide +kernel
theorem dX0_ragOf_112 : decode cX0_ragOf 112 = .ok (.lload 8, 2) := by decide +kernel
theorem dX0_ragOf_114 : decode cX0_ragOf 114 = .ok (.goto 5, 3) := by decide +kernel
theorem dX0_ragOf_117 : decode cX0_ragOf 117 = .ok (.lload 10, 2) := by decide +kernel
theorem dX0_ragOf_119 : decode cX0_ragOf 119 = .ok (.lstore 12, 2) := by decide +kernel
theorem dX0_ragOf_121 : decode cX0_ragOf 121 = .ok (.lload 12, 2) := by decide +kernel
theorem dX0_ragOf_123 : decode cX0_ragOf 123 = .ok (.invokestatic 47, 3) := by decide +kernel
theorem dX0_ragOf_126 : decode cX0_ragOf 126 = .ok (.bipush 12, 2) := by decide +kernel
theorem dX0_ragOf_128 : decode cX0_ragOf 128 = .ok (.if_icmp .gt 8, 3) := by decide +kernel
theorem dX0_ragOf_131 : decode cX0_ragOf 131 = .ok (.lload 12, 2) := by decide +kernel
theorem dX0_ragOf_133 : decode cX0_ragOf 133 = .ok (.goto 4, 3) := by decide +kernel
theorem dX0_ragOf_136 : decode cX0_ragOf 136 = .ok (.lconst 0, 1) := by decide +kernel
theorem dX0_ragOf_137 : decode cX0_ragOf 137 = .ok (.lreturn, 1) := by decide +kernel
def ch_wsX0_weakJoints : List (List Cond) := [[.code yX0_weakJoints cX0_weakJoints 3 (some .int)], wsX0_weakJoints_r1, wsX0_weakJoints_r2, wsX00]
set_option maxRecDepth 20000 in
theorem hf_wsX0_weakJoints : wsX0_weakJoints = (ch_wsX0_weakJoints).flatten := rfl
set_option maxRecDepth 20000 in
theorem hg_wsX0_weakJoints : (wsX0_weakJoints).all goodWord = true := by decide +kernel
set_option maxRecDepth 20000 in
theorem gX0_weakJoints_X0_holds : GoodIn wsX0_weakJoints (wsV RX0 58 RX0 yX0_holds wsX0_holds) := goodIn_c ch_wsX0_weakJoints hf_wsX0_weakJoints hg_wsX0_weakJoints _ [(1, 0), (1, 1), (1, 2), (1, 3), (1, 4), (1, 5), (1, 6), (1, 7), (1, 8), (1, 3), (1, 9), (1, 10), (1, 11), (1, 12), (1, 13), (1, 14), (1, 15), (3, 0), (3, 1), (3, 2), (3, 3), (3, 4)] rfl
set_option maxRecDepth 20000 in
theorem gX0_weakJoints_X0_ragOf : GoodIn wsX0_weakJoints (wsV RX0 75 RX0 yX0_ragOf wsX0_ragOf) := goodIn_c ch_wsX0_weakJoints hf_wsX0_weakJoints hg_wsX0_weakJoints _ [(1, 16), (1, 17), (1, 18), (1, 3), (1, 19), (1, 6), (1, 20), (1, 5), (1, 10), (1, 11), (1, 3), (1, 12), (1, 7), (1, 8), (1, 9), (1, 21), (1, 22), (1, 23), (2, 0), (2, 1), (2, 2), (1, 13), (1, 14), (1, 15), (2, 3), (2, 4), (2, 5), (2, 6), (2, 7), (2, 8), (2, 9), (3, 0), (3, 1), (3, 2), (3, 3), (3, 4)] rfl
theorem dX0_weakJoints_0 : decode cX0_weakJoints 0 = .ok (.iconst 0, 1) := by decide +kernel
theorem dX0_weakJoints_1 : decode cX0_weakJoints 1 = .ok (.istore_n 1, 1) := by decide +kernel
theorem dX0_weakJoints_2 : decode cX0_weakJoints 2 = .ok (.iconst 0, 1) := by decide +kernel
theorem dX0_weakJoints_3 : decode cX0_weakJoints 3 = .ok (.istore_n 2, 1) := by decide +kernel
theorem dX0_weakJoints_4 : decode cX0_weakJoints 4 = .ok (.iload_n 2, 1) := by decide +kernel
theorem dX0_weakJoints_5 : decode cX0_weakJoints 5 = .ok (.bipush 82, 2) := by decide +kernel
theorem dX0_weakJoints_7 : decode cX0_weakJoints 7 = .ok (.if_icmp .ge 30, 3) := by decide +kernel
theorem dX0_weakJoints_10 : decode cX0_weakJoints 10 = .ok (.aload_n 0, 1) := by decide +kernel
theorem dX0_weakJoints_11 : decode cX0_weakJoints 11 = .ok (.iload_n 2, 1) := by decide +kernel
theorem dX0_weakJoints_12 : decode cX0_weakJoints 12 = .ok (.invokevirtual 58, 3) := by decide +kernel
theorem dX0_weakJoints_15 : decode cX0_weakJoints 15 = .ok (.ifCond .eq 16, 3) := by decide +kernel
theorem dX0_weakJoints_18 : decode cX0_weakJoints 18 = .ok (.aload_n 0, 1) := by decide +kernel
theorem dX0_weakJoints_19 : decode cX0_weakJoints 19 = .ok (.iload_n 2, 1) := by decide +kernel
theorem dX0_weakJoints_20 : decode cX0_weakJoints 20 = .ok (.invokevirtual 75, 3) := by decide +kernel
theorem dX0_weakJoints_23 : decode cX0_weakJoints 23 = .ok (.lconst 0, 1) := by decide +kernel
theorem dX0_weakJoints_24 : decode cX0_weakJoints 24 = .ok (.lcmp, 1) := by decide +kernel
theorem dX0_weakJoints_25 : decode cX0_weakJoints 25 = .ok (.ifCond .eq 6, 3) := by decide +kernel
theorem dX0_weakJoints_28 : decode cX0_weakJoints 28 = .ok (.iinc 1 1, 3) := by decide +kernel
theorem dX0_weakJoints_31 : decode cX0_weakJoints 31 = .ok (.iinc 2 1, 3) := by decide +kernel
theorem dX0_weakJoints_34 : decode cX0_weakJoints 34 = .ok (.goto (-30), 3) := by decide +kernel
theorem dX0_weakJoints_37 : decode cX0_weakJoints 37 = .ok (.iload_n 1, 1) := by decide +kernel
theorem dX0_weakJoints_38 : decode cX0_weakJoints 38 = .ok (.ireturn, 1) := by decide +kernel
theorem dX0_spread_0 : decode cX0_spread 0 = .ok (.lconst 1, 1) := by decide +kernel
theorem dX0_spread_1 : decode cX0_spread 1 = .ok (.iload_n 0, 1) := by decide +kernel
theorem dX0_spread_2 : decode cX0_spread 2 = .ok (.lshl, 1) := by decide +kernel
theorem dX0_spread_3 : decode cX0_spread 3 = .ok (.lstore 5, 2) := by decide +kernel
theorem dX0_spread_5 : decode cX0_spread 5 = .ok (.iconst 0, 1) := by decide +kernel
theorem dX0_spread_6 : decode cX0_spread 6 = .ok (.istore 7, 2) := by decide +kernel
theorem dX0_spread_8 : decode cX0_spread 8 = .ok (.iload 7, 2) := by decide +kernel
theorem dX0_spread_10 : decode cX0_spread 10 = .ok (.bipush 48, 2) := by decide +kernel
theorem dX0_spread_12 : decode cX0_spread 12 = .ok (.if_icmp .ge 66, 3) := by decide +kernel
theorem dX0_spread_15 : decode cX0_spread 15 = .ok (.lload 5, 2) := by decide +kernel
theorem dX0_spread_17 : decode cX0_spread 17 = .ok (.lload_n 1, 1) := by decide +kernel
theorem dX0_spread_18 : decode cX0_spread 18 = .ok (.land, 1) := by decide +kernel
theorem dX0_spread_19 : decode cX0_spread 19 = .ok (.iconst 1, 1) := by decide +kernel
theorem dX0_spread_20 : decode cX0_spread 20 = .ok (.lshl, 1) := by decide +kernel
theorem dX0_spread_21 : decode cX0_spread 21 = .ok (.lload 5, 2) := by decide +kernel
theorem dX0_spread_23 : decode cX0_spread 23 = .ok (.iconst 1, 1) := by decide +kernel
theorem dX0_spread_24 : decode cX0_spread 24 = .ok (.lushr, 1) := by decide +kernel
theorem dX0_spread_25 : decode cX0_spread 25 = .ok (.lload_n 1, 1) := by decide +kernel
theorem dX0_spread_26 : decode cX0_spread 26 = .ok (.land, 1) := by decide +kernel
theorem dX0_spread_27 : decode cX0_spread 27 = .ok (.lor, 1) := by decide +kernel
theorem dX0_spread_28 : decode cX0_spread 28 = .ok (.lstore 8, 2) := by decide +kernel
theorem dX0_spread_30 : decode cX0_spread 30 = .ok (.lload 5, 2) := by decide +kernel
theorem dX0_spread_32 : decode cX0_spread 32 = .ok (.lload_n 3, 1) := by decide +kernel
theorem dX0_spread_33 : decode cX0_spread 33 = .ok (.land, 1) := by decide +kernel
theorem dX0_spread_34 : decode cX0_spread 34 = .ok (.bipush 8, 2) := by decide +kernel
theorem dX0_spread_36 : decode cX0_spread 36 = .ok (.lshl, 1) := by decide +kernel
theorem dX0_spread_37 : decode cX0_spread 37 = .ok (.lload 5, 2) := by decide +kernel
theorem dX0_spread_39 : decode cX0_spread 39 = .ok (.bipush 8, 2) := by decide +kernel
theorem dX0_spread_41 : decode cX0_spread 41 = .ok (.lushr, 1) := by decide +kernel
theorem dX0_spread_42 : decode cX0_spread 42 = .ok (.lload_n 3, 1) := by decide +kernel
theorem dX0_spread_43 : decode cX0_spread 43 = .ok (.land, 1) := by decide +kernel
theorem dX0_spread_44 : decode cX0_spread 44 = .ok (.lor, 1) := by decide +kernel
theorem dX0_spread_45 : decode cX0_spread 45 = .ok (.lstore 10, 2) := by decide +kernel
theorem dX0_spread_47 : decode cX0_spread 47 = .ok (.lload 5, 2) := by decide +kernel
theorem dX0_spread_49 : decode cX0_spread 49 = .ok (.lload 8, 2) := by decide +kernel
theorem dX0_spread_51 : decode cX0_spread 51 = .ok (.lor, 1) := by decide +kernel
theorem dX0_spread_52 : decode cX0_spread 52 = .ok (.lload 10, 2) := by decide +kernel
theorem dX0_spread_54 : decode cX0_spread 54 = .ok (.lor, 1) := by decide +kernel
theorem dX0_spread_55 : decode cX0_spread 55 = .ok (.lstore 12, 2) := by decide +kernel
theorem dX0_spread_57 : decode cX0_spread 57 = .ok (.lload 12, 2) := by decide +kernel
theorem dX0_spread_59 : decode cX0_spread 59 = .ok (.lload 5, 2) := by decide +kernel
theorem dX0_spread_61 : decode cX0_spread 61 = .ok (.lcmp, 1) := by decide +kernel
theorem dX0_spread_62 : decode cX0_spread 62 = .ok (.ifCond .ne 6, 3) := by decide +kernel
theorem dX0_spread_65 : decode cX0_spread 65 = .ok (.lload 5, 2) := by decide +kernel
theorem dX0_spread_67 : decode cX0_spread 67 = .ok (.lreturn, 1) := by decide +kernel
theorem dX0_spread_68 : decode cX0_spread 68 = .ok (.lload 12, 2) := by decide +kernel
theorem dX0_spread_70 : decode cX0_spread 70 = .ok (.lstore 5, 2) := by decide +kernel
theorem dX0_spread_72 : decode cX0_spread 72 = .ok (.iinc 7 1, 3) := by decide +kernel
theorem dX0_spread_75 : decode cX0_spread 75 = .ok (.goto (-67), 3) := by decide +kernel
theorem dX0_spread_78 : decode cX0_spread 78 = .ok (.lload 5, 2) := by decide +kernel
theorem dX0_spread_80 : decode cX0_spread 80 = .ok (.lreturn, 1) := by decide +kernel
def ch_wsX1_init : List (List Cond) := [[.code yX1_init cX1_init 1 none], wsX1_init_r1, wsX1_init_r2, wsX00, wsX10, wsX50]
set_option maxRecDepth 20000 in
theorem hf_wsX1_init : wsX1_init = (ch_wsX1_init).flatten := rfl
set_option maxRecDepth 20000 in
theorem hg_wsX1_init : (wsX1_init).all goodWord = true := by decide +kernel
set_option maxRecDepth 20000 in
theorem gX1_init_X0_init : GoodIn wsX1_init (wsX0_init) := goodIn_c ch_wsX1_init hf_wsX1_init hg_wsX1_init _ [(1, 14), (1, 15), (1, 1), (1, 2), (1, 16), (1, 17), (1, 18), (1, 19), (1, 20), (1, 21), (1, 5), (1, 22), (1, 23), (2, 0), (2, 1), (2, 2), (2, 3), (2, 4), (2, 5), (2, 6), (2, 7), (2, 8), (2, 9), (2, 10), (3, 0), (3, 1), (3, 2), (3, 3), (3, 4)] rfl
set_option maxRecDepth 20000 in
theorem gX1_init_X5_init : GoodIn wsX1_init (wsX5_init) := goodIn_c ch_wsX1_init hf_wsX1_init hg_wsX1_init _ [(2, 13), (2, 14), (1, 1), (1, 2), (1, 16), (2, 15), (2, 16), (5, 0), (5, 1), (5, 2), (5, 3), (5, 4), (5, 5), (5, 6), (5, 7), (5, 8)] rfl
theorem dX1_init_0 : decode cX1_init 0 = .ok (.aload_n 0, 1) := by decide +kernel
theorem dX1_init_1 : decode cX1_init 1 = .ok (.invokespecial 3, 3) := by decide +kernel
theorem dX1_init_4 : decode cX1_init 4 = .ok (.aload_n 0, 1) := by decide +kernel
theorem dX1_init_5 : decode cX1_init 5 = .ok (.new 9, 3) := by decide +kernel
theorem dX1_init_8 : decode cX1_init 8 = .ok (.dup, 1) := by decide +kernel
theorem dX1_init_9 : decode cX1_init 9 = .ok (.invokespecial 11, 3) := by decide +kernel
theorem dX1_init_12 : decode cX1_init 12 = .ok (.putfield 12, 3) := by decide +kernel
theorem dX1_init_15 : decode cX1_init 15 = .ok (.aload_n 0, 1) := by decide +kernel
theorem dX1_init_16 : decode cX1_init 16 = .ok (.new 18, 3) := by decide +kernel
theorem dX1_init_19 : decode cX1_init 19 = .ok (.dup, 1) := by decide +kernel
theorem dX1_init_20 : decode cX1_init 20 = .ok (.invokespecial 20, 3) := by decide +kernel
theorem dX1_init_23 : decode cX1_init 23 = .ok (.putfield 21, 3) := by decide +kernel
theorem dX1_init_26 : decode cX1_init 26 = .ok (.aload_n 0, 1) := by decide +kernel
theorem dX1_init_27 : decode cX1_init 27 = .ok (.new 18, 3) := by decide +kernel
theorem dX1_init_30 : decode cX1_init 30 = .ok (.dup, 1) := by decide +kernel
theorem dX1_init_31 : decode cX1_init 31 = .ok (.invokespecial 20, 3) := by decide +kernel
theorem dX1_init_34 : decode cX1_init 34 = .ok (.putfield 25, 3) := by decide +kernel
theorem dX1_init_37 : decode cX1_init 37 = .ok (.return_, 1) := by decide +kernel
def ch_wsX1_become : List (List Cond) := [[.code yX1_become cX1_become 2 none], wsX1_become_r1, wsX1_become_r2, wsX10, wsX00, wsX50]
set_option maxRecDepth 20000 in
theorem hf_wsX1_become : wsX1_become = (ch_wsX1_become).flatten := rfl
set_option maxRecDepth 20000 in
theorem hg_wsX1_become : (wsX1_become).all goodWord = true := by decide +kernel
set_option maxRecDepth 20000 in
theorem gX1_become_X0_become : GoodIn wsX1_become (wsV RX1 28 RX0 yX0_become wsX0_become) := goodIn_c ch_wsX1_become hf_wsX1_become hg_wsX1_become _ [(1, 5), (1, 6), (1, 7), (1, 8), (1, 9), (1, 10), (1, 11), (1, 12), (1, 13), (1, 14), (4, 0), (4, 1), (4, 2), (4, 3), (4, 4)] rfl
set_option maxRecDepth 20000 in
theorem gX1_become_X5_become : GoodIn wsX1_become (wsV RX1 32 RX5 yX5_become wsX5_become) := goodIn_c ch_wsX1_become hf_wsX1_become hg_wsX1_become _ [(1, 15), (1, 16), (1, 17), (1, 18), (1, 19), (1, 20), (1, 21), (1, 22), (1, 23), (2, 0), (2, 1), (2, 2), (2, 3), (2, 4), (5, 0), (5, 1), (5, 2), (5, 3), (5, 4), (5, 5), (5, 6), (5, 7), (5, 8)] rfl
theorem dX1_become_0 : decode cX1_become 0 = .ok (.aload_n 0, 1) := by decide +kernel
theorem dX1_become_1 : decode cX1_become 1 = .ok (.getfield 12, 3) := by decide +kernel
theorem dX1_become_4 : decode cX1_become 4 = .ok (.aload_n 1, 1) := by decide +kernel
theorem dX1_become_5 : decode cX1_become 5 = .ok (.getfield 12, 3) := by decide +kernel
theorem dX1_become_8 : decode cX1_become 8 = .ok (.invokevirtual 28, 3) := by decide +kernel
theorem dX1_become_11 : decode cX1_become 11 = .ok (.aload_n 0, 1) := by decide +kernel
theorem dX1_become_12 : decode cX1_become 12 = .ok (.getfield 21, 3) := by decide +kernel
theorem dX1_become_15 : decode cX1_become 15 = .ok (.aload_n 1, 1) := by decide +kernel
theorem dX1_become_16 : decode cX1_become 16 = .ok (.getfield 21, 3) := by decide +kernel
theorem dX1_become_19 : decode cX1_become 19 = .ok (.invokevirtual 32, 3) := by decide +kernel
theorem dX1_become_22 : decode cX1_become 22 = .ok (.aload_n 0, 1) := by decide +kernel
theorem dX1_become_23 : decode cX1_become 23 = .ok (.getfield 25, 3) := by decide +kernel
theorem dX1_become_26 : decode cX1_become 26 = .ok (.aload_n 1, 1) := by decide +kernel
theorem dX1_become_27 : decode cX1_become 27 = .ok (.getfield 25, 3) := by decide +kernel
theorem dX1_become_30 : decode cX1_become 30 = .ok (.invokevirtual 32, 3) := by decide +kernel
theorem dX1_become_33 : decode cX1_become 33 = .ok (.aload_n 0, 1) := by decide +kernel
theorem dX1_become_34 : decode cX1_become 34 = .ok (.aload_n 1, 1) := by decide +kernel
theorem dX1_become_35 : decode cX1_become 35 = .ok (.getfield 35, 3) := by decide +kernel
theorem dX1_become_38 : decode cX1_become 38 = .ok (.putfield 35, 3) := by decide +kernel
theorem dX1_become_41 : decode cX1_become 41 = .ok (.aload_n 0, 1) := by decide +kernel
theorem dX1_become_42 : decode cX1_become 42 = .ok (.aload_n 1, 1) := by decide +kernel
theorem dX1_become_43 : decode cX1_become 43 = .ok (.getfield 39, 3) := by decide +kernel
theorem dX1_become_46 : decode cX1_become 46 = .ok (.putfield 39, 3) := by decide +kernel
theorem dX1_become_49 : decode cX1_become 49 = .ok (.return_, 1) := by decide +kernel
theorem dX1_isPlayer_0 : decode cX1_isPlayer 0 = .ok (.iload_n 0, 1) := by decide +kernel
theorem dX1_isPlayer_1 : decode cX1_isPlayer 1 = .ok (.ifCond .eq 8, 3) := by decide +kernel
theorem dX1_isPlayer_4 : decode cX1_isPlayer 4 = .ok (.iload_n 0, 1) := by decide +kernel
theorem dX1_isPlayer_5 : decode cX1_isPlayer 5 = .ok (.iconst 1, 1) := by decide +kernel
theorem dX1_isPlayer_6 : decode cX1_isPlayer 6 = .ok (.if_icmp .ne 7, 3) := by decide +kernel
theorem dX1_isPlayer_9 : decode cX1_isPlayer 9 = .ok (.iconst 1, 1) := by decide +kernel
theorem dX1_isPlayer_10 : decode cX1_isPlayer 10 = .ok (.goto 4, 3) := by decide +kernel
theorem dX1_isPlayer_13 : decode cX1_isPlayer 13 = .ok (.iconst 0, 1) := by decide +kernel
theorem dX1_isPlayer_14 : decode cX1_isPlayer 14 = .ok (.ireturn, 1) := by decide +kernel
theorem dX1_tailorOf_0 : decode cX1_tailorOf 0 = .ok (.iload_n 1, 1) := by decide +kernel
theorem dX1_tailorOf_1 : decode cX1_tailorOf 1 = .ok (.ifCond .ne 10, 3) := by decide +kernel
theorem dX1_tailorOf_4 : decode cX1_tailorOf 4 = .ok (.aload_n 0, 1) := by decide +kernel
theorem dX1_tailorOf_5 : decode cX1_tailorOf 5 = .ok (.getfield 21, 3) := by decide +kernel
theorem dX1_tailorOf_8 : decode cX1_tailorOf 8 = .ok (.goto 7, 3) := by decide +kernel
theorem dX1_tailorOf_11 : decode cX1_tailorOf 11 = .ok (.aload_n 0, 1) := by decide +kernel
theorem dX1_tailorOf_12 : decode cX1_tailorOf 12 = .ok (.getfield 25, 3) := by decide +kernel
theorem dX1_tailorOf_15 : decode cX1_tailorOf 15 = .ok (.areturn, 1) := by decide +kernel
def ch_wsX1_isOver : List (List Cond) := [[.code yX1_isOver cX1_isOver 1 (some .boolean)], [.fieldLink RX1 39 "TailorChalks$Game" "turns" "I", .fieldLink RX1 12 "TailorChalks$Game" "cloth" "LTailorChalks$Cloth;", .methodLink RX1 42 yX0_cellsLeft, .instanceMethod yX0_cellsLeft, .selects RX0 yX0_cellsLeft yX0_cellsLeft, .initialized RX0, .code yX0_cellsLeft cX0_cellsLeft 1 (some .int), .fieldLink RX0 22 "TailorChalks$Cloth" "gone" "J", .methodLink RX0 47 yJ13_bitCount_95d88, .static yJ13_bitCount_95d88, .initialized RJ13, .code yJ13_bitCount_95d88 cJ13_bitCount_95d88 2 (some .int), .constantLong RJ13 314 (6148914691236517205), .constantLong RJ13 316 (3689348814741910323), .constantLong RJ13 318 (1085102592571150095)], wsX10, wsX00]
set_option maxRecDepth 20000 in
theorem hf_wsX1_isOver : wsX1_isOver = (ch_wsX1_isOver).flatten := rfl
set_option maxRecDepth 20000 in
theorem hg_wsX1_isOver : (wsX1_isOver).all goodWord = true := by decide +kernel
set_option maxRecDepth 20000 in
theorem gX1_isOver_X0_cellsLeft : GoodIn wsX1_isOver (wsV RX1 42 RX0 yX0_cellsLeft wsX0_cellsLeft) := goodIn_c ch_wsX1_isOver hf_wsX1_isOver hg_wsX1_isOver _ [(1, 2), (1, 3), (1, 4), (1, 5), (1, 6), (1, 7), (1, 8), (1, 9), (1, 10), (1, 11), (1, 12), (1, 13), (1, 14), (3, 0), (3, 1), (3, 2), (3, 3), (3, 4)] rfl
theorem dX1_isOver_0 : decode cX1_isOver 0 = .ok (.aload_n 0, 1) := by decide +kernel
theorem dX1_isOver_1 : decode cX1_isOver 1 = .ok (.getfield 39, 3) := by decide +kernel
theorem dX1_isOver_4 : decode cX1_isOver 4 = .ok (.sipush 200, 3) := by decide +kernel
theorem dX1_isOver_7 : decode cX1_isOver 7 = .ok (.if_icmp .ge 15, 3) := by decide +kernel
theorem dX1_isOver_10 : decode cX1_isOver 10 = .ok (.aload_n 0, 1) := by decide +kernel
theorem dX1_isOver_11 : decode cX1_isOver 11 = .ok (.getfield 12, 3) := by decide +kernel
theorem dX1_isOver_14 : decode cX1_isOver 14 = .ok (.invokevirtual 42, 3) := by decide +kernel
theorem dX1_isOver_17 : decode cX1_isOver 17 = .ok (.bipush 13, 2) := by decide +kernel
theorem dX1_isOver_19 : decode cX1_isOver 19 = .ok (.if_icmp .ge 7, 3) := by decide +kernel
theorem dX1_isOver_22 : decode cX1_isOver 22 = .ok (.iconst 1, 1) := by decide +kernel
theorem dX1_isOver_23 : decode cX1_isOver 23 = .ok (.goto 4, 3) := by decide +kernel
theorem dX1_isOver_26 : decode cX1_isOver 26 = .ok (.iconst 0, 1) := by decide +kernel
theorem dX1_isOver_27 : decode cX1_isOver 27 = .ok (.ireturn, 1) := by decide +kernel
def ch_wsX1_winner : List (List Cond) := [[.code yX1_winner cX1_winner 1 (some .int)], [.fieldLink RX1 21 "TailorChalks$Game" "tailorZero" "LTailorChalks$Tailor;", .fieldLink RX1 50 "TailorChalks$Tailor" "points" "I", .fieldLink RX1 25 "TailorChalks$Game" "tailorOne" "LTailorChalks$Tailor;", .methodLink RX1 46 yX1_isOver, .instanceMethod yX1_isOver, .selects RX1 yX1_isOver yX1_isOver, .initialized RX1, .code yX1_isOver cX1_isOver 1 (some .boolean), .fieldLink RX1 39 "TailorChalks$Game" "turns" "I", .fieldLink RX1 12 "TailorChalks$Game" "cloth" "LTailorChalks$Cloth;", .methodLink RX1 42 yX0_cellsLeft, .instanceMethod yX0_cellsLeft, .selects RX0 yX0_cellsLeft yX0_cellsLeft, .initialized RX0, .code yX0_cellsLeft cX0_cellsLeft 1 (some .int), .fieldLink RX0 22 "TailorChalks$Cloth" "gone" "J", .methodLink RX0 47 yJ13_bitCount_95d88, .static yJ13_bitCount_95d88, .initialized RJ13, .code yJ13_bitCount_95d88 cJ13_bitCount_95d88 2 (some .int), .constantLong RJ13 314 (6148914691236517205), .constantLong RJ13 316 (3689348814741910323), .constantLong RJ13 318 (1085102592571150095)], wsX10, wsX50, wsX00]
set_option maxRecDepth 20000 in
theorem hf_wsX1_winner : wsX1_winner = (ch_wsX1_winner).flatten := rfl
set_option maxRecDepth 20000 in
theorem hg_wsX1_winner : (wsX1_winner).all goodWord = true := by decide +kernel
set_option maxRecDepth 20000 in
theorem gX1_winner_X1_isOver : GoodIn wsX1_winner (wsV RX1 46 RX1 yX1_isOver wsX1_isOver) := goodIn_c ch_wsX1_winner hf_wsX1_winner hg_wsX1_winner _ [(1, 3), (1, 4), (1, 5), (1, 6), (1, 7), (1, 8), (1, 9), (1, 10), (1, 11), (1, 12), (1, 13), (1, 14), (1, 15), (1, 16), (1, 17), (1, 18), (1, 19), (1, 20), (1, 21), (1, 22), (2, 0), (2, 1), (2, 2), (2, 3), (2, 4), (4, 0), (4, 1), (4, 2), (4, 3), (4, 4)] rfl
theorem dX1_winner_0 : decode cX1_winner 0 = .ok (.aload_n 0, 1) := by decide +kernel
theorem dX1_winner_1 : decode cX1_winner 1 = .ok (.invokevirtual 46, 3) := by decide +kernel
theorem dX1_winner_4 : decode cX1_winner 4 = .ok (.ifCond .ne 6, 3) := by decide +kernel
theorem dX1_winner_7 : decode cX1_winner 7 = .ok (.bipush (-6), 2) := by decide +kernel
theorem dX1_winner_9 : decode cX1_winner 9 = .ok (.ireturn, 1) := by decide +kernel
theorem dX1_winner_10 : decode cX1_winner 10 = .ok (.aload_n 0, 1) := by decide +kernel
theorem dX1_winner_11 : decode cX1_winner 11 = .ok (.getfield 21, 3) := by decide +kernel
theorem dX1_winner_14 : decode cX1_winner 14 = .ok (.getfield 50, 3) := by decide +kernel
theorem dX1_winner_17 : decode cX1_winner 17 = .ok (.aload_n 0, 1) := by decide +kernel
theorem dX1_winner_18 : decode cX1_winner 18 = .ok (.getfield 25, 3) := by decide +kernel
theorem dX1_winner_21 : decode cX1_winner 21 = .ok (.getfield 50, 3) := by decide +kernel
theorem dX1_winner_24 : decode cX1_winner 24 = .ok (.if_icmp .ne 5, 3) := by decide +kernel
theorem dX1_winner_27 : decode cX1_winner 27 = .ok (.iconst 2, 1) := by decide +kernel
theorem dX1_winner_28 : decode cX1_winner 28 = .ok (.ireturn, 1) := by decide +kernel
theorem dX1_winner_29 : decode cX1_winner 29 = .ok (.aload_n 0, 1) := by decide +kernel
theorem dX1_winner_30 : decode cX1_winner 30 = .ok (.getfield 21, 3) := by decide +kernel
theorem dX1_winner_33 : decode cX1_winner 33 = .ok (.getfield 50, 3) := by decide +kernel
theorem dX1_winner_36 : decode cX1_winner 36 = .ok (.aload_n 0, 1) := by decide +kernel
theorem dX1_winner_37 : decode cX1_winner 37 = .ok (.getfield 25, 3) := by decide +kernel
theorem dX1_winner_40 : decode cX1_winner 40 = .ok (.getfield 50, 3) := by decide +kernel
theorem dX1_winner_43 : decode cX1_winner 43 = .ok (.if_icmp .le 7, 3) := by decide +kernel
theorem dX1_winner_46 : decode cX1_winner 46 = .ok (.iconst 0, 1) := by decide +kernel
theorem dX1_winner_47 : decode cX1_winner 47 = .ok (.goto 4, 3) := by decide +kernel
theorem dX1_winner_50 : decode cX1_winner 50 = .ok (.iconst 1, 1) := by decide +kernel
theorem dX1_winner_51 : decode cX1_winner 51 = .ok (.ireturn, 1) := by decide +kernel
def ch_wsX1_chalkersOf : List (List Cond) := [[.code yX1_chalkersOf cX1_chalkersOf 2 (some .int)], [.fieldLink RX1 21 "TailorChalks$Game" "tailorZero" "LTailorChalks$Tailor;", .fieldLink RX1 25 "TailorChalks$Game" "tailorOne" "LTailorChalks$Tailor;", .methodLink RX1 53 yX5_hasMark, .instanceMethod yX5_hasMark, .selects RX5 yX5_hasMark yX5_hasMark, .initialized RX5, .code yX5_hasMark cX5_hasMark 3 (some .boolean), .fieldLink RX5 19 "TailorChalks$Tailor" "marks" "I", .fieldLink RX5 11 "TailorChalks$Tailor" "marked" "[I"], wsX10, wsX50]
set_option maxRecDepth 20000 in
theorem hf_wsX1_chalkersOf : wsX1_chalkersOf = (ch_wsX1_chalkersOf).flatten := rfl
set_option maxRecDepth 20000 in
theorem hg_wsX1_chalkersOf : (wsX1_chalkersOf).all goodWord = true := by decide +kernel
set_option maxRecDepth 20000 in
theorem gX1_chalkersOf_X5_hasMark : GoodIn wsX1_chalkersOf (wsV RX1 53 RX5 yX5_hasMark wsX5_hasMark) := goodIn_c ch_wsX1_chalkersOf hf_wsX1_chalkersOf hg_wsX1_chalkersOf _ [(1, 2), (1, 3), (1, 4), (1, 5), (1, 6), (1, 7), (1, 8), (3, 0), (3, 1), (3, 2), (3, 3), (3, 4), (3, 5), (3, 6), (3, 7), (3, 8)] rfl
theorem dX1_chalkersOf_0 : decode cX1_chalkersOf 0 = .ok (.aload_n 0, 1) := by decide +kernel
theorem dX1_chalkersOf_1 : decode cX1_chalkersOf 1 = .ok (.getfield 21, 3) := by decide +kernel
theorem dX1_chalkersOf_4 : decode cX1_chalkersOf 4 = .ok (.iload_n 1, 1) := by decide +kernel
theorem dX1_chalkersOf_5 : decode cX1_chalkersOf 5 = .ok (.invokevirtual 53, 3) := by decide +kernel
theorem dX1_chalkersOf_8 : decode cX1_chalkersOf 8 = .ok (.ifCond .eq 7, 3) := by decide +kernel
theorem dX1_chalkersOf_11 : decode cX1_chalkersOf 11 = .ok (.iconst 1, 1) := by decide +kernel
theorem dX1_chalkersOf_12 : decode cX1_chalkersOf 12 = .ok (.goto 4, 3) := by decide +kernel
theorem dX1_chalkersOf_15 : decode cX1_chalkersOf 15 = .ok (.iconst 0, 1) := by decide +kernel
theorem dX1_chalkersOf_16 : decode cX1_chalkersOf 16 = .ok (.aload_n 0, 1) := by decide +kernel
theorem dX1_chalkersOf_17 : decode cX1_chalkersOf 17 = .ok (.getfield 25, 3) := by decide +kernel
theorem dX1_chalkersOf_20 : decode cX1_chalkersOf 20 = .ok (.iload_n 1, 1) := by decide +kernel
theorem dX1_chalkersOf_21 : decode cX1_chalkersOf 21 = .ok (.invokevirtual 53, 3) := by decide +kernel
theorem dX1_chalkersOf_24 : decode cX1_chalkersOf 24 = .ok (.ifCond .eq 7, 3) := by decide +kernel
theorem dX1_chalkersOf_27 : decode cX1_chalkersOf 27 = .ok (.iconst 2, 1) := by decide +kernel
theorem dX1_chalkersOf_28 : decode cX1_chalkersOf 28 = .ok (.goto 4, 3) := by decide +kernel
theorem dX1_chalkersOf_31 : decode cX1_chalkersOf 31 = .ok (.iconst 0, 1) := by decide +kernel
theorem dX1_chalkersOf_32 : decode cX1_chalkersOf 32 = .ok (.ior, 1) := by decide +kernel
theorem dX1_chalkersOf_33 : decode cX1_chalkersOf 33 = .ok (.ireturn, 1) := by decide +kernel
def ch_wsX1_doubtableMaker : List (List Cond) := [[.code yX1_doubtableMaker cX1_doubtableMaker 2 (some .int)], wsX1_doubtableMaker_r1, wsX1_doubtableMaker_r2, wsX10, wsX00]
set_option maxRecDepth 20000 in
theorem hf_wsX1_doubtableMaker : wsX1_doubtableMaker = (ch_wsX1_doubtableMaker).flatten := rfl
set_option maxRecDepth 20000 in
theorem hg_wsX1_doubtableMaker : (wsX1_doubtableMaker).all goodWord = true := by decide +kernel
set_option maxRecDepth 20000 in
theorem gX1_doubtableMaker_X1_isOver : GoodIn wsX1_doubtableMaker (wsV RX1 46 RX1 yX1_isOver wsX1_isOver) := goodIn_c ch_wsX1_doubtableMaker hf_wsX1_doubtableMaker hg_wsX1_doubtableMaker _ [(1, 1), (1, 2), (1, 3), (1, 4), (1, 5), (1, 6), (1, 0), (1, 7), (1, 8), (1, 9), (1, 10), (1, 11), (1, 12), (1, 13), (1, 14), (1, 15), (1, 16), (1, 17), (1, 18), (1, 19), (3, 0), (3, 1), (3, 2), (3, 3), (3, 4), (4, 0), (4, 1), (4, 2), (4, 3), (4, 4)] rfl
set_option maxRecDepth 20000 in
theorem gX1_doubtableMaker_X0_isVoid : GoodIn wsX1_doubtableMaker (wsV RX1 57 RX0 yX0_isVoid wsX0_isVoid) := goodIn_c ch_wsX1_doubtableMaker hf_wsX1_doubtableMaker hg_wsX1_doubtableMaker _ [(1, 20), (1, 21), (1, 22), (1, 10), (1, 23), (1, 12), (2, 0), (2, 1), (1, 10), (2, 2), (2, 3), (2, 4), (2, 5), (2, 6), (2, 7), (2, 8), (4, 0), (4, 1), (4, 2), (4, 3), (4, 4)] rfl
set_option maxRecDepth 20000 in
theorem gX1_doubtableMaker_X0_makerOf : GoodIn wsX1_doubtableMaker (wsV RX1 60 RX0 yX0_makerOf wsX0_makerOf) := goodIn_c ch_wsX1_doubtableMaker hf_wsX1_doubtableMaker hg_wsX1_doubtableMaker _ [(2, 9), (2, 10), (2, 11), (1, 10), (2, 12), (2, 13), (2, 14), (2, 15), (1, 10), (2, 16), (4, 0), (4, 1), (4, 2), (4, 3), (4, 4)] rfl
theorem dX1_doubtableMaker_0 : decode cX1_doubtableMaker 0 = .ok (.aload_n 0, 1) := by decide +kernel
theorem dX1_doubtableMaker_1 : decode cX1_doubtableMaker 1 = .ok (.invokevirtual 46, 3) := by decide +kernel
theorem dX1_doubtableMaker_4 : decode cX1_doubtableMaker 4 = .ok (.ifCond .ne 14, 3) := by decide +kernel
theorem dX1_doubtableMaker_7 : decode cX1_doubtableMaker 7 = .ok (.aload_n 0, 1) := by decide +kernel
theorem dX1_doubtableMaker_8 : decode cX1_doubtableMaker 8 = .ok (.getfield 12, 3) := by decide +kernel
theorem dX1_doubtableMaker_11 : decode cX1_doubtableMaker 11 = .ok (.iload_n 1, 1) := by decide +kernel
theorem dX1_doubtableMaker_12 : decode cX1_doubtableMaker 12 = .ok (.invokevirtual 57, 3) := by decide +kernel
theorem dX1_doubtableMaker_15 : decode cX1_doubtableMaker 15 = .ok (.ifCond .eq 8, 3) := by decide +kernel
theorem dX1_doubtableMaker_18 : decode cX1_doubtableMaker 18 = .ok (.bipush (-6), 2) := by decide +kernel
theorem dX1_doubtableMaker_20 : decode cX1_doubtableMaker 20 = .ok (.goto 11, 3) := by decide +kernel
theorem dX1_doubtableMaker_23 : decode cX1_doubtableMaker 23 = .ok (.aload_n 0, 1) := by decide +kernel
theorem dX1_doubtableMaker_24 : decode cX1_doubtableMaker 24 = .ok (.getfield 12, 3) := by decide +kernel
theorem dX1_doubtableMaker_27 : decode cX1_doubtableMaker 27 = .ok (.iload_n 1, 1) := by decide +kernel
theorem dX1_doubtableMaker_28 : decode cX1_doubtableMaker 28 = .ok (.invokevirtual 60, 3) := by decide +kernel
theorem dX1_doubtableMaker_31 : decode cX1_doubtableMaker 31 = .ok (.ireturn, 1) := by decide +kernel
def ch_wsX1_whyNoSnip : List (List Cond) := [[.code yX1_whyNoSnip cX1_whyNoSnip 2 (some .int)], wsX1_whyNoSnip_r1, wsX1_whyNoSnip_r2, wsX10, wsX00]
set_option maxRecDepth 20000 in
theorem hf_wsX1_whyNoSnip : wsX1_whyNoSnip = (ch_wsX1_whyNoSnip).flatten := rfl
set_option maxRecDepth 20000 in
theorem hg_wsX1_whyNoSnip : (wsX1_whyNoSnip).all goodWord = true := by decide +kernel
set_option maxRecDepth 20000 in
theorem gX1_whyNoSnip_X1_isOver : GoodIn wsX1_whyNoSnip (wsV RX1 46 RX1 yX1_isOver wsX1_isOver) := goodIn_c ch_wsX1_whyNoSnip hf_wsX1_whyNoSnip hg_wsX1_whyNoSnip _ [(1, 1), (1, 2), (1, 3), (1, 4), (1, 5), (1, 6), (1, 0), (1, 7), (1, 8), (1, 9), (1, 10), (1, 11), (1, 12), (1, 13), (1, 14), (1, 15), (1, 16), (1, 17), (1, 18), (1, 19), (3, 0), (3, 1), (3, 2), (3, 3), (3, 4), (4, 0), (4, 1), (4, 2), (4, 3), (4, 4)] rfl
set_option maxRecDepth 20000 in
theorem gX1_whyNoSnip_X0_isVoid : GoodIn wsX1_whyNoSnip (wsV RX1 57 RX0 yX0_isVoid wsX0_isVoid) := goodIn_c ch_wsX1_whyNoSnip hf_wsX1_whyNoSnip hg_wsX1_whyNoSnip _ [(1, 20), (1, 21), (1, 22), (1, 10), (1, 23), (1, 12), (2, 0), (2, 1), (1, 10), (2, 2), (2, 3), (2, 4), (2, 5), (2, 6), (2, 7), (2, 8), (4, 0), (4, 1), (4, 2), (4, 3), (4, 4)] rfl
set_option maxRecDepth 20000 in
theorem gX1_whyNoSnip_X0_stateOf : GoodIn wsX1_whyNoSnip (wsV RX1 64 RX0 yX0_stateOf wsX0_stateOf) := goodIn_c ch_wsX1_whyNoSnip hf_wsX1_whyNoSnip hg_wsX1_whyNoSnip _ [(2, 9), (2, 10), (2, 11), (1, 10), (2, 12), (2, 13), (2, 14), (2, 15), (1, 10), (2, 16), (4, 0), (4, 1), (4, 2), (4, 3), (4, 4)] rfl
theorem dX1_whyNoSnip_0 : decode cX1_whyNoSnip 0 = .ok (.aload_n 0, 1) := by decide +kernel
theorem dX1_whyNoSnip_1 : decode cX1_whyNoSnip 1 = .ok (.invokevirtual 46, 3) := by decide +kernel
theorem dX1_whyNoSnip_4 : decode cX1_whyNoSnip 4 = .ok (.ifCond .eq 5, 3) := by decide +kernel
theorem dX1_whyNoSnip_7 : decode cX1_whyNoSnip 7 = .ok (.iconst 1, 1) := by decide +kernel
theorem dX1_whyNoSnip_8 : decode cX1_whyNoSnip 8 = .ok (.ireturn, 1) := by decide +kernel
theorem dX1_whyNoSnip_9 : decode cX1_whyNoSnip 9 = .ok (.aload_n 0, 1) := by decide +kernel
theorem dX1_whyNoSnip_10 : decode cX1_whyNoSnip 10 = .ok (.getfield 12, 3) := by decide +kernel
theorem dX1_whyNoSnip_13 : decode cX1_whyNoSnip 13 = .ok (.iload_n 1, 1) := by decide +kernel
theorem dX1_whyNoSnip_14 : decode cX1_whyNoSnip 14 = .ok (.invokevirtual 57, 3) := by decide +kernel
theorem dX1_whyNoSnip_17 : decode cX1_whyNoSnip 17 = .ok (.ifCond .eq 5, 3) := by decide +kernel
theorem dX1_whyNoSnip_20 : decode cX1_whyNoSnip 20 = .ok (.iconst 2, 1) := by decide +kernel
theorem dX1_whyNoSnip_21 : decode cX1_whyNoSnip 21 = .ok (.ireturn, 1) := by decide +kernel
theorem dX1_whyNoSnip_22 : decode cX1_whyNoSnip 22 = .ok (.aload_n 0, 1) := by decide +kernel
theorem dX1_whyNoSnip_23 : decode cX1_whyNoSnip 23 = .ok (.getfield 12, 3) := by decide +kernel
theorem dX1_whyNoSnip_26 : decode cX1_whyNoSnip 26 = .ok (.iload_n 1, 1) := by decide +kernel
theorem dX1_whyNoSnip_27 : decode cX1_whyNoSnip 27 = .ok (.invokevirtual 64, 3) := by decide +kernel
theorem dX1_whyNoSnip_30 : decode cX1_whyNoSnip 30 = .ok (.iconst 1, 1) := by decide +kernel
theorem dX1_whyNoSnip_31 : decode cX1_whyNoSnip 31 = .ok (.if_icmp .ne 7, 3) := by decide +kernel
theorem dX1_whyNoSnip_34 : decode cX1_whyNoSnip 34 = .ok (.iconst 3, 1) := by decide +kernel
theorem dX1_whyNoSnip_35 : decode cX1_whyNoSnip 35 = .ok (.goto 4, 3) := by decide +kernel
theorem dX1_whyNoSnip_38 : decode cX1_whyNoSnip 38 = .ok (.iconst 0, 1) := by decide +kernel
theorem dX1_whyNoSnip_39 : decode cX1_whyNoSnip 39 = .ok (.ireturn, 1) := by decide +kernel
def ch_wsX1_obey : List (List Cond) := [[.code yX1_obey cX1_obey 3 (some .int)], wsX1_obey_r1, wsX1_obey_r2, wsX1_obey_r3, wsX1_obey_r4, wsX1_obey_r5, wsX1_obey_r6, wsX1_obey_r7, wsX10, wsX00, wsX50]
set_option maxRecDepth 20000 in
theorem hf_wsX1_obey : wsX1_obey = (ch_wsX1_obey).flatten := rfl
set_option maxRecDepth 20000 in
theorem hg_wsX1_obey : (wsX1_obey).all goodWord = true := by decide +kernel
set_option maxRecDepth 20000 in
theorem gX1_obey_X1_passOn : GoodIn wsX1_obey (wsV RX1 67 RX1 yX1_passOn wsX1_passOn) := goodIn_c ch_wsX1_obey hf_wsX1_obey hg_wsX1_obey _ [(1, 1), (1, 2), (1, 3), (1, 4), (1, 5), (1, 6), (1, 7), (1, 8), (1, 9), (1, 4), (1, 10), (1, 11), (1, 0), (1, 12), (1, 13), (1, 14), (1, 15), (1, 16), (1, 17), (1, 18), (1, 19), (1, 20), (1, 21), (1, 22), (1, 23), (2, 0), (2, 1), (2, 2), (2, 3), (2, 4), (8, 0), (8, 1), (8, 2), (8, 3), (8, 4), (9, 0), (9, 1), (9, 2), (9, 3), (9, 4)] rfl
set_option maxRecDepth 20000 in
theorem gX1_obey_X0_isJoint : GoodIn wsX1_obey (va_wsS RX1 70 yX0_isJoint wsX0_isJoint) := goodIn_c ch_wsX1_obey hf_wsX1_obey hg_wsX1_obey _ [(2, 5), (2, 6), (1, 15), (2, 7)] rfl
set_option maxRecDepth 20000 in
theorem gX1_obey_X1_isOver : GoodIn wsX1_obey (wsV RX1 46 RX1 yX1_isOver wsX1_isOver) := goodIn_c ch_wsX1_obey hf_wsX1_obey hg_wsX1_obey _ [(1, 7), (1, 8), (1, 9), (1, 4), (1, 10), (1, 11), (1, 0), (1, 12), (1, 13), (1, 14), (1, 15), (1, 16), (1, 17), (1, 18), (1, 19), (1, 20), (1, 21), (1, 22), (1, 23), (2, 0), (8, 0), (8, 1), (8, 2), (8, 3), (8, 4), (9, 0), (9, 1), (9, 2), (9, 3), (9, 4)] rfl
set_option maxRecDepth 20000 in
theorem gX1_obey_X0_isVoid : GoodIn wsX1_obey (wsV RX1 57 RX0 yX0_isVoid wsX0_isVoid) := goodIn_c ch_wsX1_obey hf_wsX1_obey hg_wsX1_obey _ [(2, 8), (2, 9), (2, 10), (1, 15), (2, 11), (1, 17), (2, 12), (2, 13), (1, 15), (2, 14), (2, 15), (2, 16), (2, 17), (2, 18), (2, 19), (2, 20), (9, 0), (9, 1), (9, 2), (9, 3), (9, 4)] rfl
set_option maxRecDepth 20000 in
theorem gX1_obey_X1_markJoint : GoodIn wsX1_obey (wsV RX1 73 RX1 yX1_markJoint wsX1_markJoint) := goodIn_c ch_wsX1_obey hf_wsX1_obey hg_wsX1_obey _ [(2, 21), (2, 22), (2, 23), (1, 4), (3, 0), (1, 6), (1, 0), (3, 1), (3, 2), (3, 3), (3, 4), (1, 4), (3, 5), (3, 6), (3, 7), (3, 8), (3, 9), (3, 10), (1, 15), (3, 11), (3, 12), (3, 13), (2, 12), (2, 13), (2, 14), (2, 15), (2, 16), (2, 17), (2, 18), (2, 19), (2, 20), (3, 14), (3, 15), (3, 16), (3, 17), (3, 18), (3, 19), (3, 20), (3, 21), (3, 22), (3, 23), (4, 0), (2, 1), (2, 2), (2, 3), (2, 4), (1, 11), (8, 0), (8, 1), (8, 2), (8, 3), (8, 4), (10, 0), (10, 1), (10, 2), (10, 3), (10, 4), (10, 5), (10, 6), (10, 7), (10, 8), (9, 0), (9, 1), (9, 2), (9, 3), (9, 4)] rfl
set_option maxRecDepth 20000 in
theorem gX1_obey_X1_snipJoint : GoodIn wsX1_obey (wsV RX1 76 RX1 yX1_snipJoint wsX1_snipJoint) := goodIn_c ch_wsX1_obey hf_wsX1_obey hg_wsX1_obey _ [(4, 1), (4, 2), (4, 3), (1, 4), (4, 4), (1, 0), (4, 5), (4, 6), (4, 7), (1, 4), (4, 8), (1, 7), (1, 8), (1, 9), (1, 10), (1, 11), (1, 12), (1, 13), (1, 14), (1, 15), (1, 16), (1, 17), (1, 18), (1, 19), (1, 20), (1, 21), (1, 22), (1, 23), (2, 0), (2, 8), (2, 9), (2, 10), (2, 11), (2, 12), (2, 13), (2, 14), (2, 15), (2, 16), (2, 17), (2, 18), (2, 19), (2, 20), (4, 9), (4, 10), (4, 11), (4, 12), (4, 13), (4, 14), (2, 6), (2, 7), (4, 15), (4, 16), (4, 17), (4, 18), (1, 6), (4, 19), (4, 20), (3, 2), (3, 3), (3, 4), (3, 5), (3, 6), (3, 7), (3, 14), (3, 15), (3, 16), (3, 17), (3, 18), (3, 19), (3, 20), (4, 21), (4, 22), (4, 23), (5, 0), (5, 1), (5, 2), (5, 3), (5, 4), (5, 5), (5, 6), (5, 7), (5, 8), (3, 13), (5, 9), (3, 12), (5, 10), (5, 11), (5, 12), (5, 13), (5, 14), (5, 15), (5, 16), (5, 17), (5, 18), (5, 19), (5, 20), (5, 21), (5, 22), (5, 23), (6, 0), (6, 1), (6, 2), (6, 3), (6, 4), (6, 5), (6, 6), (6, 7), (6, 8), (6, 9), (6, 10), (6, 11), (6, 12), (2, 1), (2, 2), (2, 3), (2, 4), (8, 0), (8, 1), (8, 2), (8, 3), (8, 4), (9, 0), (9, 1), (9, 2), (9, 3), (9, 4), (10, 0), (10, 1), (10, 2), (10, 3), (10, 4), (10, 5), (10, 6), (10, 7), (10, 8)] rfl
set_option maxRecDepth 20000 in
theorem gX1_obey_X1_sewJoint : GoodIn wsX1_obey (wsV RX1 79 RX1 yX1_sewJoint wsX1_sewJoint) := goodIn_c ch_wsX1_obey hf_wsX1_obey hg_wsX1_obey _ [(6, 13), (6, 14), (6, 15), (1, 4), (6, 16), (1, 6), (1, 0), (6, 17), (3, 2), (3, 3), (3, 4), (1, 4), (3, 5), (3, 6), (3, 7), (4, 9), (4, 10), (4, 11), (1, 15), (4, 12), (4, 13), (4, 14), (2, 6), (2, 7), (5, 16), (5, 17), (5, 18), (5, 19), (5, 20), (3, 12), (5, 9), (3, 13), (2, 15), (2, 16), (2, 17), (2, 12), (2, 13), (2, 14), (2, 1), (2, 2), (2, 3), (2, 4), (1, 11), (8, 0), (8, 1), (8, 2), (8, 3), (8, 4), (10, 0), (10, 1), (10, 2), (10, 3), (10, 4), (10, 5), (10, 6), (10, 7), (10, 8), (9, 0), (9, 1), (9, 2), (9, 3), (9, 4)] rfl
set_option maxRecDepth 20000 in
theorem gX1_obey_X1_bluffJoint : GoodIn wsX1_obey (wsV RX1 82 RX1 yX1_bluffJoint wsX1_bluffJoint) := goodIn_c ch_wsX1_obey hf_wsX1_obey hg_wsX1_obey _ [(6, 18), (6, 19), (6, 20), (1, 4), (6, 21), (1, 0), (1, 6), (4, 9), (4, 10), (4, 11), (1, 15), (4, 12), (4, 13), (4, 14), (2, 6), (2, 7), (5, 16), (5, 17), (5, 18), (5, 19), (5, 20), (3, 12), (5, 9), (3, 13), (2, 15), (2, 16), (2, 17), (2, 12), (2, 13), (2, 14), (2, 1), (2, 2), (2, 3), (1, 4), (2, 4), (1, 11), (6, 22), (6, 23), (7, 0), (7, 1), (7, 2), (2, 9), (2, 10), (2, 11), (1, 17), (2, 18), (2, 19), (2, 20), (8, 0), (8, 1), (8, 2), (8, 3), (8, 4), (9, 0), (9, 1), (9, 2), (9, 3), (9, 4)] rfl
set_option maxRecDepth 20000 in
theorem gX1_obey_X1_doubtJoint : GoodIn wsX1_obey (wsV RX1 85 RX1 yX1_doubtJoint wsX1_doubtJoint) := goodIn_c ch_wsX1_obey hf_wsX1_obey hg_wsX1_obey _ [(7, 3), (7, 4), (7, 5), (1, 4), (7, 6), (1, 0), (1, 6), (4, 19), (7, 7), (7, 8), (7, 9), (7, 10), (7, 11), (1, 15), (7, 12), (5, 20), (4, 14), (2, 6), (2, 7), (4, 9), (4, 10), (4, 11), (4, 12), (4, 13), (3, 2), (3, 3), (3, 4), (1, 4), (3, 5), (3, 6), (3, 7), (5, 16), (5, 17), (5, 18), (5, 19), (3, 12), (5, 9), (3, 13), (2, 15), (2, 16), (2, 17), (2, 12), (2, 13), (2, 14), (2, 1), (2, 2), (2, 3), (2, 4), (1, 11), (8, 0), (8, 1), (8, 2), (8, 3), (8, 4), (10, 0), (10, 1), (10, 2), (10, 3), (10, 4), (10, 5), (10, 6), (10, 7), (10, 8), (9, 0), (9, 1), (9, 2), (9, 3), (9, 4)] rfl
theorem dX1_obey_0 : decode cX1_obey 0 = .ok (.iload_n 1, 1) := by decide +kernel
theorem dX1_obey_1 : decode cX1_obey 1 = .ok (.bipush 112, 2) := by decide +kernel
theorem dX1_obey_3 : decode cX1_obey 3 = .ok (.if_icmp .ne 8, 3) := by decide +kernel
theorem dX1_obey_6 : decode cX1_obey 6 = .ok (.aload_n 0, 1) := by decide +kernel
theorem dX1_obey_7 : decode cX1_obey 7 = .ok (.invokevirtual 67, 3) := by decide +kernel
theorem dX1_obey_10 : decode cX1_obey 10 = .ok (.ireturn, 1) := by decide +kernel
theorem dX1_obey_11 : decode cX1_obey 11 = .ok (.iload_n 2, 1) := by decide +kernel
theorem dX1_obey_12 : decode cX1_obey 12 = .ok (.invokestatic 70, 3) := by decide +kernel
theorem dX1_obey_15 : decode cX1_obey 15 = .ok (.ifCond .ne 5, 3) := by decide +kernel
theorem dX1_obey_18 : decode cX1_obey 18 = .ok (.iconst (-1), 1) := by decide +kernel
theorem dX1_obey_19 : decode cX1_obey 19 = .ok (.ireturn, 1) := by decide +kernel
theorem dX1_obey_20 : decode cX1_obey 20 = .ok (.aload_n 0, 1) := by decide +kernel
theorem dX1_obey_21 : decode cX1_obey 21 = .ok (.invokevirtual 46, 3) := by decide +kernel
theorem dX1_obey_24 : decode cX1_obey 24 = .ok (.ifCond .ne 14, 3) := by decide +kernel
theorem dX1_obey_27 : decode cX1_obey 27 = .ok (.aload_n 0, 1) := by decide +kernel
theorem dX1_obey_28 : decode cX1_obey 28 = .ok (.getfield 12, 3) := by decide +kernel
theorem dX1_obey_31 : decode cX1_obey 31 = .ok (.iload_n 2, 1) := by decide +kernel
theorem dX1_obey_32 : decode cX1_obey 32 = .ok (.invokevirtual 57, 3) := by decide +kernel
theorem dX1_obey_35 : decode cX1_obey 35 = .ok (.ifCond .eq 6, 3) := by decide +kernel
theorem dX1_obey_38 : decode cX1_obey 38 = .ok (.bipush (-5), 2) := by decide +kernel
theorem dX1_obey_40 : decode cX1_obey 40 = .ok (.ireturn, 1) := by decide +kernel
theorem dX1_obey_41 : decode cX1_obey 41 = .ok (.iload_n 1, 1) := by decide +kernel
theorem dX1_obey_42 : decode cX1_obey 42 = .ok (.lookupswitch 80 #[(98, 68), (99, 50), (100, 74), (115, 56), (119, 62)], 50) := by decide +kernel
theorem dX1_obey_92 : decode cX1_obey 92 = .ok (.aload_n 0, 1) := by decide +kernel
theorem dX1_obey_93 : decode cX1_obey 93 = .ok (.iload_n 2, 1) := by decide +kernel
theorem dX1_obey_94 : decode cX1_obey 94 = .ok (.invokevirtual 73, 3) := by decide +kernel
theorem dX1_obey_97 : decode cX1_obey 97 = .ok (.ireturn, 1) := by decide +kernel
theorem dX1_obey_98 : decode cX1_obey 98 = .ok (.aload_n 0, 1) := by decide +kernel
theorem dX1_obey_99 : decode cX1_obey 99 = .ok (.iload_n 2, 1) := by decide +kernel
theorem dX1_obey_100 : decode cX1_obey 100 = .ok (.invokevirtual 76, 3) := by decide +kernel
theorem dX1_obey_103 : decode cX1_obey 103 = .ok (.ireturn, 1) := by decide +kernel
theorem dX1_obey_104 : decode cX1_obey 104 = .ok (.aload_n 0, 1) := by decide +kernel
theorem dX1_obey_105 : decode cX1_obey 105 = .ok (.iload_n 2, 1) := by decide +kernel
theorem dX1_obey_106 : decode cX1_obey 106 = .ok (.invokevirtual 79, 3) := by decide +kernel
theorem dX1_obey_109 : decode cX1_obey 109 = .ok (.ireturn, 1) := by decide +kernel
theorem dX1_obey_110 : decode cX1_obey 110 = .ok (.aload_n 0, 1) := by decide +kernel
theorem dX1_obey_111 : decode cX1_obey 111 = .ok (.iload_n 2, 1) := by decide +kernel
theorem dX1_obey_112 : decode cX1_obey 112 = .ok (.invokevirtual 82, 3) := by decide +kernel
theorem dX1_obey_115 : decode cX1_obey 115 = .ok (.ireturn, 1) := by decide +kernel
theorem dX1_obey_116 : decode cX1_obey 116 = .ok (.aload_n 0, 1) := by decide +kernel
theorem dX1_obey_117 : decode cX1_obey 117 = .ok (.iload_n 2, 1) := by decide +kernel
theorem dX1_obey_118 : decode cX1_obey 118 = .ok (.invokevirtual 85, 3) := by decide +kernel
theorem dX1_obey_121 : decode cX1_obey 121 = .ok (.ireturn, 1) := by decide +kernel
theorem dX1_obey_122 : decode cX1_obey 122 = .ok (.bipush (-5), 2) := by decide +kernel
theorem dX1_obey_124 : decode cX1_obey 124 = .ok (.ireturn, 1) := by decide +kernel
theorem dX1_endTurn_0 : decode cX1_endTurn 0 = .ok (.aload_n 0, 1) := by decide +kernel
theorem dX1_endTurn_1 : decode cX1_endTurn 1 = .ok (.dup, 1) := by decide +kernel
theorem dX1_endTurn_2 : decode cX1_endTurn 2 = .ok (.getfield 39, 3) := by decide +kernel
theorem dX1_endTurn_5 : decode cX1_endTurn 5 = .ok (.iconst 1, 1) := by decide +kernel
theorem dX1_endTurn_6 : decode cX1_endTurn 6 = .ok (.iadd, 1) := by decide +kernel
theorem dX1_endTurn_7 : decode cX1_endTurn 7 = .ok (.putfield 39, 3) := by decide +kernel
theorem dX1_endTurn_10 : decode cX1_endTurn 10 = .ok (.aload_n 0, 1) := by decide +kernel
theorem dX1_endTurn_11 : decode cX1_endTurn 11 = .ok (.iconst 1, 1) := by decide +kernel
theorem dX1_endTurn_12 : decode cX1_endTurn 12 = .ok (.aload_n 0, 1) := by decide +kernel
theorem dX1_endTurn_13 : decode cX1_endTurn 13 = .ok (.getfield 35, 3) := by decide +kernel
theorem dX1_endTurn_16 : decode cX1_endTurn 16 = .ok (.isub, 1) := by decide +kernel
theorem dX1_endTurn_17 : decode cX1_endTurn 17 = .ok (.putfield 35, 3) := by decide +kernel
theorem dX1_endTurn_20 : decode cX1_endTurn 20 = .ok (.return_, 1) := by decide +kernel
def ch_wsX1_passOn : List (List Cond) := [[.code yX1_passOn cX1_passOn 1 (some .int)], wsX1_passOn_r1, wsX1_passOn_r2, wsX10, wsX00]
set_option maxRecDepth 20000 in
theorem hf_wsX1_passOn : wsX1_passOn = (ch_wsX1_passOn).flatten := rfl
set_option maxRecDepth 20000 in
theorem hg_wsX1_passOn : (wsX1_passOn).all goodWord = true := by decide +kernel
set_option maxRecDepth 20000 in
theorem gX1_passOn_X1_isOver : GoodIn wsX1_passOn (wsV RX1 46 RX1 yX1_isOver wsX1_isOver) := goodIn_c ch_wsX1_passOn hf_wsX1_passOn hg_wsX1_passOn _ [(1, 1), (1, 2), (1, 3), (1, 4), (1, 5), (1, 6), (1, 7), (1, 8), (1, 9), (1, 10), (1, 11), (1, 12), (1, 13), (1, 14), (1, 15), (1, 16), (1, 17), (1, 18), (1, 19), (1, 20), (3, 0), (3, 1), (3, 2), (3, 3), (3, 4), (4, 0), (4, 1), (4, 2), (4, 3), (4, 4)] rfl
set_option maxRecDepth 20000 in
theorem gX1_passOn_X1_endTurn : GoodIn wsX1_passOn (wsV RX1 88 RX1 yX1_endTurn wsX1_endTurn) := goodIn_c ch_wsX1_passOn hf_wsX1_passOn hg_wsX1_passOn _ [(1, 21), (1, 22), (1, 23), (1, 4), (2, 0), (1, 6), (1, 0), (3, 0), (3, 1), (3, 2), (3, 3), (3, 4)] rfl
theorem dX1_passOn_0 : decode cX1_passOn 0 = .ok (.aload_n 0, 1) := by decide +kernel
theorem dX1_passOn_1 : decode cX1_passOn 1 = .ok (.invokevirtual 46, 3) := by decide +kernel
theorem dX1_passOn_4 : decode cX1_passOn 4 = .ok (.ifCond .eq 6, 3) := by decide +kernel
theorem dX1_passOn_7 : decode cX1_passOn 7 = .ok (.bipush (-5), 2) := by decide +kernel
theorem dX1_passOn_9 : decode cX1_passOn 9 = .ok (.ireturn, 1) := by decide +kernel
theorem dX1_passOn_10 : decode cX1_passOn 10 = .ok (.aload_n 0, 1) := by decide +kernel
theorem dX1_passOn_11 : decode cX1_passOn 11 = .ok (.invokevirtual 88, 3) := by decide +kernel
theorem dX1_passOn_14 : decode cX1_passOn 14 = .ok (.aload_n 0, 1) := by decide +kernel
theorem dX1_passOn_15 : decode cX1_passOn 15 = .ok (.getfield 35, 3) := by decide +kernel
theorem dX1_passOn_18 : decode cX1_passOn 18 = .ok (.ireturn, 1) := by decide +kernel
def ch_wsX1_markJoint : List (List Cond) := [[.code yX1_markJoint cX1_markJoint 3 (some .int)], wsX1_markJoint_r1, wsX1_markJoint_r2, wsX10, wsX50, wsX00]
set_option maxRecDepth 20000 in
theorem hf_wsX1_markJoint : wsX1_markJoint = (ch_wsX1_markJoint).flatten := rfl
set_option maxRecDepth 20000 in
theorem hg_wsX1_markJoint : (wsX1_markJoint).all goodWord = true := by decide +kernel
set_option maxRecDepth 20000 in
theorem gX1_markJoint_X1_tailorOf : GoodIn wsX1_markJoint (wsV RX1 91 RX1 yX1_tailorOf wsX1_tailorOf) := goodIn_c ch_wsX1_markJoint hf_wsX1_markJoint hg_wsX1_markJoint _ [(1, 3), (1, 4), (1, 5), (1, 6), (1, 7), (1, 8), (1, 9), (3, 0), (3, 1), (3, 2), (3, 3), (3, 4)] rfl
set_option maxRecDepth 20000 in
theorem gX1_markJoint_X0_holds : GoodIn wsX1_markJoint (wsV RX1 95 RX0 yX0_holds wsX0_holds) := goodIn_c ch_wsX1_markJoint hf_wsX1_markJoint hg_wsX1_markJoint _ [(1, 10), (1, 11), (1, 12), (1, 13), (1, 14), (1, 15), (1, 16), (1, 17), (1, 18), (1, 13), (1, 19), (1, 20), (1, 21), (1, 22), (1, 23), (2, 0), (2, 1), (5, 0), (5, 1), (5, 2), (5, 3), (5, 4)] rfl
set_option maxRecDepth 20000 in
theorem gX1_markJoint_X5_hasMark : GoodIn wsX1_markJoint (wsV RX1 53 RX5 yX5_hasMark wsX5_hasMark) := goodIn_c ch_wsX1_markJoint hf_wsX1_markJoint hg_wsX1_markJoint _ [(2, 2), (2, 3), (2, 4), (2, 5), (2, 6), (2, 7), (2, 8), (4, 0), (4, 1), (4, 2), (4, 3), (4, 4), (4, 5), (4, 6), (4, 7), (4, 8)] rfl
set_option maxRecDepth 20000 in
theorem gX1_markJoint_X5_addMark : GoodIn wsX1_markJoint (wsV RX1 98 RX5 yX5_addMark wsX5_addMark) := goodIn_c ch_wsX1_markJoint hf_wsX1_markJoint hg_wsX1_markJoint _ [(2, 9), (2, 10), (2, 11), (2, 5), (2, 12), (2, 7), (2, 8), (4, 0), (4, 1), (4, 2), (4, 3), (4, 4), (4, 5), (4, 6), (4, 7), (4, 8)] rfl
set_option maxRecDepth 20000 in
theorem gX1_markJoint_X1_endTurn : GoodIn wsX1_markJoint (wsV RX1 88 RX1 yX1_endTurn wsX1_endTurn) := goodIn_c ch_wsX1_markJoint hf_wsX1_markJoint hg_wsX1_markJoint _ [(2, 13), (2, 14), (2, 15), (1, 6), (2, 16), (2, 17), (1, 0), (3, 0), (3, 1), (3, 2), (3, 3), (3, 4)] rfl
theorem dX1_markJoint_0 : decode cX1_markJoint 0 = .ok (.aload_n 0, 1) := by decide +kernel
theorem dX1_markJoint_1 : decode cX1_markJoint 1 = .ok (.aload_n 0, 1) := by decide +kernel
theorem dX1_markJoint_2 : decode cX1_markJoint 2 = .ok (.getfield 35, 3) := by decide +kernel
theorem dX1_markJoint_5 : decode cX1_markJoint 5 = .ok (.invokevirtual 91, 3) := by decide +kernel
theorem dX1_markJoint_8 : decode cX1_markJoint 8 = .ok (.astore_n 2, 1) := by decide +kernel
theorem dX1_markJoint_9 : decode cX1_markJoint 9 = .ok (.aload_n 0, 1) := by decide +kernel
theorem dX1_markJoint_10 : decode cX1_markJoint 10 = .ok (.getfield 12, 3) := by decide +kernel
theorem dX1_markJoint_13 : decode cX1_markJoint 13 = .ok (.iload_n 1, 1) := by decide +kernel
theorem dX1_markJoint_14 : decode cX1_markJoint 14 = .ok (.invokevirtual 95, 3) := by decide +kernel
theorem dX1_markJoint_17 : decode cX1_markJoint 17 = .ok (.ifCond .eq 11, 3) := by decide +kernel
theorem dX1_markJoint_20 : decode cX1_markJoint 20 = .ok (.aload_n 2, 1) := by decide +kernel
theorem dX1_markJoint_21 : decode cX1_markJoint 21 = .ok (.iload_n 1, 1) := by decide +kernel
theorem dX1_markJoint_22 : decode cX1_markJoint 22 = .ok (.invokevirtual 53, 3) := by decide +kernel
theorem dX1_markJoint_25 : decode cX1_markJoint 25 = .ok (.ifCond .eq 6, 3) := by decide +kernel
theorem dX1_markJoint_28 : decode cX1_markJoint 28 = .ok (.bipush (-5), 2) := by decide +kernel
theorem dX1_markJoint_30 : decode cX1_markJoint 30 = .ok (.ireturn, 1) := by decide +kernel
theorem dX1_markJoint_31 : decode cX1_markJoint 31 = .ok (.aload_n 2, 1) := by decide +kernel
theorem dX1_markJoint_32 : decode cX1_markJoint 32 = .ok (.iload_n 1, 1) := by decide +kernel
theorem dX1_markJoint_33 : decode cX1_markJoint 33 = .ok (.invokevirtual 98, 3) := by decide +kernel
theorem dX1_markJoint_36 : decode cX1_markJoint 36 = .ok (.ifCond .ne 6, 3) := by decide +kernel
theorem dX1_markJoint_39 : decode cX1_markJoint 39 = .ok (.bipush (-4), 2) := by decide +kernel
theorem dX1_markJoint_41 : decode cX1_markJoint 41 = .ok (.ireturn, 1) := by decide +kernel
theorem dX1_markJoint_42 : decode cX1_markJoint 42 = .ok (.aload_n 0, 1) := by decide +kernel
theorem dX1_markJoint_43 : decode cX1_markJoint 43 = .ok (.invokevirtual 88, 3) := by decide +kernel
theorem dX1_markJoint_46 : decode cX1_markJoint 46 = .ok (.aload_n 2, 1) := by decide +kernel
theorem dX1_markJoint_47 : decode cX1_markJoint 47 = .ok (.getfield 101, 3) := by decide +kernel
theorem dX1_markJoint_50 : decode cX1_markJoint 50 = .ok (.ireturn, 1) := by decide +kernel
def ch_wsX1_snipJoint : List (List Cond) := [[.code yX1_snipJoint cX1_snipJoint 4 (some .int)], wsX1_snipJoint_r1, wsX1_snipJoint_r2, wsX1_snipJoint_r3, wsX1_snipJoint_r4, wsX1_snipJoint_r5, wsX10, wsX00, wsX50]
set_option maxRecDepth 20000 in
theorem hf_wsX1_snipJoint : wsX1_snipJoint = (ch_wsX1_snipJoint).flatten := rfl
set_option maxRecDepth 20000 in
theorem hg_wsX1_snipJoint : (wsX1_snipJoint).all goodWord = true := by decide +kernel
set_option maxRecDepth 20000 in
theorem gX1_snipJoint_X1_whyNoSnip : GoodIn wsX1_snipJoint (wsV RX1 104 RX1 yX1_whyNoSnip wsX1_whyNoSnip) := goodIn_c ch_wsX1_snipJoint hf_wsX1_snipJoint hg_wsX1_snipJoint _ [(1, 1), (1, 2), (1, 3), (1, 4), (1, 5), (1, 0), (1, 6), (1, 7), (1, 8), (1, 4), (1, 9), (1, 10), (1, 11), (1, 12), (1, 13), (1, 14), (1, 15), (1, 16), (1, 17), (1, 18), (1, 19), (1, 20), (1, 21), (1, 22), (1, 23), (2, 0), (2, 1), (2, 2), (2, 3), (2, 4), (2, 5), (2, 6), (2, 7), (2, 8), (2, 9), (2, 10), (2, 11), (2, 12), (2, 13), (2, 14), (2, 15), (2, 16), (2, 17), (2, 18), (2, 19), (2, 20), (6, 0), (6, 1), (6, 2), (6, 3), (6, 4), (7, 0), (7, 1), (7, 2), (7, 3), (7, 4)] rfl
set_option maxRecDepth 20000 in
theorem gX1_snipJoint_X1_findChalk : GoodIn wsX1_snipJoint (wsV RX1 107 RX1 yX1_findChalk wsX1_findChalk) := goodIn_c ch_wsX1_snipJoint hf_wsX1_snipJoint hg_wsX1_snipJoint _ [(2, 21), (2, 22), (2, 23), (1, 4), (3, 0), (3, 1), (3, 2), (3, 3), (3, 4), (3, 5), (3, 6), (1, 4), (3, 7), (3, 8), (3, 9), (3, 10), (3, 11), (3, 12), (3, 13), (3, 14), (3, 15), (3, 16), (3, 17), (3, 18), (3, 19), (3, 20), (3, 21), (3, 22), (3, 23), (4, 0), (6, 0), (6, 1), (6, 2), (6, 3), (6, 4), (8, 0), (8, 1), (8, 2), (8, 3), (8, 4), (8, 5), (8, 6), (8, 7), (8, 8)] rfl
set_option maxRecDepth 20000 in
theorem gX1_snipJoint_X0_ragOf : GoodIn wsX1_snipJoint (wsV RX1 111 RX0 yX0_ragOf wsX0_ragOf) := goodIn_c ch_wsX1_snipJoint hf_wsX1_snipJoint hg_wsX1_snipJoint _ [(4, 1), (4, 2), (4, 3), (1, 14), (4, 4), (4, 5), (4, 6), (4, 7), (2, 7), (2, 8), (1, 14), (2, 9), (2, 4), (2, 5), (2, 6), (4, 8), (4, 9), (4, 10), (4, 11), (4, 12), (4, 13), (2, 10), (2, 11), (2, 12), (1, 17), (1, 18), (1, 19), (1, 20), (1, 21), (1, 22), (1, 23), (7, 0), (7, 1), (7, 2), (7, 3), (7, 4)] rfl
set_option maxRecDepth 20000 in
theorem gX1_snipJoint_X0_make : GoodIn wsX1_snipJoint (wsV RX1 115 RX0 yX0_make wsX0_make) := goodIn_c ch_wsX1_snipJoint hf_wsX1_snipJoint hg_wsX1_snipJoint _ [(4, 14), (4, 15), (4, 16), (1, 14), (4, 17), (2, 17), (4, 18), (4, 7), (4, 6), (4, 5), (2, 18), (2, 19), (1, 14), (2, 20), (2, 7), (2, 8), (2, 9), (2, 4), (2, 5), (2, 6), (7, 0), (7, 1), (7, 2), (7, 3), (7, 4)] rfl
set_option maxRecDepth 20000 in
theorem gX1_snipJoint_X1_loseRag : GoodIn wsX1_snipJoint (wsV RX1 119 RX1 yX1_loseRag wsX1_loseRag) := goodIn_c ch_wsX1_snipJoint hf_wsX1_snipJoint hg_wsX1_snipJoint _ [(4, 19), (4, 20), (4, 21), (1, 4), (4, 22), (1, 0), (3, 1), (4, 23), (5, 0), (5, 1), (1, 14), (5, 2), (1, 16), (4, 5), (4, 6), (4, 7), (3, 4), (3, 5), (3, 6), (1, 4), (3, 7), (3, 8), (3, 9), (5, 3), (1, 18), (1, 19), (1, 20), (1, 21), (1, 22), (1, 23), (5, 4), (5, 5), (5, 6), (3, 13), (5, 7), (5, 8), (5, 9), (5, 10), (2, 0), (2, 1), (2, 2), (2, 3), (2, 4), (2, 5), (2, 6), (2, 7), (2, 8), (2, 9), (2, 10), (2, 11), (2, 12), (3, 17), (3, 18), (3, 19), (3, 20), (3, 21), (3, 22), (3, 23), (4, 0), (3, 15), (3, 16), (6, 0), (6, 1), (6, 2), (6, 3), (6, 4), (7, 0), (7, 1), (7, 2), (7, 3), (7, 4), (8, 0), (8, 1), (8, 2), (8, 3), (8, 4), (8, 5), (8, 6), (8, 7), (8, 8)] rfl
set_option maxRecDepth 20000 in
theorem gX1_snipJoint_X1_endTurn : GoodIn wsX1_snipJoint (wsV RX1 88 RX1 yX1_endTurn wsX1_endTurn) := goodIn_c ch_wsX1_snipJoint hf_wsX1_snipJoint hg_wsX1_snipJoint _ [(5, 11), (5, 12), (5, 13), (1, 4), (5, 14), (1, 10), (3, 1), (6, 0), (6, 1), (6, 2), (6, 3), (6, 4)] rfl
set_option maxRecDepth 20000 in
theorem gX1_snipJoint_J13_bitCount_95d88 : GoodIn wsX1_snipJoint (va_wsS RX1 123 yJ13_bitCount_95d88 wsJ13_bitCount_95d88) := goodIn_c ch_wsX1_snipJoint hf_wsX1_snipJoint hg_wsX1_snipJoint _ [(5, 3), (1, 18), (1, 19), (1, 20), (1, 21), (1, 22), (1, 23)] rfl
theorem dX1_snipJoint_0 : decode cX1_snipJoint 0 = .ok (.aload_n 0, 1) := by decide +kernel
theorem dX1_snipJoint_1 : decode cX1_snipJoint 1 = .ok (.iload_n 1, 1) := by decide +kernel
theorem dX1_snipJoint_2 : decode cX1_snipJoint 2 = .ok (.invokevirtual 104, 3) := by decide +kernel
theorem dX1_snipJoint_5 : decode cX1_snipJoint 5 = .ok (.ifCond .eq 6, 3) := by decide +kernel
theorem dX1_snipJoint_8 : decode cX1_snipJoint 8 = .ok (.bipush (-5), 2) := by decide +kernel
theorem dX1_snipJoint_10 : decode cX1_snipJoint 10 = .ok (.ireturn, 1) := by decide +kernel
theorem dX1_snipJoint_11 : decode cX1_snipJoint 11 = .ok (.aload_n 0, 1) := by decide +kernel
theorem dX1_snipJoint_12 : decode cX1_snipJoint 12 = .ok (.iload_n 1, 1) := by decide +kernel
theorem dX1_snipJoint_13 : decode cX1_snipJoint 13 = .ok (.invokevirtual 107, 3) := by decide +kernel
theorem dX1_snipJoint_16 : decode cX1_snipJoint 16 = .ok (.aload_n 0, 1) := by decide +kernel
theorem dX1_snipJoint_17 : decode cX1_snipJoint 17 = .ok (.getfield 12, 3) := by decide +kernel
theorem dX1_snipJoint_20 : decode cX1_snipJoint 20 = .ok (.iload_n 1, 1) := by decide +kernel
theorem dX1_snipJoint_21 : decode cX1_snipJoint 21 = .ok (.invokevirtual 111, 3) := by decide +kernel
theorem dX1_snipJoint_24 : decode cX1_snipJoint 24 = .ok (.lstore_n 2, 1) := by decide +kernel
theorem dX1_snipJoint_25 : decode cX1_snipJoint 25 = .ok (.aload_n 0, 1) := by decide +kernel
theorem dX1_snipJoint_26 : decode cX1_snipJoint 26 = .ok (.getfield 12, 3) := by decide +kernel
theorem dX1_snipJoint_29 : decode cX1_snipJoint 29 = .ok (.iload_n 1, 1) := by decide +kernel
theorem dX1_snipJoint_30 : decode cX1_snipJoint 30 = .ok (.iconst 1, 1) := by decide +kernel
theorem dX1_snipJoint_31 : decode cX1_snipJoint 31 = .ok (.bipush (-6), 2) := by decide +kernel
theorem dX1_snipJoint_33 : decode cX1_snipJoint 33 = .ok (.invokevirtual 115, 3) := by decide +kernel
theorem dX1_snipJoint_36 : decode cX1_snipJoint 36 = .ok (.lload_n 2, 1) := by decide +kernel
theorem dX1_snipJoint_37 : decode cX1_snipJoint 37 = .ok (.lconst 0, 1) := by decide +kernel
theorem dX1_snipJoint_38 : decode cX1_snipJoint 38 = .ok (.lcmp, 1) := by decide +kernel
theorem dX1_snipJoint_39 : decode cX1_snipJoint 39 = .ok (.ifCond .eq 8, 3) := by decide +kernel
theorem dX1_snipJoint_42 : decode cX1_snipJoint 42 = .ok (.aload_n 0, 1) := by decide +kernel
theorem dX1_snipJoint_43 : decode cX1_snipJoint 43 = .ok (.lload_n 2, 1) := by decide +kernel
theorem dX1_snipJoint_44 : decode cX1_snipJoint 44 = .ok (.invokevirtual 119, 3) := by decide +kernel
theorem dX1_snipJoint_47 : decode cX1_snipJoint 47 = .ok (.aload_n 0, 1) := by decide +kernel
theorem dX1_snipJoint_48 : decode cX1_snipJoint 48 = .ok (.invokevirtual 88, 3) := by decide +kernel
theorem dX1_snipJoint_51 : decode cX1_snipJoint 51 = .ok (.lload_n 2, 1) := by decide +kernel
theorem dX1_snipJoint_52 : decode cX1_snipJoint 52 = .ok (.invokestatic 123, 3) := by decide +kernel
theorem dX1_snipJoint_55 : decode cX1_snipJoint 55 = .ok (.ireturn, 1) := by decide +kernel
def ch_wsX1_findChalk : List (List Cond) := [[.code yX1_findChalk cX1_findChalk 4 none], wsX1_findChalk_r1, wsX1_findChalk_r2, wsX10, wsX50]
set_option maxRecDepth 20000 in
theorem hf_wsX1_findChalk : wsX1_findChalk = (ch_wsX1_findChalk).flatten := rfl
set_option maxRecDepth 20000 in
theorem hg_wsX1_findChalk : (wsX1_findChalk).all goodWord = true := by decide +kernel
set_option maxRecDepth 20000 in
theorem gX1_findChalk_X1_tailorOf : GoodIn wsX1_findChalk (wsV RX1 91 RX1 yX1_tailorOf wsX1_tailorOf) := goodIn_c ch_wsX1_findChalk hf_wsX1_findChalk hg_wsX1_findChalk _ [(1, 3), (1, 4), (1, 5), (1, 6), (1, 7), (1, 8), (1, 9), (3, 0), (3, 1), (3, 2), (3, 3), (3, 4)] rfl
set_option maxRecDepth 20000 in
theorem gX1_findChalk_X5_hasMark : GoodIn wsX1_findChalk (wsV RX1 53 RX5 yX5_hasMark wsX5_hasMark) := goodIn_c ch_wsX1_findChalk hf_wsX1_findChalk hg_wsX1_findChalk _ [(1, 10), (1, 11), (1, 12), (1, 13), (1, 14), (1, 15), (1, 16), (4, 0), (4, 1), (4, 2), (4, 3), (4, 4), (4, 5), (4, 6), (4, 7), (4, 8)] rfl
set_option maxRecDepth 20000 in
theorem gX1_findChalk_X1_dropMarks : GoodIn wsX1_findChalk (wsV RX1 132 RX1 yX1_dropMarks wsX1_dropMarks) := goodIn_c ch_wsX1_findChalk hf_wsX1_findChalk hg_wsX1_findChalk _ [(1, 17), (1, 18), (1, 19), (1, 6), (1, 20), (1, 8), (1, 9), (1, 21), (1, 22), (1, 23), (1, 13), (2, 0), (1, 15), (1, 16), (3, 0), (3, 1), (3, 2), (3, 3), (3, 4), (4, 0), (4, 1), (4, 2), (4, 3), (4, 4), (4, 5), (4, 6), (4, 7), (4, 8)] rfl
theorem dX1_findChalk_0 : decode cX1_findChalk 0 = .ok (.aload_n 0, 1) := by decide +kernel
theorem dX1_findChalk_1 : decode cX1_findChalk 1 = .ok (.aload_n 0, 1) := by decide +kernel
theorem dX1_findChalk_2 : decode cX1_findChalk 2 = .ok (.getfield 35, 3) := by decide +kernel
theorem dX1_findChalk_5 : decode cX1_findChalk 5 = .ok (.invokevirtual 91, 3) := by decide +kernel
theorem dX1_findChalk_8 : decode cX1_findChalk 8 = .ok (.astore_n 2, 1) := by decide +kernel
theorem dX1_findChalk_9 : decode cX1_findChalk 9 = .ok (.aload_n 0, 1) := by decide +kernel
theorem dX1_findChalk_10 : decode cX1_findChalk 10 = .ok (.iconst 1, 1) := by decide +kernel
theorem dX1_findChalk_11 : decode cX1_findChalk 11 = .ok (.aload_n 0, 1) := by decide +kernel
theorem dX1_findChalk_12 : decode cX1_findChalk 12 = .ok (.getfield 35, 3) := by decide +kernel
theorem dX1_findChalk_15 : decode cX1_findChalk 15 = .ok (.isub, 1) := by decide +kernel
theorem dX1_findChalk_16 : decode cX1_findChalk 16 = .ok (.invokevirtual 91, 3) := by decide +kernel
theorem dX1_findChalk_19 : decode cX1_findChalk 19 = .ok (.astore_n 3, 1) := by decide +kernel
theorem dX1_findChalk_20 : decode cX1_findChalk 20 = .ok (.aload_n 3, 1) := by decide +kernel
theorem dX1_findChalk_21 : decode cX1_findChalk 21 = .ok (.iload_n 1, 1) := by decide +kernel
theorem dX1_findChalk_22 : decode cX1_findChalk 22 = .ok (.invokevirtual 53, 3) := by decide +kernel
theorem dX1_findChalk_25 : decode cX1_findChalk 25 = .ok (.ifCond .eq 23, 3) := by decide +kernel
theorem dX1_findChalk_28 : decode cX1_findChalk 28 = .ok (.aload_n 2, 1) := by decide +kernel
theorem dX1_findChalk_29 : decode cX1_findChalk 29 = .ok (.dup, 1) := by decide +kernel
theorem dX1_findChalk_30 : decode cX1_findChalk 30 = .ok (.getfield 50, 3) := by decide +kernel
theorem dX1_findChalk_33 : decode cX1_findChalk 33 = .ok (.iconst 3, 1) := by decide +kernel
theorem dX1_findChalk_34 : decode cX1_findChalk 34 = .ok (.isub, 1) := by decide +kernel
theorem dX1_findChalk_35 : decode cX1_findChalk 35 = .ok (.putfield 50, 3) := by decide +kernel
theorem dX1_findChalk_38 : decode cX1_findChalk 38 = .ok (.aload_n 2, 1) := by decide +kernel
theorem dX1_findChalk_39 : decode cX1_findChalk 39 = .ok (.dup, 1) := by decide +kernel
theorem dX1_findChalk_40 : decode cX1_findChalk 40 = .ok (.getfield 129, 3) := by decide +kernel
theorem dX1_findChalk_43 : decode cX1_findChalk 43 = .ok (.iconst 1, 1) := by decide +kernel
theorem dX1_findChalk_44 : decode cX1_findChalk 44 = .ok (.iadd, 1) := by decide +kernel
theorem dX1_findChalk_45 : decode cX1_findChalk 45 = .ok (.putfield 129, 3) := by decide +kernel
theorem dX1_findChalk_48 : decode cX1_findChalk 48 = .ok (.aload_n 2, 1) := by decide +kernel
theorem dX1_findChalk_49 : decode cX1_findChalk 49 = .ok (.iload_n 1, 1) := by decide +kernel
theorem dX1_findChalk_50 : decode cX1_findChalk 50 = .ok (.invokevirtual 53, 3) := by decide +kernel
theorem dX1_findChalk_53 : decode cX1_findChalk 53 = .ok (.ifCond .eq 13, 3) := by decide +kernel
theorem dX1_findChalk_56 : decode cX1_findChalk 56 = .ok (.aload_n 2, 1) := by decide +kernel
theorem dX1_findChalk_57 : decode cX1_findChalk 57 = .ok (.dup, 1) := by decide +kernel
theorem dX1_findChalk_58 : decode cX1_findChalk 58 = .ok (.getfield 50, 3) := by decide +kernel
theorem dX1_findChalk_61 : decode cX1_findChalk 61 = .ok (.iconst 1, 1) := by decide +kernel
theorem dX1_findChalk_62 : decode cX1_findChalk 62 = .ok (.iadd, 1) := by decide +kernel
theorem dX1_findChalk_63 : decode cX1_findChalk 63 = .ok (.putfield 50, 3) := by decide +kernel
theorem dX1_findChalk_66 : decode cX1_findChalk 66 = .ok (.aload_n 0, 1) := by decide +kernel
theorem dX1_findChalk_67 : decode cX1_findChalk 67 = .ok (.iload_n 1, 1) := by decide +kernel
theorem dX1_findChalk_68 : decode cX1_findChalk 68 = .ok (.invokevirtual 132, 3) := by decide +kernel
theorem dX1_findChalk_71 : decode cX1_findChalk 71 = .ok (.return_, 1) := by decide +kernel
def ch_wsX1_dropMarks : List (List Cond) := [[.code yX1_dropMarks cX1_dropMarks 2 none], [.fieldLink RX1 21 "TailorChalks$Game" "tailorZero" "LTailorChalks$Tailor;", .fieldLink RX1 25 "TailorChalks$Game" "tailorOne" "LTailorChalks$Tailor;", .methodLink RX1 135 yX5_dropMark, .instanceMethod yX5_dropMark, .selects RX5 yX5_dropMark yX5_dropMark, .initialized RX5, .code yX5_dropMark cX5_dropMark 4 none, .fieldLink RX5 19 "TailorChalks$Tailor" "marks" "I", .fieldLink RX5 11 "TailorChalks$Tailor" "marked" "[I"], wsX10, wsX50]
set_option maxRecDepth 20000 in
theorem hf_wsX1_dropMarks : wsX1_dropMarks = (ch_wsX1_dropMarks).flatten := rfl
set_option maxRecDepth 20000 in
theorem hg_wsX1_dropMarks : (wsX1_dropMarks).all goodWord = true := by decide +kernel
set_option maxRecDepth 20000 in
theorem gX1_dropMarks_X5_dropMark : GoodIn wsX1_dropMarks (wsV RX1 135 RX5 yX5_dropMark wsX5_dropMark) := goodIn_c ch_wsX1_dropMarks hf_wsX1_dropMarks hg_wsX1_dropMarks _ [(1, 2), (1, 3), (1, 4), (1, 5), (1, 6), (1, 7), (1, 8), (3, 0), (3, 1), (3, 2), (3, 3), (3, 4), (3, 5), (3, 6), (3, 7), (3, 8)] rfl
theorem dX1_dropMarks_0 : decode cX1_dropMarks 0 = .ok (.aload_n 0, 1) := by decide +kernel
theorem dX1_dropMarks_1 : decode cX1_dropMarks 1 = .ok (.getfield 21, 3) := by decide +kernel
theorem dX1_dropMarks_4 : decode cX1_dropMarks 4 = .ok (.iload_n 1, 1) := by decide +kernel
theorem dX1_dropMarks_5 : decode cX1_dropMarks 5 = .ok (.invokevirtual 135, 3) := by decide +kernel
theorem dX1_dropMarks_8 : decode cX1_dropMarks 8 = .ok (.aload_n 0, 1) := by decide +kernel
theorem dX1_dropMarks_9 : decode cX1_dropMarks 9 = .ok (.getfield 25, 3) := by decide +kernel
theorem dX1_dropMarks_12 : decode cX1_dropMarks 12 = .ok (.iload_n 1, 1) := by decide +kernel
