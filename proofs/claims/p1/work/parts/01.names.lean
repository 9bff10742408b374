-- ===== PART A: goes FIRST, ahead of the names: the tables' words, and 'selects' of the private methods out of them =====
/-- a private method of a class that the tables say can be made, by its rows of tables_1 -/
def lw_okq (q : MethodName × Nat) : Prop := (q.1.cls ≠ "java/lang/invoke/MethodHandle" ∧ q.1.cls ≠ "java/lang/invoke/VarHandle") ∧ Cond.instantiable q.1.cls q.2 ∈ tables_1 ∧ Cond.privateMethod q.1 ∈ tables_1 ∧ Cond.instanceMethod q.1 ∈ tables_1
theorem lw_p0 : lw_okq (⟨"TailorChalks", "takeTurn", "(CI)I"⟩, 5) := ⟨⟨by decide +kernel, by decide +kernel⟩, List.mem_of_getElem? (i := 11) (by decide +kernel), List.mem_of_getElem? (i := 201) (by decide +kernel), List.mem_of_getElem? (i := 202) (by decide +kernel)⟩
theorem lw_p1 : lw_okq (⟨"TailorChalks$Game", "passOn", "()I"⟩, 5) := ⟨⟨by decide +kernel, by decide +kernel⟩, List.mem_of_getElem? (i := 19) (by decide +kernel), List.mem_of_getElem? (i := 225) (by decide +kernel), List.mem_of_getElem? (i := 226) (by decide +kernel)⟩
theorem lw_p2 : lw_okq (⟨"TailorChalks$Game", "endTurn", "()V"⟩, 5) := ⟨⟨by decide +kernel, by decide +kernel⟩, List.mem_of_getElem? (i := 19) (by decide +kernel), List.mem_of_getElem? (i := 243) (by decide +kernel), List.mem_of_getElem? (i := 244) (by decide +kernel)⟩
theorem lw_p3 : lw_okq (⟨"TailorChalks$Game", "markJoint", "(I)I"⟩, 5) := ⟨⟨by decide +kernel, by decide +kernel⟩, List.mem_of_getElem? (i := 19) (by decide +kernel), List.mem_of_getElem? (i := 255) (by decide +kernel), List.mem_of_getElem? (i := 256) (by decide +kernel)⟩
theorem lw_p4 : lw_okq (⟨"TailorChalks$Game", "snipJoint", "(I)I"⟩, 5) := ⟨⟨by decide +kernel, by decide +kernel⟩, List.mem_of_getElem? (i := 19) (by decide +kernel), List.mem_of_getElem? (i := 275) (by decide +kernel), List.mem_of_getElem? (i := 276) (by decide +kernel)⟩
theorem lw_p5 : lw_okq (⟨"TailorChalks$Game", "findChalk", "(I)V"⟩, 5) := ⟨⟨by decide +kernel, by decide +kernel⟩, List.mem_of_getElem? (i := 19) (by decide +kernel), List.mem_of_getElem? (i := 287) (by decide +kernel), List.mem_of_getElem? (i := 288) (by decide +kernel)⟩
theorem lw_p6 : lw_okq (⟨"TailorChalks$Game", "dropMarks", "(I)V"⟩, 5) := ⟨⟨by decide +kernel, by decide +kernel⟩, List.mem_of_getElem? (i := 19) (by decide +kernel), List.mem_of_getElem? (i := 291) (by decide +kernel), List.mem_of_getElem? (i := 292) (by decide +kernel)⟩
theorem lw_p7 : lw_okq (⟨"TailorChalks$Game", "loseRag", "(J)V"⟩, 5) := ⟨⟨by decide +kernel, by decide +kernel⟩, List.mem_of_getElem? (i := 19) (by decide +kernel), List.mem_of_getElem? (i := 310) (by decide +kernel), List.mem_of_getElem? (i := 311) (by decide +kernel)⟩
theorem lw_p8 : lw_okq (⟨"TailorChalks$Game", "sewJoint", "(I)I"⟩, 5) := ⟨⟨by decide +kernel, by decide +kernel⟩, List.mem_of_getElem? (i := 19) (by decide +kernel), List.mem_of_getElem? (i := 323) (by decide +kernel), List.mem_of_getElem? (i := 324) (by decide +kernel)⟩
theorem lw_p9 : lw_okq (⟨"TailorChalks$Game", "bluffJoint", "(I)I"⟩, 5) := ⟨⟨by decide +kernel, by decide +kernel⟩, List.mem_of_getElem? (i := 19) (by decide +kernel), List.mem_of_getElem? (i := 327) (by decide +kernel), List.mem_of_getElem? (i := 328) (by decide +kernel)⟩
theorem lw_p10 : lw_okq (⟨"TailorChalks$Game", "doubtJoint", "(I)I"⟩, 5) := ⟨⟨by decide +kernel, by decide +kernel⟩, List.mem_of_getElem? (i := 19) (by decide +kernel), List.mem_of_getElem? (i := 336) (by decide +kernel), List.mem_of_getElem? (i := 337) (by decide +kernel)⟩
theorem lw_p11 : lw_okq (⟨"TailorChalks$History", "dropOldest", "()V"⟩, 3) := ⟨⟨by decide +kernel, by decide +kernel⟩, List.mem_of_getElem? (i := 129) (by decide +kernel), List.mem_of_getElem? (i := 348) (by decide +kernel), List.mem_of_getElem? (i := 349) (by decide +kernel)⟩
theorem lw_p12 : lw_okq (⟨"TailorChalks", "obeyPad", "()I"⟩, 5) := ⟨⟨by decide +kernel, by decide +kernel⟩, List.mem_of_getElem? (i := 11) (by decide +kernel), List.mem_of_getElem? (i := 535) (by decide +kernel), List.mem_of_getElem? (i := 536) (by decide +kernel)⟩
theorem lw_p13 : lw_okq (⟨"TailorChalks", "slotOf", "(I)LTailorChalks$Slot;"⟩, 5) := ⟨⟨by decide +kernel, by decide +kernel⟩, List.mem_of_getElem? (i := 11) (by decide +kernel), List.mem_of_getElem? (i := 559) (by decide +kernel), List.mem_of_getElem? (i := 560) (by decide +kernel)⟩
theorem lw_p14 : lw_okq (⟨"TailorChalksModel", "turns", "(II)I"⟩, 9) := ⟨⟨by decide +kernel, by decide +kernel⟩, List.mem_of_getElem? (i := 573) (by decide +kernel), List.mem_of_getElem? (i := 615) (by decide +kernel), List.mem_of_getElem? (i := 616) (by decide +kernel)⟩
theorem lw_p15 : lw_okq (⟨"TailorChalksModel", "looks", "()V"⟩, 9) := ⟨⟨by decide +kernel, by decide +kernel⟩, List.mem_of_getElem? (i := 573) (by decide +kernel), List.mem_of_getElem? (i := 619) (by decide +kernel), List.mem_of_getElem? (i := 620) (by decide +kernel)⟩
def lw_privs_1 : List (MethodName × Nat) := [(⟨"TailorChalks", "takeTurn", "(CI)I"⟩, 5), (⟨"TailorChalks$Game", "passOn", "()I"⟩, 5), (⟨"TailorChalks$Game", "endTurn", "()V"⟩, 5), (⟨"TailorChalks$Game", "markJoint", "(I)I"⟩, 5), (⟨"TailorChalks$Game", "snipJoint", "(I)I"⟩, 5), (⟨"TailorChalks$Game", "findChalk", "(I)V"⟩, 5), (⟨"TailorChalks$Game", "dropMarks", "(I)V"⟩, 5), (⟨"TailorChalks$Game", "loseRag", "(J)V"⟩, 5), (⟨"TailorChalks$Game", "sewJoint", "(I)I"⟩, 5), (⟨"TailorChalks$Game", "bluffJoint", "(I)I"⟩, 5), (⟨"TailorChalks$Game", "doubtJoint", "(I)I"⟩, 5), (⟨"TailorChalks$History", "dropOldest", "()V"⟩, 3), (⟨"TailorChalks", "obeyPad", "()I"⟩, 5), (⟨"TailorChalks", "slotOf", "(I)LTailorChalks$Slot;"⟩, 5), (⟨"TailorChalksModel", "turns", "(II)I"⟩, 9), (⟨"TailorChalksModel", "looks", "()V"⟩, 9)]
theorem lw_r1 : ∀ q ∈ lw_privs_1, lw_okq q := List.forall_mem_cons.mpr ⟨lw_p0, List.forall_mem_cons.mpr ⟨lw_p1, List.forall_mem_cons.mpr ⟨lw_p2, List.forall_mem_cons.mpr ⟨lw_p3, List.forall_mem_cons.mpr ⟨lw_p4, List.forall_mem_cons.mpr ⟨lw_p5, List.forall_mem_cons.mpr ⟨lw_p6, List.forall_mem_cons.mpr ⟨lw_p7, List.forall_mem_cons.mpr ⟨lw_p8, List.forall_mem_cons.mpr ⟨lw_p9, List.forall_mem_cons.mpr ⟨lw_p10, List.forall_mem_cons.mpr ⟨lw_p11, List.forall_mem_cons.mpr ⟨lw_p12, List.forall_mem_cons.mpr ⟨lw_p13, List.forall_mem_cons.mpr ⟨lw_p14, List.forall_mem_cons.mpr ⟨lw_p15, fun _ h => absurd h List.not_mem_nil⟩⟩⟩⟩⟩⟩⟩⟩⟩⟩⟩⟩⟩⟩⟩⟩
theorem lw_p16 : lw_okq (⟨"TailorChalksModel", "does", "(II)I"⟩, 9) := ⟨⟨by decide +kernel, by decide +kernel⟩, List.mem_of_getElem? (i := 573) (by decide +kernel), List.mem_of_getElem? (i := 623) (by decide +kernel), List.mem_of_getElem? (i := 624) (by decide +kernel)⟩
theorem lw_p17 : lw_okq (⟨"TailorChalksModel", "chalks", "(I)I"⟩, 9) := ⟨⟨by decide +kernel, by decide +kernel⟩, List.mem_of_getElem? (i := 573) (by decide +kernel), List.mem_of_getElem? (i := 627) (by decide +kernel), List.mem_of_getElem? (i := 628) (by decide +kernel)⟩
theorem lw_p18 : lw_okq (⟨"TailorChalksModel", "isOver", "()Z"⟩, 9) := ⟨⟨by decide +kernel, by decide +kernel⟩, List.mem_of_getElem? (i := 573) (by decide +kernel), List.mem_of_getElem? (i := 637) (by decide +kernel), List.mem_of_getElem? (i := 638) (by decide +kernel)⟩
theorem lw_p19 : lw_okq (⟨"TailorChalksModel", "left", "()I"⟩, 9) := ⟨⟨by decide +kernel, by decide +kernel⟩, List.mem_of_getElem? (i := 573) (by decide +kernel), List.mem_of_getElem? (i := 641) (by decide +kernel), List.mem_of_getElem? (i := 642) (by decide +kernel)⟩
theorem lw_p20 : lw_okq (⟨"TailorChalksModel", "isGone", "(I)Z"⟩, 9) := ⟨⟨by decide +kernel, by decide +kernel⟩, List.mem_of_getElem? (i := 573) (by decide +kernel), List.mem_of_getElem? (i := 645) (by decide +kernel), List.mem_of_getElem? (i := 646) (by decide +kernel)⟩
theorem lw_p21 : lw_okq (⟨"TailorChalksModel", "holds", "(I)Z"⟩, 9) := ⟨⟨by decide +kernel, by decide +kernel⟩, List.mem_of_getElem? (i := 573) (by decide +kernel), List.mem_of_getElem? (i := 649) (by decide +kernel), List.mem_of_getElem? (i := 650) (by decide +kernel)⟩
theorem lw_p22 : lw_okq (⟨"TailorChalksModel", "isVoid", "(I)Z"⟩, 9) := ⟨⟨by decide +kernel, by decide +kernel⟩, List.mem_of_getElem? (i := 573) (by decide +kernel), List.mem_of_getElem? (i := 653) (by decide +kernel), List.mem_of_getElem? (i := 654) (by decide +kernel)⟩
theorem lw_p23 : lw_okq (⟨"TailorChalksModel", "hasChalk", "(II)Z"⟩, 9) := ⟨⟨by decide +kernel, by decide +kernel⟩, List.mem_of_getElem? (i := 573) (by decide +kernel), List.mem_of_getElem? (i := 663) (by decide +kernel), List.mem_of_getElem? (i := 664) (by decide +kernel)⟩
theorem lw_p24 : lw_okq (⟨"TailorChalksModel", "rankOf", "(II)I"⟩, 9) := ⟨⟨by decide +kernel, by decide +kernel⟩, List.mem_of_getElem? (i := 573) (by decide +kernel), List.mem_of_getElem? (i := 667) (by decide +kernel), List.mem_of_getElem? (i := 668) (by decide +kernel)⟩
theorem lw_p25 : lw_okq (⟨"TailorChalksModel", "chalkAt", "(II)I"⟩, 9) := ⟨⟨by decide +kernel, by decide +kernel⟩, List.mem_of_getElem? (i := 573) (by decide +kernel), List.mem_of_getElem? (i := 671) (by decide +kernel), List.mem_of_getElem? (i := 672) (by decide +kernel)⟩
theorem lw_p26 : lw_okq (⟨"TailorChalksModel", "ends", "(I)I"⟩, 9) := ⟨⟨by decide +kernel, by decide +kernel⟩, List.mem_of_getElem? (i := 573) (by decide +kernel), List.mem_of_getElem? (i := 675) (by decide +kernel), List.mem_of_getElem? (i := 676) (by decide +kernel)⟩
theorem lw_p27 : lw_okq (⟨"TailorChalksModel", "snips", "(I)I"⟩, 9) := ⟨⟨by decide +kernel, by decide +kernel⟩, List.mem_of_getElem? (i := 573) (by decide +kernel), List.mem_of_getElem? (i := 679) (by decide +kernel), List.mem_of_getElem? (i := 680) (by decide +kernel)⟩
theorem lw_p28 : lw_okq (⟨"TailorChalksModel", "reason", "(I)I"⟩, 9) := ⟨⟨by decide +kernel, by decide +kernel⟩, List.mem_of_getElem? (i := 573) (by decide +kernel), List.mem_of_getElem? (i := 683) (by decide +kernel), List.mem_of_getElem? (i := 684) (by decide +kernel)⟩
theorem lw_p29 : lw_okq (⟨"TailorChalksModel", "rubs", "(II)V"⟩, 9) := ⟨⟨by decide +kernel, by decide +kernel⟩, List.mem_of_getElem? (i := 573) (by decide +kernel), List.mem_of_getElem? (i := 687) (by decide +kernel), List.mem_of_getElem? (i := 688) (by decide +kernel)⟩
theorem lw_p30 : lw_okq (⟨"TailorChalksModel", "fallsBy", "(I)I"⟩, 9) := ⟨⟨by decide +kernel, by decide +kernel⟩, List.mem_of_getElem? (i := 573) (by decide +kernel), List.mem_of_getElem? (i := 691) (by decide +kernel), List.mem_of_getElem? (i := 692) (by decide +kernel)⟩
theorem lw_p31 : lw_okq (⟨"TailorChalksModel", "layPieces", "(IZ)V"⟩, 9) := ⟨⟨by decide +kernel, by decide +kernel⟩, List.mem_of_getElem? (i := 573) (by decide +kernel), List.mem_of_getElem? (i := 695) (by decide +kernel), List.mem_of_getElem? (i := 696) (by decide +kernel)⟩
def lw_privs_2 : List (MethodName × Nat) := [(⟨"TailorChalksModel", "does", "(II)I"⟩, 9), (⟨"TailorChalksModel", "chalks", "(I)I"⟩, 9), (⟨"TailorChalksModel", "isOver", "()Z"⟩, 9), (⟨"TailorChalksModel", "left", "()I"⟩, 9), (⟨"TailorChalksModel", "isGone", "(I)Z"⟩, 9), (⟨"TailorChalksModel", "holds", "(I)Z"⟩, 9), (⟨"TailorChalksModel", "isVoid", "(I)Z"⟩, 9), (⟨"TailorChalksModel", "hasChalk", "(II)Z"⟩, 9), (⟨"TailorChalksModel", "rankOf", "(II)I"⟩, 9), (⟨"TailorChalksModel", "chalkAt", "(II)I"⟩, 9), (⟨"TailorChalksModel", "ends", "(I)I"⟩, 9), (⟨"TailorChalksModel", "snips", "(I)I"⟩, 9), (⟨"TailorChalksModel", "reason", "(I)I"⟩, 9), (⟨"TailorChalksModel", "rubs", "(II)V"⟩, 9), (⟨"TailorChalksModel", "fallsBy", "(I)I"⟩, 9), (⟨"TailorChalksModel", "layPieces", "(IZ)V"⟩, 9)]
theorem lw_r2 : ∀ q ∈ lw_privs_2, lw_okq q := List.forall_mem_cons.mpr ⟨lw_p16, List.forall_mem_cons.mpr ⟨lw_p17, List.forall_mem_cons.mpr ⟨lw_p18, List.forall_mem_cons.mpr ⟨lw_p19, List.forall_mem_cons.mpr ⟨lw_p20, List.forall_mem_cons.mpr ⟨lw_p21, List.forall_mem_cons.mpr ⟨lw_p22, List.forall_mem_cons.mpr ⟨lw_p23, List.forall_mem_cons.mpr ⟨lw_p24, List.forall_mem_cons.mpr ⟨lw_p25, List.forall_mem_cons.mpr ⟨lw_p26, List.forall_mem_cons.mpr ⟨lw_p27, List.forall_mem_cons.mpr ⟨lw_p28, List.forall_mem_cons.mpr ⟨lw_p29, List.forall_mem_cons.mpr ⟨lw_p30, List.forall_mem_cons.mpr ⟨lw_p31, fun _ h => absurd h List.not_mem_nil⟩⟩⟩⟩⟩⟩⟩⟩⟩⟩⟩⟩⟩⟩⟩⟩
theorem lw_p32 : lw_okq (⟨"TailorChalksModel", "cellsOf", "(I)I"⟩, 9) := ⟨⟨by decide +kernel, by decide +kernel⟩, List.mem_of_getElem? (i := 573) (by decide +kernel), List.mem_of_getElem? (i := 699) (by decide +kernel), List.mem_of_getElem? (i := 700) (by decide +kernel)⟩
theorem lw_p33 : lw_okq (⟨"TailorChalksModel", "sews", "(I)I"⟩, 9) := ⟨⟨by decide +kernel, by decide +kernel⟩, List.mem_of_getElem? (i := 573) (by decide +kernel), List.mem_of_getElem? (i := 703) (by decide +kernel), List.mem_of_getElem? (i := 704) (by decide +kernel)⟩
theorem lw_p34 : lw_okq (⟨"TailorChalksModel", "isCut", "(I)Z"⟩, 9) := ⟨⟨by decide +kernel, by decide +kernel⟩, List.mem_of_getElem? (i := 573) (by decide +kernel), List.mem_of_getElem? (i := 707) (by decide +kernel), List.mem_of_getElem? (i := 708) (by decide +kernel)⟩
theorem lw_p35 : lw_okq (⟨"TailorChalksModel", "bluffs", "(I)I"⟩, 9) := ⟨⟨by decide +kernel, by decide +kernel⟩, List.mem_of_getElem? (i := 573) (by decide +kernel), List.mem_of_getElem? (i := 711) (by decide +kernel), List.mem_of_getElem? (i := 712) (by decide +kernel)⟩
theorem lw_p36 : lw_okq (⟨"TailorChalksModel", "many", "(I)I"⟩, 9) := ⟨⟨by decide +kernel, by decide +kernel⟩, List.mem_of_getElem? (i := 573) (by decide +kernel), List.mem_of_getElem? (i := 715) (by decide +kernel), List.mem_of_getElem? (i := 716) (by decide +kernel)⟩
theorem lw_p37 : lw_okq (⟨"TailorChalksModel", "doubts", "(I)I"⟩, 9) := ⟨⟨by decide +kernel, by decide +kernel⟩, List.mem_of_getElem? (i := 573) (by decide +kernel), List.mem_of_getElem? (i := 719) (by decide +kernel), List.mem_of_getElem? (i := 720) (by decide +kernel)⟩
theorem lw_p38 : lw_okq (⟨"TailorChalksModel", "passes", "()I"⟩, 9) := ⟨⟨by decide +kernel, by decide +kernel⟩, List.mem_of_getElem? (i := 573) (by decide +kernel), List.mem_of_getElem? (i := 723) (by decide +kernel), List.mem_of_getElem? (i := 724) (by decide +kernel)⟩
theorem lw_p39 : lw_okq (⟨"TailorChalksModel", "records", "()V"⟩, 9) := ⟨⟨by decide +kernel, by decide +kernel⟩, List.mem_of_getElem? (i := 573) (by decide +kernel), List.mem_of_getElem? (i := 727) (by decide +kernel), List.mem_of_getElem? (i := 728) (by decide +kernel)⟩
theorem lw_p40 : lw_okq (⟨"TailorChalksModel", "pieceOf", "(II)I"⟩, 9) := ⟨⟨by decide +kernel, by decide +kernel⟩, List.mem_of_getElem? (i := 573) (by decide +kernel), List.mem_of_getElem? (i := 762) (by decide +kernel), List.mem_of_getElem? (i := 763) (by decide +kernel)⟩
theorem lw_p41 : lw_okq (⟨"TailorChalksModel", "holding", "(I)I"⟩, 9) := ⟨⟨by decide +kernel, by decide +kernel⟩, List.mem_of_getElem? (i := 573) (by decide +kernel), List.mem_of_getElem? (i := 766) (by decide +kernel), List.mem_of_getElem? (i := 767) (by decide +kernel)⟩
theorem lw_p42 : lw_okq (⟨"TailorChalksModel", "winner", "()I"⟩, 9) := ⟨⟨by decide +kernel, by decide +kernel⟩, List.mem_of_getElem? (i := 573) (by decide +kernel), List.mem_of_getElem? (i := 782) (by decide +kernel), List.mem_of_getElem? (i := 783) (by decide +kernel)⟩
theorem lw_p43 : lw_okq (⟨"TailorChalksModel", "pieces", "()I"⟩, 9) := ⟨⟨by decide +kernel, by decide +kernel⟩, List.mem_of_getElem? (i := 573) (by decide +kernel), List.mem_of_getElem? (i := 786) (by decide +kernel), List.mem_of_getElem? (i := 787) (by decide +kernel)⟩
theorem lw_p44 : lw_okq (⟨"TailorChalksModel", "cellsBy", "(I)I"⟩, 9) := ⟨⟨by decide +kernel, by decide +kernel⟩, List.mem_of_getElem? (i := 573) (by decide +kernel), List.mem_of_getElem? (i := 798) (by decide +kernel), List.mem_of_getElem? (i := 799) (by decide +kernel)⟩
theorem lw_p45 : lw_okq (⟨"TailorChalksModel", "wrong", "()I"⟩, 9) := ⟨⟨by decide +kernel, by decide +kernel⟩, List.mem_of_getElem? (i := 573) (by decide +kernel), List.mem_of_getElem? (i := 827) (by decide +kernel), List.mem_of_getElem? (i := 828) (by decide +kernel)⟩
theorem lw_p46 : lw_okq (⟨"TailorChalksModel", "behindOrder", "(I)I"⟩, 9) := ⟨⟨by decide +kernel, by decide +kernel⟩, List.mem_of_getElem? (i := 573) (by decide +kernel), List.mem_of_getElem? (i := 831) (by decide +kernel), List.mem_of_getElem? (i := 832) (by decide +kernel)⟩
theorem lw_p47 : lw_okq (⟨"TailorChalksModel", "charAt", "(I)I"⟩, 9) := ⟨⟨by decide +kernel, by decide +kernel⟩, List.mem_of_getElem? (i := 573) (by decide +kernel), List.mem_of_getElem? (i := 835) (by decide +kernel), List.mem_of_getElem? (i := 836) (by decide +kernel)⟩
def lw_privs_3 : List (MethodName × Nat) := [(⟨"TailorChalksModel", "cellsOf", "(I)I"⟩, 9), (⟨"TailorChalksModel", "sews", "(I)I"⟩, 9), (⟨"TailorChalksModel", "isCut", "(I)Z"⟩, 9), (⟨"TailorChalksModel", "bluffs", "(I)I"⟩, 9), (⟨"TailorChalksModel", "many", "(I)I"⟩, 9), (⟨"TailorChalksModel", "doubts", "(I)I"⟩, 9), (⟨"TailorChalksModel", "passes", "()I"⟩, 9), (⟨"TailorChalksModel", "records", "()V"⟩, 9), (⟨"TailorChalksModel", "pieceOf", "(II)I"⟩, 9), (⟨"TailorChalksModel", "holding", "(I)I"⟩, 9), (⟨"TailorChalksModel", "winner", "()I"⟩, 9), (⟨"TailorChalksModel", "pieces", "()I"⟩, 9), (⟨"TailorChalksModel", "cellsBy", "(I)I"⟩, 9), (⟨"TailorChalksModel", "wrong", "()I"⟩, 9), (⟨"TailorChalksModel", "behindOrder", "(I)I"⟩, 9), (⟨"TailorChalksModel", "charAt", "(I)I"⟩, 9)]
theorem lw_r3 : ∀ q ∈ lw_privs_3, lw_okq q := List.forall_mem_cons.mpr ⟨lw_p32, List.forall_mem_cons.mpr ⟨lw_p33, List.forall_mem_cons.mpr ⟨lw_p34, List.forall_mem_cons.mpr ⟨lw_p35, List.forall_mem_cons.mpr ⟨lw_p36, List.forall_mem_cons.mpr ⟨lw_p37, List.forall_mem_cons.mpr ⟨lw_p38, List.forall_mem_cons.mpr ⟨lw_p39, List.forall_mem_cons.mpr ⟨lw_p40, List.forall_mem_cons.mpr ⟨lw_p41, List.forall_mem_cons.mpr ⟨lw_p42, List.forall_mem_cons.mpr ⟨lw_p43, List.forall_mem_cons.mpr ⟨lw_p44, List.forall_mem_cons.mpr ⟨lw_p45, List.forall_mem_cons.mpr ⟨lw_p46, List.forall_mem_cons.mpr ⟨lw_p47, fun _ h => absurd h List.not_mem_nil⟩⟩⟩⟩⟩⟩⟩⟩⟩⟩⟩⟩⟩⟩⟩⟩
theorem lw_p48 : lw_okq (⟨"TailorChalksModel", "digitAt", "(I)I"⟩, 9) := ⟨⟨by decide +kernel, by decide +kernel⟩, List.mem_of_getElem? (i := 573) (by decide +kernel), List.mem_of_getElem? (i := 839) (by decide +kernel), List.mem_of_getElem? (i := 840) (by decide +kernel)⟩
def lw_privs_4 : List (MethodName × Nat) := [(⟨"TailorChalksModel", "digitAt", "(I)I"⟩, 9)]
theorem lw_r4 : ∀ q ∈ lw_privs_4, lw_okq q := List.forall_mem_cons.mpr ⟨lw_p48, fun _ h => absurd h List.not_mem_nil⟩
def lw_privs : List (MethodName × Nat) := lw_privs_1 ++ (lw_privs_2 ++ (lw_privs_3 ++ (lw_privs_4)))
def lw_tbl : List Cond := k2_sels lw_privs ++ tables_1
theorem lw_privs_ok : ∀ q ∈ lw_privs, lw_okq q := by
  show ∀ q ∈ lw_privs_1 ++ (lw_privs_2 ++ (lw_privs_3 ++ (lw_privs_4))), lw_okq q
  exact List.forall_mem_append.mpr ⟨lw_r1, List.forall_mem_append.mpr ⟨lw_r2, List.forall_mem_append.mpr ⟨lw_r3, lw_r4⟩⟩⟩
/-! ===== BEGIN words of one list among another's, by their places ===== -/
theorem goodIn_r {big : List Cond} (ws : List Cond) (ps : List Nat) (hp : ws = ps.filterMap (fun i => big[i]?)) (h : ws.all goodWord = true) : GoodIn big ws := by
  intro w hw
  have h1 := List.all_eq_true.mp h w hw
  rw [hp] at hw
  obtain ⟨i, -, hi⟩ := List.mem_filterMap.mp hw
  have hm : w ∈ big := by first | exact List.mem_of_getElem? hi | exact List.getElem?_mem hi
  exact ⟨hm, good_of_word h1⟩
theorem goodIn_app {big a b : List Cond} (ha : GoodIn big a) (hb : GoodIn big b) : GoodIn big (a ++ b) := fun w h => (List.mem_append.mp h).elim (ha w) (hb w)
theorem goodIn_ca {big a b : List Cond} {c : Cond} (ha : GoodIn big (c :: a)) (hb : GoodIn big b) : GoodIn big (c :: (a ++ b)) := fun w h => (List.mem_cons.mp h).elim (fun e => ha w (List.mem_cons.mpr (Or.inl e))) (fun h => (List.mem_append.mp h).elim (fun h => ha w (List.mem_cons.mpr (Or.inr h))) (hb w))
theorem goodIn_sub {big ws : List Cond} (hm : ∀ w ∈ ws, w ∈ big) (h : ws.all goodWord = true) : GoodIn big ws := fun w hw => ⟨hm w hw, good_of_word (List.all_eq_true.mp h w hw)⟩
/-! ===== END ===== -/

/-! ===== BEGIN printed: names, fields, word lists, decode rows ===== -/
def RX0 : String := "TailorChalks$Cloth"
def TX0 : u_T := fun k => match k with
  | 0 => ("TailorChalks$Cloth", "states", "[I", true)
  | 1 => ("TailorChalks$Cloth", "makers", "[I", true)
  | 2 => ("TailorChalks$Cloth", "gone", "J", false)
  | 3 => ("TailorChalks$Cloth", "heldAcross", "J", false)
  | _ => ("TailorChalks$Cloth", "heldDown", "J", false)
def tyX0 : Nat → FieldType := fun k => match k with
  | 0 => .array .int
  | 1 => .array .int
  | 2 => .long
  | 3 => .long
  | _ => .long
abbrev wsX00 : List Cond := u_ws RX0 TX0 5
theorem nmX0 : ∀ a, a < 5 → ∀ b, b < 5 → a ≠ b → (TX0 a).2.1 ≠ (TX0 b).2.1 := by decide +kernel
theorem tyX0_ok : ∀ k, k < 5 → parseFieldDescriptor (TX0 k).2.2.1 = some (tyX0 k) := by decide +kernel
abbrev cX0_init : ByteArray := prog_2_method_1_code
def yX0_init : MethodName := ⟨RX0, "<init>", "()V"⟩
abbrev cX0_become : ByteArray := prog_2_method_2_code
def yX0_become : MethodName := ⟨RX0, "become", "(LTailorChalks$Cloth;)V"⟩
abbrev cX0_isJoint : ByteArray := prog_2_method_3_code
def yX0_isJoint : MethodName := ⟨RX0, "isJoint", "(I)Z"⟩
abbrev cX0_isCell : ByteArray := prog_2_method_4_code
def yX0_isCell : MethodName := ⟨RX0, "isCell", "(I)Z"⟩
abbrev cX0_isDown : ByteArray := prog_2_method_5_code
def yX0_isDown : MethodName := ⟨RX0, "isDown", "(I)Z"⟩
abbrev cX0_firstCell : ByteArray := prog_2_method_6_code
def yX0_firstCell : MethodName := ⟨RX0, "firstCell", "(I)I"⟩
abbrev cX0_secondCell : ByteArray := prog_2_method_7_code
def yX0_secondCell : MethodName := ⟨RX0, "secondCell", "(I)I"⟩
abbrev cX0_has : ByteArray := prog_2_method_8_code
def yX0_has : MethodName := ⟨RX0, "has", "(JI)Z"⟩
abbrev cX0_stateOf : ByteArray := prog_2_method_9_code
def yX0_stateOf : MethodName := ⟨RX0, "stateOf", "(I)I"⟩
abbrev cX0_makerOf : ByteArray := prog_2_method_10_code
def yX0_makerOf : MethodName := ⟨RX0, "makerOf", "(I)I"⟩
abbrev cX0_isVoid : ByteArray := prog_2_method_11_code
def yX0_isVoid : MethodName := ⟨RX0, "isVoid", "(I)Z"⟩
abbrev cX0_holds : ByteArray := prog_2_method_12_code
def yX0_holds : MethodName := ⟨RX0, "holds", "(I)Z"⟩
abbrev cX0_isGone : ByteArray := prog_2_method_13_code
def yX0_isGone : MethodName := ⟨RX0, "isGone", "(I)Z"⟩
abbrev cX0_cellsLeft : ByteArray := prog_2_method_14_code
def yX0_cellsLeft : MethodName := ⟨RX0, "cellsLeft", "()I"⟩
abbrev cX0_make : ByteArray := prog_2_method_15_code
def yX0_make : MethodName := ⟨RX0, "make", "(III)V"⟩
abbrev cX0_tearOff : ByteArray := prog_2_method_16_code
def yX0_tearOff : MethodName := ⟨RX0, "tearOff", "(J)V"⟩
abbrev cX0_jointsThatAre : ByteArray := prog_2_method_17_code
def yX0_jointsThatAre : MethodName := ⟨RX0, "jointsThatAre", "(I)I"⟩
abbrev cX0_holdsOn : ByteArray := prog_2_method_18_code
def yX0_holdsOn : MethodName := ⟨RX0, "holdsOn", "(I)I"⟩
abbrev cX0_pieceOf : ByteArray := prog_2_method_19_code
def yX0_pieceOf : MethodName := ⟨RX0, "pieceOf", "(I)J"⟩
abbrev cX0_pieceIfBluffedHeld : ByteArray := prog_2_method_20_code
def yX0_pieceIfBluffedHeld : MethodName := ⟨RX0, "pieceIfBluffedHeld", "(I)J"⟩
abbrev cX0_lowestOfPiece : ByteArray := prog_2_method_21_code
def yX0_lowestOfPiece : MethodName := ⟨RX0, "lowestOfPiece", "(I)I"⟩
abbrev cX0_pieces : ByteArray := prog_2_method_22_code
def yX0_pieces : MethodName := ⟨RX0, "pieces", "()I"⟩
abbrev cX0_ragOf : ByteArray := prog_2_method_23_code
def yX0_ragOf : MethodName := ⟨RX0, "ragOf", "(I)J"⟩
abbrev cX0_weakJoints : ByteArray := prog_2_method_24_code
def yX0_weakJoints : MethodName := ⟨RX0, "weakJoints", "()I"⟩
abbrev cX0_spread : ByteArray := prog_2_method_25_code
def yX0_spread : MethodName := ⟨RX0, "spread", "(IJJ)J"⟩
def RX1 : String := "TailorChalks$Game"
def TX1 : u_T := fun k => match k with
  | 0 => ("TailorChalks$Game", "cloth", "LTailorChalks$Cloth;", true)
  | 1 => ("TailorChalks$Game", "tailorZero", "LTailorChalks$Tailor;", true)
  | 2 => ("TailorChalks$Game", "tailorOne", "LTailorChalks$Tailor;", true)
  | 3 => ("TailorChalks$Game", "next", "I", false)
  | _ => ("TailorChalks$Game", "turns", "I", false)
def tyX1 : Nat → FieldType := fun k => match k with
  | 0 => .object "TailorChalks$Cloth"
  | 1 => .object "TailorChalks$Tailor"
  | 2 => .object "TailorChalks$Tailor"
  | 3 => .int
  | _ => .int
abbrev wsX10 : List Cond := u_ws RX1 TX1 5
theorem nmX1 : ∀ a, a < 5 → ∀ b, b < 5 → a ≠ b → (TX1 a).2.1 ≠ (TX1 b).2.1 := by decide +kernel
theorem tyX1_ok : ∀ k, k < 5 → parseFieldDescriptor (TX1 k).2.2.1 = some (tyX1 k) := by decide +kernel
abbrev cX1_init : ByteArray := prog_3_method_1_code
def yX1_init : MethodName := ⟨RX1, "<init>", "()V"⟩
abbrev cX1_become : ByteArray := prog_3_method_2_code
def yX1_become : MethodName := ⟨RX1, "become", "(LTailorChalks$Game;)V"⟩
abbrev cX1_isPlayer : ByteArray := prog_3_method_3_code
def yX1_isPlayer : MethodName := ⟨RX1, "isPlayer", "(I)Z"⟩
abbrev cX1_tailorOf : ByteArray := prog_3_method_4_code
def yX1_tailorOf : MethodName := ⟨RX1, "tailorOf", "(I)LTailorChalks$Tailor;"⟩
abbrev cX1_isOver : ByteArray := prog_3_method_5_code
def yX1_isOver : MethodName := ⟨RX1, "isOver", "()Z"⟩
abbrev cX1_winner : ByteArray := prog_3_method_6_code
def yX1_winner : MethodName := ⟨RX1, "winner", "()I"⟩
abbrev cX1_chalkersOf : ByteArray := prog_3_method_7_code
def yX1_chalkersOf : MethodName := ⟨RX1, "chalkersOf", "(I)I"⟩
abbrev cX1_doubtableMaker : ByteArray := prog_3_method_8_code
def yX1_doubtableMaker : MethodName := ⟨RX1, "doubtableMaker", "(I)I"⟩
abbrev cX1_whyNoSnip : ByteArray := prog_3_method_9_code
def yX1_whyNoSnip : MethodName := ⟨RX1, "whyNoSnip", "(I)I"⟩
abbrev cX1_obey : ByteArray := prog_3_method_10_code
def yX1_obey : MethodName := ⟨RX1, "obey", "(CI)I"⟩
abbrev cX1_endTurn : ByteArray := prog_3_method_11_code
def yX1_endTurn : MethodName := ⟨RX1, "endTurn", "()V"⟩
abbrev cX1_passOn : ByteArray := prog_3_method_12_code
def yX1_passOn : MethodName := ⟨RX1, "passOn", "()I"⟩
abbrev cX1_markJoint : ByteArray := prog_3_method_13_code
def yX1_markJoint : MethodName := ⟨RX1, "markJoint", "(I)I"⟩
abbrev cX1_snipJoint : ByteArray := prog_3_method_14_code
def yX1_snipJoint : MethodName := ⟨RX1, "snipJoint", "(I)I"⟩
abbrev cX1_findChalk : ByteArray := prog_3_method_15_code
def yX1_findChalk : MethodName := ⟨RX1, "findChalk", "(I)V"⟩
abbrev cX1_dropMarks : ByteArray := prog_3_method_16_code
def yX1_dropMarks : MethodName := ⟨RX1, "dropMarks", "(I)V"⟩
abbrev cX1_loseRag : ByteArray := prog_3_method_17_code
def yX1_loseRag : MethodName := ⟨RX1, "loseRag", "(J)V"⟩
abbrev cX1_sewJoint : ByteArray := prog_3_method_18_code
def yX1_sewJoint : MethodName := ⟨RX1, "sewJoint", "(I)I"⟩
abbrev cX1_bluffJoint : ByteArray := prog_3_method_19_code
def yX1_bluffJoint : MethodName := ⟨RX1, "bluffJoint", "(I)I"⟩
abbrev cX1_doubtJoint : ByteArray := prog_3_method_20_code
def yX1_doubtJoint : MethodName := ⟨RX1, "doubtJoint", "(I)I"⟩
abbrev cX1_openGain : ByteArray := prog_3_method_21_code
def yX1_openGain : MethodName := ⟨RX1, "openGain", "(I)I"⟩
abbrev cX1_bestJoint : ByteArray := prog_3_method_22_code
def yX1_bestJoint : MethodName := ⟨RX1, "bestJoint", "()I"⟩
def RX2 : String := "TailorChalks$History"
def TX2 : u_T := fun k => match k with
  | 0 => ("TailorChalks$History", "states", "[LTailorChalks$Game;", true)
  | 1 => ("TailorChalks$History", "kept", "I", false)
  | _ => ("TailorChalks$History", "noted", "LTailorChalks$Game;", false)
def tyX2 : Nat → FieldType := fun k => match k with
  | 0 => .array (.object "TailorChalks$Game")
  | 1 => .int
  | _ => .object "TailorChalks$Game"
abbrev wsX20 : List Cond := u_ws RX2 TX2 3
theorem nmX2 : ∀ a, a < 3 → ∀ b, b < 3 → a ≠ b → (TX2 a).2.1 ≠ (TX2 b).2.1 := by decide +kernel
theorem tyX2_ok : ∀ k, k < 3 → parseFieldDescriptor (TX2 k).2.2.1 = some (tyX2 k) := by decide +kernel
abbrev cX2_init : ByteArray := prog_4_method_1_code
def yX2_init : MethodName := ⟨RX2, "<init>", "()V"⟩
abbrev cX2_note : ByteArray := prog_4_method_2_code
def yX2_note : MethodName := ⟨RX2, "note", "(LTailorChalks$Game;)V"⟩
abbrev cX2_keepNoted : ByteArray := prog_4_method_3_code
def yX2_keepNoted : MethodName := ⟨RX2, "keepNoted", "()V"⟩
abbrev cX2_dropOldest : ByteArray := prog_4_method_4_code
def yX2_dropOldest : MethodName := ⟨RX2, "dropOldest", "()V"⟩
abbrev cX2_goBack : ByteArray := prog_4_method_5_code
def yX2_goBack : MethodName := ⟨RX2, "goBack", "(LTailorChalks$Game;)I"⟩
def RX3 : String := "TailorChalks$Pad"
def TX3 : u_T := fun k => match k with
  | 0 => ("TailorChalks$Pad", "signs", "[C", true)
  | _ => ("TailorChalks$Pad", "length", "I", false)
def tyX3 : Nat → FieldType := fun k => match k with
  | 0 => .array .char
  | _ => .int
abbrev wsX30 : List Cond := u_ws RX3 TX3 2
theorem nmX3 : ∀ a, a < 2 → ∀ b, b < 2 → a ≠ b → (TX3 a).2.1 ≠ (TX3 b).2.1 := by decide +kernel
theorem tyX3_ok : ∀ k, k < 2 → parseFieldDescriptor (TX3 k).2.2.1 = some (tyX3 k) := by decide +kernel
abbrev cX3_init : ByteArray := prog_5_method_1_code
def yX3_init : MethodName := ⟨RX3, "<init>", "()V"⟩
abbrev cX3_append : ByteArray := prog_5_method_2_code
def yX3_append : MethodName := ⟨RX3, "append", "(J)I"⟩
abbrev cX3_charactersIn : ByteArray := prog_5_method_3_code
def yX3_charactersIn : MethodName := ⟨RX3, "charactersIn", "(J)I"⟩
abbrev cX3_clear : ByteArray := prog_5_method_4_code
def yX3_clear : MethodName := ⟨RX3, "clear", "()I"⟩
abbrev cX3_signAt : ByteArray := prog_5_method_5_code
def yX3_signAt : MethodName := ⟨RX3, "signAt", "(I)C"⟩
abbrev cX3_isDigit : ByteArray := prog_5_method_6_code
def yX3_isDigit : MethodName := ⟨RX3, "isDigit", "(C)Z"⟩
abbrev cX3_firstFault : ByteArray := prog_5_method_7_code
def yX3_firstFault : MethodName := ⟨RX3, "firstFault", "()I"⟩
abbrev cX3_placeBehind : ByteArray := prog_5_method_8_code
def yX3_placeBehind : MethodName := ⟨RX3, "placeBehind", "(IC)I"⟩
abbrev cX3_placeBehindOrder : ByteArray := prog_5_method_9_code
def yX3_placeBehindOrder : MethodName := ⟨RX3, "placeBehindOrder", "(C)I"⟩
def RX4 : String := "TailorChalks$Slot"
def TX4 : u_T := fun k => match k with
  | 0 => ("TailorChalks$Slot", "saved", "LTailorChalks$Game;", true)
  | _ => ("TailorChalks$Slot", "full", "Z", false)
def tyX4 : Nat → FieldType := fun k => match k with
  | 0 => .object "TailorChalks$Game"
  | _ => .boolean
abbrev wsX40 : List Cond := u_ws RX4 TX4 2
theorem nmX4 : ∀ a, a < 2 → ∀ b, b < 2 → a ≠ b → (TX4 a).2.1 ≠ (TX4 b).2.1 := by decide +kernel
theorem tyX4_ok : ∀ k, k < 2 → parseFieldDescriptor (TX4 k).2.2.1 = some (tyX4 k) := by decide +kernel
abbrev cX4_init : ByteArray := prog_6_method_1_code
def yX4_init : MethodName := ⟨RX4, "<init>", "()V"⟩
abbrev cX4_fill : ByteArray := prog_6_method_2_code
def yX4_fill : MethodName := ⟨RX4, "fill", "(LTailorChalks$Game;)V"⟩
def RX5 : String := "TailorChalks$Tailor"
def TX5 : u_T := fun k => match k with
  | 0 => ("TailorChalks$Tailor", "marked", "[I", true)
  | 1 => ("TailorChalks$Tailor", "marks", "I", false)
  | 2 => ("TailorChalks$Tailor", "points", "I", false)
  | 3 => ("TailorChalks$Tailor", "threads", "I", false)
  | 4 => ("TailorChalks$Tailor", "rags", "I", false)
  | 5 => ("TailorChalks$Tailor", "ragCells", "I", false)
  | 6 => ("TailorChalks$Tailor", "found", "I", false)
  | 7 => ("TailorChalks$Tailor", "rightDoubts", "I", false)
  | _ => ("TailorChalks$Tailor", "wrongDoubts", "I", false)
def tyX5 : Nat → FieldType := fun k => match k with
  | 0 => .array .int
  | 1 => .int
  | 2 => .int
  | 3 => .int
  | 4 => .int
  | 5 => .int
  | 6 => .int
  | 7 => .int
  | _ => .int
abbrev wsX50 : List Cond := u_ws RX5 TX5 9
theorem nmX5 : ∀ a, a < 9 → ∀ b, b < 9 → a ≠ b → (TX5 a).2.1 ≠ (TX5 b).2.1 := by decide +kernel
theorem tyX5_ok : ∀ k, k < 9 → parseFieldDescriptor (TX5 k).2.2.1 = some (tyX5 k) := by decide +kernel
abbrev cX5_init : ByteArray := prog_7_method_1_code
def yX5_init : MethodName := ⟨RX5, "<init>", "()V"⟩
abbrev cX5_become : ByteArray := prog_7_method_2_code
def yX5_become : MethodName := ⟨RX5, "become", "(LTailorChalks$Tailor;)V"⟩
abbrev cX5_hasMark : ByteArray := prog_7_method_3_code
def yX5_hasMark : MethodName := ⟨RX5, "hasMark", "(I)Z"⟩
abbrev cX5_markAt : ByteArray := prog_7_method_4_code
def yX5_markAt : MethodName := ⟨RX5, "markAt", "(I)I"⟩
abbrev cX5_addMark : ByteArray := prog_7_method_5_code
def yX5_addMark : MethodName := ⟨RX5, "addMark", "(I)Z"⟩
abbrev cX5_dropMark : ByteArray := prog_7_method_6_code
def yX5_dropMark : MethodName := ⟨RX5, "dropMark", "(I)V"⟩
abbrev cX5_winRag : ByteArray := prog_7_method_7_code
def yX5_winRag : MethodName := ⟨RX5, "winRag", "(I)V"⟩
def RX6 : String := "TailorChalks"
def TX6 : u_T := fun k => match k with
  | 0 => ("TailorChalks", "game", "LTailorChalks$Game;", true)
  | 1 => ("TailorChalks", "history", "LTailorChalks$History;", true)
  | 2 => ("TailorChalks", "slotZero", "LTailorChalks$Slot;", true)
  | 3 => ("TailorChalks", "slotOne", "LTailorChalks$Slot;", true)
  | _ => ("TailorChalks", "pad", "LTailorChalks$Pad;", true)
def tyX6 : Nat → FieldType := fun k => match k with
  | 0 => .object "TailorChalks$Game"
  | 1 => .object "TailorChalks$History"
  | 2 => .object "TailorChalks$Slot"
  | 3 => .object "TailorChalks$Slot"
  | _ => .object "TailorChalks$Pad"
abbrev wsX60 : List Cond := u_ws RX6 TX6 5
theorem nmX6 : ∀ a, a < 5 → ∀ b, b < 5 → a ≠ b → (TX6 a).2.1 ≠ (TX6 b).2.1 := by decide +kernel
theorem tyX6_ok : ∀ k, k < 5 → parseFieldDescriptor (TX6 k).2.2.1 = some (tyX6 k) := by decide +kernel
abbrev cX6_init : ByteArray := prog_1_method_1_code
def yX6_init : MethodName := ⟨RX6, "<init>", "()V"⟩
abbrev cX6_chalk : ByteArray := prog_1_method_2_code
def yX6_chalk : MethodName := ⟨RX6, "chalk", "(I)I"⟩
abbrev cX6_snip : ByteArray := prog_1_method_3_code
def yX6_snip : MethodName := ⟨RX6, "snip", "(I)I"⟩
abbrev cX6_sew : ByteArray := prog_1_method_4_code
def yX6_sew : MethodName := ⟨RX6, "sew", "(I)I"⟩
abbrev cX6_bluff : ByteArray := prog_1_method_5_code
def yX6_bluff : MethodName := ⟨RX6, "bluff", "(I)I"⟩
abbrev cX6_doubt : ByteArray := prog_1_method_6_code
def yX6_doubt : MethodName := ⟨RX6, "doubt", "(I)I"⟩
abbrev cX6_pass : ByteArray := prog_1_method_7_code
def yX6_pass : MethodName := ⟨RX6, "pass", "()I"⟩
abbrev cX6_takeTurn : ByteArray := prog_1_method_8_code
def yX6_takeTurn : MethodName := ⟨RX6, "takeTurn", "(CI)I"⟩
abbrev cX6_of : ByteArray := prog_1_method_9_code
def yX6_of : MethodName := ⟨RX6, "of", "(II)I"⟩
abbrev cX6_cell : ByteArray := prog_1_method_10_code
def yX6_cell : MethodName := ⟨RX6, "cell", "(II)I"⟩
abbrev cX6_player : ByteArray := prog_1_method_11_code
def yX6_player : MethodName := ⟨RX6, "player", "(II)I"⟩
abbrev cX6_chalked : ByteArray := prog_1_method_12_code
def yX6_chalked : MethodName := ⟨RX6, "chalked", "(II)I"⟩
abbrev cX6_count : ByteArray := prog_1_method_13_code
def yX6_count : MethodName := ⟨RX6, "count", "(I)I"⟩
abbrev cX6_asNumber : ByteArray := prog_1_method_14_code
def yX6_asNumber : MethodName := ⟨RX6, "asNumber", "(Z)I"⟩
abbrev cX6_why : ByteArray := prog_1_method_15_code
def yX6_why : MethodName := ⟨RX6, "why", "(I)I"⟩
abbrev cX6_ifSnipped : ByteArray := prog_1_method_16_code
def yX6_ifSnipped : MethodName := ⟨RX6, "ifSnipped", "(I)I"⟩
abbrev cX6_bestSnip : ByteArray := prog_1_method_17_code
def yX6_bestSnip : MethodName := ⟨RX6, "bestSnip", "(I)I"⟩
abbrev cX6_weak : ByteArray := prog_1_method_18_code
def yX6_weak : MethodName := ⟨RX6, "weak", "()I"⟩
abbrev cX6_together : ByteArray := prog_1_method_19_code
def yX6_together : MethodName := ⟨RX6, "together", "(III)I"⟩
abbrev cX6_put : ByteArray := prog_1_method_20_code
def yX6_put : MethodName := ⟨RX6, "put", "(J)I"⟩
abbrev cX6_wipe : ByteArray := prog_1_method_21_code
def yX6_wipe : MethodName := ⟨RX6, "wipe", "()I"⟩
abbrev cX6_fault : ByteArray := prog_1_method_22_code
def yX6_fault : MethodName := ⟨RX6, "fault", "()I"⟩
abbrev cX6_carryOut : ByteArray := prog_1_method_23_code
def yX6_carryOut : MethodName := ⟨RX6, "carryOut", "()I"⟩
abbrev cX6_obeyPad : ByteArray := prog_1_method_24_code
def yX6_obeyPad : MethodName := ⟨RX6, "obeyPad", "()I"⟩
abbrev cX6_undo : ByteArray := prog_1_method_25_code
def yX6_undo : MethodName := ⟨RX6, "undo", "()I"⟩
abbrev cX6_save : ByteArray := prog_1_method_26_code
def yX6_save : MethodName := ⟨RX6, "save", "(I)I"⟩
abbrev cX6_restore : ByteArray := prog_1_method_27_code
def yX6_restore : MethodName := ⟨RX6, "restore", "(I)I"⟩
abbrev cX6_isSlot : ByteArray := prog_1_method_28_code
def yX6_isSlot : MethodName := ⟨RX6, "isSlot", "(I)Z"⟩
abbrev cX6_slotOf : ByteArray := prog_1_method_29_code
def yX6_slotOf : MethodName := ⟨RX6, "slotOf", "(I)LTailorChalks$Slot;"⟩
def RX7 : String := "TailorChalksModel"
def TX7 : u_T := fun k => match k with
  | 0 => ("TailorChalksModel", "s", "[I", true)
  | 1 => ("TailorChalksModel", "ahead", "[I", true)
  | 2 => ("TailorChalksModel", "history", "[I", true)
  | 3 => ("TailorChalksModel", "kept", "I", false)
  | 4 => ("TailorChalksModel", "slots", "[I", true)
  | 5 => ("TailorChalksModel", "isSaved", "[Z", true)
  | 6 => ("TailorChalksModel", "pad", "[I", true)
  | 7 => ("TailorChalksModel", "length", "I", false)
  | _ => ("TailorChalksModel", "label", "[I", true)
def tyX7 : Nat → FieldType := fun k => match k with
  | 0 => .array .int
  | 1 => .array .int
  | 2 => .array .int
  | 3 => .int
  | 4 => .array .int
  | 5 => .array .boolean
  | 6 => .array .int
  | 7 => .int
  | _ => .array .int
abbrev wsX70 : List Cond := u_ws RX7 TX7 9
theorem nmX7 : ∀ a, a < 9 → ∀ b, b < 9 → a ≠ b → (TX7 a).2.1 ≠ (TX7 b).2.1 := by decide +kernel
theorem tyX7_ok : ∀ k, k < 9 → parseFieldDescriptor (TX7 k).2.2.1 = some (tyX7 k) := by decide +kernel
abbrev cX7_init : ByteArray := prog_9_method_1_code
def yX7_init : MethodName := ⟨RX7, "<init>", "()V"⟩
abbrev cX7_in : ByteArray := prog_9_method_3_code
def yX7_in : MethodName := ⟨RX7, "in", "(III)Z"⟩
abbrev cX7_isJoint : ByteArray := prog_9_method_4_code
def yX7_isJoint : MethodName := ⟨RX7, "isJoint", "(I)Z"⟩
abbrev cX7_isCell : ByteArray := prog_9_method_5_code
def yX7_isCell : MethodName := ⟨RX7, "isCell", "(I)Z"⟩
abbrev cX7_at : ByteArray := prog_9_method_6_code
def yX7_at : MethodName := ⟨RX7, "at", "(II)I"⟩
abbrev cX7_chalkAt : ByteArray := prog_9_method_7_code
def yX7_chalkAt : MethodName := ⟨RX7, "chalkAt", "(II)I"⟩
abbrev cX7_first : ByteArray := prog_9_method_8_code
def yX7_first : MethodName := ⟨RX7, "first", "(I)I"⟩
abbrev cX7_second : ByteArray := prog_9_method_9_code
def yX7_second : MethodName := ⟨RX7, "second", "(I)I"⟩
abbrev cX7_isGone : ByteArray := prog_9_method_10_code
def yX7_isGone : MethodName := ⟨RX7, "isGone", "(I)Z"⟩
abbrev cX7_isVoid : ByteArray := prog_9_method_11_code
def yX7_isVoid : MethodName := ⟨RX7, "isVoid", "(I)Z"⟩
abbrev cX7_holds : ByteArray := prog_9_method_12_code
def yX7_holds : MethodName := ⟨RX7, "holds", "(I)Z"⟩
abbrev cX7_looks : ByteArray := prog_9_method_13_code
def yX7_looks : MethodName := ⟨RX7, "looks", "()V"⟩
abbrev cX7_records : ByteArray := prog_9_method_14_code
def yX7_records : MethodName := ⟨RX7, "records", "()V"⟩
abbrev cX7_layPieces : ByteArray := prog_9_method_15_code
def yX7_layPieces : MethodName := ⟨RX7, "layPieces", "(IZ)V"⟩
abbrev cX7_cellsOf : ByteArray := prog_9_method_16_code
def yX7_cellsOf : MethodName := ⟨RX7, "cellsOf", "(I)I"⟩
abbrev cX7_fallsBy : ByteArray := prog_9_method_17_code
def yX7_fallsBy : MethodName := ⟨RX7, "fallsBy", "(I)I"⟩
abbrev cX7_cellsBy : ByteArray := prog_9_method_18_code
def yX7_cellsBy : MethodName := ⟨RX7, "cellsBy", "(I)I"⟩
abbrev cX7_left : ByteArray := prog_9_method_19_code
def yX7_left : MethodName := ⟨RX7, "left", "()I"⟩
abbrev cX7_isOver : ByteArray := prog_9_method_20_code
def yX7_isOver : MethodName := ⟨RX7, "isOver", "()Z"⟩
abbrev cX7_rankOf : ByteArray := prog_9_method_21_code
def yX7_rankOf : MethodName := ⟨RX7, "rankOf", "(II)I"⟩
abbrev cX7_hasChalk : ByteArray := prog_9_method_22_code
def yX7_hasChalk : MethodName := ⟨RX7, "hasChalk", "(II)Z"⟩
abbrev cX7_rubs : ByteArray := prog_9_method_23_code
def yX7_rubs : MethodName := ⟨RX7, "rubs", "(II)V"⟩
abbrev cX7_ends : ByteArray := prog_9_method_24_code
def yX7_ends : MethodName := ⟨RX7, "ends", "(I)I"⟩
abbrev cX7_chalks : ByteArray := prog_9_method_25_code
def yX7_chalks : MethodName := ⟨RX7, "chalks", "(I)I"⟩
abbrev cX7_reason : ByteArray := prog_9_method_26_code
def yX7_reason : MethodName := ⟨RX7, "reason", "(I)I"⟩
abbrev cX7_snips : ByteArray := prog_9_method_27_code
def yX7_snips : MethodName := ⟨RX7, "snips", "(I)I"⟩
abbrev cX7_isCut : ByteArray := prog_9_method_28_code
def yX7_isCut : MethodName := ⟨RX7, "isCut", "(I)Z"⟩
abbrev cX7_sews : ByteArray := prog_9_method_29_code
def yX7_sews : MethodName := ⟨RX7, "sews", "(I)I"⟩
abbrev cX7_many : ByteArray := prog_9_method_30_code
def yX7_many : MethodName := ⟨RX7, "many", "(I)I"⟩
abbrev cX7_bluffs : ByteArray := prog_9_method_31_code
def yX7_bluffs : MethodName := ⟨RX7, "bluffs", "(I)I"⟩
abbrev cX7_doubts : ByteArray := prog_9_method_32_code
def yX7_doubts : MethodName := ⟨RX7, "doubts", "(I)I"⟩
abbrev cX7_passes : ByteArray := prog_9_method_33_code
def yX7_passes : MethodName := ⟨RX7, "passes", "()I"⟩
abbrev cX7_does : ByteArray := prog_9_method_34_code
def yX7_does : MethodName := ⟨RX7, "does", "(II)I"⟩
abbrev cX7_turns : ByteArray := prog_9_method_35_code
def yX7_turns : MethodName := ⟨RX7, "turns", "(II)I"⟩
abbrev cX7_chalk : ByteArray := prog_9_method_36_code
def yX7_chalk : MethodName := ⟨RX7, "chalk", "(I)I"⟩
abbrev cX7_snip : ByteArray := prog_9_method_37_code
def yX7_snip : MethodName := ⟨RX7, "snip", "(I)I"⟩
abbrev cX7_sew : ByteArray := prog_9_method_38_code
def yX7_sew : MethodName := ⟨RX7, "sew", "(I)I"⟩
abbrev cX7_bluff : ByteArray := prog_9_method_39_code
def yX7_bluff : MethodName := ⟨RX7, "bluff", "(I)I"⟩
abbrev cX7_doubt : ByteArray := prog_9_method_40_code
def yX7_doubt : MethodName := ⟨RX7, "doubt", "(I)I"⟩
abbrev cX7_pass : ByteArray := prog_9_method_41_code
def yX7_pass : MethodName := ⟨RX7, "pass", "()I"⟩
abbrev cX7_of : ByteArray := prog_9_method_42_code
def yX7_of : MethodName := ⟨RX7, "of", "(II)I"⟩
abbrev cX7_pieceOf : ByteArray := prog_9_method_43_code
def yX7_pieceOf : MethodName := ⟨RX7, "pieceOf", "(II)I"⟩
abbrev cX7_holding : ByteArray := prog_9_method_44_code
def yX7_holding : MethodName := ⟨RX7, "holding", "(I)I"⟩
abbrev cX7_cell : ByteArray := prog_9_method_45_code
def yX7_cell : MethodName := ⟨RX7, "cell", "(II)I"⟩
abbrev cX7_player : ByteArray := prog_9_method_46_code
def yX7_player : MethodName := ⟨RX7, "player", "(II)I"⟩
abbrev cX7_chalked : ByteArray := prog_9_method_47_code
def yX7_chalked : MethodName := ⟨RX7, "chalked", "(II)I"⟩
abbrev cX7_pieces : ByteArray := prog_9_method_48_code
def yX7_pieces : MethodName := ⟨RX7, "pieces", "()I"⟩
abbrev cX7_winner : ByteArray := prog_9_method_49_code
def yX7_winner : MethodName := ⟨RX7, "winner", "()I"⟩
abbrev cX7_count : ByteArray := prog_9_method_50_code
def yX7_count : MethodName := ⟨RX7, "count", "(I)I"⟩
abbrev cX7_why : ByteArray := prog_9_method_51_code
def yX7_why : MethodName := ⟨RX7, "why", "(I)I"⟩
abbrev cX7_ifSnipped : ByteArray := prog_9_method_52_code
def yX7_ifSnipped : MethodName := ⟨RX7, "ifSnipped", "(I)I"⟩
abbrev cX7_bestSnip : ByteArray := prog_9_method_53_code
def yX7_bestSnip : MethodName := ⟨RX7, "bestSnip", "(I)I"⟩
abbrev cX7_weak : ByteArray := prog_9_method_54_code
def yX7_weak : MethodName := ⟨RX7, "weak", "()I"⟩
abbrev cX7_together : ByteArray := prog_9_method_55_code
def yX7_together : MethodName := ⟨RX7, "together", "(III)I"⟩
abbrev cX7_put : ByteArray := prog_9_method_56_code
def yX7_put : MethodName := ⟨RX7, "put", "(J)I"⟩
abbrev cX7_wipe : ByteArray := prog_9_method_57_code
def yX7_wipe : MethodName := ⟨RX7, "wipe", "()I"⟩
abbrev cX7_charAt : ByteArray := prog_9_method_58_code
def yX7_charAt : MethodName := ⟨RX7, "charAt", "(I)I"⟩
abbrev cX7_digitAt : ByteArray := prog_9_method_59_code
def yX7_digitAt : MethodName := ⟨RX7, "digitAt", "(I)I"⟩
abbrev cX7_behindOrder : ByteArray := prog_9_method_60_code
def yX7_behindOrder : MethodName := ⟨RX7, "behindOrder", "(I)I"⟩
abbrev cX7_wrong : ByteArray := prog_9_method_61_code
def yX7_wrong : MethodName := ⟨RX7, "wrong", "()I"⟩
abbrev cX7_fault : ByteArray := prog_9_method_62_code
def yX7_fault : MethodName := ⟨RX7, "fault", "()I"⟩
abbrev cX7_carryOut : ByteArray := prog_9_method_63_code
def yX7_carryOut : MethodName := ⟨RX7, "carryOut", "()I"⟩
abbrev cX7_undo : ByteArray := prog_9_method_64_code
def yX7_undo : MethodName := ⟨RX7, "undo", "()I"⟩
abbrev cX7_save : ByteArray := prog_9_method_65_code
def yX7_save : MethodName := ⟨RX7, "save", "(I)I"⟩
abbrev cX7_restore : ByteArray := prog_9_method_66_code
def yX7_restore : MethodName := ⟨RX7, "restore", "(I)I"⟩
def RJ13 : String := "java/lang/Long"
def TJ13 : u_T := fun k => match k with
  | _ => ("", "", "", false)
def tyJ13 : Nat → FieldType := fun k => match k with
  | _ => .int
abbrev wsJ130 : List Cond := u_ws RJ13 TJ13 0
theorem nmJ13 : ∀ a, a < 0 → ∀ b, b < 0 → a ≠ b → (TJ13 a).2.1 ≠ (TJ13 b).2.1 := by decide +kernel
theorem tyJ13_ok : ∀ k, k < 0 → parseFieldDescriptor (TJ13 k).2.2.1 = some (tyJ13 k) := by decide +kernel
abbrev cJ13_bitCount_95d88 : ByteArray := prog_10_method_50_code
def yJ13_bitCount_95d88 : MethodName := ⟨RJ13, "bitCount", "(J)I"⟩
def RL : String := "TailorChalksLaw"
abbrev cL_law : ByteArray := code
def yL_law : MethodName := ⟨RL, "law", "([I)Z"⟩
def wsX0_isJoint : List Cond := .code yX0_isJoint cX0_isJoint 1 (some .boolean) :: ([])
def wsX0_firstCell : List Cond := .code yX0_firstCell cX0_firstCell 1 (some .int) :: ([])
def wsX0_isDown : List Cond := .code yX0_isDown cX0_isDown 1 (some .boolean) :: ([])
def wsX0_make : List Cond := .code yX0_make cX0_make 8 none :: ([.fieldLink RX0 11 "TailorChalks$Cloth" "states" "[I", .fieldLink RX0 15 "TailorChalks$Cloth" "makers" "[I", .fieldLink RX0 29 "TailorChalks$Cloth" "heldDown" "J", .constantLong RX0 53 (-1), .fieldLink RX0 26 "TailorChalks$Cloth" "heldAcross" "J", .methodLink RX0 40 yX0_isJoint, .static yX0_isJoint, .initialized RX0, .code yX0_isJoint cX0_isJoint 1 (some .boolean), .methodLink RX0 32 yX0_firstCell, .static yX0_firstCell, .code yX0_firstCell cX0_firstCell 1 (some .int), .methodLink RX0 36 yX0_isDown, .static yX0_isDown, .code yX0_isDown cX0_isDown 1 (some .boolean)] ++ wsX00)
def wsX0_init : List Cond := .code yX0_init cX0_init 2 none :: ([.methodLink RX0 3 objectInit, .instanceMethod objectInit, .code objectInit ⟨#[0xb1]⟩ 1 none, .arrayClass .int, .fieldLink RX0 11 "TailorChalks$Cloth" "states" "[I", .fieldLink RX0 15 "TailorChalks$Cloth" "makers" "[I", .methodLink RX0 18 yX0_make, .instanceMethod yX0_make, .selects RX0 yX0_make yX0_make, .initialized RX0, .code yX0_make cX0_make 8 none, .fieldLink RX0 29 "TailorChalks$Cloth" "heldDown" "J", .constantLong RX0 53 (-1), .fieldLink RX0 26 "TailorChalks$Cloth" "heldAcross" "J", .methodLink RX0 40 yX0_isJoint, .static yX0_isJoint, .code yX0_isJoint cX0_isJoint 1 (some .boolean), .methodLink RX0 32 yX0_firstCell, .static yX0_firstCell, .code yX0_firstCell cX0_firstCell 1 (some .int), .methodLink RX0 36 yX0_isDown, .static yX0_isDown, .code yX0_isDown cX0_isDown 1 (some .boolean)] ++ wsX00)
def wsX0_become : List Cond := .code yX0_become cX0_become 3 none :: ([.fieldLink RX0 11 "TailorChalks$Cloth" "states" "[I", .fieldLink RX0 15 "TailorChalks$Cloth" "makers" "[I", .fieldLink RX0 22 "TailorChalks$Cloth" "gone" "J", .fieldLink RX0 26 "TailorChalks$Cloth" "heldAcross" "J", .fieldLink RX0 29 "TailorChalks$Cloth" "heldDown" "J"] ++ wsX00)
def wsX0_isCell : List Cond := .code yX0_isCell cX0_isCell 1 (some .boolean) :: ([])
def wsX0_secondCell : List Cond := .code yX0_secondCell cX0_secondCell 1 (some .int) :: ([.methodLink RX0 32 yX0_firstCell, .static yX0_firstCell, .initialized RX0, .code yX0_firstCell cX0_firstCell 1 (some .int), .methodLink RX0 36 yX0_isDown, .static yX0_isDown, .code yX0_isDown cX0_isDown 1 (some .boolean)])
def wsX0_has : List Cond := .code yX0_has cX0_has 3 (some .boolean) :: ([])
def wsX0_stateOf : List Cond := .code yX0_stateOf cX0_stateOf 2 (some .int) :: ([.fieldLink RX0 11 "TailorChalks$Cloth" "states" "[I", .methodLink RX0 40 yX0_isJoint, .static yX0_isJoint, .initialized RX0, .code yX0_isJoint cX0_isJoint 1 (some .boolean)] ++ wsX00)
def wsX0_makerOf : List Cond := .code yX0_makerOf cX0_makerOf 2 (some .int) :: ([.fieldLink RX0 15 "TailorChalks$Cloth" "makers" "[I", .methodLink RX0 40 yX0_isJoint, .static yX0_isJoint, .initialized RX0, .code yX0_isJoint cX0_isJoint 1 (some .boolean)] ++ wsX00)
def wsX0_isVoid : List Cond := .code yX0_isVoid cX0_isVoid 4 (some .boolean) :: ([.fieldLink RX0 22 "TailorChalks$Cloth" "gone" "J", .methodLink RX0 36 yX0_isDown, .static yX0_isDown, .initialized RX0, .code yX0_isDown cX0_isDown 1 (some .boolean), .methodLink RX0 32 yX0_firstCell, .static yX0_firstCell, .code yX0_firstCell cX0_firstCell 1 (some .int), .methodLink RX0 43 yX0_has, .static yX0_has, .code yX0_has cX0_has 3 (some .boolean)] ++ wsX00)
def wsX0_holds : List Cond := .code yX0_holds cX0_holds 2 (some .boolean) :: ([.fieldLink RX0 29 "TailorChalks$Cloth" "heldDown" "J", .fieldLink RX0 26 "TailorChalks$Cloth" "heldAcross" "J", .methodLink RX0 36 yX0_isDown, .static yX0_isDown, .initialized RX0, .code yX0_isDown cX0_isDown 1 (some .boolean), .methodLink RX0 32 yX0_firstCell, .static yX0_firstCell, .code yX0_firstCell cX0_firstCell 1 (some .int), .methodLink RX0 43 yX0_has, .static yX0_has, .code yX0_has cX0_has 3 (some .boolean)] ++ wsX00)
def wsX0_isGone : List Cond := .code yX0_isGone cX0_isGone 2 (some .boolean) :: ([.fieldLink RX0 22 "TailorChalks$Cloth" "gone" "J", .methodLink RX0 43 yX0_has, .static yX0_has, .initialized RX0, .code yX0_has cX0_has 3 (some .boolean)] ++ wsX00)
def wsJ13_bitCount_95d88 : List Cond := .code yJ13_bitCount_95d88 cJ13_bitCount_95d88 2 (some .int) :: ([.constantLong RJ13 314 (6148914691236517205), .constantLong RJ13 316 (3689348814741910323), .constantLong RJ13 318 (1085102592571150095)])
def wsX0_cellsLeft : List Cond := .code yX0_cellsLeft cX0_cellsLeft 1 (some .int) :: ([.fieldLink RX0 22 "TailorChalks$Cloth" "gone" "J", .methodLink RX0 47 yJ13_bitCount_95d88, .static yJ13_bitCount_95d88, .initialized RJ13, .code yJ13_bitCount_95d88 cJ13_bitCount_95d88 2 (some .int), .constantLong RJ13 314 (6148914691236517205), .constantLong RJ13 316 (3689348814741910323), .constantLong RJ13 318 (1085102592571150095)] ++ wsX00)
def wsX0_tearOff : List Cond := .code yX0_tearOff cX0_tearOff 3 none :: ([.fieldLink RX0 22 "TailorChalks$Cloth" "gone" "J", .fieldLink RX0 26 "TailorChalks$Cloth" "heldAcross" "J", .constantLong RX0 53 (-1), .fieldLink RX0 29 "TailorChalks$Cloth" "heldDown" "J"] ++ wsX00)
def wsX0_jointsThatAre : List Cond := .code yX0_jointsThatAre cX0_jointsThatAre 4 (some .int) :: ([.fieldLink RX0 11 "TailorChalks$Cloth" "states" "[I", .methodLink RX0 55 yX0_isVoid, .instanceMethod yX0_isVoid, .selects RX0 yX0_isVoid yX0_isVoid, .initialized RX0, .code yX0_isVoid cX0_isVoid 4 (some .boolean), .fieldLink RX0 22 "TailorChalks$Cloth" "gone" "J", .methodLink RX0 36 yX0_isDown, .static yX0_isDown, .code yX0_isDown cX0_isDown 1 (some .boolean), .methodLink RX0 32 yX0_firstCell, .static yX0_firstCell, .code yX0_firstCell cX0_firstCell 1 (some .int), .methodLink RX0 43 yX0_has, .static yX0_has, .code yX0_has cX0_has 3 (some .boolean)] ++ wsX00)
def wsX0_holdsOn : List Cond := .code yX0_holdsOn cX0_holdsOn 4 (some .int) :: ([.methodLink RX0 58 yX0_holds, .instanceMethod yX0_holds, .selects RX0 yX0_holds yX0_holds, .initialized RX0, .code yX0_holds cX0_holds 2 (some .boolean), .fieldLink RX0 29 "TailorChalks$Cloth" "heldDown" "J", .fieldLink RX0 26 "TailorChalks$Cloth" "heldAcross" "J", .methodLink RX0 36 yX0_isDown, .static yX0_isDown, .code yX0_isDown cX0_isDown 1 (some .boolean), .methodLink RX0 32 yX0_firstCell, .static yX0_firstCell, .code yX0_firstCell cX0_firstCell 1 (some .int), .methodLink RX0 43 yX0_has, .static yX0_has, .code yX0_has cX0_has 3 (some .boolean), .methodLink RX0 61 yX0_secondCell, .static yX0_secondCell, .code yX0_secondCell cX0_secondCell 1 (some .int)] ++ wsX00)
def wsX0_spread : List Cond := .code yX0_spread cX0_spread 14 (some .long) :: ([])
def wsX0_pieceOf : List Cond := .code yX0_pieceOf cX0_pieceOf 2 (some .long) :: ([.fieldLink RX0 26 "TailorChalks$Cloth" "heldAcross" "J", .fieldLink RX0 29 "TailorChalks$Cloth" "heldDown" "J", .methodLink RX0 64 yX0_isGone, .instanceMethod yX0_isGone, .selects RX0 yX0_isGone yX0_isGone, .initialized RX0, .code yX0_isGone cX0_isGone 2 (some .boolean), .fieldLink RX0 22 "TailorChalks$Cloth" "gone" "J", .methodLink RX0 43 yX0_has, .static yX0_has, .code yX0_has cX0_has 3 (some .boolean), .methodLink RX0 67 yX0_spread, .static yX0_spread, .code yX0_spread cX0_spread 14 (some .long)] ++ wsX00)
def wsX0_pieceIfBluffedHeld : List Cond := .code yX0_pieceIfBluffedHeld cX0_pieceIfBluffedHeld 9 (some .long) :: ([.fieldLink RX0 26 "TailorChalks$Cloth" "heldAcross" "J", .fieldLink RX0 29 "TailorChalks$Cloth" "heldDown" "J", .fieldLink RX0 11 "TailorChalks$Cloth" "states" "[I", .methodLink RX0 55 yX0_isVoid, .instanceMethod yX0_isVoid, .selects RX0 yX0_isVoid yX0_isVoid, .initialized RX0, .code yX0_isVoid cX0_isVoid 4 (some .boolean), .fieldLink RX0 22 "TailorChalks$Cloth" "gone" "J", .methodLink RX0 36 yX0_isDown, .static yX0_isDown, .code yX0_isDown cX0_isDown 1 (some .boolean), .methodLink RX0 32 yX0_firstCell, .static yX0_firstCell, .code yX0_firstCell cX0_firstCell 1 (some .int), .methodLink RX0 43 yX0_has, .static yX0_has, .code yX0_has cX0_has 3 (some .boolean), .methodLink RX0 67 yX0_spread, .static yX0_spread, .code yX0_spread cX0_spread 14 (some .long)] ++ wsX00)
def wsX0_lowestOfPiece : List Cond := .code yX0_lowestOfPiece cX0_lowestOfPiece 5 (some .int) :: ([.methodLink RX0 71 yX0_pieceOf, .instanceMethod yX0_pieceOf, .selects RX0 yX0_pieceOf yX0_pieceOf, .initialized RX0, .code yX0_pieceOf cX0_pieceOf 2 (some .long), .fieldLink RX0 26 "TailorChalks$Cloth" "heldAcross" "J", .fieldLink RX0 29 "TailorChalks$Cloth" "heldDown" "J", .methodLink RX0 64 yX0_isGone, .instanceMethod yX0_isGone, .selects RX0 yX0_isGone yX0_isGone, .code yX0_isGone cX0_isGone 2 (some .boolean), .fieldLink RX0 22 "TailorChalks$Cloth" "gone" "J", .methodLink RX0 43 yX0_has, .static yX0_has, .code yX0_has cX0_has 3 (some .boolean), .methodLink RX0 67 yX0_spread, .static yX0_spread, .code yX0_spread cX0_spread 14 (some .long)] ++ wsX00)
def wsX0_pieces : List Cond := .code yX0_pieces cX0_pieces 5 (some .int) :: ([.fieldLink RX0 22 "TailorChalks$Cloth" "gone" "J", .methodLink RX0 43 yX0_has, .static yX0_has, .initialized RX0, .code yX0_has cX0_has 3 (some .boolean), .methodLink RX0 71 yX0_pieceOf, .instanceMethod yX0_pieceOf, .selects RX0 yX0_pieceOf yX0_pieceOf, .code yX0_pieceOf cX0_pieceOf 2 (some .long), .fieldLink RX0 26 "TailorChalks$Cloth" "heldAcross" "J", .fieldLink RX0 29 "TailorChalks$Cloth" "heldDown" "J", .methodLink RX0 64 yX0_isGone, .instanceMethod yX0_isGone, .selects RX0 yX0_isGone yX0_isGone, .code yX0_isGone cX0_isGone 2 (some .boolean), .methodLink RX0 67 yX0_spread, .static yX0_spread, .code yX0_spread cX0_spread 14 (some .long)] ++ wsX00)
def wsX0_ragOf_r1 : List Cond := [Cond.fieldLink RX0 26 "TailorChalks$Cloth" "heldAcross" "J", Cond.constantLong RX0 53 (-1), Cond.fieldLink RX0 29 "TailorChalks$Cloth" "heldDown" "J", Cond.methodLink RX0 32 yX0_firstCell, Cond.static yX0_firstCell, Cond.initialized RX0, Cond.code yX0_firstCell cX0_firstCell 1 (some .int), Cond.methodLink RX0 36 yX0_isDown, Cond.static yX0_isDown, Cond.code yX0_isDown cX0_isDown 1 (some .boolean), Cond.methodLink RX0 67 yX0_spread, Cond.static yX0_spread, Cond.code yX0_spread cX0_spread 14 (some .long), Cond.methodLink RX0 61 yX0_secondCell, Cond.static yX0_secondCell, Cond.code yX0_secondCell cX0_secondCell 1 (some .int), Cond.methodLink RX0 43 yX0_has, Cond.static yX0_has, Cond.code yX0_has cX0_has 3 (some .boolean), Cond.methodLink RX0 47 yJ13_bitCount_95d88, Cond.static yJ13_bitCount_95d88, Cond.initialized RJ13, Cond.code yJ13_bitCount_95d88 cJ13_bitCount_95d88 2 (some .int), Cond.constantLong RJ13 314 (6148914691236517205)]
def wsX0_ragOf_r2 : List Cond := [Cond.constantLong RJ13 316 (3689348814741910323), Cond.constantLong RJ13 318 (1085102592571150095)]
def wsX0_ragOf : List Cond := .code yX0_ragOf cX0_ragOf 14 (some .long) :: ((wsX0_ragOf_r1 ++ wsX0_ragOf_r2) ++ wsX00)
def wsX0_weakJoints_r1 : List Cond := [Cond.methodLink RX0 58 yX0_holds, Cond.instanceMethod yX0_holds, Cond.selects RX0 yX0_holds yX0_holds, Cond.initialized RX0, Cond.code yX0_holds cX0_holds 2 (some .boolean), Cond.fieldLink RX0 29 "TailorChalks$Cloth" "heldDown" "J", Cond.fieldLink RX0 26 "TailorChalks$Cloth" "heldAcross" "J", Cond.methodLink RX0 36 yX0_isDown, Cond.static yX0_isDown, Cond.code yX0_isDown cX0_isDown 1 (some .boolean), Cond.methodLink RX0 32 yX0_firstCell, Cond.static yX0_firstCell, Cond.code yX0_firstCell cX0_firstCell 1 (some .int), Cond.methodLink RX0 43 yX0_has, Cond.static yX0_has, Cond.code yX0_has cX0_has 3 (some .boolean), Cond.methodLink RX0 75 yX0_ragOf, Cond.instanceMethod yX0_ragOf, Cond.selects RX0 yX0_ragOf yX0_ragOf, Cond.code yX0_ragOf cX0_ragOf 14 (some .long), Cond.constantLong RX0 53 (-1), Cond.methodLink RX0 67 yX0_spread, Cond.static yX0_spread, Cond.code yX0_spread cX0_spread 14 (some .long)]
def wsX0_weakJoints_r2 : List Cond := [Cond.methodLink RX0 61 yX0_secondCell, Cond.static yX0_secondCell, Cond.code yX0_secondCell cX0_secondCell 1 (some .int), Cond.methodLink RX0 47 yJ13_bitCount_95d88, Cond.static yJ13_bitCount_95d88, Cond.initialized RJ13, Cond.code yJ13_bitCount_95d88 cJ13_bitCount_95d88 2 (some .int), Cond.constantLong RJ13 314 (6148914691236517205), Cond.constantLong RJ13 316 (3689348814741910323), Cond.constantLong RJ13 318 (1085102592571150095)]
def wsX0_weakJoints : List Cond := .code yX0_weakJoints cX0_weakJoints 3 (some .int) :: ((wsX0_weakJoints_r1 ++ wsX0_weakJoints_r2) ++ wsX00)
def wsX5_init : List Cond := .code yX5_init cX5_init 1 none :: ([.methodLink RX5 3 objectInit, .instanceMethod objectInit, .code objectInit ⟨#[0xb1]⟩ 1 none, .arrayClass .int, .fieldLink RX5 11 "TailorChalks$Tailor" "marked" "[I", .fieldLink RX5 15 "TailorChalks$Tailor" "threads" "I"] ++ wsX50)
def wsX1_init_r1 : List Cond := [Cond.methodLink RX1 3 objectInit, Cond.instanceMethod objectInit, Cond.code objectInit ⟨#[0xb1]⟩ 1 none, Cond.classLink RX1 9 RX0, Cond.instantiable RX0 5, Cond.initialized RX0, Cond.fieldLink RX1 12 "TailorChalks$Game" "cloth" "LTailorChalks$Cloth;", Cond.classLink RX1 18 RX5, Cond.instantiable RX5 9, Cond.initialized RX5, Cond.fieldLink RX1 21 "TailorChalks$Game" "tailorZero" "LTailorChalks$Tailor;", Cond.fieldLink RX1 25 "TailorChalks$Game" "tailorOne" "LTailorChalks$Tailor;", Cond.methodLink RX1 11 yX0_init, Cond.instanceMethod yX0_init, Cond.code yX0_init cX0_init 2 none, Cond.methodLink RX0 3 objectInit, Cond.arrayClass .int, Cond.fieldLink RX0 11 "TailorChalks$Cloth" "states" "[I", Cond.fieldLink RX0 15 "TailorChalks$Cloth" "makers" "[I", Cond.methodLink RX0 18 yX0_make, Cond.instanceMethod yX0_make, Cond.selects RX0 yX0_make yX0_make, Cond.code yX0_make cX0_make 8 none, Cond.fieldLink RX0 29 "TailorChalks$Cloth" "heldDown" "J"]
def wsX1_init_r2 : List Cond := [Cond.constantLong RX0 53 (-1), Cond.fieldLink RX0 26 "TailorChalks$Cloth" "heldAcross" "J", Cond.methodLink RX0 40 yX0_isJoint, Cond.static yX0_isJoint, Cond.code yX0_isJoint cX0_isJoint 1 (some .boolean), Cond.methodLink RX0 32 yX0_firstCell, Cond.static yX0_firstCell, Cond.code yX0_firstCell cX0_firstCell 1 (some .int), Cond.methodLink RX0 36 yX0_isDown, Cond.static yX0_isDown, Cond.code yX0_isDown cX0_isDown 1 (some .boolean), Cond.methodLink RX1 20 yX5_init, Cond.instanceMethod yX5_init, Cond.code yX5_init cX5_init 1 none, Cond.methodLink RX5 3 objectInit, Cond.fieldLink RX5 11 "TailorChalks$Tailor" "marked" "[I", Cond.fieldLink RX5 15 "TailorChalks$Tailor" "threads" "I"]
def wsX1_init : List Cond := .code yX1_init cX1_init 1 none :: ((wsX1_init_r1 ++ wsX1_init_r2) ++ wsX00 ++ wsX10 ++ wsX50)
def wsX5_become : List Cond := .code yX5_become cX5_become 3 none :: ([.fieldLink RX5 11 "TailorChalks$Tailor" "marked" "[I", .fieldLink RX5 19 "TailorChalks$Tailor" "marks" "I", .fieldLink RX5 22 "TailorChalks$Tailor" "points" "I", .fieldLink RX5 15 "TailorChalks$Tailor" "threads" "I", .fieldLink RX5 25 "TailorChalks$Tailor" "rags" "I", .fieldLink RX5 28 "TailorChalks$Tailor" "ragCells" "I", .fieldLink RX5 31 "TailorChalks$Tailor" "found" "I", .fieldLink RX5 34 "TailorChalks$Tailor" "rightDoubts" "I", .fieldLink RX5 37 "TailorChalks$Tailor" "wrongDoubts" "I"] ++ wsX50)
def wsX1_become_r1 : List Cond := [Cond.fieldLink RX1 12 "TailorChalks$Game" "cloth" "LTailorChalks$Cloth;", Cond.fieldLink RX1 21 "TailorChalks$Game" "tailorZero" "LTailorChalks$Tailor;", Cond.fieldLink RX1 25 "TailorChalks$Game" "tailorOne" "LTailorChalks$Tailor;", Cond.fieldLink RX1 35 "TailorChalks$Game" "next" "I", Cond.fieldLink RX1 39 "TailorChalks$Game" "turns" "I", Cond.methodLink RX1 28 yX0_become, Cond.instanceMethod yX0_become, Cond.selects RX0 yX0_become yX0_become, Cond.initialized RX0, Cond.code yX0_become cX0_become 3 none, Cond.fieldLink RX0 11 "TailorChalks$Cloth" "states" "[I", Cond.fieldLink RX0 15 "TailorChalks$Cloth" "makers" "[I", Cond.fieldLink RX0 22 "TailorChalks$Cloth" "gone" "J", Cond.fieldLink RX0 26 "TailorChalks$Cloth" "heldAcross" "J", Cond.fieldLink RX0 29 "TailorChalks$Cloth" "heldDown" "J", Cond.methodLink RX1 32 yX5_become, Cond.instanceMethod yX5_become, Cond.selects RX5 yX5_become yX5_become, Cond.initialized RX5, Cond.code yX5_become cX5_become 3 none, Cond.fieldLink RX5 11 "TailorChalks$Tailor" "marked" "[I", Cond.fieldLink RX5 19 "TailorChalks$Tailor" "marks" "I", Cond.fieldLink RX5 22 "TailorChalks$Tailor" "points" "I", Cond.fieldLink RX5 15 "TailorChalks$Tailor" "threads" "I"]
def wsX1_become_r2 : List Cond := [Cond.fieldLink RX5 25 "TailorChalks$Tailor" "rags" "I", Cond.fieldLink RX5 28 "TailorChalks$Tailor" "ragCells" "I", Cond.fieldLink RX5 31 "TailorChalks$Tailor" "found" "I", Cond.fieldLink RX5 34 "TailorChalks$Tailor" "rightDoubts" "I", Cond.fieldLink RX5 37 "TailorChalks$Tailor" "wrongDoubts" "I"]
def wsX1_become : List Cond := .code yX1_become cX1_become 2 none :: ((wsX1_become_r1 ++ wsX1_become_r2) ++ wsX10 ++ wsX00 ++ wsX50)
def wsX1_isPlayer : List Cond := .code yX1_isPlayer cX1_isPlayer 1 (some .boolean) :: ([])
def wsX1_tailorOf : List Cond := .code yX1_tailorOf cX1_tailorOf 2 (some (.object "TailorChalks$Tailor")) :: ([.fieldLink RX1 21 "TailorChalks$Game" "tailorZero" "LTailorChalks$Tailor;", .fieldLink RX1 25 "TailorChalks$Game" "tailorOne" "LTailorChalks$Tailor;"] ++ wsX10)
def wsX1_isOver : List Cond := .code yX1_isOver cX1_isOver 1 (some .boolean) :: ([.fieldLink RX1 39 "TailorChalks$Game" "turns" "I", .fieldLink RX1 12 "TailorChalks$Game" "cloth" "LTailorChalks$Cloth;", .methodLink RX1 42 yX0_cellsLeft, .instanceMethod yX0_cellsLeft, .selects RX0 yX0_cellsLeft yX0_cellsLeft, .initialized RX0, .code yX0_cellsLeft cX0_cellsLeft 1 (some .int), .fieldLink RX0 22 "TailorChalks$Cloth" "gone" "J", .methodLink RX0 47 yJ13_bitCount_95d88, .static yJ13_bitCount_95d88, .initialized RJ13, .code yJ13_bitCount_95d88 cJ13_bitCount_95d88 2 (some .int), .constantLong RJ13 314 (6148914691236517205), .constantLong RJ13 316 (3689348814741910323), .constantLong RJ13 318 (1085102592571150095)] ++ wsX10 ++ wsX00)
def wsX1_winner : List Cond := .code yX1_winner cX1_winner 1 (some .int) :: ([.fieldLink RX1 21 "TailorChalks$Game" "tailorZero" "LTailorChalks$Tailor;", .fieldLink RX1 50 "TailorChalks$Tailor" "points" "I", .fieldLink RX1 25 "TailorChalks$Game" "tailorOne" "LTailorChalks$Tailor;", .methodLink RX1 46 yX1_isOver, .instanceMethod yX1_isOver, .selects RX1 yX1_isOver yX1_isOver, .initialized RX1, .code yX1_isOver cX1_isOver 1 (some .boolean), .fieldLink RX1 39 "TailorChalks$Game" "turns" "I", .fieldLink RX1 12 "TailorChalks$Game" "cloth" "LTailorChalks$Cloth;", .methodLink RX1 42 yX0_cellsLeft, .instanceMethod yX0_cellsLeft, .selects RX0 yX0_cellsLeft yX0_cellsLeft, .initialized RX0, .code yX0_cellsLeft cX0_cellsLeft 1 (some .int), .fieldLink RX0 22 "TailorChalks$Cloth" "gone" "J", .methodLink RX0 47 yJ13_bitCount_95d88, .static yJ13_bitCount_95d88, .initialized RJ13, .code yJ13_bitCount_95d88 cJ13_bitCount_95d88 2 (some .int), .constantLong RJ13 314 (6148914691236517205), .constantLong RJ13 316 (3689348814741910323), .constantLong RJ13 318 (1085102592571150095)] ++ wsX10 ++ wsX50 ++ wsX00)
def wsX5_hasMark : List Cond := .code yX5_hasMark cX5_hasMark 3 (some .boolean) :: ([.fieldLink RX5 19 "TailorChalks$Tailor" "marks" "I", .fieldLink RX5 11 "TailorChalks$Tailor" "marked" "[I"] ++ wsX50)
def wsX1_chalkersOf : List Cond := .code yX1_chalkersOf cX1_chalkersOf 2 (some .int) :: ([.fieldLink RX1 21 "TailorChalks$Game" "tailorZero" "LTailorChalks$Tailor;", .fieldLink RX1 25 "TailorChalks$Game" "tailorOne" "LTailorChalks$Tailor;", .methodLink RX1 53 yX5_hasMark, .instanceMethod yX5_hasMark, .selects RX5 yX5_hasMark yX5_hasMark, .initialized RX5, .code yX5_hasMark cX5_hasMark 3 (some .boolean), .fieldLink RX5 19 "TailorChalks$Tailor" "marks" "I", .fieldLink RX5 11 "TailorChalks$Tailor" "marked" "[I"] ++ wsX10 ++ wsX50)
def wsX1_doubtableMaker_r1 : List Cond := [Cond.fieldLink RX1 12 "TailorChalks$Game" "cloth" "LTailorChalks$Cloth;", Cond.methodLink RX1 46 yX1_isOver, Cond.instanceMethod yX1_isOver, Cond.selects RX1 yX1_isOver yX1_isOver, Cond.initialized RX1, Cond.code yX1_isOver cX1_isOver 1 (some .boolean), Cond.fieldLink RX1 39 "TailorChalks$Game" "turns" "I", Cond.methodLink RX1 42 yX0_cellsLeft, Cond.instanceMethod yX0_cellsLeft, Cond.selects RX0 yX0_cellsLeft yX0_cellsLeft, Cond.initialized RX0, Cond.code yX0_cellsLeft cX0_cellsLeft 1 (some .int), Cond.fieldLink RX0 22 "TailorChalks$Cloth" "gone" "J", Cond.methodLink RX0 47 yJ13_bitCount_95d88, Cond.static yJ13_bitCount_95d88, Cond.initialized RJ13, Cond.code yJ13_bitCount_95d88 cJ13_bitCount_95d88 2 (some .int), Cond.constantLong RJ13 314 (6148914691236517205), Cond.constantLong RJ13 316 (3689348814741910323), Cond.constantLong RJ13 318 (1085102592571150095), Cond.methodLink RX1 57 yX0_isVoid, Cond.instanceMethod yX0_isVoid, Cond.selects RX0 yX0_isVoid yX0_isVoid, Cond.code yX0_isVoid cX0_isVoid 4 (some .boolean)]
def wsX1_doubtableMaker_r2 : List Cond := [Cond.methodLink RX0 36 yX0_isDown, Cond.static yX0_isDown, Cond.code yX0_isDown cX0_isDown 1 (some .boolean), Cond.methodLink RX0 32 yX0_firstCell, Cond.static yX0_firstCell, Cond.code yX0_firstCell cX0_firstCell 1 (some .int), Cond.methodLink RX0 43 yX0_has, Cond.static yX0_has, Cond.code yX0_has cX0_has 3 (some .boolean), Cond.methodLink RX1 60 yX0_makerOf, Cond.instanceMethod yX0_makerOf, Cond.selects RX0 yX0_makerOf yX0_makerOf, Cond.code yX0_makerOf cX0_makerOf 2 (some .int), Cond.fieldLink RX0 15 "TailorChalks$Cloth" "makers" "[I", Cond.methodLink RX0 40 yX0_isJoint, Cond.static yX0_isJoint, Cond.code yX0_isJoint cX0_isJoint 1 (some .boolean)]
def wsX1_doubtableMaker : List Cond := .code yX1_doubtableMaker cX1_doubtableMaker 2 (some .int) :: ((wsX1_doubtableMaker_r1 ++ wsX1_doubtableMaker_r2) ++ wsX10 ++ wsX00)
def wsX1_whyNoSnip_r1 : List Cond := [Cond.fieldLink RX1 12 "TailorChalks$Game" "cloth" "LTailorChalks$Cloth;", Cond.methodLink RX1 46 yX1_isOver, Cond.instanceMethod yX1_isOver, Cond.selects RX1 yX1_isOver yX1_isOver, Cond.initialized RX1, Cond.code yX1_isOver cX1_isOver 1 (some .boolean), Cond.fieldLink RX1 39 "TailorChalks$Game" "turns" "I", Cond.methodLink RX1 42 yX0_cellsLeft, Cond.instanceMethod yX0_cellsLeft, Cond.selects RX0 yX0_cellsLeft yX0_cellsLeft, Cond.initialized RX0, Cond.code yX0_cellsLeft cX0_cellsLeft 1 (some .int), Cond.fieldLink RX0 22 "TailorChalks$Cloth" "gone" "J", Cond.methodLink RX0 47 yJ13_bitCount_95d88, Cond.static yJ13_bitCount_95d88, Cond.initialized RJ13, Cond.code yJ13_bitCount_95d88 cJ13_bitCount_95d88 2 (some .int), Cond.constantLong RJ13 314 (6148914691236517205), Cond.constantLong RJ13 316 (3689348814741910323), Cond.constantLong RJ13 318 (1085102592571150095), Cond.methodLink RX1 57 yX0_isVoid, Cond.instanceMethod yX0_isVoid, Cond.selects RX0 yX0_isVoid yX0_isVoid, Cond.code yX0_isVoid cX0_isVoid 4 (some .boolean)]
def wsX1_whyNoSnip_r2 : List Cond := [Cond.methodLink RX0 36 yX0_isDown, Cond.static yX0_isDown, Cond.code yX0_isDown cX0_isDown 1 (some .boolean), Cond.methodLink RX0 32 yX0_firstCell, Cond.static yX0_firstCell, Cond.code yX0_firstCell cX0_firstCell 1 (some .int), Cond.methodLink RX0 43 yX0_has, Cond.static yX0_has, Cond.code yX0_has cX0_has 3 (some .boolean), Cond.methodLink RX1 64 yX0_stateOf, Cond.instanceMethod yX0_stateOf, Cond.selects RX0 yX0_stateOf yX0_stateOf, Cond.code yX0_stateOf cX0_stateOf 2 (some .int), Cond.fieldLink RX0 11 "TailorChalks$Cloth" "states" "[I", Cond.methodLink RX0 40 yX0_isJoint, Cond.static yX0_isJoint, Cond.code yX0_isJoint cX0_isJoint 1 (some .boolean)]
def wsX1_whyNoSnip : List Cond := .code yX1_whyNoSnip cX1_whyNoSnip 2 (some .int) :: ((wsX1_whyNoSnip_r1 ++ wsX1_whyNoSnip_r2) ++ wsX10 ++ wsX00)
def wsX1_endTurn : List Cond := .code yX1_endTurn cX1_endTurn 1 none :: ([.fieldLink RX1 39 "TailorChalks$Game" "turns" "I", .fieldLink RX1 35 "TailorChalks$Game" "next" "I"] ++ wsX10)
def wsX1_passOn_r1 : List Cond := [Cond.fieldLink RX1 35 "TailorChalks$Game" "next" "I", Cond.methodLink RX1 46 yX1_isOver, Cond.instanceMethod yX1_isOver, Cond.selects RX1 yX1_isOver yX1_isOver, Cond.initialized RX1, Cond.code yX1_isOver cX1_isOver 1 (some .boolean), Cond.fieldLink RX1 39 "TailorChalks$Game" "turns" "I", Cond.fieldLink RX1 12 "TailorChalks$Game" "cloth" "LTailorChalks$Cloth;", Cond.methodLink RX1 42 yX0_cellsLeft, Cond.instanceMethod yX0_cellsLeft, Cond.selects RX0 yX0_cellsLeft yX0_cellsLeft, Cond.initialized RX0, Cond.code yX0_cellsLeft cX0_cellsLeft 1 (some .int), Cond.fieldLink RX0 22 "TailorChalks$Cloth" "gone" "J", Cond.methodLink RX0 47 yJ13_bitCount_95d88, Cond.static yJ13_bitCount_95d88, Cond.initialized RJ13, Cond.code yJ13_bitCount_95d88 cJ13_bitCount_95d88 2 (some .int), Cond.constantLong RJ13 314 (6148914691236517205), Cond.constantLong RJ13 316 (3689348814741910323), Cond.constantLong RJ13 318 (1085102592571150095), Cond.methodLink RX1 88 yX1_endTurn, Cond.instanceMethod yX1_endTurn, Cond.selects RX1 yX1_endTurn yX1_endTurn]
def wsX1_passOn_r2 : List Cond := [Cond.code yX1_endTurn cX1_endTurn 1 none]
def wsX1_passOn : List Cond := .code yX1_passOn cX1_passOn 1 (some .int) :: ((wsX1_passOn_r1 ++ wsX1_passOn_r2) ++ wsX10 ++ wsX00)
def wsX5_addMark : List Cond := .code yX5_addMark cX5_addMark 2 (some .boolean) :: ([.fieldLink RX5 19 "TailorChalks$Tailor" "marks" "I", .fieldLink RX5 11 "TailorChalks$Tailor" "marked" "[I"] ++ wsX50)
def wsX1_markJoint_r1 : List Cond := [Cond.fieldLink RX1 35 "TailorChalks$Game" "next" "I", Cond.fieldLink RX1 12 "TailorChalks$Game" "cloth" "LTailorChalks$Cloth;", Cond.fieldLink RX1 101 "TailorChalks$Tailor" "marks" "I", Cond.methodLink RX1 91 yX1_tailorOf, Cond.instanceMethod yX1_tailorOf, Cond.selects RX1 yX1_tailorOf yX1_tailorOf, Cond.initialized RX1, Cond.code yX1_tailorOf cX1_tailorOf 2 (some (.object "TailorChalks$Tailor")), Cond.fieldLink RX1 21 "TailorChalks$Game" "tailorZero" "LTailorChalks$Tailor;", Cond.fieldLink RX1 25 "TailorChalks$Game" "tailorOne" "LTailorChalks$Tailor;", Cond.methodLink RX1 95 yX0_holds, Cond.instanceMethod yX0_holds, Cond.selects RX0 yX0_holds yX0_holds, Cond.initialized RX0, Cond.code yX0_holds cX0_holds 2 (some .boolean), Cond.fieldLink RX0 29 "TailorChalks$Cloth" "heldDown" "J", Cond.fieldLink RX0 26 "TailorChalks$Cloth" "heldAcross" "J", Cond.methodLink RX0 36 yX0_isDown, Cond.static yX0_isDown, Cond.code yX0_isDown cX0_isDown 1 (some .boolean), Cond.methodLink RX0 32 yX0_firstCell, Cond.static yX0_firstCell, Cond.code yX0_firstCell cX0_firstCell 1 (some .int), Cond.methodLink RX0 43 yX0_has]
def wsX1_markJoint_r2 : List Cond := [Cond.static yX0_has, Cond.code yX0_has cX0_has 3 (some .boolean), Cond.methodLink RX1 53 yX5_hasMark, Cond.instanceMethod yX5_hasMark, Cond.selects RX5 yX5_hasMark yX5_hasMark, Cond.initialized RX5, Cond.code yX5_hasMark cX5_hasMark 3 (some .boolean), Cond.fieldLink RX5 19 "TailorChalks$Tailor" "marks" "I", Cond.fieldLink RX5 11 "TailorChalks$Tailor" "marked" "[I", Cond.methodLink RX1 98 yX5_addMark, Cond.instanceMethod yX5_addMark, Cond.selects RX5 yX5_addMark yX5_addMark, Cond.code yX5_addMark cX5_addMark 2 (some .boolean), Cond.methodLink RX1 88 yX1_endTurn, Cond.instanceMethod yX1_endTurn, Cond.selects RX1 yX1_endTurn yX1_endTurn, Cond.code yX1_endTurn cX1_endTurn 1 none, Cond.fieldLink RX1 39 "TailorChalks$Game" "turns" "I"]
def wsX1_markJoint : List Cond := .code yX1_markJoint cX1_markJoint 3 (some .int) :: ((wsX1_markJoint_r1 ++ wsX1_markJoint_r2) ++ wsX10 ++ wsX50 ++ wsX00)
def wsX5_dropMark : List Cond := .code yX5_dropMark cX5_dropMark 4 none :: ([.fieldLink RX5 19 "TailorChalks$Tailor" "marks" "I", .fieldLink RX5 11 "TailorChalks$Tailor" "marked" "[I"] ++ wsX50)
def wsX1_dropMarks : List Cond := .code yX1_dropMarks cX1_dropMarks 2 none :: ([.fieldLink RX1 21 "TailorChalks$Game" "tailorZero" "LTailorChalks$Tailor;", .fieldLink RX1 25 "TailorChalks$Game" "tailorOne" "LTailorChalks$Tailor;", .methodLink RX1 135 yX5_dropMark, .instanceMethod yX5_dropMark, .selects RX5 yX5_dropMark yX5_dropMark, .initialized RX5, .code yX5_dropMark cX5_dropMark 4 none, .fieldLink RX5 19 "TailorChalks$Tailor" "marks" "I", .fieldLink RX5 11 "TailorChalks$Tailor" "marked" "[I"] ++ wsX10 ++ wsX50)
def wsX1_findChalk_r1 : List Cond := [Cond.fieldLink RX1 35 "TailorChalks$Game" "next" "I", Cond.fieldLink RX1 50 "TailorChalks$Tailor" "points" "I", Cond.fieldLink RX1 129 "TailorChalks$Tailor" "found" "I", Cond.methodLink RX1 91 yX1_tailorOf, Cond.instanceMethod yX1_tailorOf, Cond.selects RX1 yX1_tailorOf yX1_tailorOf, Cond.initialized RX1, Cond.code yX1_tailorOf cX1_tailorOf 2 (some (.object "TailorChalks$Tailor")), Cond.fieldLink RX1 21 "TailorChalks$Game" "tailorZero" "LTailorChalks$Tailor;", Cond.fieldLink RX1 25 "TailorChalks$Game" "tailorOne" "LTailorChalks$Tailor;", Cond.methodLink RX1 53 yX5_hasMark, Cond.instanceMethod yX5_hasMark, Cond.selects RX5 yX5_hasMark yX5_hasMark, Cond.initialized RX5, Cond.code yX5_hasMark cX5_hasMark 3 (some .boolean), Cond.fieldLink RX5 19 "TailorChalks$Tailor" "marks" "I", Cond.fieldLink RX5 11 "TailorChalks$Tailor" "marked" "[I", Cond.methodLink RX1 132 yX1_dropMarks, Cond.instanceMethod yX1_dropMarks, Cond.selects RX1 yX1_dropMarks yX1_dropMarks, Cond.code yX1_dropMarks cX1_dropMarks 2 none, Cond.methodLink RX1 135 yX5_dropMark, Cond.instanceMethod yX5_dropMark, Cond.selects RX5 yX5_dropMark yX5_dropMark]
def wsX1_findChalk_r2 : List Cond := [Cond.code yX5_dropMark cX5_dropMark 4 none]
def wsX1_findChalk : List Cond := .code yX1_findChalk cX1_findChalk 4 none :: ((wsX1_findChalk_r1 ++ wsX1_findChalk_r2) ++ wsX10 ++ wsX50)
def wsX5_winRag : List Cond := .code yX5_winRag cX5_winRag 2 none :: ([.fieldLink RX5 25 "TailorChalks$Tailor" "rags" "I", .fieldLink RX5 28 "TailorChalks$Tailor" "ragCells" "I", .fieldLink RX5 22 "TailorChalks$Tailor" "points" "I"] ++ wsX50)
def wsX1_loseRag_r1 : List Cond := [Cond.fieldLink RX1 12 "TailorChalks$Game" "cloth" "LTailorChalks$Cloth;", Cond.fieldLink RX1 35 "TailorChalks$Game" "next" "I", Cond.methodLink RX1 138 yX0_tearOff, Cond.instanceMethod yX0_tearOff, Cond.selects RX0 yX0_tearOff yX0_tearOff, Cond.initialized RX0, Cond.code yX0_tearOff cX0_tearOff 3 none, Cond.fieldLink RX0 22 "TailorChalks$Cloth" "gone" "J", Cond.fieldLink RX0 26 "TailorChalks$Cloth" "heldAcross" "J", Cond.constantLong RX0 53 (-1), Cond.fieldLink RX0 29 "TailorChalks$Cloth" "heldDown" "J", Cond.methodLink RX1 91 yX1_tailorOf, Cond.instanceMethod yX1_tailorOf, Cond.selects RX1 yX1_tailorOf yX1_tailorOf, Cond.initialized RX1, Cond.code yX1_tailorOf cX1_tailorOf 2 (some (.object "TailorChalks$Tailor")), Cond.fieldLink RX1 21 "TailorChalks$Game" "tailorZero" "LTailorChalks$Tailor;", Cond.fieldLink RX1 25 "TailorChalks$Game" "tailorOne" "LTailorChalks$Tailor;", Cond.methodLink RX1 123 yJ13_bitCount_95d88, Cond.static yJ13_bitCount_95d88, Cond.initialized RJ13, Cond.code yJ13_bitCount_95d88 cJ13_bitCount_95d88 2 (some .int), Cond.constantLong RJ13 314 (6148914691236517205), Cond.constantLong RJ13 316 (3689348814741910323)]
def wsX1_loseRag_r2 : List Cond := [Cond.constantLong RJ13 318 (1085102592571150095), Cond.methodLink RX1 141 yX5_winRag, Cond.instanceMethod yX5_winRag, Cond.selects RX5 yX5_winRag yX5_winRag, Cond.initialized RX5, Cond.code yX5_winRag cX5_winRag 2 none, Cond.fieldLink RX5 25 "TailorChalks$Tailor" "rags" "I", Cond.fieldLink RX5 28 "TailorChalks$Tailor" "ragCells" "I", Cond.fieldLink RX5 22 "TailorChalks$Tailor" "points" "I", Cond.methodLink RX1 57 yX0_isVoid, Cond.instanceMethod yX0_isVoid, Cond.selects RX0 yX0_isVoid yX0_isVoid, Cond.code yX0_isVoid cX0_isVoid 4 (some .boolean), Cond.methodLink RX0 36 yX0_isDown, Cond.static yX0_isDown, Cond.code yX0_isDown cX0_isDown 1 (some .boolean), Cond.methodLink RX0 32 yX0_firstCell, Cond.static yX0_firstCell, Cond.code yX0_firstCell cX0_firstCell 1 (some .int), Cond.methodLink RX0 43 yX0_has, Cond.static yX0_has, Cond.code yX0_has cX0_has 3 (some .boolean), Cond.methodLink RX1 132 yX1_dropMarks, Cond.instanceMethod yX1_dropMarks]
def wsX1_loseRag_r3 : List Cond := [Cond.selects RX1 yX1_dropMarks yX1_dropMarks, Cond.code yX1_dropMarks cX1_dropMarks 2 none, Cond.methodLink RX1 135 yX5_dropMark, Cond.instanceMethod yX5_dropMark, Cond.selects RX5 yX5_dropMark yX5_dropMark, Cond.code yX5_dropMark cX5_dropMark 4 none, Cond.fieldLink RX5 19 "TailorChalks$Tailor" "marks" "I", Cond.fieldLink RX5 11 "TailorChalks$Tailor" "marked" "[I"]
def wsX1_loseRag : List Cond := .code yX1_loseRag cX1_loseRag 4 none :: ((wsX1_loseRag_r1 ++ (wsX1_loseRag_r2 ++ wsX1_loseRag_r3)) ++ wsX10 ++ wsX00 ++ wsX50)
def wsX1_snipJoint_r1 : List Cond := [Cond.fieldLink RX1 12 "TailorChalks$Game" "cloth" "LTailorChalks$Cloth;", Cond.methodLink RX1 104 yX1_whyNoSnip, Cond.instanceMethod yX1_whyNoSnip, Cond.selects RX1 yX1_whyNoSnip yX1_whyNoSnip, Cond.initialized RX1, Cond.code yX1_whyNoSnip cX1_whyNoSnip 2 (some .int), Cond.methodLink RX1 46 yX1_isOver, Cond.instanceMethod yX1_isOver, Cond.selects RX1 yX1_isOver yX1_isOver, Cond.code yX1_isOver cX1_isOver 1 (some .boolean), Cond.fieldLink RX1 39 "TailorChalks$Game" "turns" "I", Cond.methodLink RX1 42 yX0_cellsLeft, Cond.instanceMethod yX0_cellsLeft, Cond.selects RX0 yX0_cellsLeft yX0_cellsLeft, Cond.initialized RX0, Cond.code yX0_cellsLeft cX0_cellsLeft 1 (some .int), Cond.fieldLink RX0 22 "TailorChalks$Cloth" "gone" "J", Cond.methodLink RX0 47 yJ13_bitCount_95d88, Cond.static yJ13_bitCount_95d88, Cond.initialized RJ13, Cond.code yJ13_bitCount_95d88 cJ13_bitCount_95d88 2 (some .int), Cond.constantLong RJ13 314 (6148914691236517205), Cond.constantLong RJ13 316 (3689348814741910323), Cond.constantLong RJ13 318 (1085102592571150095)]
def wsX1_snipJoint_r2 : List Cond := [Cond.methodLink RX1 57 yX0_isVoid, Cond.instanceMethod yX0_isVoid, Cond.selects RX0 yX0_isVoid yX0_isVoid, Cond.code yX0_isVoid cX0_isVoid 4 (some .boolean), Cond.methodLink RX0 36 yX0_isDown, Cond.static yX0_isDown, Cond.code yX0_isDown cX0_isDown 1 (some .boolean), Cond.methodLink RX0 32 yX0_firstCell, Cond.static yX0_firstCell, Cond.code yX0_firstCell cX0_firstCell 1 (some .int), Cond.methodLink RX0 43 yX0_has, Cond.static yX0_has, Cond.code yX0_has cX0_has 3 (some .boolean), Cond.methodLink RX1 64 yX0_stateOf, Cond.instanceMethod yX0_stateOf, Cond.selects RX0 yX0_stateOf yX0_stateOf, Cond.code yX0_stateOf cX0_stateOf 2 (some .int), Cond.fieldLink RX0 11 "TailorChalks$Cloth" "states" "[I", Cond.methodLink RX0 40 yX0_isJoint, Cond.static yX0_isJoint, Cond.code yX0_isJoint cX0_isJoint 1 (some .boolean), Cond.methodLink RX1 107 yX1_findChalk, Cond.instanceMethod yX1_findChalk, Cond.selects RX1 yX1_findChalk yX1_findChalk]
def wsX1_snipJoint_r3 : List Cond := [Cond.code yX1_findChalk cX1_findChalk 4 none, Cond.fieldLink RX1 35 "TailorChalks$Game" "next" "I", Cond.fieldLink RX1 50 "TailorChalks$Tailor" "points" "I", Cond.fieldLink RX1 129 "TailorChalks$Tailor" "found" "I", Cond.methodLink RX1 91 yX1_tailorOf, Cond.instanceMethod yX1_tailorOf, Cond.selects RX1 yX1_tailorOf yX1_tailorOf, Cond.code yX1_tailorOf cX1_tailorOf 2 (some (.object "TailorChalks$Tailor")), Cond.fieldLink RX1 21 "TailorChalks$Game" "tailorZero" "LTailorChalks$Tailor;", Cond.fieldLink RX1 25 "TailorChalks$Game" "tailorOne" "LTailorChalks$Tailor;", Cond.methodLink RX1 53 yX5_hasMark, Cond.instanceMethod yX5_hasMark, Cond.selects RX5 yX5_hasMark yX5_hasMark, Cond.initialized RX5, Cond.code yX5_hasMark cX5_hasMark 3 (some .boolean), Cond.fieldLink RX5 19 "TailorChalks$Tailor" "marks" "I", Cond.fieldLink RX5 11 "TailorChalks$Tailor" "marked" "[I", Cond.methodLink RX1 132 yX1_dropMarks, Cond.instanceMethod yX1_dropMarks, Cond.selects RX1 yX1_dropMarks yX1_dropMarks, Cond.code yX1_dropMarks cX1_dropMarks 2 none, Cond.methodLink RX1 135 yX5_dropMark, Cond.instanceMethod yX5_dropMark, Cond.selects RX5 yX5_dropMark yX5_dropMark]
def wsX1_snipJoint_r4 : List Cond := [Cond.code yX5_dropMark cX5_dropMark 4 none, Cond.methodLink RX1 111 yX0_ragOf, Cond.instanceMethod yX0_ragOf, Cond.selects RX0 yX0_ragOf yX0_ragOf, Cond.code yX0_ragOf cX0_ragOf 14 (some .long), Cond.fieldLink RX0 26 "TailorChalks$Cloth" "heldAcross" "J", Cond.constantLong RX0 53 (-1), Cond.fieldLink RX0 29 "TailorChalks$Cloth" "heldDown" "J", Cond.methodLink RX0 67 yX0_spread, Cond.static yX0_spread, Cond.code yX0_spread cX0_spread 14 (some .long), Cond.methodLink RX0 61 yX0_secondCell, Cond.static yX0_secondCell, Cond.code yX0_secondCell cX0_secondCell 1 (some .int), Cond.methodLink RX1 115 yX0_make, Cond.instanceMethod yX0_make, Cond.selects RX0 yX0_make yX0_make, Cond.code yX0_make cX0_make 8 none, Cond.fieldLink RX0 15 "TailorChalks$Cloth" "makers" "[I", Cond.methodLink RX1 119 yX1_loseRag, Cond.instanceMethod yX1_loseRag, Cond.selects RX1 yX1_loseRag yX1_loseRag, Cond.code yX1_loseRag cX1_loseRag 4 none, Cond.methodLink RX1 138 yX0_tearOff]
def wsX1_snipJoint_r5 : List Cond := [Cond.instanceMethod yX0_tearOff, Cond.selects RX0 yX0_tearOff yX0_tearOff, Cond.code yX0_tearOff cX0_tearOff 3 none, Cond.methodLink RX1 123 yJ13_bitCount_95d88, Cond.methodLink RX1 141 yX5_winRag, Cond.instanceMethod yX5_winRag, Cond.selects RX5 yX5_winRag yX5_winRag, Cond.code yX5_winRag cX5_winRag 2 none, Cond.fieldLink RX5 25 "TailorChalks$Tailor" "rags" "I", Cond.fieldLink RX5 28 "TailorChalks$Tailor" "ragCells" "I", Cond.fieldLink RX5 22 "TailorChalks$Tailor" "points" "I", Cond.methodLink RX1 88 yX1_endTurn, Cond.instanceMethod yX1_endTurn, Cond.selects RX1 yX1_endTurn yX1_endTurn, Cond.code yX1_endTurn cX1_endTurn 1 none]
def wsX1_snipJoint : List Cond := .code yX1_snipJoint cX1_snipJoint 4 (some .int) :: ((wsX1_snipJoint_r1 ++ (wsX1_snipJoint_r2 ++ (wsX1_snipJoint_r3 ++ (wsX1_snipJoint_r4 ++ wsX1_snipJoint_r5)))) ++ wsX10 ++ wsX00 ++ wsX50)
def wsX1_sewJoint_r1 : List Cond := [Cond.fieldLink RX1 35 "TailorChalks$Game" "next" "I", Cond.fieldLink RX1 12 "TailorChalks$Game" "cloth" "LTailorChalks$Cloth;", Cond.fieldLink RX1 144 "TailorChalks$Tailor" "threads" "I", Cond.methodLink RX1 91 yX1_tailorOf, Cond.instanceMethod yX1_tailorOf, Cond.selects RX1 yX1_tailorOf yX1_tailorOf, Cond.initialized RX1, Cond.code yX1_tailorOf cX1_tailorOf 2 (some (.object "TailorChalks$Tailor")), Cond.fieldLink RX1 21 "TailorChalks$Game" "tailorZero" "LTailorChalks$Tailor;", Cond.fieldLink RX1 25 "TailorChalks$Game" "tailorOne" "LTailorChalks$Tailor;", Cond.methodLink RX1 64 yX0_stateOf, Cond.instanceMethod yX0_stateOf, Cond.selects RX0 yX0_stateOf yX0_stateOf, Cond.initialized RX0, Cond.code yX0_stateOf cX0_stateOf 2 (some .int), Cond.fieldLink RX0 11 "TailorChalks$Cloth" "states" "[I", Cond.methodLink RX0 40 yX0_isJoint, Cond.static yX0_isJoint, Cond.code yX0_isJoint cX0_isJoint 1 (some .boolean), Cond.methodLink RX1 115 yX0_make, Cond.instanceMethod yX0_make, Cond.selects RX0 yX0_make yX0_make, Cond.code yX0_make cX0_make 8 none, Cond.fieldLink RX0 15 "TailorChalks$Cloth" "makers" "[I"]
def wsX1_sewJoint_r2 : List Cond := [Cond.fieldLink RX0 29 "TailorChalks$Cloth" "heldDown" "J", Cond.constantLong RX0 53 (-1), Cond.fieldLink RX0 26 "TailorChalks$Cloth" "heldAcross" "J", Cond.methodLink RX0 32 yX0_firstCell, Cond.static yX0_firstCell, Cond.code yX0_firstCell cX0_firstCell 1 (some .int), Cond.methodLink RX0 36 yX0_isDown, Cond.static yX0_isDown, Cond.code yX0_isDown cX0_isDown 1 (some .boolean), Cond.methodLink RX1 88 yX1_endTurn, Cond.instanceMethod yX1_endTurn, Cond.selects RX1 yX1_endTurn yX1_endTurn, Cond.code yX1_endTurn cX1_endTurn 1 none, Cond.fieldLink RX1 39 "TailorChalks$Game" "turns" "I"]
def wsX1_sewJoint : List Cond := .code yX1_sewJoint cX1_sewJoint 3 (some .int) :: ((wsX1_sewJoint_r1 ++ wsX1_sewJoint_r2) ++ wsX10 ++ wsX50 ++ wsX00)
def wsX1_bluffJoint_r1 : List Cond := [Cond.fieldLink RX1 12 "TailorChalks$Game" "cloth" "LTailorChalks$Cloth;", Cond.fieldLink RX1 35 "TailorChalks$Game" "next" "I", Cond.methodLink RX1 64 yX0_stateOf, Cond.instanceMethod yX0_stateOf, Cond.selects RX0 yX0_stateOf yX0_stateOf, Cond.initialized RX0, Cond.code yX0_stateOf cX0_stateOf 2 (some .int), Cond.fieldLink RX0 11 "TailorChalks$Cloth" "states" "[I", Cond.methodLink RX0 40 yX0_isJoint, Cond.static yX0_isJoint, Cond.code yX0_isJoint cX0_isJoint 1 (some .boolean), Cond.methodLink RX1 115 yX0_make, Cond.instanceMethod yX0_make, Cond.selects RX0 yX0_make yX0_make, Cond.code yX0_make cX0_make 8 none, Cond.fieldLink RX0 15 "TailorChalks$Cloth" "makers" "[I", Cond.fieldLink RX0 29 "TailorChalks$Cloth" "heldDown" "J", Cond.constantLong RX0 53 (-1), Cond.fieldLink RX0 26 "TailorChalks$Cloth" "heldAcross" "J", Cond.methodLink RX0 32 yX0_firstCell, Cond.static yX0_firstCell, Cond.code yX0_firstCell cX0_firstCell 1 (some .int), Cond.methodLink RX0 36 yX0_isDown, Cond.static yX0_isDown]
def wsX1_bluffJoint_r2 : List Cond := [Cond.code yX0_isDown cX0_isDown 1 (some .boolean), Cond.methodLink RX1 88 yX1_endTurn, Cond.instanceMethod yX1_endTurn, Cond.selects RX1 yX1_endTurn yX1_endTurn, Cond.initialized RX1, Cond.code yX1_endTurn cX1_endTurn 1 none, Cond.fieldLink RX1 39 "TailorChalks$Game" "turns" "I", Cond.methodLink RX1 147 yX0_jointsThatAre, Cond.instanceMethod yX0_jointsThatAre, Cond.selects RX0 yX0_jointsThatAre yX0_jointsThatAre, Cond.code yX0_jointsThatAre cX0_jointsThatAre 4 (some .int), Cond.methodLink RX0 55 yX0_isVoid, Cond.instanceMethod yX0_isVoid, Cond.selects RX0 yX0_isVoid yX0_isVoid, Cond.code yX0_isVoid cX0_isVoid 4 (some .boolean), Cond.fieldLink RX0 22 "TailorChalks$Cloth" "gone" "J", Cond.methodLink RX0 43 yX0_has, Cond.static yX0_has, Cond.code yX0_has cX0_has 3 (some .boolean)]
def wsX1_bluffJoint : List Cond := .code yX1_bluffJoint cX1_bluffJoint 2 (some .int) :: ((wsX1_bluffJoint_r1 ++ wsX1_bluffJoint_r2) ++ wsX10 ++ wsX00)
def wsX1_doubtJoint_r1 : List Cond := [Cond.fieldLink RX1 12 "TailorChalks$Game" "cloth" "LTailorChalks$Cloth;", Cond.fieldLink RX1 35 "TailorChalks$Game" "next" "I", Cond.fieldLink RX1 50 "TailorChalks$Tailor" "points" "I", Cond.fieldLink RX1 150 "TailorChalks$Tailor" "rightDoubts" "I", Cond.fieldLink RX1 153 "TailorChalks$Tailor" "wrongDoubts" "I", Cond.methodLink RX1 60 yX0_makerOf, Cond.instanceMethod yX0_makerOf, Cond.selects RX0 yX0_makerOf yX0_makerOf, Cond.initialized RX0, Cond.code yX0_makerOf cX0_makerOf 2 (some .int), Cond.fieldLink RX0 15 "TailorChalks$Cloth" "makers" "[I", Cond.methodLink RX0 40 yX0_isJoint, Cond.static yX0_isJoint, Cond.code yX0_isJoint cX0_isJoint 1 (some .boolean), Cond.methodLink RX1 64 yX0_stateOf, Cond.instanceMethod yX0_stateOf, Cond.selects RX0 yX0_stateOf yX0_stateOf, Cond.code yX0_stateOf cX0_stateOf 2 (some .int), Cond.fieldLink RX0 11 "TailorChalks$Cloth" "states" "[I", Cond.methodLink RX1 91 yX1_tailorOf, Cond.instanceMethod yX1_tailorOf, Cond.selects RX1 yX1_tailorOf yX1_tailorOf, Cond.initialized RX1, Cond.code yX1_tailorOf cX1_tailorOf 2 (some (.object "TailorChalks$Tailor"))]
def wsX1_doubtJoint_r2 : List Cond := [Cond.fieldLink RX1 21 "TailorChalks$Game" "tailorZero" "LTailorChalks$Tailor;", Cond.fieldLink RX1 25 "TailorChalks$Game" "tailorOne" "LTailorChalks$Tailor;", Cond.methodLink RX1 115 yX0_make, Cond.instanceMethod yX0_make, Cond.selects RX0 yX0_make yX0_make, Cond.code yX0_make cX0_make 8 none, Cond.fieldLink RX0 29 "TailorChalks$Cloth" "heldDown" "J", Cond.constantLong RX0 53 (-1), Cond.fieldLink RX0 26 "TailorChalks$Cloth" "heldAcross" "J", Cond.methodLink RX0 32 yX0_firstCell, Cond.static yX0_firstCell, Cond.code yX0_firstCell cX0_firstCell 1 (some .int), Cond.methodLink RX0 36 yX0_isDown, Cond.static yX0_isDown, Cond.code yX0_isDown cX0_isDown 1 (some .boolean), Cond.methodLink RX1 88 yX1_endTurn, Cond.instanceMethod yX1_endTurn, Cond.selects RX1 yX1_endTurn yX1_endTurn, Cond.code yX1_endTurn cX1_endTurn 1 none, Cond.fieldLink RX1 39 "TailorChalks$Game" "turns" "I"]
def wsX1_doubtJoint : List Cond := .code yX1_doubtJoint cX1_doubtJoint 4 (some .int) :: ((wsX1_doubtJoint_r1 ++ wsX1_doubtJoint_r2) ++ wsX10 ++ wsX50 ++ wsX00)
def wsX1_obey_r1 : List Cond := [Cond.fieldLink RX1 12 "TailorChalks$Game" "cloth" "LTailorChalks$Cloth;", Cond.methodLink RX1 67 yX1_passOn, Cond.instanceMethod yX1_passOn, Cond.selects RX1 yX1_passOn yX1_passOn, Cond.initialized RX1, Cond.code yX1_passOn cX1_passOn 1 (some .int), Cond.fieldLink RX1 35 "TailorChalks$Game" "next" "I", Cond.methodLink RX1 46 yX1_isOver, Cond.instanceMethod yX1_isOver, Cond.selects RX1 yX1_isOver yX1_isOver, Cond.code yX1_isOver cX1_isOver 1 (some .boolean), Cond.fieldLink RX1 39 "TailorChalks$Game" "turns" "I", Cond.methodLink RX1 42 yX0_cellsLeft, Cond.instanceMethod yX0_cellsLeft, Cond.selects RX0 yX0_cellsLeft yX0_cellsLeft, Cond.initialized RX0, Cond.code yX0_cellsLeft cX0_cellsLeft 1 (some .int), Cond.fieldLink RX0 22 "TailorChalks$Cloth" "gone" "J", Cond.methodLink RX0 47 yJ13_bitCount_95d88, Cond.static yJ13_bitCount_95d88, Cond.initialized RJ13, Cond.code yJ13_bitCount_95d88 cJ13_bitCount_95d88 2 (some .int), Cond.constantLong RJ13 314 (6148914691236517205), Cond.constantLong RJ13 316 (3689348814741910323)]
def wsX1_obey_r2 : List Cond := [Cond.constantLong RJ13 318 (1085102592571150095), Cond.methodLink RX1 88 yX1_endTurn, Cond.instanceMethod yX1_endTurn, Cond.selects RX1 yX1_endTurn yX1_endTurn, Cond.code yX1_endTurn cX1_endTurn 1 none, Cond.methodLink RX1 70 yX0_isJoint, Cond.static yX0_isJoint, Cond.code yX0_isJoint cX0_isJoint 1 (some .boolean), Cond.methodLink RX1 57 yX0_isVoid, Cond.instanceMethod yX0_isVoid, Cond.selects RX0 yX0_isVoid yX0_isVoid, Cond.code yX0_isVoid cX0_isVoid 4 (some .boolean), Cond.methodLink RX0 36 yX0_isDown, Cond.static yX0_isDown, Cond.code yX0_isDown cX0_isDown 1 (some .boolean), Cond.methodLink RX0 32 yX0_firstCell, Cond.static yX0_firstCell, Cond.code yX0_firstCell cX0_firstCell 1 (some .int), Cond.methodLink RX0 43 yX0_has, Cond.static yX0_has, Cond.code yX0_has cX0_has 3 (some .boolean), Cond.methodLink RX1 73 yX1_markJoint, Cond.instanceMethod yX1_markJoint, Cond.selects RX1 yX1_markJoint yX1_markJoint]
def wsX1_obey_r3 : List Cond := [Cond.code yX1_markJoint cX1_markJoint 3 (some .int), Cond.fieldLink RX1 101 "TailorChalks$Tailor" "marks" "I", Cond.methodLink RX1 91 yX1_tailorOf, Cond.instanceMethod yX1_tailorOf, Cond.selects RX1 yX1_tailorOf yX1_tailorOf, Cond.code yX1_tailorOf cX1_tailorOf 2 (some (.object "TailorChalks$Tailor")), Cond.fieldLink RX1 21 "TailorChalks$Game" "tailorZero" "LTailorChalks$Tailor;", Cond.fieldLink RX1 25 "TailorChalks$Game" "tailorOne" "LTailorChalks$Tailor;", Cond.methodLink RX1 95 yX0_holds, Cond.instanceMethod yX0_holds, Cond.selects RX0 yX0_holds yX0_holds, Cond.code yX0_holds cX0_holds 2 (some .boolean), Cond.fieldLink RX0 29 "TailorChalks$Cloth" "heldDown" "J", Cond.fieldLink RX0 26 "TailorChalks$Cloth" "heldAcross" "J", Cond.methodLink RX1 53 yX5_hasMark, Cond.instanceMethod yX5_hasMark, Cond.selects RX5 yX5_hasMark yX5_hasMark, Cond.initialized RX5, Cond.code yX5_hasMark cX5_hasMark 3 (some .boolean), Cond.fieldLink RX5 19 "TailorChalks$Tailor" "marks" "I", Cond.fieldLink RX5 11 "TailorChalks$Tailor" "marked" "[I", Cond.methodLink RX1 98 yX5_addMark, Cond.instanceMethod yX5_addMark, Cond.selects RX5 yX5_addMark yX5_addMark]
def wsX1_obey_r4 : List Cond := [Cond.code yX5_addMark cX5_addMark 2 (some .boolean), Cond.methodLink RX1 76 yX1_snipJoint, Cond.instanceMethod yX1_snipJoint, Cond.selects RX1 yX1_snipJoint yX1_snipJoint, Cond.code yX1_snipJoint cX1_snipJoint 4 (some .int), Cond.methodLink RX1 104 yX1_whyNoSnip, Cond.instanceMethod yX1_whyNoSnip, Cond.selects RX1 yX1_whyNoSnip yX1_whyNoSnip, Cond.code yX1_whyNoSnip cX1_whyNoSnip 2 (some .int), Cond.methodLink RX1 64 yX0_stateOf, Cond.instanceMethod yX0_stateOf, Cond.selects RX0 yX0_stateOf yX0_stateOf, Cond.code yX0_stateOf cX0_stateOf 2 (some .int), Cond.fieldLink RX0 11 "TailorChalks$Cloth" "states" "[I", Cond.methodLink RX0 40 yX0_isJoint, Cond.methodLink RX1 107 yX1_findChalk, Cond.instanceMethod yX1_findChalk, Cond.selects RX1 yX1_findChalk yX1_findChalk, Cond.code yX1_findChalk cX1_findChalk 4 none, Cond.fieldLink RX1 50 "TailorChalks$Tailor" "points" "I", Cond.fieldLink RX1 129 "TailorChalks$Tailor" "found" "I", Cond.methodLink RX1 132 yX1_dropMarks, Cond.instanceMethod yX1_dropMarks, Cond.selects RX1 yX1_dropMarks yX1_dropMarks]
def wsX1_obey_r5 : List Cond := [Cond.code yX1_dropMarks cX1_dropMarks 2 none, Cond.methodLink RX1 135 yX5_dropMark, Cond.instanceMethod yX5_dropMark, Cond.selects RX5 yX5_dropMark yX5_dropMark, Cond.code yX5_dropMark cX5_dropMark 4 none, Cond.methodLink RX1 111 yX0_ragOf, Cond.instanceMethod yX0_ragOf, Cond.selects RX0 yX0_ragOf yX0_ragOf, Cond.code yX0_ragOf cX0_ragOf 14 (some .long), Cond.constantLong RX0 53 (-1), Cond.methodLink RX0 67 yX0_spread, Cond.static yX0_spread, Cond.code yX0_spread cX0_spread 14 (some .long), Cond.methodLink RX0 61 yX0_secondCell, Cond.static yX0_secondCell, Cond.code yX0_secondCell cX0_secondCell 1 (some .int), Cond.methodLink RX1 115 yX0_make, Cond.instanceMethod yX0_make, Cond.selects RX0 yX0_make yX0_make, Cond.code yX0_make cX0_make 8 none, Cond.fieldLink RX0 15 "TailorChalks$Cloth" "makers" "[I", Cond.methodLink RX1 119 yX1_loseRag, Cond.instanceMethod yX1_loseRag, Cond.selects RX1 yX1_loseRag yX1_loseRag]
def wsX1_obey_r6 : List Cond := [Cond.code yX1_loseRag cX1_loseRag 4 none, Cond.methodLink RX1 138 yX0_tearOff, Cond.instanceMethod yX0_tearOff, Cond.selects RX0 yX0_tearOff yX0_tearOff, Cond.code yX0_tearOff cX0_tearOff 3 none, Cond.methodLink RX1 123 yJ13_bitCount_95d88, Cond.methodLink RX1 141 yX5_winRag, Cond.instanceMethod yX5_winRag, Cond.selects RX5 yX5_winRag yX5_winRag, Cond.code yX5_winRag cX5_winRag 2 none, Cond.fieldLink RX5 25 "TailorChalks$Tailor" "rags" "I", Cond.fieldLink RX5 28 "TailorChalks$Tailor" "ragCells" "I", Cond.fieldLink RX5 22 "TailorChalks$Tailor" "points" "I", Cond.methodLink RX1 79 yX1_sewJoint, Cond.instanceMethod yX1_sewJoint, Cond.selects RX1 yX1_sewJoint yX1_sewJoint, Cond.code yX1_sewJoint cX1_sewJoint 3 (some .int), Cond.fieldLink RX1 144 "TailorChalks$Tailor" "threads" "I", Cond.methodLink RX1 82 yX1_bluffJoint, Cond.instanceMethod yX1_bluffJoint, Cond.selects RX1 yX1_bluffJoint yX1_bluffJoint, Cond.code yX1_bluffJoint cX1_bluffJoint 2 (some .int), Cond.methodLink RX1 147 yX0_jointsThatAre, Cond.instanceMethod yX0_jointsThatAre]
def wsX1_obey_r7 : List Cond := [Cond.selects RX0 yX0_jointsThatAre yX0_jointsThatAre, Cond.code yX0_jointsThatAre cX0_jointsThatAre 4 (some .int), Cond.methodLink RX0 55 yX0_isVoid, Cond.methodLink RX1 85 yX1_doubtJoint, Cond.instanceMethod yX1_doubtJoint, Cond.selects RX1 yX1_doubtJoint yX1_doubtJoint, Cond.code yX1_doubtJoint cX1_doubtJoint 4 (some .int), Cond.fieldLink RX1 150 "TailorChalks$Tailor" "rightDoubts" "I", Cond.fieldLink RX1 153 "TailorChalks$Tailor" "wrongDoubts" "I", Cond.methodLink RX1 60 yX0_makerOf, Cond.instanceMethod yX0_makerOf, Cond.selects RX0 yX0_makerOf yX0_makerOf, Cond.code yX0_makerOf cX0_makerOf 2 (some .int)]
def wsX1_obey : List Cond := .code yX1_obey cX1_obey 3 (some .int) :: ((wsX1_obey_r1 ++ (wsX1_obey_r2 ++ (wsX1_obey_r3 ++ (wsX1_obey_r4 ++ (wsX1_obey_r5 ++ (wsX1_obey_r6 ++ wsX1_obey_r7)))))) ++ wsX10 ++ wsX00 ++ wsX50)
def wsX1_openGain_r1 : List Cond := [Cond.fieldLink RX1 35 "TailorChalks$Game" "next" "I", Cond.fieldLink RX1 12 "TailorChalks$Game" "cloth" "LTailorChalks$Cloth;", Cond.methodLink RX1 91 yX1_tailorOf, Cond.instanceMethod yX1_tailorOf, Cond.selects RX1 yX1_tailorOf yX1_tailorOf, Cond.initialized RX1, Cond.code yX1_tailorOf cX1_tailorOf 2 (some (.object "TailorChalks$Tailor")), Cond.fieldLink RX1 21 "TailorChalks$Game" "tailorZero" "LTailorChalks$Tailor;", Cond.fieldLink RX1 25 "TailorChalks$Game" "tailorOne" "LTailorChalks$Tailor;", Cond.methodLink RX1 53 yX5_hasMark, Cond.instanceMethod yX5_hasMark, Cond.selects RX5 yX5_hasMark yX5_hasMark, Cond.initialized RX5, Cond.code yX5_hasMark cX5_hasMark 3 (some .boolean), Cond.fieldLink RX5 19 "TailorChalks$Tailor" "marks" "I", Cond.fieldLink RX5 11 "TailorChalks$Tailor" "marked" "[I", Cond.methodLink RX1 111 yX0_ragOf, Cond.instanceMethod yX0_ragOf, Cond.selects RX0 yX0_ragOf yX0_ragOf, Cond.initialized RX0, Cond.code yX0_ragOf cX0_ragOf 14 (some .long), Cond.fieldLink RX0 26 "TailorChalks$Cloth" "heldAcross" "J", Cond.constantLong RX0 53 (-1), Cond.fieldLink RX0 29 "TailorChalks$Cloth" "heldDown" "J"]
def wsX1_openGain_r2 : List Cond := [Cond.methodLink RX0 32 yX0_firstCell, Cond.static yX0_firstCell, Cond.code yX0_firstCell cX0_firstCell 1 (some .int), Cond.methodLink RX0 36 yX0_isDown, Cond.static yX0_isDown, Cond.code yX0_isDown cX0_isDown 1 (some .boolean), Cond.methodLink RX0 67 yX0_spread, Cond.static yX0_spread, Cond.code yX0_spread cX0_spread 14 (some .long), Cond.methodLink RX0 61 yX0_secondCell, Cond.static yX0_secondCell, Cond.code yX0_secondCell cX0_secondCell 1 (some .int), Cond.methodLink RX0 43 yX0_has, Cond.static yX0_has, Cond.code yX0_has cX0_has 3 (some .boolean), Cond.methodLink RX0 47 yJ13_bitCount_95d88, Cond.static yJ13_bitCount_95d88, Cond.initialized RJ13, Cond.code yJ13_bitCount_95d88 cJ13_bitCount_95d88 2 (some .int), Cond.constantLong RJ13 314 (6148914691236517205), Cond.constantLong RJ13 316 (3689348814741910323), Cond.constantLong RJ13 318 (1085102592571150095), Cond.methodLink RX1 123 yJ13_bitCount_95d88]
def wsX1_openGain : List Cond := .code yX1_openGain cX1_openGain 3 (some .int) :: ((wsX1_openGain_r1 ++ wsX1_openGain_r2) ++ wsX10 ++ wsX50 ++ wsX00)
def wsX1_bestJoint_r1 : List Cond := [Cond.methodLink RX1 104 yX1_whyNoSnip, Cond.instanceMethod yX1_whyNoSnip, Cond.selects RX1 yX1_whyNoSnip yX1_whyNoSnip, Cond.initialized RX1, Cond.code yX1_whyNoSnip cX1_whyNoSnip 2 (some .int), Cond.fieldLink RX1 12 "TailorChalks$Game" "cloth" "LTailorChalks$Cloth;", Cond.methodLink RX1 46 yX1_isOver, Cond.instanceMethod yX1_isOver, Cond.selects RX1 yX1_isOver yX1_isOver, Cond.code yX1_isOver cX1_isOver 1 (some .boolean), Cond.fieldLink RX1 39 "TailorChalks$Game" "turns" "I", Cond.methodLink RX1 42 yX0_cellsLeft, Cond.instanceMethod yX0_cellsLeft, Cond.selects RX0 yX0_cellsLeft yX0_cellsLeft, Cond.initialized RX0, Cond.code yX0_cellsLeft cX0_cellsLeft 1 (some .int), Cond.fieldLink RX0 22 "TailorChalks$Cloth" "gone" "J", Cond.methodLink RX0 47 yJ13_bitCount_95d88, Cond.static yJ13_bitCount_95d88, Cond.initialized RJ13, Cond.code yJ13_bitCount_95d88 cJ13_bitCount_95d88 2 (some .int), Cond.constantLong RJ13 314 (6148914691236517205), Cond.constantLong RJ13 316 (3689348814741910323), Cond.constantLong RJ13 318 (1085102592571150095)]
def wsX1_bestJoint_r2 : List Cond := [Cond.methodLink RX1 57 yX0_isVoid, Cond.instanceMethod yX0_isVoid, Cond.selects RX0 yX0_isVoid yX0_isVoid, Cond.code yX0_isVoid cX0_isVoid 4 (some .boolean), Cond.methodLink RX0 36 yX0_isDown, Cond.static yX0_isDown, Cond.code yX0_isDown cX0_isDown 1 (some .boolean), Cond.methodLink RX0 32 yX0_firstCell, Cond.static yX0_firstCell, Cond.code yX0_firstCell cX0_firstCell 1 (some .int), Cond.methodLink RX0 43 yX0_has, Cond.static yX0_has, Cond.code yX0_has cX0_has 3 (some .boolean), Cond.methodLink RX1 64 yX0_stateOf, Cond.instanceMethod yX0_stateOf, Cond.selects RX0 yX0_stateOf yX0_stateOf, Cond.code yX0_stateOf cX0_stateOf 2 (some .int), Cond.fieldLink RX0 11 "TailorChalks$Cloth" "states" "[I", Cond.methodLink RX0 40 yX0_isJoint, Cond.static yX0_isJoint, Cond.code yX0_isJoint cX0_isJoint 1 (some .boolean), Cond.methodLink RX1 156 yX1_openGain, Cond.instanceMethod yX1_openGain, Cond.selects RX1 yX1_openGain yX1_openGain]
def wsX1_bestJoint_r3 : List Cond := [Cond.code yX1_openGain cX1_openGain 3 (some .int), Cond.fieldLink RX1 35 "TailorChalks$Game" "next" "I", Cond.methodLink RX1 91 yX1_tailorOf, Cond.instanceMethod yX1_tailorOf, Cond.selects RX1 yX1_tailorOf yX1_tailorOf, Cond.code yX1_tailorOf cX1_tailorOf 2 (some (.object "TailorChalks$Tailor")), Cond.fieldLink RX1 21 "TailorChalks$Game" "tailorZero" "LTailorChalks$Tailor;", Cond.fieldLink RX1 25 "TailorChalks$Game" "tailorOne" "LTailorChalks$Tailor;", Cond.methodLink RX1 53 yX5_hasMark, Cond.instanceMethod yX5_hasMark, Cond.selects RX5 yX5_hasMark yX5_hasMark, Cond.initialized RX5, Cond.code yX5_hasMark cX5_hasMark 3 (some .boolean), Cond.fieldLink RX5 19 "TailorChalks$Tailor" "marks" "I", Cond.fieldLink RX5 11 "TailorChalks$Tailor" "marked" "[I", Cond.methodLink RX1 111 yX0_ragOf, Cond.instanceMethod yX0_ragOf, Cond.selects RX0 yX0_ragOf yX0_ragOf, Cond.code yX0_ragOf cX0_ragOf 14 (some .long), Cond.fieldLink RX0 26 "TailorChalks$Cloth" "heldAcross" "J", Cond.constantLong RX0 53 (-1), Cond.fieldLink RX0 29 "TailorChalks$Cloth" "heldDown" "J", Cond.methodLink RX0 67 yX0_spread, Cond.static yX0_spread]
def wsX1_bestJoint_r4 : List Cond := [Cond.code yX0_spread cX0_spread 14 (some .long), Cond.methodLink RX0 61 yX0_secondCell, Cond.static yX0_secondCell, Cond.code yX0_secondCell cX0_secondCell 1 (some .int), Cond.methodLink RX1 123 yJ13_bitCount_95d88]
def wsX1_bestJoint : List Cond := .code yX1_bestJoint cX1_bestJoint 5 (some .int) :: ((wsX1_bestJoint_r1 ++ (wsX1_bestJoint_r2 ++ (wsX1_bestJoint_r3 ++ wsX1_bestJoint_r4))) ++ wsX10 ++ wsX00 ++ wsX50)
def wsX2_init_r1 : List Cond := [Cond.methodLink RX2 3 objectInit, Cond.instanceMethod objectInit, Cond.code objectInit ⟨#[0xb1]⟩ 1 none, Cond.classLink RX2 11 RX1, Cond.fieldLink RX2 13 "TailorChalks$History" "states" "[LTailorChalks$Game;", Cond.instantiable RX1 5, Cond.initialized RX1, Cond.fieldLink RX2 18 "TailorChalks$History" "noted" "LTailorChalks$Game;", Cond.methodLink RX2 17 yX1_init, Cond.instanceMethod yX1_init, Cond.code yX1_init cX1_init 1 none, Cond.methodLink RX1 3 objectInit, Cond.classLink RX1 9 RX0, Cond.instantiable RX0 5, Cond.initialized RX0, Cond.fieldLink RX1 12 "TailorChalks$Game" "cloth" "LTailorChalks$Cloth;", Cond.classLink RX1 18 RX5, Cond.instantiable RX5 9, Cond.initialized RX5, Cond.fieldLink RX1 21 "TailorChalks$Game" "tailorZero" "LTailorChalks$Tailor;", Cond.fieldLink RX1 25 "TailorChalks$Game" "tailorOne" "LTailorChalks$Tailor;", Cond.methodLink RX1 11 yX0_init, Cond.instanceMethod yX0_init, Cond.code yX0_init cX0_init 2 none]
def wsX2_init_r2 : List Cond := [Cond.methodLink RX0 3 objectInit, Cond.arrayClass .int, Cond.fieldLink RX0 11 "TailorChalks$Cloth" "states" "[I", Cond.fieldLink RX0 15 "TailorChalks$Cloth" "makers" "[I", Cond.methodLink RX0 18 yX0_make, Cond.instanceMethod yX0_make, Cond.selects RX0 yX0_make yX0_make, Cond.code yX0_make cX0_make 8 none, Cond.fieldLink RX0 29 "TailorChalks$Cloth" "heldDown" "J", Cond.constantLong RX0 53 (-1), Cond.fieldLink RX0 26 "TailorChalks$Cloth" "heldAcross" "J", Cond.methodLink RX0 40 yX0_isJoint, Cond.static yX0_isJoint, Cond.code yX0_isJoint cX0_isJoint 1 (some .boolean), Cond.methodLink RX0 32 yX0_firstCell, Cond.static yX0_firstCell, Cond.code yX0_firstCell cX0_firstCell 1 (some .int), Cond.methodLink RX0 36 yX0_isDown, Cond.static yX0_isDown, Cond.code yX0_isDown cX0_isDown 1 (some .boolean), Cond.methodLink RX1 20 yX5_init, Cond.instanceMethod yX5_init, Cond.code yX5_init cX5_init 1 none, Cond.methodLink RX5 3 objectInit]
def wsX2_init_r3 : List Cond := [Cond.fieldLink RX5 11 "TailorChalks$Tailor" "marked" "[I", Cond.fieldLink RX5 15 "TailorChalks$Tailor" "threads" "I"]
def wsX2_init : List Cond := .code yX2_init cX2_init 2 none :: ((wsX2_init_r1 ++ (wsX2_init_r2 ++ wsX2_init_r3)) ++ wsX20 ++ wsX10 ++ wsX00 ++ wsX50)
def wsX2_note_r1 : List Cond := [Cond.fieldLink RX2 18 "TailorChalks$History" "noted" "LTailorChalks$Game;", Cond.methodLink RX2 22 yX1_become, Cond.instanceMethod yX1_become, Cond.selects RX1 yX1_become yX1_become, Cond.initialized RX1, Cond.code yX1_become cX1_become 2 none, Cond.fieldLink RX1 12 "TailorChalks$Game" "cloth" "LTailorChalks$Cloth;", Cond.fieldLink RX1 21 "TailorChalks$Game" "tailorZero" "LTailorChalks$Tailor;", Cond.fieldLink RX1 25 "TailorChalks$Game" "tailorOne" "LTailorChalks$Tailor;", Cond.fieldLink RX1 35 "TailorChalks$Game" "next" "I", Cond.fieldLink RX1 39 "TailorChalks$Game" "turns" "I", Cond.methodLink RX1 28 yX0_become, Cond.instanceMethod yX0_become, Cond.selects RX0 yX0_become yX0_become, Cond.initialized RX0, Cond.code yX0_become cX0_become 3 none, Cond.fieldLink RX0 11 "TailorChalks$Cloth" "states" "[I", Cond.fieldLink RX0 15 "TailorChalks$Cloth" "makers" "[I", Cond.fieldLink RX0 22 "TailorChalks$Cloth" "gone" "J", Cond.fieldLink RX0 26 "TailorChalks$Cloth" "heldAcross" "J", Cond.fieldLink RX0 29 "TailorChalks$Cloth" "heldDown" "J", Cond.methodLink RX1 32 yX5_become, Cond.instanceMethod yX5_become, Cond.selects RX5 yX5_become yX5_become]
def wsX2_note_r2 : List Cond := [Cond.initialized RX5, Cond.code yX5_become cX5_become 3 none, Cond.fieldLink RX5 11 "TailorChalks$Tailor" "marked" "[I", Cond.fieldLink RX5 19 "TailorChalks$Tailor" "marks" "I", Cond.fieldLink RX5 22 "TailorChalks$Tailor" "points" "I", Cond.fieldLink RX5 15 "TailorChalks$Tailor" "threads" "I", Cond.fieldLink RX5 25 "TailorChalks$Tailor" "rags" "I", Cond.fieldLink RX5 28 "TailorChalks$Tailor" "ragCells" "I", Cond.fieldLink RX5 31 "TailorChalks$Tailor" "found" "I", Cond.fieldLink RX5 34 "TailorChalks$Tailor" "rightDoubts" "I", Cond.fieldLink RX5 37 "TailorChalks$Tailor" "wrongDoubts" "I"]
def wsX2_note : List Cond := .code yX2_note cX2_note 2 none :: ((wsX2_note_r1 ++ wsX2_note_r2) ++ wsX20 ++ wsX10 ++ wsX00 ++ wsX50)
def wsX2_dropOldest : List Cond := .code yX2_dropOldest cX2_dropOldest 3 none :: ([.fieldLink RX2 13 "TailorChalks$History" "states" "[LTailorChalks$Game;", .fieldLink RX2 26 "TailorChalks$History" "kept" "I"] ++ wsX20)
def wsX2_keepNoted : List Cond := .code yX2_keepNoted cX2_keepNoted 2 none :: ([.fieldLink RX2 26 "TailorChalks$History" "kept" "I", .fieldLink RX2 13 "TailorChalks$History" "states" "[LTailorChalks$Game;", .fieldLink RX2 18 "TailorChalks$History" "noted" "LTailorChalks$Game;", .methodLink RX2 30 yX2_dropOldest, .instanceMethod yX2_dropOldest, .selects RX2 yX2_dropOldest yX2_dropOldest, .initialized RX2, .code yX2_dropOldest cX2_dropOldest 3 none] ++ wsX20)
def wsX2_goBack_r1 : List Cond := [Cond.fieldLink RX2 26 "TailorChalks$History" "kept" "I", Cond.fieldLink RX2 13 "TailorChalks$History" "states" "[LTailorChalks$Game;", Cond.methodLink RX2 22 yX1_become, Cond.instanceMethod yX1_become, Cond.selects RX1 yX1_become yX1_become, Cond.initialized RX1, Cond.code yX1_become cX1_become 2 none, Cond.fieldLink RX1 12 "TailorChalks$Game" "cloth" "LTailorChalks$Cloth;", Cond.fieldLink RX1 21 "TailorChalks$Game" "tailorZero" "LTailorChalks$Tailor;", Cond.fieldLink RX1 25 "TailorChalks$Game" "tailorOne" "LTailorChalks$Tailor;", Cond.fieldLink RX1 35 "TailorChalks$Game" "next" "I", Cond.fieldLink RX1 39 "TailorChalks$Game" "turns" "I", Cond.methodLink RX1 28 yX0_become, Cond.instanceMethod yX0_become, Cond.selects RX0 yX0_become yX0_become, Cond.initialized RX0, Cond.code yX0_become cX0_become 3 none, Cond.fieldLink RX0 11 "TailorChalks$Cloth" "states" "[I", Cond.fieldLink RX0 15 "TailorChalks$Cloth" "makers" "[I", Cond.fieldLink RX0 22 "TailorChalks$Cloth" "gone" "J", Cond.fieldLink RX0 26 "TailorChalks$Cloth" "heldAcross" "J", Cond.fieldLink RX0 29 "TailorChalks$Cloth" "heldDown" "J", Cond.methodLink RX1 32 yX5_become, Cond.instanceMethod yX5_become]
def wsX2_goBack_r2 : List Cond := [Cond.selects RX5 yX5_become yX5_become, Cond.initialized RX5, Cond.code yX5_become cX5_become 3 none, Cond.fieldLink RX5 11 "TailorChalks$Tailor" "marked" "[I", Cond.fieldLink RX5 19 "TailorChalks$Tailor" "marks" "I", Cond.fieldLink RX5 22 "TailorChalks$Tailor" "points" "I", Cond.fieldLink RX5 15 "TailorChalks$Tailor" "threads" "I", Cond.fieldLink RX5 25 "TailorChalks$Tailor" "rags" "I", Cond.fieldLink RX5 28 "TailorChalks$Tailor" "ragCells" "I", Cond.fieldLink RX5 31 "TailorChalks$Tailor" "found" "I", Cond.fieldLink RX5 34 "TailorChalks$Tailor" "rightDoubts" "I", Cond.fieldLink RX5 37 "TailorChalks$Tailor" "wrongDoubts" "I"]
def wsX2_goBack : List Cond := .code yX2_goBack cX2_goBack 2 (some .int) :: ((wsX2_goBack_r1 ++ wsX2_goBack_r2) ++ wsX20 ++ wsX10 ++ wsX00 ++ wsX50)
def wsX3_init : List Cond := .code yX3_init cX3_init 1 none :: ([.methodLink RX3 3 objectInit, .instanceMethod objectInit, .code objectInit ⟨#[0xb1]⟩ 1 none, .arrayClass .char, .fieldLink RX3 11 "TailorChalks$Pad" "signs" "[C"] ++ wsX30)
def wsX3_charactersIn : List Cond := .code yX3_charactersIn cX3_charactersIn 7 (some .int) :: ([.constantLong RX3 23 (255), .constantLong RX3 25 (33), .constantLong RX3 27 (126)])
def wsX3_append : List Cond := .code yX3_append cX3_append 5 (some .int) :: ([.fieldLink RX3 19 "TailorChalks$Pad" "length" "I", .fieldLink RX3 11 "TailorChalks$Pad" "signs" "[C", .constantLong RX3 23 (255), .methodLink RX3 15 yX3_charactersIn, .static yX3_charactersIn, .initialized RX3, .code yX3_charactersIn cX3_charactersIn 7 (some .int), .constantLong RX3 25 (33), .constantLong RX3 27 (126)] ++ wsX30)
def wsX3_clear : List Cond := .code yX3_clear cX3_clear 2 (some .int) :: ([.fieldLink RX3 19 "TailorChalks$Pad" "length" "I"] ++ wsX30)
def wsX3_signAt : List Cond := .code yX3_signAt cX3_signAt 2 (some .char) :: ([.fieldLink RX3 19 "TailorChalks$Pad" "length" "I", .fieldLink RX3 11 "TailorChalks$Pad" "signs" "[C"] ++ wsX30)
def wsX3_isDigit : List Cond := .code yX3_isDigit cX3_isDigit 1 (some .boolean) :: ([])
def wsX3_placeBehindOrder : List Cond := .code yX3_placeBehindOrder cX3_placeBehindOrder 1 (some .int) :: ([])
def wsX3_placeBehind : List Cond := .code yX3_placeBehind cX3_placeBehind 3 (some .int) :: ([.methodLink RX3 33 yX3_placeBehindOrder, .static yX3_placeBehindOrder, .initialized RX3, .code yX3_placeBehindOrder cX3_placeBehindOrder 1 (some .int), .methodLink RX3 37 yX3_isDigit, .static yX3_isDigit, .code yX3_isDigit cX3_isDigit 1 (some .boolean)])
def wsX3_firstFault : List Cond := .code yX3_firstFault cX3_firstFault 3 (some .int) :: ([.fieldLink RX3 19 "TailorChalks$Pad" "length" "I", .fieldLink RX3 11 "TailorChalks$Pad" "signs" "[C", .methodLink RX3 29 yX3_placeBehind, .static yX3_placeBehind, .initialized RX3, .code yX3_placeBehind cX3_placeBehind 3 (some .int), .methodLink RX3 33 yX3_placeBehindOrder, .static yX3_placeBehindOrder, .code yX3_placeBehindOrder cX3_placeBehindOrder 1 (some .int), .methodLink RX3 37 yX3_isDigit, .static yX3_isDigit, .code yX3_isDigit cX3_isDigit 1 (some .boolean)] ++ wsX30)
def wsX4_init_r1 : List Cond := [Cond.methodLink RX4 1 objectInit, Cond.instanceMethod objectInit, Cond.code objectInit ⟨#[0xb1]⟩ 1 none, Cond.classLink RX4 7 RX1, Cond.instantiable RX1 5, Cond.initialized RX1, Cond.fieldLink RX4 10 "TailorChalks$Slot" "saved" "LTailorChalks$Game;", Cond.methodLink RX4 9 yX1_init, Cond.instanceMethod yX1_init, Cond.code yX1_init cX1_init 1 none, Cond.methodLink RX1 3 objectInit, Cond.classLink RX1 9 RX0, Cond.instantiable RX0 5, Cond.initialized RX0, Cond.fieldLink RX1 12 "TailorChalks$Game" "cloth" "LTailorChalks$Cloth;", Cond.classLink RX1 18 RX5, Cond.instantiable RX5 9, Cond.initialized RX5, Cond.fieldLink RX1 21 "TailorChalks$Game" "tailorZero" "LTailorChalks$Tailor;", Cond.fieldLink RX1 25 "TailorChalks$Game" "tailorOne" "LTailorChalks$Tailor;", Cond.methodLink RX1 11 yX0_init, Cond.instanceMethod yX0_init, Cond.code yX0_init cX0_init 2 none, Cond.methodLink RX0 3 objectInit]
def wsX4_init_r2 : List Cond := [Cond.arrayClass .int, Cond.fieldLink RX0 11 "TailorChalks$Cloth" "states" "[I", Cond.fieldLink RX0 15 "TailorChalks$Cloth" "makers" "[I", Cond.methodLink RX0 18 yX0_make, Cond.instanceMethod yX0_make, Cond.selects RX0 yX0_make yX0_make, Cond.code yX0_make cX0_make 8 none, Cond.fieldLink RX0 29 "TailorChalks$Cloth" "heldDown" "J", Cond.constantLong RX0 53 (-1), Cond.fieldLink RX0 26 "TailorChalks$Cloth" "heldAcross" "J", Cond.methodLink RX0 40 yX0_isJoint, Cond.static yX0_isJoint, Cond.code yX0_isJoint cX0_isJoint 1 (some .boolean), Cond.methodLink RX0 32 yX0_firstCell, Cond.static yX0_firstCell, Cond.code yX0_firstCell cX0_firstCell 1 (some .int), Cond.methodLink RX0 36 yX0_isDown, Cond.static yX0_isDown, Cond.code yX0_isDown cX0_isDown 1 (some .boolean), Cond.methodLink RX1 20 yX5_init, Cond.instanceMethod yX5_init, Cond.code yX5_init cX5_init 1 none, Cond.methodLink RX5 3 objectInit, Cond.fieldLink RX5 11 "TailorChalks$Tailor" "marked" "[I"]
def wsX4_init_r3 : List Cond := [Cond.fieldLink RX5 15 "TailorChalks$Tailor" "threads" "I"]
def wsX4_init : List Cond := .code yX4_init cX4_init 1 none :: ((wsX4_init_r1 ++ (wsX4_init_r2 ++ wsX4_init_r3)) ++ wsX10 ++ wsX40 ++ wsX00 ++ wsX50)
def wsX4_fill_r1 : List Cond := [Cond.fieldLink RX4 10 "TailorChalks$Slot" "saved" "LTailorChalks$Game;", Cond.fieldLink RX4 20 "TailorChalks$Slot" "full" "Z", Cond.methodLink RX4 16 yX1_become, Cond.instanceMethod yX1_become, Cond.selects RX1 yX1_become yX1_become, Cond.initialized RX1, Cond.code yX1_become cX1_become 2 none, Cond.fieldLink RX1 12 "TailorChalks$Game" "cloth" "LTailorChalks$Cloth;", Cond.fieldLink RX1 21 "TailorChalks$Game" "tailorZero" "LTailorChalks$Tailor;", Cond.fieldLink RX1 25 "TailorChalks$Game" "tailorOne" "LTailorChalks$Tailor;", Cond.fieldLink RX1 35 "TailorChalks$Game" "next" "I", Cond.fieldLink RX1 39 "TailorChalks$Game" "turns" "I", Cond.methodLink RX1 28 yX0_become, Cond.instanceMethod yX0_become, Cond.selects RX0 yX0_become yX0_become, Cond.initialized RX0, Cond.code yX0_become cX0_become 3 none, Cond.fieldLink RX0 11 "TailorChalks$Cloth" "states" "[I", Cond.fieldLink RX0 15 "TailorChalks$Cloth" "makers" "[I", Cond.fieldLink RX0 22 "TailorChalks$Cloth" "gone" "J", Cond.fieldLink RX0 26 "TailorChalks$Cloth" "heldAcross" "J", Cond.fieldLink RX0 29 "TailorChalks$Cloth" "heldDown" "J", Cond.methodLink RX1 32 yX5_become, Cond.instanceMethod yX5_become]
def wsX4_fill_r2 : List Cond := [Cond.selects RX5 yX5_become yX5_become, Cond.initialized RX5, Cond.code yX5_become cX5_become 3 none, Cond.fieldLink RX5 11 "TailorChalks$Tailor" "marked" "[I", Cond.fieldLink RX5 19 "TailorChalks$Tailor" "marks" "I", Cond.fieldLink RX5 22 "TailorChalks$Tailor" "points" "I", Cond.fieldLink RX5 15 "TailorChalks$Tailor" "threads" "I", Cond.fieldLink RX5 25 "TailorChalks$Tailor" "rags" "I", Cond.fieldLink RX5 28 "TailorChalks$Tailor" "ragCells" "I", Cond.fieldLink RX5 31 "TailorChalks$Tailor" "found" "I", Cond.fieldLink RX5 34 "TailorChalks$Tailor" "rightDoubts" "I", Cond.fieldLink RX5 37 "TailorChalks$Tailor" "wrongDoubts" "I"]
def wsX4_fill : List Cond := .code yX4_fill cX4_fill 2 none :: ((wsX4_fill_r1 ++ wsX4_fill_r2) ++ wsX40 ++ wsX10 ++ wsX00 ++ wsX50)
def wsX5_markAt : List Cond := .code yX5_markAt cX5_markAt 2 (some .int) :: ([.fieldLink RX5 19 "TailorChalks$Tailor" "marks" "I", .fieldLink RX5 11 "TailorChalks$Tailor" "marked" "[I"] ++ wsX50)
def wsX6_init_r1 : List Cond := [Cond.methodLink RX6 1 objectInit, Cond.instanceMethod objectInit, Cond.code objectInit ⟨#[0xb1]⟩ 1 none, Cond.classLink RX6 7 RX1, Cond.instantiable RX1 5, Cond.initialized RX1, Cond.fieldLink RX6 10 "TailorChalks" "game" "LTailorChalks$Game;", Cond.classLink RX6 16 RX2, Cond.instantiable RX2 3, Cond.initialized RX2, Cond.fieldLink RX6 19 "TailorChalks" "history" "LTailorChalks$History;", Cond.classLink RX6 23 RX4, Cond.instantiable RX4 2, Cond.initialized RX4, Cond.fieldLink RX6 26 "TailorChalks" "slotZero" "LTailorChalks$Slot;", Cond.fieldLink RX6 30 "TailorChalks" "slotOne" "LTailorChalks$Slot;", Cond.classLink RX6 33 RX3, Cond.instantiable RX3 2, Cond.initialized RX3, Cond.fieldLink RX6 36 "TailorChalks" "pad" "LTailorChalks$Pad;", Cond.methodLink RX6 9 yX1_init, Cond.instanceMethod yX1_init, Cond.code yX1_init cX1_init 1 none, Cond.methodLink RX1 3 objectInit]
def wsX6_init_r2 : List Cond := [Cond.classLink RX1 9 RX0, Cond.instantiable RX0 5, Cond.initialized RX0, Cond.fieldLink RX1 12 "TailorChalks$Game" "cloth" "LTailorChalks$Cloth;", Cond.classLink RX1 18 RX5, Cond.instantiable RX5 9, Cond.initialized RX5, Cond.fieldLink RX1 21 "TailorChalks$Game" "tailorZero" "LTailorChalks$Tailor;", Cond.fieldLink RX1 25 "TailorChalks$Game" "tailorOne" "LTailorChalks$Tailor;", Cond.methodLink RX1 11 yX0_init, Cond.instanceMethod yX0_init, Cond.code yX0_init cX0_init 2 none, Cond.methodLink RX0 3 objectInit, Cond.arrayClass .int, Cond.fieldLink RX0 11 "TailorChalks$Cloth" "states" "[I", Cond.fieldLink RX0 15 "TailorChalks$Cloth" "makers" "[I", Cond.methodLink RX0 18 yX0_make, Cond.instanceMethod yX0_make, Cond.selects RX0 yX0_make yX0_make, Cond.code yX0_make cX0_make 8 none, Cond.fieldLink RX0 29 "TailorChalks$Cloth" "heldDown" "J", Cond.constantLong RX0 53 (-1), Cond.fieldLink RX0 26 "TailorChalks$Cloth" "heldAcross" "J", Cond.methodLink RX0 40 yX0_isJoint]
def wsX6_init_r3 : List Cond := [Cond.static yX0_isJoint, Cond.code yX0_isJoint cX0_isJoint 1 (some .boolean), Cond.methodLink RX0 32 yX0_firstCell, Cond.static yX0_firstCell, Cond.code yX0_firstCell cX0_firstCell 1 (some .int), Cond.methodLink RX0 36 yX0_isDown, Cond.static yX0_isDown, Cond.code yX0_isDown cX0_isDown 1 (some .boolean), Cond.methodLink RX1 20 yX5_init, Cond.instanceMethod yX5_init, Cond.code yX5_init cX5_init 1 none, Cond.methodLink RX5 3 objectInit, Cond.fieldLink RX5 11 "TailorChalks$Tailor" "marked" "[I", Cond.fieldLink RX5 15 "TailorChalks$Tailor" "threads" "I", Cond.methodLink RX6 18 yX2_init, Cond.instanceMethod yX2_init, Cond.code yX2_init cX2_init 2 none, Cond.methodLink RX2 3 objectInit, Cond.classLink RX2 11 RX1, Cond.fieldLink RX2 13 "TailorChalks$History" "states" "[LTailorChalks$Game;", Cond.fieldLink RX2 18 "TailorChalks$History" "noted" "LTailorChalks$Game;", Cond.methodLink RX2 17 yX1_init, Cond.methodLink RX6 25 yX4_init, Cond.instanceMethod yX4_init]
def wsX6_init_r4 : List Cond := [Cond.code yX4_init cX4_init 1 none, Cond.methodLink RX4 1 objectInit, Cond.classLink RX4 7 RX1, Cond.fieldLink RX4 10 "TailorChalks$Slot" "saved" "LTailorChalks$Game;", Cond.methodLink RX4 9 yX1_init, Cond.methodLink RX6 35 yX3_init, Cond.instanceMethod yX3_init, Cond.code yX3_init cX3_init 1 none, Cond.methodLink RX3 3 objectInit, Cond.arrayClass .char, Cond.fieldLink RX3 11 "TailorChalks$Pad" "signs" "[C"]
def wsX6_init : List Cond := .code yX6_init cX6_init 1 none :: ((wsX6_init_r1 ++ (wsX6_init_r2 ++ (wsX6_init_r3 ++ wsX6_init_r4))) ++ wsX10 ++ wsX60 ++ wsX20 ++ wsX40 ++ wsX30 ++ wsX00 ++ wsX50)
def wsX6_takeTurn_r1 : List Cond := [Cond.fieldLink RX6 19 "TailorChalks" "history" "LTailorChalks$History;", Cond.fieldLink RX6 10 "TailorChalks" "game" "LTailorChalks$Game;", Cond.methodLink RX6 44 yX2_note, Cond.instanceMethod yX2_note, Cond.selects RX2 yX2_note yX2_note, Cond.initialized RX2, Cond.code yX2_note cX2_note 2 none, Cond.fieldLink RX2 18 "TailorChalks$History" "noted" "LTailorChalks$Game;", Cond.methodLink RX2 22 yX1_become, Cond.instanceMethod yX1_become, Cond.selects RX1 yX1_become yX1_become, Cond.initialized RX1, Cond.code yX1_become cX1_become 2 none, Cond.fieldLink RX1 12 "TailorChalks$Game" "cloth" "LTailorChalks$Cloth;", Cond.fieldLink RX1 21 "TailorChalks$Game" "tailorZero" "LTailorChalks$Tailor;", Cond.fieldLink RX1 25 "TailorChalks$Game" "tailorOne" "LTailorChalks$Tailor;", Cond.fieldLink RX1 35 "TailorChalks$Game" "next" "I", Cond.fieldLink RX1 39 "TailorChalks$Game" "turns" "I", Cond.methodLink RX1 28 yX0_become, Cond.instanceMethod yX0_become, Cond.selects RX0 yX0_become yX0_become, Cond.initialized RX0, Cond.code yX0_become cX0_become 3 none, Cond.fieldLink RX0 11 "TailorChalks$Cloth" "states" "[I"]
def wsX6_takeTurn_r2 : List Cond := [Cond.fieldLink RX0 15 "TailorChalks$Cloth" "makers" "[I", Cond.fieldLink RX0 22 "TailorChalks$Cloth" "gone" "J", Cond.fieldLink RX0 26 "TailorChalks$Cloth" "heldAcross" "J", Cond.fieldLink RX0 29 "TailorChalks$Cloth" "heldDown" "J", Cond.methodLink RX1 32 yX5_become, Cond.instanceMethod yX5_become, Cond.selects RX5 yX5_become yX5_become, Cond.initialized RX5, Cond.code yX5_become cX5_become 3 none, Cond.fieldLink RX5 11 "TailorChalks$Tailor" "marked" "[I", Cond.fieldLink RX5 19 "TailorChalks$Tailor" "marks" "I", Cond.fieldLink RX5 22 "TailorChalks$Tailor" "points" "I", Cond.fieldLink RX5 15 "TailorChalks$Tailor" "threads" "I", Cond.fieldLink RX5 25 "TailorChalks$Tailor" "rags" "I", Cond.fieldLink RX5 28 "TailorChalks$Tailor" "ragCells" "I", Cond.fieldLink RX5 31 "TailorChalks$Tailor" "found" "I", Cond.fieldLink RX5 34 "TailorChalks$Tailor" "rightDoubts" "I", Cond.fieldLink RX5 37 "TailorChalks$Tailor" "wrongDoubts" "I", Cond.methodLink RX6 48 yX1_obey, Cond.instanceMethod yX1_obey, Cond.selects RX1 yX1_obey yX1_obey, Cond.code yX1_obey cX1_obey 3 (some .int), Cond.methodLink RX1 67 yX1_passOn, Cond.instanceMethod yX1_passOn]
def wsX6_takeTurn_r3 : List Cond := [Cond.selects RX1 yX1_passOn yX1_passOn, Cond.code yX1_passOn cX1_passOn 1 (some .int), Cond.methodLink RX1 46 yX1_isOver, Cond.instanceMethod yX1_isOver, Cond.selects RX1 yX1_isOver yX1_isOver, Cond.code yX1_isOver cX1_isOver 1 (some .boolean), Cond.methodLink RX1 42 yX0_cellsLeft, Cond.instanceMethod yX0_cellsLeft, Cond.selects RX0 yX0_cellsLeft yX0_cellsLeft, Cond.code yX0_cellsLeft cX0_cellsLeft 1 (some .int), Cond.methodLink RX0 47 yJ13_bitCount_95d88, Cond.static yJ13_bitCount_95d88, Cond.initialized RJ13, Cond.code yJ13_bitCount_95d88 cJ13_bitCount_95d88 2 (some .int), Cond.constantLong RJ13 314 (6148914691236517205), Cond.constantLong RJ13 316 (3689348814741910323), Cond.constantLong RJ13 318 (1085102592571150095), Cond.methodLink RX1 88 yX1_endTurn, Cond.instanceMethod yX1_endTurn, Cond.selects RX1 yX1_endTurn yX1_endTurn, Cond.code yX1_endTurn cX1_endTurn 1 none, Cond.methodLink RX1 70 yX0_isJoint, Cond.static yX0_isJoint, Cond.code yX0_isJoint cX0_isJoint 1 (some .boolean)]
def wsX6_takeTurn_r4 : List Cond := [Cond.methodLink RX1 57 yX0_isVoid, Cond.instanceMethod yX0_isVoid, Cond.selects RX0 yX0_isVoid yX0_isVoid, Cond.code yX0_isVoid cX0_isVoid 4 (some .boolean), Cond.methodLink RX0 36 yX0_isDown, Cond.static yX0_isDown, Cond.code yX0_isDown cX0_isDown 1 (some .boolean), Cond.methodLink RX0 32 yX0_firstCell, Cond.static yX0_firstCell, Cond.code yX0_firstCell cX0_firstCell 1 (some .int), Cond.methodLink RX0 43 yX0_has, Cond.static yX0_has, Cond.code yX0_has cX0_has 3 (some .boolean), Cond.methodLink RX1 73 yX1_markJoint, Cond.instanceMethod yX1_markJoint, Cond.selects RX1 yX1_markJoint yX1_markJoint, Cond.code yX1_markJoint cX1_markJoint 3 (some .int), Cond.fieldLink RX1 101 "TailorChalks$Tailor" "marks" "I", Cond.methodLink RX1 91 yX1_tailorOf, Cond.instanceMethod yX1_tailorOf, Cond.selects RX1 yX1_tailorOf yX1_tailorOf, Cond.code yX1_tailorOf cX1_tailorOf 2 (some (.object "TailorChalks$Tailor")), Cond.methodLink RX1 95 yX0_holds, Cond.instanceMethod yX0_holds]
def wsX6_takeTurn_r5 : List Cond := [Cond.selects RX0 yX0_holds yX0_holds, Cond.code yX0_holds cX0_holds 2 (some .boolean), Cond.methodLink RX1 53 yX5_hasMark, Cond.instanceMethod yX5_hasMark, Cond.selects RX5 yX5_hasMark yX5_hasMark, Cond.code yX5_hasMark cX5_hasMark 3 (some .boolean), Cond.methodLink RX1 98 yX5_addMark, Cond.instanceMethod yX5_addMark, Cond.selects RX5 yX5_addMark yX5_addMark, Cond.code yX5_addMark cX5_addMark 2 (some .boolean), Cond.methodLink RX1 76 yX1_snipJoint, Cond.instanceMethod yX1_snipJoint, Cond.selects RX1 yX1_snipJoint yX1_snipJoint, Cond.code yX1_snipJoint cX1_snipJoint 4 (some .int), Cond.methodLink RX1 104 yX1_whyNoSnip, Cond.instanceMethod yX1_whyNoSnip, Cond.selects RX1 yX1_whyNoSnip yX1_whyNoSnip, Cond.code yX1_whyNoSnip cX1_whyNoSnip 2 (some .int), Cond.methodLink RX1 64 yX0_stateOf, Cond.instanceMethod yX0_stateOf, Cond.selects RX0 yX0_stateOf yX0_stateOf, Cond.code yX0_stateOf cX0_stateOf 2 (some .int), Cond.methodLink RX0 40 yX0_isJoint, Cond.methodLink RX1 107 yX1_findChalk]
def wsX6_takeTurn_r6 : List Cond := [Cond.instanceMethod yX1_findChalk, Cond.selects RX1 yX1_findChalk yX1_findChalk, Cond.code yX1_findChalk cX1_findChalk 4 none, Cond.fieldLink RX1 50 "TailorChalks$Tailor" "points" "I", Cond.fieldLink RX1 129 "TailorChalks$Tailor" "found" "I", Cond.methodLink RX1 132 yX1_dropMarks, Cond.instanceMethod yX1_dropMarks, Cond.selects RX1 yX1_dropMarks yX1_dropMarks, Cond.code yX1_dropMarks cX1_dropMarks 2 none, Cond.methodLink RX1 135 yX5_dropMark, Cond.instanceMethod yX5_dropMark, Cond.selects RX5 yX5_dropMark yX5_dropMark, Cond.code yX5_dropMark cX5_dropMark 4 none, Cond.methodLink RX1 111 yX0_ragOf, Cond.instanceMethod yX0_ragOf, Cond.selects RX0 yX0_ragOf yX0_ragOf, Cond.code yX0_ragOf cX0_ragOf 14 (some .long), Cond.constantLong RX0 53 (-1), Cond.methodLink RX0 67 yX0_spread, Cond.static yX0_spread, Cond.code yX0_spread cX0_spread 14 (some .long), Cond.methodLink RX0 61 yX0_secondCell, Cond.static yX0_secondCell, Cond.code yX0_secondCell cX0_secondCell 1 (some .int)]
def wsX6_takeTurn_r7 : List Cond := [Cond.methodLink RX1 115 yX0_make, Cond.instanceMethod yX0_make, Cond.selects RX0 yX0_make yX0_make, Cond.code yX0_make cX0_make 8 none, Cond.methodLink RX1 119 yX1_loseRag, Cond.instanceMethod yX1_loseRag, Cond.selects RX1 yX1_loseRag yX1_loseRag, Cond.code yX1_loseRag cX1_loseRag 4 none, Cond.methodLink RX1 138 yX0_tearOff, Cond.instanceMethod yX0_tearOff, Cond.selects RX0 yX0_tearOff yX0_tearOff, Cond.code yX0_tearOff cX0_tearOff 3 none, Cond.methodLink RX1 123 yJ13_bitCount_95d88, Cond.methodLink RX1 141 yX5_winRag, Cond.instanceMethod yX5_winRag, Cond.selects RX5 yX5_winRag yX5_winRag, Cond.code yX5_winRag cX5_winRag 2 none, Cond.methodLink RX1 79 yX1_sewJoint, Cond.instanceMethod yX1_sewJoint, Cond.selects RX1 yX1_sewJoint yX1_sewJoint, Cond.code yX1_sewJoint cX1_sewJoint 3 (some .int), Cond.fieldLink RX1 144 "TailorChalks$Tailor" "threads" "I", Cond.methodLink RX1 82 yX1_bluffJoint, Cond.instanceMethod yX1_bluffJoint]
def wsX6_takeTurn_r8 : List Cond := [Cond.selects RX1 yX1_bluffJoint yX1_bluffJoint, Cond.code yX1_bluffJoint cX1_bluffJoint 2 (some .int), Cond.methodLink RX1 147 yX0_jointsThatAre, Cond.instanceMethod yX0_jointsThatAre, Cond.selects RX0 yX0_jointsThatAre yX0_jointsThatAre, Cond.code yX0_jointsThatAre cX0_jointsThatAre 4 (some .int), Cond.methodLink RX0 55 yX0_isVoid, Cond.methodLink RX1 85 yX1_doubtJoint, Cond.instanceMethod yX1_doubtJoint, Cond.selects RX1 yX1_doubtJoint yX1_doubtJoint, Cond.code yX1_doubtJoint cX1_doubtJoint 4 (some .int), Cond.fieldLink RX1 150 "TailorChalks$Tailor" "rightDoubts" "I", Cond.fieldLink RX1 153 "TailorChalks$Tailor" "wrongDoubts" "I", Cond.methodLink RX1 60 yX0_makerOf, Cond.instanceMethod yX0_makerOf, Cond.selects RX0 yX0_makerOf yX0_makerOf, Cond.code yX0_makerOf cX0_makerOf 2 (some .int), Cond.methodLink RX6 51 yX2_keepNoted, Cond.instanceMethod yX2_keepNoted, Cond.selects RX2 yX2_keepNoted yX2_keepNoted, Cond.code yX2_keepNoted cX2_keepNoted 2 none, Cond.fieldLink RX2 26 "TailorChalks$History" "kept" "I", Cond.fieldLink RX2 13 "TailorChalks$History" "states" "[LTailorChalks$Game;", Cond.methodLink RX2 30 yX2_dropOldest]
def wsX6_takeTurn_r9 : List Cond := [Cond.instanceMethod yX2_dropOldest, Cond.selects RX2 yX2_dropOldest yX2_dropOldest, Cond.code yX2_dropOldest cX2_dropOldest 3 none]
def wsX6_takeTurn : List Cond := .code yX6_takeTurn cX6_takeTurn 4 (some .int) :: ((wsX6_takeTurn_r1 ++ (wsX6_takeTurn_r2 ++ (wsX6_takeTurn_r3 ++ (wsX6_takeTurn_r4 ++ (wsX6_takeTurn_r5 ++ (wsX6_takeTurn_r6 ++ (wsX6_takeTurn_r7 ++ (wsX6_takeTurn_r8 ++ wsX6_takeTurn_r9)))))))) ++ wsX60 ++ wsX20 ++ wsX10 ++ wsX00 ++ wsX50)
def wsX6_chalk_r1 : List Cond := [Cond.methodLink RX6 40 yX6_takeTurn, Cond.instanceMethod yX6_takeTurn, Cond.selects RX6 yX6_takeTurn yX6_takeTurn, Cond.initialized RX6, Cond.code yX6_takeTurn cX6_takeTurn 4 (some .int), Cond.fieldLink RX6 19 "TailorChalks" "history" "LTailorChalks$History;", Cond.fieldLink RX6 10 "TailorChalks" "game" "LTailorChalks$Game;", Cond.methodLink RX6 44 yX2_note, Cond.instanceMethod yX2_note, Cond.selects RX2 yX2_note yX2_note, Cond.initialized RX2, Cond.code yX2_note cX2_note 2 none, Cond.fieldLink RX2 18 "TailorChalks$History" "noted" "LTailorChalks$Game;", Cond.methodLink RX2 22 yX1_become, Cond.instanceMethod yX1_become, Cond.selects RX1 yX1_become yX1_become, Cond.initialized RX1, Cond.code yX1_become cX1_become 2 none, Cond.fieldLink RX1 12 "TailorChalks$Game" "cloth" "LTailorChalks$Cloth;", Cond.fieldLink RX1 21 "TailorChalks$Game" "tailorZero" "LTailorChalks$Tailor;", Cond.fieldLink RX1 25 "TailorChalks$Game" "tailorOne" "LTailorChalks$Tailor;", Cond.fieldLink RX1 35 "TailorChalks$Game" "next" "I", Cond.fieldLink RX1 39 "TailorChalks$Game" "turns" "I", Cond.methodLink RX1 28 yX0_become]
def wsX6_chalk_r2 : List Cond := [Cond.instanceMethod yX0_become, Cond.selects RX0 yX0_become yX0_become, Cond.initialized RX0, Cond.code yX0_become cX0_become 3 none, Cond.fieldLink RX0 11 "TailorChalks$Cloth" "states" "[I", Cond.fieldLink RX0 15 "TailorChalks$Cloth" "makers" "[I", Cond.fieldLink RX0 22 "TailorChalks$Cloth" "gone" "J", Cond.fieldLink RX0 26 "TailorChalks$Cloth" "heldAcross" "J", Cond.fieldLink RX0 29 "TailorChalks$Cloth" "heldDown" "J", Cond.methodLink RX1 32 yX5_become, Cond.instanceMethod yX5_become, Cond.selects RX5 yX5_become yX5_become, Cond.initialized RX5, Cond.code yX5_become cX5_become 3 none, Cond.fieldLink RX5 11 "TailorChalks$Tailor" "marked" "[I", Cond.fieldLink RX5 19 "TailorChalks$Tailor" "marks" "I", Cond.fieldLink RX5 22 "TailorChalks$Tailor" "points" "I", Cond.fieldLink RX5 15 "TailorChalks$Tailor" "threads" "I", Cond.fieldLink RX5 25 "TailorChalks$Tailor" "rags" "I", Cond.fieldLink RX5 28 "TailorChalks$Tailor" "ragCells" "I", Cond.fieldLink RX5 31 "TailorChalks$Tailor" "found" "I", Cond.fieldLink RX5 34 "TailorChalks$Tailor" "rightDoubts" "I", Cond.fieldLink RX5 37 "TailorChalks$Tailor" "wrongDoubts" "I", Cond.methodLink RX6 48 yX1_obey]
def wsX6_chalk_r3 : List Cond := [Cond.instanceMethod yX1_obey, Cond.selects RX1 yX1_obey yX1_obey, Cond.code yX1_obey cX1_obey 3 (some .int), Cond.methodLink RX1 67 yX1_passOn, Cond.instanceMethod yX1_passOn, Cond.selects RX1 yX1_passOn yX1_passOn, Cond.code yX1_passOn cX1_passOn 1 (some .int), Cond.methodLink RX1 46 yX1_isOver, Cond.instanceMethod yX1_isOver, Cond.selects RX1 yX1_isOver yX1_isOver, Cond.code yX1_isOver cX1_isOver 1 (some .boolean), Cond.methodLink RX1 42 yX0_cellsLeft, Cond.instanceMethod yX0_cellsLeft, Cond.selects RX0 yX0_cellsLeft yX0_cellsLeft, Cond.code yX0_cellsLeft cX0_cellsLeft 1 (some .int), Cond.methodLink RX0 47 yJ13_bitCount_95d88, Cond.static yJ13_bitCount_95d88, Cond.initialized RJ13, Cond.code yJ13_bitCount_95d88 cJ13_bitCount_95d88 2 (some .int), Cond.constantLong RJ13 314 (6148914691236517205), Cond.constantLong RJ13 316 (3689348814741910323), Cond.constantLong RJ13 318 (1085102592571150095), Cond.methodLink RX1 88 yX1_endTurn, Cond.instanceMethod yX1_endTurn]
def wsX6_chalk_r4 : List Cond := [Cond.selects RX1 yX1_endTurn yX1_endTurn, Cond.code yX1_endTurn cX1_endTurn 1 none, Cond.methodLink RX1 70 yX0_isJoint, Cond.static yX0_isJoint, Cond.code yX0_isJoint cX0_isJoint 1 (some .boolean), Cond.methodLink RX1 57 yX0_isVoid, Cond.instanceMethod yX0_isVoid, Cond.selects RX0 yX0_isVoid yX0_isVoid, Cond.code yX0_isVoid cX0_isVoid 4 (some .boolean), Cond.methodLink RX0 36 yX0_isDown, Cond.static yX0_isDown, Cond.code yX0_isDown cX0_isDown 1 (some .boolean), Cond.methodLink RX0 32 yX0_firstCell, Cond.static yX0_firstCell, Cond.code yX0_firstCell cX0_firstCell 1 (some .int), Cond.methodLink RX0 43 yX0_has, Cond.static yX0_has, Cond.code yX0_has cX0_has 3 (some .boolean), Cond.methodLink RX1 73 yX1_markJoint, Cond.instanceMethod yX1_markJoint, Cond.selects RX1 yX1_markJoint yX1_markJoint, Cond.code yX1_markJoint cX1_markJoint 3 (some .int), Cond.fieldLink RX1 101 "TailorChalks$Tailor" "marks" "I", Cond.methodLink RX1 91 yX1_tailorOf]
def wsX6_chalk_r5 : List Cond := [Cond.instanceMethod yX1_tailorOf, Cond.selects RX1 yX1_tailorOf yX1_tailorOf, Cond.code yX1_tailorOf cX1_tailorOf 2 (some (.object "TailorChalks$Tailor")), Cond.methodLink RX1 95 yX0_holds, Cond.instanceMethod yX0_holds, Cond.selects RX0 yX0_holds yX0_holds, Cond.code yX0_holds cX0_holds 2 (some .boolean), Cond.methodLink RX1 53 yX5_hasMark, Cond.instanceMethod yX5_hasMark, Cond.selects RX5 yX5_hasMark yX5_hasMark, Cond.code yX5_hasMark cX5_hasMark 3 (some .boolean), Cond.methodLink RX1 98 yX5_addMark, Cond.instanceMethod yX5_addMark, Cond.selects RX5 yX5_addMark yX5_addMark, Cond.code yX5_addMark cX5_addMark 2 (some .boolean), Cond.methodLink RX1 76 yX1_snipJoint, Cond.instanceMethod yX1_snipJoint, Cond.selects RX1 yX1_snipJoint yX1_snipJoint, Cond.code yX1_snipJoint cX1_snipJoint 4 (some .int), Cond.methodLink RX1 104 yX1_whyNoSnip, Cond.instanceMethod yX1_whyNoSnip, Cond.selects RX1 yX1_whyNoSnip yX1_whyNoSnip, Cond.code yX1_whyNoSnip cX1_whyNoSnip 2 (some .int), Cond.methodLink RX1 64 yX0_stateOf]
def wsX6_chalk_r6 : List Cond := [Cond.instanceMethod yX0_stateOf, Cond.selects RX0 yX0_stateOf yX0_stateOf, Cond.code yX0_stateOf cX0_stateOf 2 (some .int), Cond.methodLink RX0 40 yX0_isJoint, Cond.methodLink RX1 107 yX1_findChalk, Cond.instanceMethod yX1_findChalk, Cond.selects RX1 yX1_findChalk yX1_findChalk, Cond.code yX1_findChalk cX1_findChalk 4 none, Cond.fieldLink RX1 50 "TailorChalks$Tailor" "points" "I", Cond.fieldLink RX1 129 "TailorChalks$Tailor" "found" "I", Cond.methodLink RX1 132 yX1_dropMarks, Cond.instanceMethod yX1_dropMarks, Cond.selects RX1 yX1_dropMarks yX1_dropMarks, Cond.code yX1_dropMarks cX1_dropMarks 2 none, Cond.methodLink RX1 135 yX5_dropMark, Cond.instanceMethod yX5_dropMark, Cond.selects RX5 yX5_dropMark yX5_dropMark, Cond.code yX5_dropMark cX5_dropMark 4 none, Cond.methodLink RX1 111 yX0_ragOf, Cond.instanceMethod yX0_ragOf, Cond.selects RX0 yX0_ragOf yX0_ragOf, Cond.code yX0_ragOf cX0_ragOf 14 (some .long), Cond.constantLong RX0 53 (-1), Cond.methodLink RX0 67 yX0_spread]
def wsX6_chalk_r7 : List Cond := [Cond.static yX0_spread, Cond.code yX0_spread cX0_spread 14 (some .long), Cond.methodLink RX0 61 yX0_secondCell, Cond.static yX0_secondCell, Cond.code yX0_secondCell cX0_secondCell 1 (some .int), Cond.methodLink RX1 115 yX0_make, Cond.instanceMethod yX0_make, Cond.selects RX0 yX0_make yX0_make, Cond.code yX0_make cX0_make 8 none, Cond.methodLink RX1 119 yX1_loseRag, Cond.instanceMethod yX1_loseRag, Cond.selects RX1 yX1_loseRag yX1_loseRag, Cond.code yX1_loseRag cX1_loseRag 4 none, Cond.methodLink RX1 138 yX0_tearOff, Cond.instanceMethod yX0_tearOff, Cond.selects RX0 yX0_tearOff yX0_tearOff, Cond.code yX0_tearOff cX0_tearOff 3 none, Cond.methodLink RX1 123 yJ13_bitCount_95d88, Cond.methodLink RX1 141 yX5_winRag, Cond.instanceMethod yX5_winRag, Cond.selects RX5 yX5_winRag yX5_winRag, Cond.code yX5_winRag cX5_winRag 2 none, Cond.methodLink RX1 79 yX1_sewJoint, Cond.instanceMethod yX1_sewJoint]
def wsX6_chalk_r8 : List Cond := [Cond.selects RX1 yX1_sewJoint yX1_sewJoint, Cond.code yX1_sewJoint cX1_sewJoint 3 (some .int), Cond.fieldLink RX1 144 "TailorChalks$Tailor" "threads" "I", Cond.methodLink RX1 82 yX1_bluffJoint, Cond.instanceMethod yX1_bluffJoint, Cond.selects RX1 yX1_bluffJoint yX1_bluffJoint, Cond.code yX1_bluffJoint cX1_bluffJoint 2 (some .int), Cond.methodLink RX1 147 yX0_jointsThatAre, Cond.instanceMethod yX0_jointsThatAre, Cond.selects RX0 yX0_jointsThatAre yX0_jointsThatAre, Cond.code yX0_jointsThatAre cX0_jointsThatAre 4 (some .int), Cond.methodLink RX0 55 yX0_isVoid, Cond.methodLink RX1 85 yX1_doubtJoint, Cond.instanceMethod yX1_doubtJoint, Cond.selects RX1 yX1_doubtJoint yX1_doubtJoint, Cond.code yX1_doubtJoint cX1_doubtJoint 4 (some .int), Cond.fieldLink RX1 150 "TailorChalks$Tailor" "rightDoubts" "I", Cond.fieldLink RX1 153 "TailorChalks$Tailor" "wrongDoubts" "I", Cond.methodLink RX1 60 yX0_makerOf, Cond.instanceMethod yX0_makerOf, Cond.selects RX0 yX0_makerOf yX0_makerOf, Cond.code yX0_makerOf cX0_makerOf 2 (some .int), Cond.methodLink RX6 51 yX2_keepNoted, Cond.instanceMethod yX2_keepNoted]
def wsX6_chalk_r9 : List Cond := [Cond.selects RX2 yX2_keepNoted yX2_keepNoted, Cond.code yX2_keepNoted cX2_keepNoted 2 none, Cond.fieldLink RX2 26 "TailorChalks$History" "kept" "I", Cond.fieldLink RX2 13 "TailorChalks$History" "states" "[LTailorChalks$Game;", Cond.methodLink RX2 30 yX2_dropOldest, Cond.instanceMethod yX2_dropOldest, Cond.selects RX2 yX2_dropOldest yX2_dropOldest, Cond.code yX2_dropOldest cX2_dropOldest 3 none]
def wsX6_chalk : List Cond := .code yX6_chalk cX6_chalk 2 (some .int) :: ((wsX6_chalk_r1 ++ (wsX6_chalk_r2 ++ (wsX6_chalk_r3 ++ (wsX6_chalk_r4 ++ (wsX6_chalk_r5 ++ (wsX6_chalk_r6 ++ (wsX6_chalk_r7 ++ (wsX6_chalk_r8 ++ wsX6_chalk_r9)))))))) ++ wsX60 ++ wsX20 ++ wsX10 ++ wsX00 ++ wsX50)
def wsX6_snip_r1 : List Cond := [Cond.methodLink RX6 40 yX6_takeTurn, Cond.instanceMethod yX6_takeTurn, Cond.selects RX6 yX6_takeTurn yX6_takeTurn, Cond.initialized RX6, Cond.code yX6_takeTurn cX6_takeTurn 4 (some .int), Cond.fieldLink RX6 19 "TailorChalks" "history" "LTailorChalks$History;", Cond.fieldLink RX6 10 "TailorChalks" "game" "LTailorChalks$Game;", Cond.methodLink RX6 44 yX2_note, Cond.instanceMethod yX2_note, Cond.selects RX2 yX2_note yX2_note, Cond.initialized RX2, Cond.code yX2_note cX2_note 2 none, Cond.fieldLink RX2 18 "TailorChalks$History" "noted" "LTailorChalks$Game;", Cond.methodLink RX2 22 yX1_become, Cond.instanceMethod yX1_become, Cond.selects RX1 yX1_become yX1_become, Cond.initialized RX1, Cond.code yX1_become cX1_become 2 none, Cond.fieldLink RX1 12 "TailorChalks$Game" "cloth" "LTailorChalks$Cloth;", Cond.fieldLink RX1 21 "TailorChalks$Game" "tailorZero" "LTailorChalks$Tailor;", Cond.fieldLink RX1 25 "TailorChalks$Game" "tailorOne" "LTailorChalks$Tailor;", Cond.fieldLink RX1 35 "TailorChalks$Game" "next" "I", Cond.fieldLink RX1 39 "TailorChalks$Game" "turns" "I", Cond.methodLink RX1 28 yX0_become]
def wsX6_snip_r2 : List Cond := [Cond.instanceMethod yX0_become, Cond.selects RX0 yX0_become yX0_become, Cond.initialized RX0, Cond.code yX0_become cX0_become 3 none, Cond.fieldLink RX0 11 "TailorChalks$Cloth" "states" "[I", Cond.fieldLink RX0 15 "TailorChalks$Cloth" "makers" "[I", Cond.fieldLink RX0 22 "TailorChalks$Cloth" "gone" "J", Cond.fieldLink RX0 26 "TailorChalks$Cloth" "heldAcross" "J", Cond.fieldLink RX0 29 "TailorChalks$Cloth" "heldDown" "J", Cond.methodLink RX1 32 yX5_become, Cond.instanceMethod yX5_become, Cond.selects RX5 yX5_become yX5_become, Cond.initialized RX5, Cond.code yX5_become cX5_become 3 none, Cond.fieldLink RX5 11 "TailorChalks$Tailor" "marked" "[I", Cond.fieldLink RX5 19 "TailorChalks$Tailor" "marks" "I", Cond.fieldLink RX5 22 "TailorChalks$Tailor" "points" "I", Cond.fieldLink RX5 15 "TailorChalks$Tailor" "threads" "I", Cond.fieldLink RX5 25 "TailorChalks$Tailor" "rags" "I", Cond.fieldLink RX5 28 "TailorChalks$Tailor" "ragCells" "I", Cond.fieldLink RX5 31 "TailorChalks$Tailor" "found" "I", Cond.fieldLink RX5 34 "TailorChalks$Tailor" "rightDoubts" "I", Cond.fieldLink RX5 37 "TailorChalks$Tailor" "wrongDoubts" "I", Cond.methodLink RX6 48 yX1_obey]
def wsX6_snip_r3 : List Cond := [Cond.instanceMethod yX1_obey, Cond.selects RX1 yX1_obey yX1_obey, Cond.code yX1_obey cX1_obey 3 (some .int), Cond.methodLink RX1 67 yX1_passOn, Cond.instanceMethod yX1_passOn, Cond.selects RX1 yX1_passOn yX1_passOn, Cond.code yX1_passOn cX1_passOn 1 (some .int), Cond.methodLink RX1 46 yX1_isOver, Cond.instanceMethod yX1_isOver, Cond.selects RX1 yX1_isOver yX1_isOver, Cond.code yX1_isOver cX1_isOver 1 (some .boolean), Cond.methodLink RX1 42 yX0_cellsLeft, Cond.instanceMethod yX0_cellsLeft, Cond.selects RX0 yX0_cellsLeft yX0_cellsLeft, Cond.code yX0_cellsLeft cX0_cellsLeft 1 (some .int), Cond.methodLink RX0 47 yJ13_bitCount_95d88, Cond.static yJ13_bitCount_95d88, Cond.initialized RJ13, Cond.code yJ13_bitCount_95d88 cJ13_bitCount_95d88 2 (some .int), Cond.constantLong RJ13 314 (6148914691236517205), Cond.constantLong RJ13 316 (3689348814741910323), Cond.constantLong RJ13 318 (1085102592571150095), Cond.methodLink RX1 88 yX1_endTurn, Cond.instanceMethod yX1_endTurn]
def wsX6_snip_r4 : List Cond := [Cond.selects RX1 yX1_endTurn yX1_endTurn, Cond.code yX1_endTurn cX1_endTurn 1 none, Cond.methodLink RX1 70 yX0_isJoint, Cond.static yX0_isJoint, Cond.code yX0_isJoint cX0_isJoint 1 (some .boolean), Cond.methodLink RX1 57 yX0_isVoid, Cond.instanceMethod yX0_isVoid, Cond.selects RX0 yX0_isVoid yX0_isVoid, Cond.code yX0_isVoid cX0_isVoid 4 (some .boolean), Cond.methodLink RX0 36 yX0_isDown, Cond.static yX0_isDown, Cond.code yX0_isDown cX0_isDown 1 (some .boolean), Cond.methodLink RX0 32 yX0_firstCell, Cond.static yX0_firstCell, Cond.code yX0_firstCell cX0_firstCell 1 (some .int), Cond.methodLink RX0 43 yX0_has, Cond.static yX0_has, Cond.code yX0_has cX0_has 3 (some .boolean), Cond.methodLink RX1 73 yX1_markJoint, Cond.instanceMethod yX1_markJoint, Cond.selects RX1 yX1_markJoint yX1_markJoint, Cond.code yX1_markJoint cX1_markJoint 3 (some .int), Cond.fieldLink RX1 101 "TailorChalks$Tailor" "marks" "I", Cond.methodLink RX1 91 yX1_tailorOf]
def wsX6_snip_r5 : List Cond := [Cond.instanceMethod yX1_tailorOf, Cond.selects RX1 yX1_tailorOf yX1_tailorOf, Cond.code yX1_tailorOf cX1_tailorOf 2 (some (.object "TailorChalks$Tailor")), Cond.methodLink RX1 95 yX0_holds, Cond.instanceMethod yX0_holds, Cond.selects RX0 yX0_holds yX0_holds, Cond.code yX0_holds cX0_holds 2 (some .boolean), Cond.methodLink RX1 53 yX5_hasMark, Cond.instanceMethod yX5_hasMark, Cond.selects RX5 yX5_hasMark yX5_hasMark, Cond.code yX5_hasMark cX5_hasMark 3 (some .boolean), Cond.methodLink RX1 98 yX5_addMark, Cond.instanceMethod yX5_addMark, Cond.selects RX5 yX5_addMark yX5_addMark, Cond.code yX5_addMark cX5_addMark 2 (some .boolean), Cond.methodLink RX1 76 yX1_snipJoint, Cond.instanceMethod yX1_snipJoint, Cond.selects RX1 yX1_snipJoint yX1_snipJoint, Cond.code yX1_snipJoint cX1_snipJoint 4 (some .int), Cond.methodLink RX1 104 yX1_whyNoSnip, Cond.instanceMethod yX1_whyNoSnip, Cond.selects RX1 yX1_whyNoSnip yX1_whyNoSnip, Cond.code yX1_whyNoSnip cX1_whyNoSnip 2 (some .int), Cond.methodLink RX1 64 yX0_stateOf]
def wsX6_snip_r6 : List Cond := [Cond.instanceMethod yX0_stateOf, Cond.selects RX0 yX0_stateOf yX0_stateOf, Cond.code yX0_stateOf cX0_stateOf 2 (some .int), Cond.methodLink RX0 40 yX0_isJoint, Cond.methodLink RX1 107 yX1_findChalk, Cond.instanceMethod yX1_findChalk, Cond.selects RX1 yX1_findChalk yX1_findChalk, Cond.code yX1_findChalk cX1_findChalk 4 none, Cond.fieldLink RX1 50 "TailorChalks$Tailor" "points" "I", Cond.fieldLink RX1 129 "TailorChalks$Tailor" "found" "I", Cond.methodLink RX1 132 yX1_dropMarks, Cond.instanceMethod yX1_dropMarks, Cond.selects RX1 yX1_dropMarks yX1_dropMarks, Cond.code yX1_dropMarks cX1_dropMarks 2 none, Cond.methodLink RX1 135 yX5_dropMark, Cond.instanceMethod yX5_dropMark, Cond.selects RX5 yX5_dropMark yX5_dropMark, Cond.code yX5_dropMark cX5_dropMark 4 none, Cond.methodLink RX1 111 yX0_ragOf, Cond.instanceMethod yX0_ragOf, Cond.selects RX0 yX0_ragOf yX0_ragOf, Cond.code yX0_ragOf cX0_ragOf 14 (some .long), Cond.constantLong RX0 53 (-1), Cond.methodLink RX0 67 yX0_spread]
def wsX6_snip_r7 : List Cond := [Cond.static yX0_spread, Cond.code yX0_spread cX0_spread 14 (some .long), Cond.methodLink RX0 61 yX0_secondCell, Cond.static yX0_secondCell, Cond.code yX0_secondCell cX0_secondCell 1 (some .int), Cond.methodLink RX1 115 yX0_make, Cond.instanceMethod yX0_make, Cond.selects RX0 yX0_make yX0_make, Cond.code yX0_make cX0_make 8 none, Cond.methodLink RX1 119 yX1_loseRag, Cond.instanceMethod yX1_loseRag, Cond.selects RX1 yX1_loseRag yX1_loseRag, Cond.code yX1_loseRag cX1_loseRag 4 none, Cond.methodLink RX1 138 yX0_tearOff, Cond.instanceMethod yX0_tearOff, Cond.selects RX0 yX0_tearOff yX0_tearOff, Cond.code yX0_tearOff cX0_tearOff 3 none, Cond.methodLink RX1 123 yJ13_bitCount_95d88, Cond.methodLink RX1 141 yX5_winRag, Cond.instanceMethod yX5_winRag, Cond.selects RX5 yX5_winRag yX5_winRag, Cond.code yX5_winRag cX5_winRag 2 none, Cond.methodLink RX1 79 yX1_sewJoint, Cond.instanceMethod yX1_sewJoint]
def wsX6_snip_r8 : List Cond := [Cond.selects RX1 yX1_sewJoint yX1_sewJoint, Cond.code yX1_sewJoint cX1_sewJoint 3 (some .int), Cond.fieldLink RX1 144 "TailorChalks$Tailor" "threads" "I", Cond.methodLink RX1 82 yX1_bluffJoint, Cond.instanceMethod yX1_bluffJoint, Cond.selects RX1 yX1_bluffJoint yX1_bluffJoint, Cond.code yX1_bluffJoint cX1_bluffJoint 2 (some .int), Cond.methodLink RX1 147 yX0_jointsThatAre, Cond.instanceMethod yX0_jointsThatAre, Cond.selects RX0 yX0_jointsThatAre yX0_jointsThatAre, Cond.code yX0_jointsThatAre cX0_jointsThatAre 4 (some .int), Cond.methodLink RX0 55 yX0_isVoid, Cond.methodLink RX1 85 yX1_doubtJoint, Cond.instanceMethod yX1_doubtJoint, Cond.selects RX1 yX1_doubtJoint yX1_doubtJoint, Cond.code yX1_doubtJoint cX1_doubtJoint 4 (some .int), Cond.fieldLink RX1 150 "TailorChalks$Tailor" "rightDoubts" "I", Cond.fieldLink RX1 153 "TailorChalks$Tailor" "wrongDoubts" "I", Cond.methodLink RX1 60 yX0_makerOf, Cond.instanceMethod yX0_makerOf, Cond.selects RX0 yX0_makerOf yX0_makerOf, Cond.code yX0_makerOf cX0_makerOf 2 (some .int), Cond.methodLink RX6 51 yX2_keepNoted, Cond.instanceMethod yX2_keepNoted]
def wsX6_snip_r9 : List Cond := [Cond.selects RX2 yX2_keepNoted yX2_keepNoted, Cond.code yX2_keepNoted cX2_keepNoted 2 none, Cond.fieldLink RX2 26 "TailorChalks$History" "kept" "I", Cond.fieldLink RX2 13 "TailorChalks$History" "states" "[LTailorChalks$Game;", Cond.methodLink RX2 30 yX2_dropOldest, Cond.instanceMethod yX2_dropOldest, Cond.selects RX2 yX2_dropOldest yX2_dropOldest, Cond.code yX2_dropOldest cX2_dropOldest 3 none]
def wsX6_snip : List Cond := .code yX6_snip cX6_snip 2 (some .int) :: ((wsX6_snip_r1 ++ (wsX6_snip_r2 ++ (wsX6_snip_r3 ++ (wsX6_snip_r4 ++ (wsX6_snip_r5 ++ (wsX6_snip_r6 ++ (wsX6_snip_r7 ++ (wsX6_snip_r8 ++ wsX6_snip_r9)))))))) ++ wsX60 ++ wsX20 ++ wsX10 ++ wsX00 ++ wsX50)
def wsX6_sew_r1 : List Cond := [Cond.methodLink RX6 40 yX6_takeTurn, Cond.instanceMethod yX6_takeTurn, Cond.selects RX6 yX6_takeTurn yX6_takeTurn, Cond.initialized RX6, Cond.code yX6_takeTurn cX6_takeTurn 4 (some .int), Cond.fieldLink RX6 19 "TailorChalks" "history" "LTailorChalks$History;", Cond.fieldLink RX6 10 "TailorChalks" "game" "LTailorChalks$Game;", Cond.methodLink RX6 44 yX2_note, Cond.instanceMethod yX2_note, Cond.selects RX2 yX2_note yX2_note, Cond.initialized RX2, Cond.code yX2_note cX2_note 2 none, Cond.fieldLink RX2 18 "TailorChalks$History" "noted" "LTailorChalks$Game;", Cond.methodLink RX2 22 yX1_become, Cond.instanceMethod yX1_become, Cond.selects RX1 yX1_become yX1_become, Cond.initialized RX1, Cond.code yX1_become cX1_become 2 none, Cond.fieldLink RX1 12 "TailorChalks$Game" "cloth" "LTailorChalks$Cloth;", Cond.fieldLink RX1 21 "TailorChalks$Game" "tailorZero" "LTailorChalks$Tailor;", Cond.fieldLink RX1 25 "TailorChalks$Game" "tailorOne" "LTailorChalks$Tailor;", Cond.fieldLink RX1 35 "TailorChalks$Game" "next" "I", Cond.fieldLink RX1 39 "TailorChalks$Game" "turns" "I", Cond.methodLink RX1 28 yX0_become]
def wsX6_sew_r2 : List Cond := [Cond.instanceMethod yX0_become, Cond.selects RX0 yX0_become yX0_become, Cond.initialized RX0, Cond.code yX0_become cX0_become 3 none, Cond.fieldLink RX0 11 "TailorChalks$Cloth" "states" "[I", Cond.fieldLink RX0 15 "TailorChalks$Cloth" "makers" "[I", Cond.fieldLink RX0 22 "TailorChalks$Cloth" "gone" "J", Cond.fieldLink RX0 26 "TailorChalks$Cloth" "heldAcross" "J", Cond.fieldLink RX0 29 "TailorChalks$Cloth" "heldDown" "J", Cond.methodLink RX1 32 yX5_become, Cond.instanceMethod yX5_become, Cond.selects RX5 yX5_become yX5_become, Cond.initialized RX5, Cond.code yX5_become cX5_become 3 none, Cond.fieldLink RX5 11 "TailorChalks$Tailor" "marked" "[I", Cond.fieldLink RX5 19 "TailorChalks$Tailor" "marks" "I", Cond.fieldLink RX5 22 "TailorChalks$Tailor" "points" "I", Cond.fieldLink RX5 15 "TailorChalks$Tailor" "threads" "I", Cond.fieldLink RX5 25 "TailorChalks$Tailor" "rags" "I", Cond.fieldLink RX5 28 "TailorChalks$Tailor" "ragCells" "I", Cond.fieldLink RX5 31 "TailorChalks$Tailor" "found" "I", Cond.fieldLink RX5 34 "TailorChalks$Tailor" "rightDoubts" "I", Cond.fieldLink RX5 37 "TailorChalks$Tailor" "wrongDoubts" "I", Cond.methodLink RX6 48 yX1_obey]
def wsX6_sew_r3 : List Cond := [Cond.instanceMethod yX1_obey, Cond.selects RX1 yX1_obey yX1_obey, Cond.code yX1_obey cX1_obey 3 (some .int), Cond.methodLink RX1 67 yX1_passOn, Cond.instanceMethod yX1_passOn, Cond.selects RX1 yX1_passOn yX1_passOn, Cond.code yX1_passOn cX1_passOn 1 (some .int), Cond.methodLink RX1 46 yX1_isOver, Cond.instanceMethod yX1_isOver, Cond.selects RX1 yX1_isOver yX1_isOver, Cond.code yX1_isOver cX1_isOver 1 (some .boolean), Cond.methodLink RX1 42 yX0_cellsLeft, Cond.instanceMethod yX0_cellsLeft, Cond.selects RX0 yX0_cellsLeft yX0_cellsLeft, Cond.code yX0_cellsLeft cX0_cellsLeft 1 (some .int), Cond.methodLink RX0 47 yJ13_bitCount_95d88, Cond.static yJ13_bitCount_95d88, Cond.initialized RJ13, Cond.code yJ13_bitCount_95d88 cJ13_bitCount_95d88 2 (some .int), Cond.constantLong RJ13 314 (6148914691236517205), Cond.constantLong RJ13 316 (3689348814741910323), Cond.constantLong RJ13 318 (1085102592571150095), Cond.methodLink RX1 88 yX1_endTurn, Cond.instanceMethod yX1_endTurn]
def wsX6_sew_r4 : List Cond := [Cond.selects RX1 yX1_endTurn yX1_endTurn, Cond.code yX1_endTurn cX1_endTurn 1 none, Cond.methodLink RX1 70 yX0_isJoint, Cond.static yX0_isJoint, Cond.code yX0_isJoint cX0_isJoint 1 (some .boolean), Cond.methodLink RX1 57 yX0_isVoid, Cond.instanceMethod yX0_isVoid, Cond.selects RX0 yX0_isVoid yX0_isVoid, Cond.code yX0_isVoid cX0_isVoid 4 (some .boolean), Cond.methodLink RX0 36 yX0_isDown, Cond.static yX0_isDown, Cond.code yX0_isDown cX0_isDown 1 (some .boolean), Cond.methodLink RX0 32 yX0_firstCell, Cond.static yX0_firstCell, Cond.code yX0_firstCell cX0_firstCell 1 (some .int), Cond.methodLink RX0 43 yX0_has, Cond.static yX0_has, Cond.code yX0_has cX0_has 3 (some .boolean), Cond.methodLink RX1 73 yX1_markJoint, Cond.instanceMethod yX1_markJoint, Cond.selects RX1 yX1_markJoint yX1_markJoint, Cond.code yX1_markJoint cX1_markJoint 3 (some .int), Cond.fieldLink RX1 101 "TailorChalks$Tailor" "marks" "I", Cond.methodLink RX1 91 yX1_tailorOf]
def wsX6_sew_r5 : List Cond := [Cond.instanceMethod yX1_tailorOf, Cond.selects RX1 yX1_tailorOf yX1_tailorOf, Cond.code yX1_tailorOf cX1_tailorOf 2 (some (.object "TailorChalks$Tailor")), Cond.methodLink RX1 95 yX0_holds, Cond.instanceMethod yX0_holds, Cond.selects RX0 yX0_holds yX0_holds, Cond.code yX0_holds cX0_holds 2 (some .boolean), Cond.methodLink RX1 53 yX5_hasMark, Cond.instanceMethod yX5_hasMark, Cond.selects RX5 yX5_hasMark yX5_hasMark, Cond.code yX5_hasMark cX5_hasMark 3 (some .boolean), Cond.methodLink RX1 98 yX5_addMark, Cond.instanceMethod yX5_addMark, Cond.selects RX5 yX5_addMark yX5_addMark, Cond.code yX5_addMark cX5_addMark 2 (some .boolean), Cond.methodLink RX1 76 yX1_snipJoint, Cond.instanceMethod yX1_snipJoint, Cond.selects RX1 yX1_snipJoint yX1_snipJoint, Cond.code yX1_snipJoint cX1_snipJoint 4 (some .int), Cond.methodLink RX1 104 yX1_whyNoSnip, Cond.instanceMethod yX1_whyNoSnip, Cond.selects RX1 yX1_whyNoSnip yX1_whyNoSnip, Cond.code yX1_whyNoSnip cX1_whyNoSnip 2 (some .int), Cond.methodLink RX1 64 yX0_stateOf]
def wsX6_sew_r6 : List Cond := [Cond.instanceMethod yX0_stateOf, Cond.selects RX0 yX0_stateOf yX0_stateOf, Cond.code yX0_stateOf cX0_stateOf 2 (some .int), Cond.methodLink RX0 40 yX0_isJoint, Cond.methodLink RX1 107 yX1_findChalk, Cond.instanceMethod yX1_findChalk, Cond.selects RX1 yX1_findChalk yX1_findChalk, Cond.code yX1_findChalk cX1_findChalk 4 none, Cond.fieldLink RX1 50 "TailorChalks$Tailor" "points" "I", Cond.fieldLink RX1 129 "TailorChalks$Tailor" "found" "I", Cond.methodLink RX1 132 yX1_dropMarks, Cond.instanceMethod yX1_dropMarks, Cond.selects RX1 yX1_dropMarks yX1_dropMarks, Cond.code yX1_dropMarks cX1_dropMarks 2 none, Cond.methodLink RX1 135 yX5_dropMark, Cond.instanceMethod yX5_dropMark, Cond.selects RX5 yX5_dropMark yX5_dropMark, Cond.code yX5_dropMark cX5_dropMark 4 none, Cond.methodLink RX1 111 yX0_ragOf, Cond.instanceMethod yX0_ragOf, Cond.selects RX0 yX0_ragOf yX0_ragOf, Cond.code yX0_ragOf cX0_ragOf 14 (some .long), Cond.constantLong RX0 53 (-1), Cond.methodLink RX0 67 yX0_spread]
def wsX6_sew_r7 : List Cond := [Cond.static yX0_spread, Cond.code yX0_spread cX0_spread 14 (some .long), Cond.methodLink RX0 61 yX0_secondCell, Cond.static yX0_secondCell, Cond.code yX0_secondCell cX0_secondCell 1 (some .int), Cond.methodLink RX1 115 yX0_make, Cond.instanceMethod yX0_make, Cond.selects RX0 yX0_make yX0_make, Cond.code yX0_make cX0_make 8 none, Cond.methodLink RX1 119 yX1_loseRag, Cond.instanceMethod yX1_loseRag, Cond.selects RX1 yX1_loseRag yX1_loseRag, Cond.code yX1_loseRag cX1_loseRag 4 none, Cond.methodLink RX1 138 yX0_tearOff, Cond.instanceMethod yX0_tearOff, Cond.selects RX0 yX0_tearOff yX0_tearOff, Cond.code yX0_tearOff cX0_tearOff 3 none, Cond.methodLink RX1 123 yJ13_bitCount_95d88, Cond.methodLink RX1 141 yX5_winRag, Cond.instanceMethod yX5_winRag, Cond.selects RX5 yX5_winRag yX5_winRag, Cond.code yX5_winRag cX5_winRag 2 none, Cond.methodLink RX1 79 yX1_sewJoint, Cond.instanceMethod yX1_sewJoint]
def wsX6_sew_r8 : List Cond := [Cond.selects RX1 yX1_sewJoint yX1_sewJoint, Cond.code yX1_sewJoint cX1_sewJoint 3 (some .int), Cond.fieldLink RX1 144 "TailorChalks$Tailor" "threads" "I", Cond.methodLink RX1 82 yX1_bluffJoint, Cond.instanceMethod yX1_bluffJoint, Cond.selects RX1 yX1_bluffJoint yX1_bluffJoint, Cond.code yX1_bluffJoint cX1_bluffJoint 2 (some .int), Cond.methodLink RX1 147 yX0_jointsThatAre, Cond.instanceMethod yX0_jointsThatAre, Cond.selects RX0 yX0_jointsThatAre yX0_jointsThatAre, Cond.code yX0_jointsThatAre cX0_jointsThatAre 4 (some .int), Cond.methodLink RX0 55 yX0_isVoid, Cond.methodLink RX1 85 yX1_doubtJoint, Cond.instanceMethod yX1_doubtJoint, Cond.selects RX1 yX1_doubtJoint yX1_doubtJoint, Cond.code yX1_doubtJoint cX1_doubtJoint 4 (some .int), Cond.fieldLink RX1 150 "TailorChalks$Tailor" "rightDoubts" "I", Cond.fieldLink RX1 153 "TailorChalks$Tailor" "wrongDoubts" "I", Cond.methodLink RX1 60 yX0_makerOf, Cond.instanceMethod yX0_makerOf, Cond.selects RX0 yX0_makerOf yX0_makerOf, Cond.code yX0_makerOf cX0_makerOf 2 (some .int), Cond.methodLink RX6 51 yX2_keepNoted, Cond.instanceMethod yX2_keepNoted]
def wsX6_sew_r9 : List Cond := [Cond.selects RX2 yX2_keepNoted yX2_keepNoted, Cond.code yX2_keepNoted cX2_keepNoted 2 none, Cond.fieldLink RX2 26 "TailorChalks$History" "kept" "I", Cond.fieldLink RX2 13 "TailorChalks$History" "states" "[LTailorChalks$Game;", Cond.methodLink RX2 30 yX2_dropOldest, Cond.instanceMethod yX2_dropOldest, Cond.selects RX2 yX2_dropOldest yX2_dropOldest, Cond.code yX2_dropOldest cX2_dropOldest 3 none]
def wsX6_sew : List Cond := .code yX6_sew cX6_sew 2 (some .int) :: ((wsX6_sew_r1 ++ (wsX6_sew_r2 ++ (wsX6_sew_r3 ++ (wsX6_sew_r4 ++ (wsX6_sew_r5 ++ (wsX6_sew_r6 ++ (wsX6_sew_r7 ++ (wsX6_sew_r8 ++ wsX6_sew_r9)))))))) ++ wsX60 ++ wsX20 ++ wsX10 ++ wsX00 ++ wsX50)
def wsX6_bluff_r1 : List Cond := [Cond.methodLink RX6 40 yX6_takeTurn, Cond.instanceMethod yX6_takeTurn, Cond.selects RX6 yX6_takeTurn yX6_takeTurn, Cond.initialized RX6, Cond.code yX6_takeTurn cX6_takeTurn 4 (some .int), Cond.fieldLink RX6 19 "TailorChalks" "history" "LTailorChalks$History;", Cond.fieldLink RX6 10 "TailorChalks" "game" "LTailorChalks$Game;", Cond.methodLink RX6 44 yX2_note, Cond.instanceMethod yX2_note, Cond.selects RX2 yX2_note yX2_note, Cond.initialized RX2, Cond.code yX2_note cX2_note 2 none, Cond.fieldLink RX2 18 "TailorChalks$History" "noted" "LTailorChalks$Game;", Cond.methodLink RX2 22 yX1_become, Cond.instanceMethod yX1_become, Cond.selects RX1 yX1_become yX1_become, Cond.initialized RX1, Cond.code yX1_become cX1_become 2 none, Cond.fieldLink RX1 12 "TailorChalks$Game" "cloth" "LTailorChalks$Cloth;", Cond.fieldLink RX1 21 "TailorChalks$Game" "tailorZero" "LTailorChalks$Tailor;", Cond.fieldLink RX1 25 "TailorChalks$Game" "tailorOne" "LTailorChalks$Tailor;", Cond.fieldLink RX1 35 "TailorChalks$Game" "next" "I", Cond.fieldLink RX1 39 "TailorChalks$Game" "turns" "I", Cond.methodLink RX1 28 yX0_become]
def wsX6_bluff_r2 : List Cond := [Cond.instanceMethod yX0_become, Cond.selects RX0 yX0_become yX0_become, Cond.initialized RX0, Cond.code yX0_become cX0_become 3 none, Cond.fieldLink RX0 11 "TailorChalks$Cloth" "states" "[I", Cond.fieldLink RX0 15 "TailorChalks$Cloth" "makers" "[I", Cond.fieldLink RX0 22 "TailorChalks$Cloth" "gone" "J", Cond.fieldLink RX0 26 "TailorChalks$Cloth" "heldAcross" "J", Cond.fieldLink RX0 29 "TailorChalks$Cloth" "heldDown" "J", Cond.methodLink RX1 32 yX5_become, Cond.instanceMethod yX5_become, Cond.selects RX5 yX5_become yX5_become, Cond.initialized RX5, Cond.code yX5_become cX5_become 3 none, Cond.fieldLink RX5 11 "TailorChalks$Tailor" "marked" "[I", Cond.fieldLink RX5 19 "TailorChalks$Tailor" "marks" "I", Cond.fieldLink RX5 22 "TailorChalks$Tailor" "points" "I", Cond.fieldLink RX5 15 "TailorChalks$Tailor" "threads" "I", Cond.fieldLink RX5 25 "TailorChalks$Tailor" "rags" "I", Cond.fieldLink RX5 28 "TailorChalks$Tailor" "ragCells" "I", Cond.fieldLink RX5 31 "TailorChalks$Tailor" "found" "I", Cond.fieldLink RX5 34 "TailorChalks$Tailor" "rightDoubts" "I", Cond.fieldLink RX5 37 "TailorChalks$Tailor" "wrongDoubts" "I", Cond.methodLink RX6 48 yX1_obey]
def wsX6_bluff_r3 : List Cond := [Cond.instanceMethod yX1_obey, Cond.selects RX1 yX1_obey yX1_obey, Cond.code yX1_obey cX1_obey 3 (some .int), Cond.methodLink RX1 67 yX1_passOn, Cond.instanceMethod yX1_passOn, Cond.selects RX1 yX1_passOn yX1_passOn, Cond.code yX1_passOn cX1_passOn 1 (some .int), Cond.methodLink RX1 46 yX1_isOver, Cond.instanceMethod yX1_isOver, Cond.selects RX1 yX1_isOver yX1_isOver, Cond.code yX1_isOver cX1_isOver 1 (some .boolean), Cond.methodLink RX1 42 yX0_cellsLeft, Cond.instanceMethod yX0_cellsLeft, Cond.selects RX0 yX0_cellsLeft yX0_cellsLeft, Cond.code yX0_cellsLeft cX0_cellsLeft 1 (some .int), Cond.methodLink RX0 47 yJ13_bitCount_95d88, Cond.static yJ13_bitCount_95d88, Cond.initialized RJ13, Cond.code yJ13_bitCount_95d88 cJ13_bitCount_95d88 2 (some .int), Cond.constantLong RJ13 314 (6148914691236517205), Cond.constantLong RJ13 316 (3689348814741910323), Cond.constantLong RJ13 318 (1085102592571150095), Cond.methodLink RX1 88 yX1_endTurn, Cond.instanceMethod yX1_endTurn]
def wsX6_bluff_r4 : List Cond := [Cond.selects RX1 yX1_endTurn yX1_endTurn, Cond.code yX1_endTurn cX1_endTurn 1 none, Cond.methodLink RX1 70 yX0_isJoint, Cond.static yX0_isJoint, Cond.code yX0_isJoint cX0_isJoint 1 (some .boolean), Cond.methodLink RX1 57 yX0_isVoid, Cond.instanceMethod yX0_isVoid, Cond.selects RX0 yX0_isVoid yX0_isVoid, Cond.code yX0_isVoid cX0_isVoid 4 (some .boolean), Cond.methodLink RX0 36 yX0_isDown, Cond.static yX0_isDown, Cond.code yX0_isDown cX0_isDown 1 (some .boolean), Cond.methodLink RX0 32 yX0_firstCell, Cond.static yX0_firstCell, Cond.code yX0_firstCell cX0_firstCell 1 (some .int), Cond.methodLink RX0 43 yX0_has, Cond.static yX0_has, Cond.code yX0_has cX0_has 3 (some .boolean), Cond.methodLink RX1 73 yX1_markJoint, Cond.instanceMethod yX1_markJoint, Cond.selects RX1 yX1_markJoint yX1_markJoint, Cond.code yX1_markJoint cX1_markJoint 3 (some .int), Cond.fieldLink RX1 101 "TailorChalks$Tailor" "marks" "I", Cond.methodLink RX1 91 yX1_tailorOf]
def wsX6_bluff_r5 : List Cond := [Cond.instanceMethod yX1_tailorOf, Cond.selects RX1 yX1_tailorOf yX1_tailorOf, Cond.code yX1_tailorOf cX1_tailorOf 2 (some (.object "TailorChalks$Tailor")), Cond.methodLink RX1 95 yX0_holds, Cond.instanceMethod yX0_holds, Cond.selects RX0 yX0_holds yX0_holds, Cond.code yX0_holds cX0_holds 2 (some .boolean), Cond.methodLink RX1 53 yX5_hasMark, Cond.instanceMethod yX5_hasMark, Cond.selects RX5 yX5_hasMark yX5_hasMark, Cond.code yX5_hasMark cX5_hasMark 3 (some .boolean), Cond.methodLink RX1 98 yX5_addMark, Cond.instanceMethod yX5_addMark, Cond.selects RX5 yX5_addMark yX5_addMark, Cond.code yX5_addMark cX5_addMark 2 (some .boolean), Cond.methodLink RX1 76 yX1_snipJoint, Cond.instanceMethod yX1_snipJoint, Cond.selects RX1 yX1_snipJoint yX1_snipJoint, Cond.code yX1_snipJoint cX1_snipJoint 4 (some .int), Cond.methodLink RX1 104 yX1_whyNoSnip, Cond.instanceMethod yX1_whyNoSnip, Cond.selects RX1 yX1_whyNoSnip yX1_whyNoSnip, Cond.code yX1_whyNoSnip cX1_whyNoSnip 2 (some .int), Cond.methodLink RX1 64 yX0_stateOf]
def wsX6_bluff_r6 : List Cond := [Cond.instanceMethod yX0_stateOf, Cond.selects RX0 yX0_stateOf yX0_stateOf, Cond.code yX0_stateOf cX0_stateOf 2 (some .int), Cond.methodLink RX0 40 yX0_isJoint, Cond.methodLink RX1 107 yX1_findChalk, Cond.instanceMethod yX1_findChalk, Cond.selects RX1 yX1_findChalk yX1_findChalk, Cond.code yX1_findChalk cX1_findChalk 4 none, Cond.fieldLink RX1 50 "TailorChalks$Tailor" "points" "I", Cond.fieldLink RX1 129 "TailorChalks$Tailor" "found" "I", Cond.methodLink RX1 132 yX1_dropMarks, Cond.instanceMethod yX1_dropMarks, Cond.selects RX1 yX1_dropMarks yX1_dropMarks, Cond.code yX1_dropMarks cX1_dropMarks 2 none, Cond.methodLink RX1 135 yX5_dropMark, Cond.instanceMethod yX5_dropMark, Cond.selects RX5 yX5_dropMark yX5_dropMark, Cond.code yX5_dropMark cX5_dropMark 4 none, Cond.methodLink RX1 111 yX0_ragOf, Cond.instanceMethod yX0_ragOf, Cond.selects RX0 yX0_ragOf yX0_ragOf, Cond.code yX0_ragOf cX0_ragOf 14 (some .long), Cond.constantLong RX0 53 (-1), Cond.methodLink RX0 67 yX0_spread]
def wsX6_bluff_r7 : List Cond := [Cond.static yX0_spread, Cond.code yX0_spread cX0_spread 14 (some .long), Cond.methodLink RX0 61 yX0_secondCell, Cond.static yX0_secondCell, Cond.code yX0_secondCell cX0_secondCell 1 (some .int), Cond.methodLink RX1 115 yX0_make, Cond.instanceMethod yX0_make, Cond.selects RX0 yX0_make yX0_make, Cond.code yX0_make cX0_make 8 none, Cond.methodLink RX1 119 yX1_loseRag, Cond.instanceMethod yX1_loseRag, Cond.selects RX1 yX1_loseRag yX1_loseRag, Cond.code yX1_loseRag cX1_loseRag 4 none, Cond.methodLink RX1 138 yX0_tearOff, Cond.instanceMethod yX0_tearOff, Cond.selects RX0 yX0_tearOff yX0_tearOff, Cond.code yX0_tearOff cX0_tearOff 3 none, Cond.methodLink RX1 123 yJ13_bitCount_95d88, Cond.methodLink RX1 141 yX5_winRag, Cond.instanceMethod yX5_winRag, Cond.selects RX5 yX5_winRag yX5_winRag, Cond.code yX5_winRag cX5_winRag 2 none, Cond.methodLink RX1 79 yX1_sewJoint, Cond.instanceMethod yX1_sewJoint]
def wsX6_bluff_r8 : List Cond := [Cond.selects RX1 yX1_sewJoint yX1_sewJoint, Cond.code yX1_sewJoint cX1_sewJoint 3 (some .int), Cond.fieldLink RX1 144 "TailorChalks$Tailor" "threads" "I", Cond.methodLink RX1 82 yX1_bluffJoint, Cond.instanceMethod yX1_bluffJoint, Cond.selects RX1 yX1_bluffJoint yX1_bluffJoint, Cond.code yX1_bluffJoint cX1_bluffJoint 2 (some .int), Cond.methodLink RX1 147 yX0_jointsThatAre, Cond.instanceMethod yX0_jointsThatAre, Cond.selects RX0 yX0_jointsThatAre yX0_jointsThatAre, Cond.code yX0_jointsThatAre cX0_jointsThatAre 4 (some .int), Cond.methodLink RX0 55 yX0_isVoid, Cond.methodLink RX1 85 yX1_doubtJoint, Cond.instanceMethod yX1_doubtJoint, Cond.selects RX1 yX1_doubtJoint yX1_doubtJoint, Cond.code yX1_doubtJoint cX1_doubtJoint 4 (some .int), Cond.fieldLink RX1 150 "TailorChalks$Tailor" "rightDoubts" "I", Cond.fieldLink RX1 153 "TailorChalks$Tailor" "wrongDoubts" "I", Cond.methodLink RX1 60 yX0_makerOf, Cond.instanceMethod yX0_makerOf, Cond.selects RX0 yX0_makerOf yX0_makerOf, Cond.code yX0_makerOf cX0_makerOf 2 (some .int), Cond.methodLink RX6 51 yX2_keepNoted, Cond.instanceMethod yX2_keepNoted]
def wsX6_bluff_r9 : List Cond := [Cond.selects RX2 yX2_keepNoted yX2_keepNoted, Cond.code yX2_keepNoted cX2_keepNoted 2 none, Cond.fieldLink RX2 26 "TailorChalks$History" "kept" "I", Cond.fieldLink RX2 13 "TailorChalks$History" "states" "[LTailorChalks$Game;", Cond.methodLink RX2 30 yX2_dropOldest, Cond.instanceMethod yX2_dropOldest, Cond.selects RX2 yX2_dropOldest yX2_dropOldest, Cond.code yX2_dropOldest cX2_dropOldest 3 none]
def wsX6_bluff : List Cond := .code yX6_bluff cX6_bluff 2 (some .int) :: ((wsX6_bluff_r1 ++ (wsX6_bluff_r2 ++ (wsX6_bluff_r3 ++ (wsX6_bluff_r4 ++ (wsX6_bluff_r5 ++ (wsX6_bluff_r6 ++ (wsX6_bluff_r7 ++ (wsX6_bluff_r8 ++ wsX6_bluff_r9)))))))) ++ wsX60 ++ wsX20 ++ wsX10 ++ wsX00 ++ wsX50)
def wsX6_doubt_r1 : List Cond := [Cond.methodLink RX6 40 yX6_takeTurn, Cond.instanceMethod yX6_takeTurn, Cond.selects RX6 yX6_takeTurn yX6_takeTurn, Cond.initialized RX6, Cond.code yX6_takeTurn cX6_takeTurn 4 (some .int), Cond.fieldLink RX6 19 "TailorChalks" "history" "LTailorChalks$History;", Cond.fieldLink RX6 10 "TailorChalks" "game" "LTailorChalks$Game;", Cond.methodLink RX6 44 yX2_note, Cond.instanceMethod yX2_note, Cond.selects RX2 yX2_note yX2_note, Cond.initialized RX2, Cond.code yX2_note cX2_note 2 none, Cond.fieldLink RX2 18 "TailorChalks$History" "noted" "LTailorChalks$Game;", Cond.methodLink RX2 22 yX1_become, Cond.instanceMethod yX1_become, Cond.selects RX1 yX1_become yX1_become, Cond.initialized RX1, Cond.code yX1_become cX1_become 2 none, Cond.fieldLink RX1 12 "TailorChalks$Game" "cloth" "LTailorChalks$Cloth;", Cond.fieldLink RX1 21 "TailorChalks$Game" "tailorZero" "LTailorChalks$Tailor;", Cond.fieldLink RX1 25 "TailorChalks$Game" "tailorOne" "LTailorChalks$Tailor;", Cond.fieldLink RX1 35 "TailorChalks$Game" "next" "I", Cond.fieldLink RX1 39 "TailorChalks$Game" "turns" "I", Cond.methodLink RX1 28 yX0_become]
def wsX6_doubt_r2 : List Cond := [Cond.instanceMethod yX0_become, Cond.selects RX0 yX0_become yX0_become, Cond.initialized RX0, Cond.code yX0_become cX0_become 3 none, Cond.fieldLink RX0 11 "TailorChalks$Cloth" "states" "[I", Cond.fieldLink RX0 15 "TailorChalks$Cloth" "makers" "[I", Cond.fieldLink RX0 22 "TailorChalks$Cloth" "gone" "J", Cond.fieldLink RX0 26 "TailorChalks$Cloth" "heldAcross" "J", Cond.fieldLink RX0 29 "TailorChalks$Cloth" "heldDown" "J", Cond.methodLink RX1 32 yX5_become, Cond.instanceMethod yX5_become, Cond.selects RX5 yX5_become yX5_become, Cond.initialized RX5, Cond.code yX5_become cX5_become 3 none, Cond.fieldLink RX5 11 "TailorChalks$Tailor" "marked" "[I", Cond.fieldLink RX5 19 "TailorChalks$Tailor" "marks" "I", Cond.fieldLink RX5 22 "TailorChalks$Tailor" "points" "I", Cond.fieldLink RX5 15 "TailorChalks$Tailor" "threads" "I", Cond.fieldLink RX5 25 "TailorChalks$Tailor" "rags" "I", Cond.fieldLink RX5 28 "TailorChalks$Tailor" "ragCells" "I", Cond.fieldLink RX5 31 "TailorChalks$Tailor" "found" "I", Cond.fieldLink RX5 34 "TailorChalks$Tailor" "rightDoubts" "I", Cond.fieldLink RX5 37 "TailorChalks$Tailor" "wrongDoubts" "I", Cond.methodLink RX6 48 yX1_obey]
def wsX6_doubt_r3 : List Cond := [Cond.instanceMethod yX1_obey, Cond.selects RX1 yX1_obey yX1_obey, Cond.code yX1_obey cX1_obey 3 (some .int), Cond.methodLink RX1 67 yX1_passOn, Cond.instanceMethod yX1_passOn, Cond.selects RX1 yX1_passOn yX1_passOn, Cond.code yX1_passOn cX1_passOn 1 (some .int), Cond.methodLink RX1 46 yX1_isOver, Cond.instanceMethod yX1_isOver, Cond.selects RX1 yX1_isOver yX1_isOver, Cond.code yX1_isOver cX1_isOver 1 (some .boolean), Cond.methodLink RX1 42 yX0_cellsLeft, Cond.instanceMethod yX0_cellsLeft, Cond.selects RX0 yX0_cellsLeft yX0_cellsLeft, Cond.code yX0_cellsLeft cX0_cellsLeft 1 (some .int), Cond.methodLink RX0 47 yJ13_bitCount_95d88, Cond.static yJ13_bitCount_95d88, Cond.initialized RJ13, Cond.code yJ13_bitCount_95d88 cJ13_bitCount_95d88 2 (some .int), Cond.constantLong RJ13 314 (6148914691236517205), Cond.constantLong RJ13 316 (3689348814741910323), Cond.constantLong RJ13 318 (1085102592571150095), Cond.methodLink RX1 88 yX1_endTurn, Cond.instanceMethod yX1_endTurn]
def wsX6_doubt_r4 : List Cond := [Cond.selects RX1 yX1_endTurn yX1_endTurn, Cond.code yX1_endTurn cX1_endTurn 1 none, Cond.methodLink RX1 70 yX0_isJoint, Cond.static yX0_isJoint, Cond.code yX0_isJoint cX0_isJoint 1 (some .boolean), Cond.methodLink RX1 57 yX0_isVoid, Cond.instanceMethod yX0_isVoid, Cond.selects RX0 yX0_isVoid yX0_isVoid, Cond.code yX0_isVoid cX0_isVoid 4 (some .boolean), Cond.methodLink RX0 36 yX0_isDown, Cond.static yX0_isDown, Cond.code yX0_isDown cX0_isDown 1 (some .boolean), Cond.methodLink RX0 32 yX0_firstCell, Cond.static yX0_firstCell, Cond.code yX0_firstCell cX0_firstCell 1 (some .int), Cond.methodLink RX0 43 yX0_has, Cond.static yX0_has, Cond.code yX0_has cX0_has 3 (some .boolean), Cond.methodLink RX1 73 yX1_markJoint, Cond.instanceMethod yX1_markJoint, Cond.selects RX1 yX1_markJoint yX1_markJoint, Cond.code yX1_markJoint cX1_markJoint 3 (some .int), Cond.fieldLink RX1 101 "TailorChalks$Tailor" "marks" "I", Cond.methodLink RX1 91 yX1_tailorOf]
def wsX6_doubt_r5 : List Cond := [Cond.instanceMethod yX1_tailorOf, Cond.selects RX1 yX1_tailorOf yX1_tailorOf, Cond.code yX1_tailorOf cX1_tailorOf 2 (some (.object "TailorChalks$Tailor")), Cond.methodLink RX1 95 yX0_holds, Cond.instanceMethod yX0_holds, Cond.selects RX0 yX0_holds yX0_holds, Cond.code yX0_holds cX0_holds 2 (some .boolean), Cond.methodLink RX1 53 yX5_hasMark, Cond.instanceMethod yX5_hasMark, Cond.selects RX5 yX5_hasMark yX5_hasMark, Cond.code yX5_hasMark cX5_hasMark 3 (some .boolean), Cond.methodLink RX1 98 yX5_addMark, Cond.instanceMethod yX5_addMark, Cond.selects RX5 yX5_addMark yX5_addMark, Cond.code yX5_addMark cX5_addMark 2 (some .boolean), Cond.methodLink RX1 76 yX1_snipJoint, Cond.instanceMethod yX1_snipJoint, Cond.selects RX1 yX1_snipJoint yX1_snipJoint, Cond.code yX1_snipJoint cX1_snipJoint 4 (some .int), Cond.methodLink RX1 104 yX1_whyNoSnip, Cond.instanceMethod yX1_whyNoSnip, Cond.selects RX1 yX1_whyNoSnip yX1_whyNoSnip, Cond.code yX1_whyNoSnip cX1_whyNoSnip 2 (some .int), Cond.methodLink RX1 64 yX0_stateOf]
def wsX6_doubt_r6 : List Cond := [Cond.instanceMethod yX0_stateOf, Cond.selects RX0 yX0_stateOf yX0_stateOf, Cond.code yX0_stateOf cX0_stateOf 2 (some .int), Cond.methodLink RX0 40 yX0_isJoint, Cond.methodLink RX1 107 yX1_findChalk, Cond.instanceMethod yX1_findChalk, Cond.selects RX1 yX1_findChalk yX1_findChalk, Cond.code yX1_findChalk cX1_findChalk 4 none, Cond.fieldLink RX1 50 "TailorChalks$Tailor" "points" "I", Cond.fieldLink RX1 129 "TailorChalks$Tailor" "found" "I", Cond.methodLink RX1 132 yX1_dropMarks, Cond.instanceMethod yX1_dropMarks, Cond.selects RX1 yX1_dropMarks yX1_dropMarks, Cond.code yX1_dropMarks cX1_dropMarks 2 none, Cond.methodLink RX1 135 yX5_dropMark, Cond.instanceMethod yX5_dropMark, Cond.selects RX5 yX5_dropMark yX5_dropMark, Cond.code yX5_dropMark cX5_dropMark 4 none, Cond.methodLink RX1 111 yX0_ragOf, Cond.instanceMethod yX0_ragOf, Cond.selects RX0 yX0_ragOf yX0_ragOf, Cond.code yX0_ragOf cX0_ragOf 14 (some .long), Cond.constantLong RX0 53 (-1), Cond.methodLink RX0 67 yX0_spread]
def wsX6_doubt_r7 : List Cond := [Cond.static yX0_spread, Cond.code yX0_spread cX0_spread 14 (some .long), Cond.methodLink RX0 61 yX0_secondCell, Cond.static yX0_secondCell, Cond.code yX0_secondCell cX0_secondCell 1 (some .int), Cond.methodLink RX1 115 yX0_make, Cond.instanceMethod yX0_make, Cond.selects RX0 yX0_make yX0_make, Cond.code yX0_make cX0_make 8 none, Cond.methodLink RX1 119 yX1_loseRag, Cond.instanceMethod yX1_loseRag, Cond.selects RX1 yX1_loseRag yX1_loseRag, Cond.code yX1_loseRag cX1_loseRag 4 none, Cond.methodLink RX1 138 yX0_tearOff, Cond.instanceMethod yX0_tearOff, Cond.selects RX0 yX0_tearOff yX0_tearOff, Cond.code yX0_tearOff cX0_tearOff 3 none, Cond.methodLink RX1 123 yJ13_bitCount_95d88, Cond.methodLink RX1 141 yX5_winRag, Cond.instanceMethod yX5_winRag, Cond.selects RX5 yX5_winRag yX5_winRag, Cond.code yX5_winRag cX5_winRag 2 none, Cond.methodLink RX1 79 yX1_sewJoint, Cond.instanceMethod yX1_sewJoint]
def wsX6_doubt_r8 : List Cond := [Cond.selects RX1 yX1_sewJoint yX1_sewJoint, Cond.code yX1_sewJoint cX1_sewJoint 3 (some .int), Cond.fieldLink RX1 144 "TailorChalks$Tailor" "threads" "I", Cond.methodLink RX1 82 yX1_bluffJoint, Cond.instanceMethod yX1_bluffJoint, Cond.selects RX1 yX1_bluffJoint yX1_bluffJoint, Cond.code yX1_bluffJoint cX1_bluffJoint 2 (some .int), Cond.methodLink RX1 147 yX0_jointsThatAre, Cond.instanceMethod yX0_jointsThatAre, Cond.selects RX0 yX0_jointsThatAre yX0_jointsThatAre, Cond.code yX0_jointsThatAre cX0_jointsThatAre 4 (some .int), Cond.methodLink RX0 55 yX0_isVoid, Cond.methodLink RX1 85 yX1_doubtJoint, Cond.instanceMethod yX1_doubtJoint, Cond.selects RX1 yX1_doubtJoint yX1_doubtJoint, Cond.code yX1_doubtJoint cX1_doubtJoint 4 (some .int), Cond.fieldLink RX1 150 "TailorChalks$Tailor" "rightDoubts" "I", Cond.fieldLink RX1 153 "TailorChalks$Tailor" "wrongDoubts" "I", Cond.methodLink RX1 60 yX0_makerOf, Cond.instanceMethod yX0_makerOf, Cond.selects RX0 yX0_makerOf yX0_makerOf, Cond.code yX0_makerOf cX0_makerOf 2 (some .int), Cond.methodLink RX6 51 yX2_keepNoted, Cond.instanceMethod yX2_keepNoted]
def wsX6_doubt_r9 : List Cond := [Cond.selects RX2 yX2_keepNoted yX2_keepNoted, Cond.code yX2_keepNoted cX2_keepNoted 2 none, Cond.fieldLink RX2 26 "TailorChalks$History" "kept" "I", Cond.fieldLink RX2 13 "TailorChalks$History" "states" "[LTailorChalks$Game;", Cond.methodLink RX2 30 yX2_dropOldest, Cond.instanceMethod yX2_dropOldest, Cond.selects RX2 yX2_dropOldest yX2_dropOldest, Cond.code yX2_dropOldest cX2_dropOldest 3 none]
def wsX6_doubt : List Cond := .code yX6_doubt cX6_doubt 2 (some .int) :: ((wsX6_doubt_r1 ++ (wsX6_doubt_r2 ++ (wsX6_doubt_r3 ++ (wsX6_doubt_r4 ++ (wsX6_doubt_r5 ++ (wsX6_doubt_r6 ++ (wsX6_doubt_r7 ++ (wsX6_doubt_r8 ++ wsX6_doubt_r9)))))))) ++ wsX60 ++ wsX20 ++ wsX10 ++ wsX00 ++ wsX50)
def wsX6_pass_r1 : List Cond := [Cond.methodLink RX6 40 yX6_takeTurn, Cond.instanceMethod yX6_takeTurn, Cond.selects RX6 yX6_takeTurn yX6_takeTurn, Cond.initialized RX6, Cond.code yX6_takeTurn cX6_takeTurn 4 (some .int), Cond.fieldLink RX6 19 "TailorChalks" "history" "LTailorChalks$History;", Cond.fieldLink RX6 10 "TailorChalks" "game" "LTailorChalks$Game;", Cond.methodLink RX6 44 yX2_note, Cond.instanceMethod yX2_note, Cond.selects RX2 yX2_note yX2_note, Cond.initialized RX2, Cond.code yX2_note cX2_note 2 none, Cond.fieldLink RX2 18 "TailorChalks$History" "noted" "LTailorChalks$Game;", Cond.methodLink RX2 22 yX1_become, Cond.instanceMethod yX1_become, Cond.selects RX1 yX1_become yX1_become, Cond.initialized RX1, Cond.code yX1_become cX1_become 2 none, Cond.fieldLink RX1 12 "TailorChalks$Game" "cloth" "LTailorChalks$Cloth;", Cond.fieldLink RX1 21 "TailorChalks$Game" "tailorZero" "LTailorChalks$Tailor;", Cond.fieldLink RX1 25 "TailorChalks$Game" "tailorOne" "LTailorChalks$Tailor;", Cond.fieldLink RX1 35 "TailorChalks$Game" "next" "I", Cond.fieldLink RX1 39 "TailorChalks$Game" "turns" "I", Cond.methodLink RX1 28 yX0_become]
def wsX6_pass_r2 : List Cond := [Cond.instanceMethod yX0_become, Cond.selects RX0 yX0_become yX0_become, Cond.initialized RX0, Cond.code yX0_become cX0_become 3 none, Cond.fieldLink RX0 11 "TailorChalks$Cloth" "states" "[I", Cond.fieldLink RX0 15 "TailorChalks$Cloth" "makers" "[I", Cond.fieldLink RX0 22 "TailorChalks$Cloth" "gone" "J", Cond.fieldLink RX0 26 "TailorChalks$Cloth" "heldAcross" "J", Cond.fieldLink RX0 29 "TailorChalks$Cloth" "heldDown" "J", Cond.methodLink RX1 32 yX5_become, Cond.instanceMethod yX5_become, Cond.selects RX5 yX5_become yX5_become, Cond.initialized RX5, Cond.code yX5_become cX5_become 3 none, Cond.fieldLink RX5 11 "TailorChalks$Tailor" "marked" "[I", Cond.fieldLink RX5 19 "TailorChalks$Tailor" "marks" "I", Cond.fieldLink RX5 22 "TailorChalks$Tailor" "points" "I", Cond.fieldLink RX5 15 "TailorChalks$Tailor" "threads" "I", Cond.fieldLink RX5 25 "TailorChalks$Tailor" "rags" "I", Cond.fieldLink RX5 28 "TailorChalks$Tailor" "ragCells" "I", Cond.fieldLink RX5 31 "TailorChalks$Tailor" "found" "I", Cond.fieldLink RX5 34 "TailorChalks$Tailor" "rightDoubts" "I", Cond.fieldLink RX5 37 "TailorChalks$Tailor" "wrongDoubts" "I", Cond.methodLink RX6 48 yX1_obey]
def wsX6_pass_r3 : List Cond := [Cond.instanceMethod yX1_obey, Cond.selects RX1 yX1_obey yX1_obey, Cond.code yX1_obey cX1_obey 3 (some .int), Cond.methodLink RX1 67 yX1_passOn, Cond.instanceMethod yX1_passOn, Cond.selects RX1 yX1_passOn yX1_passOn, Cond.code yX1_passOn cX1_passOn 1 (some .int), Cond.methodLink RX1 46 yX1_isOver, Cond.instanceMethod yX1_isOver, Cond.selects RX1 yX1_isOver yX1_isOver, Cond.code yX1_isOver cX1_isOver 1 (some .boolean), Cond.methodLink RX1 42 yX0_cellsLeft, Cond.instanceMethod yX0_cellsLeft, Cond.selects RX0 yX0_cellsLeft yX0_cellsLeft, Cond.code yX0_cellsLeft cX0_cellsLeft 1 (some .int), Cond.methodLink RX0 47 yJ13_bitCount_95d88, Cond.static yJ13_bitCount_95d88, Cond.initialized RJ13, Cond.code yJ13_bitCount_95d88 cJ13_bitCount_95d88 2 (some .int), Cond.constantLong RJ13 314 (6148914691236517205), Cond.constantLong RJ13 316 (3689348814741910323), Cond.constantLong RJ13 318 (1085102592571150095), Cond.methodLink RX1 88 yX1_endTurn, Cond.instanceMethod yX1_endTurn]
def wsX6_pass_r4 : List Cond := [Cond.selects RX1 yX1_endTurn yX1_endTurn, Cond.code yX1_endTurn cX1_endTurn 1 none, Cond.methodLink RX1 70 yX0_isJoint, Cond.static yX0_isJoint, Cond.code yX0_isJoint cX0_isJoint 1 (some .boolean), Cond.methodLink RX1 57 yX0_isVoid, Cond.instanceMethod yX0_isVoid, Cond.selects RX0 yX0_isVoid yX0_isVoid, Cond.code yX0_isVoid cX0_isVoid 4 (some .boolean), Cond.methodLink RX0 36 yX0_isDown, Cond.static yX0_isDown, Cond.code yX0_isDown cX0_isDown 1 (some .boolean), Cond.methodLink RX0 32 yX0_firstCell, Cond.static yX0_firstCell, Cond.code yX0_firstCell cX0_firstCell 1 (some .int), Cond.methodLink RX0 43 yX0_has, Cond.static yX0_has, Cond.code yX0_has cX0_has 3 (some .boolean), Cond.methodLink RX1 73 yX1_markJoint, Cond.instanceMethod yX1_markJoint, Cond.selects RX1 yX1_markJoint yX1_markJoint, Cond.code yX1_markJoint cX1_markJoint 3 (some .int), Cond.fieldLink RX1 101 "TailorChalks$Tailor" "marks" "I", Cond.methodLink RX1 91 yX1_tailorOf]
def wsX6_pass_r5 : List Cond := [Cond.instanceMethod yX1_tailorOf, Cond.selects RX1 yX1_tailorOf yX1_tailorOf, Cond.code yX1_tailorOf cX1_tailorOf 2 (some (.object "TailorChalks$Tailor")), Cond.methodLink RX1 95 yX0_holds, Cond.instanceMethod yX0_holds, Cond.selects RX0 yX0_holds yX0_holds, Cond.code yX0_holds cX0_holds 2 (some .boolean), Cond.methodLink RX1 53 yX5_hasMark, Cond.instanceMethod yX5_hasMark, Cond.selects RX5 yX5_hasMark yX5_hasMark, Cond.code yX5_hasMark cX5_hasMark 3 (some .boolean), Cond.methodLink RX1 98 yX5_addMark, Cond.instanceMethod yX5_addMark, Cond.selects RX5 yX5_addMark yX5_addMark, Cond.code yX5_addMark cX5_addMark 2 (some .boolean), Cond.methodLink RX1 76 yX1_snipJoint, Cond.instanceMethod yX1_snipJoint, Cond.selects RX1 yX1_snipJoint yX1_snipJoint, Cond.code yX1_snipJoint cX1_snipJoint 4 (some .int), Cond.methodLink RX1 104 yX1_whyNoSnip, Cond.instanceMethod yX1_whyNoSnip, Cond.selects RX1 yX1_whyNoSnip yX1_whyNoSnip, Cond.code yX1_whyNoSnip cX1_whyNoSnip 2 (some .int), Cond.methodLink RX1 64 yX0_stateOf]
def wsX6_pass_r6 : List Cond := [Cond.instanceMethod yX0_stateOf, Cond.selects RX0 yX0_stateOf yX0_stateOf, Cond.code yX0_stateOf cX0_stateOf 2 (some .int), Cond.methodLink RX0 40 yX0_isJoint, Cond.methodLink RX1 107 yX1_findChalk, Cond.instanceMethod yX1_findChalk, Cond.selects RX1 yX1_findChalk yX1_findChalk, Cond.code yX1_findChalk cX1_findChalk 4 none, Cond.fieldLink RX1 50 "TailorChalks$Tailor" "points" "I", Cond.fieldLink RX1 129 "TailorChalks$Tailor" "found" "I", Cond.methodLink RX1 132 yX1_dropMarks, Cond.instanceMethod yX1_dropMarks, Cond.selects RX1 yX1_dropMarks yX1_dropMarks, Cond.code yX1_dropMarks cX1_dropMarks 2 none, Cond.methodLink RX1 135 yX5_dropMark, Cond.instanceMethod yX5_dropMark, Cond.selects RX5 yX5_dropMark yX5_dropMark, Cond.code yX5_dropMark cX5_dropMark 4 none, Cond.methodLink RX1 111 yX0_ragOf, Cond.instanceMethod yX0_ragOf, Cond.selects RX0 yX0_ragOf yX0_ragOf, Cond.code yX0_ragOf cX0_ragOf 14 (some .long), Cond.constantLong RX0 53 (-1), Cond.methodLink RX0 67 yX0_spread]
def wsX6_pass_r7 : List Cond := [Cond.static yX0_spread, Cond.code yX0_spread cX0_spread 14 (some .long), Cond.methodLink RX0 61 yX0_secondCell, Cond.static yX0_secondCell, Cond.code yX0_secondCell cX0_secondCell 1 (some .int), Cond.methodLink RX1 115 yX0_make, Cond.instanceMethod yX0_make, Cond.selects RX0 yX0_make yX0_make, Cond.code yX0_make cX0_make 8 none, Cond.methodLink RX1 119 yX1_loseRag, Cond.instanceMethod yX1_loseRag, Cond.selects RX1 yX1_loseRag yX1_loseRag, Cond.code yX1_loseRag cX1_loseRag 4 none, Cond.methodLink RX1 138 yX0_tearOff, Cond.instanceMethod yX0_tearOff, Cond.selects RX0 yX0_tearOff yX0_tearOff, Cond.code yX0_tearOff cX0_tearOff 3 none, Cond.methodLink RX1 123 yJ13_bitCount_95d88, Cond.methodLink RX1 141 yX5_winRag, Cond.instanceMethod yX5_winRag, Cond.selects RX5 yX5_winRag yX5_winRag, Cond.code yX5_winRag cX5_winRag 2 none, Cond.methodLink RX1 79 yX1_sewJoint, Cond.instanceMethod yX1_sewJoint]
def wsX6_pass_r8 : List Cond := [Cond.selects RX1 yX1_sewJoint yX1_sewJoint, Cond.code yX1_sewJoint cX1_sewJoint 3 (some .int), Cond.fieldLink RX1 144 "TailorChalks$Tailor" "threads" "I", Cond.methodLink RX1 82 yX1_bluffJoint, Cond.instanceMethod yX1_bluffJoint, Cond.selects RX1 yX1_bluffJoint yX1_bluffJoint, Cond.code yX1_bluffJoint cX1_bluffJoint 2 (some .int), Cond.methodLink RX1 147 yX0_jointsThatAre, Cond.instanceMethod yX0_jointsThatAre, Cond.selects RX0 yX0_jointsThatAre yX0_jointsThatAre, Cond.code yX0_jointsThatAre cX0_jointsThatAre 4 (some .int), Cond.methodLink RX0 55 yX0_isVoid, Cond.methodLink RX1 85 yX1_doubtJoint, Cond.instanceMethod yX1_doubtJoint, Cond.selects RX1 yX1_doubtJoint yX1_doubtJoint, Cond.code yX1_doubtJoint cX1_doubtJoint 4 (some .int), Cond.fieldLink RX1 150 "TailorChalks$Tailor" "rightDoubts" "I", Cond.fieldLink RX1 153 "TailorChalks$Tailor" "wrongDoubts" "I", Cond.methodLink RX1 60 yX0_makerOf, Cond.instanceMethod yX0_makerOf, Cond.selects RX0 yX0_makerOf yX0_makerOf, Cond.code yX0_makerOf cX0_makerOf 2 (some .int), Cond.methodLink RX6 51 yX2_keepNoted, Cond.instanceMethod yX2_keepNoted]
def wsX6_pass_r9 : List Cond := [Cond.selects RX2 yX2_keepNoted yX2_keepNoted, Cond.code yX2_keepNoted cX2_keepNoted 2 none, Cond.fieldLink RX2 26 "TailorChalks$History" "kept" "I", Cond.fieldLink RX2 13 "TailorChalks$History" "states" "[LTailorChalks$Game;", Cond.methodLink RX2 30 yX2_dropOldest, Cond.instanceMethod yX2_dropOldest, Cond.selects RX2 yX2_dropOldest yX2_dropOldest, Cond.code yX2_dropOldest cX2_dropOldest 3 none]
def wsX6_pass : List Cond := .code yX6_pass cX6_pass 1 (some .int) :: ((wsX6_pass_r1 ++ (wsX6_pass_r2 ++ (wsX6_pass_r3 ++ (wsX6_pass_r4 ++ (wsX6_pass_r5 ++ (wsX6_pass_r6 ++ (wsX6_pass_r7 ++ (wsX6_pass_r8 ++ wsX6_pass_r9)))))))) ++ wsX60 ++ wsX20 ++ wsX10 ++ wsX00 ++ wsX50)
def wsX6_asNumber : List Cond := .code yX6_asNumber cX6_asNumber 1 (some .int) :: ([])
def wsX6_of_r1 : List Cond := [Cond.fieldLink RX6 10 "TailorChalks" "game" "LTailorChalks$Game;", Cond.fieldLink RX6 60 "TailorChalks$Game" "cloth" "LTailorChalks$Cloth;", Cond.methodLink RX6 54 yX0_isJoint, Cond.static yX0_isJoint, Cond.initialized RX0, Cond.code yX0_isJoint cX0_isJoint 1 (some .boolean), Cond.methodLink RX6 64 yX0_stateOf, Cond.instanceMethod yX0_stateOf, Cond.selects RX0 yX0_stateOf yX0_stateOf, Cond.code yX0_stateOf cX0_stateOf 2 (some .int), Cond.fieldLink RX0 11 "TailorChalks$Cloth" "states" "[I", Cond.methodLink RX0 40 yX0_isJoint, Cond.methodLink RX6 68 yX0_isVoid, Cond.instanceMethod yX0_isVoid, Cond.selects RX0 yX0_isVoid yX0_isVoid, Cond.code yX0_isVoid cX0_isVoid 4 (some .boolean), Cond.fieldLink RX0 22 "TailorChalks$Cloth" "gone" "J", Cond.methodLink RX0 36 yX0_isDown, Cond.static yX0_isDown, Cond.code yX0_isDown cX0_isDown 1 (some .boolean), Cond.methodLink RX0 32 yX0_firstCell, Cond.static yX0_firstCell, Cond.code yX0_firstCell cX0_firstCell 1 (some .int), Cond.methodLink RX0 43 yX0_has]
def wsX6_of_r2 : List Cond := [Cond.static yX0_has, Cond.code yX0_has cX0_has 3 (some .boolean), Cond.methodLink RX6 71 yX6_asNumber, Cond.static yX6_asNumber, Cond.initialized RX6, Cond.code yX6_asNumber cX6_asNumber 1 (some .int), Cond.methodLink RX6 75 yX0_firstCell, Cond.methodLink RX6 78 yX0_secondCell, Cond.static yX0_secondCell, Cond.code yX0_secondCell cX0_secondCell 1 (some .int), Cond.methodLink RX6 81 yX1_chalkersOf, Cond.instanceMethod yX1_chalkersOf, Cond.selects RX1 yX1_chalkersOf yX1_chalkersOf, Cond.initialized RX1, Cond.code yX1_chalkersOf cX1_chalkersOf 2 (some .int), Cond.fieldLink RX1 21 "TailorChalks$Game" "tailorZero" "LTailorChalks$Tailor;", Cond.fieldLink RX1 25 "TailorChalks$Game" "tailorOne" "LTailorChalks$Tailor;", Cond.methodLink RX1 53 yX5_hasMark, Cond.instanceMethod yX5_hasMark, Cond.selects RX5 yX5_hasMark yX5_hasMark, Cond.initialized RX5, Cond.code yX5_hasMark cX5_hasMark 3 (some .boolean), Cond.fieldLink RX5 19 "TailorChalks$Tailor" "marks" "I", Cond.fieldLink RX5 11 "TailorChalks$Tailor" "marked" "[I"]
def wsX6_of_r3 : List Cond := [Cond.methodLink RX6 84 yX1_doubtableMaker, Cond.instanceMethod yX1_doubtableMaker, Cond.selects RX1 yX1_doubtableMaker yX1_doubtableMaker, Cond.code yX1_doubtableMaker cX1_doubtableMaker 2 (some .int), Cond.fieldLink RX1 12 "TailorChalks$Game" "cloth" "LTailorChalks$Cloth;", Cond.methodLink RX1 46 yX1_isOver, Cond.instanceMethod yX1_isOver, Cond.selects RX1 yX1_isOver yX1_isOver, Cond.code yX1_isOver cX1_isOver 1 (some .boolean), Cond.fieldLink RX1 39 "TailorChalks$Game" "turns" "I", Cond.methodLink RX1 42 yX0_cellsLeft, Cond.instanceMethod yX0_cellsLeft, Cond.selects RX0 yX0_cellsLeft yX0_cellsLeft, Cond.code yX0_cellsLeft cX0_cellsLeft 1 (some .int), Cond.methodLink RX0 47 yJ13_bitCount_95d88, Cond.static yJ13_bitCount_95d88, Cond.initialized RJ13, Cond.code yJ13_bitCount_95d88 cJ13_bitCount_95d88 2 (some .int), Cond.constantLong RJ13 314 (6148914691236517205), Cond.constantLong RJ13 316 (3689348814741910323), Cond.constantLong RJ13 318 (1085102592571150095), Cond.methodLink RX1 57 yX0_isVoid, Cond.methodLink RX1 60 yX0_makerOf, Cond.instanceMethod yX0_makerOf]
def wsX6_of_r4 : List Cond := [Cond.selects RX0 yX0_makerOf yX0_makerOf, Cond.code yX0_makerOf cX0_makerOf 2 (some .int), Cond.fieldLink RX0 15 "TailorChalks$Cloth" "makers" "[I", Cond.methodLink RX6 87 yX0_holds, Cond.instanceMethod yX0_holds, Cond.selects RX0 yX0_holds yX0_holds, Cond.code yX0_holds cX0_holds 2 (some .boolean), Cond.fieldLink RX0 29 "TailorChalks$Cloth" "heldDown" "J", Cond.fieldLink RX0 26 "TailorChalks$Cloth" "heldAcross" "J"]
def wsX6_of : List Cond := .code yX6_of cX6_of 3 (some .int) :: ((wsX6_of_r1 ++ (wsX6_of_r2 ++ (wsX6_of_r3 ++ wsX6_of_r4))) ++ wsX60 ++ wsX10 ++ wsX00 ++ wsX50)
def wsX6_cell_r1 : List Cond := [Cond.fieldLink RX6 10 "TailorChalks" "game" "LTailorChalks$Game;", Cond.fieldLink RX6 60 "TailorChalks$Game" "cloth" "LTailorChalks$Cloth;", Cond.methodLink RX6 90 yX0_isCell, Cond.static yX0_isCell, Cond.initialized RX0, Cond.code yX0_isCell cX0_isCell 1 (some .boolean), Cond.methodLink RX6 93 yX0_isGone, Cond.instanceMethod yX0_isGone, Cond.selects RX0 yX0_isGone yX0_isGone, Cond.code yX0_isGone cX0_isGone 2 (some .boolean), Cond.fieldLink RX0 22 "TailorChalks$Cloth" "gone" "J", Cond.methodLink RX0 43 yX0_has, Cond.static yX0_has, Cond.code yX0_has cX0_has 3 (some .boolean), Cond.methodLink RX6 71 yX6_asNumber, Cond.static yX6_asNumber, Cond.initialized RX6, Cond.code yX6_asNumber cX6_asNumber 1 (some .int), Cond.methodLink RX6 96 yX0_pieceOf, Cond.instanceMethod yX0_pieceOf, Cond.selects RX0 yX0_pieceOf yX0_pieceOf, Cond.code yX0_pieceOf cX0_pieceOf 2 (some .long), Cond.fieldLink RX0 26 "TailorChalks$Cloth" "heldAcross" "J", Cond.fieldLink RX0 29 "TailorChalks$Cloth" "heldDown" "J"]
def wsX6_cell_r2 : List Cond := [Cond.methodLink RX0 64 yX0_isGone, Cond.methodLink RX0 67 yX0_spread, Cond.static yX0_spread, Cond.code yX0_spread cX0_spread 14 (some .long), Cond.methodLink RX6 100 yJ13_bitCount_95d88, Cond.static yJ13_bitCount_95d88, Cond.initialized RJ13, Cond.code yJ13_bitCount_95d88 cJ13_bitCount_95d88 2 (some .int), Cond.constantLong RJ13 314 (6148914691236517205), Cond.constantLong RJ13 316 (3689348814741910323), Cond.constantLong RJ13 318 (1085102592571150095), Cond.methodLink RX6 106 yX0_lowestOfPiece, Cond.instanceMethod yX0_lowestOfPiece, Cond.selects RX0 yX0_lowestOfPiece yX0_lowestOfPiece, Cond.code yX0_lowestOfPiece cX0_lowestOfPiece 5 (some .int), Cond.methodLink RX0 71 yX0_pieceOf, Cond.methodLink RX6 109 yX0_holdsOn, Cond.instanceMethod yX0_holdsOn, Cond.selects RX0 yX0_holdsOn yX0_holdsOn, Cond.code yX0_holdsOn cX0_holdsOn 4 (some .int), Cond.methodLink RX0 58 yX0_holds, Cond.instanceMethod yX0_holds, Cond.selects RX0 yX0_holds yX0_holds, Cond.code yX0_holds cX0_holds 2 (some .boolean)]
def wsX6_cell_r3 : List Cond := [Cond.methodLink RX0 36 yX0_isDown, Cond.static yX0_isDown, Cond.code yX0_isDown cX0_isDown 1 (some .boolean), Cond.methodLink RX0 32 yX0_firstCell, Cond.static yX0_firstCell, Cond.code yX0_firstCell cX0_firstCell 1 (some .int), Cond.methodLink RX0 61 yX0_secondCell, Cond.static yX0_secondCell, Cond.code yX0_secondCell cX0_secondCell 1 (some .int)]
def wsX6_cell : List Cond := .code yX6_cell cX6_cell 3 (some .int) :: ((wsX6_cell_r1 ++ (wsX6_cell_r2 ++ wsX6_cell_r3)) ++ wsX60 ++ wsX10 ++ wsX00)
def wsX6_player : List Cond := .code yX6_player cX6_player 4 (some .int) :: ([.fieldLink RX6 10 "TailorChalks" "game" "LTailorChalks$Game;", .fieldLink RX6 119 "TailorChalks$Tailor" "points" "I", .fieldLink RX6 125 "TailorChalks$Tailor" "threads" "I", .fieldLink RX6 128 "TailorChalks$Tailor" "marks" "I", .fieldLink RX6 131 "TailorChalks$Tailor" "rags" "I", .fieldLink RX6 134 "TailorChalks$Tailor" "ragCells" "I", .fieldLink RX6 137 "TailorChalks$Tailor" "found" "I", .fieldLink RX6 140 "TailorChalks$Tailor" "rightDoubts" "I", .fieldLink RX6 143 "TailorChalks$Tailor" "wrongDoubts" "I", .methodLink RX6 112 yX1_isPlayer, .static yX1_isPlayer, .initialized RX1, .code yX1_isPlayer cX1_isPlayer 1 (some .boolean), .methodLink RX6 115 yX1_tailorOf, .instanceMethod yX1_tailorOf, .selects RX1 yX1_tailorOf yX1_tailorOf, .code yX1_tailorOf cX1_tailorOf 2 (some (.object "TailorChalks$Tailor")), .fieldLink RX1 21 "TailorChalks$Game" "tailorZero" "LTailorChalks$Tailor;", .fieldLink RX1 25 "TailorChalks$Game" "tailorOne" "LTailorChalks$Tailor;"] ++ wsX60 ++ wsX50 ++ wsX10)
def wsX6_chalked : List Cond := .code yX6_chalked cX6_chalked 3 (some .int) :: ([.fieldLink RX6 10 "TailorChalks" "game" "LTailorChalks$Game;", .methodLink RX6 112 yX1_isPlayer, .static yX1_isPlayer, .initialized RX1, .code yX1_isPlayer cX1_isPlayer 1 (some .boolean), .methodLink RX6 115 yX1_tailorOf, .instanceMethod yX1_tailorOf, .selects RX1 yX1_tailorOf yX1_tailorOf, .code yX1_tailorOf cX1_tailorOf 2 (some (.object "TailorChalks$Tailor")), .fieldLink RX1 21 "TailorChalks$Game" "tailorZero" "LTailorChalks$Tailor;", .fieldLink RX1 25 "TailorChalks$Game" "tailorOne" "LTailorChalks$Tailor;", .methodLink RX6 146 yX5_markAt, .instanceMethod yX5_markAt, .selects RX5 yX5_markAt yX5_markAt, .initialized RX5, .code yX5_markAt cX5_markAt 2 (some .int), .fieldLink RX5 19 "TailorChalks$Tailor" "marks" "I", .fieldLink RX5 11 "TailorChalks$Tailor" "marked" "[I"] ++ wsX60 ++ wsX10 ++ wsX50)
def wsX6_count_r1 : List Cond := [Cond.fieldLink RX6 10 "TailorChalks" "game" "LTailorChalks$Game;", Cond.fieldLink RX6 149 "TailorChalks$Game" "turns" "I", Cond.fieldLink RX6 152 "TailorChalks$Game" "next" "I", Cond.fieldLink RX6 60 "TailorChalks$Game" "cloth" "LTailorChalks$Cloth;", Cond.fieldLink RX6 36 "TailorChalks" "pad" "LTailorChalks$Pad;", Cond.fieldLink RX6 172 "TailorChalks$Pad" "length" "I", Cond.fieldLink RX6 19 "TailorChalks" "history" "LTailorChalks$History;", Cond.fieldLink RX6 175 "TailorChalks$History" "kept" "I", Cond.methodLink RX6 155 yX1_isOver, Cond.instanceMethod yX1_isOver, Cond.selects RX1 yX1_isOver yX1_isOver, Cond.initialized RX1, Cond.code yX1_isOver cX1_isOver 1 (some .boolean), Cond.fieldLink RX1 39 "TailorChalks$Game" "turns" "I", Cond.fieldLink RX1 12 "TailorChalks$Game" "cloth" "LTailorChalks$Cloth;", Cond.methodLink RX1 42 yX0_cellsLeft, Cond.instanceMethod yX0_cellsLeft, Cond.selects RX0 yX0_cellsLeft yX0_cellsLeft, Cond.initialized RX0, Cond.code yX0_cellsLeft cX0_cellsLeft 1 (some .int), Cond.fieldLink RX0 22 "TailorChalks$Cloth" "gone" "J", Cond.methodLink RX0 47 yJ13_bitCount_95d88, Cond.static yJ13_bitCount_95d88, Cond.initialized RJ13]
def wsX6_count_r2 : List Cond := [Cond.code yJ13_bitCount_95d88 cJ13_bitCount_95d88 2 (some .int), Cond.constantLong RJ13 314 (6148914691236517205), Cond.constantLong RJ13 316 (3689348814741910323), Cond.constantLong RJ13 318 (1085102592571150095), Cond.methodLink RX6 71 yX6_asNumber, Cond.static yX6_asNumber, Cond.initialized RX6, Cond.code yX6_asNumber cX6_asNumber 1 (some .int), Cond.methodLink RX6 159 yX1_winner, Cond.instanceMethod yX1_winner, Cond.selects RX1 yX1_winner yX1_winner, Cond.code yX1_winner cX1_winner 1 (some .int), Cond.fieldLink RX1 21 "TailorChalks$Game" "tailorZero" "LTailorChalks$Tailor;", Cond.fieldLink RX1 50 "TailorChalks$Tailor" "points" "I", Cond.fieldLink RX1 25 "TailorChalks$Game" "tailorOne" "LTailorChalks$Tailor;", Cond.methodLink RX1 46 yX1_isOver, Cond.methodLink RX6 163 yX0_cellsLeft, Cond.methodLink RX6 166 yX0_pieces, Cond.instanceMethod yX0_pieces, Cond.selects RX0 yX0_pieces yX0_pieces, Cond.code yX0_pieces cX0_pieces 5 (some .int), Cond.methodLink RX0 43 yX0_has, Cond.static yX0_has, Cond.code yX0_has cX0_has 3 (some .boolean)]
def wsX6_count_r3 : List Cond := [Cond.methodLink RX0 71 yX0_pieceOf, Cond.instanceMethod yX0_pieceOf, Cond.selects RX0 yX0_pieceOf yX0_pieceOf, Cond.code yX0_pieceOf cX0_pieceOf 2 (some .long), Cond.fieldLink RX0 26 "TailorChalks$Cloth" "heldAcross" "J", Cond.fieldLink RX0 29 "TailorChalks$Cloth" "heldDown" "J", Cond.methodLink RX0 64 yX0_isGone, Cond.instanceMethod yX0_isGone, Cond.selects RX0 yX0_isGone yX0_isGone, Cond.code yX0_isGone cX0_isGone 2 (some .boolean), Cond.methodLink RX0 67 yX0_spread, Cond.static yX0_spread, Cond.code yX0_spread cX0_spread 14 (some .long), Cond.methodLink RX6 169 yX0_jointsThatAre, Cond.instanceMethod yX0_jointsThatAre, Cond.selects RX0 yX0_jointsThatAre yX0_jointsThatAre, Cond.code yX0_jointsThatAre cX0_jointsThatAre 4 (some .int), Cond.fieldLink RX0 11 "TailorChalks$Cloth" "states" "[I", Cond.methodLink RX0 55 yX0_isVoid, Cond.instanceMethod yX0_isVoid, Cond.selects RX0 yX0_isVoid yX0_isVoid, Cond.code yX0_isVoid cX0_isVoid 4 (some .boolean), Cond.methodLink RX0 36 yX0_isDown, Cond.static yX0_isDown]
def wsX6_count_r4 : List Cond := [Cond.code yX0_isDown cX0_isDown 1 (some .boolean), Cond.methodLink RX0 32 yX0_firstCell, Cond.static yX0_firstCell, Cond.code yX0_firstCell cX0_firstCell 1 (some .int)]
def wsX6_count : List Cond := .code yX6_count cX6_count 2 (some .int) :: ((wsX6_count_r1 ++ (wsX6_count_r2 ++ (wsX6_count_r3 ++ wsX6_count_r4))) ++ wsX60 ++ wsX10 ++ wsX30 ++ wsX20 ++ wsX00 ++ wsX50)
def wsX6_why_r1 : List Cond := [Cond.fieldLink RX6 10 "TailorChalks" "game" "LTailorChalks$Game;", Cond.methodLink RX6 54 yX0_isJoint, Cond.static yX0_isJoint, Cond.initialized RX0, Cond.code yX0_isJoint cX0_isJoint 1 (some .boolean), Cond.methodLink RX6 178 yX1_whyNoSnip, Cond.instanceMethod yX1_whyNoSnip, Cond.selects RX1 yX1_whyNoSnip yX1_whyNoSnip, Cond.initialized RX1, Cond.code yX1_whyNoSnip cX1_whyNoSnip 2 (some .int), Cond.fieldLink RX1 12 "TailorChalks$Game" "cloth" "LTailorChalks$Cloth;", Cond.methodLink RX1 46 yX1_isOver, Cond.instanceMethod yX1_isOver, Cond.selects RX1 yX1_isOver yX1_isOver, Cond.code yX1_isOver cX1_isOver 1 (some .boolean), Cond.fieldLink RX1 39 "TailorChalks$Game" "turns" "I", Cond.methodLink RX1 42 yX0_cellsLeft, Cond.instanceMethod yX0_cellsLeft, Cond.selects RX0 yX0_cellsLeft yX0_cellsLeft, Cond.code yX0_cellsLeft cX0_cellsLeft 1 (some .int), Cond.fieldLink RX0 22 "TailorChalks$Cloth" "gone" "J", Cond.methodLink RX0 47 yJ13_bitCount_95d88, Cond.static yJ13_bitCount_95d88, Cond.initialized RJ13]
def wsX6_why_r2 : List Cond := [Cond.code yJ13_bitCount_95d88 cJ13_bitCount_95d88 2 (some .int), Cond.constantLong RJ13 314 (6148914691236517205), Cond.constantLong RJ13 316 (3689348814741910323), Cond.constantLong RJ13 318 (1085102592571150095), Cond.methodLink RX1 57 yX0_isVoid, Cond.instanceMethod yX0_isVoid, Cond.selects RX0 yX0_isVoid yX0_isVoid, Cond.code yX0_isVoid cX0_isVoid 4 (some .boolean), Cond.methodLink RX0 36 yX0_isDown, Cond.static yX0_isDown, Cond.code yX0_isDown cX0_isDown 1 (some .boolean), Cond.methodLink RX0 32 yX0_firstCell, Cond.static yX0_firstCell, Cond.code yX0_firstCell cX0_firstCell 1 (some .int), Cond.methodLink RX0 43 yX0_has, Cond.static yX0_has, Cond.code yX0_has cX0_has 3 (some .boolean), Cond.methodLink RX1 64 yX0_stateOf, Cond.instanceMethod yX0_stateOf, Cond.selects RX0 yX0_stateOf yX0_stateOf, Cond.code yX0_stateOf cX0_stateOf 2 (some .int), Cond.fieldLink RX0 11 "TailorChalks$Cloth" "states" "[I", Cond.methodLink RX0 40 yX0_isJoint]
def wsX6_why : List Cond := .code yX6_why cX6_why 2 (some .int) :: ((wsX6_why_r1 ++ wsX6_why_r2) ++ wsX60 ++ wsX10 ++ wsX00)
def wsX6_ifSnipped_r1 : List Cond := [Cond.fieldLink RX6 10 "TailorChalks" "game" "LTailorChalks$Game;", Cond.fieldLink RX6 60 "TailorChalks$Game" "cloth" "LTailorChalks$Cloth;", Cond.methodLink RX6 54 yX0_isJoint, Cond.static yX0_isJoint, Cond.initialized RX0, Cond.code yX0_isJoint cX0_isJoint 1 (some .boolean), Cond.methodLink RX6 178 yX1_whyNoSnip, Cond.instanceMethod yX1_whyNoSnip, Cond.selects RX1 yX1_whyNoSnip yX1_whyNoSnip, Cond.initialized RX1, Cond.code yX1_whyNoSnip cX1_whyNoSnip 2 (some .int), Cond.fieldLink RX1 12 "TailorChalks$Game" "cloth" "LTailorChalks$Cloth;", Cond.methodLink RX1 46 yX1_isOver, Cond.instanceMethod yX1_isOver, Cond.selects RX1 yX1_isOver yX1_isOver, Cond.code yX1_isOver cX1_isOver 1 (some .boolean), Cond.fieldLink RX1 39 "TailorChalks$Game" "turns" "I", Cond.methodLink RX1 42 yX0_cellsLeft, Cond.instanceMethod yX0_cellsLeft, Cond.selects RX0 yX0_cellsLeft yX0_cellsLeft, Cond.code yX0_cellsLeft cX0_cellsLeft 1 (some .int), Cond.fieldLink RX0 22 "TailorChalks$Cloth" "gone" "J", Cond.methodLink RX0 47 yJ13_bitCount_95d88, Cond.static yJ13_bitCount_95d88]
def wsX6_ifSnipped_r2 : List Cond := [Cond.initialized RJ13, Cond.code yJ13_bitCount_95d88 cJ13_bitCount_95d88 2 (some .int), Cond.constantLong RJ13 314 (6148914691236517205), Cond.constantLong RJ13 316 (3689348814741910323), Cond.constantLong RJ13 318 (1085102592571150095), Cond.methodLink RX1 57 yX0_isVoid, Cond.instanceMethod yX0_isVoid, Cond.selects RX0 yX0_isVoid yX0_isVoid, Cond.code yX0_isVoid cX0_isVoid 4 (some .boolean), Cond.methodLink RX0 36 yX0_isDown, Cond.static yX0_isDown, Cond.code yX0_isDown cX0_isDown 1 (some .boolean), Cond.methodLink RX0 32 yX0_firstCell, Cond.static yX0_firstCell, Cond.code yX0_firstCell cX0_firstCell 1 (some .int), Cond.methodLink RX0 43 yX0_has, Cond.static yX0_has, Cond.code yX0_has cX0_has 3 (some .boolean), Cond.methodLink RX1 64 yX0_stateOf, Cond.instanceMethod yX0_stateOf, Cond.selects RX0 yX0_stateOf yX0_stateOf, Cond.code yX0_stateOf cX0_stateOf 2 (some .int), Cond.fieldLink RX0 11 "TailorChalks$Cloth" "states" "[I", Cond.methodLink RX0 40 yX0_isJoint]
def wsX6_ifSnipped_r3 : List Cond := [Cond.methodLink RX6 181 yX0_ragOf, Cond.instanceMethod yX0_ragOf, Cond.selects RX0 yX0_ragOf yX0_ragOf, Cond.code yX0_ragOf cX0_ragOf 14 (some .long), Cond.fieldLink RX0 26 "TailorChalks$Cloth" "heldAcross" "J", Cond.constantLong RX0 53 (-1), Cond.fieldLink RX0 29 "TailorChalks$Cloth" "heldDown" "J", Cond.methodLink RX0 67 yX0_spread, Cond.static yX0_spread, Cond.code yX0_spread cX0_spread 14 (some .long), Cond.methodLink RX0 61 yX0_secondCell, Cond.static yX0_secondCell, Cond.code yX0_secondCell cX0_secondCell 1 (some .int), Cond.methodLink RX6 100 yJ13_bitCount_95d88]
def wsX6_ifSnipped : List Cond := .code yX6_ifSnipped cX6_ifSnipped 2 (some .int) :: ((wsX6_ifSnipped_r1 ++ (wsX6_ifSnipped_r2 ++ wsX6_ifSnipped_r3)) ++ wsX60 ++ wsX10 ++ wsX00)
def wsX6_bestSnip_r1 : List Cond := [Cond.fieldLink RX6 10 "TailorChalks" "game" "LTailorChalks$Game;", Cond.methodLink RX6 184 yX1_bestJoint, Cond.instanceMethod yX1_bestJoint, Cond.selects RX1 yX1_bestJoint yX1_bestJoint, Cond.initialized RX1, Cond.code yX1_bestJoint cX1_bestJoint 5 (some .int), Cond.methodLink RX1 104 yX1_whyNoSnip, Cond.instanceMethod yX1_whyNoSnip, Cond.selects RX1 yX1_whyNoSnip yX1_whyNoSnip, Cond.code yX1_whyNoSnip cX1_whyNoSnip 2 (some .int), Cond.fieldLink RX1 12 "TailorChalks$Game" "cloth" "LTailorChalks$Cloth;", Cond.methodLink RX1 46 yX1_isOver, Cond.instanceMethod yX1_isOver, Cond.selects RX1 yX1_isOver yX1_isOver, Cond.code yX1_isOver cX1_isOver 1 (some .boolean), Cond.fieldLink RX1 39 "TailorChalks$Game" "turns" "I", Cond.methodLink RX1 42 yX0_cellsLeft, Cond.instanceMethod yX0_cellsLeft, Cond.selects RX0 yX0_cellsLeft yX0_cellsLeft, Cond.initialized RX0, Cond.code yX0_cellsLeft cX0_cellsLeft 1 (some .int), Cond.fieldLink RX0 22 "TailorChalks$Cloth" "gone" "J", Cond.methodLink RX0 47 yJ13_bitCount_95d88, Cond.static yJ13_bitCount_95d88]
def wsX6_bestSnip_r2 : List Cond := [Cond.initialized RJ13, Cond.code yJ13_bitCount_95d88 cJ13_bitCount_95d88 2 (some .int), Cond.constantLong RJ13 314 (6148914691236517205), Cond.constantLong RJ13 316 (3689348814741910323), Cond.constantLong RJ13 318 (1085102592571150095), Cond.methodLink RX1 57 yX0_isVoid, Cond.instanceMethod yX0_isVoid, Cond.selects RX0 yX0_isVoid yX0_isVoid, Cond.code yX0_isVoid cX0_isVoid 4 (some .boolean), Cond.methodLink RX0 36 yX0_isDown, Cond.static yX0_isDown, Cond.code yX0_isDown cX0_isDown 1 (some .boolean), Cond.methodLink RX0 32 yX0_firstCell, Cond.static yX0_firstCell, Cond.code yX0_firstCell cX0_firstCell 1 (some .int), Cond.methodLink RX0 43 yX0_has, Cond.static yX0_has, Cond.code yX0_has cX0_has 3 (some .boolean), Cond.methodLink RX1 64 yX0_stateOf, Cond.instanceMethod yX0_stateOf, Cond.selects RX0 yX0_stateOf yX0_stateOf, Cond.code yX0_stateOf cX0_stateOf 2 (some .int), Cond.fieldLink RX0 11 "TailorChalks$Cloth" "states" "[I", Cond.methodLink RX0 40 yX0_isJoint]
def wsX6_bestSnip_r3 : List Cond := [Cond.static yX0_isJoint, Cond.code yX0_isJoint cX0_isJoint 1 (some .boolean), Cond.methodLink RX1 156 yX1_openGain, Cond.instanceMethod yX1_openGain, Cond.selects RX1 yX1_openGain yX1_openGain, Cond.code yX1_openGain cX1_openGain 3 (some .int), Cond.fieldLink RX1 35 "TailorChalks$Game" "next" "I", Cond.methodLink RX1 91 yX1_tailorOf, Cond.instanceMethod yX1_tailorOf, Cond.selects RX1 yX1_tailorOf yX1_tailorOf, Cond.code yX1_tailorOf cX1_tailorOf 2 (some (.object "TailorChalks$Tailor")), Cond.fieldLink RX1 21 "TailorChalks$Game" "tailorZero" "LTailorChalks$Tailor;", Cond.fieldLink RX1 25 "TailorChalks$Game" "tailorOne" "LTailorChalks$Tailor;", Cond.methodLink RX1 53 yX5_hasMark, Cond.instanceMethod yX5_hasMark, Cond.selects RX5 yX5_hasMark yX5_hasMark, Cond.initialized RX5, Cond.code yX5_hasMark cX5_hasMark 3 (some .boolean), Cond.fieldLink RX5 19 "TailorChalks$Tailor" "marks" "I", Cond.fieldLink RX5 11 "TailorChalks$Tailor" "marked" "[I", Cond.methodLink RX1 111 yX0_ragOf, Cond.instanceMethod yX0_ragOf, Cond.selects RX0 yX0_ragOf yX0_ragOf, Cond.code yX0_ragOf cX0_ragOf 14 (some .long)]
def wsX6_bestSnip_r4 : List Cond := [Cond.fieldLink RX0 26 "TailorChalks$Cloth" "heldAcross" "J", Cond.constantLong RX0 53 (-1), Cond.fieldLink RX0 29 "TailorChalks$Cloth" "heldDown" "J", Cond.methodLink RX0 67 yX0_spread, Cond.static yX0_spread, Cond.code yX0_spread cX0_spread 14 (some .long), Cond.methodLink RX0 61 yX0_secondCell, Cond.static yX0_secondCell, Cond.code yX0_secondCell cX0_secondCell 1 (some .int), Cond.methodLink RX1 123 yJ13_bitCount_95d88, Cond.methodLink RX6 187 yX1_openGain]
def wsX6_bestSnip : List Cond := .code yX6_bestSnip cX6_bestSnip 3 (some .int) :: ((wsX6_bestSnip_r1 ++ (wsX6_bestSnip_r2 ++ (wsX6_bestSnip_r3 ++ wsX6_bestSnip_r4))) ++ wsX60 ++ wsX10 ++ wsX00 ++ wsX50)
def wsX6_weak_r1 : List Cond := [Cond.fieldLink RX6 10 "TailorChalks" "game" "LTailorChalks$Game;", Cond.fieldLink RX6 60 "TailorChalks$Game" "cloth" "LTailorChalks$Cloth;", Cond.methodLink RX6 155 yX1_isOver, Cond.instanceMethod yX1_isOver, Cond.selects RX1 yX1_isOver yX1_isOver, Cond.initialized RX1, Cond.code yX1_isOver cX1_isOver 1 (some .boolean), Cond.fieldLink RX1 39 "TailorChalks$Game" "turns" "I", Cond.fieldLink RX1 12 "TailorChalks$Game" "cloth" "LTailorChalks$Cloth;", Cond.methodLink RX1 42 yX0_cellsLeft, Cond.instanceMethod yX0_cellsLeft, Cond.selects RX0 yX0_cellsLeft yX0_cellsLeft, Cond.initialized RX0, Cond.code yX0_cellsLeft cX0_cellsLeft 1 (some .int), Cond.fieldLink RX0 22 "TailorChalks$Cloth" "gone" "J", Cond.methodLink RX0 47 yJ13_bitCount_95d88, Cond.static yJ13_bitCount_95d88, Cond.initialized RJ13, Cond.code yJ13_bitCount_95d88 cJ13_bitCount_95d88 2 (some .int), Cond.constantLong RJ13 314 (6148914691236517205), Cond.constantLong RJ13 316 (3689348814741910323), Cond.constantLong RJ13 318 (1085102592571150095), Cond.methodLink RX6 190 yX0_weakJoints, Cond.instanceMethod yX0_weakJoints]
def wsX6_weak_r2 : List Cond := [Cond.selects RX0 yX0_weakJoints yX0_weakJoints, Cond.code yX0_weakJoints cX0_weakJoints 3 (some .int), Cond.methodLink RX0 58 yX0_holds, Cond.instanceMethod yX0_holds, Cond.selects RX0 yX0_holds yX0_holds, Cond.code yX0_holds cX0_holds 2 (some .boolean), Cond.fieldLink RX0 29 "TailorChalks$Cloth" "heldDown" "J", Cond.fieldLink RX0 26 "TailorChalks$Cloth" "heldAcross" "J", Cond.methodLink RX0 36 yX0_isDown, Cond.static yX0_isDown, Cond.code yX0_isDown cX0_isDown 1 (some .boolean), Cond.methodLink RX0 32 yX0_firstCell, Cond.static yX0_firstCell, Cond.code yX0_firstCell cX0_firstCell 1 (some .int), Cond.methodLink RX0 43 yX0_has, Cond.static yX0_has, Cond.code yX0_has cX0_has 3 (some .boolean), Cond.methodLink RX0 75 yX0_ragOf, Cond.instanceMethod yX0_ragOf, Cond.selects RX0 yX0_ragOf yX0_ragOf, Cond.code yX0_ragOf cX0_ragOf 14 (some .long), Cond.constantLong RX0 53 (-1), Cond.methodLink RX0 67 yX0_spread, Cond.static yX0_spread]
def wsX6_weak_r3 : List Cond := [Cond.code yX0_spread cX0_spread 14 (some .long), Cond.methodLink RX0 61 yX0_secondCell, Cond.static yX0_secondCell, Cond.code yX0_secondCell cX0_secondCell 1 (some .int)]
def wsX6_weak : List Cond := .code yX6_weak cX6_weak 1 (some .int) :: ((wsX6_weak_r1 ++ (wsX6_weak_r2 ++ wsX6_weak_r3)) ++ wsX60 ++ wsX10 ++ wsX00)
def wsX6_together_r1 : List Cond := [Cond.fieldLink RX6 10 "TailorChalks" "game" "LTailorChalks$Game;", Cond.fieldLink RX6 60 "TailorChalks$Game" "cloth" "LTailorChalks$Cloth;", Cond.methodLink RX6 90 yX0_isCell, Cond.static yX0_isCell, Cond.initialized RX0, Cond.code yX0_isCell cX0_isCell 1 (some .boolean), Cond.methodLink RX6 93 yX0_isGone, Cond.instanceMethod yX0_isGone, Cond.selects RX0 yX0_isGone yX0_isGone, Cond.code yX0_isGone cX0_isGone 2 (some .boolean), Cond.fieldLink RX0 22 "TailorChalks$Cloth" "gone" "J", Cond.methodLink RX0 43 yX0_has, Cond.static yX0_has, Cond.code yX0_has cX0_has 3 (some .boolean), Cond.methodLink RX6 96 yX0_pieceOf, Cond.instanceMethod yX0_pieceOf, Cond.selects RX0 yX0_pieceOf yX0_pieceOf, Cond.code yX0_pieceOf cX0_pieceOf 2 (some .long), Cond.fieldLink RX0 26 "TailorChalks$Cloth" "heldAcross" "J", Cond.fieldLink RX0 29 "TailorChalks$Cloth" "heldDown" "J", Cond.methodLink RX0 64 yX0_isGone, Cond.methodLink RX0 67 yX0_spread, Cond.static yX0_spread, Cond.code yX0_spread cX0_spread 14 (some .long)]
def wsX6_together_r2 : List Cond := [Cond.methodLink RX6 193 yX0_pieceIfBluffedHeld, Cond.instanceMethod yX0_pieceIfBluffedHeld, Cond.selects RX0 yX0_pieceIfBluffedHeld yX0_pieceIfBluffedHeld, Cond.code yX0_pieceIfBluffedHeld cX0_pieceIfBluffedHeld 9 (some .long), Cond.fieldLink RX0 11 "TailorChalks$Cloth" "states" "[I", Cond.methodLink RX0 55 yX0_isVoid, Cond.instanceMethod yX0_isVoid, Cond.selects RX0 yX0_isVoid yX0_isVoid, Cond.code yX0_isVoid cX0_isVoid 4 (some .boolean), Cond.methodLink RX0 36 yX0_isDown, Cond.static yX0_isDown, Cond.code yX0_isDown cX0_isDown 1 (some .boolean), Cond.methodLink RX0 32 yX0_firstCell, Cond.static yX0_firstCell, Cond.code yX0_firstCell cX0_firstCell 1 (some .int), Cond.methodLink RX6 196 yX0_has, Cond.methodLink RX6 71 yX6_asNumber, Cond.static yX6_asNumber, Cond.initialized RX6, Cond.code yX6_asNumber cX6_asNumber 1 (some .int)]
def wsX6_together : List Cond := .code yX6_together cX6_together 6 (some .int) :: ((wsX6_together_r1 ++ wsX6_together_r2) ++ wsX60 ++ wsX10 ++ wsX00)
def wsX6_put : List Cond := .code yX6_put cX6_put 3 (some .int) :: ([.fieldLink RX6 36 "TailorChalks" "pad" "LTailorChalks$Pad;", .methodLink RX6 200 yX3_append, .instanceMethod yX3_append, .selects RX3 yX3_append yX3_append, .initialized RX3, .code yX3_append cX3_append 5 (some .int), .fieldLink RX3 19 "TailorChalks$Pad" "length" "I", .fieldLink RX3 11 "TailorChalks$Pad" "signs" "[C", .constantLong RX3 23 (255), .methodLink RX3 15 yX3_charactersIn, .static yX3_charactersIn, .code yX3_charactersIn cX3_charactersIn 7 (some .int), .constantLong RX3 25 (33), .constantLong RX3 27 (126)] ++ wsX60 ++ wsX30)
def wsX6_wipe : List Cond := .code yX6_wipe cX6_wipe 1 (some .int) :: ([.fieldLink RX6 36 "TailorChalks" "pad" "LTailorChalks$Pad;", .methodLink RX6 203 yX3_clear, .instanceMethod yX3_clear, .selects RX3 yX3_clear yX3_clear, .initialized RX3, .code yX3_clear cX3_clear 2 (some .int), .fieldLink RX3 19 "TailorChalks$Pad" "length" "I"] ++ wsX60 ++ wsX30)
def wsX6_fault : List Cond := .code yX6_fault cX6_fault 1 (some .int) :: ([.fieldLink RX6 36 "TailorChalks" "pad" "LTailorChalks$Pad;", .methodLink RX6 206 yX3_firstFault, .instanceMethod yX3_firstFault, .selects RX3 yX3_firstFault yX3_firstFault, .initialized RX3, .code yX3_firstFault cX3_firstFault 3 (some .int), .fieldLink RX3 19 "TailorChalks$Pad" "length" "I", .fieldLink RX3 11 "TailorChalks$Pad" "signs" "[C", .methodLink RX3 29 yX3_placeBehind, .static yX3_placeBehind, .code yX3_placeBehind cX3_placeBehind 3 (some .int), .methodLink RX3 33 yX3_placeBehindOrder, .static yX3_placeBehindOrder, .code yX3_placeBehindOrder cX3_placeBehindOrder 1 (some .int), .methodLink RX3 37 yX3_isDigit, .static yX3_isDigit, .code yX3_isDigit cX3_isDigit 1 (some .boolean)] ++ wsX60 ++ wsX30)
def wsX6_obeyPad_r1 : List Cond := [Cond.fieldLink RX6 36 "TailorChalks" "pad" "LTailorChalks$Pad;", Cond.fieldLink RX6 172 "TailorChalks$Pad" "length" "I", Cond.fieldLink RX6 10 "TailorChalks" "game" "LTailorChalks$Game;", Cond.methodLink RX6 212 yX3_signAt, Cond.instanceMethod yX3_signAt, Cond.selects RX3 yX3_signAt yX3_signAt, Cond.initialized RX3, Cond.code yX3_signAt cX3_signAt 2 (some .char), Cond.fieldLink RX3 19 "TailorChalks$Pad" "length" "I", Cond.fieldLink RX3 11 "TailorChalks$Pad" "signs" "[C", Cond.methodLink RX6 48 yX1_obey, Cond.instanceMethod yX1_obey, Cond.selects RX1 yX1_obey yX1_obey, Cond.initialized RX1, Cond.code yX1_obey cX1_obey 3 (some .int), Cond.fieldLink RX1 12 "TailorChalks$Game" "cloth" "LTailorChalks$Cloth;", Cond.methodLink RX1 67 yX1_passOn, Cond.instanceMethod yX1_passOn, Cond.selects RX1 yX1_passOn yX1_passOn, Cond.code yX1_passOn cX1_passOn 1 (some .int), Cond.fieldLink RX1 35 "TailorChalks$Game" "next" "I", Cond.methodLink RX1 46 yX1_isOver, Cond.instanceMethod yX1_isOver, Cond.selects RX1 yX1_isOver yX1_isOver]
def wsX6_obeyPad_r2 : List Cond := [Cond.code yX1_isOver cX1_isOver 1 (some .boolean), Cond.fieldLink RX1 39 "TailorChalks$Game" "turns" "I", Cond.methodLink RX1 42 yX0_cellsLeft, Cond.instanceMethod yX0_cellsLeft, Cond.selects RX0 yX0_cellsLeft yX0_cellsLeft, Cond.initialized RX0, Cond.code yX0_cellsLeft cX0_cellsLeft 1 (some .int), Cond.fieldLink RX0 22 "TailorChalks$Cloth" "gone" "J", Cond.methodLink RX0 47 yJ13_bitCount_95d88, Cond.static yJ13_bitCount_95d88, Cond.initialized RJ13, Cond.code yJ13_bitCount_95d88 cJ13_bitCount_95d88 2 (some .int), Cond.constantLong RJ13 314 (6148914691236517205), Cond.constantLong RJ13 316 (3689348814741910323), Cond.constantLong RJ13 318 (1085102592571150095), Cond.methodLink RX1 88 yX1_endTurn, Cond.instanceMethod yX1_endTurn, Cond.selects RX1 yX1_endTurn yX1_endTurn, Cond.code yX1_endTurn cX1_endTurn 1 none, Cond.methodLink RX1 70 yX0_isJoint, Cond.static yX0_isJoint, Cond.code yX0_isJoint cX0_isJoint 1 (some .boolean), Cond.methodLink RX1 57 yX0_isVoid, Cond.instanceMethod yX0_isVoid]
def wsX6_obeyPad_r3 : List Cond := [Cond.selects RX0 yX0_isVoid yX0_isVoid, Cond.code yX0_isVoid cX0_isVoid 4 (some .boolean), Cond.methodLink RX0 36 yX0_isDown, Cond.static yX0_isDown, Cond.code yX0_isDown cX0_isDown 1 (some .boolean), Cond.methodLink RX0 32 yX0_firstCell, Cond.static yX0_firstCell, Cond.code yX0_firstCell cX0_firstCell 1 (some .int), Cond.methodLink RX0 43 yX0_has, Cond.static yX0_has, Cond.code yX0_has cX0_has 3 (some .boolean), Cond.methodLink RX1 73 yX1_markJoint, Cond.instanceMethod yX1_markJoint, Cond.selects RX1 yX1_markJoint yX1_markJoint, Cond.code yX1_markJoint cX1_markJoint 3 (some .int), Cond.fieldLink RX1 101 "TailorChalks$Tailor" "marks" "I", Cond.methodLink RX1 91 yX1_tailorOf, Cond.instanceMethod yX1_tailorOf, Cond.selects RX1 yX1_tailorOf yX1_tailorOf, Cond.code yX1_tailorOf cX1_tailorOf 2 (some (.object "TailorChalks$Tailor")), Cond.fieldLink RX1 21 "TailorChalks$Game" "tailorZero" "LTailorChalks$Tailor;", Cond.fieldLink RX1 25 "TailorChalks$Game" "tailorOne" "LTailorChalks$Tailor;", Cond.methodLink RX1 95 yX0_holds, Cond.instanceMethod yX0_holds]
def wsX6_obeyPad_r4 : List Cond := [Cond.selects RX0 yX0_holds yX0_holds, Cond.code yX0_holds cX0_holds 2 (some .boolean), Cond.fieldLink RX0 29 "TailorChalks$Cloth" "heldDown" "J", Cond.fieldLink RX0 26 "TailorChalks$Cloth" "heldAcross" "J", Cond.methodLink RX1 53 yX5_hasMark, Cond.instanceMethod yX5_hasMark, Cond.selects RX5 yX5_hasMark yX5_hasMark, Cond.initialized RX5, Cond.code yX5_hasMark cX5_hasMark 3 (some .boolean), Cond.fieldLink RX5 19 "TailorChalks$Tailor" "marks" "I", Cond.fieldLink RX5 11 "TailorChalks$Tailor" "marked" "[I", Cond.methodLink RX1 98 yX5_addMark, Cond.instanceMethod yX5_addMark, Cond.selects RX5 yX5_addMark yX5_addMark, Cond.code yX5_addMark cX5_addMark 2 (some .boolean), Cond.methodLink RX1 76 yX1_snipJoint, Cond.instanceMethod yX1_snipJoint, Cond.selects RX1 yX1_snipJoint yX1_snipJoint, Cond.code yX1_snipJoint cX1_snipJoint 4 (some .int), Cond.methodLink RX1 104 yX1_whyNoSnip, Cond.instanceMethod yX1_whyNoSnip, Cond.selects RX1 yX1_whyNoSnip yX1_whyNoSnip, Cond.code yX1_whyNoSnip cX1_whyNoSnip 2 (some .int), Cond.methodLink RX1 64 yX0_stateOf]
def wsX6_obeyPad_r5 : List Cond := [Cond.instanceMethod yX0_stateOf, Cond.selects RX0 yX0_stateOf yX0_stateOf, Cond.code yX0_stateOf cX0_stateOf 2 (some .int), Cond.fieldLink RX0 11 "TailorChalks$Cloth" "states" "[I", Cond.methodLink RX0 40 yX0_isJoint, Cond.methodLink RX1 107 yX1_findChalk, Cond.instanceMethod yX1_findChalk, Cond.selects RX1 yX1_findChalk yX1_findChalk, Cond.code yX1_findChalk cX1_findChalk 4 none, Cond.fieldLink RX1 50 "TailorChalks$Tailor" "points" "I", Cond.fieldLink RX1 129 "TailorChalks$Tailor" "found" "I", Cond.methodLink RX1 132 yX1_dropMarks, Cond.instanceMethod yX1_dropMarks, Cond.selects RX1 yX1_dropMarks yX1_dropMarks, Cond.code yX1_dropMarks cX1_dropMarks 2 none, Cond.methodLink RX1 135 yX5_dropMark, Cond.instanceMethod yX5_dropMark, Cond.selects RX5 yX5_dropMark yX5_dropMark, Cond.code yX5_dropMark cX5_dropMark 4 none, Cond.methodLink RX1 111 yX0_ragOf, Cond.instanceMethod yX0_ragOf, Cond.selects RX0 yX0_ragOf yX0_ragOf, Cond.code yX0_ragOf cX0_ragOf 14 (some .long), Cond.constantLong RX0 53 (-1)]
def wsX6_obeyPad_r6 : List Cond := [Cond.methodLink RX0 67 yX0_spread, Cond.static yX0_spread, Cond.code yX0_spread cX0_spread 14 (some .long), Cond.methodLink RX0 61 yX0_secondCell, Cond.static yX0_secondCell, Cond.code yX0_secondCell cX0_secondCell 1 (some .int), Cond.methodLink RX1 115 yX0_make, Cond.instanceMethod yX0_make, Cond.selects RX0 yX0_make yX0_make, Cond.code yX0_make cX0_make 8 none, Cond.fieldLink RX0 15 "TailorChalks$Cloth" "makers" "[I", Cond.methodLink RX1 119 yX1_loseRag, Cond.instanceMethod yX1_loseRag, Cond.selects RX1 yX1_loseRag yX1_loseRag, Cond.code yX1_loseRag cX1_loseRag 4 none, Cond.methodLink RX1 138 yX0_tearOff, Cond.instanceMethod yX0_tearOff, Cond.selects RX0 yX0_tearOff yX0_tearOff, Cond.code yX0_tearOff cX0_tearOff 3 none, Cond.methodLink RX1 123 yJ13_bitCount_95d88, Cond.methodLink RX1 141 yX5_winRag, Cond.instanceMethod yX5_winRag, Cond.selects RX5 yX5_winRag yX5_winRag, Cond.code yX5_winRag cX5_winRag 2 none]
def wsX6_obeyPad_r7 : List Cond := [Cond.fieldLink RX5 25 "TailorChalks$Tailor" "rags" "I", Cond.fieldLink RX5 28 "TailorChalks$Tailor" "ragCells" "I", Cond.fieldLink RX5 22 "TailorChalks$Tailor" "points" "I", Cond.methodLink RX1 79 yX1_sewJoint, Cond.instanceMethod yX1_sewJoint, Cond.selects RX1 yX1_sewJoint yX1_sewJoint, Cond.code yX1_sewJoint cX1_sewJoint 3 (some .int), Cond.fieldLink RX1 144 "TailorChalks$Tailor" "threads" "I", Cond.methodLink RX1 82 yX1_bluffJoint, Cond.instanceMethod yX1_bluffJoint, Cond.selects RX1 yX1_bluffJoint yX1_bluffJoint, Cond.code yX1_bluffJoint cX1_bluffJoint 2 (some .int), Cond.methodLink RX1 147 yX0_jointsThatAre, Cond.instanceMethod yX0_jointsThatAre, Cond.selects RX0 yX0_jointsThatAre yX0_jointsThatAre, Cond.code yX0_jointsThatAre cX0_jointsThatAre 4 (some .int), Cond.methodLink RX0 55 yX0_isVoid, Cond.methodLink RX1 85 yX1_doubtJoint, Cond.instanceMethod yX1_doubtJoint, Cond.selects RX1 yX1_doubtJoint yX1_doubtJoint, Cond.code yX1_doubtJoint cX1_doubtJoint 4 (some .int), Cond.fieldLink RX1 150 "TailorChalks$Tailor" "rightDoubts" "I", Cond.fieldLink RX1 153 "TailorChalks$Tailor" "wrongDoubts" "I", Cond.methodLink RX1 60 yX0_makerOf]
def wsX6_obeyPad_r8 : List Cond := [Cond.instanceMethod yX0_makerOf, Cond.selects RX0 yX0_makerOf yX0_makerOf, Cond.code yX0_makerOf cX0_makerOf 2 (some .int), Cond.methodLink RX6 216 yX3_isDigit, Cond.static yX3_isDigit, Cond.code yX3_isDigit cX3_isDigit 1 (some .boolean)]
def wsX6_obeyPad : List Cond := .code yX6_obeyPad cX6_obeyPad 6 (some .int) :: ((wsX6_obeyPad_r1 ++ (wsX6_obeyPad_r2 ++ (wsX6_obeyPad_r3 ++ (wsX6_obeyPad_r4 ++ (wsX6_obeyPad_r5 ++ (wsX6_obeyPad_r6 ++ (wsX6_obeyPad_r7 ++ wsX6_obeyPad_r8))))))) ++ wsX60 ++ wsX30 ++ wsX10 ++ wsX00 ++ wsX50)
def wsX6_carryOut_r1 : List Cond := [Cond.fieldLink RX6 36 "TailorChalks" "pad" "LTailorChalks$Pad;", Cond.fieldLink RX6 19 "TailorChalks" "history" "LTailorChalks$History;", Cond.fieldLink RX6 10 "TailorChalks" "game" "LTailorChalks$Game;", Cond.methodLink RX6 206 yX3_firstFault, Cond.instanceMethod yX3_firstFault, Cond.selects RX3 yX3_firstFault yX3_firstFault, Cond.initialized RX3, Cond.code yX3_firstFault cX3_firstFault 3 (some .int), Cond.fieldLink RX3 19 "TailorChalks$Pad" "length" "I", Cond.fieldLink RX3 11 "TailorChalks$Pad" "signs" "[C", Cond.methodLink RX3 29 yX3_placeBehind, Cond.static yX3_placeBehind, Cond.code yX3_placeBehind cX3_placeBehind 3 (some .int), Cond.methodLink RX3 33 yX3_placeBehindOrder, Cond.static yX3_placeBehindOrder, Cond.code yX3_placeBehindOrder cX3_placeBehindOrder 1 (some .int), Cond.methodLink RX3 37 yX3_isDigit, Cond.static yX3_isDigit, Cond.code yX3_isDigit cX3_isDigit 1 (some .boolean), Cond.methodLink RX6 44 yX2_note, Cond.instanceMethod yX2_note, Cond.selects RX2 yX2_note yX2_note, Cond.initialized RX2, Cond.code yX2_note cX2_note 2 none]
def wsX6_carryOut_r2 : List Cond := [Cond.fieldLink RX2 18 "TailorChalks$History" "noted" "LTailorChalks$Game;", Cond.methodLink RX2 22 yX1_become, Cond.instanceMethod yX1_become, Cond.selects RX1 yX1_become yX1_become, Cond.initialized RX1, Cond.code yX1_become cX1_become 2 none, Cond.fieldLink RX1 12 "TailorChalks$Game" "cloth" "LTailorChalks$Cloth;", Cond.fieldLink RX1 21 "TailorChalks$Game" "tailorZero" "LTailorChalks$Tailor;", Cond.fieldLink RX1 25 "TailorChalks$Game" "tailorOne" "LTailorChalks$Tailor;", Cond.fieldLink RX1 35 "TailorChalks$Game" "next" "I", Cond.fieldLink RX1 39 "TailorChalks$Game" "turns" "I", Cond.methodLink RX1 28 yX0_become, Cond.instanceMethod yX0_become, Cond.selects RX0 yX0_become yX0_become, Cond.initialized RX0, Cond.code yX0_become cX0_become 3 none, Cond.fieldLink RX0 11 "TailorChalks$Cloth" "states" "[I", Cond.fieldLink RX0 15 "TailorChalks$Cloth" "makers" "[I", Cond.fieldLink RX0 22 "TailorChalks$Cloth" "gone" "J", Cond.fieldLink RX0 26 "TailorChalks$Cloth" "heldAcross" "J", Cond.fieldLink RX0 29 "TailorChalks$Cloth" "heldDown" "J", Cond.methodLink RX1 32 yX5_become, Cond.instanceMethod yX5_become, Cond.selects RX5 yX5_become yX5_become]
def wsX6_carryOut_r3 : List Cond := [Cond.initialized RX5, Cond.code yX5_become cX5_become 3 none, Cond.fieldLink RX5 11 "TailorChalks$Tailor" "marked" "[I", Cond.fieldLink RX5 19 "TailorChalks$Tailor" "marks" "I", Cond.fieldLink RX5 22 "TailorChalks$Tailor" "points" "I", Cond.fieldLink RX5 15 "TailorChalks$Tailor" "threads" "I", Cond.fieldLink RX5 25 "TailorChalks$Tailor" "rags" "I", Cond.fieldLink RX5 28 "TailorChalks$Tailor" "ragCells" "I", Cond.fieldLink RX5 31 "TailorChalks$Tailor" "found" "I", Cond.fieldLink RX5 34 "TailorChalks$Tailor" "rightDoubts" "I", Cond.fieldLink RX5 37 "TailorChalks$Tailor" "wrongDoubts" "I", Cond.methodLink RX6 51 yX2_keepNoted, Cond.instanceMethod yX2_keepNoted, Cond.selects RX2 yX2_keepNoted yX2_keepNoted, Cond.code yX2_keepNoted cX2_keepNoted 2 none, Cond.fieldLink RX2 26 "TailorChalks$History" "kept" "I", Cond.fieldLink RX2 13 "TailorChalks$History" "states" "[LTailorChalks$Game;", Cond.methodLink RX2 30 yX2_dropOldest, Cond.instanceMethod yX2_dropOldest, Cond.selects RX2 yX2_dropOldest yX2_dropOldest, Cond.code yX2_dropOldest cX2_dropOldest 3 none, Cond.methodLink RX6 209 yX6_obeyPad, Cond.instanceMethod yX6_obeyPad, Cond.selects RX6 yX6_obeyPad yX6_obeyPad]
def wsX6_carryOut_r4 : List Cond := [Cond.initialized RX6, Cond.code yX6_obeyPad cX6_obeyPad 6 (some .int), Cond.fieldLink RX6 172 "TailorChalks$Pad" "length" "I", Cond.methodLink RX6 212 yX3_signAt, Cond.instanceMethod yX3_signAt, Cond.selects RX3 yX3_signAt yX3_signAt, Cond.code yX3_signAt cX3_signAt 2 (some .char), Cond.methodLink RX6 48 yX1_obey, Cond.instanceMethod yX1_obey, Cond.selects RX1 yX1_obey yX1_obey, Cond.code yX1_obey cX1_obey 3 (some .int), Cond.methodLink RX1 67 yX1_passOn, Cond.instanceMethod yX1_passOn, Cond.selects RX1 yX1_passOn yX1_passOn, Cond.code yX1_passOn cX1_passOn 1 (some .int), Cond.methodLink RX1 46 yX1_isOver, Cond.instanceMethod yX1_isOver, Cond.selects RX1 yX1_isOver yX1_isOver, Cond.code yX1_isOver cX1_isOver 1 (some .boolean), Cond.methodLink RX1 42 yX0_cellsLeft, Cond.instanceMethod yX0_cellsLeft, Cond.selects RX0 yX0_cellsLeft yX0_cellsLeft, Cond.code yX0_cellsLeft cX0_cellsLeft 1 (some .int), Cond.methodLink RX0 47 yJ13_bitCount_95d88]
def wsX6_carryOut_r5 : List Cond := [Cond.static yJ13_bitCount_95d88, Cond.initialized RJ13, Cond.code yJ13_bitCount_95d88 cJ13_bitCount_95d88 2 (some .int), Cond.constantLong RJ13 314 (6148914691236517205), Cond.constantLong RJ13 316 (3689348814741910323), Cond.constantLong RJ13 318 (1085102592571150095), Cond.methodLink RX1 88 yX1_endTurn, Cond.instanceMethod yX1_endTurn, Cond.selects RX1 yX1_endTurn yX1_endTurn, Cond.code yX1_endTurn cX1_endTurn 1 none, Cond.methodLink RX1 70 yX0_isJoint, Cond.static yX0_isJoint, Cond.code yX0_isJoint cX0_isJoint 1 (some .boolean), Cond.methodLink RX1 57 yX0_isVoid, Cond.instanceMethod yX0_isVoid, Cond.selects RX0 yX0_isVoid yX0_isVoid, Cond.code yX0_isVoid cX0_isVoid 4 (some .boolean), Cond.methodLink RX0 36 yX0_isDown, Cond.static yX0_isDown, Cond.code yX0_isDown cX0_isDown 1 (some .boolean), Cond.methodLink RX0 32 yX0_firstCell, Cond.static yX0_firstCell, Cond.code yX0_firstCell cX0_firstCell 1 (some .int), Cond.methodLink RX0 43 yX0_has]
def wsX6_carryOut_r6 : List Cond := [Cond.static yX0_has, Cond.code yX0_has cX0_has 3 (some .boolean), Cond.methodLink RX1 73 yX1_markJoint, Cond.instanceMethod yX1_markJoint, Cond.selects RX1 yX1_markJoint yX1_markJoint, Cond.code yX1_markJoint cX1_markJoint 3 (some .int), Cond.fieldLink RX1 101 "TailorChalks$Tailor" "marks" "I", Cond.methodLink RX1 91 yX1_tailorOf, Cond.instanceMethod yX1_tailorOf, Cond.selects RX1 yX1_tailorOf yX1_tailorOf, Cond.code yX1_tailorOf cX1_tailorOf 2 (some (.object "TailorChalks$Tailor")), Cond.methodLink RX1 95 yX0_holds, Cond.instanceMethod yX0_holds, Cond.selects RX0 yX0_holds yX0_holds, Cond.code yX0_holds cX0_holds 2 (some .boolean), Cond.methodLink RX1 53 yX5_hasMark, Cond.instanceMethod yX5_hasMark, Cond.selects RX5 yX5_hasMark yX5_hasMark, Cond.code yX5_hasMark cX5_hasMark 3 (some .boolean), Cond.methodLink RX1 98 yX5_addMark, Cond.instanceMethod yX5_addMark, Cond.selects RX5 yX5_addMark yX5_addMark, Cond.code yX5_addMark cX5_addMark 2 (some .boolean), Cond.methodLink RX1 76 yX1_snipJoint]
def wsX6_carryOut_r7 : List Cond := [Cond.instanceMethod yX1_snipJoint, Cond.selects RX1 yX1_snipJoint yX1_snipJoint, Cond.code yX1_snipJoint cX1_snipJoint 4 (some .int), Cond.methodLink RX1 104 yX1_whyNoSnip, Cond.instanceMethod yX1_whyNoSnip, Cond.selects RX1 yX1_whyNoSnip yX1_whyNoSnip, Cond.code yX1_whyNoSnip cX1_whyNoSnip 2 (some .int), Cond.methodLink RX1 64 yX0_stateOf, Cond.instanceMethod yX0_stateOf, Cond.selects RX0 yX0_stateOf yX0_stateOf, Cond.code yX0_stateOf cX0_stateOf 2 (some .int), Cond.methodLink RX0 40 yX0_isJoint, Cond.methodLink RX1 107 yX1_findChalk, Cond.instanceMethod yX1_findChalk, Cond.selects RX1 yX1_findChalk yX1_findChalk, Cond.code yX1_findChalk cX1_findChalk 4 none, Cond.fieldLink RX1 50 "TailorChalks$Tailor" "points" "I", Cond.fieldLink RX1 129 "TailorChalks$Tailor" "found" "I", Cond.methodLink RX1 132 yX1_dropMarks, Cond.instanceMethod yX1_dropMarks, Cond.selects RX1 yX1_dropMarks yX1_dropMarks, Cond.code yX1_dropMarks cX1_dropMarks 2 none, Cond.methodLink RX1 135 yX5_dropMark, Cond.instanceMethod yX5_dropMark]
def wsX6_carryOut_r8 : List Cond := [Cond.selects RX5 yX5_dropMark yX5_dropMark, Cond.code yX5_dropMark cX5_dropMark 4 none, Cond.methodLink RX1 111 yX0_ragOf, Cond.instanceMethod yX0_ragOf, Cond.selects RX0 yX0_ragOf yX0_ragOf, Cond.code yX0_ragOf cX0_ragOf 14 (some .long), Cond.constantLong RX0 53 (-1), Cond.methodLink RX0 67 yX0_spread, Cond.static yX0_spread, Cond.code yX0_spread cX0_spread 14 (some .long), Cond.methodLink RX0 61 yX0_secondCell, Cond.static yX0_secondCell, Cond.code yX0_secondCell cX0_secondCell 1 (some .int), Cond.methodLink RX1 115 yX0_make, Cond.instanceMethod yX0_make, Cond.selects RX0 yX0_make yX0_make, Cond.code yX0_make cX0_make 8 none, Cond.methodLink RX1 119 yX1_loseRag, Cond.instanceMethod yX1_loseRag, Cond.selects RX1 yX1_loseRag yX1_loseRag, Cond.code yX1_loseRag cX1_loseRag 4 none, Cond.methodLink RX1 138 yX0_tearOff, Cond.instanceMethod yX0_tearOff, Cond.selects RX0 yX0_tearOff yX0_tearOff]
def wsX6_carryOut_r9 : List Cond := [Cond.code yX0_tearOff cX0_tearOff 3 none, Cond.methodLink RX1 123 yJ13_bitCount_95d88, Cond.methodLink RX1 141 yX5_winRag, Cond.instanceMethod yX5_winRag, Cond.selects RX5 yX5_winRag yX5_winRag, Cond.code yX5_winRag cX5_winRag 2 none, Cond.methodLink RX1 79 yX1_sewJoint, Cond.instanceMethod yX1_sewJoint, Cond.selects RX1 yX1_sewJoint yX1_sewJoint, Cond.code yX1_sewJoint cX1_sewJoint 3 (some .int), Cond.fieldLink RX1 144 "TailorChalks$Tailor" "threads" "I", Cond.methodLink RX1 82 yX1_bluffJoint, Cond.instanceMethod yX1_bluffJoint, Cond.selects RX1 yX1_bluffJoint yX1_bluffJoint, Cond.code yX1_bluffJoint cX1_bluffJoint 2 (some .int), Cond.methodLink RX1 147 yX0_jointsThatAre, Cond.instanceMethod yX0_jointsThatAre, Cond.selects RX0 yX0_jointsThatAre yX0_jointsThatAre, Cond.code yX0_jointsThatAre cX0_jointsThatAre 4 (some .int), Cond.methodLink RX0 55 yX0_isVoid, Cond.methodLink RX1 85 yX1_doubtJoint, Cond.instanceMethod yX1_doubtJoint, Cond.selects RX1 yX1_doubtJoint yX1_doubtJoint, Cond.code yX1_doubtJoint cX1_doubtJoint 4 (some .int)]
def wsX6_carryOut_r10 : List Cond := [Cond.fieldLink RX1 150 "TailorChalks$Tailor" "rightDoubts" "I", Cond.fieldLink RX1 153 "TailorChalks$Tailor" "wrongDoubts" "I", Cond.methodLink RX1 60 yX0_makerOf, Cond.instanceMethod yX0_makerOf, Cond.selects RX0 yX0_makerOf yX0_makerOf, Cond.code yX0_makerOf cX0_makerOf 2 (some .int), Cond.methodLink RX6 216 yX3_isDigit, Cond.methodLink RX6 203 yX3_clear, Cond.instanceMethod yX3_clear, Cond.selects RX3 yX3_clear yX3_clear, Cond.code yX3_clear cX3_clear 2 (some .int)]
def wsX6_carryOut : List Cond := .code yX6_carryOut cX6_carryOut 2 (some .int) :: ((wsX6_carryOut_r1 ++ (wsX6_carryOut_r2 ++ (wsX6_carryOut_r3 ++ (wsX6_carryOut_r4 ++ (wsX6_carryOut_r5 ++ (wsX6_carryOut_r6 ++ (wsX6_carryOut_r7 ++ (wsX6_carryOut_r8 ++ (wsX6_carryOut_r9 ++ wsX6_carryOut_r10))))))))) ++ wsX60 ++ wsX30 ++ wsX20 ++ wsX10 ++ wsX00 ++ wsX50)
def wsX6_undo_r1 : List Cond := [Cond.fieldLink RX6 19 "TailorChalks" "history" "LTailorChalks$History;", Cond.fieldLink RX6 10 "TailorChalks" "game" "LTailorChalks$Game;", Cond.methodLink RX6 220 yX2_goBack, Cond.instanceMethod yX2_goBack, Cond.selects RX2 yX2_goBack yX2_goBack, Cond.initialized RX2, Cond.code yX2_goBack cX2_goBack 2 (some .int), Cond.fieldLink RX2 26 "TailorChalks$History" "kept" "I", Cond.fieldLink RX2 13 "TailorChalks$History" "states" "[LTailorChalks$Game;", Cond.methodLink RX2 22 yX1_become, Cond.instanceMethod yX1_become, Cond.selects RX1 yX1_become yX1_become, Cond.initialized RX1, Cond.code yX1_become cX1_become 2 none, Cond.fieldLink RX1 12 "TailorChalks$Game" "cloth" "LTailorChalks$Cloth;", Cond.fieldLink RX1 21 "TailorChalks$Game" "tailorZero" "LTailorChalks$Tailor;", Cond.fieldLink RX1 25 "TailorChalks$Game" "tailorOne" "LTailorChalks$Tailor;", Cond.fieldLink RX1 35 "TailorChalks$Game" "next" "I", Cond.fieldLink RX1 39 "TailorChalks$Game" "turns" "I", Cond.methodLink RX1 28 yX0_become, Cond.instanceMethod yX0_become, Cond.selects RX0 yX0_become yX0_become, Cond.initialized RX0, Cond.code yX0_become cX0_become 3 none]
def wsX6_undo_r2 : List Cond := [Cond.fieldLink RX0 11 "TailorChalks$Cloth" "states" "[I", Cond.fieldLink RX0 15 "TailorChalks$Cloth" "makers" "[I", Cond.fieldLink RX0 22 "TailorChalks$Cloth" "gone" "J", Cond.fieldLink RX0 26 "TailorChalks$Cloth" "heldAcross" "J", Cond.fieldLink RX0 29 "TailorChalks$Cloth" "heldDown" "J", Cond.methodLink RX1 32 yX5_become, Cond.instanceMethod yX5_become, Cond.selects RX5 yX5_become yX5_become, Cond.initialized RX5, Cond.code yX5_become cX5_become 3 none, Cond.fieldLink RX5 11 "TailorChalks$Tailor" "marked" "[I", Cond.fieldLink RX5 19 "TailorChalks$Tailor" "marks" "I", Cond.fieldLink RX5 22 "TailorChalks$Tailor" "points" "I", Cond.fieldLink RX5 15 "TailorChalks$Tailor" "threads" "I", Cond.fieldLink RX5 25 "TailorChalks$Tailor" "rags" "I", Cond.fieldLink RX5 28 "TailorChalks$Tailor" "ragCells" "I", Cond.fieldLink RX5 31 "TailorChalks$Tailor" "found" "I", Cond.fieldLink RX5 34 "TailorChalks$Tailor" "rightDoubts" "I", Cond.fieldLink RX5 37 "TailorChalks$Tailor" "wrongDoubts" "I"]
def wsX6_undo : List Cond := .code yX6_undo cX6_undo 1 (some .int) :: ((wsX6_undo_r1 ++ wsX6_undo_r2) ++ wsX60 ++ wsX20 ++ wsX10 ++ wsX00 ++ wsX50)
def wsX6_isSlot : List Cond := .code yX6_isSlot cX6_isSlot 1 (some .boolean) :: ([])
def wsX6_slotOf : List Cond := .code yX6_slotOf cX6_slotOf 2 (some (.object "TailorChalks$Slot")) :: ([.fieldLink RX6 26 "TailorChalks" "slotZero" "LTailorChalks$Slot;", .fieldLink RX6 30 "TailorChalks" "slotOne" "LTailorChalks$Slot;"] ++ wsX60)
def wsX6_save_r1 : List Cond := [Cond.fieldLink RX6 10 "TailorChalks" "game" "LTailorChalks$Game;", Cond.fieldLink RX6 60 "TailorChalks$Game" "cloth" "LTailorChalks$Cloth;", Cond.methodLink RX6 224 yX6_isSlot, Cond.static yX6_isSlot, Cond.initialized RX6, Cond.code yX6_isSlot cX6_isSlot 1 (some .boolean), Cond.methodLink RX6 227 yX6_slotOf, Cond.instanceMethod yX6_slotOf, Cond.selects RX6 yX6_slotOf yX6_slotOf, Cond.code yX6_slotOf cX6_slotOf 2 (some (.object "TailorChalks$Slot")), Cond.fieldLink RX6 26 "TailorChalks" "slotZero" "LTailorChalks$Slot;", Cond.fieldLink RX6 30 "TailorChalks" "slotOne" "LTailorChalks$Slot;", Cond.methodLink RX6 231 yX4_fill, Cond.instanceMethod yX4_fill, Cond.selects RX4 yX4_fill yX4_fill, Cond.initialized RX4, Cond.code yX4_fill cX4_fill 2 none, Cond.fieldLink RX4 10 "TailorChalks$Slot" "saved" "LTailorChalks$Game;", Cond.fieldLink RX4 20 "TailorChalks$Slot" "full" "Z", Cond.methodLink RX4 16 yX1_become, Cond.instanceMethod yX1_become, Cond.selects RX1 yX1_become yX1_become, Cond.initialized RX1, Cond.code yX1_become cX1_become 2 none]
def wsX6_save_r2 : List Cond := [Cond.fieldLink RX1 12 "TailorChalks$Game" "cloth" "LTailorChalks$Cloth;", Cond.fieldLink RX1 21 "TailorChalks$Game" "tailorZero" "LTailorChalks$Tailor;", Cond.fieldLink RX1 25 "TailorChalks$Game" "tailorOne" "LTailorChalks$Tailor;", Cond.fieldLink RX1 35 "TailorChalks$Game" "next" "I", Cond.fieldLink RX1 39 "TailorChalks$Game" "turns" "I", Cond.methodLink RX1 28 yX0_become, Cond.instanceMethod yX0_become, Cond.selects RX0 yX0_become yX0_become, Cond.initialized RX0, Cond.code yX0_become cX0_become 3 none, Cond.fieldLink RX0 11 "TailorChalks$Cloth" "states" "[I", Cond.fieldLink RX0 15 "TailorChalks$Cloth" "makers" "[I", Cond.fieldLink RX0 22 "TailorChalks$Cloth" "gone" "J", Cond.fieldLink RX0 26 "TailorChalks$Cloth" "heldAcross" "J", Cond.fieldLink RX0 29 "TailorChalks$Cloth" "heldDown" "J", Cond.methodLink RX1 32 yX5_become, Cond.instanceMethod yX5_become, Cond.selects RX5 yX5_become yX5_become, Cond.initialized RX5, Cond.code yX5_become cX5_become 3 none, Cond.fieldLink RX5 11 "TailorChalks$Tailor" "marked" "[I", Cond.fieldLink RX5 19 "TailorChalks$Tailor" "marks" "I", Cond.fieldLink RX5 22 "TailorChalks$Tailor" "points" "I", Cond.fieldLink RX5 15 "TailorChalks$Tailor" "threads" "I"]
def wsX6_save_r3 : List Cond := [Cond.fieldLink RX5 25 "TailorChalks$Tailor" "rags" "I", Cond.fieldLink RX5 28 "TailorChalks$Tailor" "ragCells" "I", Cond.fieldLink RX5 31 "TailorChalks$Tailor" "found" "I", Cond.fieldLink RX5 34 "TailorChalks$Tailor" "rightDoubts" "I", Cond.fieldLink RX5 37 "TailorChalks$Tailor" "wrongDoubts" "I", Cond.methodLink RX6 163 yX0_cellsLeft, Cond.instanceMethod yX0_cellsLeft, Cond.selects RX0 yX0_cellsLeft yX0_cellsLeft, Cond.code yX0_cellsLeft cX0_cellsLeft 1 (some .int), Cond.methodLink RX0 47 yJ13_bitCount_95d88, Cond.static yJ13_bitCount_95d88, Cond.initialized RJ13, Cond.code yJ13_bitCount_95d88 cJ13_bitCount_95d88 2 (some .int), Cond.constantLong RJ13 314 (6148914691236517205), Cond.constantLong RJ13 316 (3689348814741910323), Cond.constantLong RJ13 318 (1085102592571150095)]
def wsX6_save : List Cond := .code yX6_save cX6_save 2 (some .int) :: ((wsX6_save_r1 ++ (wsX6_save_r2 ++ wsX6_save_r3)) ++ wsX60 ++ wsX10 ++ wsX40 ++ wsX00 ++ wsX50)
def wsX6_restore_r1 : List Cond := [Cond.fieldLink RX6 234 "TailorChalks$Slot" "full" "Z", Cond.fieldLink RX6 19 "TailorChalks" "history" "LTailorChalks$History;", Cond.fieldLink RX6 10 "TailorChalks" "game" "LTailorChalks$Game;", Cond.fieldLink RX6 238 "TailorChalks$Slot" "saved" "LTailorChalks$Game;", Cond.fieldLink RX6 60 "TailorChalks$Game" "cloth" "LTailorChalks$Cloth;", Cond.methodLink RX6 224 yX6_isSlot, Cond.static yX6_isSlot, Cond.initialized RX6, Cond.code yX6_isSlot cX6_isSlot 1 (some .boolean), Cond.methodLink RX6 227 yX6_slotOf, Cond.instanceMethod yX6_slotOf, Cond.selects RX6 yX6_slotOf yX6_slotOf, Cond.code yX6_slotOf cX6_slotOf 2 (some (.object "TailorChalks$Slot")), Cond.fieldLink RX6 26 "TailorChalks" "slotZero" "LTailorChalks$Slot;", Cond.fieldLink RX6 30 "TailorChalks" "slotOne" "LTailorChalks$Slot;", Cond.methodLink RX6 44 yX2_note, Cond.instanceMethod yX2_note, Cond.selects RX2 yX2_note yX2_note, Cond.initialized RX2, Cond.code yX2_note cX2_note 2 none, Cond.fieldLink RX2 18 "TailorChalks$History" "noted" "LTailorChalks$Game;", Cond.methodLink RX2 22 yX1_become, Cond.instanceMethod yX1_become, Cond.selects RX1 yX1_become yX1_become]
def wsX6_restore_r2 : List Cond := [Cond.initialized RX1, Cond.code yX1_become cX1_become 2 none, Cond.fieldLink RX1 12 "TailorChalks$Game" "cloth" "LTailorChalks$Cloth;", Cond.fieldLink RX1 21 "TailorChalks$Game" "tailorZero" "LTailorChalks$Tailor;", Cond.fieldLink RX1 25 "TailorChalks$Game" "tailorOne" "LTailorChalks$Tailor;", Cond.fieldLink RX1 35 "TailorChalks$Game" "next" "I", Cond.fieldLink RX1 39 "TailorChalks$Game" "turns" "I", Cond.methodLink RX1 28 yX0_become, Cond.instanceMethod yX0_become, Cond.selects RX0 yX0_become yX0_become, Cond.initialized RX0, Cond.code yX0_become cX0_become 3 none, Cond.fieldLink RX0 11 "TailorChalks$Cloth" "states" "[I", Cond.fieldLink RX0 15 "TailorChalks$Cloth" "makers" "[I", Cond.fieldLink RX0 22 "TailorChalks$Cloth" "gone" "J", Cond.fieldLink RX0 26 "TailorChalks$Cloth" "heldAcross" "J", Cond.fieldLink RX0 29 "TailorChalks$Cloth" "heldDown" "J", Cond.methodLink RX1 32 yX5_become, Cond.instanceMethod yX5_become, Cond.selects RX5 yX5_become yX5_become, Cond.initialized RX5, Cond.code yX5_become cX5_become 3 none, Cond.fieldLink RX5 11 "TailorChalks$Tailor" "marked" "[I", Cond.fieldLink RX5 19 "TailorChalks$Tailor" "marks" "I"]
def wsX6_restore_r3 : List Cond := [Cond.fieldLink RX5 22 "TailorChalks$Tailor" "points" "I", Cond.fieldLink RX5 15 "TailorChalks$Tailor" "threads" "I", Cond.fieldLink RX5 25 "TailorChalks$Tailor" "rags" "I", Cond.fieldLink RX5 28 "TailorChalks$Tailor" "ragCells" "I", Cond.fieldLink RX5 31 "TailorChalks$Tailor" "found" "I", Cond.fieldLink RX5 34 "TailorChalks$Tailor" "rightDoubts" "I", Cond.fieldLink RX5 37 "TailorChalks$Tailor" "wrongDoubts" "I", Cond.methodLink RX6 51 yX2_keepNoted, Cond.instanceMethod yX2_keepNoted, Cond.selects RX2 yX2_keepNoted yX2_keepNoted, Cond.code yX2_keepNoted cX2_keepNoted 2 none, Cond.fieldLink RX2 26 "TailorChalks$History" "kept" "I", Cond.fieldLink RX2 13 "TailorChalks$History" "states" "[LTailorChalks$Game;", Cond.methodLink RX2 30 yX2_dropOldest, Cond.instanceMethod yX2_dropOldest, Cond.selects RX2 yX2_dropOldest yX2_dropOldest, Cond.code yX2_dropOldest cX2_dropOldest 3 none, Cond.methodLink RX6 241 yX1_become, Cond.methodLink RX6 163 yX0_cellsLeft, Cond.instanceMethod yX0_cellsLeft, Cond.selects RX0 yX0_cellsLeft yX0_cellsLeft, Cond.code yX0_cellsLeft cX0_cellsLeft 1 (some .int), Cond.methodLink RX0 47 yJ13_bitCount_95d88, Cond.static yJ13_bitCount_95d88]
def wsX6_restore_r4 : List Cond := [Cond.initialized RJ13, Cond.code yJ13_bitCount_95d88 cJ13_bitCount_95d88 2 (some .int), Cond.constantLong RJ13 314 (6148914691236517205), Cond.constantLong RJ13 316 (3689348814741910323), Cond.constantLong RJ13 318 (1085102592571150095)]
def wsX6_restore : List Cond := .code yX6_restore cX6_restore 3 (some .int) :: ((wsX6_restore_r1 ++ (wsX6_restore_r2 ++ (wsX6_restore_r3 ++ wsX6_restore_r4))) ++ wsX40 ++ wsX60 ++ wsX10 ++ wsX20 ++ wsX00 ++ wsX50)
def wsX7_at : List Cond := .code yX7_at cX7_at 2 (some .int) :: ([])
def wsX7_init : List Cond := .code yX7_init cX7_init 2 none :: ([.methodLink RX7 1 objectInit, .instanceMethod objectInit, .code objectInit ⟨#[0xb1]⟩ 1 none, .arrayClass .int, .fieldLink RX7 7 "TailorChalksModel" "s" "[I", .fieldLink RX7 13 "TailorChalksModel" "ahead" "[I", .fieldLink RX7 16 "TailorChalksModel" "history" "[I", .fieldLink RX7 19 "TailorChalksModel" "slots" "[I", .arrayClass .boolean, .fieldLink RX7 22 "TailorChalksModel" "isSaved" "[Z", .fieldLink RX7 26 "TailorChalksModel" "pad" "[I", .fieldLink RX7 29 "TailorChalksModel" "label" "[I", .methodLink RX7 32 yX7_at, .static yX7_at, .initialized RX7, .code yX7_at cX7_at 2 (some .int)] ++ wsX70)
def wsX7_in : List Cond := .code yX7_in cX7_in 3 (some .boolean) :: ([])
def wsX7_isJoint : List Cond := .code yX7_isJoint cX7_isJoint 1 (some .boolean) :: ([.methodLink RX7 36 yX7_in, .static yX7_in, .initialized RX7, .code yX7_in cX7_in 3 (some .boolean)])
def wsX7_isCell : List Cond := .code yX7_isCell cX7_isCell 1 (some .boolean) :: ([.methodLink RX7 36 yX7_in, .static yX7_in, .initialized RX7, .code yX7_in cX7_in 3 (some .boolean)])
def wsX7_chalkAt : List Cond := .code yX7_chalkAt cX7_chalkAt 3 (some .int) :: ([.fieldLink RX7 7 "TailorChalksModel" "s" "[I", .methodLink RX7 32 yX7_at, .static yX7_at, .initialized RX7, .code yX7_at cX7_at 2 (some .int)] ++ wsX70)
def wsX7_first : List Cond := .code yX7_first cX7_first 1 (some .int) :: ([])
def wsX7_second : List Cond := .code yX7_second cX7_second 1 (some .int) :: ([.methodLink RX7 40 yX7_first, .static yX7_first, .initialized RX7, .code yX7_first cX7_first 1 (some .int)])
def wsX7_isGone : List Cond := .code yX7_isGone cX7_isGone 2 (some .boolean) :: ([.fieldLink RX7 7 "TailorChalksModel" "s" "[I"] ++ wsX70)
def wsX7_isVoid : List Cond := .code yX7_isVoid cX7_isVoid 2 (some .boolean) :: ([.methodLink RX7 40 yX7_first, .static yX7_first, .initialized RX7, .code yX7_first cX7_first 1 (some .int), .methodLink RX7 44 yX7_isGone, .instanceMethod yX7_isGone, .selects RX7 yX7_isGone yX7_isGone, .code yX7_isGone cX7_isGone 2 (some .boolean), .fieldLink RX7 7 "TailorChalksModel" "s" "[I", .methodLink RX7 48 yX7_second, .static yX7_second, .code yX7_second cX7_second 1 (some .int)] ++ wsX70)
def wsX7_holds : List Cond := .code yX7_holds cX7_holds 2 (some .boolean) :: ([.fieldLink RX7 7 "TailorChalksModel" "s" "[I", .methodLink RX7 51 yX7_isVoid, .instanceMethod yX7_isVoid, .selects RX7 yX7_isVoid yX7_isVoid, .initialized RX7, .code yX7_isVoid cX7_isVoid 2 (some .boolean), .methodLink RX7 40 yX7_first, .static yX7_first, .code yX7_first cX7_first 1 (some .int), .methodLink RX7 44 yX7_isGone, .instanceMethod yX7_isGone, .selects RX7 yX7_isGone yX7_isGone, .code yX7_isGone cX7_isGone 2 (some .boolean), .methodLink RX7 48 yX7_second, .static yX7_second, .code yX7_second cX7_second 1 (some .int)] ++ wsX70)
def wsX7_looks : List Cond := .code yX7_looks cX7_looks 2 none :: ([.fieldLink RX7 13 "TailorChalksModel" "ahead" "[I", .fieldLink RX7 7 "TailorChalksModel" "s" "[I"] ++ wsX70)
def wsX7_records : List Cond := .code yX7_records cX7_records 2 none :: ([.fieldLink RX7 54 "TailorChalksModel" "kept" "I", .fieldLink RX7 16 "TailorChalksModel" "history" "[I", .fieldLink RX7 13 "TailorChalksModel" "ahead" "[I"] ++ wsX70)
def wsX7_layPieces : List Cond := .code yX7_layPieces cX7_layPieces 8 none :: ([.fieldLink RX7 29 "TailorChalksModel" "label" "[I", .fieldLink RX7 7 "TailorChalksModel" "s" "[I", .methodLink RX7 44 yX7_isGone, .instanceMethod yX7_isGone, .selects RX7 yX7_isGone yX7_isGone, .initialized RX7, .code yX7_isGone cX7_isGone 2 (some .boolean), .methodLink RX7 58 yX7_holds, .instanceMethod yX7_holds, .selects RX7 yX7_holds yX7_holds, .code yX7_holds cX7_holds 2 (some .boolean), .methodLink RX7 51 yX7_isVoid, .instanceMethod yX7_isVoid, .selects RX7 yX7_isVoid yX7_isVoid, .code yX7_isVoid cX7_isVoid 2 (some .boolean), .methodLink RX7 40 yX7_first, .static yX7_first, .code yX7_first cX7_first 1 (some .int), .methodLink RX7 48 yX7_second, .static yX7_second, .code yX7_second cX7_second 1 (some .int)] ++ wsX70)
def wsX7_cellsOf : List Cond := .code yX7_cellsOf cX7_cellsOf 4 (some .int) :: ([.fieldLink RX7 29 "TailorChalksModel" "label" "[I"] ++ wsX70)
def wsX7_fallsBy_r1 : List Cond := [Cond.fieldLink RX7 29 "TailorChalksModel" "label" "[I", Cond.methodLink RX7 61 yX7_layPieces, Cond.instanceMethod yX7_layPieces, Cond.selects RX7 yX7_layPieces yX7_layPieces, Cond.initialized RX7, Cond.code yX7_layPieces cX7_layPieces 8 none, Cond.fieldLink RX7 7 "TailorChalksModel" "s" "[I", Cond.methodLink RX7 44 yX7_isGone, Cond.instanceMethod yX7_isGone, Cond.selects RX7 yX7_isGone yX7_isGone, Cond.code yX7_isGone cX7_isGone 2 (some .boolean), Cond.methodLink RX7 58 yX7_holds, Cond.instanceMethod yX7_holds, Cond.selects RX7 yX7_holds yX7_holds, Cond.code yX7_holds cX7_holds 2 (some .boolean), Cond.methodLink RX7 51 yX7_isVoid, Cond.instanceMethod yX7_isVoid, Cond.selects RX7 yX7_isVoid yX7_isVoid, Cond.code yX7_isVoid cX7_isVoid 2 (some .boolean), Cond.methodLink RX7 40 yX7_first, Cond.static yX7_first, Cond.code yX7_first cX7_first 1 (some .int), Cond.methodLink RX7 48 yX7_second, Cond.static yX7_second]
def wsX7_fallsBy_r2 : List Cond := [Cond.code yX7_second cX7_second 1 (some .int), Cond.methodLink RX7 65 yX7_cellsOf, Cond.instanceMethod yX7_cellsOf, Cond.selects RX7 yX7_cellsOf yX7_cellsOf, Cond.code yX7_cellsOf cX7_cellsOf 4 (some .int)]
def wsX7_fallsBy : List Cond := .code yX7_fallsBy cX7_fallsBy 5 (some .int) :: ((wsX7_fallsBy_r1 ++ wsX7_fallsBy_r2) ++ wsX70)
def wsX7_cellsBy_r1 : List Cond := [Cond.methodLink RX7 68 yX7_fallsBy, Cond.instanceMethod yX7_fallsBy, Cond.selects RX7 yX7_fallsBy yX7_fallsBy, Cond.initialized RX7, Cond.code yX7_fallsBy cX7_fallsBy 5 (some .int), Cond.fieldLink RX7 29 "TailorChalksModel" "label" "[I", Cond.methodLink RX7 61 yX7_layPieces, Cond.instanceMethod yX7_layPieces, Cond.selects RX7 yX7_layPieces yX7_layPieces, Cond.code yX7_layPieces cX7_layPieces 8 none, Cond.fieldLink RX7 7 "TailorChalksModel" "s" "[I", Cond.methodLink RX7 44 yX7_isGone, Cond.instanceMethod yX7_isGone, Cond.selects RX7 yX7_isGone yX7_isGone, Cond.code yX7_isGone cX7_isGone 2 (some .boolean), Cond.methodLink RX7 58 yX7_holds, Cond.instanceMethod yX7_holds, Cond.selects RX7 yX7_holds yX7_holds, Cond.code yX7_holds cX7_holds 2 (some .boolean), Cond.methodLink RX7 51 yX7_isVoid, Cond.instanceMethod yX7_isVoid, Cond.selects RX7 yX7_isVoid yX7_isVoid, Cond.code yX7_isVoid cX7_isVoid 2 (some .boolean), Cond.methodLink RX7 40 yX7_first]
def wsX7_cellsBy_r2 : List Cond := [Cond.static yX7_first, Cond.code yX7_first cX7_first 1 (some .int), Cond.methodLink RX7 48 yX7_second, Cond.static yX7_second, Cond.code yX7_second cX7_second 1 (some .int), Cond.methodLink RX7 65 yX7_cellsOf, Cond.instanceMethod yX7_cellsOf, Cond.selects RX7 yX7_cellsOf yX7_cellsOf, Cond.code yX7_cellsOf cX7_cellsOf 4 (some .int)]
def wsX7_cellsBy : List Cond := .code yX7_cellsBy cX7_cellsBy 3 (some .int) :: ((wsX7_cellsBy_r1 ++ wsX7_cellsBy_r2) ++ wsX70)
def wsX7_left : List Cond := .code yX7_left cX7_left 3 (some .int) :: ([.methodLink RX7 44 yX7_isGone, .instanceMethod yX7_isGone, .selects RX7 yX7_isGone yX7_isGone, .initialized RX7, .code yX7_isGone cX7_isGone 2 (some .boolean), .fieldLink RX7 7 "TailorChalksModel" "s" "[I"] ++ wsX70)
def wsX7_isOver : List Cond := .code yX7_isOver cX7_isOver 1 (some .boolean) :: ([.fieldLink RX7 7 "TailorChalksModel" "s" "[I", .methodLink RX7 71 yX7_left, .instanceMethod yX7_left, .selects RX7 yX7_left yX7_left, .initialized RX7, .code yX7_left cX7_left 3 (some .int), .methodLink RX7 44 yX7_isGone, .instanceMethod yX7_isGone, .selects RX7 yX7_isGone yX7_isGone, .code yX7_isGone cX7_isGone 2 (some .boolean)] ++ wsX70)
def wsX7_rankOf : List Cond := .code yX7_rankOf cX7_rankOf 5 (some .int) :: ([.fieldLink RX7 7 "TailorChalksModel" "s" "[I", .methodLink RX7 32 yX7_at, .static yX7_at, .initialized RX7, .code yX7_at cX7_at 2 (some .int), .methodLink RX7 75 yX7_chalkAt, .instanceMethod yX7_chalkAt, .selects RX7 yX7_chalkAt yX7_chalkAt, .code yX7_chalkAt cX7_chalkAt 3 (some .int)] ++ wsX70)
def wsX7_hasChalk : List Cond := .code yX7_hasChalk cX7_hasChalk 3 (some .boolean) :: ([.methodLink RX7 78 yX7_rankOf, .instanceMethod yX7_rankOf, .selects RX7 yX7_rankOf yX7_rankOf, .initialized RX7, .code yX7_rankOf cX7_rankOf 5 (some .int), .fieldLink RX7 7 "TailorChalksModel" "s" "[I", .methodLink RX7 32 yX7_at, .static yX7_at, .code yX7_at cX7_at 2 (some .int), .methodLink RX7 75 yX7_chalkAt, .instanceMethod yX7_chalkAt, .selects RX7 yX7_chalkAt yX7_chalkAt, .code yX7_chalkAt cX7_chalkAt 3 (some .int)] ++ wsX70)
def wsX7_rubs : List Cond := .code yX7_rubs cX7_rubs 5 none :: ([.fieldLink RX7 7 "TailorChalksModel" "s" "[I", .methodLink RX7 78 yX7_rankOf, .instanceMethod yX7_rankOf, .selects RX7 yX7_rankOf yX7_rankOf, .initialized RX7, .code yX7_rankOf cX7_rankOf 5 (some .int), .methodLink RX7 32 yX7_at, .static yX7_at, .code yX7_at cX7_at 2 (some .int), .methodLink RX7 75 yX7_chalkAt, .instanceMethod yX7_chalkAt, .selects RX7 yX7_chalkAt yX7_chalkAt, .code yX7_chalkAt cX7_chalkAt 3 (some .int)] ++ wsX70)
def wsX7_ends : List Cond := .code yX7_ends cX7_ends 2 (some .int) :: ([.fieldLink RX7 7 "TailorChalksModel" "s" "[I"] ++ wsX70)
def wsX7_chalks_r1 : List Cond := [Cond.fieldLink RX7 7 "TailorChalksModel" "s" "[I", Cond.methodLink RX7 81 yX7_isJoint, Cond.static yX7_isJoint, Cond.initialized RX7, Cond.code yX7_isJoint cX7_isJoint 1 (some .boolean), Cond.methodLink RX7 36 yX7_in, Cond.static yX7_in, Cond.code yX7_in cX7_in 3 (some .boolean), Cond.methodLink RX7 84 yX7_isOver, Cond.instanceMethod yX7_isOver, Cond.selects RX7 yX7_isOver yX7_isOver, Cond.code yX7_isOver cX7_isOver 1 (some .boolean), Cond.methodLink RX7 71 yX7_left, Cond.instanceMethod yX7_left, Cond.selects RX7 yX7_left yX7_left, Cond.code yX7_left cX7_left 3 (some .int), Cond.methodLink RX7 44 yX7_isGone, Cond.instanceMethod yX7_isGone, Cond.selects RX7 yX7_isGone yX7_isGone, Cond.code yX7_isGone cX7_isGone 2 (some .boolean), Cond.methodLink RX7 58 yX7_holds, Cond.instanceMethod yX7_holds, Cond.selects RX7 yX7_holds yX7_holds, Cond.code yX7_holds cX7_holds 2 (some .boolean)]
def wsX7_chalks_r2 : List Cond := [Cond.methodLink RX7 51 yX7_isVoid, Cond.instanceMethod yX7_isVoid, Cond.selects RX7 yX7_isVoid yX7_isVoid, Cond.code yX7_isVoid cX7_isVoid 2 (some .boolean), Cond.methodLink RX7 40 yX7_first, Cond.static yX7_first, Cond.code yX7_first cX7_first 1 (some .int), Cond.methodLink RX7 48 yX7_second, Cond.static yX7_second, Cond.code yX7_second cX7_second 1 (some .int), Cond.methodLink RX7 88 yX7_hasChalk, Cond.instanceMethod yX7_hasChalk, Cond.selects RX7 yX7_hasChalk yX7_hasChalk, Cond.code yX7_hasChalk cX7_hasChalk 3 (some .boolean), Cond.methodLink RX7 78 yX7_rankOf, Cond.instanceMethod yX7_rankOf, Cond.selects RX7 yX7_rankOf yX7_rankOf, Cond.code yX7_rankOf cX7_rankOf 5 (some .int), Cond.methodLink RX7 32 yX7_at, Cond.static yX7_at, Cond.code yX7_at cX7_at 2 (some .int), Cond.methodLink RX7 75 yX7_chalkAt, Cond.instanceMethod yX7_chalkAt, Cond.selects RX7 yX7_chalkAt yX7_chalkAt]
def wsX7_chalks_r3 : List Cond := [Cond.code yX7_chalkAt cX7_chalkAt 3 (some .int), Cond.methodLink RX7 92 yX7_ends, Cond.instanceMethod yX7_ends, Cond.selects RX7 yX7_ends yX7_ends, Cond.code yX7_ends cX7_ends 2 (some .int)]
def wsX7_chalks : List Cond := .code yX7_chalks cX7_chalks 3 (some .int) :: ((wsX7_chalks_r1 ++ (wsX7_chalks_r2 ++ wsX7_chalks_r3)) ++ wsX70)
def wsX7_reason : List Cond := .code yX7_reason cX7_reason 2 (some .int) :: ([.fieldLink RX7 7 "TailorChalksModel" "s" "[I", .methodLink RX7 84 yX7_isOver, .instanceMethod yX7_isOver, .selects RX7 yX7_isOver yX7_isOver, .initialized RX7, .code yX7_isOver cX7_isOver 1 (some .boolean), .methodLink RX7 71 yX7_left, .instanceMethod yX7_left, .selects RX7 yX7_left yX7_left, .code yX7_left cX7_left 3 (some .int), .methodLink RX7 44 yX7_isGone, .instanceMethod yX7_isGone, .selects RX7 yX7_isGone yX7_isGone, .code yX7_isGone cX7_isGone 2 (some .boolean), .methodLink RX7 51 yX7_isVoid, .instanceMethod yX7_isVoid, .selects RX7 yX7_isVoid yX7_isVoid, .code yX7_isVoid cX7_isVoid 2 (some .boolean), .methodLink RX7 40 yX7_first, .static yX7_first, .code yX7_first cX7_first 1 (some .int), .methodLink RX7 48 yX7_second, .static yX7_second, .code yX7_second cX7_second 1 (some .int)] ++ wsX70)
def wsX7_snips_r1 : List Cond := [Cond.fieldLink RX7 7 "TailorChalksModel" "s" "[I", Cond.fieldLink RX7 29 "TailorChalksModel" "label" "[I", Cond.methodLink RX7 81 yX7_isJoint, Cond.static yX7_isJoint, Cond.initialized RX7, Cond.code yX7_isJoint cX7_isJoint 1 (some .boolean), Cond.methodLink RX7 36 yX7_in, Cond.static yX7_in, Cond.code yX7_in cX7_in 3 (some .boolean), Cond.methodLink RX7 95 yX7_reason, Cond.instanceMethod yX7_reason, Cond.selects RX7 yX7_reason yX7_reason, Cond.code yX7_reason cX7_reason 2 (some .int), Cond.methodLink RX7 84 yX7_isOver, Cond.instanceMethod yX7_isOver, Cond.selects RX7 yX7_isOver yX7_isOver, Cond.code yX7_isOver cX7_isOver 1 (some .boolean), Cond.methodLink RX7 71 yX7_left, Cond.instanceMethod yX7_left, Cond.selects RX7 yX7_left yX7_left, Cond.code yX7_left cX7_left 3 (some .int), Cond.methodLink RX7 44 yX7_isGone, Cond.instanceMethod yX7_isGone, Cond.selects RX7 yX7_isGone yX7_isGone]
def wsX7_snips_r2 : List Cond := [Cond.code yX7_isGone cX7_isGone 2 (some .boolean), Cond.methodLink RX7 51 yX7_isVoid, Cond.instanceMethod yX7_isVoid, Cond.selects RX7 yX7_isVoid yX7_isVoid, Cond.code yX7_isVoid cX7_isVoid 2 (some .boolean), Cond.methodLink RX7 40 yX7_first, Cond.static yX7_first, Cond.code yX7_first cX7_first 1 (some .int), Cond.methodLink RX7 48 yX7_second, Cond.static yX7_second, Cond.code yX7_second cX7_second 1 (some .int), Cond.methodLink RX7 88 yX7_hasChalk, Cond.instanceMethod yX7_hasChalk, Cond.selects RX7 yX7_hasChalk yX7_hasChalk, Cond.code yX7_hasChalk cX7_hasChalk 3 (some .boolean), Cond.methodLink RX7 78 yX7_rankOf, Cond.instanceMethod yX7_rankOf, Cond.selects RX7 yX7_rankOf yX7_rankOf, Cond.code yX7_rankOf cX7_rankOf 5 (some .int), Cond.methodLink RX7 32 yX7_at, Cond.static yX7_at, Cond.code yX7_at cX7_at 2 (some .int), Cond.methodLink RX7 75 yX7_chalkAt, Cond.instanceMethod yX7_chalkAt]
def wsX7_snips_r3 : List Cond := [Cond.selects RX7 yX7_chalkAt yX7_chalkAt, Cond.code yX7_chalkAt cX7_chalkAt 3 (some .int), Cond.methodLink RX7 98 yX7_rubs, Cond.instanceMethod yX7_rubs, Cond.selects RX7 yX7_rubs yX7_rubs, Cond.code yX7_rubs cX7_rubs 5 none, Cond.methodLink RX7 68 yX7_fallsBy, Cond.instanceMethod yX7_fallsBy, Cond.selects RX7 yX7_fallsBy yX7_fallsBy, Cond.code yX7_fallsBy cX7_fallsBy 5 (some .int), Cond.methodLink RX7 61 yX7_layPieces, Cond.instanceMethod yX7_layPieces, Cond.selects RX7 yX7_layPieces yX7_layPieces, Cond.code yX7_layPieces cX7_layPieces 8 none, Cond.methodLink RX7 58 yX7_holds, Cond.instanceMethod yX7_holds, Cond.selects RX7 yX7_holds yX7_holds, Cond.code yX7_holds cX7_holds 2 (some .boolean), Cond.methodLink RX7 65 yX7_cellsOf, Cond.instanceMethod yX7_cellsOf, Cond.selects RX7 yX7_cellsOf yX7_cellsOf, Cond.code yX7_cellsOf cX7_cellsOf 4 (some .int), Cond.methodLink RX7 92 yX7_ends, Cond.instanceMethod yX7_ends]
def wsX7_snips_r4 : List Cond := [Cond.selects RX7 yX7_ends yX7_ends, Cond.code yX7_ends cX7_ends 2 (some .int)]
def wsX7_snips : List Cond := .code yX7_snips cX7_snips 7 (some .int) :: ((wsX7_snips_r1 ++ (wsX7_snips_r2 ++ (wsX7_snips_r3 ++ wsX7_snips_r4))) ++ wsX70)
def wsX7_isCut : List Cond := .code yX7_isCut cX7_isCut 2 (some .boolean) :: ([.fieldLink RX7 7 "TailorChalksModel" "s" "[I", .methodLink RX7 84 yX7_isOver, .instanceMethod yX7_isOver, .selects RX7 yX7_isOver yX7_isOver, .initialized RX7, .code yX7_isOver cX7_isOver 1 (some .boolean), .methodLink RX7 71 yX7_left, .instanceMethod yX7_left, .selects RX7 yX7_left yX7_left, .code yX7_left cX7_left 3 (some .int), .methodLink RX7 44 yX7_isGone, .instanceMethod yX7_isGone, .selects RX7 yX7_isGone yX7_isGone, .code yX7_isGone cX7_isGone 2 (some .boolean), .methodLink RX7 51 yX7_isVoid, .instanceMethod yX7_isVoid, .selects RX7 yX7_isVoid yX7_isVoid, .code yX7_isVoid cX7_isVoid 2 (some .boolean), .methodLink RX7 40 yX7_first, .static yX7_first, .code yX7_first cX7_first 1 (some .int), .methodLink RX7 48 yX7_second, .static yX7_second, .code yX7_second cX7_second 1 (some .int)] ++ wsX70)
def wsX7_sews_r1 : List Cond := [Cond.fieldLink RX7 7 "TailorChalksModel" "s" "[I", Cond.methodLink RX7 81 yX7_isJoint, Cond.static yX7_isJoint, Cond.initialized RX7, Cond.code yX7_isJoint cX7_isJoint 1 (some .boolean), Cond.methodLink RX7 36 yX7_in, Cond.static yX7_in, Cond.code yX7_in cX7_in 3 (some .boolean), Cond.methodLink RX7 102 yX7_isCut, Cond.instanceMethod yX7_isCut, Cond.selects RX7 yX7_isCut yX7_isCut, Cond.code yX7_isCut cX7_isCut 2 (some .boolean), Cond.methodLink RX7 84 yX7_isOver, Cond.instanceMethod yX7_isOver, Cond.selects RX7 yX7_isOver yX7_isOver, Cond.code yX7_isOver cX7_isOver 1 (some .boolean), Cond.methodLink RX7 71 yX7_left, Cond.instanceMethod yX7_left, Cond.selects RX7 yX7_left yX7_left, Cond.code yX7_left cX7_left 3 (some .int), Cond.methodLink RX7 44 yX7_isGone, Cond.instanceMethod yX7_isGone, Cond.selects RX7 yX7_isGone yX7_isGone, Cond.code yX7_isGone cX7_isGone 2 (some .boolean)]
def wsX7_sews_r2 : List Cond := [Cond.methodLink RX7 51 yX7_isVoid, Cond.instanceMethod yX7_isVoid, Cond.selects RX7 yX7_isVoid yX7_isVoid, Cond.code yX7_isVoid cX7_isVoid 2 (some .boolean), Cond.methodLink RX7 40 yX7_first, Cond.static yX7_first, Cond.code yX7_first cX7_first 1 (some .int), Cond.methodLink RX7 48 yX7_second, Cond.static yX7_second, Cond.code yX7_second cX7_second 1 (some .int), Cond.methodLink RX7 32 yX7_at, Cond.static yX7_at, Cond.code yX7_at cX7_at 2 (some .int), Cond.methodLink RX7 92 yX7_ends, Cond.instanceMethod yX7_ends, Cond.selects RX7 yX7_ends yX7_ends, Cond.code yX7_ends cX7_ends 2 (some .int)]
def wsX7_sews : List Cond := .code yX7_sews cX7_sews 3 (some .int) :: ((wsX7_sews_r1 ++ wsX7_sews_r2) ++ wsX70)
def wsX7_many : List Cond := .code yX7_many cX7_many 4 (some .int) :: ([.fieldLink RX7 7 "TailorChalksModel" "s" "[I", .methodLink RX7 51 yX7_isVoid, .instanceMethod yX7_isVoid, .selects RX7 yX7_isVoid yX7_isVoid, .initialized RX7, .code yX7_isVoid cX7_isVoid 2 (some .boolean), .methodLink RX7 40 yX7_first, .static yX7_first, .code yX7_first cX7_first 1 (some .int), .methodLink RX7 44 yX7_isGone, .instanceMethod yX7_isGone, .selects RX7 yX7_isGone yX7_isGone, .code yX7_isGone cX7_isGone 2 (some .boolean), .methodLink RX7 48 yX7_second, .static yX7_second, .code yX7_second cX7_second 1 (some .int)] ++ wsX70)
def wsX7_bluffs_r1 : List Cond := [Cond.fieldLink RX7 7 "TailorChalksModel" "s" "[I", Cond.methodLink RX7 81 yX7_isJoint, Cond.static yX7_isJoint, Cond.initialized RX7, Cond.code yX7_isJoint cX7_isJoint 1 (some .boolean), Cond.methodLink RX7 36 yX7_in, Cond.static yX7_in, Cond.code yX7_in cX7_in 3 (some .boolean), Cond.methodLink RX7 102 yX7_isCut, Cond.instanceMethod yX7_isCut, Cond.selects RX7 yX7_isCut yX7_isCut, Cond.code yX7_isCut cX7_isCut 2 (some .boolean), Cond.methodLink RX7 84 yX7_isOver, Cond.instanceMethod yX7_isOver, Cond.selects RX7 yX7_isOver yX7_isOver, Cond.code yX7_isOver cX7_isOver 1 (some .boolean), Cond.methodLink RX7 71 yX7_left, Cond.instanceMethod yX7_left, Cond.selects RX7 yX7_left yX7_left, Cond.code yX7_left cX7_left 3 (some .int), Cond.methodLink RX7 44 yX7_isGone, Cond.instanceMethod yX7_isGone, Cond.selects RX7 yX7_isGone yX7_isGone, Cond.code yX7_isGone cX7_isGone 2 (some .boolean)]
def wsX7_bluffs_r2 : List Cond := [Cond.methodLink RX7 51 yX7_isVoid, Cond.instanceMethod yX7_isVoid, Cond.selects RX7 yX7_isVoid yX7_isVoid, Cond.code yX7_isVoid cX7_isVoid 2 (some .boolean), Cond.methodLink RX7 40 yX7_first, Cond.static yX7_first, Cond.code yX7_first cX7_first 1 (some .int), Cond.methodLink RX7 48 yX7_second, Cond.static yX7_second, Cond.code yX7_second cX7_second 1 (some .int), Cond.methodLink RX7 105 yX7_many, Cond.instanceMethod yX7_many, Cond.selects RX7 yX7_many yX7_many, Cond.code yX7_many cX7_many 4 (some .int), Cond.methodLink RX7 92 yX7_ends, Cond.instanceMethod yX7_ends, Cond.selects RX7 yX7_ends yX7_ends, Cond.code yX7_ends cX7_ends 2 (some .int)]
def wsX7_bluffs : List Cond := .code yX7_bluffs cX7_bluffs 2 (some .int) :: ((wsX7_bluffs_r1 ++ wsX7_bluffs_r2) ++ wsX70)
def wsX7_doubts_r1 : List Cond := [Cond.fieldLink RX7 7 "TailorChalksModel" "s" "[I", Cond.methodLink RX7 81 yX7_isJoint, Cond.static yX7_isJoint, Cond.initialized RX7, Cond.code yX7_isJoint cX7_isJoint 1 (some .boolean), Cond.methodLink RX7 36 yX7_in, Cond.static yX7_in, Cond.code yX7_in cX7_in 3 (some .boolean), Cond.methodLink RX7 84 yX7_isOver, Cond.instanceMethod yX7_isOver, Cond.selects RX7 yX7_isOver yX7_isOver, Cond.code yX7_isOver cX7_isOver 1 (some .boolean), Cond.methodLink RX7 71 yX7_left, Cond.instanceMethod yX7_left, Cond.selects RX7 yX7_left yX7_left, Cond.code yX7_left cX7_left 3 (some .int), Cond.methodLink RX7 44 yX7_isGone, Cond.instanceMethod yX7_isGone, Cond.selects RX7 yX7_isGone yX7_isGone, Cond.code yX7_isGone cX7_isGone 2 (some .boolean), Cond.methodLink RX7 51 yX7_isVoid, Cond.instanceMethod yX7_isVoid, Cond.selects RX7 yX7_isVoid yX7_isVoid, Cond.code yX7_isVoid cX7_isVoid 2 (some .boolean)]
def wsX7_doubts_r2 : List Cond := [Cond.methodLink RX7 40 yX7_first, Cond.static yX7_first, Cond.code yX7_first cX7_first 1 (some .int), Cond.methodLink RX7 48 yX7_second, Cond.static yX7_second, Cond.code yX7_second cX7_second 1 (some .int), Cond.methodLink RX7 32 yX7_at, Cond.static yX7_at, Cond.code yX7_at cX7_at 2 (some .int), Cond.methodLink RX7 92 yX7_ends, Cond.instanceMethod yX7_ends, Cond.selects RX7 yX7_ends yX7_ends, Cond.code yX7_ends cX7_ends 2 (some .int)]
def wsX7_doubts : List Cond := .code yX7_doubts cX7_doubts 4 (some .int) :: ((wsX7_doubts_r1 ++ wsX7_doubts_r2) ++ wsX70)
def wsX7_passes : List Cond := .code yX7_passes cX7_passes 1 (some .int) :: ([.fieldLink RX7 7 "TailorChalksModel" "s" "[I", .methodLink RX7 84 yX7_isOver, .instanceMethod yX7_isOver, .selects RX7 yX7_isOver yX7_isOver, .initialized RX7, .code yX7_isOver cX7_isOver 1 (some .boolean), .methodLink RX7 71 yX7_left, .instanceMethod yX7_left, .selects RX7 yX7_left yX7_left, .code yX7_left cX7_left 3 (some .int), .methodLink RX7 44 yX7_isGone, .instanceMethod yX7_isGone, .selects RX7 yX7_isGone yX7_isGone, .code yX7_isGone cX7_isGone 2 (some .boolean), .methodLink RX7 92 yX7_ends, .instanceMethod yX7_ends, .selects RX7 yX7_ends yX7_ends, .code yX7_ends cX7_ends 2 (some .int)] ++ wsX70)
def wsX7_does_r1 : List Cond := [Cond.methodLink RX7 108 yX7_chalks, Cond.instanceMethod yX7_chalks, Cond.selects RX7 yX7_chalks yX7_chalks, Cond.initialized RX7, Cond.code yX7_chalks cX7_chalks 3 (some .int), Cond.fieldLink RX7 7 "TailorChalksModel" "s" "[I", Cond.methodLink RX7 81 yX7_isJoint, Cond.static yX7_isJoint, Cond.code yX7_isJoint cX7_isJoint 1 (some .boolean), Cond.methodLink RX7 36 yX7_in, Cond.static yX7_in, Cond.code yX7_in cX7_in 3 (some .boolean), Cond.methodLink RX7 84 yX7_isOver, Cond.instanceMethod yX7_isOver, Cond.selects RX7 yX7_isOver yX7_isOver, Cond.code yX7_isOver cX7_isOver 1 (some .boolean), Cond.methodLink RX7 71 yX7_left, Cond.instanceMethod yX7_left, Cond.selects RX7 yX7_left yX7_left, Cond.code yX7_left cX7_left 3 (some .int), Cond.methodLink RX7 44 yX7_isGone, Cond.instanceMethod yX7_isGone, Cond.selects RX7 yX7_isGone yX7_isGone, Cond.code yX7_isGone cX7_isGone 2 (some .boolean)]
def wsX7_does_r2 : List Cond := [Cond.methodLink RX7 58 yX7_holds, Cond.instanceMethod yX7_holds, Cond.selects RX7 yX7_holds yX7_holds, Cond.code yX7_holds cX7_holds 2 (some .boolean), Cond.methodLink RX7 51 yX7_isVoid, Cond.instanceMethod yX7_isVoid, Cond.selects RX7 yX7_isVoid yX7_isVoid, Cond.code yX7_isVoid cX7_isVoid 2 (some .boolean), Cond.methodLink RX7 40 yX7_first, Cond.static yX7_first, Cond.code yX7_first cX7_first 1 (some .int), Cond.methodLink RX7 48 yX7_second, Cond.static yX7_second, Cond.code yX7_second cX7_second 1 (some .int), Cond.methodLink RX7 88 yX7_hasChalk, Cond.instanceMethod yX7_hasChalk, Cond.selects RX7 yX7_hasChalk yX7_hasChalk, Cond.code yX7_hasChalk cX7_hasChalk 3 (some .boolean), Cond.methodLink RX7 78 yX7_rankOf, Cond.instanceMethod yX7_rankOf, Cond.selects RX7 yX7_rankOf yX7_rankOf, Cond.code yX7_rankOf cX7_rankOf 5 (some .int), Cond.methodLink RX7 32 yX7_at, Cond.static yX7_at]
def wsX7_does_r3 : List Cond := [Cond.code yX7_at cX7_at 2 (some .int), Cond.methodLink RX7 75 yX7_chalkAt, Cond.instanceMethod yX7_chalkAt, Cond.selects RX7 yX7_chalkAt yX7_chalkAt, Cond.code yX7_chalkAt cX7_chalkAt 3 (some .int), Cond.methodLink RX7 92 yX7_ends, Cond.instanceMethod yX7_ends, Cond.selects RX7 yX7_ends yX7_ends, Cond.code yX7_ends cX7_ends 2 (some .int), Cond.methodLink RX7 111 yX7_snips, Cond.instanceMethod yX7_snips, Cond.selects RX7 yX7_snips yX7_snips, Cond.code yX7_snips cX7_snips 7 (some .int), Cond.fieldLink RX7 29 "TailorChalksModel" "label" "[I", Cond.methodLink RX7 95 yX7_reason, Cond.instanceMethod yX7_reason, Cond.selects RX7 yX7_reason yX7_reason, Cond.code yX7_reason cX7_reason 2 (some .int), Cond.methodLink RX7 98 yX7_rubs, Cond.instanceMethod yX7_rubs, Cond.selects RX7 yX7_rubs yX7_rubs, Cond.code yX7_rubs cX7_rubs 5 none, Cond.methodLink RX7 68 yX7_fallsBy, Cond.instanceMethod yX7_fallsBy]
def wsX7_does_r4 : List Cond := [Cond.selects RX7 yX7_fallsBy yX7_fallsBy, Cond.code yX7_fallsBy cX7_fallsBy 5 (some .int), Cond.methodLink RX7 61 yX7_layPieces, Cond.instanceMethod yX7_layPieces, Cond.selects RX7 yX7_layPieces yX7_layPieces, Cond.code yX7_layPieces cX7_layPieces 8 none, Cond.methodLink RX7 65 yX7_cellsOf, Cond.instanceMethod yX7_cellsOf, Cond.selects RX7 yX7_cellsOf yX7_cellsOf, Cond.code yX7_cellsOf cX7_cellsOf 4 (some .int), Cond.methodLink RX7 114 yX7_sews, Cond.instanceMethod yX7_sews, Cond.selects RX7 yX7_sews yX7_sews, Cond.code yX7_sews cX7_sews 3 (some .int), Cond.methodLink RX7 102 yX7_isCut, Cond.instanceMethod yX7_isCut, Cond.selects RX7 yX7_isCut yX7_isCut, Cond.code yX7_isCut cX7_isCut 2 (some .boolean), Cond.methodLink RX7 117 yX7_bluffs, Cond.instanceMethod yX7_bluffs, Cond.selects RX7 yX7_bluffs yX7_bluffs, Cond.code yX7_bluffs cX7_bluffs 2 (some .int), Cond.methodLink RX7 105 yX7_many, Cond.instanceMethod yX7_many]
def wsX7_does_r5 : List Cond := [Cond.selects RX7 yX7_many yX7_many, Cond.code yX7_many cX7_many 4 (some .int), Cond.methodLink RX7 120 yX7_doubts, Cond.instanceMethod yX7_doubts, Cond.selects RX7 yX7_doubts yX7_doubts, Cond.code yX7_doubts cX7_doubts 4 (some .int), Cond.methodLink RX7 123 yX7_passes, Cond.instanceMethod yX7_passes, Cond.selects RX7 yX7_passes yX7_passes, Cond.code yX7_passes cX7_passes 1 (some .int)]
def wsX7_does : List Cond := .code yX7_does cX7_does 3 (some .int) :: ((wsX7_does_r1 ++ (wsX7_does_r2 ++ (wsX7_does_r3 ++ (wsX7_does_r4 ++ wsX7_does_r5)))) ++ wsX70)
def wsX7_turns_r1 : List Cond := [Cond.methodLink RX7 126 yX7_looks, Cond.instanceMethod yX7_looks, Cond.selects RX7 yX7_looks yX7_looks, Cond.initialized RX7, Cond.code yX7_looks cX7_looks 2 none, Cond.fieldLink RX7 13 "TailorChalksModel" "ahead" "[I", Cond.fieldLink RX7 7 "TailorChalksModel" "s" "[I", Cond.methodLink RX7 129 yX7_does, Cond.instanceMethod yX7_does, Cond.selects RX7 yX7_does yX7_does, Cond.code yX7_does cX7_does 3 (some .int), Cond.methodLink RX7 108 yX7_chalks, Cond.instanceMethod yX7_chalks, Cond.selects RX7 yX7_chalks yX7_chalks, Cond.code yX7_chalks cX7_chalks 3 (some .int), Cond.methodLink RX7 81 yX7_isJoint, Cond.static yX7_isJoint, Cond.code yX7_isJoint cX7_isJoint 1 (some .boolean), Cond.methodLink RX7 36 yX7_in, Cond.static yX7_in, Cond.code yX7_in cX7_in 3 (some .boolean), Cond.methodLink RX7 84 yX7_isOver, Cond.instanceMethod yX7_isOver, Cond.selects RX7 yX7_isOver yX7_isOver]
def wsX7_turns_r2 : List Cond := [Cond.code yX7_isOver cX7_isOver 1 (some .boolean), Cond.methodLink RX7 71 yX7_left, Cond.instanceMethod yX7_left, Cond.selects RX7 yX7_left yX7_left, Cond.code yX7_left cX7_left 3 (some .int), Cond.methodLink RX7 44 yX7_isGone, Cond.instanceMethod yX7_isGone, Cond.selects RX7 yX7_isGone yX7_isGone, Cond.code yX7_isGone cX7_isGone 2 (some .boolean), Cond.methodLink RX7 58 yX7_holds, Cond.instanceMethod yX7_holds, Cond.selects RX7 yX7_holds yX7_holds, Cond.code yX7_holds cX7_holds 2 (some .boolean), Cond.methodLink RX7 51 yX7_isVoid, Cond.instanceMethod yX7_isVoid, Cond.selects RX7 yX7_isVoid yX7_isVoid, Cond.code yX7_isVoid cX7_isVoid 2 (some .boolean), Cond.methodLink RX7 40 yX7_first, Cond.static yX7_first, Cond.code yX7_first cX7_first 1 (some .int), Cond.methodLink RX7 48 yX7_second, Cond.static yX7_second, Cond.code yX7_second cX7_second 1 (some .int), Cond.methodLink RX7 88 yX7_hasChalk]
def wsX7_turns_r3 : List Cond := [Cond.instanceMethod yX7_hasChalk, Cond.selects RX7 yX7_hasChalk yX7_hasChalk, Cond.code yX7_hasChalk cX7_hasChalk 3 (some .boolean), Cond.methodLink RX7 78 yX7_rankOf, Cond.instanceMethod yX7_rankOf, Cond.selects RX7 yX7_rankOf yX7_rankOf, Cond.code yX7_rankOf cX7_rankOf 5 (some .int), Cond.methodLink RX7 32 yX7_at, Cond.static yX7_at, Cond.code yX7_at cX7_at 2 (some .int), Cond.methodLink RX7 75 yX7_chalkAt, Cond.instanceMethod yX7_chalkAt, Cond.selects RX7 yX7_chalkAt yX7_chalkAt, Cond.code yX7_chalkAt cX7_chalkAt 3 (some .int), Cond.methodLink RX7 92 yX7_ends, Cond.instanceMethod yX7_ends, Cond.selects RX7 yX7_ends yX7_ends, Cond.code yX7_ends cX7_ends 2 (some .int), Cond.methodLink RX7 111 yX7_snips, Cond.instanceMethod yX7_snips, Cond.selects RX7 yX7_snips yX7_snips, Cond.code yX7_snips cX7_snips 7 (some .int), Cond.fieldLink RX7 29 "TailorChalksModel" "label" "[I", Cond.methodLink RX7 95 yX7_reason]
def wsX7_turns_r4 : List Cond := [Cond.instanceMethod yX7_reason, Cond.selects RX7 yX7_reason yX7_reason, Cond.code yX7_reason cX7_reason 2 (some .int), Cond.methodLink RX7 98 yX7_rubs, Cond.instanceMethod yX7_rubs, Cond.selects RX7 yX7_rubs yX7_rubs, Cond.code yX7_rubs cX7_rubs 5 none, Cond.methodLink RX7 68 yX7_fallsBy, Cond.instanceMethod yX7_fallsBy, Cond.selects RX7 yX7_fallsBy yX7_fallsBy, Cond.code yX7_fallsBy cX7_fallsBy 5 (some .int), Cond.methodLink RX7 61 yX7_layPieces, Cond.instanceMethod yX7_layPieces, Cond.selects RX7 yX7_layPieces yX7_layPieces, Cond.code yX7_layPieces cX7_layPieces 8 none, Cond.methodLink RX7 65 yX7_cellsOf, Cond.instanceMethod yX7_cellsOf, Cond.selects RX7 yX7_cellsOf yX7_cellsOf, Cond.code yX7_cellsOf cX7_cellsOf 4 (some .int), Cond.methodLink RX7 114 yX7_sews, Cond.instanceMethod yX7_sews, Cond.selects RX7 yX7_sews yX7_sews, Cond.code yX7_sews cX7_sews 3 (some .int), Cond.methodLink RX7 102 yX7_isCut]
def wsX7_turns_r5 : List Cond := [Cond.instanceMethod yX7_isCut, Cond.selects RX7 yX7_isCut yX7_isCut, Cond.code yX7_isCut cX7_isCut 2 (some .boolean), Cond.methodLink RX7 117 yX7_bluffs, Cond.instanceMethod yX7_bluffs, Cond.selects RX7 yX7_bluffs yX7_bluffs, Cond.code yX7_bluffs cX7_bluffs 2 (some .int), Cond.methodLink RX7 105 yX7_many, Cond.instanceMethod yX7_many, Cond.selects RX7 yX7_many yX7_many, Cond.code yX7_many cX7_many 4 (some .int), Cond.methodLink RX7 120 yX7_doubts, Cond.instanceMethod yX7_doubts, Cond.selects RX7 yX7_doubts yX7_doubts, Cond.code yX7_doubts cX7_doubts 4 (some .int), Cond.methodLink RX7 123 yX7_passes, Cond.instanceMethod yX7_passes, Cond.selects RX7 yX7_passes yX7_passes, Cond.code yX7_passes cX7_passes 1 (some .int), Cond.methodLink RX7 132 yX7_records, Cond.instanceMethod yX7_records, Cond.selects RX7 yX7_records yX7_records, Cond.code yX7_records cX7_records 2 none, Cond.fieldLink RX7 54 "TailorChalksModel" "kept" "I"]
def wsX7_turns_r6 : List Cond := [Cond.fieldLink RX7 16 "TailorChalksModel" "history" "[I"]
def wsX7_turns : List Cond := .code yX7_turns cX7_turns 4 (some .int) :: ((wsX7_turns_r1 ++ (wsX7_turns_r2 ++ (wsX7_turns_r3 ++ (wsX7_turns_r4 ++ (wsX7_turns_r5 ++ wsX7_turns_r6))))) ++ wsX70)
def wsX7_chalk_r1 : List Cond := [Cond.methodLink RX7 135 yX7_turns, Cond.instanceMethod yX7_turns, Cond.selects RX7 yX7_turns yX7_turns, Cond.initialized RX7, Cond.code yX7_turns cX7_turns 4 (some .int), Cond.methodLink RX7 126 yX7_looks, Cond.instanceMethod yX7_looks, Cond.selects RX7 yX7_looks yX7_looks, Cond.code yX7_looks cX7_looks 2 none, Cond.fieldLink RX7 13 "TailorChalksModel" "ahead" "[I", Cond.fieldLink RX7 7 "TailorChalksModel" "s" "[I", Cond.methodLink RX7 129 yX7_does, Cond.instanceMethod yX7_does, Cond.selects RX7 yX7_does yX7_does, Cond.code yX7_does cX7_does 3 (some .int), Cond.methodLink RX7 108 yX7_chalks, Cond.instanceMethod yX7_chalks, Cond.selects RX7 yX7_chalks yX7_chalks, Cond.code yX7_chalks cX7_chalks 3 (some .int), Cond.methodLink RX7 81 yX7_isJoint, Cond.static yX7_isJoint, Cond.code yX7_isJoint cX7_isJoint 1 (some .boolean), Cond.methodLink RX7 36 yX7_in, Cond.static yX7_in]
def wsX7_chalk_r2 : List Cond := [Cond.code yX7_in cX7_in 3 (some .boolean), Cond.methodLink RX7 84 yX7_isOver, Cond.instanceMethod yX7_isOver, Cond.selects RX7 yX7_isOver yX7_isOver, Cond.code yX7_isOver cX7_isOver 1 (some .boolean), Cond.methodLink RX7 71 yX7_left, Cond.instanceMethod yX7_left, Cond.selects RX7 yX7_left yX7_left, Cond.code yX7_left cX7_left 3 (some .int), Cond.methodLink RX7 44 yX7_isGone, Cond.instanceMethod yX7_isGone, Cond.selects RX7 yX7_isGone yX7_isGone, Cond.code yX7_isGone cX7_isGone 2 (some .boolean), Cond.methodLink RX7 58 yX7_holds, Cond.instanceMethod yX7_holds, Cond.selects RX7 yX7_holds yX7_holds, Cond.code yX7_holds cX7_holds 2 (some .boolean), Cond.methodLink RX7 51 yX7_isVoid, Cond.instanceMethod yX7_isVoid, Cond.selects RX7 yX7_isVoid yX7_isVoid, Cond.code yX7_isVoid cX7_isVoid 2 (some .boolean), Cond.methodLink RX7 40 yX7_first, Cond.static yX7_first, Cond.code yX7_first cX7_first 1 (some .int)]
def wsX7_chalk_r3 : List Cond := [Cond.methodLink RX7 48 yX7_second, Cond.static yX7_second, Cond.code yX7_second cX7_second 1 (some .int), Cond.methodLink RX7 88 yX7_hasChalk, Cond.instanceMethod yX7_hasChalk, Cond.selects RX7 yX7_hasChalk yX7_hasChalk, Cond.code yX7_hasChalk cX7_hasChalk 3 (some .boolean), Cond.methodLink RX7 78 yX7_rankOf, Cond.instanceMethod yX7_rankOf, Cond.selects RX7 yX7_rankOf yX7_rankOf, Cond.code yX7_rankOf cX7_rankOf 5 (some .int), Cond.methodLink RX7 32 yX7_at, Cond.static yX7_at, Cond.code yX7_at cX7_at 2 (some .int), Cond.methodLink RX7 75 yX7_chalkAt, Cond.instanceMethod yX7_chalkAt, Cond.selects RX7 yX7_chalkAt yX7_chalkAt, Cond.code yX7_chalkAt cX7_chalkAt 3 (some .int), Cond.methodLink RX7 92 yX7_ends, Cond.instanceMethod yX7_ends, Cond.selects RX7 yX7_ends yX7_ends, Cond.code yX7_ends cX7_ends 2 (some .int), Cond.methodLink RX7 111 yX7_snips, Cond.instanceMethod yX7_snips]
def wsX7_chalk_r4 : List Cond := [Cond.selects RX7 yX7_snips yX7_snips, Cond.code yX7_snips cX7_snips 7 (some .int), Cond.fieldLink RX7 29 "TailorChalksModel" "label" "[I", Cond.methodLink RX7 95 yX7_reason, Cond.instanceMethod yX7_reason, Cond.selects RX7 yX7_reason yX7_reason, Cond.code yX7_reason cX7_reason 2 (some .int), Cond.methodLink RX7 98 yX7_rubs, Cond.instanceMethod yX7_rubs, Cond.selects RX7 yX7_rubs yX7_rubs, Cond.code yX7_rubs cX7_rubs 5 none, Cond.methodLink RX7 68 yX7_fallsBy, Cond.instanceMethod yX7_fallsBy, Cond.selects RX7 yX7_fallsBy yX7_fallsBy, Cond.code yX7_fallsBy cX7_fallsBy 5 (some .int), Cond.methodLink RX7 61 yX7_layPieces, Cond.instanceMethod yX7_layPieces, Cond.selects RX7 yX7_layPieces yX7_layPieces, Cond.code yX7_layPieces cX7_layPieces 8 none, Cond.methodLink RX7 65 yX7_cellsOf, Cond.instanceMethod yX7_cellsOf, Cond.selects RX7 yX7_cellsOf yX7_cellsOf, Cond.code yX7_cellsOf cX7_cellsOf 4 (some .int), Cond.methodLink RX7 114 yX7_sews]
def wsX7_chalk_r5 : List Cond := [Cond.instanceMethod yX7_sews, Cond.selects RX7 yX7_sews yX7_sews, Cond.code yX7_sews cX7_sews 3 (some .int), Cond.methodLink RX7 102 yX7_isCut, Cond.instanceMethod yX7_isCut, Cond.selects RX7 yX7_isCut yX7_isCut, Cond.code yX7_isCut cX7_isCut 2 (some .boolean), Cond.methodLink RX7 117 yX7_bluffs, Cond.instanceMethod yX7_bluffs, Cond.selects RX7 yX7_bluffs yX7_bluffs, Cond.code yX7_bluffs cX7_bluffs 2 (some .int), Cond.methodLink RX7 105 yX7_many, Cond.instanceMethod yX7_many, Cond.selects RX7 yX7_many yX7_many, Cond.code yX7_many cX7_many 4 (some .int), Cond.methodLink RX7 120 yX7_doubts, Cond.instanceMethod yX7_doubts, Cond.selects RX7 yX7_doubts yX7_doubts, Cond.code yX7_doubts cX7_doubts 4 (some .int), Cond.methodLink RX7 123 yX7_passes, Cond.instanceMethod yX7_passes, Cond.selects RX7 yX7_passes yX7_passes, Cond.code yX7_passes cX7_passes 1 (some .int), Cond.methodLink RX7 132 yX7_records]
def wsX7_chalk_r6 : List Cond := [Cond.instanceMethod yX7_records, Cond.selects RX7 yX7_records yX7_records, Cond.code yX7_records cX7_records 2 none, Cond.fieldLink RX7 54 "TailorChalksModel" "kept" "I", Cond.fieldLink RX7 16 "TailorChalksModel" "history" "[I"]
def wsX7_chalk : List Cond := .code yX7_chalk cX7_chalk 2 (some .int) :: ((wsX7_chalk_r1 ++ (wsX7_chalk_r2 ++ (wsX7_chalk_r3 ++ (wsX7_chalk_r4 ++ (wsX7_chalk_r5 ++ wsX7_chalk_r6))))) ++ wsX70)
def wsX7_snip_r1 : List Cond := [Cond.methodLink RX7 135 yX7_turns, Cond.instanceMethod yX7_turns, Cond.selects RX7 yX7_turns yX7_turns, Cond.initialized RX7, Cond.code yX7_turns cX7_turns 4 (some .int), Cond.methodLink RX7 126 yX7_looks, Cond.instanceMethod yX7_looks, Cond.selects RX7 yX7_looks yX7_looks, Cond.code yX7_looks cX7_looks 2 none, Cond.fieldLink RX7 13 "TailorChalksModel" "ahead" "[I", Cond.fieldLink RX7 7 "TailorChalksModel" "s" "[I", Cond.methodLink RX7 129 yX7_does, Cond.instanceMethod yX7_does, Cond.selects RX7 yX7_does yX7_does, Cond.code yX7_does cX7_does 3 (some .int), Cond.methodLink RX7 108 yX7_chalks, Cond.instanceMethod yX7_chalks, Cond.selects RX7 yX7_chalks yX7_chalks, Cond.code yX7_chalks cX7_chalks 3 (some .int), Cond.methodLink RX7 81 yX7_isJoint, Cond.static yX7_isJoint, Cond.code yX7_isJoint cX7_isJoint 1 (some .boolean), Cond.methodLink RX7 36 yX7_in, Cond.static yX7_in]
def wsX7_snip_r2 : List Cond := [Cond.code yX7_in cX7_in 3 (some .boolean), Cond.methodLink RX7 84 yX7_isOver, Cond.instanceMethod yX7_isOver, Cond.selects RX7 yX7_isOver yX7_isOver, Cond.code yX7_isOver cX7_isOver 1 (some .boolean), Cond.methodLink RX7 71 yX7_left, Cond.instanceMethod yX7_left, Cond.selects RX7 yX7_left yX7_left, Cond.code yX7_left cX7_left 3 (some .int), Cond.methodLink RX7 44 yX7_isGone, Cond.instanceMethod yX7_isGone, Cond.selects RX7 yX7_isGone yX7_isGone, Cond.code yX7_isGone cX7_isGone 2 (some .boolean), Cond.methodLink RX7 58 yX7_holds, Cond.instanceMethod yX7_holds, Cond.selects RX7 yX7_holds yX7_holds, Cond.code yX7_holds cX7_holds 2 (some .boolean), Cond.methodLink RX7 51 yX7_isVoid, Cond.instanceMethod yX7_isVoid, Cond.selects RX7 yX7_isVoid yX7_isVoid, Cond.code yX7_isVoid cX7_isVoid 2 (some .boolean), Cond.methodLink RX7 40 yX7_first, Cond.static yX7_first, Cond.code yX7_first cX7_first 1 (some .int)]
def wsX7_snip_r3 : List Cond := [Cond.methodLink RX7 48 yX7_second, Cond.static yX7_second, Cond.code yX7_second cX7_second 1 (some .int), Cond.methodLink RX7 88 yX7_hasChalk, Cond.instanceMethod yX7_hasChalk, Cond.selects RX7 yX7_hasChalk yX7_hasChalk, Cond.code yX7_hasChalk cX7_hasChalk 3 (some .boolean), Cond.methodLink RX7 78 yX7_rankOf, Cond.instanceMethod yX7_rankOf, Cond.selects RX7 yX7_rankOf yX7_rankOf, Cond.code yX7_rankOf cX7_rankOf 5 (some .int), Cond.methodLink RX7 32 yX7_at, Cond.static yX7_at, Cond.code yX7_at cX7_at 2 (some .int), Cond.methodLink RX7 75 yX7_chalkAt, Cond.instanceMethod yX7_chalkAt, Cond.selects RX7 yX7_chalkAt yX7_chalkAt, Cond.code yX7_chalkAt cX7_chalkAt 3 (some .int), Cond.methodLink RX7 92 yX7_ends, Cond.instanceMethod yX7_ends, Cond.selects RX7 yX7_ends yX7_ends, Cond.code yX7_ends cX7_ends 2 (some .int), Cond.methodLink RX7 111 yX7_snips, Cond.instanceMethod yX7_snips]
def wsX7_snip_r4 : List Cond := [Cond.selects RX7 yX7_snips yX7_snips, Cond.code yX7_snips cX7_snips 7 (some .int), Cond.fieldLink RX7 29 "TailorChalksModel" "label" "[I", Cond.methodLink RX7 95 yX7_reason, Cond.instanceMethod yX7_reason, Cond.selects RX7 yX7_reason yX7_reason, Cond.code yX7_reason cX7_reason 2 (some .int), Cond.methodLink RX7 98 yX7_rubs, Cond.instanceMethod yX7_rubs, Cond.selects RX7 yX7_rubs yX7_rubs, Cond.code yX7_rubs cX7_rubs 5 none, Cond.methodLink RX7 68 yX7_fallsBy, Cond.instanceMethod yX7_fallsBy, Cond.selects RX7 yX7_fallsBy yX7_fallsBy, Cond.code yX7_fallsBy cX7_fallsBy 5 (some .int), Cond.methodLink RX7 61 yX7_layPieces, Cond.instanceMethod yX7_layPieces, Cond.selects RX7 yX7_layPieces yX7_layPieces, Cond.code yX7_layPieces cX7_layPieces 8 none, Cond.methodLink RX7 65 yX7_cellsOf, Cond.instanceMethod yX7_cellsOf, Cond.selects RX7 yX7_cellsOf yX7_cellsOf, Cond.code yX7_cellsOf cX7_cellsOf 4 (some .int), Cond.methodLink RX7 114 yX7_sews]
def wsX7_snip_r5 : List Cond := [Cond.instanceMethod yX7_sews, Cond.selects RX7 yX7_sews yX7_sews, Cond.code yX7_sews cX7_sews 3 (some .int), Cond.methodLink RX7 102 yX7_isCut, Cond.instanceMethod yX7_isCut, Cond.selects RX7 yX7_isCut yX7_isCut, Cond.code yX7_isCut cX7_isCut 2 (some .boolean), Cond.methodLink RX7 117 yX7_bluffs, Cond.instanceMethod yX7_bluffs, Cond.selects RX7 yX7_bluffs yX7_bluffs, Cond.code yX7_bluffs cX7_bluffs 2 (some .int), Cond.methodLink RX7 105 yX7_many, Cond.instanceMethod yX7_many, Cond.selects RX7 yX7_many yX7_many, Cond.code yX7_many cX7_many 4 (some .int), Cond.methodLink RX7 120 yX7_doubts, Cond.instanceMethod yX7_doubts, Cond.selects RX7 yX7_doubts yX7_doubts, Cond.code yX7_doubts cX7_doubts 4 (some .int), Cond.methodLink RX7 123 yX7_passes, Cond.instanceMethod yX7_passes, Cond.selects RX7 yX7_passes yX7_passes, Cond.code yX7_passes cX7_passes 1 (some .int), Cond.methodLink RX7 132 yX7_records]
def wsX7_snip_r6 : List Cond := [Cond.instanceMethod yX7_records, Cond.selects RX7 yX7_records yX7_records, Cond.code yX7_records cX7_records 2 none, Cond.fieldLink RX7 54 "TailorChalksModel" "kept" "I", Cond.fieldLink RX7 16 "TailorChalksModel" "history" "[I"]
def wsX7_snip : List Cond := .code yX7_snip cX7_snip 2 (some .int) :: ((wsX7_snip_r1 ++ (wsX7_snip_r2 ++ (wsX7_snip_r3 ++ (wsX7_snip_r4 ++ (wsX7_snip_r5 ++ wsX7_snip_r6))))) ++ wsX70)
def wsX7_sew_r1 : List Cond := [Cond.methodLink RX7 135 yX7_turns, Cond.instanceMethod yX7_turns, Cond.selects RX7 yX7_turns yX7_turns, Cond.initialized RX7, Cond.code yX7_turns cX7_turns 4 (some .int), Cond.methodLink RX7 126 yX7_looks, Cond.instanceMethod yX7_looks, Cond.selects RX7 yX7_looks yX7_looks, Cond.code yX7_looks cX7_looks 2 none, Cond.fieldLink RX7 13 "TailorChalksModel" "ahead" "[I", Cond.fieldLink RX7 7 "TailorChalksModel" "s" "[I", Cond.methodLink RX7 129 yX7_does, Cond.instanceMethod yX7_does, Cond.selects RX7 yX7_does yX7_does, Cond.code yX7_does cX7_does 3 (some .int), Cond.methodLink RX7 108 yX7_chalks, Cond.instanceMethod yX7_chalks, Cond.selects RX7 yX7_chalks yX7_chalks, Cond.code yX7_chalks cX7_chalks 3 (some .int), Cond.methodLink RX7 81 yX7_isJoint, Cond.static yX7_isJoint, Cond.code yX7_isJoint cX7_isJoint 1 (some .boolean), Cond.methodLink RX7 36 yX7_in, Cond.static yX7_in]
def wsX7_sew_r2 : List Cond := [Cond.code yX7_in cX7_in 3 (some .boolean), Cond.methodLink RX7 84 yX7_isOver, Cond.instanceMethod yX7_isOver, Cond.selects RX7 yX7_isOver yX7_isOver, Cond.code yX7_isOver cX7_isOver 1 (some .boolean), Cond.methodLink RX7 71 yX7_left, Cond.instanceMethod yX7_left, Cond.selects RX7 yX7_left yX7_left, Cond.code yX7_left cX7_left 3 (some .int), Cond.methodLink RX7 44 yX7_isGone, Cond.instanceMethod yX7_isGone, Cond.selects RX7 yX7_isGone yX7_isGone, Cond.code yX7_isGone cX7_isGone 2 (some .boolean), Cond.methodLink RX7 58 yX7_holds, Cond.instanceMethod yX7_holds, Cond.selects RX7 yX7_holds yX7_holds, Cond.code yX7_holds cX7_holds 2 (some .boolean), Cond.methodLink RX7 51 yX7_isVoid, Cond.instanceMethod yX7_isVoid, Cond.selects RX7 yX7_isVoid yX7_isVoid, Cond.code yX7_isVoid cX7_isVoid 2 (some .boolean), Cond.methodLink RX7 40 yX7_first, Cond.static yX7_first, Cond.code yX7_first cX7_first 1 (some .int)]
def wsX7_sew_r3 : List Cond := [Cond.methodLink RX7 48 yX7_second, Cond.static yX7_second, Cond.code yX7_second cX7_second 1 (some .int), Cond.methodLink RX7 88 yX7_hasChalk, Cond.instanceMethod yX7_hasChalk, Cond.selects RX7 yX7_hasChalk yX7_hasChalk, Cond.code yX7_hasChalk cX7_hasChalk 3 (some .boolean), Cond.methodLink RX7 78 yX7_rankOf, Cond.instanceMethod yX7_rankOf, Cond.selects RX7 yX7_rankOf yX7_rankOf, Cond.code yX7_rankOf cX7_rankOf 5 (some .int), Cond.methodLink RX7 32 yX7_at, Cond.static yX7_at, Cond.code yX7_at cX7_at 2 (some .int), Cond.methodLink RX7 75 yX7_chalkAt, Cond.instanceMethod yX7_chalkAt, Cond.selects RX7 yX7_chalkAt yX7_chalkAt, Cond.code yX7_chalkAt cX7_chalkAt 3 (some .int), Cond.methodLink RX7 92 yX7_ends, Cond.instanceMethod yX7_ends, Cond.selects RX7 yX7_ends yX7_ends, Cond.code yX7_ends cX7_ends 2 (some .int), Cond.methodLink RX7 111 yX7_snips, Cond.instanceMethod yX7_snips]
def wsX7_sew_r4 : List Cond := [Cond.selects RX7 yX7_snips yX7_snips, Cond.code yX7_snips cX7_snips 7 (some .int), Cond.fieldLink RX7 29 "TailorChalksModel" "label" "[I", Cond.methodLink RX7 95 yX7_reason, Cond.instanceMethod yX7_reason, Cond.selects RX7 yX7_reason yX7_reason, Cond.code yX7_reason cX7_reason 2 (some .int), Cond.methodLink RX7 98 yX7_rubs, Cond.instanceMethod yX7_rubs, Cond.selects RX7 yX7_rubs yX7_rubs, Cond.code yX7_rubs cX7_rubs 5 none, Cond.methodLink RX7 68 yX7_fallsBy, Cond.instanceMethod yX7_fallsBy, Cond.selects RX7 yX7_fallsBy yX7_fallsBy, Cond.code yX7_fallsBy cX7_fallsBy 5 (some .int), Cond.methodLink RX7 61 yX7_layPieces, Cond.instanceMethod yX7_layPieces, Cond.selects RX7 yX7_layPieces yX7_layPieces, Cond.code yX7_layPieces cX7_layPieces 8 none, Cond.methodLink RX7 65 yX7_cellsOf, Cond.instanceMethod yX7_cellsOf, Cond.selects RX7 yX7_cellsOf yX7_cellsOf, Cond.code yX7_cellsOf cX7_cellsOf 4 (some .int), Cond.methodLink RX7 114 yX7_sews]
def wsX7_sew_r5 : List Cond := [Cond.instanceMethod yX7_sews, Cond.selects RX7 yX7_sews yX7_sews, Cond.code yX7_sews cX7_sews 3 (some .int), Cond.methodLink RX7 102 yX7_isCut, Cond.instanceMethod yX7_isCut, Cond.selects RX7 yX7_isCut yX7_isCut, Cond.code yX7_isCut cX7_isCut 2 (some .boolean), Cond.methodLink RX7 117 yX7_bluffs, Cond.instanceMethod yX7_bluffs, Cond.selects RX7 yX7_bluffs yX7_bluffs, Cond.code yX7_bluffs cX7_bluffs 2 (some .int), Cond.methodLink RX7 105 yX7_many, Cond.instanceMethod yX7_many, Cond.selects RX7 yX7_many yX7_many, Cond.code yX7_many cX7_many 4 (some .int), Cond.methodLink RX7 120 yX7_doubts, Cond.instanceMethod yX7_doubts, Cond.selects RX7 yX7_doubts yX7_doubts, Cond.code yX7_doubts cX7_doubts 4 (some .int), Cond.methodLink RX7 123 yX7_passes, Cond.instanceMethod yX7_passes, Cond.selects RX7 yX7_passes yX7_passes, Cond.code yX7_passes cX7_passes 1 (some .int), Cond.methodLink RX7 132 yX7_records]
def wsX7_sew_r6 : List Cond := [Cond.instanceMethod yX7_records, Cond.selects RX7 yX7_records yX7_records, Cond.code yX7_records cX7_records 2 none, Cond.fieldLink RX7 54 "TailorChalksModel" "kept" "I", Cond.fieldLink RX7 16 "TailorChalksModel" "history" "[I"]
def wsX7_sew : List Cond := .code yX7_sew cX7_sew 2 (some .int) :: ((wsX7_sew_r1 ++ (wsX7_sew_r2 ++ (wsX7_sew_r3 ++ (wsX7_sew_r4 ++ (wsX7_sew_r5 ++ wsX7_sew_r6))))) ++ wsX70)
def wsX7_bluff_r1 : List Cond := [Cond.methodLink RX7 135 yX7_turns, Cond.instanceMethod yX7_turns, Cond.selects RX7 yX7_turns yX7_turns, Cond.initialized RX7, Cond.code yX7_turns cX7_turns 4 (some .int), Cond.methodLink RX7 126 yX7_looks, Cond.instanceMethod yX7_looks, Cond.selects RX7 yX7_looks yX7_looks, Cond.code yX7_looks cX7_looks 2 none, Cond.fieldLink RX7 13 "TailorChalksModel" "ahead" "[I", Cond.fieldLink RX7 7 "TailorChalksModel" "s" "[I", Cond.methodLink RX7 129 yX7_does, Cond.instanceMethod yX7_does, Cond.selects RX7 yX7_does yX7_does, Cond.code yX7_does cX7_does 3 (some .int), Cond.methodLink RX7 108 yX7_chalks, Cond.instanceMethod yX7_chalks, Cond.selects RX7 yX7_chalks yX7_chalks, Cond.code yX7_chalks cX7_chalks 3 (some .int), Cond.methodLink RX7 81 yX7_isJoint, Cond.static yX7_isJoint, Cond.code yX7_isJoint cX7_isJoint 1 (some .boolean), Cond.methodLink RX7 36 yX7_in, Cond.static yX7_in]
def wsX7_bluff_r2 : List Cond := [Cond.code yX7_in cX7_in 3 (some .boolean), Cond.methodLink RX7 84 yX7_isOver, Cond.instanceMethod yX7_isOver, Cond.selects RX7 yX7_isOver yX7_isOver, Cond.code yX7_isOver cX7_isOver 1 (some .boolean), Cond.methodLink RX7 71 yX7_left, Cond.instanceMethod yX7_left, Cond.selects RX7 yX7_left yX7_left, Cond.code yX7_left cX7_left 3 (some .int), Cond.methodLink RX7 44 yX7_isGone, Cond.instanceMethod yX7_isGone, Cond.selects RX7 yX7_isGone yX7_isGone, Cond.code yX7_isGone cX7_isGone 2 (some .boolean), Cond.methodLink RX7 58 yX7_holds, Cond.instanceMethod yX7_holds, Cond.selects RX7 yX7_holds yX7_holds, Cond.code yX7_holds cX7_holds 2 (some .boolean), Cond.methodLink RX7 51 yX7_isVoid, Cond.instanceMethod yX7_isVoid, Cond.selects RX7 yX7_isVoid yX7_isVoid, Cond.code yX7_isVoid cX7_isVoid 2 (some .boolean), Cond.methodLink RX7 40 yX7_first, Cond.static yX7_first, Cond.code yX7_first cX7_first 1 (some .int)]
def wsX7_bluff_r3 : List Cond := [Cond.methodLink RX7 48 yX7_second, Cond.static yX7_second, Cond.code yX7_second cX7_second 1 (some .int), Cond.methodLink RX7 88 yX7_hasChalk, Cond.instanceMethod yX7_hasChalk, Cond.selects RX7 yX7_hasChalk yX7_hasChalk, Cond.code yX7_hasChalk cX7_hasChalk 3 (some .boolean), Cond.methodLink RX7 78 yX7_rankOf, Cond.instanceMethod yX7_rankOf, Cond.selects RX7 yX7_rankOf yX7_rankOf, Cond.code yX7_rankOf cX7_rankOf 5 (some .int), Cond.methodLink RX7 32 yX7_at, Cond.static yX7_at, Cond.code yX7_at cX7_at 2 (some .int), Cond.methodLink RX7 75 yX7_chalkAt, Cond.instanceMethod yX7_chalkAt, Cond.selects RX7 yX7_chalkAt yX7_chalkAt, Cond.code yX7_chalkAt cX7_chalkAt 3 (some .int), Cond.methodLink RX7 92 yX7_ends, Cond.instanceMethod yX7_ends, Cond.selects RX7 yX7_ends yX7_ends, Cond.code yX7_ends cX7_ends 2 (some .int), Cond.methodLink RX7 111 yX7_snips, Cond.instanceMethod yX7_snips]
def wsX7_bluff_r4 : List Cond := [Cond.selects RX7 yX7_snips yX7_snips, Cond.code yX7_snips cX7_snips 7 (some .int), Cond.fieldLink RX7 29 "TailorChalksModel" "label" "[I", Cond.methodLink RX7 95 yX7_reason, Cond.instanceMethod yX7_reason, Cond.selects RX7 yX7_reason yX7_reason, Cond.code yX7_reason cX7_reason 2 (some .int), Cond.methodLink RX7 98 yX7_rubs, Cond.instanceMethod yX7_rubs, Cond.selects RX7 yX7_rubs yX7_rubs, Cond.code yX7_rubs cX7_rubs 5 none, Cond.methodLink RX7 68 yX7_fallsBy, Cond.instanceMethod yX7_fallsBy, Cond.selects RX7 yX7_fallsBy yX7_fallsBy, Cond.code yX7_fallsBy cX7_fallsBy 5 (some .int), Cond.methodLink RX7 61 yX7_layPieces, Cond.instanceMethod yX7_layPieces, Cond.selects RX7 yX7_layPieces yX7_layPieces, Cond.code yX7_layPieces cX7_layPieces 8 none, Cond.methodLink RX7 65 yX7_cellsOf, Cond.instanceMethod yX7_cellsOf, Cond.selects RX7 yX7_cellsOf yX7_cellsOf, Cond.code yX7_cellsOf cX7_cellsOf 4 (some .int), Cond.methodLink RX7 114 yX7_sews]
def wsX7_bluff_r5 : List Cond := [Cond.instanceMethod yX7_sews, Cond.selects RX7 yX7_sews yX7_sews, Cond.code yX7_sews cX7_sews 3 (some .int), Cond.methodLink RX7 102 yX7_isCut, Cond.instanceMethod yX7_isCut, Cond.selects RX7 yX7_isCut yX7_isCut, Cond.code yX7_isCut cX7_isCut 2 (some .boolean), Cond.methodLink RX7 117 yX7_bluffs, Cond.instanceMethod yX7_bluffs, Cond.selects RX7 yX7_bluffs yX7_bluffs, Cond.code yX7_bluffs cX7_bluffs 2 (some .int), Cond.methodLink RX7 105 yX7_many, Cond.instanceMethod yX7_many, Cond.selects RX7 yX7_many yX7_many, Cond.code yX7_many cX7_many 4 (some .int), Cond.methodLink RX7 120 yX7_doubts, Cond.instanceMethod yX7_doubts, Cond.selects RX7 yX7_doubts yX7_doubts, Cond.code yX7_doubts cX7_doubts 4 (some .int), Cond.methodLink RX7 123 yX7_passes, Cond.instanceMethod yX7_passes, Cond.selects RX7 yX7_passes yX7_passes, Cond.code yX7_passes cX7_passes 1 (some .int), Cond.methodLink RX7 132 yX7_records]
def wsX7_bluff_r6 : List Cond := [Cond.instanceMethod yX7_records, Cond.selects RX7 yX7_records yX7_records, Cond.code yX7_records cX7_records 2 none, Cond.fieldLink RX7 54 "TailorChalksModel" "kept" "I", Cond.fieldLink RX7 16 "TailorChalksModel" "history" "[I"]
def wsX7_bluff : List Cond := .code yX7_bluff cX7_bluff 2 (some .int) :: ((wsX7_bluff_r1 ++ (wsX7_bluff_r2 ++ (wsX7_bluff_r3 ++ (wsX7_bluff_r4 ++ (wsX7_bluff_r5 ++ wsX7_bluff_r6))))) ++ wsX70)
def wsX7_doubt_r1 : List Cond := [Cond.methodLink RX7 135 yX7_turns, Cond.instanceMethod yX7_turns, Cond.selects RX7 yX7_turns yX7_turns, Cond.initialized RX7, Cond.code yX7_turns cX7_turns 4 (some .int), Cond.methodLink RX7 126 yX7_looks, Cond.instanceMethod yX7_looks, Cond.selects RX7 yX7_looks yX7_looks, Cond.code yX7_looks cX7_looks 2 none, Cond.fieldLink RX7 13 "TailorChalksModel" "ahead" "[I", Cond.fieldLink RX7 7 "TailorChalksModel" "s" "[I", Cond.methodLink RX7 129 yX7_does, Cond.instanceMethod yX7_does, Cond.selects RX7 yX7_does yX7_does, Cond.code yX7_does cX7_does 3 (some .int), Cond.methodLink RX7 108 yX7_chalks, Cond.instanceMethod yX7_chalks, Cond.selects RX7 yX7_chalks yX7_chalks, Cond.code yX7_chalks cX7_chalks 3 (some .int), Cond.methodLink RX7 81 yX7_isJoint, Cond.static yX7_isJoint, Cond.code yX7_isJoint cX7_isJoint 1 (some .boolean), Cond.methodLink RX7 36 yX7_in, Cond.static yX7_in]
def wsX7_doubt_r2 : List Cond := [Cond.code yX7_in cX7_in 3 (some .boolean), Cond.methodLink RX7 84 yX7_isOver, Cond.instanceMethod yX7_isOver, Cond.selects RX7 yX7_isOver yX7_isOver, Cond.code yX7_isOver cX7_isOver 1 (some .boolean), Cond.methodLink RX7 71 yX7_left, Cond.instanceMethod yX7_left, Cond.selects RX7 yX7_left yX7_left, Cond.code yX7_left cX7_left 3 (some .int), Cond.methodLink RX7 44 yX7_isGone, Cond.instanceMethod yX7_isGone, Cond.selects RX7 yX7_isGone yX7_isGone, Cond.code yX7_isGone cX7_isGone 2 (some .boolean), Cond.methodLink RX7 58 yX7_holds, Cond.instanceMethod yX7_holds, Cond.selects RX7 yX7_holds yX7_holds, Cond.code yX7_holds cX7_holds 2 (some .boolean), Cond.methodLink RX7 51 yX7_isVoid, Cond.instanceMethod yX7_isVoid, Cond.selects RX7 yX7_isVoid yX7_isVoid, Cond.code yX7_isVoid cX7_isVoid 2 (some .boolean), Cond.methodLink RX7 40 yX7_first, Cond.static yX7_first, Cond.code yX7_first cX7_first 1 (some .int)]
def wsX7_doubt_r3 : List Cond := [Cond.methodLink RX7 48 yX7_second, Cond.static yX7_second, Cond.code yX7_second cX7_second 1 (some .int), Cond.methodLink RX7 88 yX7_hasChalk, Cond.instanceMethod yX7_hasChalk, Cond.selects RX7 yX7_hasChalk yX7_hasChalk, Cond.code yX7_hasChalk cX7_hasChalk 3 (some .boolean), Cond.methodLink RX7 78 yX7_rankOf, Cond.instanceMethod yX7_rankOf, Cond.selects RX7 yX7_rankOf yX7_rankOf, Cond.code yX7_rankOf cX7_rankOf 5 (some .int), Cond.methodLink RX7 32 yX7_at, Cond.static yX7_at, Cond.code yX7_at cX7_at 2 (some .int), Cond.methodLink RX7 75 yX7_chalkAt, Cond.instanceMethod yX7_chalkAt, Cond.selects RX7 yX7_chalkAt yX7_chalkAt, Cond.code yX7_chalkAt cX7_chalkAt 3 (some .int), Cond.methodLink RX7 92 yX7_ends, Cond.instanceMethod yX7_ends, Cond.selects RX7 yX7_ends yX7_ends, Cond.code yX7_ends cX7_ends 2 (some .int), Cond.methodLink RX7 111 yX7_snips, Cond.instanceMethod yX7_snips]
def wsX7_doubt_r4 : List Cond := [Cond.selects RX7 yX7_snips yX7_snips, Cond.code yX7_snips cX7_snips 7 (some .int), Cond.fieldLink RX7 29 "TailorChalksModel" "label" "[I", Cond.methodLink RX7 95 yX7_reason, Cond.instanceMethod yX7_reason, Cond.selects RX7 yX7_reason yX7_reason, Cond.code yX7_reason cX7_reason 2 (some .int), Cond.methodLink RX7 98 yX7_rubs, Cond.instanceMethod yX7_rubs, Cond.selects RX7 yX7_rubs yX7_rubs, Cond.code yX7_rubs cX7_rubs 5 none, Cond.methodLink RX7 68 yX7_fallsBy, Cond.instanceMethod yX7_fallsBy, Cond.selects RX7 yX7_fallsBy yX7_fallsBy, Cond.code yX7_fallsBy cX7_fallsBy 5 (some .int), Cond.methodLink RX7 61 yX7_layPieces, Cond.instanceMethod yX7_layPieces, Cond.selects RX7 yX7_layPieces yX7_layPieces, Cond.code yX7_layPieces cX7_layPieces 8 none, Cond.methodLink RX7 65 yX7_cellsOf, Cond.instanceMethod yX7_cellsOf, Cond.selects RX7 yX7_cellsOf yX7_cellsOf, Cond.code yX7_cellsOf cX7_cellsOf 4 (some .int), Cond.methodLink RX7 114 yX7_sews]
def wsX7_doubt_r5 : List Cond := [Cond.instanceMethod yX7_sews, Cond.selects RX7 yX7_sews yX7_sews, Cond.code yX7_sews cX7_sews 3 (some .int), Cond.methodLink RX7 102 yX7_isCut, Cond.instanceMethod yX7_isCut, Cond.selects RX7 yX7_isCut yX7_isCut, Cond.code yX7_isCut cX7_isCut 2 (some .boolean), Cond.methodLink RX7 117 yX7_bluffs, Cond.instanceMethod yX7_bluffs, Cond.selects RX7 yX7_bluffs yX7_bluffs, Cond.code yX7_bluffs cX7_bluffs 2 (some .int), Cond.methodLink RX7 105 yX7_many, Cond.instanceMethod yX7_many, Cond.selects RX7 yX7_many yX7_many, Cond.code yX7_many cX7_many 4 (some .int), Cond.methodLink RX7 120 yX7_doubts, Cond.instanceMethod yX7_doubts, Cond.selects RX7 yX7_doubts yX7_doubts, Cond.code yX7_doubts cX7_doubts 4 (some .int), Cond.methodLink RX7 123 yX7_passes, Cond.instanceMethod yX7_passes, Cond.selects RX7 yX7_passes yX7_passes, Cond.code yX7_passes cX7_passes 1 (some .int), Cond.methodLink RX7 132 yX7_records]
def wsX7_doubt_r6 : List Cond := [Cond.instanceMethod yX7_records, Cond.selects RX7 yX7_records yX7_records, Cond.code yX7_records cX7_records 2 none, Cond.fieldLink RX7 54 "TailorChalksModel" "kept" "I", Cond.fieldLink RX7 16 "TailorChalksModel" "history" "[I"]
def wsX7_doubt : List Cond := .code yX7_doubt cX7_doubt 2 (some .int) :: ((wsX7_doubt_r1 ++ (wsX7_doubt_r2 ++ (wsX7_doubt_r3 ++ (wsX7_doubt_r4 ++ (wsX7_doubt_r5 ++ wsX7_doubt_r6))))) ++ wsX70)
def wsX7_pass_r1 : List Cond := [Cond.methodLink RX7 135 yX7_turns, Cond.instanceMethod yX7_turns, Cond.selects RX7 yX7_turns yX7_turns, Cond.initialized RX7, Cond.code yX7_turns cX7_turns 4 (some .int), Cond.methodLink RX7 126 yX7_looks, Cond.instanceMethod yX7_looks, Cond.selects RX7 yX7_looks yX7_looks, Cond.code yX7_looks cX7_looks 2 none, Cond.fieldLink RX7 13 "TailorChalksModel" "ahead" "[I", Cond.fieldLink RX7 7 "TailorChalksModel" "s" "[I", Cond.methodLink RX7 129 yX7_does, Cond.instanceMethod yX7_does, Cond.selects RX7 yX7_does yX7_does, Cond.code yX7_does cX7_does 3 (some .int), Cond.methodLink RX7 108 yX7_chalks, Cond.instanceMethod yX7_chalks, Cond.selects RX7 yX7_chalks yX7_chalks, Cond.code yX7_chalks cX7_chalks 3 (some .int), Cond.methodLink RX7 81 yX7_isJoint, Cond.static yX7_isJoint, Cond.code yX7_isJoint cX7_isJoint 1 (some .boolean), Cond.methodLink RX7 36 yX7_in, Cond.static yX7_in]
def wsX7_pass_r2 : List Cond := [Cond.code yX7_in cX7_in 3 (some .boolean), Cond.methodLink RX7 84 yX7_isOver, Cond.instanceMethod yX7_isOver, Cond.selects RX7 yX7_isOver yX7_isOver, Cond.code yX7_isOver cX7_isOver 1 (some .boolean), Cond.methodLink RX7 71 yX7_left, Cond.instanceMethod yX7_left, Cond.selects RX7 yX7_left yX7_left, Cond.code yX7_left cX7_left 3 (some .int), Cond.methodLink RX7 44 yX7_isGone, Cond.instanceMethod yX7_isGone, Cond.selects RX7 yX7_isGone yX7_isGone, Cond.code yX7_isGone cX7_isGone 2 (some .boolean), Cond.methodLink RX7 58 yX7_holds, Cond.instanceMethod yX7_holds, Cond.selects RX7 yX7_holds yX7_holds, Cond.code yX7_holds cX7_holds 2 (some .boolean), Cond.methodLink RX7 51 yX7_isVoid, Cond.instanceMethod yX7_isVoid, Cond.selects RX7 yX7_isVoid yX7_isVoid, Cond.code yX7_isVoid cX7_isVoid 2 (some .boolean), Cond.methodLink RX7 40 yX7_first, Cond.static yX7_first, Cond.code yX7_first cX7_first 1 (some .int)]
def wsX7_pass_r3 : List Cond := [Cond.methodLink RX7 48 yX7_second, Cond.static yX7_second, Cond.code yX7_second cX7_second 1 (some .int), Cond.methodLink RX7 88 yX7_hasChalk, Cond.instanceMethod yX7_hasChalk, Cond.selects RX7 yX7_hasChalk yX7_hasChalk, Cond.code yX7_hasChalk cX7_hasChalk 3 (some .boolean), Cond.methodLink RX7 78 yX7_rankOf, Cond.instanceMethod yX7_rankOf, Cond.selects RX7 yX7_rankOf yX7_rankOf, Cond.code yX7_rankOf cX7_rankOf 5 (some .int), Cond.methodLink RX7 32 yX7_at, Cond.static yX7_at, Cond.code yX7_at cX7_at 2 (some .int), Cond.methodLink RX7 75 yX7_chalkAt, Cond.instanceMethod yX7_chalkAt, Cond.selects RX7 yX7_chalkAt yX7_chalkAt, Cond.code yX7_chalkAt cX7_chalkAt 3 (some .int), Cond.methodLink RX7 92 yX7_ends, Cond.instanceMethod yX7_ends, Cond.selects RX7 yX7_ends yX7_ends, Cond.code yX7_ends cX7_ends 2 (some .int), Cond.methodLink RX7 111 yX7_snips, Cond.instanceMethod yX7_snips]
def wsX7_pass_r4 : List Cond := [Cond.selects RX7 yX7_snips yX7_snips, Cond.code yX7_snips cX7_snips 7 (some .int), Cond.fieldLink RX7 29 "TailorChalksModel" "label" "[I", Cond.methodLink RX7 95 yX7_reason, Cond.instanceMethod yX7_reason, Cond.selects RX7 yX7_reason yX7_reason, Cond.code yX7_reason cX7_reason 2 (some .int), Cond.methodLink RX7 98 yX7_rubs, Cond.instanceMethod yX7_rubs, Cond.selects RX7 yX7_rubs yX7_rubs, Cond.code yX7_rubs cX7_rubs 5 none, Cond.methodLink RX7 68 yX7_fallsBy, Cond.instanceMethod yX7_fallsBy, Cond.selects RX7 yX7_fallsBy yX7_fallsBy, Cond.code yX7_fallsBy cX7_fallsBy 5 (some .int), Cond.methodLink RX7 61 yX7_layPieces, Cond.instanceMethod yX7_layPieces, Cond.selects RX7 yX7_layPieces yX7_layPieces, Cond.code yX7_layPieces cX7_layPieces 8 none, Cond.methodLink RX7 65 yX7_cellsOf, Cond.instanceMethod yX7_cellsOf, Cond.selects RX7 yX7_cellsOf yX7_cellsOf, Cond.code yX7_cellsOf cX7_cellsOf 4 (some .int), Cond.methodLink RX7 114 yX7_sews]
def wsX7_pass_r5 : List Cond := [Cond.instanceMethod yX7_sews, Cond.selects RX7 yX7_sews yX7_sews, Cond.code yX7_sews cX7_sews 3 (some .int), Cond.methodLink RX7 102 yX7_isCut, Cond.instanceMethod yX7_isCut, Cond.selects RX7 yX7_isCut yX7_isCut, Cond.code yX7_isCut cX7_isCut 2 (some .boolean), Cond.methodLink RX7 117 yX7_bluffs, Cond.instanceMethod yX7_bluffs, Cond.selects RX7 yX7_bluffs yX7_bluffs, Cond.code yX7_bluffs cX7_bluffs 2 (some .int), Cond.methodLink RX7 105 yX7_many, Cond.instanceMethod yX7_many, Cond.selects RX7 yX7_many yX7_many, Cond.code yX7_many cX7_many 4 (some .int), Cond.methodLink RX7 120 yX7_doubts, Cond.instanceMethod yX7_doubts, Cond.selects RX7 yX7_doubts yX7_doubts, Cond.code yX7_doubts cX7_doubts 4 (some .int), Cond.methodLink RX7 123 yX7_passes, Cond.instanceMethod yX7_passes, Cond.selects RX7 yX7_passes yX7_passes, Cond.code yX7_passes cX7_passes 1 (some .int), Cond.methodLink RX7 132 yX7_records]
def wsX7_pass_r6 : List Cond := [Cond.instanceMethod yX7_records, Cond.selects RX7 yX7_records yX7_records, Cond.code yX7_records cX7_records 2 none, Cond.fieldLink RX7 54 "TailorChalksModel" "kept" "I", Cond.fieldLink RX7 16 "TailorChalksModel" "history" "[I"]
def wsX7_pass : List Cond := .code yX7_pass cX7_pass 1 (some .int) :: ((wsX7_pass_r1 ++ (wsX7_pass_r2 ++ (wsX7_pass_r3 ++ (wsX7_pass_r4 ++ (wsX7_pass_r5 ++ wsX7_pass_r6))))) ++ wsX70)
def wsX7_of_r1 : List Cond := [Cond.fieldLink RX7 7 "TailorChalksModel" "s" "[I", Cond.methodLink RX7 81 yX7_isJoint, Cond.static yX7_isJoint, Cond.initialized RX7, Cond.code yX7_isJoint cX7_isJoint 1 (some .boolean), Cond.methodLink RX7 36 yX7_in, Cond.static yX7_in, Cond.code yX7_in cX7_in 3 (some .boolean), Cond.methodLink RX7 51 yX7_isVoid, Cond.instanceMethod yX7_isVoid, Cond.selects RX7 yX7_isVoid yX7_isVoid, Cond.code yX7_isVoid cX7_isVoid 2 (some .boolean), Cond.methodLink RX7 40 yX7_first, Cond.static yX7_first, Cond.code yX7_first cX7_first 1 (some .int), Cond.methodLink RX7 44 yX7_isGone, Cond.instanceMethod yX7_isGone, Cond.selects RX7 yX7_isGone yX7_isGone, Cond.code yX7_isGone cX7_isGone 2 (some .boolean), Cond.methodLink RX7 48 yX7_second, Cond.static yX7_second, Cond.code yX7_second cX7_second 1 (some .int), Cond.methodLink RX7 88 yX7_hasChalk, Cond.instanceMethod yX7_hasChalk]
def wsX7_of_r2 : List Cond := [Cond.selects RX7 yX7_hasChalk yX7_hasChalk, Cond.code yX7_hasChalk cX7_hasChalk 3 (some .boolean), Cond.methodLink RX7 78 yX7_rankOf, Cond.instanceMethod yX7_rankOf, Cond.selects RX7 yX7_rankOf yX7_rankOf, Cond.code yX7_rankOf cX7_rankOf 5 (some .int), Cond.methodLink RX7 32 yX7_at, Cond.static yX7_at, Cond.code yX7_at cX7_at 2 (some .int), Cond.methodLink RX7 75 yX7_chalkAt, Cond.instanceMethod yX7_chalkAt, Cond.selects RX7 yX7_chalkAt yX7_chalkAt, Cond.code yX7_chalkAt cX7_chalkAt 3 (some .int), Cond.methodLink RX7 58 yX7_holds, Cond.instanceMethod yX7_holds, Cond.selects RX7 yX7_holds yX7_holds, Cond.code yX7_holds cX7_holds 2 (some .boolean)]
def wsX7_of : List Cond := .code yX7_of cX7_of 3 (some .int) :: ((wsX7_of_r1 ++ wsX7_of_r2) ++ wsX70)
def wsX7_pieceOf_r1 : List Cond := [Cond.fieldLink RX7 29 "TailorChalksModel" "label" "[I", Cond.methodLink RX7 61 yX7_layPieces, Cond.instanceMethod yX7_layPieces, Cond.selects RX7 yX7_layPieces yX7_layPieces, Cond.initialized RX7, Cond.code yX7_layPieces cX7_layPieces 8 none, Cond.fieldLink RX7 7 "TailorChalksModel" "s" "[I", Cond.methodLink RX7 44 yX7_isGone, Cond.instanceMethod yX7_isGone, Cond.selects RX7 yX7_isGone yX7_isGone, Cond.code yX7_isGone cX7_isGone 2 (some .boolean), Cond.methodLink RX7 58 yX7_holds, Cond.instanceMethod yX7_holds, Cond.selects RX7 yX7_holds yX7_holds, Cond.code yX7_holds cX7_holds 2 (some .boolean), Cond.methodLink RX7 51 yX7_isVoid, Cond.instanceMethod yX7_isVoid, Cond.selects RX7 yX7_isVoid yX7_isVoid, Cond.code yX7_isVoid cX7_isVoid 2 (some .boolean), Cond.methodLink RX7 40 yX7_first, Cond.static yX7_first, Cond.code yX7_first cX7_first 1 (some .int), Cond.methodLink RX7 48 yX7_second, Cond.static yX7_second]
def wsX7_pieceOf_r2 : List Cond := [Cond.code yX7_second cX7_second 1 (some .int), Cond.methodLink RX7 65 yX7_cellsOf, Cond.instanceMethod yX7_cellsOf, Cond.selects RX7 yX7_cellsOf yX7_cellsOf, Cond.code yX7_cellsOf cX7_cellsOf 4 (some .int)]
def wsX7_pieceOf : List Cond := .code yX7_pieceOf cX7_pieceOf 3 (some .int) :: ((wsX7_pieceOf_r1 ++ wsX7_pieceOf_r2) ++ wsX70)
def wsX7_holding : List Cond := .code yX7_holding cX7_holding 4 (some .int) :: ([.methodLink RX7 40 yX7_first, .static yX7_first, .initialized RX7, .code yX7_first cX7_first 1 (some .int), .methodLink RX7 48 yX7_second, .static yX7_second, .code yX7_second cX7_second 1 (some .int), .methodLink RX7 58 yX7_holds, .instanceMethod yX7_holds, .selects RX7 yX7_holds yX7_holds, .code yX7_holds cX7_holds 2 (some .boolean), .fieldLink RX7 7 "TailorChalksModel" "s" "[I", .methodLink RX7 51 yX7_isVoid, .instanceMethod yX7_isVoid, .selects RX7 yX7_isVoid yX7_isVoid, .code yX7_isVoid cX7_isVoid 2 (some .boolean), .methodLink RX7 44 yX7_isGone, .instanceMethod yX7_isGone, .selects RX7 yX7_isGone yX7_isGone, .code yX7_isGone cX7_isGone 2 (some .boolean)] ++ wsX70)
def wsX7_cell_r1 : List Cond := [Cond.methodLink RX7 138 yX7_isCell, Cond.static yX7_isCell, Cond.initialized RX7, Cond.code yX7_isCell cX7_isCell 1 (some .boolean), Cond.methodLink RX7 36 yX7_in, Cond.static yX7_in, Cond.code yX7_in cX7_in 3 (some .boolean), Cond.methodLink RX7 44 yX7_isGone, Cond.instanceMethod yX7_isGone, Cond.selects RX7 yX7_isGone yX7_isGone, Cond.code yX7_isGone cX7_isGone 2 (some .boolean), Cond.fieldLink RX7 7 "TailorChalksModel" "s" "[I", Cond.methodLink RX7 141 yX7_pieceOf, Cond.instanceMethod yX7_pieceOf, Cond.selects RX7 yX7_pieceOf yX7_pieceOf, Cond.code yX7_pieceOf cX7_pieceOf 3 (some .int), Cond.fieldLink RX7 29 "TailorChalksModel" "label" "[I", Cond.methodLink RX7 61 yX7_layPieces, Cond.instanceMethod yX7_layPieces, Cond.selects RX7 yX7_layPieces yX7_layPieces, Cond.code yX7_layPieces cX7_layPieces 8 none, Cond.methodLink RX7 58 yX7_holds, Cond.instanceMethod yX7_holds, Cond.selects RX7 yX7_holds yX7_holds]
def wsX7_cell_r2 : List Cond := [Cond.code yX7_holds cX7_holds 2 (some .boolean), Cond.methodLink RX7 51 yX7_isVoid, Cond.instanceMethod yX7_isVoid, Cond.selects RX7 yX7_isVoid yX7_isVoid, Cond.code yX7_isVoid cX7_isVoid 2 (some .boolean), Cond.methodLink RX7 40 yX7_first, Cond.static yX7_first, Cond.code yX7_first cX7_first 1 (some .int), Cond.methodLink RX7 48 yX7_second, Cond.static yX7_second, Cond.code yX7_second cX7_second 1 (some .int), Cond.methodLink RX7 65 yX7_cellsOf, Cond.instanceMethod yX7_cellsOf, Cond.selects RX7 yX7_cellsOf yX7_cellsOf, Cond.code yX7_cellsOf cX7_cellsOf 4 (some .int), Cond.methodLink RX7 144 yX7_holding, Cond.instanceMethod yX7_holding, Cond.selects RX7 yX7_holding yX7_holding, Cond.code yX7_holding cX7_holding 4 (some .int)]
def wsX7_cell : List Cond := .code yX7_cell cX7_cell 3 (some .int) :: ((wsX7_cell_r1 ++ wsX7_cell_r2) ++ wsX70)
def wsX7_player : List Cond := .code yX7_player cX7_player 3 (some .int) :: ([.fieldLink RX7 7 "TailorChalksModel" "s" "[I", .methodLink RX7 36 yX7_in, .static yX7_in, .initialized RX7, .code yX7_in cX7_in 3 (some .boolean), .methodLink RX7 32 yX7_at, .static yX7_at, .code yX7_at cX7_at 2 (some .int)] ++ wsX70)
def wsX7_chalked : List Cond := .code yX7_chalked cX7_chalked 3 (some .int) :: ([.fieldLink RX7 7 "TailorChalksModel" "s" "[I", .methodLink RX7 36 yX7_in, .static yX7_in, .initialized RX7, .code yX7_in cX7_in 3 (some .boolean), .methodLink RX7 32 yX7_at, .static yX7_at, .code yX7_at cX7_at 2 (some .int), .methodLink RX7 75 yX7_chalkAt, .instanceMethod yX7_chalkAt, .selects RX7 yX7_chalkAt yX7_chalkAt, .code yX7_chalkAt cX7_chalkAt 3 (some .int)] ++ wsX70)
def wsX7_pieces_r1 : List Cond := [Cond.fieldLink RX7 29 "TailorChalksModel" "label" "[I", Cond.methodLink RX7 61 yX7_layPieces, Cond.instanceMethod yX7_layPieces, Cond.selects RX7 yX7_layPieces yX7_layPieces, Cond.initialized RX7, Cond.code yX7_layPieces cX7_layPieces 8 none, Cond.fieldLink RX7 7 "TailorChalksModel" "s" "[I", Cond.methodLink RX7 44 yX7_isGone, Cond.instanceMethod yX7_isGone, Cond.selects RX7 yX7_isGone yX7_isGone, Cond.code yX7_isGone cX7_isGone 2 (some .boolean), Cond.methodLink RX7 58 yX7_holds, Cond.instanceMethod yX7_holds, Cond.selects RX7 yX7_holds yX7_holds, Cond.code yX7_holds cX7_holds 2 (some .boolean), Cond.methodLink RX7 51 yX7_isVoid, Cond.instanceMethod yX7_isVoid, Cond.selects RX7 yX7_isVoid yX7_isVoid, Cond.code yX7_isVoid cX7_isVoid 2 (some .boolean), Cond.methodLink RX7 40 yX7_first, Cond.static yX7_first, Cond.code yX7_first cX7_first 1 (some .int), Cond.methodLink RX7 48 yX7_second, Cond.static yX7_second]
def wsX7_pieces_r2 : List Cond := [Cond.code yX7_second cX7_second 1 (some .int)]
def wsX7_pieces : List Cond := .code yX7_pieces cX7_pieces 3 (some .int) :: ((wsX7_pieces_r1 ++ wsX7_pieces_r2) ++ wsX70)
def wsX7_winner : List Cond := .code yX7_winner cX7_winner 2 (some .int) :: ([.fieldLink RX7 7 "TailorChalksModel" "s" "[I", .methodLink RX7 32 yX7_at, .static yX7_at, .initialized RX7, .code yX7_at cX7_at 2 (some .int), .methodLink RX7 84 yX7_isOver, .instanceMethod yX7_isOver, .selects RX7 yX7_isOver yX7_isOver, .code yX7_isOver cX7_isOver 1 (some .boolean), .methodLink RX7 71 yX7_left, .instanceMethod yX7_left, .selects RX7 yX7_left yX7_left, .code yX7_left cX7_left 3 (some .int), .methodLink RX7 44 yX7_isGone, .instanceMethod yX7_isGone, .selects RX7 yX7_isGone yX7_isGone, .code yX7_isGone cX7_isGone 2 (some .boolean)] ++ wsX70)
def wsX7_count_r1 : List Cond := [Cond.fieldLink RX7 7 "TailorChalksModel" "s" "[I", Cond.fieldLink RX7 153 "TailorChalksModel" "length" "I", Cond.fieldLink RX7 54 "TailorChalksModel" "kept" "I", Cond.methodLink RX7 84 yX7_isOver, Cond.instanceMethod yX7_isOver, Cond.selects RX7 yX7_isOver yX7_isOver, Cond.initialized RX7, Cond.code yX7_isOver cX7_isOver 1 (some .boolean), Cond.methodLink RX7 71 yX7_left, Cond.instanceMethod yX7_left, Cond.selects RX7 yX7_left yX7_left, Cond.code yX7_left cX7_left 3 (some .int), Cond.methodLink RX7 44 yX7_isGone, Cond.instanceMethod yX7_isGone, Cond.selects RX7 yX7_isGone yX7_isGone, Cond.code yX7_isGone cX7_isGone 2 (some .boolean), Cond.methodLink RX7 147 yX7_winner, Cond.instanceMethod yX7_winner, Cond.selects RX7 yX7_winner yX7_winner, Cond.code yX7_winner cX7_winner 2 (some .int), Cond.methodLink RX7 32 yX7_at, Cond.static yX7_at, Cond.code yX7_at cX7_at 2 (some .int), Cond.methodLink RX7 150 yX7_pieces]
def wsX7_count_r2 : List Cond := [Cond.instanceMethod yX7_pieces, Cond.selects RX7 yX7_pieces yX7_pieces, Cond.code yX7_pieces cX7_pieces 3 (some .int), Cond.fieldLink RX7 29 "TailorChalksModel" "label" "[I", Cond.methodLink RX7 61 yX7_layPieces, Cond.instanceMethod yX7_layPieces, Cond.selects RX7 yX7_layPieces yX7_layPieces, Cond.code yX7_layPieces cX7_layPieces 8 none, Cond.methodLink RX7 58 yX7_holds, Cond.instanceMethod yX7_holds, Cond.selects RX7 yX7_holds yX7_holds, Cond.code yX7_holds cX7_holds 2 (some .boolean), Cond.methodLink RX7 51 yX7_isVoid, Cond.instanceMethod yX7_isVoid, Cond.selects RX7 yX7_isVoid yX7_isVoid, Cond.code yX7_isVoid cX7_isVoid 2 (some .boolean), Cond.methodLink RX7 40 yX7_first, Cond.static yX7_first, Cond.code yX7_first cX7_first 1 (some .int), Cond.methodLink RX7 48 yX7_second, Cond.static yX7_second, Cond.code yX7_second cX7_second 1 (some .int), Cond.methodLink RX7 105 yX7_many, Cond.instanceMethod yX7_many]
def wsX7_count_r3 : List Cond := [Cond.selects RX7 yX7_many yX7_many, Cond.code yX7_many cX7_many 4 (some .int)]
def wsX7_count : List Cond := .code yX7_count cX7_count 2 (some .int) :: ((wsX7_count_r1 ++ (wsX7_count_r2 ++ wsX7_count_r3)) ++ wsX70)
def wsX7_why_r1 : List Cond := [Cond.methodLink RX7 81 yX7_isJoint, Cond.static yX7_isJoint, Cond.initialized RX7, Cond.code yX7_isJoint cX7_isJoint 1 (some .boolean), Cond.methodLink RX7 36 yX7_in, Cond.static yX7_in, Cond.code yX7_in cX7_in 3 (some .boolean), Cond.methodLink RX7 95 yX7_reason, Cond.instanceMethod yX7_reason, Cond.selects RX7 yX7_reason yX7_reason, Cond.code yX7_reason cX7_reason 2 (some .int), Cond.fieldLink RX7 7 "TailorChalksModel" "s" "[I", Cond.methodLink RX7 84 yX7_isOver, Cond.instanceMethod yX7_isOver, Cond.selects RX7 yX7_isOver yX7_isOver, Cond.code yX7_isOver cX7_isOver 1 (some .boolean), Cond.methodLink RX7 71 yX7_left, Cond.instanceMethod yX7_left, Cond.selects RX7 yX7_left yX7_left, Cond.code yX7_left cX7_left 3 (some .int), Cond.methodLink RX7 44 yX7_isGone, Cond.instanceMethod yX7_isGone, Cond.selects RX7 yX7_isGone yX7_isGone, Cond.code yX7_isGone cX7_isGone 2 (some .boolean)]
def wsX7_why_r2 : List Cond := [Cond.methodLink RX7 51 yX7_isVoid, Cond.instanceMethod yX7_isVoid, Cond.selects RX7 yX7_isVoid yX7_isVoid, Cond.code yX7_isVoid cX7_isVoid 2 (some .boolean), Cond.methodLink RX7 40 yX7_first, Cond.static yX7_first, Cond.code yX7_first cX7_first 1 (some .int), Cond.methodLink RX7 48 yX7_second, Cond.static yX7_second, Cond.code yX7_second cX7_second 1 (some .int)]
def wsX7_why : List Cond := .code yX7_why cX7_why 2 (some .int) :: ((wsX7_why_r1 ++ wsX7_why_r2) ++ wsX70)
def wsX7_ifSnipped_r1 : List Cond := [Cond.methodLink RX7 81 yX7_isJoint, Cond.static yX7_isJoint, Cond.initialized RX7, Cond.code yX7_isJoint cX7_isJoint 1 (some .boolean), Cond.methodLink RX7 36 yX7_in, Cond.static yX7_in, Cond.code yX7_in cX7_in 3 (some .boolean), Cond.methodLink RX7 95 yX7_reason, Cond.instanceMethod yX7_reason, Cond.selects RX7 yX7_reason yX7_reason, Cond.code yX7_reason cX7_reason 2 (some .int), Cond.fieldLink RX7 7 "TailorChalksModel" "s" "[I", Cond.methodLink RX7 84 yX7_isOver, Cond.instanceMethod yX7_isOver, Cond.selects RX7 yX7_isOver yX7_isOver, Cond.code yX7_isOver cX7_isOver 1 (some .boolean), Cond.methodLink RX7 71 yX7_left, Cond.instanceMethod yX7_left, Cond.selects RX7 yX7_left yX7_left, Cond.code yX7_left cX7_left 3 (some .int), Cond.methodLink RX7 44 yX7_isGone, Cond.instanceMethod yX7_isGone, Cond.selects RX7 yX7_isGone yX7_isGone, Cond.code yX7_isGone cX7_isGone 2 (some .boolean)]
def wsX7_ifSnipped_r2 : List Cond := [Cond.methodLink RX7 51 yX7_isVoid, Cond.instanceMethod yX7_isVoid, Cond.selects RX7 yX7_isVoid yX7_isVoid, Cond.code yX7_isVoid cX7_isVoid 2 (some .boolean), Cond.methodLink RX7 40 yX7_first, Cond.static yX7_first, Cond.code yX7_first cX7_first 1 (some .int), Cond.methodLink RX7 48 yX7_second, Cond.static yX7_second, Cond.code yX7_second cX7_second 1 (some .int), Cond.methodLink RX7 156 yX7_cellsBy, Cond.instanceMethod yX7_cellsBy, Cond.selects RX7 yX7_cellsBy yX7_cellsBy, Cond.code yX7_cellsBy cX7_cellsBy 3 (some .int), Cond.methodLink RX7 68 yX7_fallsBy, Cond.instanceMethod yX7_fallsBy, Cond.selects RX7 yX7_fallsBy yX7_fallsBy, Cond.code yX7_fallsBy cX7_fallsBy 5 (some .int), Cond.fieldLink RX7 29 "TailorChalksModel" "label" "[I", Cond.methodLink RX7 61 yX7_layPieces, Cond.instanceMethod yX7_layPieces, Cond.selects RX7 yX7_layPieces yX7_layPieces, Cond.code yX7_layPieces cX7_layPieces 8 none, Cond.methodLink RX7 58 yX7_holds]
def wsX7_ifSnipped_r3 : List Cond := [Cond.instanceMethod yX7_holds, Cond.selects RX7 yX7_holds yX7_holds, Cond.code yX7_holds cX7_holds 2 (some .boolean), Cond.methodLink RX7 65 yX7_cellsOf, Cond.instanceMethod yX7_cellsOf, Cond.selects RX7 yX7_cellsOf yX7_cellsOf, Cond.code yX7_cellsOf cX7_cellsOf 4 (some .int)]
def wsX7_ifSnipped : List Cond := .code yX7_ifSnipped cX7_ifSnipped 2 (some .int) :: ((wsX7_ifSnipped_r1 ++ (wsX7_ifSnipped_r2 ++ wsX7_ifSnipped_r3)) ++ wsX70)
def wsX7_bestSnip_r1 : List Cond := [Cond.fieldLink RX7 7 "TailorChalksModel" "s" "[I", Cond.methodLink RX7 36 yX7_in, Cond.static yX7_in, Cond.initialized RX7, Cond.code yX7_in cX7_in 3 (some .boolean), Cond.methodLink RX7 95 yX7_reason, Cond.instanceMethod yX7_reason, Cond.selects RX7 yX7_reason yX7_reason, Cond.code yX7_reason cX7_reason 2 (some .int), Cond.methodLink RX7 84 yX7_isOver, Cond.instanceMethod yX7_isOver, Cond.selects RX7 yX7_isOver yX7_isOver, Cond.code yX7_isOver cX7_isOver 1 (some .boolean), Cond.methodLink RX7 71 yX7_left, Cond.instanceMethod yX7_left, Cond.selects RX7 yX7_left yX7_left, Cond.code yX7_left cX7_left 3 (some .int), Cond.methodLink RX7 44 yX7_isGone, Cond.instanceMethod yX7_isGone, Cond.selects RX7 yX7_isGone yX7_isGone, Cond.code yX7_isGone cX7_isGone 2 (some .boolean), Cond.methodLink RX7 51 yX7_isVoid, Cond.instanceMethod yX7_isVoid, Cond.selects RX7 yX7_isVoid yX7_isVoid]
def wsX7_bestSnip_r2 : List Cond := [Cond.code yX7_isVoid cX7_isVoid 2 (some .boolean), Cond.methodLink RX7 40 yX7_first, Cond.static yX7_first, Cond.code yX7_first cX7_first 1 (some .int), Cond.methodLink RX7 48 yX7_second, Cond.static yX7_second, Cond.code yX7_second cX7_second 1 (some .int), Cond.methodLink RX7 156 yX7_cellsBy, Cond.instanceMethod yX7_cellsBy, Cond.selects RX7 yX7_cellsBy yX7_cellsBy, Cond.code yX7_cellsBy cX7_cellsBy 3 (some .int), Cond.methodLink RX7 68 yX7_fallsBy, Cond.instanceMethod yX7_fallsBy, Cond.selects RX7 yX7_fallsBy yX7_fallsBy, Cond.code yX7_fallsBy cX7_fallsBy 5 (some .int), Cond.fieldLink RX7 29 "TailorChalksModel" "label" "[I", Cond.methodLink RX7 61 yX7_layPieces, Cond.instanceMethod yX7_layPieces, Cond.selects RX7 yX7_layPieces yX7_layPieces, Cond.code yX7_layPieces cX7_layPieces 8 none, Cond.methodLink RX7 58 yX7_holds, Cond.instanceMethod yX7_holds, Cond.selects RX7 yX7_holds yX7_holds, Cond.code yX7_holds cX7_holds 2 (some .boolean)]
def wsX7_bestSnip_r3 : List Cond := [Cond.methodLink RX7 65 yX7_cellsOf, Cond.instanceMethod yX7_cellsOf, Cond.selects RX7 yX7_cellsOf yX7_cellsOf, Cond.code yX7_cellsOf cX7_cellsOf 4 (some .int), Cond.methodLink RX7 88 yX7_hasChalk, Cond.instanceMethod yX7_hasChalk, Cond.selects RX7 yX7_hasChalk yX7_hasChalk, Cond.code yX7_hasChalk cX7_hasChalk 3 (some .boolean), Cond.methodLink RX7 78 yX7_rankOf, Cond.instanceMethod yX7_rankOf, Cond.selects RX7 yX7_rankOf yX7_rankOf, Cond.code yX7_rankOf cX7_rankOf 5 (some .int), Cond.methodLink RX7 32 yX7_at, Cond.static yX7_at, Cond.code yX7_at cX7_at 2 (some .int), Cond.methodLink RX7 75 yX7_chalkAt, Cond.instanceMethod yX7_chalkAt, Cond.selects RX7 yX7_chalkAt yX7_chalkAt, Cond.code yX7_chalkAt cX7_chalkAt 3 (some .int)]
def wsX7_bestSnip : List Cond := .code yX7_bestSnip cX7_bestSnip 6 (some .int) :: ((wsX7_bestSnip_r1 ++ (wsX7_bestSnip_r2 ++ wsX7_bestSnip_r3)) ++ wsX70)
def wsX7_weak_r1 : List Cond := [Cond.methodLink RX7 84 yX7_isOver, Cond.instanceMethod yX7_isOver, Cond.selects RX7 yX7_isOver yX7_isOver, Cond.initialized RX7, Cond.code yX7_isOver cX7_isOver 1 (some .boolean), Cond.fieldLink RX7 7 "TailorChalksModel" "s" "[I", Cond.methodLink RX7 71 yX7_left, Cond.instanceMethod yX7_left, Cond.selects RX7 yX7_left yX7_left, Cond.code yX7_left cX7_left 3 (some .int), Cond.methodLink RX7 44 yX7_isGone, Cond.instanceMethod yX7_isGone, Cond.selects RX7 yX7_isGone yX7_isGone, Cond.code yX7_isGone cX7_isGone 2 (some .boolean), Cond.methodLink RX7 58 yX7_holds, Cond.instanceMethod yX7_holds, Cond.selects RX7 yX7_holds yX7_holds, Cond.code yX7_holds cX7_holds 2 (some .boolean), Cond.methodLink RX7 51 yX7_isVoid, Cond.instanceMethod yX7_isVoid, Cond.selects RX7 yX7_isVoid yX7_isVoid, Cond.code yX7_isVoid cX7_isVoid 2 (some .boolean), Cond.methodLink RX7 40 yX7_first, Cond.static yX7_first]
def wsX7_weak_r2 : List Cond := [Cond.code yX7_first cX7_first 1 (some .int), Cond.methodLink RX7 48 yX7_second, Cond.static yX7_second, Cond.code yX7_second cX7_second 1 (some .int), Cond.methodLink RX7 156 yX7_cellsBy, Cond.instanceMethod yX7_cellsBy, Cond.selects RX7 yX7_cellsBy yX7_cellsBy, Cond.code yX7_cellsBy cX7_cellsBy 3 (some .int), Cond.methodLink RX7 68 yX7_fallsBy, Cond.instanceMethod yX7_fallsBy, Cond.selects RX7 yX7_fallsBy yX7_fallsBy, Cond.code yX7_fallsBy cX7_fallsBy 5 (some .int), Cond.fieldLink RX7 29 "TailorChalksModel" "label" "[I", Cond.methodLink RX7 61 yX7_layPieces, Cond.instanceMethod yX7_layPieces, Cond.selects RX7 yX7_layPieces yX7_layPieces, Cond.code yX7_layPieces cX7_layPieces 8 none, Cond.methodLink RX7 65 yX7_cellsOf, Cond.instanceMethod yX7_cellsOf, Cond.selects RX7 yX7_cellsOf yX7_cellsOf, Cond.code yX7_cellsOf cX7_cellsOf 4 (some .int)]
def wsX7_weak : List Cond := .code yX7_weak cX7_weak 3 (some .int) :: ((wsX7_weak_r1 ++ wsX7_weak_r2) ++ wsX70)
def wsX7_together_r1 : List Cond := [Cond.fieldLink RX7 29 "TailorChalksModel" "label" "[I", Cond.methodLink RX7 138 yX7_isCell, Cond.static yX7_isCell, Cond.initialized RX7, Cond.code yX7_isCell cX7_isCell 1 (some .boolean), Cond.methodLink RX7 36 yX7_in, Cond.static yX7_in, Cond.code yX7_in cX7_in 3 (some .boolean), Cond.methodLink RX7 44 yX7_isGone, Cond.instanceMethod yX7_isGone, Cond.selects RX7 yX7_isGone yX7_isGone, Cond.code yX7_isGone cX7_isGone 2 (some .boolean), Cond.fieldLink RX7 7 "TailorChalksModel" "s" "[I", Cond.methodLink RX7 61 yX7_layPieces, Cond.instanceMethod yX7_layPieces, Cond.selects RX7 yX7_layPieces yX7_layPieces, Cond.code yX7_layPieces cX7_layPieces 8 none, Cond.methodLink RX7 58 yX7_holds, Cond.instanceMethod yX7_holds, Cond.selects RX7 yX7_holds yX7_holds, Cond.code yX7_holds cX7_holds 2 (some .boolean), Cond.methodLink RX7 51 yX7_isVoid, Cond.instanceMethod yX7_isVoid, Cond.selects RX7 yX7_isVoid yX7_isVoid]
def wsX7_together_r2 : List Cond := [Cond.code yX7_isVoid cX7_isVoid 2 (some .boolean), Cond.methodLink RX7 40 yX7_first, Cond.static yX7_first, Cond.code yX7_first cX7_first 1 (some .int), Cond.methodLink RX7 48 yX7_second, Cond.static yX7_second, Cond.code yX7_second cX7_second 1 (some .int)]
def wsX7_together : List Cond := .code yX7_together cX7_together 4 (some .int) :: ((wsX7_together_r1 ++ wsX7_together_r2) ++ wsX70)
def wsX7_put : List Cond := .code yX7_put cX7_put 8 (some .int) :: ([.constantLong RX7 159 (255), .fieldLink RX7 153 "TailorChalksModel" "length" "I", .fieldLink RX7 26 "TailorChalksModel" "pad" "[I", .methodLink RX7 36 yX7_in, .static yX7_in, .initialized RX7, .code yX7_in cX7_in 3 (some .boolean)] ++ wsX70)
def wsX7_wipe : List Cond := .code yX7_wipe cX7_wipe 2 (some .int) :: ([.fieldLink RX7 153 "TailorChalksModel" "length" "I"] ++ wsX70)
def wsX7_charAt : List Cond := .code yX7_charAt cX7_charAt 2 (some .int) :: ([.fieldLink RX7 153 "TailorChalksModel" "length" "I", .fieldLink RX7 26 "TailorChalksModel" "pad" "[I"] ++ wsX70)
def wsX7_digitAt : List Cond := .code yX7_digitAt cX7_digitAt 2 (some .int) :: ([.methodLink RX7 161 yX7_charAt, .instanceMethod yX7_charAt, .selects RX7 yX7_charAt yX7_charAt, .initialized RX7, .code yX7_charAt cX7_charAt 2 (some .int), .fieldLink RX7 153 "TailorChalksModel" "length" "I", .fieldLink RX7 26 "TailorChalksModel" "pad" "[I"] ++ wsX70)
def wsX7_behindOrder : List Cond := .code yX7_behindOrder cX7_behindOrder 3 (some .int) :: ([.methodLink RX7 161 yX7_charAt, .instanceMethod yX7_charAt, .selects RX7 yX7_charAt yX7_charAt, .initialized RX7, .code yX7_charAt cX7_charAt 2 (some .int), .fieldLink RX7 153 "TailorChalksModel" "length" "I", .fieldLink RX7 26 "TailorChalksModel" "pad" "[I", .methodLink RX7 164 yX7_digitAt, .instanceMethod yX7_digitAt, .selects RX7 yX7_digitAt yX7_digitAt, .code yX7_digitAt cX7_digitAt 2 (some .int), .methodLink RX7 36 yX7_in, .static yX7_in, .code yX7_in cX7_in 3 (some .boolean)] ++ wsX70)
def wsX7_wrong : List Cond := .code yX7_wrong cX7_wrong 3 (some .int) :: ([.fieldLink RX7 153 "TailorChalksModel" "length" "I", .fieldLink RX7 26 "TailorChalksModel" "pad" "[I", .methodLink RX7 167 yX7_behindOrder, .instanceMethod yX7_behindOrder, .selects RX7 yX7_behindOrder yX7_behindOrder, .initialized RX7, .code yX7_behindOrder cX7_behindOrder 3 (some .int), .methodLink RX7 161 yX7_charAt, .instanceMethod yX7_charAt, .selects RX7 yX7_charAt yX7_charAt, .code yX7_charAt cX7_charAt 2 (some .int), .methodLink RX7 164 yX7_digitAt, .instanceMethod yX7_digitAt, .selects RX7 yX7_digitAt yX7_digitAt, .code yX7_digitAt cX7_digitAt 2 (some .int), .methodLink RX7 36 yX7_in, .static yX7_in, .code yX7_in cX7_in 3 (some .boolean)] ++ wsX70)
def wsX7_fault : List Cond := .code yX7_fault cX7_fault 1 (some .int) :: ([.methodLink RX7 170 yX7_wrong, .instanceMethod yX7_wrong, .selects RX7 yX7_wrong yX7_wrong, .initialized RX7, .code yX7_wrong cX7_wrong 3 (some .int), .fieldLink RX7 153 "TailorChalksModel" "length" "I", .fieldLink RX7 26 "TailorChalksModel" "pad" "[I", .methodLink RX7 167 yX7_behindOrder, .instanceMethod yX7_behindOrder, .selects RX7 yX7_behindOrder yX7_behindOrder, .code yX7_behindOrder cX7_behindOrder 3 (some .int), .methodLink RX7 161 yX7_charAt, .instanceMethod yX7_charAt, .selects RX7 yX7_charAt yX7_charAt, .code yX7_charAt cX7_charAt 2 (some .int), .methodLink RX7 164 yX7_digitAt, .instanceMethod yX7_digitAt, .selects RX7 yX7_digitAt yX7_digitAt, .code yX7_digitAt cX7_digitAt 2 (some .int), .methodLink RX7 36 yX7_in, .static yX7_in, .code yX7_in cX7_in 3 (some .boolean)] ++ wsX70)
def wsX7_carryOut_r1 : List Cond := [Cond.fieldLink RX7 153 "TailorChalksModel" "length" "I", Cond.methodLink RX7 170 yX7_wrong, Cond.instanceMethod yX7_wrong, Cond.selects RX7 yX7_wrong yX7_wrong, Cond.initialized RX7, Cond.code yX7_wrong cX7_wrong 3 (some .int), Cond.fieldLink RX7 26 "TailorChalksModel" "pad" "[I", Cond.methodLink RX7 167 yX7_behindOrder, Cond.instanceMethod yX7_behindOrder, Cond.selects RX7 yX7_behindOrder yX7_behindOrder, Cond.code yX7_behindOrder cX7_behindOrder 3 (some .int), Cond.methodLink RX7 161 yX7_charAt, Cond.instanceMethod yX7_charAt, Cond.selects RX7 yX7_charAt yX7_charAt, Cond.code yX7_charAt cX7_charAt 2 (some .int), Cond.methodLink RX7 164 yX7_digitAt, Cond.instanceMethod yX7_digitAt, Cond.selects RX7 yX7_digitAt yX7_digitAt, Cond.code yX7_digitAt cX7_digitAt 2 (some .int), Cond.methodLink RX7 36 yX7_in, Cond.static yX7_in, Cond.code yX7_in cX7_in 3 (some .boolean), Cond.methodLink RX7 126 yX7_looks, Cond.instanceMethod yX7_looks]
def wsX7_carryOut_r2 : List Cond := [Cond.selects RX7 yX7_looks yX7_looks, Cond.code yX7_looks cX7_looks 2 none, Cond.fieldLink RX7 13 "TailorChalksModel" "ahead" "[I", Cond.fieldLink RX7 7 "TailorChalksModel" "s" "[I", Cond.methodLink RX7 132 yX7_records, Cond.instanceMethod yX7_records, Cond.selects RX7 yX7_records yX7_records, Cond.code yX7_records cX7_records 2 none, Cond.fieldLink RX7 54 "TailorChalksModel" "kept" "I", Cond.fieldLink RX7 16 "TailorChalksModel" "history" "[I", Cond.methodLink RX7 129 yX7_does, Cond.instanceMethod yX7_does, Cond.selects RX7 yX7_does yX7_does, Cond.code yX7_does cX7_does 3 (some .int), Cond.methodLink RX7 108 yX7_chalks, Cond.instanceMethod yX7_chalks, Cond.selects RX7 yX7_chalks yX7_chalks, Cond.code yX7_chalks cX7_chalks 3 (some .int), Cond.methodLink RX7 81 yX7_isJoint, Cond.static yX7_isJoint, Cond.code yX7_isJoint cX7_isJoint 1 (some .boolean), Cond.methodLink RX7 84 yX7_isOver, Cond.instanceMethod yX7_isOver, Cond.selects RX7 yX7_isOver yX7_isOver]
def wsX7_carryOut_r3 : List Cond := [Cond.code yX7_isOver cX7_isOver 1 (some .boolean), Cond.methodLink RX7 71 yX7_left, Cond.instanceMethod yX7_left, Cond.selects RX7 yX7_left yX7_left, Cond.code yX7_left cX7_left 3 (some .int), Cond.methodLink RX7 44 yX7_isGone, Cond.instanceMethod yX7_isGone, Cond.selects RX7 yX7_isGone yX7_isGone, Cond.code yX7_isGone cX7_isGone 2 (some .boolean), Cond.methodLink RX7 58 yX7_holds, Cond.instanceMethod yX7_holds, Cond.selects RX7 yX7_holds yX7_holds, Cond.code yX7_holds cX7_holds 2 (some .boolean), Cond.methodLink RX7 51 yX7_isVoid, Cond.instanceMethod yX7_isVoid, Cond.selects RX7 yX7_isVoid yX7_isVoid, Cond.code yX7_isVoid cX7_isVoid 2 (some .boolean), Cond.methodLink RX7 40 yX7_first, Cond.static yX7_first, Cond.code yX7_first cX7_first 1 (some .int), Cond.methodLink RX7 48 yX7_second, Cond.static yX7_second, Cond.code yX7_second cX7_second 1 (some .int), Cond.methodLink RX7 88 yX7_hasChalk]
def wsX7_carryOut_r4 : List Cond := [Cond.instanceMethod yX7_hasChalk, Cond.selects RX7 yX7_hasChalk yX7_hasChalk, Cond.code yX7_hasChalk cX7_hasChalk 3 (some .boolean), Cond.methodLink RX7 78 yX7_rankOf, Cond.instanceMethod yX7_rankOf, Cond.selects RX7 yX7_rankOf yX7_rankOf, Cond.code yX7_rankOf cX7_rankOf 5 (some .int), Cond.methodLink RX7 32 yX7_at, Cond.static yX7_at, Cond.code yX7_at cX7_at 2 (some .int), Cond.methodLink RX7 75 yX7_chalkAt, Cond.instanceMethod yX7_chalkAt, Cond.selects RX7 yX7_chalkAt yX7_chalkAt, Cond.code yX7_chalkAt cX7_chalkAt 3 (some .int), Cond.methodLink RX7 92 yX7_ends, Cond.instanceMethod yX7_ends, Cond.selects RX7 yX7_ends yX7_ends, Cond.code yX7_ends cX7_ends 2 (some .int), Cond.methodLink RX7 111 yX7_snips, Cond.instanceMethod yX7_snips, Cond.selects RX7 yX7_snips yX7_snips, Cond.code yX7_snips cX7_snips 7 (some .int), Cond.fieldLink RX7 29 "TailorChalksModel" "label" "[I", Cond.methodLink RX7 95 yX7_reason]
def wsX7_carryOut_r5 : List Cond := [Cond.instanceMethod yX7_reason, Cond.selects RX7 yX7_reason yX7_reason, Cond.code yX7_reason cX7_reason 2 (some .int), Cond.methodLink RX7 98 yX7_rubs, Cond.instanceMethod yX7_rubs, Cond.selects RX7 yX7_rubs yX7_rubs, Cond.code yX7_rubs cX7_rubs 5 none, Cond.methodLink RX7 68 yX7_fallsBy, Cond.instanceMethod yX7_fallsBy, Cond.selects RX7 yX7_fallsBy yX7_fallsBy, Cond.code yX7_fallsBy cX7_fallsBy 5 (some .int), Cond.methodLink RX7 61 yX7_layPieces, Cond.instanceMethod yX7_layPieces, Cond.selects RX7 yX7_layPieces yX7_layPieces, Cond.code yX7_layPieces cX7_layPieces 8 none, Cond.methodLink RX7 65 yX7_cellsOf, Cond.instanceMethod yX7_cellsOf, Cond.selects RX7 yX7_cellsOf yX7_cellsOf, Cond.code yX7_cellsOf cX7_cellsOf 4 (some .int), Cond.methodLink RX7 114 yX7_sews, Cond.instanceMethod yX7_sews, Cond.selects RX7 yX7_sews yX7_sews, Cond.code yX7_sews cX7_sews 3 (some .int), Cond.methodLink RX7 102 yX7_isCut]
def wsX7_carryOut_r6 : List Cond := [Cond.instanceMethod yX7_isCut, Cond.selects RX7 yX7_isCut yX7_isCut, Cond.code yX7_isCut cX7_isCut 2 (some .boolean), Cond.methodLink RX7 117 yX7_bluffs, Cond.instanceMethod yX7_bluffs, Cond.selects RX7 yX7_bluffs yX7_bluffs, Cond.code yX7_bluffs cX7_bluffs 2 (some .int), Cond.methodLink RX7 105 yX7_many, Cond.instanceMethod yX7_many, Cond.selects RX7 yX7_many yX7_many, Cond.code yX7_many cX7_many 4 (some .int), Cond.methodLink RX7 120 yX7_doubts, Cond.instanceMethod yX7_doubts, Cond.selects RX7 yX7_doubts yX7_doubts, Cond.code yX7_doubts cX7_doubts 4 (some .int), Cond.methodLink RX7 123 yX7_passes, Cond.instanceMethod yX7_passes, Cond.selects RX7 yX7_passes yX7_passes, Cond.code yX7_passes cX7_passes 1 (some .int)]
def wsX7_carryOut : List Cond := .code yX7_carryOut cX7_carryOut 6 (some .int) :: ((wsX7_carryOut_r1 ++ (wsX7_carryOut_r2 ++ (wsX7_carryOut_r3 ++ (wsX7_carryOut_r4 ++ (wsX7_carryOut_r5 ++ wsX7_carryOut_r6))))) ++ wsX70)
def wsX7_undo : List Cond := .code yX7_undo cX7_undo 2 (some .int) :: ([.fieldLink RX7 54 "TailorChalksModel" "kept" "I", .fieldLink RX7 7 "TailorChalksModel" "s" "[I", .fieldLink RX7 16 "TailorChalksModel" "history" "[I"] ++ wsX70)
def wsX7_save : List Cond := .code yX7_save cX7_save 3 (some .int) :: ([.fieldLink RX7 19 "TailorChalksModel" "slots" "[I", .fieldLink RX7 7 "TailorChalksModel" "s" "[I", .fieldLink RX7 22 "TailorChalksModel" "isSaved" "[Z", .methodLink RX7 36 yX7_in, .static yX7_in, .initialized RX7, .code yX7_in cX7_in 3 (some .boolean), .methodLink RX7 71 yX7_left, .instanceMethod yX7_left, .selects RX7 yX7_left yX7_left, .code yX7_left cX7_left 3 (some .int), .methodLink RX7 44 yX7_isGone, .instanceMethod yX7_isGone, .selects RX7 yX7_isGone yX7_isGone, .code yX7_isGone cX7_isGone 2 (some .boolean)] ++ wsX70)
def wsX7_restore_r1 : List Cond := [Cond.fieldLink RX7 22 "TailorChalksModel" "isSaved" "[Z", Cond.fieldLink RX7 7 "TailorChalksModel" "s" "[I", Cond.fieldLink RX7 19 "TailorChalksModel" "slots" "[I", Cond.methodLink RX7 36 yX7_in, Cond.static yX7_in, Cond.initialized RX7, Cond.code yX7_in cX7_in 3 (some .boolean), Cond.methodLink RX7 126 yX7_looks, Cond.instanceMethod yX7_looks, Cond.selects RX7 yX7_looks yX7_looks, Cond.code yX7_looks cX7_looks 2 none, Cond.fieldLink RX7 13 "TailorChalksModel" "ahead" "[I", Cond.methodLink RX7 132 yX7_records, Cond.instanceMethod yX7_records, Cond.selects RX7 yX7_records yX7_records, Cond.code yX7_records cX7_records 2 none, Cond.fieldLink RX7 54 "TailorChalksModel" "kept" "I", Cond.fieldLink RX7 16 "TailorChalksModel" "history" "[I", Cond.methodLink RX7 71 yX7_left, Cond.instanceMethod yX7_left, Cond.selects RX7 yX7_left yX7_left, Cond.code yX7_left cX7_left 3 (some .int), Cond.methodLink RX7 44 yX7_isGone, Cond.instanceMethod yX7_isGone]
def wsX7_restore_r2 : List Cond := [Cond.selects RX7 yX7_isGone yX7_isGone, Cond.code yX7_isGone cX7_isGone 2 (some .boolean)]
def wsX7_restore : List Cond := .code yX7_restore cX7_restore 3 (some .int) :: ((wsX7_restore_r1 ++ wsX7_restore_r2) ++ wsX70)
def wsL_law_r1 : List Cond := [Cond.classLink RL 7 RX6, Cond.instantiable RX6 5, Cond.initialized RX6, Cond.classLink RL 10 RX7, Cond.instantiable RX7 9, Cond.initialized RX7, Cond.constantLong RL 81 (4294967295), Cond.methodLink RL 9 yX6_init, Cond.instanceMethod yX6_init, Cond.code yX6_init cX6_init 1 none, Cond.methodLink RX6 1 objectInit, Cond.instanceMethod objectInit, Cond.code objectInit ⟨#[0xb1]⟩ 1 none, Cond.classLink RX6 7 RX1, Cond.instantiable RX1 5, Cond.initialized RX1, Cond.fieldLink RX6 10 "TailorChalks" "game" "LTailorChalks$Game;", Cond.classLink RX6 16 RX2, Cond.instantiable RX2 3, Cond.initialized RX2, Cond.fieldLink RX6 19 "TailorChalks" "history" "LTailorChalks$History;", Cond.classLink RX6 23 RX4, Cond.instantiable RX4 2, Cond.initialized RX4]
def wsL_law_r2 : List Cond := [Cond.fieldLink RX6 26 "TailorChalks" "slotZero" "LTailorChalks$Slot;", Cond.fieldLink RX6 30 "TailorChalks" "slotOne" "LTailorChalks$Slot;", Cond.classLink RX6 33 RX3, Cond.instantiable RX3 2, Cond.initialized RX3, Cond.fieldLink RX6 36 "TailorChalks" "pad" "LTailorChalks$Pad;", Cond.methodLink RX6 9 yX1_init, Cond.instanceMethod yX1_init, Cond.code yX1_init cX1_init 1 none, Cond.methodLink RX1 3 objectInit, Cond.classLink RX1 9 RX0, Cond.instantiable RX0 5, Cond.initialized RX0, Cond.fieldLink RX1 12 "TailorChalks$Game" "cloth" "LTailorChalks$Cloth;", Cond.classLink RX1 18 RX5, Cond.instantiable RX5 9, Cond.initialized RX5, Cond.fieldLink RX1 21 "TailorChalks$Game" "tailorZero" "LTailorChalks$Tailor;", Cond.fieldLink RX1 25 "TailorChalks$Game" "tailorOne" "LTailorChalks$Tailor;", Cond.methodLink RX1 11 yX0_init, Cond.instanceMethod yX0_init, Cond.code yX0_init cX0_init 2 none, Cond.methodLink RX0 3 objectInit, Cond.arrayClass .int]
def wsL_law_r3 : List Cond := [Cond.fieldLink RX0 11 "TailorChalks$Cloth" "states" "[I", Cond.fieldLink RX0 15 "TailorChalks$Cloth" "makers" "[I", Cond.methodLink RX0 18 yX0_make, Cond.instanceMethod yX0_make, Cond.selects RX0 yX0_make yX0_make, Cond.code yX0_make cX0_make 8 none, Cond.fieldLink RX0 29 "TailorChalks$Cloth" "heldDown" "J", Cond.constantLong RX0 53 (-1), Cond.fieldLink RX0 26 "TailorChalks$Cloth" "heldAcross" "J", Cond.methodLink RX0 40 yX0_isJoint, Cond.static yX0_isJoint, Cond.code yX0_isJoint cX0_isJoint 1 (some .boolean), Cond.methodLink RX0 32 yX0_firstCell, Cond.static yX0_firstCell, Cond.code yX0_firstCell cX0_firstCell 1 (some .int), Cond.methodLink RX0 36 yX0_isDown, Cond.static yX0_isDown, Cond.code yX0_isDown cX0_isDown 1 (some .boolean), Cond.methodLink RX1 20 yX5_init, Cond.instanceMethod yX5_init, Cond.code yX5_init cX5_init 1 none, Cond.methodLink RX5 3 objectInit, Cond.fieldLink RX5 11 "TailorChalks$Tailor" "marked" "[I", Cond.fieldLink RX5 15 "TailorChalks$Tailor" "threads" "I"]
def wsL_law_r4 : List Cond := [Cond.methodLink RX6 18 yX2_init, Cond.instanceMethod yX2_init, Cond.code yX2_init cX2_init 2 none, Cond.methodLink RX2 3 objectInit, Cond.classLink RX2 11 RX1, Cond.fieldLink RX2 13 "TailorChalks$History" "states" "[LTailorChalks$Game;", Cond.fieldLink RX2 18 "TailorChalks$History" "noted" "LTailorChalks$Game;", Cond.methodLink RX2 17 yX1_init, Cond.methodLink RX6 25 yX4_init, Cond.instanceMethod yX4_init, Cond.code yX4_init cX4_init 1 none, Cond.methodLink RX4 1 objectInit, Cond.classLink RX4 7 RX1, Cond.fieldLink RX4 10 "TailorChalks$Slot" "saved" "LTailorChalks$Game;", Cond.methodLink RX4 9 yX1_init, Cond.methodLink RX6 35 yX3_init, Cond.instanceMethod yX3_init, Cond.code yX3_init cX3_init 1 none, Cond.methodLink RX3 3 objectInit, Cond.arrayClass .char, Cond.fieldLink RX3 11 "TailorChalks$Pad" "signs" "[C", Cond.methodLink RL 12 yX7_init, Cond.instanceMethod yX7_init, Cond.code yX7_init cX7_init 2 none]
def wsL_law_r5 : List Cond := [Cond.methodLink RX7 1 objectInit, Cond.fieldLink RX7 7 "TailorChalksModel" "s" "[I", Cond.fieldLink RX7 13 "TailorChalksModel" "ahead" "[I", Cond.fieldLink RX7 16 "TailorChalksModel" "history" "[I", Cond.fieldLink RX7 19 "TailorChalksModel" "slots" "[I", Cond.arrayClass .boolean, Cond.fieldLink RX7 22 "TailorChalksModel" "isSaved" "[Z", Cond.fieldLink RX7 26 "TailorChalksModel" "pad" "[I", Cond.fieldLink RX7 29 "TailorChalksModel" "label" "[I", Cond.methodLink RX7 32 yX7_at, Cond.static yX7_at, Cond.code yX7_at cX7_at 2 (some .int), Cond.methodLink RL 13 yX6_chalk, Cond.instanceMethod yX6_chalk, Cond.selects RX6 yX6_chalk yX6_chalk, Cond.code yX6_chalk cX6_chalk 2 (some .int), Cond.methodLink RX6 40 yX6_takeTurn, Cond.instanceMethod yX6_takeTurn, Cond.selects RX6 yX6_takeTurn yX6_takeTurn, Cond.code yX6_takeTurn cX6_takeTurn 4 (some .int), Cond.methodLink RX6 44 yX2_note, Cond.instanceMethod yX2_note, Cond.selects RX2 yX2_note yX2_note, Cond.code yX2_note cX2_note 2 none]
def wsL_law_r6 : List Cond := [Cond.methodLink RX2 22 yX1_become, Cond.instanceMethod yX1_become, Cond.selects RX1 yX1_become yX1_become, Cond.code yX1_become cX1_become 2 none, Cond.fieldLink RX1 35 "TailorChalks$Game" "next" "I", Cond.fieldLink RX1 39 "TailorChalks$Game" "turns" "I", Cond.methodLink RX1 28 yX0_become, Cond.instanceMethod yX0_become, Cond.selects RX0 yX0_become yX0_become, Cond.code yX0_become cX0_become 3 none, Cond.fieldLink RX0 22 "TailorChalks$Cloth" "gone" "J", Cond.methodLink RX1 32 yX5_become, Cond.instanceMethod yX5_become, Cond.selects RX5 yX5_become yX5_become, Cond.code yX5_become cX5_become 3 none, Cond.fieldLink RX5 19 "TailorChalks$Tailor" "marks" "I", Cond.fieldLink RX5 22 "TailorChalks$Tailor" "points" "I", Cond.fieldLink RX5 25 "TailorChalks$Tailor" "rags" "I", Cond.fieldLink RX5 28 "TailorChalks$Tailor" "ragCells" "I", Cond.fieldLink RX5 31 "TailorChalks$Tailor" "found" "I", Cond.fieldLink RX5 34 "TailorChalks$Tailor" "rightDoubts" "I", Cond.fieldLink RX5 37 "TailorChalks$Tailor" "wrongDoubts" "I", Cond.methodLink RX6 48 yX1_obey, Cond.instanceMethod yX1_obey]
def wsL_law_r7 : List Cond := [Cond.selects RX1 yX1_obey yX1_obey, Cond.code yX1_obey cX1_obey 3 (some .int), Cond.methodLink RX1 67 yX1_passOn, Cond.instanceMethod yX1_passOn, Cond.selects RX1 yX1_passOn yX1_passOn, Cond.code yX1_passOn cX1_passOn 1 (some .int), Cond.methodLink RX1 46 yX1_isOver, Cond.instanceMethod yX1_isOver, Cond.selects RX1 yX1_isOver yX1_isOver, Cond.code yX1_isOver cX1_isOver 1 (some .boolean), Cond.methodLink RX1 42 yX0_cellsLeft, Cond.instanceMethod yX0_cellsLeft, Cond.selects RX0 yX0_cellsLeft yX0_cellsLeft, Cond.code yX0_cellsLeft cX0_cellsLeft 1 (some .int), Cond.methodLink RX0 47 yJ13_bitCount_95d88, Cond.static yJ13_bitCount_95d88, Cond.initialized RJ13, Cond.code yJ13_bitCount_95d88 cJ13_bitCount_95d88 2 (some .int), Cond.constantLong RJ13 314 (6148914691236517205), Cond.constantLong RJ13 316 (3689348814741910323), Cond.constantLong RJ13 318 (1085102592571150095), Cond.methodLink RX1 88 yX1_endTurn, Cond.instanceMethod yX1_endTurn, Cond.selects RX1 yX1_endTurn yX1_endTurn]
def wsL_law_r8 : List Cond := [Cond.code yX1_endTurn cX1_endTurn 1 none, Cond.methodLink RX1 70 yX0_isJoint, Cond.methodLink RX1 57 yX0_isVoid, Cond.instanceMethod yX0_isVoid, Cond.selects RX0 yX0_isVoid yX0_isVoid, Cond.code yX0_isVoid cX0_isVoid 4 (some .boolean), Cond.methodLink RX0 43 yX0_has, Cond.static yX0_has, Cond.code yX0_has cX0_has 3 (some .boolean), Cond.methodLink RX1 73 yX1_markJoint, Cond.instanceMethod yX1_markJoint, Cond.selects RX1 yX1_markJoint yX1_markJoint, Cond.code yX1_markJoint cX1_markJoint 3 (some .int), Cond.fieldLink RX1 101 "TailorChalks$Tailor" "marks" "I", Cond.methodLink RX1 91 yX1_tailorOf, Cond.instanceMethod yX1_tailorOf, Cond.selects RX1 yX1_tailorOf yX1_tailorOf, Cond.code yX1_tailorOf cX1_tailorOf 2 (some (.object "TailorChalks$Tailor")), Cond.methodLink RX1 95 yX0_holds, Cond.instanceMethod yX0_holds, Cond.selects RX0 yX0_holds yX0_holds, Cond.code yX0_holds cX0_holds 2 (some .boolean), Cond.methodLink RX1 53 yX5_hasMark, Cond.instanceMethod yX5_hasMark]
def wsL_law_r9 : List Cond := [Cond.selects RX5 yX5_hasMark yX5_hasMark, Cond.code yX5_hasMark cX5_hasMark 3 (some .boolean), Cond.methodLink RX1 98 yX5_addMark, Cond.instanceMethod yX5_addMark, Cond.selects RX5 yX5_addMark yX5_addMark, Cond.code yX5_addMark cX5_addMark 2 (some .boolean), Cond.methodLink RX1 76 yX1_snipJoint, Cond.instanceMethod yX1_snipJoint, Cond.selects RX1 yX1_snipJoint yX1_snipJoint, Cond.code yX1_snipJoint cX1_snipJoint 4 (some .int), Cond.methodLink RX1 104 yX1_whyNoSnip, Cond.instanceMethod yX1_whyNoSnip, Cond.selects RX1 yX1_whyNoSnip yX1_whyNoSnip, Cond.code yX1_whyNoSnip cX1_whyNoSnip 2 (some .int), Cond.methodLink RX1 64 yX0_stateOf, Cond.instanceMethod yX0_stateOf, Cond.selects RX0 yX0_stateOf yX0_stateOf, Cond.code yX0_stateOf cX0_stateOf 2 (some .int), Cond.methodLink RX1 107 yX1_findChalk, Cond.instanceMethod yX1_findChalk, Cond.selects RX1 yX1_findChalk yX1_findChalk, Cond.code yX1_findChalk cX1_findChalk 4 none, Cond.fieldLink RX1 50 "TailorChalks$Tailor" "points" "I", Cond.fieldLink RX1 129 "TailorChalks$Tailor" "found" "I"]
def wsL_law_r10 : List Cond := [Cond.methodLink RX1 132 yX1_dropMarks, Cond.instanceMethod yX1_dropMarks, Cond.selects RX1 yX1_dropMarks yX1_dropMarks, Cond.code yX1_dropMarks cX1_dropMarks 2 none, Cond.methodLink RX1 135 yX5_dropMark, Cond.instanceMethod yX5_dropMark, Cond.selects RX5 yX5_dropMark yX5_dropMark, Cond.code yX5_dropMark cX5_dropMark 4 none, Cond.methodLink RX1 111 yX0_ragOf, Cond.instanceMethod yX0_ragOf, Cond.selects RX0 yX0_ragOf yX0_ragOf, Cond.code yX0_ragOf cX0_ragOf 14 (some .long), Cond.methodLink RX0 67 yX0_spread, Cond.static yX0_spread, Cond.code yX0_spread cX0_spread 14 (some .long), Cond.methodLink RX0 61 yX0_secondCell, Cond.static yX0_secondCell, Cond.code yX0_secondCell cX0_secondCell 1 (some .int), Cond.methodLink RX1 115 yX0_make, Cond.methodLink RX1 119 yX1_loseRag, Cond.instanceMethod yX1_loseRag, Cond.selects RX1 yX1_loseRag yX1_loseRag, Cond.code yX1_loseRag cX1_loseRag 4 none, Cond.methodLink RX1 138 yX0_tearOff]
def wsL_law_r11 : List Cond := [Cond.instanceMethod yX0_tearOff, Cond.selects RX0 yX0_tearOff yX0_tearOff, Cond.code yX0_tearOff cX0_tearOff 3 none, Cond.methodLink RX1 123 yJ13_bitCount_95d88, Cond.methodLink RX1 141 yX5_winRag, Cond.instanceMethod yX5_winRag, Cond.selects RX5 yX5_winRag yX5_winRag, Cond.code yX5_winRag cX5_winRag 2 none, Cond.methodLink RX1 79 yX1_sewJoint, Cond.instanceMethod yX1_sewJoint, Cond.selects RX1 yX1_sewJoint yX1_sewJoint, Cond.code yX1_sewJoint cX1_sewJoint 3 (some .int), Cond.fieldLink RX1 144 "TailorChalks$Tailor" "threads" "I", Cond.methodLink RX1 82 yX1_bluffJoint, Cond.instanceMethod yX1_bluffJoint, Cond.selects RX1 yX1_bluffJoint yX1_bluffJoint, Cond.code yX1_bluffJoint cX1_bluffJoint 2 (some .int), Cond.methodLink RX1 147 yX0_jointsThatAre, Cond.instanceMethod yX0_jointsThatAre, Cond.selects RX0 yX0_jointsThatAre yX0_jointsThatAre, Cond.code yX0_jointsThatAre cX0_jointsThatAre 4 (some .int), Cond.methodLink RX0 55 yX0_isVoid, Cond.methodLink RX1 85 yX1_doubtJoint, Cond.instanceMethod yX1_doubtJoint]
def wsL_law_r12 : List Cond := [Cond.selects RX1 yX1_doubtJoint yX1_doubtJoint, Cond.code yX1_doubtJoint cX1_doubtJoint 4 (some .int), Cond.fieldLink RX1 150 "TailorChalks$Tailor" "rightDoubts" "I", Cond.fieldLink RX1 153 "TailorChalks$Tailor" "wrongDoubts" "I", Cond.methodLink RX1 60 yX0_makerOf, Cond.instanceMethod yX0_makerOf, Cond.selects RX0 yX0_makerOf yX0_makerOf, Cond.code yX0_makerOf cX0_makerOf 2 (some .int), Cond.methodLink RX6 51 yX2_keepNoted, Cond.instanceMethod yX2_keepNoted, Cond.selects RX2 yX2_keepNoted yX2_keepNoted, Cond.code yX2_keepNoted cX2_keepNoted 2 none, Cond.fieldLink RX2 26 "TailorChalks$History" "kept" "I", Cond.methodLink RX2 30 yX2_dropOldest, Cond.instanceMethod yX2_dropOldest, Cond.selects RX2 yX2_dropOldest yX2_dropOldest, Cond.code yX2_dropOldest cX2_dropOldest 3 none, Cond.methodLink RL 17 yX7_chalk, Cond.instanceMethod yX7_chalk, Cond.selects RX7 yX7_chalk yX7_chalk, Cond.code yX7_chalk cX7_chalk 2 (some .int), Cond.methodLink RX7 135 yX7_turns, Cond.instanceMethod yX7_turns, Cond.selects RX7 yX7_turns yX7_turns]
def wsL_law_r13 : List Cond := [Cond.code yX7_turns cX7_turns 4 (some .int), Cond.methodLink RX7 126 yX7_looks, Cond.instanceMethod yX7_looks, Cond.selects RX7 yX7_looks yX7_looks, Cond.code yX7_looks cX7_looks 2 none, Cond.methodLink RX7 129 yX7_does, Cond.instanceMethod yX7_does, Cond.selects RX7 yX7_does yX7_does, Cond.code yX7_does cX7_does 3 (some .int), Cond.methodLink RX7 108 yX7_chalks, Cond.instanceMethod yX7_chalks, Cond.selects RX7 yX7_chalks yX7_chalks, Cond.code yX7_chalks cX7_chalks 3 (some .int), Cond.methodLink RX7 81 yX7_isJoint, Cond.static yX7_isJoint, Cond.code yX7_isJoint cX7_isJoint 1 (some .boolean), Cond.methodLink RX7 36 yX7_in, Cond.static yX7_in, Cond.code yX7_in cX7_in 3 (some .boolean), Cond.methodLink RX7 84 yX7_isOver, Cond.instanceMethod yX7_isOver, Cond.selects RX7 yX7_isOver yX7_isOver, Cond.code yX7_isOver cX7_isOver 1 (some .boolean), Cond.methodLink RX7 71 yX7_left]
def wsL_law_r14 : List Cond := [Cond.instanceMethod yX7_left, Cond.selects RX7 yX7_left yX7_left, Cond.code yX7_left cX7_left 3 (some .int), Cond.methodLink RX7 44 yX7_isGone, Cond.instanceMethod yX7_isGone, Cond.selects RX7 yX7_isGone yX7_isGone, Cond.code yX7_isGone cX7_isGone 2 (some .boolean), Cond.methodLink RX7 58 yX7_holds, Cond.instanceMethod yX7_holds, Cond.selects RX7 yX7_holds yX7_holds, Cond.code yX7_holds cX7_holds 2 (some .boolean), Cond.methodLink RX7 51 yX7_isVoid, Cond.instanceMethod yX7_isVoid, Cond.selects RX7 yX7_isVoid yX7_isVoid, Cond.code yX7_isVoid cX7_isVoid 2 (some .boolean), Cond.methodLink RX7 40 yX7_first, Cond.static yX7_first, Cond.code yX7_first cX7_first 1 (some .int), Cond.methodLink RX7 48 yX7_second, Cond.static yX7_second, Cond.code yX7_second cX7_second 1 (some .int), Cond.methodLink RX7 88 yX7_hasChalk, Cond.instanceMethod yX7_hasChalk, Cond.selects RX7 yX7_hasChalk yX7_hasChalk]
def wsL_law_r15 : List Cond := [Cond.code yX7_hasChalk cX7_hasChalk 3 (some .boolean), Cond.methodLink RX7 78 yX7_rankOf, Cond.instanceMethod yX7_rankOf, Cond.selects RX7 yX7_rankOf yX7_rankOf, Cond.code yX7_rankOf cX7_rankOf 5 (some .int), Cond.methodLink RX7 75 yX7_chalkAt, Cond.instanceMethod yX7_chalkAt, Cond.selects RX7 yX7_chalkAt yX7_chalkAt, Cond.code yX7_chalkAt cX7_chalkAt 3 (some .int), Cond.methodLink RX7 92 yX7_ends, Cond.instanceMethod yX7_ends, Cond.selects RX7 yX7_ends yX7_ends, Cond.code yX7_ends cX7_ends 2 (some .int), Cond.methodLink RX7 111 yX7_snips, Cond.instanceMethod yX7_snips, Cond.selects RX7 yX7_snips yX7_snips, Cond.code yX7_snips cX7_snips 7 (some .int), Cond.methodLink RX7 95 yX7_reason, Cond.instanceMethod yX7_reason, Cond.selects RX7 yX7_reason yX7_reason, Cond.code yX7_reason cX7_reason 2 (some .int), Cond.methodLink RX7 98 yX7_rubs, Cond.instanceMethod yX7_rubs, Cond.selects RX7 yX7_rubs yX7_rubs]
def wsL_law_r16 : List Cond := [Cond.code yX7_rubs cX7_rubs 5 none, Cond.methodLink RX7 68 yX7_fallsBy, Cond.instanceMethod yX7_fallsBy, Cond.selects RX7 yX7_fallsBy yX7_fallsBy, Cond.code yX7_fallsBy cX7_fallsBy 5 (some .int), Cond.methodLink RX7 61 yX7_layPieces, Cond.instanceMethod yX7_layPieces, Cond.selects RX7 yX7_layPieces yX7_layPieces, Cond.code yX7_layPieces cX7_layPieces 8 none, Cond.methodLink RX7 65 yX7_cellsOf, Cond.instanceMethod yX7_cellsOf, Cond.selects RX7 yX7_cellsOf yX7_cellsOf, Cond.code yX7_cellsOf cX7_cellsOf 4 (some .int), Cond.methodLink RX7 114 yX7_sews, Cond.instanceMethod yX7_sews, Cond.selects RX7 yX7_sews yX7_sews, Cond.code yX7_sews cX7_sews 3 (some .int), Cond.methodLink RX7 102 yX7_isCut, Cond.instanceMethod yX7_isCut, Cond.selects RX7 yX7_isCut yX7_isCut, Cond.code yX7_isCut cX7_isCut 2 (some .boolean), Cond.methodLink RX7 117 yX7_bluffs, Cond.instanceMethod yX7_bluffs, Cond.selects RX7 yX7_bluffs yX7_bluffs]
def wsL_law_r17 : List Cond := [Cond.code yX7_bluffs cX7_bluffs 2 (some .int), Cond.methodLink RX7 105 yX7_many, Cond.instanceMethod yX7_many, Cond.selects RX7 yX7_many yX7_many, Cond.code yX7_many cX7_many 4 (some .int), Cond.methodLink RX7 120 yX7_doubts, Cond.instanceMethod yX7_doubts, Cond.selects RX7 yX7_doubts yX7_doubts, Cond.code yX7_doubts cX7_doubts 4 (some .int), Cond.methodLink RX7 123 yX7_passes, Cond.instanceMethod yX7_passes, Cond.selects RX7 yX7_passes yX7_passes, Cond.code yX7_passes cX7_passes 1 (some .int), Cond.methodLink RX7 132 yX7_records, Cond.instanceMethod yX7_records, Cond.selects RX7 yX7_records yX7_records, Cond.code yX7_records cX7_records 2 none, Cond.fieldLink RX7 54 "TailorChalksModel" "kept" "I", Cond.methodLink RL 18 yX6_snip, Cond.instanceMethod yX6_snip, Cond.selects RX6 yX6_snip yX6_snip, Cond.code yX6_snip cX6_snip 2 (some .int), Cond.methodLink RL 21 yX7_snip, Cond.instanceMethod yX7_snip]
def wsL_law_r18 : List Cond := [Cond.selects RX7 yX7_snip yX7_snip, Cond.code yX7_snip cX7_snip 2 (some .int), Cond.methodLink RL 22 yX6_sew, Cond.instanceMethod yX6_sew, Cond.selects RX6 yX6_sew yX6_sew, Cond.code yX6_sew cX6_sew 2 (some .int), Cond.methodLink RL 25 yX7_sew, Cond.instanceMethod yX7_sew, Cond.selects RX7 yX7_sew yX7_sew, Cond.code yX7_sew cX7_sew 2 (some .int), Cond.methodLink RL 26 yX6_bluff, Cond.instanceMethod yX6_bluff, Cond.selects RX6 yX6_bluff yX6_bluff, Cond.code yX6_bluff cX6_bluff 2 (some .int), Cond.methodLink RL 29 yX7_bluff, Cond.instanceMethod yX7_bluff, Cond.selects RX7 yX7_bluff yX7_bluff, Cond.code yX7_bluff cX7_bluff 2 (some .int), Cond.methodLink RL 30 yX6_doubt, Cond.instanceMethod yX6_doubt, Cond.selects RX6 yX6_doubt yX6_doubt, Cond.code yX6_doubt cX6_doubt 2 (some .int), Cond.methodLink RL 33 yX7_doubt, Cond.instanceMethod yX7_doubt]
def wsL_law_r19 : List Cond := [Cond.selects RX7 yX7_doubt yX7_doubt, Cond.code yX7_doubt cX7_doubt 2 (some .int), Cond.methodLink RL 34 yX6_pass, Cond.instanceMethod yX6_pass, Cond.selects RX6 yX6_pass yX6_pass, Cond.code yX6_pass cX6_pass 1 (some .int), Cond.methodLink RL 38 yX7_pass, Cond.instanceMethod yX7_pass, Cond.selects RX7 yX7_pass yX7_pass, Cond.code yX7_pass cX7_pass 1 (some .int), Cond.methodLink RL 39 yX6_of, Cond.instanceMethod yX6_of, Cond.selects RX6 yX6_of yX6_of, Cond.code yX6_of cX6_of 3 (some .int), Cond.fieldLink RX6 60 "TailorChalks$Game" "cloth" "LTailorChalks$Cloth;", Cond.methodLink RX6 54 yX0_isJoint, Cond.methodLink RX6 64 yX0_stateOf, Cond.methodLink RX6 68 yX0_isVoid, Cond.methodLink RX6 71 yX6_asNumber, Cond.static yX6_asNumber, Cond.code yX6_asNumber cX6_asNumber 1 (some .int), Cond.methodLink RX6 75 yX0_firstCell, Cond.methodLink RX6 78 yX0_secondCell, Cond.methodLink RX6 81 yX1_chalkersOf]
def wsL_law_r20 : List Cond := [Cond.instanceMethod yX1_chalkersOf, Cond.selects RX1 yX1_chalkersOf yX1_chalkersOf, Cond.code yX1_chalkersOf cX1_chalkersOf 2 (some .int), Cond.methodLink RX6 84 yX1_doubtableMaker, Cond.instanceMethod yX1_doubtableMaker, Cond.selects RX1 yX1_doubtableMaker yX1_doubtableMaker, Cond.code yX1_doubtableMaker cX1_doubtableMaker 2 (some .int), Cond.methodLink RX6 87 yX0_holds, Cond.methodLink RL 43 yX7_of, Cond.instanceMethod yX7_of, Cond.selects RX7 yX7_of yX7_of, Cond.code yX7_of cX7_of 3 (some .int), Cond.methodLink RL 44 yX6_cell, Cond.instanceMethod yX6_cell, Cond.selects RX6 yX6_cell yX6_cell, Cond.code yX6_cell cX6_cell 3 (some .int), Cond.methodLink RX6 90 yX0_isCell, Cond.static yX0_isCell, Cond.code yX0_isCell cX0_isCell 1 (some .boolean), Cond.methodLink RX6 93 yX0_isGone, Cond.instanceMethod yX0_isGone, Cond.selects RX0 yX0_isGone yX0_isGone, Cond.code yX0_isGone cX0_isGone 2 (some .boolean), Cond.methodLink RX6 96 yX0_pieceOf]
def wsL_law_r21 : List Cond := [Cond.instanceMethod yX0_pieceOf, Cond.selects RX0 yX0_pieceOf yX0_pieceOf, Cond.code yX0_pieceOf cX0_pieceOf 2 (some .long), Cond.methodLink RX0 64 yX0_isGone, Cond.methodLink RX6 100 yJ13_bitCount_95d88, Cond.methodLink RX6 106 yX0_lowestOfPiece, Cond.instanceMethod yX0_lowestOfPiece, Cond.selects RX0 yX0_lowestOfPiece yX0_lowestOfPiece, Cond.code yX0_lowestOfPiece cX0_lowestOfPiece 5 (some .int), Cond.methodLink RX0 71 yX0_pieceOf, Cond.methodLink RX6 109 yX0_holdsOn, Cond.instanceMethod yX0_holdsOn, Cond.selects RX0 yX0_holdsOn yX0_holdsOn, Cond.code yX0_holdsOn cX0_holdsOn 4 (some .int), Cond.methodLink RX0 58 yX0_holds, Cond.methodLink RL 47 yX7_cell, Cond.instanceMethod yX7_cell, Cond.selects RX7 yX7_cell yX7_cell, Cond.code yX7_cell cX7_cell 3 (some .int), Cond.methodLink RX7 138 yX7_isCell, Cond.static yX7_isCell, Cond.code yX7_isCell cX7_isCell 1 (some .boolean), Cond.methodLink RX7 141 yX7_pieceOf, Cond.instanceMethod yX7_pieceOf]
def wsL_law_r22 : List Cond := [Cond.selects RX7 yX7_pieceOf yX7_pieceOf, Cond.code yX7_pieceOf cX7_pieceOf 3 (some .int), Cond.methodLink RX7 144 yX7_holding, Cond.instanceMethod yX7_holding, Cond.selects RX7 yX7_holding yX7_holding, Cond.code yX7_holding cX7_holding 4 (some .int), Cond.methodLink RL 48 yX6_player, Cond.instanceMethod yX6_player, Cond.selects RX6 yX6_player yX6_player, Cond.code yX6_player cX6_player 4 (some .int), Cond.fieldLink RX6 119 "TailorChalks$Tailor" "points" "I", Cond.fieldLink RX6 125 "TailorChalks$Tailor" "threads" "I", Cond.fieldLink RX6 128 "TailorChalks$Tailor" "marks" "I", Cond.fieldLink RX6 131 "TailorChalks$Tailor" "rags" "I", Cond.fieldLink RX6 134 "TailorChalks$Tailor" "ragCells" "I", Cond.fieldLink RX6 137 "TailorChalks$Tailor" "found" "I", Cond.fieldLink RX6 140 "TailorChalks$Tailor" "rightDoubts" "I", Cond.fieldLink RX6 143 "TailorChalks$Tailor" "wrongDoubts" "I", Cond.methodLink RX6 112 yX1_isPlayer, Cond.static yX1_isPlayer, Cond.code yX1_isPlayer cX1_isPlayer 1 (some .boolean), Cond.methodLink RX6 115 yX1_tailorOf, Cond.methodLink RL 51 yX7_player, Cond.instanceMethod yX7_player]
def wsL_law_r23 : List Cond := [Cond.selects RX7 yX7_player yX7_player, Cond.code yX7_player cX7_player 3 (some .int), Cond.methodLink RL 52 yX6_chalked, Cond.instanceMethod yX6_chalked, Cond.selects RX6 yX6_chalked yX6_chalked, Cond.code yX6_chalked cX6_chalked 3 (some .int), Cond.methodLink RX6 146 yX5_markAt, Cond.instanceMethod yX5_markAt, Cond.selects RX5 yX5_markAt yX5_markAt, Cond.code yX5_markAt cX5_markAt 2 (some .int), Cond.methodLink RL 55 yX7_chalked, Cond.instanceMethod yX7_chalked, Cond.selects RX7 yX7_chalked yX7_chalked, Cond.code yX7_chalked cX7_chalked 3 (some .int), Cond.methodLink RL 56 yX6_count, Cond.instanceMethod yX6_count, Cond.selects RX6 yX6_count yX6_count, Cond.code yX6_count cX6_count 2 (some .int), Cond.fieldLink RX6 149 "TailorChalks$Game" "turns" "I", Cond.fieldLink RX6 152 "TailorChalks$Game" "next" "I", Cond.fieldLink RX6 172 "TailorChalks$Pad" "length" "I", Cond.fieldLink RX6 175 "TailorChalks$History" "kept" "I", Cond.methodLink RX6 155 yX1_isOver, Cond.methodLink RX6 159 yX1_winner]
def wsL_law_r24 : List Cond := [Cond.instanceMethod yX1_winner, Cond.selects RX1 yX1_winner yX1_winner, Cond.code yX1_winner cX1_winner 1 (some .int), Cond.methodLink RX6 163 yX0_cellsLeft, Cond.methodLink RX6 166 yX0_pieces, Cond.instanceMethod yX0_pieces, Cond.selects RX0 yX0_pieces yX0_pieces, Cond.code yX0_pieces cX0_pieces 5 (some .int), Cond.methodLink RX6 169 yX0_jointsThatAre, Cond.methodLink RL 59 yX7_count, Cond.instanceMethod yX7_count, Cond.selects RX7 yX7_count yX7_count, Cond.code yX7_count cX7_count 2 (some .int), Cond.fieldLink RX7 153 "TailorChalksModel" "length" "I", Cond.methodLink RX7 147 yX7_winner, Cond.instanceMethod yX7_winner, Cond.selects RX7 yX7_winner yX7_winner, Cond.code yX7_winner cX7_winner 2 (some .int), Cond.methodLink RX7 150 yX7_pieces, Cond.instanceMethod yX7_pieces, Cond.selects RX7 yX7_pieces yX7_pieces, Cond.code yX7_pieces cX7_pieces 3 (some .int), Cond.methodLink RL 60 yX6_why, Cond.instanceMethod yX6_why]
def wsL_law_r25 : List Cond := [Cond.selects RX6 yX6_why yX6_why, Cond.code yX6_why cX6_why 2 (some .int), Cond.methodLink RX6 178 yX1_whyNoSnip, Cond.methodLink RL 63 yX7_why, Cond.instanceMethod yX7_why, Cond.selects RX7 yX7_why yX7_why, Cond.code yX7_why cX7_why 2 (some .int), Cond.methodLink RL 64 yX6_ifSnipped, Cond.instanceMethod yX6_ifSnipped, Cond.selects RX6 yX6_ifSnipped yX6_ifSnipped, Cond.code yX6_ifSnipped cX6_ifSnipped 2 (some .int), Cond.methodLink RX6 181 yX0_ragOf, Cond.methodLink RL 67 yX7_ifSnipped, Cond.instanceMethod yX7_ifSnipped, Cond.selects RX7 yX7_ifSnipped yX7_ifSnipped, Cond.code yX7_ifSnipped cX7_ifSnipped 2 (some .int), Cond.methodLink RX7 156 yX7_cellsBy, Cond.instanceMethod yX7_cellsBy, Cond.selects RX7 yX7_cellsBy yX7_cellsBy, Cond.code yX7_cellsBy cX7_cellsBy 3 (some .int), Cond.methodLink RL 68 yX6_bestSnip, Cond.instanceMethod yX6_bestSnip, Cond.selects RX6 yX6_bestSnip yX6_bestSnip, Cond.code yX6_bestSnip cX6_bestSnip 3 (some .int)]
def wsL_law_r26 : List Cond := [Cond.methodLink RX6 184 yX1_bestJoint, Cond.instanceMethod yX1_bestJoint, Cond.selects RX1 yX1_bestJoint yX1_bestJoint, Cond.code yX1_bestJoint cX1_bestJoint 5 (some .int), Cond.methodLink RX1 156 yX1_openGain, Cond.instanceMethod yX1_openGain, Cond.selects RX1 yX1_openGain yX1_openGain, Cond.code yX1_openGain cX1_openGain 3 (some .int), Cond.methodLink RX6 187 yX1_openGain, Cond.methodLink RL 71 yX7_bestSnip, Cond.instanceMethod yX7_bestSnip, Cond.selects RX7 yX7_bestSnip yX7_bestSnip, Cond.code yX7_bestSnip cX7_bestSnip 6 (some .int), Cond.methodLink RL 72 yX6_weak, Cond.instanceMethod yX6_weak, Cond.selects RX6 yX6_weak yX6_weak, Cond.code yX6_weak cX6_weak 1 (some .int), Cond.methodLink RX6 190 yX0_weakJoints, Cond.instanceMethod yX0_weakJoints, Cond.selects RX0 yX0_weakJoints yX0_weakJoints, Cond.code yX0_weakJoints cX0_weakJoints 3 (some .int), Cond.methodLink RX0 75 yX0_ragOf, Cond.methodLink RL 75 yX7_weak, Cond.instanceMethod yX7_weak]
def wsL_law_r27 : List Cond := [Cond.selects RX7 yX7_weak yX7_weak, Cond.code yX7_weak cX7_weak 3 (some .int), Cond.methodLink RL 76 yX6_together, Cond.instanceMethod yX6_together, Cond.selects RX6 yX6_together yX6_together, Cond.code yX6_together cX6_together 6 (some .int), Cond.methodLink RX6 193 yX0_pieceIfBluffedHeld, Cond.instanceMethod yX0_pieceIfBluffedHeld, Cond.selects RX0 yX0_pieceIfBluffedHeld yX0_pieceIfBluffedHeld, Cond.code yX0_pieceIfBluffedHeld cX0_pieceIfBluffedHeld 9 (some .long), Cond.methodLink RX6 196 yX0_has, Cond.methodLink RL 80 yX7_together, Cond.instanceMethod yX7_together, Cond.selects RX7 yX7_together yX7_together, Cond.code yX7_together cX7_together 4 (some .int), Cond.methodLink RL 83 yX6_put, Cond.instanceMethod yX6_put, Cond.selects RX6 yX6_put yX6_put, Cond.code yX6_put cX6_put 3 (some .int), Cond.methodLink RX6 200 yX3_append, Cond.instanceMethod yX3_append, Cond.selects RX3 yX3_append yX3_append, Cond.code yX3_append cX3_append 5 (some .int), Cond.fieldLink RX3 19 "TailorChalks$Pad" "length" "I"]
def wsL_law_r28 : List Cond := [Cond.constantLong RX3 23 (255), Cond.methodLink RX3 15 yX3_charactersIn, Cond.static yX3_charactersIn, Cond.code yX3_charactersIn cX3_charactersIn 7 (some .int), Cond.constantLong RX3 25 (33), Cond.constantLong RX3 27 (126), Cond.methodLink RL 87 yX7_put, Cond.instanceMethod yX7_put, Cond.selects RX7 yX7_put yX7_put, Cond.code yX7_put cX7_put 8 (some .int), Cond.constantLong RX7 159 (255), Cond.methodLink RL 88 yX6_wipe, Cond.instanceMethod yX6_wipe, Cond.selects RX6 yX6_wipe yX6_wipe, Cond.code yX6_wipe cX6_wipe 1 (some .int), Cond.methodLink RX6 203 yX3_clear, Cond.instanceMethod yX3_clear, Cond.selects RX3 yX3_clear yX3_clear, Cond.code yX3_clear cX3_clear 2 (some .int), Cond.methodLink RL 91 yX7_wipe, Cond.instanceMethod yX7_wipe, Cond.selects RX7 yX7_wipe yX7_wipe, Cond.code yX7_wipe cX7_wipe 2 (some .int), Cond.methodLink RL 92 yX6_fault]
def wsL_law_r29 : List Cond := [Cond.instanceMethod yX6_fault, Cond.selects RX6 yX6_fault yX6_fault, Cond.code yX6_fault cX6_fault 1 (some .int), Cond.methodLink RX6 206 yX3_firstFault, Cond.instanceMethod yX3_firstFault, Cond.selects RX3 yX3_firstFault yX3_firstFault, Cond.code yX3_firstFault cX3_firstFault 3 (some .int), Cond.methodLink RX3 29 yX3_placeBehind, Cond.static yX3_placeBehind, Cond.code yX3_placeBehind cX3_placeBehind 3 (some .int), Cond.methodLink RX3 33 yX3_placeBehindOrder, Cond.static yX3_placeBehindOrder, Cond.code yX3_placeBehindOrder cX3_placeBehindOrder 1 (some .int), Cond.methodLink RX3 37 yX3_isDigit, Cond.static yX3_isDigit, Cond.code yX3_isDigit cX3_isDigit 1 (some .boolean), Cond.methodLink RL 95 yX7_fault, Cond.instanceMethod yX7_fault, Cond.selects RX7 yX7_fault yX7_fault, Cond.code yX7_fault cX7_fault 1 (some .int), Cond.methodLink RX7 170 yX7_wrong, Cond.instanceMethod yX7_wrong, Cond.selects RX7 yX7_wrong yX7_wrong, Cond.code yX7_wrong cX7_wrong 3 (some .int)]
def wsL_law_r30 : List Cond := [Cond.methodLink RX7 167 yX7_behindOrder, Cond.instanceMethod yX7_behindOrder, Cond.selects RX7 yX7_behindOrder yX7_behindOrder, Cond.code yX7_behindOrder cX7_behindOrder 3 (some .int), Cond.methodLink RX7 161 yX7_charAt, Cond.instanceMethod yX7_charAt, Cond.selects RX7 yX7_charAt yX7_charAt, Cond.code yX7_charAt cX7_charAt 2 (some .int), Cond.methodLink RX7 164 yX7_digitAt, Cond.instanceMethod yX7_digitAt, Cond.selects RX7 yX7_digitAt yX7_digitAt, Cond.code yX7_digitAt cX7_digitAt 2 (some .int), Cond.methodLink RL 96 yX6_carryOut, Cond.instanceMethod yX6_carryOut, Cond.selects RX6 yX6_carryOut yX6_carryOut, Cond.code yX6_carryOut cX6_carryOut 2 (some .int), Cond.methodLink RX6 209 yX6_obeyPad, Cond.instanceMethod yX6_obeyPad, Cond.selects RX6 yX6_obeyPad yX6_obeyPad, Cond.code yX6_obeyPad cX6_obeyPad 6 (some .int), Cond.methodLink RX6 212 yX3_signAt, Cond.instanceMethod yX3_signAt, Cond.selects RX3 yX3_signAt yX3_signAt, Cond.code yX3_signAt cX3_signAt 2 (some .char)]
def wsL_law_r31 : List Cond := [Cond.methodLink RX6 216 yX3_isDigit, Cond.methodLink RL 99 yX7_carryOut, Cond.instanceMethod yX7_carryOut, Cond.selects RX7 yX7_carryOut yX7_carryOut, Cond.code yX7_carryOut cX7_carryOut 6 (some .int), Cond.methodLink RL 100 yX6_undo, Cond.instanceMethod yX6_undo, Cond.selects RX6 yX6_undo yX6_undo, Cond.code yX6_undo cX6_undo 1 (some .int), Cond.methodLink RX6 220 yX2_goBack, Cond.instanceMethod yX2_goBack, Cond.selects RX2 yX2_goBack yX2_goBack, Cond.code yX2_goBack cX2_goBack 2 (some .int), Cond.methodLink RL 103 yX7_undo, Cond.instanceMethod yX7_undo, Cond.selects RX7 yX7_undo yX7_undo, Cond.code yX7_undo cX7_undo 2 (some .int), Cond.methodLink RL 104 yX6_save, Cond.instanceMethod yX6_save, Cond.selects RX6 yX6_save yX6_save, Cond.code yX6_save cX6_save 2 (some .int), Cond.methodLink RX6 224 yX6_isSlot, Cond.static yX6_isSlot, Cond.code yX6_isSlot cX6_isSlot 1 (some .boolean)]
def wsL_law_r32 : List Cond := [Cond.methodLink RX6 227 yX6_slotOf, Cond.instanceMethod yX6_slotOf, Cond.selects RX6 yX6_slotOf yX6_slotOf, Cond.code yX6_slotOf cX6_slotOf 2 (some (.object "TailorChalks$Slot")), Cond.methodLink RX6 231 yX4_fill, Cond.instanceMethod yX4_fill, Cond.selects RX4 yX4_fill yX4_fill, Cond.code yX4_fill cX4_fill 2 none, Cond.fieldLink RX4 20 "TailorChalks$Slot" "full" "Z", Cond.methodLink RX4 16 yX1_become, Cond.methodLink RL 107 yX7_save, Cond.instanceMethod yX7_save, Cond.selects RX7 yX7_save yX7_save, Cond.code yX7_save cX7_save 3 (some .int), Cond.methodLink RL 108 yX6_restore, Cond.instanceMethod yX6_restore, Cond.selects RX6 yX6_restore yX6_restore, Cond.code yX6_restore cX6_restore 3 (some .int), Cond.fieldLink RX6 234 "TailorChalks$Slot" "full" "Z", Cond.fieldLink RX6 238 "TailorChalks$Slot" "saved" "LTailorChalks$Game;", Cond.methodLink RX6 241 yX1_become, Cond.methodLink RL 111 yX7_restore, Cond.instanceMethod yX7_restore, Cond.selects RX7 yX7_restore yX7_restore]
def wsL_law_r33 : List Cond := [Cond.code yX7_restore cX7_restore 3 (some .int)]
def wsL_law : List Cond := (wsL_law_r1 ++ (wsL_law_r2 ++ (wsL_law_r3 ++ (wsL_law_r4 ++ (wsL_law_r5 ++ (wsL_law_r6 ++ (wsL_law_r7 ++ (wsL_law_r8 ++ (wsL_law_r9 ++ (wsL_law_r10 ++ (wsL_law_r11 ++ (wsL_law_r12 ++ (wsL_law_r13 ++ (wsL_law_r14 ++ (wsL_law_r15 ++ (wsL_law_r16 ++ (wsL_law_r17 ++ (wsL_law_r18 ++ (wsL_law_r19 ++ (wsL_law_r20 ++ (wsL_law_r21 ++ (wsL_law_r22 ++ (wsL_law_r23 ++ (wsL_law_r24 ++ (wsL_law_r25 ++ (wsL_law_r26 ++ (wsL_law_r27 ++ (wsL_law_r28 ++ (wsL_law_r29 ++ (wsL_law_r30 ++ (wsL_law_r31 ++ (wsL_law_r32 ++ wsL_law_r33)))))))))))))))))))))))))))))))) ++ wsX60 ++ wsX70 ++ wsX10 ++ wsX20 ++ wsX40 ++ wsX30 ++ wsX00 ++ wsX50 ++ ([] : List Cond)
set_option maxRecDepth 20000 in
theorem wsL_law_in : ∀ w ∈ wsL_law, w ∈ lw_tbl := fun w h => (goodIn_p wsL_law [63, 66, 71, 77, 82, 85, 88, 91, 114, 181, 201, 218, 625, 629, 248, 252, 256, 260, 264, 268, 272, 276, 280, 284, 287, 294, 299, 302, 306, 310, 314, 318, 322, 326, 330, 334, 338, 342, 346, 350, 353, 356, 361, 365, 370, 374, 378, 382, 387, 391, 395, 399, 662, 666, 670, 674, 678, 681, 684, 688, 692, 696, 700, 704, 707, 710, 714, 718, 722, 726, 730, 734, 738, 742, 746, 750, 754, 758, 762, 766, 770, 774, 778, 403, 782, 407, 786, 411, 790, 415, 794, 419, 798, 423, 429, 435, 439, 802, 444, 447, 451, 455, 461, 466, 806, 809, 813, 817, 471, 474, 821, 479, 483, 825, 487, 492, 497, 829, 833, 837, 502, 841, 507, 845, 849, 512, 516, 520, 853, 525, 529, 857, 534, 538, 861, 543, 547, 550, 865, 557, 561, 870, 565, 569, 572, 575, 578, 874, 878, 882, 886, 890, 582, 586, 590, 894, 595, 599, 898, 603, 606, 610, 614, 902, 619, 906] (by decide +kernel) (by decide +kernel) w h).1
theorem inlX0 : ∀ w ∈ wsX00, w ∈ wsL_law := fun _ h => List.mem_append_left _ (List.mem_append_left _ (List.mem_append_right _ h))
theorem inX0 : ∀ w ∈ wsX00, w ∈ lw_tbl := fun w h => wsL_law_in w (inlX0 w h)
theorem inlX1 : ∀ w ∈ wsX10, w ∈ wsL_law := fun _ h => List.mem_append_left _ (List.mem_append_left _ (List.mem_append_left _ (List.mem_append_left _ (List.mem_append_left _ (List.mem_append_left _ (List.mem_append_right _ h))))))
theorem inX1 : ∀ w ∈ wsX10, w ∈ lw_tbl := fun w h => wsL_law_in w (inlX1 w h)
theorem inlX2 : ∀ w ∈ wsX20, w ∈ wsL_law := fun _ h => List.mem_append_left _ (List.mem_append_left _ (List.mem_append_left _ (List.mem_append_left _ (List.mem_append_left _ (List.mem_append_right _ h)))))
theorem inX2 : ∀ w ∈ wsX20, w ∈ lw_tbl := fun w h => wsL_law_in w (inlX2 w h)
theorem inlX3 : ∀ w ∈ wsX30, w ∈ wsL_law := fun _ h => List.mem_append_left _ (List.mem_append_left _ (List.mem_append_left _ (List.mem_append_right _ h)))
theorem inX3 : ∀ w ∈ wsX30, w ∈ lw_tbl := fun w h => wsL_law_in w (inlX3 w h)
theorem inlX4 : ∀ w ∈ wsX40, w ∈ wsL_law := fun _ h => List.mem_append_left _ (List.mem_append_left _ (List.mem_append_left _ (List.mem_append_left _ (List.mem_append_right _ h))))
theorem inX4 : ∀ w ∈ wsX40, w ∈ lw_tbl := fun w h => wsL_law_in w (inlX4 w h)
theorem inlX5 : ∀ w ∈ wsX50, w ∈ wsL_law := fun _ h => List.mem_append_left _ (List.mem_append_right _ h)
theorem inX5 : ∀ w ∈ wsX50, w ∈ lw_tbl := fun w h => wsL_law_in w (inlX5 w h)
theorem inlX6 : ∀ w ∈ wsX60, w ∈ wsL_law := fun _ h => List.mem_append_left _ (List.mem_append_left _ (List.mem_append_left _ (List.mem_append_left _ (List.mem_append_left _ (List.mem_append_left _ (List.mem_append_left _ (List.mem_append_left _ (List.mem_append_right _ h))))))))
theorem inX6 : ∀ w ∈ wsX60, w ∈ lw_tbl := fun w h => wsL_law_in w (inlX6 w h)
theorem inlX7 : ∀ w ∈ wsX70, w ∈ wsL_law := fun _ h => List.mem_append_left _ (List.mem_append_left _ (List.mem_append_left _ (List.mem_append_left _ (List.mem_append_left _ (List.mem_append_left _ (List.mem_append_left _ (List.mem_append_right _ h)))))))
theorem inX7 : ∀ w ∈ wsX70, w ∈ lw_tbl := fun w h => wsL_law_in w (inlX7 w h)
theorem inJ13 : ∀ w ∈ wsJ130, w ∈ lw_tbl := by decide +kernel
set_option maxRecDepth 20000 in
theorem ggX0_init_X0_make : GoodIn wsX0_init wsX0_make := goodIn_r _ [11, 5, 6, 12, 13, 14, 15, 16, 10, 17, 18, 19, 20, 21, 22, 23, 24, 25, 26, 27, 28] (by decide +kernel) (by decide +kernel)
set_option maxRecDepth 20000 in
theorem gX0_init_X0_make : GoodIn wsX0_init (wsV RX0 18 RX0 yX0_make wsX0_make) := goodIn_app (goodIn_of _ (by decide +kernel)) ggX0_init_X0_make
theorem dX0_init_0 : decode cX0_init 0 = .ok (.aload_n 0, 1) := by decide +kernel
theorem dX0_init_1 : decode cX0_init 1 = .ok (.invokespecial 3, 3) := by decide +kernel
theorem dX0_init_4 : decode cX0_init 4 = .ok (.aload_n 0, 1) := by decide +kernel
theorem dX0_init_5 : decode cX0_init 5 = .ok (.bipush 82, 2) := by decide +kernel
theorem dX0_init_7 : decode cX0_init 7 = .ok (.newarray .int, 2) := by decide +kernel
theorem dX0_init_9 : decode cX0_init 9 = .ok (.putfield 11, 3) := by decide +kernel
theorem dX0_init_12 : decode cX0_init 12 = .ok (.aload_n 0, 1) := by decide +kernel
theorem dX0_init_13 : decode cX0_init 13 = .ok (.bipush 82, 2) := by decide +kernel
theorem dX0_init_15 : decode cX0_init 15 = .ok (.newarray .int, 2) := by decide +kernel
theorem dX0_init_17 : decode cX0_init 17 = .ok (.putfield 15, 3) := by decide +kernel
theorem dX0_init_20 : decode cX0_init 20 = .ok (.iconst 0, 1) := by decide +kernel
theorem dX0_init_21 : decode cX0_init 21 = .ok (.istore_n 1, 1) := by decide +kernel
theorem dX0_init_22 : decode cX0_init 22 = .ok (.iload_n 1, 1) := by decide +kernel
theorem dX0_init_23 : decode cX0_init 23 = .ok (.bipush 82, 2) := by decide +kernel
theorem dX0_init_25 : decode cX0_init 25 = .ok (.if_icmp .ge 17, 3) := by decide +kernel
theorem dX0_init_28 : decode cX0_init 28 = .ok (.aload_n 0, 1) := by decide +kernel
theorem dX0_init_29 : decode cX0_init 29 = .ok (.iload_n 1, 1) := by decide +kernel
theorem dX0_init_30 : decode cX0_init 30 = .ok (.iconst 0, 1) := by decide +kernel
theorem dX0_init_31 : decode cX0_init 31 = .ok (.bipush (-6), 2) := by decide +kernel
theorem dX0_init_33 : decode cX0_init 33 = .ok (.invokevirtual 18, 3) := by decide +kernel
theorem dX0_init_36 : decode cX0_init 36 = .ok (.iinc 1 1, 3) := by decide +kernel
theorem dX0_init_39 : decode cX0_init 39 = .ok (.goto (-17), 3) := by decide +kernel
theorem dX0_init_42 : decode cX0_init 42 = .ok (.return_, 1) := by decide +kernel
theorem dX0_become_0 : decode cX0_become 0 = .ok (.iconst 0, 1) := by decide +kernel
theorem dX0_become_1 : decode cX0_become 1 = .ok (.istore_n 2, 1) := by decide +kernel
theorem dX0_become_2 : decode cX0_become 2 = .ok (.iload_n 2, 1) := by decide +kernel
theorem dX0_become_3 : decode cX0_become 3 = .ok (.bipush 82, 2) := by decide +kernel
theorem dX0_become_5 : decode cX0_become 5 = .ok (.if_icmp .ge 33, 3) := by decide +kernel
theorem dX0_become_8 : decode cX0_become 8 = .ok (.aload_n 0, 1) := by decide +kernel
theorem dX0_become_9 : decode cX0_become 9 = .ok (.getfield 11, 3) := by decide +kernel
theorem dX0_become_12 : decode cX0_become 12 = .ok (.iload_n 2, 1) := by decide +kernel
theorem dX0_become_13 : decode cX0_become 13 = .ok (.aload_n 1, 1) := by decide +kernel
theorem dX0_become_14 : decode cX0_become 14 = .ok (.getfield 11, 3) := by decide +kernel
theorem dX0_become_17 : decode cX0_become 17 = .ok (.iload_n 2, 1) := by decide +kernel
theorem dX0_become_18 : decode cX0_become 18 = .ok (.iaload, 1) := by decide +kernel
theorem dX0_become_19 : decode cX0_become 19 = .ok (.iastore, 1) := by decide +kernel
theorem dX0_become_20 : decode cX0_become 20 = .ok (.aload_n 0, 1) := by decide +kernel
theorem dX0_become_21 : decode cX0_become 21 = .ok (.getfield 15, 3) := by decide +kernel
theorem dX0_become_24 : decode cX0_become 24 = .ok (.iload_n 2, 1) := by decide +kernel
theorem dX0_become_25 : decode cX0_become 25 = .ok (.aload_n 1, 1) := by decide +kernel
theorem dX0_become_26 : decode cX0_become 26 = .ok (.getfield 15, 3) := by decide +kernel
theorem dX0_become_29 : decode cX0_become 29 = .ok (.iload_n 2, 1) := by decide +kernel
theorem dX0_become_30 : decode cX0_become 30 = .ok (.iaload, 1) := by decide +kernel
theorem dX0_become_31 : decode cX0_become 31 = .ok (.iastore, 1) := by decide +kernel
theorem dX0_become_32 : decode cX0_become 32 = .ok (.iinc 2 1, 3) := by decide +kernel
theorem dX0_become_35 : decode cX0_become 35 = .ok (.goto (-33), 3) := by decide +kernel
theorem dX0_become_38 : decode cX0_become 38 = .ok (.aload_n 0, 1) := by decide +kernel
theorem dX0_become_39 : decode cX0_become 39 = .ok (.aload_n 1, 1) := by decide +kernel
theorem dX0_become_40 : decode cX0_become 40 = .ok (.getfield 22, 3) := by decide +kernel
theorem dX0_become_43 : decode cX0_become 43 = .ok (.putfield 22, 3) := by decide +kernel
theorem dX0_become_46 : decode cX0_become 46 = .ok (.aload_n 0, 1) := by decide +kernel
theorem dX0_become_47 : decode cX0_become 47 = .ok (.aload_n 1, 1) := by decide +kernel
theorem dX0_become_48 : decode cX0_become 48 = .ok (.getfield 26, 3) := by decide +kernel
theorem dX0_become_51 : decode cX0_become 51 = .ok (.putfield 26, 3) := by decide +kernel
theorem dX0_become_54 : decode cX0_become 54 = .ok (.aload_n 0, 1) := by decide +kernel
theorem dX0_become_55 : decode cX0_become 55 = .ok (.aload_n 1, 1) := by decide +kernel
theorem dX0_become_56 : decode cX0_become 56 = .ok (.getfield 29, 3) := by decide +kernel
theorem dX0_become_59 : decode cX0_become 59 = .ok (.putfield 29, 3) := by decide +kernel
theorem dX0_become_62 : decode cX0_become 62 = .ok (.return_, 1) := by decide +kernel
theorem dX0_isJoint_0 : decode cX0_isJoint 0 = .ok (.iload_n 0, 1) := by decide +kernel
theorem dX0_isJoint_1 : decode cX0_isJoint 1 = .ok (.ifCond .lt 13, 3) := by decide +kernel
theorem dX0_isJoint_4 : decode cX0_isJoint 4 = .ok (.iload_n 0, 1) := by decide +kernel
theorem dX0_isJoint_5 : decode cX0_isJoint 5 = .ok (.bipush 82, 2) := by decide +kernel
theorem dX0_isJoint_7 : decode cX0_isJoint 7 = .ok (.if_icmp .ge 7, 3) := by decide +kernel
theorem dX0_isJoint_10 : decode cX0_isJoint 10 = .ok (.iconst 1, 1) := by decide +kernel
theorem dX0_isJoint_11 : decode cX0_isJoint 11 = .ok (.goto 4, 3) := by decide +kernel
theorem dX0_isJoint_14 : decode cX0_isJoint 14 = .ok (.iconst 0, 1) := by decide +kernel
theorem dX0_isJoint_15 : decode cX0_isJoint 15 = .ok (.ireturn, 1) := by decide +kernel
theorem dX0_isCell_0 : decode cX0_isCell 0 = .ok (.iload_n 0, 1) := by decide +kernel
theorem dX0_isCell_1 : decode cX0_isCell 1 = .ok (.ifCond .lt 13, 3) := by decide +kernel
theorem dX0_isCell_4 : decode cX0_isCell 4 = .ok (.iload_n 0, 1) := by decide +kernel
theorem dX0_isCell_5 : decode cX0_isCell 5 = .ok (.bipush 48, 2) := by decide +kernel
theorem dX0_isCell_7 : decode cX0_isCell 7 = .ok (.if_icmp .ge 7, 3) := by decide +kernel
theorem dX0_isCell_10 : decode cX0_isCell 10 = .ok (.iconst 1, 1) := by decide +kernel
theorem dX0_isCell_11 : decode cX0_isCell 11 = .ok (.goto 4, 3) := by decide +kernel
theorem dX0_isCell_14 : decode cX0_isCell 14 = .ok (.iconst 0, 1) := by decide +kernel
theorem dX0_isCell_15 : decode cX0_isCell 15 = .ok (.ireturn, 1) := by decide +kernel
theorem dX0_isDown_0 : decode cX0_isDown 0 = .ok (.iload_n 0, 1) := by decide +kernel
theorem dX0_isDown_1 : decode cX0_isDown 1 = .ok (.bipush 42, 2) := by decide +kernel
theorem dX0_isDown_3 : decode cX0_isDown 3 = .ok (.if_icmp .lt 7, 3) := by decide +kernel
theorem dX0_isDown_6 : decode cX0_isDown 6 = .ok (.iconst 1, 1) := by decide +kernel
theorem dX0_isDown_7 : decode cX0_isDown 7 = .ok (.goto 4, 3) := by decide +kernel
theorem dX0_isDown_10 : decode cX0_isDown 10 = .ok (.iconst 0, 1) := by decide +kernel
theorem dX0_isDown_11 : decode cX0_isDown 11 = .ok (.ireturn, 1) := by decide +kernel
theorem dX0_firstCell_0 : decode cX0_firstCell 0 = .ok (.iload_n 0, 1) := by decide +kernel
theorem dX0_firstCell_1 : decode cX0_firstCell 1 = .ok (.bipush 42, 2) := by decide +kernel
theorem dX0_firstCell_3 : decode cX0_firstCell 3 = .ok (.if_icmp .lt 8, 3) := by decide +kernel
theorem dX0_firstCell_6 : decode cX0_firstCell 6 = .ok (.iload_n 0, 1) := by decide +kernel
theorem dX0_firstCell_7 : decode cX0_firstCell 7 = .ok (.bipush 42, 2) := by decide +kernel
theorem dX0_firstCell_9 : decode cX0_firstCell 9 = .ok (.isub, 1) := by decide +kernel
theorem dX0_firstCell_10 : decode cX0_firstCell 10 = .ok (.ireturn, 1) := by decide +kernel
theorem dX0_firstCell_11 : decode cX0_firstCell 11 = .ok (.bipush 8, 2) := by decide +kernel
theorem dX0_firstCell_13 : decode cX0_firstCell 13 = .ok (.iload_n 0, 1) := by decide +kernel
theorem dX0_firstCell_14 : decode cX0_firstCell 14 = .ok (.bipush 7, 2) := by decide +kernel
theorem dX0_firstCell_16 : decode cX0_firstCell 16 = .ok (.idiv, 1) := by decide +kernel
theorem dX0_firstCell_17 : decode cX0_firstCell 17 = .ok (.imul, 1) := by decide +kernel
theorem dX0_firstCell_18 : decode cX0_firstCell 18 = .ok (.iload_n 0, 1) := by decide +kernel
theorem dX0_firstCell_19 : decode cX0_firstCell 19 = .ok (.bipush 7, 2) := by decide +kernel
theorem dX0_firstCell_21 : decode cX0_firstCell 21 = .ok (.irem, 1) := by decide +kernel
theorem dX0_firstCell_22 : decode cX0_firstCell 22 = .ok (.iadd, 1) := by decide +kernel
theorem dX0_firstCell_23 : decode cX0_firstCell 23 = .ok (.ireturn, 1) := by decide +kernel
set_option maxRecDepth 20000 in
theorem ggX0_secondCell_X0_firstCell : GoodIn wsX0_secondCell wsX0_firstCell := goodIn_r _ [4] (by decide +kernel) (by decide +kernel)
set_option maxRecDepth 20000 in
theorem gX0_secondCell_X0_firstCell : GoodIn wsX0_secondCell (va_wsS RX0 32 yX0_firstCell wsX0_firstCell) := goodIn_app (goodIn_of _ (by decide +kernel)) ggX0_secondCell_X0_firstCell
set_option maxRecDepth 20000 in
theorem ggX0_secondCell_X0_isDown : GoodIn wsX0_secondCell wsX0_isDown := goodIn_r _ [7] (by decide +kernel) (by decide +kernel)
set_option maxRecDepth 20000 in
theorem gX0_secondCell_X0_isDown : GoodIn wsX0_secondCell (va_wsS RX0 36 yX0_isDown wsX0_isDown) := goodIn_app (goodIn_of _ (by decide +kernel)) ggX0_secondCell_X0_isDown
theorem dX0_secondCell_0 : decode cX0_secondCell 0 = .ok (.iload_n 0, 1) := by decide +kernel
theorem dX0_secondCell_1 : decode cX0_secondCell 1 = .ok (.invokestatic 32, 3) := by decide +kernel
theorem dX0_secondCell_4 : decode cX0_secondCell 4 = .ok (.iload_n 0, 1) := by decide +kernel
theorem dX0_secondCell_5 : decode cX0_secondCell 5 = .ok (.invokestatic 36, 3) := by decide +kernel
theorem dX0_secondCell_8 : decode cX0_secondCell 8 = .ok (.ifCond .eq 8, 3) := by decide +kernel
theorem dX0_secondCell_11 : decode cX0_secondCell 11 = .ok (.bipush 8, 2) := by decide +kernel
theorem dX0_secondCell_13 : decode cX0_secondCell 13 = .ok (.goto 4, 3) := by decide +kernel
theorem dX0_secondCell_16 : decode cX0_secondCell 16 = .ok (.iconst 1, 1) := by decide +kernel
theorem dX0_secondCell_17 : decode cX0_secondCell 17 = .ok (.iadd, 1) := by decide +kernel
theorem dX0_secondCell_18 : decode cX0_secondCell 18 = .ok (.ireturn, 1) := by decide +kernel
theorem dX0_has_0 : decode cX0_has 0 = .ok (.lload_n 0, 1) := by decide +kernel
theorem dX0_has_1 : decode cX0_has 1 = .ok (.iload_n 2, 1) := by decide +kernel
theorem dX0_has_2 : decode cX0_has 2 = .ok (.lushr, 1) := by decide +kernel
theorem dX0_has_3 : decode cX0_has 3 = .ok (.lconst 1, 1) := by decide +kernel
theorem dX0_has_4 : decode cX0_has 4 = .ok (.land, 1) := by decide +kernel
theorem dX0_has_5 : decode cX0_has 5 = .ok (.lconst 0, 1) := by decide +kernel
theorem dX0_has_6 : decode cX0_has 6 = .ok (.lcmp, 1) := by decide +kernel
theorem dX0_has_7 : decode cX0_has 7 = .ok (.ifCond .eq 7, 3) := by decide +kernel
theorem dX0_has_10 : decode cX0_has 10 = .ok (.iconst 1, 1) := by decide +kernel
theorem dX0_has_11 : decode cX0_has 11 = .ok (.goto 4, 3) := by decide +kernel
theorem dX0_has_14 : decode cX0_has 14 = .ok (.iconst 0, 1) := by decide +kernel
theorem dX0_has_15 : decode cX0_has 15 = .ok (.ireturn, 1) := by decide +kernel
set_option maxRecDepth 20000 in
theorem ggX0_stateOf_X0_isJoint : GoodIn wsX0_stateOf wsX0_isJoint := goodIn_r _ [5] (by decide +kernel) (by decide +kernel)
set_option maxRecDepth 20000 in
theorem gX0_stateOf_X0_isJoint : GoodIn wsX0_stateOf (va_wsS RX0 40 yX0_isJoint wsX0_isJoint) := goodIn_app (goodIn_of _ (by decide +kernel)) ggX0_stateOf_X0_isJoint
theorem dX0_stateOf_0 : decode cX0_stateOf 0 = .ok (.iload_n 1, 1) := by decide +kernel
theorem dX0_stateOf_1 : decode cX0_stateOf 1 = .ok (.invokestatic 40, 3) := by decide +kernel
theorem dX0_stateOf_4 : decode cX0_stateOf 4 = .ok (.ifCond .eq 12, 3) := by decide +kernel
theorem dX0_stateOf_7 : decode cX0_stateOf 7 = .ok (.aload_n 0, 1) := by decide +kernel
theorem dX0_stateOf_8 : decode cX0_stateOf 8 = .ok (.getfield 11, 3) := by decide +kernel
theorem dX0_stateOf_11 : decode cX0_stateOf 11 = .ok (.iload_n 1, 1) := by decide +kernel
theorem dX0_stateOf_12 : decode cX0_stateOf 12 = .ok (.iaload, 1) := by decide +kernel
theorem dX0_stateOf_13 : decode cX0_stateOf 13 = .ok (.goto 4, 3) := by decide +kernel
theorem dX0_stateOf_16 : decode cX0_stateOf 16 = .ok (.iconst 1, 1) := by decide +kernel
theorem dX0_stateOf_17 : decode cX0_stateOf 17 = .ok (.ireturn, 1) := by decide +kernel
set_option maxRecDepth 20000 in
theorem ggX0_makerOf_X0_isJoint : GoodIn wsX0_makerOf wsX0_isJoint := goodIn_r _ [5] (by decide +kernel) (by decide +kernel)
set_option maxRecDepth 20000 in
theorem gX0_makerOf_X0_isJoint : GoodIn wsX0_makerOf (va_wsS RX0 40 yX0_isJoint wsX0_isJoint) := goodIn_app (goodIn_of _ (by decide +kernel)) ggX0_makerOf_X0_isJoint
theorem dX0_makerOf_0 : decode cX0_makerOf 0 = .ok (.iload_n 1, 1) := by decide +kernel
theorem dX0_makerOf_1 : decode cX0_makerOf 1 = .ok (.invokestatic 40, 3) := by decide +kernel
theorem dX0_makerOf_4 : decode cX0_makerOf 4 = .ok (.ifCond .eq 12, 3) := by decide +kernel
theorem dX0_makerOf_7 : decode cX0_makerOf 7 = .ok (.aload_n 0, 1) := by decide +kernel
theorem dX0_makerOf_8 : decode cX0_makerOf 8 = .ok (.getfield 15, 3) := by decide +kernel
theorem dX0_makerOf_11 : decode cX0_makerOf 11 = .ok (.iload_n 1, 1) := by decide +kernel
theorem dX0_makerOf_12 : decode cX0_makerOf 12 = .ok (.iaload, 1) := by decide +kernel
theorem dX0_makerOf_13 : decode cX0_makerOf 13 = .ok (.goto 5, 3) := by decide +kernel
theorem dX0_makerOf_16 : decode cX0_makerOf 16 = .ok (.bipush (-6), 2) := by decide +kernel
theorem dX0_makerOf_18 : decode cX0_makerOf 18 = .ok (.ireturn, 1) := by decide +kernel
set_option maxRecDepth 20000 in
theorem ggX0_isVoid_X0_isDown : GoodIn wsX0_isVoid wsX0_isDown := goodIn_r _ [5] (by decide +kernel) (by decide +kernel)
set_option maxRecDepth 20000 in
theorem gX0_isVoid_X0_isDown : GoodIn wsX0_isVoid (va_wsS RX0 36 yX0_isDown wsX0_isDown) := goodIn_app (goodIn_of _ (by decide +kernel)) ggX0_isVoid_X0_isDown
set_option maxRecDepth 20000 in
theorem ggX0_isVoid_X0_firstCell : GoodIn wsX0_isVoid wsX0_firstCell := goodIn_r _ [8] (by decide +kernel) (by decide +kernel)
set_option maxRecDepth 20000 in
theorem gX0_isVoid_X0_firstCell : GoodIn wsX0_isVoid (va_wsS RX0 32 yX0_firstCell wsX0_firstCell) := goodIn_app (goodIn_of _ (by decide +kernel)) ggX0_isVoid_X0_firstCell
set_option maxRecDepth 20000 in
theorem ggX0_isVoid_X0_has : GoodIn wsX0_isVoid wsX0_has := goodIn_r _ [11] (by decide +kernel) (by decide +kernel)
set_option maxRecDepth 20000 in
theorem gX0_isVoid_X0_has : GoodIn wsX0_isVoid (va_wsS RX0 43 yX0_has wsX0_has) := goodIn_app (goodIn_of _ (by decide +kernel)) ggX0_isVoid_X0_has
theorem dX0_isVoid_0 : decode cX0_isVoid 0 = .ok (.aload_n 0, 1) := by decide +kernel
theorem dX0_isVoid_1 : decode cX0_isVoid 1 = .ok (.getfield 22, 3) := by decide +kernel
theorem dX0_isVoid_4 : decode cX0_isVoid 4 = .ok (.iload_n 1, 1) := by decide +kernel
theorem dX0_isVoid_5 : decode cX0_isVoid 5 = .ok (.invokestatic 36, 3) := by decide +kernel
theorem dX0_isVoid_8 : decode cX0_isVoid 8 = .ok (.ifCond .eq 8, 3) := by decide +kernel
theorem dX0_isVoid_11 : decode cX0_isVoid 11 = .ok (.bipush 8, 2) := by decide +kernel
theorem dX0_isVoid_13 : decode cX0_isVoid 13 = .ok (.goto 4, 3) := by decide +kernel
theorem dX0_isVoid_16 : decode cX0_isVoid 16 = .ok (.iconst 1, 1) := by decide +kernel
theorem dX0_isVoid_17 : decode cX0_isVoid 17 = .ok (.lushr, 1) := by decide +kernel
theorem dX0_isVoid_18 : decode cX0_isVoid 18 = .ok (.lstore_n 2, 1) := by decide +kernel
theorem dX0_isVoid_19 : decode cX0_isVoid 19 = .ok (.aload_n 0, 1) := by decide +kernel
theorem dX0_isVoid_20 : decode cX0_isVoid 20 = .ok (.getfield 22, 3) := by decide +kernel
theorem dX0_isVoid_23 : decode cX0_isVoid 23 = .ok (.lload_n 2, 1) := by decide +kernel
theorem dX0_isVoid_24 : decode cX0_isVoid 24 = .ok (.lor, 1) := by decide +kernel
theorem dX0_isVoid_25 : decode cX0_isVoid 25 = .ok (.iload_n 1, 1) := by decide +kernel
theorem dX0_isVoid_26 : decode cX0_isVoid 26 = .ok (.invokestatic 32, 3) := by decide +kernel
theorem dX0_isVoid_29 : decode cX0_isVoid 29 = .ok (.invokestatic 43, 3) := by decide +kernel
theorem dX0_isVoid_32 : decode cX0_isVoid 32 = .ok (.ireturn, 1) := by decide +kernel
set_option maxRecDepth 20000 in
theorem ggX0_holds_X0_isDown : GoodIn wsX0_holds wsX0_isDown := goodIn_r _ [6] (by decide +kernel) (by decide +kernel)
set_option maxRecDepth 20000 in
theorem gX0_holds_X0_isDown : GoodIn wsX0_holds (va_wsS RX0 36 yX0_isDown wsX0_isDown) := goodIn_app (goodIn_of _ (by decide +kernel)) ggX0_holds_X0_isDown
set_option maxRecDepth 20000 in
theorem ggX0_holds_X0_firstCell : GoodIn wsX0_holds wsX0_firstCell := goodIn_r _ [9] (by decide +kernel) (by decide +kernel)
set_option maxRecDepth 20000 in
theorem gX0_holds_X0_firstCell : GoodIn wsX0_holds (va_wsS RX0 32 yX0_firstCell wsX0_firstCell) := goodIn_app (goodIn_of _ (by decide +kernel)) ggX0_holds_X0_firstCell
set_option maxRecDepth 20000 in
theorem ggX0_holds_X0_has : GoodIn wsX0_holds wsX0_has := goodIn_r _ [12] (by decide +kernel) (by decide +kernel)
set_option maxRecDepth 20000 in
theorem gX0_holds_X0_has : GoodIn wsX0_holds (va_wsS RX0 43 yX0_has wsX0_has) := goodIn_app (goodIn_of _ (by decide +kernel)) ggX0_holds_X0_has
theorem dX0_holds_0 : decode cX0_holds 0 = .ok (.iload_n 1, 1) := by decide +kernel
theorem dX0_holds_1 : decode cX0_holds 1 = .ok (.invokestatic 36, 3) := by decide +kernel
theorem dX0_holds_4 : decode cX0_holds 4 = .ok (.ifCond .eq 10, 3) := by decide +kernel
theorem dX0_holds_7 : decode cX0_holds 7 = .ok (.aload_n 0, 1) := by decide +kernel
theorem dX0_holds_8 : decode cX0_holds 8 = .ok (.getfield 29, 3) := by decide +kernel
theorem dX0_holds_11 : decode cX0_holds 11 = .ok (.goto 7, 3) := by decide +kernel
theorem dX0_holds_14 : decode cX0_holds 14 = .ok (.aload_n 0, 1) := by decide +kernel
theorem dX0_holds_15 : decode cX0_holds 15 = .ok (.getfield 26, 3) := by decide +kernel
theorem dX0_holds_18 : decode cX0_holds 18 = .ok (.iload_n 1, 1) := by decide +kernel
theorem dX0_holds_19 : decode cX0_holds 19 = .ok (.invokestatic 32, 3) := by decide +kernel
theorem dX0_holds_22 : decode cX0_holds 22 = .ok (.invokestatic 43, 3) := by decide +kernel
theorem dX0_holds_25 : decode cX0_holds 25 = .ok (.ireturn, 1) := by decide +kernel
set_option maxRecDepth 20000 in
theorem ggX0_isGone_X0_has : GoodIn wsX0_isGone wsX0_has := goodIn_r _ [5] (by decide +kernel) (by decide +kernel)
set_option maxRecDepth 20000 in
theorem gX0_isGone_X0_has : GoodIn wsX0_isGone (va_wsS RX0 43 yX0_has wsX0_has) := goodIn_app (goodIn_of _ (by decide +kernel)) ggX0_isGone_X0_has
theorem dX0_isGone_0 : decode cX0_isGone 0 = .ok (.aload_n 0, 1) := by decide +kernel
theorem dX0_isGone_1 : decode cX0_isGone 1 = .ok (.getfield 22, 3) := by decide +kernel
theorem dX0_isGone_4 : decode cX0_isGone 4 = .ok (.iload_n 1, 1) := by decide +kernel
theorem dX0_isGone_5 : decode cX0_isGone 5 = .ok (.invokestatic 43, 3) := by decide +kernel
theorem dX0_isGone_8 : decode cX0_isGone 8 = .ok (.ireturn, 1) := by decide +kernel
set_option maxRecDepth 20000 in
theorem ggX0_cellsLeft_J13_bitCount_95d88 : GoodIn wsX0_cellsLeft wsJ13_bitCount_95d88 := goodIn_r _ [5, 6, 7, 8] (by decide +kernel) (by decide +kernel)
set_option maxRecDepth 20000 in
theorem gX0_cellsLeft_J13_bitCount_95d88 : GoodIn wsX0_cellsLeft (va_wsS RX0 47 yJ13_bitCount_95d88 wsJ13_bitCount_95d88) := goodIn_app (goodIn_of _ (by decide +kernel)) ggX0_cellsLeft_J13_bitCount_95d88
theorem dX0_cellsLeft_0 : decode cX0_cellsLeft 0 = .ok (.bipush 48, 2) := by decide +kernel
theorem dX0_cellsLeft_2 : decode cX0_cellsLeft 2 = .ok (.aload_n 0, 1) := by decide +kernel
theorem dX0_cellsLeft_3 : decode cX0_cellsLeft 3 = .ok (.getfield 22, 3) := by decide +kernel
theorem dX0_cellsLeft_6 : decode cX0_cellsLeft 6 = .ok (.invokestatic 47, 3) := by decide +kernel
theorem dX0_cellsLeft_9 : decode cX0_cellsLeft 9 = .ok (.isub, 1) := by decide +kernel
theorem dX0_cellsLeft_10 : decode cX0_cellsLeft 10 = .ok (.ireturn, 1) := by decide +kernel
set_option maxRecDepth 20000 in
theorem ggX0_make_X0_isJoint : GoodIn wsX0_make wsX0_isJoint := goodIn_r _ [9] (by decide +kernel) (by decide +kernel)
set_option maxRecDepth 20000 in
theorem gX0_make_X0_isJoint : GoodIn wsX0_make (va_wsS RX0 40 yX0_isJoint wsX0_isJoint) := goodIn_app (goodIn_of _ (by decide +kernel)) ggX0_make_X0_isJoint
set_option maxRecDepth 20000 in
theorem ggX0_make_X0_firstCell : GoodIn wsX0_make wsX0_firstCell := goodIn_r _ [12] (by decide +kernel) (by decide +kernel)
set_option maxRecDepth 20000 in
theorem gX0_make_X0_firstCell : GoodIn wsX0_make (va_wsS RX0 32 yX0_firstCell wsX0_firstCell) := goodIn_app (goodIn_of _ (by decide +kernel)) ggX0_make_X0_firstCell
set_option maxRecDepth 20000 in
theorem ggX0_make_X0_isDown : GoodIn wsX0_make wsX0_isDown := goodIn_r _ [15] (by decide +kernel) (by decide +kernel)
set_option maxRecDepth 20000 in
theorem gX0_make_X0_isDown : GoodIn wsX0_make (va_wsS RX0 36 yX0_isDown wsX0_isDown) := goodIn_app (goodIn_of _ (by decide +kernel)) ggX0_make_X0_isDown
theorem dX0_make_0 : decode cX0_make 0 = .ok (.iload_n 1, 1) := by decide +kernel
theorem dX0_make_1 : decode cX0_make 1 = .ok (.invokestatic 40, 3) := by decide +kernel
theorem dX0_make_4 : decode cX0_make 4 = .ok (.ifCond .ne 4, 3) := by decide +kernel
theorem dX0_make_7 : decode cX0_make 7 = .ok (.return_, 1) := by decide +kernel
theorem dX0_make_8 : decode cX0_make 8 = .ok (.aload_n 0, 1) := by decide +kernel
theorem dX0_make_9 : decode cX0_make 9 = .ok (.getfield 11, 3) := by decide +kernel
theorem dX0_make_12 : decode cX0_make 12 = .ok (.iload_n 1, 1) := by decide +kernel
theorem dX0_make_13 : decode cX0_make 13 = .ok (.iload_n 2, 1) := by decide +kernel
theorem dX0_make_14 : decode cX0_make 14 = .ok (.iastore, 1) := by decide +kernel
theorem dX0_make_15 : decode cX0_make 15 = .ok (.aload_n 0, 1) := by decide +kernel
theorem dX0_make_16 : decode cX0_make 16 = .ok (.getfield 15, 3) := by decide +kernel
theorem dX0_make_19 : decode cX0_make 19 = .ok (.iload_n 1, 1) := by decide +kernel
theorem dX0_make_20 : decode cX0_make 20 = .ok (.iload_n 3, 1) := by decide +kernel
theorem dX0_make_21 : decode cX0_make 21 = .ok (.iastore, 1) := by decide +kernel
theorem dX0_make_22 : decode cX0_make 22 = .ok (.lconst 1, 1) := by decide +kernel
theorem dX0_make_23 : decode cX0_make 23 = .ok (.iload_n 1, 1) := by decide +kernel
theorem dX0_make_24 : decode cX0_make 24 = .ok (.invokestatic 32, 3) := by decide +kernel
theorem dX0_make_27 : decode cX0_make 27 = .ok (.lshl, 1) := by decide +kernel
theorem dX0_make_28 : decode cX0_make 28 = .ok (.lstore 4, 2) := by decide +kernel
theorem dX0_make_30 : decode cX0_make 30 = .ok (.iload_n 2, 1) := by decide +kernel
theorem dX0_make_31 : decode cX0_make 31 = .ok (.ifCond .eq 8, 3) := by decide +kernel
theorem dX0_make_34 : decode cX0_make 34 = .ok (.iload_n 2, 1) := by decide +kernel
theorem dX0_make_35 : decode cX0_make 35 = .ok (.iconst 2, 1) := by decide +kernel
theorem dX0_make_36 : decode cX0_make 36 = .ok (.if_icmp .ne 8, 3) := by decide +kernel
theorem dX0_make_39 : decode cX0_make 39 = .ok (.lload 4, 2) := by decide +kernel
theorem dX0_make_41 : decode cX0_make 41 = .ok (.goto 4, 3) := by decide +kernel
theorem dX0_make_44 : decode cX0_make 44 = .ok (.lconst 0, 1) := by decide +kernel
theorem dX0_make_45 : decode cX0_make 45 = .ok (.lstore 6, 2) := by decide +kernel
theorem dX0_make_47 : decode cX0_make 47 = .ok (.iload_n 1, 1) := by decide +kernel
theorem dX0_make_48 : decode cX0_make 48 = .ok (.invokestatic 36, 3) := by decide +kernel
theorem dX0_make_51 : decode cX0_make 51 = .ok (.ifCond .eq 24, 3) := by decide +kernel
theorem dX0_make_54 : decode cX0_make 54 = .ok (.aload_n 0, 1) := by decide +kernel
theorem dX0_make_55 : decode cX0_make 55 = .ok (.aload_n 0, 1) := by decide +kernel
theorem dX0_make_56 : decode cX0_make 56 = .ok (.getfield 29, 3) := by decide +kernel
theorem dX0_make_59 : decode cX0_make 59 = .ok (.lload 4, 2) := by decide +kernel
theorem dX0_make_61 : decode cX0_make 61 = .ok (.ldc2_w 53, 3) := by decide +kernel
theorem dX0_make_64 : decode cX0_make 64 = .ok (.lxor, 1) := by decide +kernel
theorem dX0_make_65 : decode cX0_make 65 = .ok (.land, 1) := by decide +kernel
theorem dX0_make_66 : decode cX0_make 66 = .ok (.lload 6, 2) := by decide +kernel
theorem dX0_make_68 : decode cX0_make 68 = .ok (.lor, 1) := by decide +kernel
theorem dX0_make_69 : decode cX0_make 69 = .ok (.putfield 29, 3) := by decide +kernel
theorem dX0_make_72 : decode cX0_make 72 = .ok (.goto 21, 3) := by decide +kernel
theorem dX0_make_75 : decode cX0_make 75 = .ok (.aload_n 0, 1) := by decide +kernel
theorem dX0_make_76 : decode cX0_make 76 = .ok (.aload_n 0, 1) := by decide +kernel
theorem dX0_make_77 : decode cX0_make 77 = .ok (.getfield 26, 3) := by decide +kernel
theorem dX0_make_80 : decode cX0_make 80 = .ok (.lload 4, 2) := by decide +kernel
theorem dX0_make_82 : decode cX0_make 82 = .ok (.ldc2_w 53, 3) := by decide +kernel
theorem dX0_make_85 : decode cX0_make 85 = .ok (.lxor, 1) := by decide +kernel
theorem dX0_make_86 : decode cX0_make 86 = .ok (.land, 1) := by decide +kernel
theorem dX0_make_87 : decode cX0_make 87 = .ok (.lload 6, 2) := by decide +kernel
theorem dX0_make_89 : decode cX0_make 89 = .ok (.lor, 1) := by decide +kernel
theorem dX0_make_90 : decode cX0_make 90 = .ok (.putfield 26, 3) := by decide +kernel
theorem dX0_make_93 : decode cX0_make 93 = .ok (.return_, 1) := by decide +kernel
theorem dX0_tearOff_0 : decode cX0_tearOff 0 = .ok (.aload_n 0, 1) := by decide +kernel
theorem dX0_tearOff_1 : decode cX0_tearOff 1 = .ok (.dup, 1) := by decide +kernel
theorem dX0_tearOff_2 : decode cX0_tearOff 2 = .ok (.getfield 22, 3) := by decide +kernel
theorem dX0_tearOff_5 : decode cX0_tearOff 5 = .ok (.lload_n 1, 1) := by decide +kernel
theorem dX0_tearOff_6 : decode cX0_tearOff 6 = .ok (.lor, 1) := by decide +kernel
theorem dX0_tearOff_7 : decode cX0_tearOff 7 = .ok (.putfield 22, 3) := by decide +kernel
theorem dX0_tearOff_10 : decode cX0_tearOff 10 = .ok (.aload_n 0, 1) := by decide +kernel
theorem dX0_tearOff_11 : decode cX0_tearOff 11 = .ok (.dup, 1) := by decide +kernel
theorem dX0_tearOff_12 : decode cX0_tearOff 12 = .ok (.getfield 26, 3) := by decide +kernel
theorem dX0_tearOff_15 : decode cX0_tearOff 15 = .ok (.aload_n 0, 1) := by decide +kernel
theorem dX0_tearOff_16 : decode cX0_tearOff 16 = .ok (.getfield 22, 3) := by decide +kernel
theorem dX0_tearOff_19 : decode cX0_tearOff 19 = .ok (.aload_n 0, 1) := by decide +kernel
theorem dX0_tearOff_20 : decode cX0_tearOff 20 = .ok (.getfield 22, 3) := by decide +kernel
theorem dX0_tearOff_23 : decode cX0_tearOff 23 = .ok (.iconst 1, 1) := by decide +kernel
theorem dX0_tearOff_24 : decode cX0_tearOff 24 = .ok (.lushr, 1) := by decide +kernel
theorem dX0_tearOff_25 : decode cX0_tearOff 25 = .ok (.lor, 1) := by decide +kernel
theorem dX0_tearOff_26 : decode cX0_tearOff 26 = .ok (.ldc2_w 53, 3) := by decide +kernel
theorem dX0_tearOff_29 : decode cX0_tearOff 29 = .ok (.lxor, 1) := by decide +kernel
theorem dX0_tearOff_30 : decode cX0_tearOff 30 = .ok (.land, 1) := by decide +kernel
theorem dX0_tearOff_31 : decode cX0_tearOff 31 = .ok (.putfield 26, 3) := by decide +kernel
theorem dX0_tearOff_34 : decode cX0_tearOff 34 = .ok (.aload_n 0, 1) := by decide +kernel
theorem dX0_tearOff_35 : decode cX0_tearOff 35 = .ok (.dup, 1) := by decide +kernel
theorem dX0_tearOff_36 : decode cX0_tearOff 36 = .ok (.getfield 29, 3) := by decide +kernel
theorem dX0_tearOff_39 : decode cX0_tearOff 39 = .ok (.aload_n 0, 1) := by decide +kernel
theorem dX0_tearOff_40 : decode cX0_tearOff 40 = .ok (.getfield 22, 3) := by decide +kernel
theorem dX0_tearOff_43 : decode cX0_tearOff 43 = .ok (.aload_n 0, 1) := by decide +kernel
theorem dX0_tearOff_44 : decode cX0_tearOff 44 = .ok (.getfield 22, 3) := by decide +kernel
theorem dX0_tearOff_47 : decode cX0_tearOff 47 = .ok (.bipush 8, 2) := by decide +kernel
theorem dX0_tearOff_49 : decode cX0_tearOff 49 = .ok (.lushr, 1) := by decide +kernel
theorem dX0_tearOff_50 : decode cX0_tearOff 50 = .ok (.lor, 1) := by decide +kernel
theorem dX0_tearOff_51 : decode cX0_tearOff 51 = .ok (.ldc2_w 53, 3) := by decide +kernel
theorem dX0_tearOff_54 : decode cX0_tearOff 54 = .ok (.lxor, 1) := by decide +kernel
theorem dX0_tearOff_55 : decode cX0_tearOff 55 = .ok (.land, 1) := by decide +kernel
theorem dX0_tearOff_56 : decode cX0_tearOff 56 = .ok (.putfield 29, 3) := by decide +kernel
theorem dX0_tearOff_59 : decode cX0_tearOff 59 = .ok (.return_, 1) := by decide +kernel
set_option maxRecDepth 20000 in
theorem ggX0_jointsThatAre_X0_isVoid : GoodIn wsX0_jointsThatAre wsX0_isVoid := goodIn_r _ [6, 7, 8, 9, 5, 10, 11, 12, 13, 14, 15, 16, 17, 18, 19, 20, 21] (by decide +kernel) (by decide +kernel)
set_option maxRecDepth 20000 in
theorem gX0_jointsThatAre_X0_isVoid : GoodIn wsX0_jointsThatAre (wsV RX0 55 RX0 yX0_isVoid wsX0_isVoid) := goodIn_app (goodIn_of _ (by decide +kernel)) ggX0_jointsThatAre_X0_isVoid
theorem dX0_jointsThatAre_0 : decode cX0_jointsThatAre 0 = .ok (.iconst 0, 1) := by decide +kernel
theorem dX0_jointsThatAre_1 : decode cX0_jointsThatAre 1 = .ok (.istore_n 2, 1) := by decide +kernel
theorem dX0_jointsThatAre_2 : decode cX0_jointsThatAre 2 = .ok (.iconst 0, 1) := by decide +kernel
theorem dX0_jointsThatAre_3 : decode cX0_jointsThatAre 3 = .ok (.istore_n 3, 1) := by decide +kernel
theorem dX0_jointsThatAre_4 : decode cX0_jointsThatAre 4 = .ok (.iload_n 3, 1) := by decide +kernel
theorem dX0_jointsThatAre_5 : decode cX0_jointsThatAre 5 = .ok (.bipush 82, 2) := by decide +kernel
theorem dX0_jointsThatAre_7 : decode cX0_jointsThatAre 7 = .ok (.if_icmp .ge 30, 3) := by decide +kernel
theorem dX0_jointsThatAre_10 : decode cX0_jointsThatAre 10 = .ok (.aload_n 0, 1) := by decide +kernel
theorem dX0_jointsThatAre_11 : decode cX0_jointsThatAre 11 = .ok (.getfield 11, 3) := by decide +kernel
theorem dX0_jointsThatAre_14 : decode cX0_jointsThatAre 14 = .ok (.iload_n 3, 1) := by decide +kernel
theorem dX0_jointsThatAre_15 : decode cX0_jointsThatAre 15 = .ok (.iaload, 1) := by decide +kernel
theorem dX0_jointsThatAre_16 : decode cX0_jointsThatAre 16 = .ok (.iload_n 1, 1) := by decide +kernel
theorem dX0_jointsThatAre_17 : decode cX0_jointsThatAre 17 = .ok (.if_icmp .ne 14, 3) := by decide +kernel
theorem dX0_jointsThatAre_20 : decode cX0_jointsThatAre 20 = .ok (.aload_n 0, 1) := by decide +kernel
theorem dX0_jointsThatAre_21 : decode cX0_jointsThatAre 21 = .ok (.iload_n 3, 1) := by decide +kernel
theorem dX0_jointsThatAre_22 : decode cX0_jointsThatAre 22 = .ok (.invokevirtual 55, 3) := by decide +kernel
theorem dX0_jointsThatAre_25 : decode cX0_jointsThatAre 25 = .ok (.ifCond .ne 6, 3) := by decide +kernel
theorem dX0_jointsThatAre_28 : decode cX0_jointsThatAre 28 = .ok (.iinc 2 1, 3) := by decide +kernel
theorem dX0_jointsThatAre_31 : decode cX0_jointsThatAre 31 = .ok (.iinc 3 1, 3) := by decide +kernel
theorem dX0_jointsThatAre_34 : decode cX0_jointsThatAre 34 = .ok (.goto (-30), 3) := by decide +kernel
theorem dX0_jointsThatAre_37 : decode cX0_jointsThatAre 37 = .ok (.iload_n 2, 1) := by decide +kernel
theorem dX0_jointsThatAre_38 : decode cX0_jointsThatAre 38 = .ok (.ireturn, 1) := by decide +kernel
set_option maxRecDepth 20000 in
theorem ggX0_holdsOn_X0_holds : GoodIn wsX0_holdsOn wsX0_holds := goodIn_r _ [5, 6, 7, 8, 9, 4, 10, 11, 12, 13, 14, 15, 16, 20, 21, 22, 23, 24] (by decide +kernel) (by decide +kernel)
set_option maxRecDepth 20000 in
theorem gX0_holdsOn_X0_holds : GoodIn wsX0_holdsOn (wsV RX0 58 RX0 yX0_holds wsX0_holds) := goodIn_app (goodIn_of _ (by decide +kernel)) ggX0_holdsOn_X0_holds
set_option maxRecDepth 20000 in
theorem ggX0_holdsOn_X0_firstCell : GoodIn wsX0_holdsOn wsX0_firstCell := goodIn_r _ [13] (by decide +kernel) (by decide +kernel)
set_option maxRecDepth 20000 in
theorem gX0_holdsOn_X0_firstCell : GoodIn wsX0_holdsOn (va_wsS RX0 32 yX0_firstCell wsX0_firstCell) := goodIn_app (goodIn_of _ (by decide +kernel)) ggX0_holdsOn_X0_firstCell
set_option maxRecDepth 20000 in
theorem ggX0_holdsOn_X0_secondCell : GoodIn wsX0_holdsOn wsX0_secondCell := goodIn_r _ [19, 11, 12, 4, 13, 8, 9, 10] (by decide +kernel) (by decide +kernel)
set_option maxRecDepth 20000 in
theorem gX0_holdsOn_X0_secondCell : GoodIn wsX0_holdsOn (va_wsS RX0 61 yX0_secondCell wsX0_secondCell) := goodIn_app (goodIn_of _ (by decide +kernel)) ggX0_holdsOn_X0_secondCell
theorem dX0_holdsOn_0 : decode cX0_holdsOn 0 = .ok (.iconst 0, 1) := by decide +kernel
theorem dX0_holdsOn_1 : decode cX0_holdsOn 1 = .ok (.istore_n 2, 1) := by decide +kernel
theorem dX0_holdsOn_2 : decode cX0_holdsOn 2 = .ok (.iconst 0, 1) := by decide +kernel
theorem dX0_holdsOn_3 : decode cX0_holdsOn 3 = .ok (.istore_n 3, 1) := by decide +kernel
theorem dX0_holdsOn_4 : decode cX0_holdsOn 4 = .ok (.iload_n 3, 1) := by decide +kernel
theorem dX0_holdsOn_5 : decode cX0_holdsOn 5 = .ok (.bipush 82, 2) := by decide +kernel
theorem dX0_holdsOn_7 : decode cX0_holdsOn 7 = .ok (.if_icmp .ge 36, 3) := by decide +kernel
theorem dX0_holdsOn_10 : decode cX0_holdsOn 10 = .ok (.aload_n 0, 1) := by decide +kernel
theorem dX0_holdsOn_11 : decode cX0_holdsOn 11 = .ok (.iload_n 3, 1) := by decide +kernel
theorem dX0_holdsOn_12 : decode cX0_holdsOn 12 = .ok (.invokevirtual 58, 3) := by decide +kernel
theorem dX0_holdsOn_15 : decode cX0_holdsOn 15 = .ok (.ifCond .eq 22, 3) := by decide +kernel
theorem dX0_holdsOn_18 : decode cX0_holdsOn 18 = .ok (.iload_n 3, 1) := by decide +kernel
theorem dX0_holdsOn_19 : decode cX0_holdsOn 19 = .ok (.invokestatic 32, 3) := by decide +kernel
theorem dX0_holdsOn_22 : decode cX0_holdsOn 22 = .ok (.iload_n 1, 1) := by decide +kernel
theorem dX0_holdsOn_23 : decode cX0_holdsOn 23 = .ok (.if_icmp .eq 11, 3) := by decide +kernel
theorem dX0_holdsOn_26 : decode cX0_holdsOn 26 = .ok (.iload_n 3, 1) := by decide +kernel
theorem dX0_holdsOn_27 : decode cX0_holdsOn 27 = .ok (.invokestatic 61, 3) := by decide +kernel
theorem dX0_holdsOn_30 : decode cX0_holdsOn 30 = .ok (.iload_n 1, 1) := by decide +kernel
theorem dX0_holdsOn_31 : decode cX0_holdsOn 31 = .ok (.if_icmp .ne 6, 3) := by decide +kernel
theorem dX0_holdsOn_34 : decode cX0_holdsOn 34 = .ok (.iinc 2 1, 3) := by decide +kernel
theorem dX0_holdsOn_37 : decode cX0_holdsOn 37 = .ok (.iinc 3 1, 3) := by decide +kernel
theorem dX0_holdsOn_40 : decode cX0_holdsOn 40 = .ok (.goto (-36), 3) := by decide +kernel
theorem dX0_holdsOn_43 : decode cX0_holdsOn 43 = .ok (.iload_n 2, 1) := by decide +kernel
theorem dX0_holdsOn_44 : decode cX0_holdsOn 44 = .ok (.ireturn, 1) := by decide +kernel
set_option maxRecDepth 20000 in
theorem ggX0_pieceOf_X0_isGone : GoodIn wsX0_pieceOf wsX0_isGone := goodIn_r _ [7, 8, 9, 10, 6, 11, 15, 16, 17, 18, 19] (by decide +kernel) (by decide +kernel)
set_option maxRecDepth 20000 in
theorem gX0_pieceOf_X0_isGone : GoodIn wsX0_pieceOf (wsV RX0 64 RX0 yX0_isGone wsX0_isGone) := goodIn_app (goodIn_of _ (by decide +kernel)) ggX0_pieceOf_X0_isGone
set_option maxRecDepth 20000 in
theorem ggX0_pieceOf_X0_spread : GoodIn wsX0_pieceOf wsX0_spread := goodIn_r _ [14] (by decide +kernel) (by decide +kernel)
set_option maxRecDepth 20000 in
theorem gX0_pieceOf_X0_spread : GoodIn wsX0_pieceOf (va_wsS RX0 67 yX0_spread wsX0_spread) := goodIn_app (goodIn_of _ (by decide +kernel)) ggX0_pieceOf_X0_spread
theorem dX0_pieceOf_0 : decode cX0_pieceOf 0 = .ok (.aload_n 0, 1) := by decide +kernel
theorem dX0_pieceOf_1 : decode cX0_pieceOf 1 = .ok (.iload_n 1, 1) := by decide +kernel
theorem dX0_pieceOf_2 : decode cX0_pieceOf 2 = .ok (.invokevirtual 64, 3) := by decide +kernel
theorem dX0_pieceOf_5 : decode cX0_pieceOf 5 = .ok (.ifCond .eq 7, 3) := by decide +kernel
theorem dX0_pieceOf_8 : decode cX0_pieceOf 8 = .ok (.lconst 0, 1) := by decide +kernel
theorem dX0_pieceOf_9 : decode cX0_pieceOf 9 = .ok (.goto 15, 3) := by decide +kernel
theorem dX0_pieceOf_12 : decode cX0_pieceOf 12 = .ok (.iload_n 1, 1) := by decide +kernel
theorem dX0_pieceOf_13 : decode cX0_pieceOf 13 = .ok (.aload_n 0, 1) := by decide +kernel
theorem dX0_pieceOf_14 : decode cX0_pieceOf 14 = .ok (.getfield 26, 3) := by decide +kernel
theorem dX0_pieceOf_17 : decode cX0_pieceOf 17 = .ok (.aload_n 0, 1) := by decide +kernel
theorem dX0_pieceOf_18 : decode cX0_pieceOf 18 = .ok (.getfield 29, 3) := by decide +kernel
theorem dX0_pieceOf_21 : decode cX0_pieceOf 21 = .ok (.invokestatic 67, 3) := by decide +kernel
theorem dX0_pieceOf_24 : decode cX0_pieceOf 24 = .ok (.lreturn, 1) := by decide +kernel
set_option maxRecDepth 20000 in
theorem ggX0_pieceIfBluffedHeld_X0_isVoid : GoodIn wsX0_pieceIfBluffedHeld wsX0_isVoid := goodIn_r _ [8, 9, 10, 11, 7, 12, 13, 14, 15, 16, 17, 18, 22, 23, 24, 25, 26] (by decide +kernel) (by decide +kernel)
set_option maxRecDepth 20000 in
theorem gX0_pieceIfBluffedHeld_X0_isVoid : GoodIn wsX0_pieceIfBluffedHeld (wsV RX0 55 RX0 yX0_isVoid wsX0_isVoid) := goodIn_app (goodIn_of _ (by decide +kernel)) ggX0_pieceIfBluffedHeld_X0_isVoid
set_option maxRecDepth 20000 in
theorem ggX0_pieceIfBluffedHeld_X0_firstCell : GoodIn wsX0_pieceIfBluffedHeld wsX0_firstCell := goodIn_r _ [15] (by decide +kernel) (by decide +kernel)
set_option maxRecDepth 20000 in
theorem gX0_pieceIfBluffedHeld_X0_firstCell : GoodIn wsX0_pieceIfBluffedHeld (va_wsS RX0 32 yX0_firstCell wsX0_firstCell) := goodIn_app (goodIn_of _ (by decide +kernel)) ggX0_pieceIfBluffedHeld_X0_firstCell
set_option maxRecDepth 20000 in
theorem ggX0_pieceIfBluffedHeld_X0_isDown : GoodIn wsX0_pieceIfBluffedHeld wsX0_isDown := goodIn_r _ [12] (by decide +kernel) (by decide +kernel)
set_option maxRecDepth 20000 in
theorem gX0_pieceIfBluffedHeld_X0_isDown : GoodIn wsX0_pieceIfBluffedHeld (va_wsS RX0 36 yX0_isDown wsX0_isDown) := goodIn_app (goodIn_of _ (by decide +kernel)) ggX0_pieceIfBluffedHeld_X0_isDown
set_option maxRecDepth 20000 in
theorem ggX0_pieceIfBluffedHeld_X0_spread : GoodIn wsX0_pieceIfBluffedHeld wsX0_spread := goodIn_r _ [21] (by decide +kernel) (by decide +kernel)
set_option maxRecDepth 20000 in
theorem gX0_pieceIfBluffedHeld_X0_spread : GoodIn wsX0_pieceIfBluffedHeld (va_wsS RX0 67 yX0_spread wsX0_spread) := goodIn_app (goodIn_of _ (by decide +kernel)) ggX0_pieceIfBluffedHeld_X0_spread
theorem dX0_pieceIfBluffedHeld_0 : decode cX0_pieceIfBluffedHeld 0 = .ok (.aload_n 0, 1) := by decide +kernel
theorem dX0_pieceIfBluffedHeld_1 : decode cX0_pieceIfBluffedHeld 1 = .ok (.getfield 26, 3) := by decide +kernel
theorem dX0_pieceIfBluffedHeld_4 : decode cX0_pieceIfBluffedHeld 4 = .ok (.lstore_n 2, 1) := by decide +kernel
theorem dX0_pieceIfBluffedHeld_5 : decode cX0_pieceIfBluffedHeld 5 = .ok (.aload_n 0, 1) := by decide +kernel
theorem dX0_pieceIfBluffedHeld_6 : decode cX0_pieceIfBluffedHeld 6 = .ok (.getfield 29, 3) := by decide +kernel
theorem dX0_pieceIfBluffedHeld_9 : decode cX0_pieceIfBluffedHeld 9 = .ok (.lstore 4, 2) := by decide +kernel
theorem dX0_pieceIfBluffedHeld_11 : decode cX0_pieceIfBluffedHeld 11 = .ok (.iconst 0, 1) := by decide +kernel
theorem dX0_pieceIfBluffedHeld_12 : decode cX0_pieceIfBluffedHeld 12 = .ok (.istore 6, 2) := by decide +kernel
theorem dX0_pieceIfBluffedHeld_14 : decode cX0_pieceIfBluffedHeld 14 = .ok (.iload 6, 2) := by decide +kernel
theorem dX0_pieceIfBluffedHeld_16 : decode cX0_pieceIfBluffedHeld 16 = .ok (.bipush 82, 2) := by decide +kernel
theorem dX0_pieceIfBluffedHeld_18 : decode cX0_pieceIfBluffedHeld 18 = .ok (.if_icmp .ge 61, 3) := by decide +kernel
theorem dX0_pieceIfBluffedHeld_21 : decode cX0_pieceIfBluffedHeld 21 = .ok (.aload_n 0, 1) := by decide +kernel
theorem dX0_pieceIfBluffedHeld_22 : decode cX0_pieceIfBluffedHeld 22 = .ok (.getfield 11, 3) := by decide +kernel
theorem dX0_pieceIfBluffedHeld_25 : decode cX0_pieceIfBluffedHeld 25 = .ok (.iload 6, 2) := by decide +kernel
theorem dX0_pieceIfBluffedHeld_27 : decode cX0_pieceIfBluffedHeld 27 = .ok (.iaload, 1) := by decide +kernel
theorem dX0_pieceIfBluffedHeld_28 : decode cX0_pieceIfBluffedHeld 28 = .ok (.iconst 3, 1) := by decide +kernel
theorem dX0_pieceIfBluffedHeld_29 : decode cX0_pieceIfBluffedHeld 29 = .ok (.if_icmp .ne 44, 3) := by decide +kernel
theorem dX0_pieceIfBluffedHeld_32 : decode cX0_pieceIfBluffedHeld 32 = .ok (.aload_n 0, 1) := by decide +kernel
theorem dX0_pieceIfBluffedHeld_33 : decode cX0_pieceIfBluffedHeld 33 = .ok (.iload 6, 2) := by decide +kernel
theorem dX0_pieceIfBluffedHeld_35 : decode cX0_pieceIfBluffedHeld 35 = .ok (.invokevirtual 55, 3) := by decide +kernel
theorem dX0_pieceIfBluffedHeld_38 : decode cX0_pieceIfBluffedHeld 38 = .ok (.ifCond .ne 35, 3) := by decide +kernel
theorem dX0_pieceIfBluffedHeld_41 : decode cX0_pieceIfBluffedHeld 41 = .ok (.lconst 1, 1) := by decide +kernel
theorem dX0_pieceIfBluffedHeld_42 : decode cX0_pieceIfBluffedHeld 42 = .ok (.iload 6, 2) := by decide +kernel
theorem dX0_pieceIfBluffedHeld_44 : decode cX0_pieceIfBluffedHeld 44 = .ok (.invokestatic 32, 3) := by decide +kernel
theorem dX0_pieceIfBluffedHeld_47 : decode cX0_pieceIfBluffedHeld 47 = .ok (.lshl, 1) := by decide +kernel
theorem dX0_pieceIfBluffedHeld_48 : decode cX0_pieceIfBluffedHeld 48 = .ok (.lstore 7, 2) := by decide +kernel
theorem dX0_pieceIfBluffedHeld_50 : decode cX0_pieceIfBluffedHeld 50 = .ok (.iload 6, 2) := by decide +kernel
theorem dX0_pieceIfBluffedHeld_52 : decode cX0_pieceIfBluffedHeld 52 = .ok (.invokestatic 36, 3) := by decide +kernel
theorem dX0_pieceIfBluffedHeld_55 : decode cX0_pieceIfBluffedHeld 55 = .ok (.ifCond .eq 13, 3) := by decide +kernel
theorem dX0_pieceIfBluffedHeld_58 : decode cX0_pieceIfBluffedHeld 58 = .ok (.lload 4, 2) := by decide +kernel
theorem dX0_pieceIfBluffedHeld_60 : decode cX0_pieceIfBluffedHeld 60 = .ok (.lload 7, 2) := by decide +kernel
theorem dX0_pieceIfBluffedHeld_62 : decode cX0_pieceIfBluffedHeld 62 = .ok (.lor, 1) := by decide +kernel
theorem dX0_pieceIfBluffedHeld_63 : decode cX0_pieceIfBluffedHeld 63 = .ok (.lstore 4, 2) := by decide +kernel
theorem dX0_pieceIfBluffedHeld_65 : decode cX0_pieceIfBluffedHeld 65 = .ok (.goto 8, 3) := by decide +kernel
theorem dX0_pieceIfBluffedHeld_68 : decode cX0_pieceIfBluffedHeld 68 = .ok (.lload_n 2, 1) := by decide +kernel
theorem dX0_pieceIfBluffedHeld_69 : decode cX0_pieceIfBluffedHeld 69 = .ok (.lload 7, 2) := by decide +kernel
theorem dX0_pieceIfBluffedHeld_71 : decode cX0_pieceIfBluffedHeld 71 = .ok (.lor, 1) := by decide +kernel
theorem dX0_pieceIfBluffedHeld_72 : decode cX0_pieceIfBluffedHeld 72 = .ok (.lstore_n 2, 1) := by decide +kernel
theorem dX0_pieceIfBluffedHeld_73 : decode cX0_pieceIfBluffedHeld 73 = .ok (.iinc 6 1, 3) := by decide +kernel
theorem dX0_pieceIfBluffedHeld_76 : decode cX0_pieceIfBluffedHeld 76 = .ok (.goto (-62), 3) := by decide +kernel
theorem dX0_pieceIfBluffedHeld_79 : decode cX0_pieceIfBluffedHeld 79 = .ok (.iload_n 1, 1) := by decide +kernel
theorem dX0_pieceIfBluffedHeld_80 : decode cX0_pieceIfBluffedHeld 80 = .ok (.lload_n 2, 1) := by decide +kernel
theorem dX0_pieceIfBluffedHeld_81 : decode cX0_pieceIfBluffedHeld 81 = .ok (.lload 4, 2) := by decide +kernel
theorem dX0_pieceIfBluffedHeld_83 : decode cX0_pieceIfBluffedHeld 83 = .ok (.invokestatic 67, 3) := by decide +kernel
theorem dX0_pieceIfBluffedHeld_86 : decode cX0_pieceIfBluffedHeld 86 = .ok (.lreturn, 1) := by decide +kernel
set_option maxRecDepth 20000 in
theorem ggX0_lowestOfPiece_X0_pieceOf : GoodIn wsX0_lowestOfPiece wsX0_pieceOf := goodIn_r _ [5, 6, 7, 8, 9, 10, 4, 11, 12, 13, 14, 15, 16, 17, 18, 19, 20, 21, 22, 23] (by decide +kernel) (by decide +kernel)
set_option maxRecDepth 20000 in
theorem gX0_lowestOfPiece_X0_pieceOf : GoodIn wsX0_lowestOfPiece (wsV RX0 71 RX0 yX0_pieceOf wsX0_pieceOf) := goodIn_app (goodIn_of _ (by decide +kernel)) ggX0_lowestOfPiece_X0_pieceOf
set_option maxRecDepth 20000 in
theorem ggX0_lowestOfPiece_X0_has : GoodIn wsX0_lowestOfPiece wsX0_has := goodIn_r _ [15] (by decide +kernel) (by decide +kernel)
set_option maxRecDepth 20000 in
theorem gX0_lowestOfPiece_X0_has : GoodIn wsX0_lowestOfPiece (va_wsS RX0 43 yX0_has wsX0_has) := goodIn_app (goodIn_of _ (by decide +kernel)) ggX0_lowestOfPiece_X0_has
theorem dX0_lowestOfPiece_0 : decode cX0_lowestOfPiece 0 = .ok (.aload_n 0, 1) := by decide +kernel
theorem dX0_lowestOfPiece_1 : decode cX0_lowestOfPiece 1 = .ok (.iload_n 1, 1) := by decide +kernel
theorem dX0_lowestOfPiece_2 : decode cX0_lowestOfPiece 2 = .ok (.invokevirtual 71, 3) := by decide +kernel
theorem dX0_lowestOfPiece_5 : decode cX0_lowestOfPiece 5 = .ok (.lstore_n 2, 1) := by decide +kernel
theorem dX0_lowestOfPiece_6 : decode cX0_lowestOfPiece 6 = .ok (.iconst 0, 1) := by decide +kernel
theorem dX0_lowestOfPiece_7 : decode cX0_lowestOfPiece 7 = .ok (.istore 4, 2) := by decide +kernel
theorem dX0_lowestOfPiece_9 : decode cX0_lowestOfPiece 9 = .ok (.iload 4, 2) := by decide +kernel
theorem dX0_lowestOfPiece_11 : decode cX0_lowestOfPiece 11 = .ok (.bipush 48, 2) := by decide +kernel
theorem dX0_lowestOfPiece_13 : decode cX0_lowestOfPiece 13 = .ok (.if_icmp .ge 21, 3) := by decide +kernel
theorem dX0_lowestOfPiece_16 : decode cX0_lowestOfPiece 16 = .ok (.lload_n 2, 1) := by decide +kernel
theorem dX0_lowestOfPiece_17 : decode cX0_lowestOfPiece 17 = .ok (.iload 4, 2) := by decide +kernel
theorem dX0_lowestOfPiece_19 : decode cX0_lowestOfPiece 19 = .ok (.invokestatic 43, 3) := by decide +kernel
theorem dX0_lowestOfPiece_22 : decode cX0_lowestOfPiece 22 = .ok (.ifCond .eq 6, 3) := by decide +kernel
theorem dX0_lowestOfPiece_25 : decode cX0_lowestOfPiece 25 = .ok (.iload 4, 2) := by decide +kernel
theorem dX0_lowestOfPiece_27 : decode cX0_lowestOfPiece 27 = .ok (.ireturn, 1) := by decide +kernel
theorem dX0_lowestOfPiece_28 : decode cX0_lowestOfPiece 28 = .ok (.iinc 4 1, 3) := by decide +kernel
theorem dX0_lowestOfPiece_31 : decode cX0_lowestOfPiece 31 = .ok (.goto (-22), 3) := by decide +kernel
theorem dX0_lowestOfPiece_34 : decode cX0_lowestOfPiece 34 = .ok (.bipush (-6), 2) := by decide +kernel
theorem dX0_lowestOfPiece_36 : decode cX0_lowestOfPiece 36 = .ok (.ireturn, 1) := by decide +kernel
set_option maxRecDepth 20000 in
theorem ggX0_pieces_X0_has : GoodIn wsX0_pieces wsX0_has := goodIn_r _ [5] (by decide +kernel) (by decide +kernel)
set_option maxRecDepth 20000 in
theorem gX0_pieces_X0_has : GoodIn wsX0_pieces (va_wsS RX0 43 yX0_has wsX0_has) := goodIn_app (goodIn_of _ (by decide +kernel)) ggX0_pieces_X0_has
set_option maxRecDepth 20000 in
theorem ggX0_pieces_X0_pieceOf : GoodIn wsX0_pieces wsX0_pieceOf := goodIn_r _ [9, 10, 11, 12, 13, 14, 4, 15, 1, 2, 3, 5, 16, 17, 18, 19, 20, 21, 22, 23] (by decide +kernel) (by decide +kernel)
set_option maxRecDepth 20000 in
theorem gX0_pieces_X0_pieceOf : GoodIn wsX0_pieces (wsV RX0 71 RX0 yX0_pieceOf wsX0_pieceOf) := goodIn_app (goodIn_of _ (by decide +kernel)) ggX0_pieces_X0_pieceOf
theorem dX0_pieces_0 : decode cX0_pieces 0 = .ok (.aload_n 0, 1) := by decide +kernel
theorem dX0_pieces_1 : decode cX0_pieces 1 = .ok (.getfield 22, 3) := by decide +kernel
theorem dX0_pieces_4 : decode cX0_pieces 4 = .ok (.lstore_n 1, 1) := by decide +kernel
theorem dX0_pieces_5 : decode cX0_pieces 5 = .ok (.iconst 0, 1) := by decide +kernel
theorem dX0_pieces_6 : decode cX0_pieces 6 = .ok (.istore_n 3, 1) := by decide +kernel
theorem dX0_pieces_7 : decode cX0_pieces 7 = .ok (.iconst 0, 1) := by decide +kernel
theorem dX0_pieces_8 : decode cX0_pieces 8 = .ok (.istore 4, 2) := by decide +kernel
theorem dX0_pieces_10 : decode cX0_pieces 10 = .ok (.iload 4, 2) := by decide +kernel
theorem dX0_pieces_12 : decode cX0_pieces 12 = .ok (.bipush 48, 2) := by decide +kernel
theorem dX0_pieces_14 : decode cX0_pieces 14 = .ok (.if_icmp .ge 30, 3) := by decide +kernel
theorem dX0_pieces_17 : decode cX0_pieces 17 = .ok (.lload_n 1, 1) := by decide +kernel
theorem dX0_pieces_18 : decode cX0_pieces 18 = .ok (.iload 4, 2) := by decide +kernel
theorem dX0_pieces_20 : decode cX0_pieces 20 = .ok (.invokestatic 43, 3) := by decide +kernel
theorem dX0_pieces_23 : decode cX0_pieces 23 = .ok (.ifCond .ne 15, 3) := by decide +kernel
theorem dX0_pieces_26 : decode cX0_pieces 26 = .ok (.lload_n 1, 1) := by decide +kernel
theorem dX0_pieces_27 : decode cX0_pieces 27 = .ok (.aload_n 0, 1) := by decide +kernel
theorem dX0_pieces_28 : decode cX0_pieces 28 = .ok (.iload 4, 2) := by decide +kernel
theorem dX0_pieces_30 : decode cX0_pieces 30 = .ok (.invokevirtual 71, 3) := by decide +kernel
theorem dX0_pieces_33 : decode cX0_pieces 33 = .ok (.lor, 1) := by decide +kernel
theorem dX0_pieces_34 : decode cX0_pieces 34 = .ok (.lstore_n 1, 1) := by decide +kernel
theorem dX0_pieces_35 : decode cX0_pieces 35 = .ok (.iinc 3 1, 3) := by decide +kernel
theorem dX0_pieces_38 : decode cX0_pieces 38 = .ok (.iinc 4 1, 3) := by decide +kernel
theorem dX0_pieces_41 : decode cX0_pieces 41 = .ok (.goto (-31), 3) := by decide +kernel
theorem dX0_pieces_44 : decode cX0_pieces 44 = .ok (.iload_n 3, 1) := by decide +kernel
theorem dX0_pieces_45 : decode cX0_pieces 45 = .ok (.ireturn, 1) := by decide +kernel
set_option maxRecDepth 20000 in
theorem ggX0_ragOf_X0_firstCell : GoodIn wsX0_ragOf wsX0_firstCell := goodIn_r _ [7] (by decide +kernel) (by decide +kernel)
set_option maxRecDepth 20000 in
theorem gX0_ragOf_X0_firstCell : GoodIn wsX0_ragOf (va_wsS RX0 32 yX0_firstCell wsX0_firstCell) := goodIn_app (goodIn_of _ (by decide +kernel)) ggX0_ragOf_X0_firstCell
set_option maxRecDepth 20000 in
theorem ggX0_ragOf_X0_isDown : GoodIn wsX0_ragOf wsX0_isDown := goodIn_r _ [10] (by decide +kernel) (by decide +kernel)
set_option maxRecDepth 20000 in
theorem gX0_ragOf_X0_isDown : GoodIn wsX0_ragOf (va_wsS RX0 36 yX0_isDown wsX0_isDown) := goodIn_app (goodIn_of _ (by decide +kernel)) ggX0_ragOf_X0_isDown
set_option maxRecDepth 20000 in
theorem ggX0_ragOf_X0_spread : GoodIn wsX0_ragOf wsX0_spread := goodIn_r _ [13] (by decide +kernel) (by decide +kernel)
set_option maxRecDepth 20000 in
theorem gX0_ragOf_X0_spread : GoodIn wsX0_ragOf (va_wsS RX0 67 yX0_spread wsX0_spread) := goodIn_app (goodIn_of _ (by decide +kernel)) ggX0_ragOf_X0_spread
set_option maxRecDepth 20000 in
theorem ggX0_ragOf_X0_secondCell : GoodIn wsX0_ragOf wsX0_secondCell := goodIn_r _ [16, 4, 5, 6, 7, 8, 9, 10] (by decide +kernel) (by decide +kernel)
set_option maxRecDepth 20000 in
theorem gX0_ragOf_X0_secondCell : GoodIn wsX0_ragOf (va_wsS RX0 61 yX0_secondCell wsX0_secondCell) := goodIn_app (goodIn_of _ (by decide +kernel)) ggX0_ragOf_X0_secondCell
set_option maxRecDepth 20000 in
theorem ggX0_ragOf_X0_has : GoodIn wsX0_ragOf wsX0_has := goodIn_r _ [19] (by decide +kernel) (by decide +kernel)
set_option maxRecDepth 20000 in
theorem gX0_ragOf_X0_has : GoodIn wsX0_ragOf (va_wsS RX0 43 yX0_has wsX0_has) := goodIn_app (goodIn_of _ (by decide +kernel)) ggX0_ragOf_X0_has
set_option maxRecDepth 20000 in
theorem ggX0_ragOf_J13_bitCount_95d88 : GoodIn wsX0_ragOf wsJ13_bitCount_95d88 := goodIn_r _ [23, 24, 25, 26] (by decide +kernel) (by decide +kernel)
set_option maxRecDepth 20000 in
theorem gX0_ragOf_J13_bitCount_95d88 : GoodIn wsX0_ragOf (va_wsS RX0 47 yJ13_bitCount_95d88 wsJ13_bitCount_95d88) := goodIn_app (goodIn_of _ (by decide +kernel)) ggX0_ragOf_J13_bitCount_95d88
theorem dX0_ragOf_0 : decode cX0_ragOf 0 = .ok (.lconst 1, 1) := by decide +kernel
theorem dX0_ragOf_1 : decode cX0_ragOf 1 = .ok (.iload_n 1, 1) := by decide +kernel
theorem dX0_ragOf_2 : decode cX0_ragOf 2 = .ok (.invokestatic 32, 3) := by decide +kernel
theorem dX0_ragOf_5 : decode cX0_ragOf 5 = .ok (.lshl, 1) := by decide +kernel
theorem dX0_ragOf_6 : decode cX0_ragOf 6 = .ok (.lstore_n 2, 1) := by decide +kernel
theorem dX0_ragOf_7 : decode cX0_ragOf 7 = .ok (.iload_n 1, 1) := by decide +kernel
theorem dX0_ragOf_8 : decode cX0_ragOf 8 = .ok (.invokestatic 36, 3) := by decide +kernel
theorem dX0_ragOf_11 : decode cX0_ragOf 11 = .ok (.ifCond .eq 10, 3) := by decide +kernel
theorem dX0_ragOf_14 : decode cX0_ragOf 14 = .ok (.aload_n 0, 1) := by decide +kernel
theorem dX0_ragOf_15 : decode cX0_ragOf 15 = .ok (.getfield 26, 3) := by decide +kernel
theorem dX0_ragOf_18 : decode cX0_ragOf 18 = .ok (.goto 13, 3) := by decide +kernel
theorem dX0_ragOf_21 : decode cX0_ragOf 21 = .ok (.aload_n 0, 1) := by decide +kernel
theorem dX0_ragOf_22 : decode cX0_ragOf 22 = .ok (.getfield 26, 3) := by decide +kernel
theorem dX0_ragOf_25 : decode cX0_ragOf 25 = .ok (.lload_n 2, 1) := by decide +kernel
theorem dX0_ragOf_26 : decode cX0_ragOf 26 = .ok (.ldc2_w 53, 3) := by decide +kernel
theorem dX0_ragOf_29 : decode cX0_ragOf 29 = .ok (.lxor, 1) := by decide +kernel
theorem dX0_ragOf_30 : decode cX0_ragOf 30 = .ok (.land, 1) := by decide +kernel
theorem dX0_ragOf_31 : decode cX0_ragOf 31 = .ok (.lstore 4, 2) := by decide +kernel
theorem dX0_ragOf_33 : decode cX0_ragOf 33 = .ok (.iload_n 1, 1) := by decide +kernel
theorem dX0_ragOf_34 : decode cX0_ragOf 34 = .ok (.invokestatic 36, 3) := by decide +kernel
theorem dX0_ragOf_37 : decode cX0_ragOf 37 = .ok (.ifCond .eq 16, 3) := by decide +kernel
theorem dX0_ragOf_40 : decode cX0_ragOf 40 = .ok (.aload_n 0, 1) := by decide +kernel
theorem dX0_ragOf_41 : decode cX0_ragOf 41 = .ok (.getfield 29, 3) := by decide +kernel
theorem dX0_ragOf_44 : decode cX0_ragOf 44 = .ok (.lload_n 2, 1) := by decide +kernel
theorem dX0_ragOf_45 : decode cX0_ragOf 45 = .ok (.ldc2_w 53, 3) := by decide +kernel
theorem dX0_ragOf_48 : decode cX0_ragOf 48 = .ok (.lxor, 1) := by decide +kernel
theorem dX0_ragOf_49 : decode cX0_ragOf 49 = .ok (.land, 1) := by decide +kernel
theorem dX0_ragOf_50 : decode cX0_ragOf 50 = .ok (.goto 7, 3) := by decide +kernel
theorem dX0_ragOf_53 : decode cX0_ragOf 53 = .ok (.aload_n 0, 1) := by decide +kernel
theorem dX0_ragOf_54 : decode cX0_ragOf 54 = .ok (.getfield 29, 3) := by decide +kernel
theorem dX0_ragOf_57 : decode cX0_ragOf 57 = .ok (.lstore 6, 2) := by decide +kernel
theorem dX0_ragOf_59 : decode cX0_ragOf 59 = .ok (.iload_n 1, 1) := by decide +kernel
theorem dX0_ragOf_60 : decode cX0_ragOf 60 = .ok (.invokestatic 32, 3) := by decide +kernel
theorem dX0_ragOf_63 : decode cX0_ragOf 63 = .ok (.lload 4, 2) := by decide +kernel
theorem dX0_ragOf_65 : decode cX0_ragOf 65 = .ok (.lload 6, 2) := by decide +kernel
theorem dX0_ragOf_67 : decode cX0_ragOf 67 = .ok (.invokestatic 67, 3) := by decide +kernel
theorem dX0_ragOf_70 : decode cX0_ragOf 70 = .ok (.lstore 8, 2) := by decide +kernel
theorem dX0_ragOf_72 : decode cX0_ragOf 72 = .ok (.lload 8, 2) := by decide +kernel
theorem dX0_ragOf_74 : decode cX0_ragOf 74 = .ok (.iload_n 1, 1) := by decide +kernel
theorem dX0_ragOf_75 : decode cX0_ragOf 75 = .ok (.invokestatic 61, 3) := by decide +kernel
theorem dX0_ragOf_78 : decode cX0_ragOf 78 = .ok (.invokestatic 43, 3) := by decide +kernel
theorem dX0_ragOf_81 : decode cX0_ragOf 81 = .ok (.ifCond .eq 5, 3) := by decide +kernel
theorem dX0_ragOf_84 : decode cX0_ragOf 84 = .ok (.lconst 0, 1) := by decide +kernel
theorem dX0_ragOf_85 : decode cX0_ragOf 85 = .ok (.lreturn, 1) := by decide +kernel
theorem dX0_ragOf_86 : decode cX0_ragOf 86 = .ok (.iload_n 1, 1) := by decide +kernel
theorem dX0_ragOf_87 : decode cX0_ragOf 87 = .ok (.invokestatic 61, 3) := by decide +kernel
theorem dX0_ragOf_90 : decode cX0_ragOf 90 = .ok (.lload 4, 2) := by decide +kernel
theorem dX0_ragOf_92 : decode cX0_ragOf 92 = .ok (.lload 6, 2) := by decide +kernel
theorem dX0_ragOf_94 : decode cX0_ragOf 94 = .ok (.invokestatic 67, 3) := by decide +kernel
theorem dX0_ragOf_97 : decode cX0_ragOf 97 = .ok (.lstore 10, 2) := by decide +kernel
theorem dX0_ragOf_99 : decode cX0_ragOf 99 = .ok (.lload 8, 2) := by decide +kernel
theorem dX0_ragOf_101 : decode cX0_ragOf 101 = .ok (.invokestatic 47, 3) := by decide +kernel
theorem dX0_ragOf_104 : decode cX0_ragOf 104 = .ok (.lload 10, 2) := by decide +kernel
theorem dX0_ragOf_106 : decode cX0_ragOf 106 = .ok (.invokestatic 47, 3) := by decide +kernel
theorem dX0_ragOf_109 : decode cX0_ragOf 109 = .ok (.if_icmp .ge 8, 3) := by decide +kernel
theorem dX0_ragOf_112 : decode cX0_ragOf 112 = .ok (.lload 8, 2) := by decide +kernel
theorem dX0_ragOf_114 : decode cX0_ragOf 114 = .ok (.goto 5, 3) := by decide +kernel
theorem dX0_ragOf_117 : decode cX0_ragOf 117 = .ok (.lload 10, 2) := by decide +kernel
theorem dX0_ragOf_119 : decode cX0_ragOf 119 = .ok (.lstore 12, 2) := by decide +kernel
theorem dX0_ragOf_121 : decode cX0_ragOf 121 = .ok (.lload 12, 2) := by decide +kernel
theorem dX0_ragOf_123 : decode cX0_ragOf 123 = .ok (.invokestatic 47, 3) := by decide +kernel
theorem dX0_ragOf_126 : decode cX0_ragOf 126 = .ok (.bipush 12, 2) := by decide +kernel
theorem dX0_ragOf_128 : decode cX0_ragOf 128 = .ok (.if_icmp .gt 8, 3) := by decide +kernel
theorem dX0_ragOf_131 : decode cX0_ragOf 131 = .ok (.lload 12, 2) := by decide +kernel
theorem dX0_ragOf_133 : decode cX0_ragOf 133 = .ok (.goto 4, 3) := by decide +kernel
theorem dX0_ragOf_136 : decode cX0_ragOf 136 = .ok (.lconst 0, 1) := by decide +kernel
theorem dX0_ragOf_137 : decode cX0_ragOf 137 = .ok (.lreturn, 1) := by decide +kernel
set_option maxRecDepth 20000 in
theorem ggX0_weakJoints_X0_holds : GoodIn wsX0_weakJoints wsX0_holds := goodIn_r _ [5, 6, 7, 8, 9, 4, 10, 11, 12, 13, 14, 15, 16, 35, 36, 37, 38, 39] (by decide +kernel) (by decide +kernel)
set_option maxRecDepth 20000 in
theorem gX0_weakJoints_X0_holds : GoodIn wsX0_weakJoints (wsV RX0 58 RX0 yX0_holds wsX0_holds) := goodIn_app (goodIn_of _ (by decide +kernel)) ggX0_weakJoints_X0_holds
set_option maxRecDepth 20000 in
theorem ggX0_weakJoints_X0_ragOf : GoodIn wsX0_weakJoints wsX0_ragOf := goodIn_r _ [20, 7, 21, 6, 11, 12, 4, 13, 8, 9, 10, 22, 23, 24, 25, 26, 27, 14, 15, 16, 28, 29, 30, 31, 32, 33, 34, 35, 36, 37, 38, 39] (by decide +kernel) (by decide +kernel)
set_option maxRecDepth 20000 in
theorem gX0_weakJoints_X0_ragOf : GoodIn wsX0_weakJoints (wsV RX0 75 RX0 yX0_ragOf wsX0_ragOf) := goodIn_app (goodIn_of _ (by decide +kernel)) ggX0_weakJoints_X0_ragOf
theorem dX0_weakJoints_0 : decode cX0_weakJoints 0 = .ok (.iconst 0, 1) := by decide +kernel
theorem dX0_weakJoints_1 : decode cX0_weakJoints 1 = .ok (.istore_n 1, 1) := by decide +kernel
theorem dX0_weakJoints_2 : decode cX0_weakJoints 2 = .ok (.iconst 0, 1) := by decide +kernel
theorem dX0_weakJoints_3 : decode cX0_weakJoints 3 = .ok (.istore_n 2, 1) := by decide +kernel
theorem dX0_weakJoints_4 : decode cX0_weakJoints 4 = .ok (.iload_n 2, 1) := by decide +kernel
theorem dX0_weakJoints_5 : decode cX0_weakJoints 5 = .ok (.bipush 82, 2) := by decide +kernel
theorem dX0_weakJoints_7 : decode cX0_weakJoints 7 = .ok (.if_icmp .ge 30, 3) := by decide +kernel
theorem dX0_weakJoints_10 : decode cX0_weakJoints 10 = .ok (.aload_n 0, 1) := by decide +kernel
theorem dX0_weakJoints_11 : decode cX0_weakJoints 11 = .ok (.iload_n 2, 1) := by decide +kernel
theorem dX0_weakJoints_12 : decode cX0_weakJoints 12 = .ok (.invokevirtual 58, 3) := by decide +kernel
theorem dX0_weakJoints_15 : decode cX0_weakJoints 15 = .ok (.ifCond .eq 16, 3) := by decide +kernel
theorem dX0_weakJoints_18 : decode cX0_weakJoints 18 = .ok (.aload_n 0, 1) := by decide +kernel
theorem dX0_weakJoints_19 : decode cX0_weakJoints 19 = .ok (.iload_n 2, 1) := by decide +kernel
theorem dX0_weakJoints_20 : decode cX0_weakJoints 20 = .ok (.invokevirtual 75, 3) := by decide +kernel
theorem dX0_weakJoints_23 : decode cX0_weakJoints 23 = .ok (.lconst 0, 1) := by decide +kernel
theorem dX0_weakJoints_24 : decode cX0_weakJoints 24 = .ok (.lcmp, 1) := by decide +kernel
theorem dX0_weakJoints_25 : decode cX0_weakJoints 25 = .ok (.ifCond .eq 6, 3) := by decide +kernel
theorem dX0_weakJoints_28 : decode cX0_weakJoints 28 = .ok (.iinc 1 1, 3) := by decide +kernel
theorem dX0_weakJoints_31 : decode cX0_weakJoints 31 = .ok (.iinc 2 1, 3) := by decide +kernel
theorem dX0_weakJoints_34 : decode cX0_weakJoints 34 = .ok (.goto (-30), 3) := by decide +kernel
theorem dX0_weakJoints_37 : decode cX0_weakJoints 37 = .ok (.iload_n 1, 1) := by decide +kernel
theorem dX0_weakJoints_38 : decode cX0_weakJoints 38 = .ok (.ireturn, 1) := by decide +kernel
theorem dX0_spread_0 : decode cX0_spread 0 = .ok (.lconst 1, 1) := by decide +kernel
theorem dX0_spread_1 : decode cX0_spread 1 = .ok (.iload_n 0, 1) := by decide +kernel
theorem dX0_spread_2 : decode cX0_spread 2 = .ok (.lshl, 1) := by decide +kernel
theorem dX0_spread_3 : decode cX0_spread 3 = .ok (.lstore 5, 2) := by decide +kernel
theorem dX0_spread_5 : decode cX0_spread 5 = .ok (.iconst 0, 1) := by decide +kernel
theorem dX0_spread_6 : decode cX0_spread 6 = .ok (.istore 7, 2) := by decide +kernel
theorem dX0_spread_8 : decode cX0_spread 8 = .ok (.iload 7, 2) := by decide +kernel
theorem dX0_spread_10 : decode cX0_spread 10 = .ok (.bipush 48, 2) := by decide +kernel
theorem dX0_spread_12 : decode cX0_spread 12 = .ok (.if_icmp .ge 66, 3) := by decide +kernel
theorem dX0_spread_15 : decode cX0_spread 15 = .ok (.lload 5, 2) := by decide +kernel
theorem dX0_spread_17 : decode cX0_spread 17 = .ok (.lload_n 1, 1) := by decide +kernel
theorem dX0_spread_18 : decode cX0_spread 18 = .ok (.land, 1) := by decide +kernel
theorem dX0_spread_19 : decode cX0_spread 19 = .ok (.iconst 1, 1) := by decide +kernel
theorem dX0_spread_20 : decode cX0_spread 20 = .ok (.lshl, 1) := by decide +kernel
theorem dX0_spread_21 : decode cX0_spread 21 = .ok (.lload 5, 2) := by decide +kernel
theorem dX0_spread_23 : decode cX0_spread 23 = .ok (.iconst 1, 1) := by decide +kernel
theorem dX0_spread_24 : decode cX0_spread 24 = .ok (.lushr, 1) := by decide +kernel
theorem dX0_spread_25 : decode cX0_spread 25 = .ok (.lload_n 1, 1) := by decide +kernel
theorem dX0_spread_26 : decode cX0_spread 26 = .ok (.land, 1) := by decide +kernel
theorem dX0_spread_27 : decode cX0_spread 27 = .ok (.lor, 1) := by decide +kernel
theorem dX0_spread_28 : decode cX0_spread 28 = .ok (.lstore 8, 2) := by decide +kernel
theorem dX0_spread_30 : decode cX0_spread 30 = .ok (.lload 5, 2) := by decide +kernel
theorem dX0_spread_32 : decode cX0_spread 32 = .ok (.lload_n 3, 1) := by decide +kernel
theorem dX0_spread_33 : decode cX0_spread 33 = .ok (.land, 1) := by decide +kernel
theorem dX0_spread_34 : decode cX0_spread 34 = .ok (.bipush 8, 2) := by decide +kernel
theorem dX0_spread_36 : decode cX0_spread 36 = .ok (.lshl, 1) := by decide +kernel
theorem dX0_spread_37 : decode cX0_spread 37 = .ok (.lload 5, 2) := by decide +kernel
theorem dX0_spread_39 : decode cX0_spread 39 = .ok (.bipush 8, 2) := by decide +kernel
theorem dX0_spread_41 : decode cX0_spread 41 = .ok (.lushr, 1) := by decide +kernel
theorem dX0_spread_42 : decode cX0_spread 42 = .ok (.lload_n 3, 1) := by decide +kernel
theorem dX0_spread_43 : decode cX0_spread 43 = .ok (.land, 1) := by decide +kernel
theorem dX0_spread_44 : decode cX0_spread 44 = .ok (.lor, 1) := by decide +kernel
theorem dX0_spread_45 : decode cX0_spread 45 = .ok (.lstore 10, 2) := by decide +kernel
theorem dX0_spread_47 : decode cX0_spread 47 = .ok (.lload 5, 2) := by decide +kernel
theorem dX0_spread_49 : decode cX0_spread 49 = .ok (.lload 8, 2) := by decide +kernel
theorem dX0_spread_51 : decode cX0_spread 51 = .ok (.lor, 1) := by decide +kernel
theorem dX0_spread_52 : decode cX0_spread 52 = .ok (.lload 10, 2) := by decide +kernel
theorem dX0_spread_54 : decode cX0_spread 54 = .ok (.lor, 1) := by decide +kernel
theorem dX0_spread_55 : decode cX0_spread 55 = .ok (.lstore 12, 2) := by decide +kernel
theorem dX0_spread_57 : decode cX0_spread 57 = .ok (.lload 12, 2) := by decide +kernel
theorem dX0_spread_59 : decode cX0_spread 59 = .ok (.lload 5, 2) := by decide +kernel
theorem dX0_spread_61 : decode cX0_spread 61 = .ok (.lcmp, 1) := by decide +kernel
theorem dX0_spread_62 : decode cX0_spread 62 = .ok (.ifCond .ne 6, 3) := by decide +kernel
theorem dX0_spread_65 : decode cX0_spread 65 = .ok (.lload 5, 2) := by decide +kernel
theorem dX0_spread_67 : decode cX0_spread 67 = .ok (.lreturn, 1) := by decide +kernel
theorem dX0_spread_68 : decode cX0_spread 68 = .ok (.lload 12, 2) := by decide +kernel
theorem dX0_spread_70 : decode cX0_spread 70 = .ok (.lstore 5, 2) := by decide +kernel
theorem dX0_spread_72 : decode cX0_spread 72 = .ok (.iinc 7 1, 3) := by decide +kernel
theorem dX0_spread_75 : decode cX0_spread 75 = .ok (.goto (-67), 3) := by decide +kernel
theorem dX0_spread_78 : decode cX0_spread 78 = .ok (.lload 5, 2) := by decide +kernel
theorem dX0_spread_80 : decode cX0_spread 80 = .ok (.lreturn, 1) := by decide +kernel
set_option maxRecDepth 20000 in
theorem ggX1_init_X0_init : GoodIn wsX1_init wsX0_init := goodIn_r _ [15, 16, 2, 3, 17, 18, 19, 20, 21, 22, 6, 23, 24, 25, 26, 27, 28, 29, 30, 31, 32, 33, 34, 35, 42, 43, 44, 45, 46] (by decide +kernel) (by decide +kernel)
set_option maxRecDepth 20000 in
theorem gX1_init_X0_init : GoodIn wsX1_init (wsX0_init) := ggX1_init_X0_init
set_option maxRecDepth 20000 in
theorem ggX1_init_X5_init : GoodIn wsX1_init wsX5_init := goodIn_r _ [38, 39, 2, 3, 17, 40, 41, 52, 53, 54, 55, 56, 57, 58, 59, 60] (by decide +kernel) (by decide +kernel)
set_option maxRecDepth 20000 in
theorem gX1_init_X5_init : GoodIn wsX1_init (wsX5_init) := ggX1_init_X5_init
theorem dX1_init_0 : decode cX1_init 0 = .ok (.aload_n 0, 1) := by decide +kernel
theorem dX1_init_1 : decode cX1_init 1 = .ok (.invokespecial 3, 3) := by decide +kernel
theorem dX1_init_4 : decode cX1_init 4 = .ok (.aload_n 0, 1) := by decide +kernel
theorem dX1_init_5 : decode cX1_init 5 = .ok (.new 9, 3) := by decide +kernel
theorem dX1_init_8 : decode cX1_init 8 = .ok (.dup, 1) := by decide +kernel
theorem dX1_init_9 : decode cX1_init 9 = .ok (.invokespecial 11, 3) := by decide +kernel
theorem dX1_init_12 : decode cX1_init 12 = .ok (.putfield 12, 3) := by decide +kernel
theorem dX1_init_15 : decode cX1_init 15 = .ok (.aload_n 0, 1) := by decide +kernel
theorem dX1_init_16 : decode cX1_init 16 = .ok (.new 18, 3) := by decide +kernel
theorem dX1_init_19 : decode cX1_init 19 = .ok (.dup, 1) := by decide +kernel
theorem dX1_init_20 : decode cX1_init 20 = .ok (.invokespecial 20, 3) := by decide +kernel
theorem dX1_init_23 : decode cX1_init 23 = .ok (.putfield 21, 3) := by decide +kernel
theorem dX1_init_26 : decode cX1_init 26 = .ok (.aload_n 0, 1) := by decide +kernel
theorem dX1_init_27 : decode cX1_init 27 = .ok (.new 18, 3) := by decide +kernel
theorem dX1_init_30 : decode cX1_init 30 = .ok (.dup, 1) := by decide +kernel
theorem dX1_init_31 : decode cX1_init 31 = .ok (.invokespecial 20, 3) := by decide +kernel
theorem dX1_init_34 : decode cX1_init 34 = .ok (.putfield 25, 3) := by decide +kernel
theorem dX1_init_37 : decode cX1_init 37 = .ok (.return_, 1) := by decide +kernel
set_option maxRecDepth 20000 in
theorem ggX1_become_X0_become : GoodIn wsX1_become wsX0_become := goodIn_r _ [10, 11, 12, 13, 14, 15, 35, 36, 37, 38, 39] (by decide +kernel) (by decide +kernel)
set_option maxRecDepth 20000 in
theorem gX1_become_X0_become : GoodIn wsX1_become (wsV RX1 28 RX0 yX0_become wsX0_become) := goodIn_app (goodIn_of _ (by decide +kernel)) ggX1_become_X0_become
set_option maxRecDepth 20000 in
theorem ggX1_become_X5_become : GoodIn wsX1_become wsX5_become := goodIn_r _ [20, 21, 22, 23, 24, 25, 26, 27, 28, 29, 40, 41, 42, 43, 44, 45, 46, 47, 48] (by decide +kernel) (by decide +kernel)
set_option maxRecDepth 20000 in
theorem gX1_become_X5_become : GoodIn wsX1_become (wsV RX1 32 RX5 yX5_become wsX5_become) := goodIn_app (goodIn_of _ (by decide +kernel)) ggX1_become_X5_become
theorem dX1_become_0 : decode cX1_become 0 = .ok (.aload_n 0, 1) := by decide +kernel
theorem dX1_become_1 : decode cX1_become 1 = .ok (.getfield 12, 3) := by decide +kernel
theorem dX1_become_4 : decode cX1_become 4 = .ok (.aload_n 1, 1) := by decide +kernel
theorem dX1_become_5 : decode cX1_become 5 = .ok (.getfield 12, 3) := by decide +kernel
theorem dX1_become_8 : decode cX1_become 8 = .ok (.invokevirtual 28, 3) := by decide +kernel
theorem dX1_become_11 : decode cX1_become 11 = .ok (.aload_n 0, 1) := by decide +kernel
theorem dX1_become_12 : decode cX1_become 12 = .ok (.getfield 21, 3) := by decide +kernel
theorem dX1_become_15 : decode cX1_become 15 = .ok (.aload_n 1, 1) := by decide +kernel
theorem dX1_become_16 : decode cX1_become 16 = .ok (.getfield 21, 3) := by decide +kernel
theorem dX1_become_19 : decode cX1_become 19 = .ok (.invokevirtual 32, 3) := by decide +kernel
theorem dX1_become_22 : decode cX1_become 22 = .ok (.aload_n 0, 1) := by decide +kernel
theorem dX1_become_23 : decode cX1_become 23 = .ok (.getfield 25, 3) := by decide +kernel
theorem dX1_become_26 : decode cX1_become 26 = .ok (.aload_n 1, 1) := by decide +kernel
theorem dX1_become_27 : decode cX1_become 27 = .ok (.getfield 25, 3) := by decide +kernel
theorem dX1_become_30 : decode cX1_become 30 = .ok (.invokevirtual 32, 3) := by decide +kernel
theorem dX1_become_33 : decode cX1_become 33 = .ok (.aload_n 0, 1) := by decide +kernel
theorem dX1_become_34 : decode cX1_become 34 = .ok (.aload_n 1, 1) := by decide +kernel
theorem dX1_become_35 : decode cX1_become 35 = .ok (.getfield 35, 3) := by decide +kernel
theorem dX1_become_38 : decode cX1_become 38 = .ok (.putfield 35, 3) := by decide +kernel
theorem dX1_become_41 : decode cX1_become 41 = .ok (.aload_n 0, 1) := by decide +kernel
theorem dX1_become_42 : decode cX1_become 42 = .ok (.aload_n 1, 1) := by decide +kernel
theorem dX1_become_43 : decode cX1_become 43 = .ok (.getfield 39, 3) := by decide +kernel
theorem dX1_become_46 : decode cX1_become 46 = .ok (.putfield 39, 3) := by decide +kernel
theorem dX1_become_49 : decode cX1_become 49 = .ok (.return_, 1) := by decide +kernel
theorem dX1_isPlayer_0 : decode cX1_isPlayer 0 = .ok (.iload_n 0, 1) := by decide +kernel
theorem dX1_isPlayer_1 : decode cX1_isPlayer 1 = .ok (.ifCond .eq 8, 3) := by decide +kernel
theorem dX1_isPlayer_4 : decode cX1_isPlayer 4 = .ok (.iload_n 0, 1) := by decide +kernel
theorem dX1_isPlayer_5 : decode cX1_isPlayer 5 = .ok (.iconst 1, 1) := by decide +kernel
theorem dX1_isPlayer_6 : decode cX1_isPlayer 6 = .ok (.if_icmp .ne 7, 3) := by decide +kernel
theorem dX1_isPlayer_9 : decode cX1_isPlayer 9 = .ok (.iconst 1, 1) := by decide +kernel
theorem dX1_isPlayer_10 : decode cX1_isPlayer 10 = .ok (.goto 4, 3) := by decide +kernel
theorem dX1_isPlayer_13 : decode cX1_isPlayer 13 = .ok (.iconst 0, 1) := by decide +kernel
theorem dX1_isPlayer_14 : decode cX1_isPlayer 14 = .ok (.ireturn, 1) := by decide +kernel
theorem dX1_tailorOf_0 : decode cX1_tailorOf 0 = .ok (.iload_n 1, 1) := by decide +kernel
theorem dX1_tailorOf_1 : decode cX1_tailorOf 1 = .ok (.ifCond .ne 10, 3) := by decide +kernel
theorem dX1_tailorOf_4 : decode cX1_tailorOf 4 = .ok (.aload_n 0, 1) := by decide +kernel
theorem dX1_tailorOf_5 : decode cX1_tailorOf 5 = .ok (.getfield 21, 3) := by decide +kernel
theorem dX1_tailorOf_8 : decode cX1_tailorOf 8 = .ok (.goto 7, 3) := by decide +kernel
theorem dX1_tailorOf_11 : decode cX1_tailorOf 11 = .ok (.aload_n 0, 1) := by decide +kernel
theorem dX1_tailorOf_12 : decode cX1_tailorOf 12 = .ok (.getfield 25, 3) := by decide +kernel
theorem dX1_tailorOf_15 : decode cX1_tailorOf 15 = .ok (.areturn, 1) := by decide +kernel
set_option maxRecDepth 20000 in
theorem ggX1_isOver_X0_cellsLeft : GoodIn wsX1_isOver wsX0_cellsLeft := goodIn_r _ [7, 8, 9, 10, 11, 12, 13, 14, 15, 21, 22, 23, 24, 25] (by decide +kernel) (by decide +kernel)
set_option maxRecDepth 20000 in
theorem gX1_isOver_X0_cellsLeft : GoodIn wsX1_isOver (wsV RX1 42 RX0 yX0_cellsLeft wsX0_cellsLeft) := goodIn_app (goodIn_of _ (by decide +kernel)) ggX1_isOver_X0_cellsLeft
theorem dX1_isOver_0 : decode cX1_isOver 0 = .ok (.aload_n 0, 1) := by decide +kernel
theorem dX1_isOver_1 : decode cX1_isOver 1 = .ok (.getfield 39, 3) := by decide +kernel
theorem dX1_isOver_4 : decode cX1_isOver 4 = .ok (.sipush 200, 3) := by decide +kernel
theorem dX1_isOver_7 : decode cX1_isOver 7 = .ok (.if_icmp .ge 15, 3) := by decide +kernel
theorem dX1_isOver_10 : decode cX1_isOver 10 = .ok (.aload_n 0, 1) := by decide +kernel
theorem dX1_isOver_11 : decode cX1_isOver 11 = .ok (.getfield 12, 3) := by decide +kernel
theorem dX1_isOver_14 : decode cX1_isOver 14 = .ok (.invokevirtual 42, 3) := by decide +kernel
theorem dX1_isOver_17 : decode cX1_isOver 17 = .ok (.bipush 13, 2) := by decide +kernel
theorem dX1_isOver_19 : decode cX1_isOver 19 = .ok (.if_icmp .ge 7, 3) := by decide +kernel
theorem dX1_isOver_22 : decode cX1_isOver 22 = .ok (.iconst 1, 1) := by decide +kernel
theorem dX1_isOver_23 : decode cX1_isOver 23 = .ok (.goto 4, 3) := by decide +kernel
theorem dX1_isOver_26 : decode cX1_isOver 26 = .ok (.iconst 0, 1) := by decide +kernel
theorem dX1_isOver_27 : decode cX1_isOver 27 = .ok (.ireturn, 1) := by decide +kernel
set_option maxRecDepth 20000 in
theorem ggX1_winner_X1_isOver : GoodIn wsX1_winner wsX1_isOver := goodIn_r _ [8, 9, 10, 11, 12, 13, 14, 15, 16, 17, 18, 19, 20, 21, 22, 23, 24, 25, 26, 27, 28, 38, 39, 40, 41, 42] (by decide +kernel) (by decide +kernel)
set_option maxRecDepth 20000 in
theorem gX1_winner_X1_isOver : GoodIn wsX1_winner (wsV RX1 46 RX1 yX1_isOver wsX1_isOver) := goodIn_app (goodIn_of _ (by decide +kernel)) ggX1_winner_X1_isOver
theorem dX1_winner_0 : decode cX1_winner 0 = .ok (.aload_n 0, 1) := by decide +kernel
theorem dX1_winner_1 : decode cX1_winner 1 = .ok (.invokevirtual 46, 3) := by decide +kernel
theorem dX1_winner_4 : decode cX1_winner 4 = .ok (.ifCond .ne 6, 3) := by decide +kernel
theorem dX1_winner_7 : decode cX1_winner 7 = .ok (.bipush (-6), 2) := by decide +kernel
theorem dX1_winner_9 : decode cX1_winner 9 = .ok (.ireturn, 1) := by decide +kernel
theorem dX1_winner_10 : decode cX1_winner 10 = .ok (.aload_n 0, 1) := by decide +kernel
theorem dX1_winner_11 : decode cX1_winner 11 = .ok (.getfield 21, 3) := by decide +kernel
theorem dX1_winner_14 : decode cX1_winner 14 = .ok (.getfield 50, 3) := by decide +kernel
theorem dX1_winner_17 : decode cX1_winner 17 = .ok (.aload_n 0, 1) := by decide +kernel
theorem dX1_winner_18 : decode cX1_winner 18 = .ok (.getfield 25, 3) := by decide +kernel
theorem dX1_winner_21 : decode cX1_winner 21 = .ok (.getfield 50, 3) := by decide +kernel
theorem dX1_winner_24 : decode cX1_winner 24 = .ok (.if_icmp .ne 5, 3) := by decide +kernel
theorem dX1_winner_27 : decode cX1_winner 27 = .ok (.iconst 2, 1) := by decide +kernel
theorem dX1_winner_28 : decode cX1_winner 28 = .ok (.ireturn, 1) := by decide +kernel
theorem dX1_winner_29 : decode cX1_winner 29 = .ok (.aload_n 0, 1) := by decide +kernel
theorem dX1_winner_30 : decode cX1_winner 30 = .ok (.getfield 21, 3) := by decide +kernel
theorem dX1_winner_33 : decode cX1_winner 33 = .ok (.getfield 50, 3) := by decide +kernel
theorem dX1_winner_36 : decode cX1_winner 36 = .ok (.aload_n 0, 1) := by decide +kernel
theorem dX1_winner_37 : decode cX1_winner 37 = .ok (.getfield 25, 3) := by decide +kernel
theorem dX1_winner_40 : decode cX1_winner 40 = .ok (.getfield 50, 3) := by decide +kernel
theorem dX1_winner_43 : decode cX1_winner 43 = .ok (.if_icmp .le 7, 3) := by decide +kernel
theorem dX1_winner_46 : decode cX1_winner 46 = .ok (.iconst 0, 1) := by decide +kernel
theorem dX1_winner_47 : decode cX1_winner 47 = .ok (.goto 4, 3) := by decide +kernel
theorem dX1_winner_50 : decode cX1_winner 50 = .ok (.iconst 1, 1) := by decide +kernel
theorem dX1_winner_51 : decode cX1_winner 51 = .ok (.ireturn, 1) := by decide +kernel
set_option maxRecDepth 20000 in
theorem ggX1_chalkersOf_X5_hasMark : GoodIn wsX1_chalkersOf wsX5_hasMark := goodIn_r _ [7, 8, 9, 15, 16, 17, 18, 19, 20, 21, 22, 23] (by decide +kernel) (by decide +kernel)
set_option maxRecDepth 20000 in
theorem gX1_chalkersOf_X5_hasMark : GoodIn wsX1_chalkersOf (wsV RX1 53 RX5 yX5_hasMark wsX5_hasMark) := goodIn_app (goodIn_of _ (by decide +kernel)) ggX1_chalkersOf_X5_hasMark
theorem dX1_chalkersOf_0 : decode cX1_chalkersOf 0 = .ok (.aload_n 0, 1) := by decide +kernel
theorem dX1_chalkersOf_1 : decode cX1_chalkersOf 1 = .ok (.getfield 21, 3) := by decide +kernel
theorem dX1_chalkersOf_4 : decode cX1_chalkersOf 4 = .ok (.iload_n 1, 1) := by decide +kernel
theorem dX1_chalkersOf_5 : decode cX1_chalkersOf 5 = .ok (.invokevirtual 53, 3) := by decide +kernel
theorem dX1_chalkersOf_8 : decode cX1_chalkersOf 8 = .ok (.ifCond .eq 7, 3) := by decide +kernel
theorem dX1_chalkersOf_11 : decode cX1_chalkersOf 11 = .ok (.iconst 1, 1) := by decide +kernel
theorem dX1_chalkersOf_12 : decode cX1_chalkersOf 12 = .ok (.goto 4, 3) := by decide +kernel
theorem dX1_chalkersOf_15 : decode cX1_chalkersOf 15 = .ok (.iconst 0, 1) := by decide +kernel
theorem dX1_chalkersOf_16 : decode cX1_chalkersOf 16 = .ok (.aload_n 0, 1) := by decide +kernel
theorem dX1_chalkersOf_17 : decode cX1_chalkersOf 17 = .ok (.getfield 25, 3) := by decide +kernel
theorem dX1_chalkersOf_20 : decode cX1_chalkersOf 20 = .ok (.iload_n 1, 1) := by decide +kernel
theorem dX1_chalkersOf_21 : decode cX1_chalkersOf 21 = .ok (.invokevirtual 53, 3) := by decide +kernel
theorem dX1_chalkersOf_24 : decode cX1_chalkersOf 24 = .ok (.ifCond .eq 7, 3) := by decide +kernel
theorem dX1_chalkersOf_27 : decode cX1_chalkersOf 27 = .ok (.iconst 2, 1) := by decide +kernel
theorem dX1_chalkersOf_28 : decode cX1_chalkersOf 28 = .ok (.goto 4, 3) := by decide +kernel
theorem dX1_chalkersOf_31 : decode cX1_chalkersOf 31 = .ok (.iconst 0, 1) := by decide +kernel
theorem dX1_chalkersOf_32 : decode cX1_chalkersOf 32 = .ok (.ior, 1) := by decide +kernel
theorem dX1_chalkersOf_33 : decode cX1_chalkersOf 33 = .ok (.ireturn, 1) := by decide +kernel
set_option maxRecDepth 20000 in
theorem ggX1_doubtableMaker_X1_isOver : GoodIn wsX1_doubtableMaker wsX1_isOver := goodIn_r _ [6, 7, 1, 8, 9, 10, 11, 12, 13, 14, 15, 16, 17, 18, 19, 20, 42, 43, 44, 45, 46, 47, 48, 49, 50, 51] (by decide +kernel) (by decide +kernel)
set_option maxRecDepth 20000 in
theorem gX1_doubtableMaker_X1_isOver : GoodIn wsX1_doubtableMaker (wsV RX1 46 RX1 yX1_isOver wsX1_isOver) := goodIn_app (goodIn_of _ (by decide +kernel)) ggX1_doubtableMaker_X1_isOver
set_option maxRecDepth 20000 in
theorem ggX1_doubtableMaker_X0_isVoid : GoodIn wsX1_doubtableMaker wsX0_isVoid := goodIn_r _ [24, 13, 25, 26, 11, 27, 28, 29, 30, 31, 32, 33, 47, 48, 49, 50, 51] (by decide +kernel) (by decide +kernel)
set_option maxRecDepth 20000 in
theorem gX1_doubtableMaker_X0_isVoid : GoodIn wsX1_doubtableMaker (wsV RX1 57 RX0 yX0_isVoid wsX0_isVoid) := goodIn_app (goodIn_of _ (by decide +kernel)) ggX1_doubtableMaker_X0_isVoid
set_option maxRecDepth 20000 in
theorem ggX1_doubtableMaker_X0_makerOf : GoodIn wsX1_doubtableMaker wsX0_makerOf := goodIn_r _ [37, 38, 39, 40, 11, 41, 47, 48, 49, 50, 51] (by decide +kernel) (by decide +kernel)
set_option maxRecDepth 20000 in
theorem gX1_doubtableMaker_X0_makerOf : GoodIn wsX1_doubtableMaker (wsV RX1 60 RX0 yX0_makerOf wsX0_makerOf) := goodIn_app (goodIn_of _ (by decide +kernel)) ggX1_doubtableMaker_X0_makerOf
theorem dX1_doubtableMaker_0 : decode cX1_doubtableMaker 0 = .ok (.aload_n 0, 1) := by decide +kernel
theorem dX1_doubtableMaker_1 : decode cX1_doubtableMaker 1 = .ok (.invokevirtual 46, 3) := by decide +kernel
theorem dX1_doubtableMaker_4 : decode cX1_doubtableMaker 4 = .ok (.ifCond .ne 14, 3) := by decide +kernel
theorem dX1_doubtableMaker_7 : decode cX1_doubtableMaker 7 = .ok (.aload_n 0, 1) := by decide +kernel
theorem dX1_doubtableMaker_8 : decode cX1_doubtableMaker 8 = .ok (.getfield 12, 3) := by decide +kernel
theorem dX1_doubtableMaker_11 : decode cX1_doubtableMaker 11 = .ok (.iload_n 1, 1) := by decide +kernel
theorem dX1_doubtableMaker_12 : decode cX1_doubtableMaker 12 = .ok (.invokevirtual 57, 3) := by decide +kernel
theorem dX1_doubtableMaker_15 : decode cX1_doubtableMaker 15 = .ok (.ifCond .eq 8, 3) := by decide +kernel
theorem dX1_doubtableMaker_18 : decode cX1_doubtableMaker 18 = .ok (.bipush (-6), 2) := by decide +kernel
theorem dX1_doubtableMaker_20 : decode cX1_doubtableMaker 20 = .ok (.goto 11, 3) := by decide +kernel
theorem dX1_doubtableMaker_23 : decode cX1_doubtableMaker 23 = .ok (.aload_n 0, 1) := by decide +kernel
theorem dX1_doubtableMaker_24 : decode cX1_doubtableMaker 24 = .ok (.getfield 12, 3) := by decide +kernel
theorem dX1_doubtableMaker_27 : decode cX1_doubtableMaker 27 = .ok (.iload_n 1, 1) := by decide +kernel
theorem dX1_doubtableMaker_28 : decode cX1_doubtableMaker 28 = .ok (.invokevirtual 60, 3) := by decide +kernel
theorem dX1_doubtableMaker_31 : decode cX1_doubtableMaker 31 = .ok (.ireturn, 1) := by decide +kernel
set_option maxRecDepth 20000 in
theorem ggX1_whyNoSnip_X1_isOver : GoodIn wsX1_whyNoSnip wsX1_isOver := goodIn_r _ [6, 7, 1, 8, 9, 10, 11, 12, 13, 14, 15, 16, 17, 18, 19, 20, 42, 43, 44, 45, 46, 47, 48, 49, 50, 51] (by decide +kernel) (by decide +kernel)
set_option maxRecDepth 20000 in
theorem gX1_whyNoSnip_X1_isOver : GoodIn wsX1_whyNoSnip (wsV RX1 46 RX1 yX1_isOver wsX1_isOver) := goodIn_app (goodIn_of _ (by decide +kernel)) ggX1_whyNoSnip_X1_isOver
set_option maxRecDepth 20000 in
theorem ggX1_whyNoSnip_X0_isVoid : GoodIn wsX1_whyNoSnip wsX0_isVoid := goodIn_r _ [24, 13, 25, 26, 11, 27, 28, 29, 30, 31, 32, 33, 47, 48, 49, 50, 51] (by decide +kernel) (by decide +kernel)
set_option maxRecDepth 20000 in
theorem gX1_whyNoSnip_X0_isVoid : GoodIn wsX1_whyNoSnip (wsV RX1 57 RX0 yX0_isVoid wsX0_isVoid) := goodIn_app (goodIn_of _ (by decide +kernel)) ggX1_whyNoSnip_X0_isVoid
set_option maxRecDepth 20000 in
theorem ggX1_whyNoSnip_X0_stateOf : GoodIn wsX1_whyNoSnip wsX0_stateOf := goodIn_r _ [37, 38, 39, 40, 11, 41, 47, 48, 49, 50, 51] (by decide +kernel) (by decide +kernel)
set_option maxRecDepth 20000 in
theorem gX1_whyNoSnip_X0_stateOf : GoodIn wsX1_whyNoSnip (wsV RX1 64 RX0 yX0_stateOf wsX0_stateOf) := goodIn_app (goodIn_of _ (by decide +kernel)) ggX1_whyNoSnip_X0_stateOf
theorem dX1_whyNoSnip_0 : decode cX1_whyNoSnip 0 = .ok (.aload_n 0, 1) := by decide +kernel
theorem dX1_whyNoSnip_1 : decode cX1_whyNoSnip 1 = .ok (.invokevirtual 46, 3) := by decide +kernel
theorem dX1_whyNoSnip_4 : decode cX1_whyNoSnip 4 = .ok (.ifCond .eq 5, 3) := by decide +kernel
theorem dX1_whyNoSnip_7 : decode cX1_whyNoSnip 7 = .ok (.iconst 1, 1) := by decide +kernel
theorem dX1_whyNoSnip_8 : decode cX1_whyNoSnip 8 = .ok (.ireturn, 1) := by decide +kernel
theorem dX1_whyNoSnip_9 : decode cX1_whyNoSnip 9 = .ok (.aload_n 0, 1) := by decide +kernel
theorem dX1_whyNoSnip_10 : decode cX1_whyNoSnip 10 = .ok (.getfield 12, 3) := by decide +kernel
theorem dX1_whyNoSnip_13 : decode cX1_whyNoSnip 13 = .ok (.iload_n 1, 1) := by decide +kernel
theorem dX1_whyNoSnip_14 : decode cX1_whyNoSnip 14 = .ok (.invokevirtual 57, 3) := by decide +kernel
theorem dX1_whyNoSnip_17 : decode cX1_whyNoSnip 17 = .ok (.ifCond .eq 5, 3) := by decide +kernel
theorem dX1_whyNoSnip_20 : decode cX1_whyNoSnip 20 = .ok (.iconst 2, 1) := by decide +kernel
theorem dX1_whyNoSnip_21 : decode cX1_whyNoSnip 21 = .ok (.ireturn, 1) := by decide +kernel
theorem dX1_whyNoSnip_22 : decode cX1_whyNoSnip 22 = .ok (.aload_n 0, 1) := by decide +kernel
theorem dX1_whyNoSnip_23 : decode cX1_whyNoSnip 23 = .ok (.getfield 12, 3) := by decide +kernel
theorem dX1_whyNoSnip_26 : decode cX1_whyNoSnip 26 = .ok (.iload_n 1, 1) := by decide +kernel
theorem dX1_whyNoSnip_27 : decode cX1_whyNoSnip 27 = .ok (.invokevirtual 64, 3) := by decide +kernel
theorem dX1_whyNoSnip_30 : decode cX1_whyNoSnip 30 = .ok (.iconst 1, 1) := by decide +kernel
theorem dX1_whyNoSnip_31 : decode cX1_whyNoSnip 31 = .ok (.if_icmp .ne 7, 3) := by decide +kernel
theorem dX1_whyNoSnip_34 : decode cX1_whyNoSnip 34 = .ok (.iconst 3, 1) := by decide +kernel
theorem dX1_whyNoSnip_35 : decode cX1_whyNoSnip 35 = .ok (.goto 4, 3) := by decide +kernel
theorem dX1_whyNoSnip_38 : decode cX1_whyNoSnip 38 = .ok (.iconst 0, 1) := by decide +kernel
theorem dX1_whyNoSnip_39 : decode cX1_whyNoSnip 39 = .ok (.ireturn, 1) := by decide +kernel
set_option maxRecDepth 20000 in
theorem ggX1_obey_X1_passOn : GoodIn wsX1_obey wsX1_passOn := goodIn_r _ [6, 7, 8, 9, 10, 5, 11, 12, 1, 13, 14, 15, 16, 17, 18, 19, 20, 21, 22, 23, 24, 25, 26, 27, 28, 29, 158, 159, 160, 161, 162, 163, 164, 165, 166, 167] (by decide +kernel) (by decide +kernel)
set_option maxRecDepth 20000 in
theorem gX1_obey_X1_passOn : GoodIn wsX1_obey (wsV RX1 67 RX1 yX1_passOn wsX1_passOn) := goodIn_app (goodIn_of _ (by decide +kernel)) ggX1_obey_X1_passOn
set_option maxRecDepth 20000 in
theorem ggX1_obey_X0_isJoint : GoodIn wsX1_obey wsX0_isJoint := goodIn_r _ [32] (by decide +kernel) (by decide +kernel)
set_option maxRecDepth 20000 in
theorem gX1_obey_X0_isJoint : GoodIn wsX1_obey (va_wsS RX1 70 yX0_isJoint wsX0_isJoint) := goodIn_app (goodIn_of _ (by decide +kernel)) ggX1_obey_X0_isJoint
set_option maxRecDepth 20000 in
theorem ggX1_obey_X1_isOver : GoodIn wsX1_obey wsX1_isOver := goodIn_r _ [11, 12, 1, 13, 14, 15, 16, 17, 18, 19, 20, 21, 22, 23, 24, 25, 158, 159, 160, 161, 162, 163, 164, 165, 166, 167] (by decide +kernel) (by decide +kernel)
set_option maxRecDepth 20000 in
theorem gX1_obey_X1_isOver : GoodIn wsX1_obey (wsV RX1 46 RX1 yX1_isOver wsX1_isOver) := goodIn_app (goodIn_of _ (by decide +kernel)) ggX1_obey_X1_isOver
set_option maxRecDepth 20000 in
theorem ggX1_obey_X0_isVoid : GoodIn wsX1_obey wsX0_isVoid := goodIn_r _ [36, 18, 37, 38, 16, 39, 40, 41, 42, 43, 44, 45, 163, 164, 165, 166, 167] (by decide +kernel) (by decide +kernel)
set_option maxRecDepth 20000 in
theorem gX1_obey_X0_isVoid : GoodIn wsX1_obey (wsV RX1 57 RX0 yX0_isVoid wsX0_isVoid) := goodIn_app (goodIn_of _ (by decide +kernel)) ggX1_obey_X0_isVoid
set_option maxRecDepth 20000 in
theorem ggX1_obey_X1_markJoint : GoodIn wsX1_obey wsX1_markJoint := goodIn_r _ [49, 7, 1, 50, 51, 52, 53, 5, 54, 55, 56, 57, 58, 59, 16, 60, 61, 62, 37, 38, 39, 40, 41, 42, 43, 44, 45, 63, 64, 65, 66, 67, 68, 69, 70, 71, 72, 73, 26, 27, 28, 29, 12, 158, 159, 160, 161, 162, 168, 169, 170, 171, 172, 173, 174, 175, 176, 163, 164, 165, 166, 167] (by decide +kernel) (by decide +kernel)
set_option maxRecDepth 20000 in
theorem gX1_obey_X1_markJoint : GoodIn wsX1_obey (wsV RX1 73 RX1 yX1_markJoint wsX1_markJoint) := goodIn_app (goodIn_of _ (by decide +kernel)) ggX1_obey_X1_markJoint
set_option maxRecDepth 20000 in
theorem ggX1_obey_X1_snipJoint : GoodIn wsX1_obey wsX1_snipJoint := goodIn_r _ [77, 1, 78, 79, 80, 5, 81, 8, 9, 10, 11, 12, 13, 14, 15, 16, 17, 18, 19, 20, 21, 22, 23, 24, 25, 33, 34, 35, 36, 37, 38, 39, 40, 41, 42, 43, 44, 45, 82, 83, 84, 85, 86, 87, 31, 32, 88, 89, 90, 91, 7, 92, 93, 51, 52, 53, 54, 55, 56, 63, 64, 65, 66, 67, 68, 69, 94, 95, 96, 97, 98, 99, 100, 101, 102, 103, 104, 105, 62, 106, 61, 107, 108, 109, 110, 111, 112, 113, 114, 115, 116, 117, 118, 119, 120, 121, 122, 123, 124, 125, 126, 127, 128, 129, 130, 131, 132, 133, 26, 27, 28, 29, 158, 159, 160, 161, 162, 163, 164, 165, 166, 167, 168, 169, 170, 171, 172, 173, 174, 175, 176] (by decide +kernel) (by decide +kernel)
set_option maxRecDepth 20000 in
theorem gX1_obey_X1_snipJoint : GoodIn wsX1_obey (wsV RX1 76 RX1 yX1_snipJoint wsX1_snipJoint) := goodIn_app (goodIn_of _ (by decide +kernel)) ggX1_obey_X1_snipJoint
set_option maxRecDepth 20000 in
theorem ggX1_obey_X1_sewJoint : GoodIn wsX1_obey wsX1_sewJoint := goodIn_r _ [137, 7, 1, 138, 51, 52, 53, 5, 54, 55, 56, 82, 83, 84, 16, 85, 86, 87, 31, 32, 113, 114, 115, 116, 117, 61, 106, 62, 40, 41, 42, 37, 38, 39, 26, 27, 28, 29, 12, 158, 159, 160, 161, 162, 168, 169, 170, 171, 172, 173, 174, 175, 176, 163, 164, 165, 166, 167] (by decide +kernel) (by decide +kernel)
set_option maxRecDepth 20000 in
theorem gX1_obey_X1_sewJoint : GoodIn wsX1_obey (wsV RX1 79 RX1 yX1_sewJoint wsX1_sewJoint) := goodIn_app (goodIn_of _ (by decide +kernel)) ggX1_obey_X1_sewJoint
set_option maxRecDepth 20000 in
theorem ggX1_obey_X1_bluffJoint : GoodIn wsX1_obey wsX1_bluffJoint := goodIn_r _ [142, 1, 7, 82, 83, 84, 16, 85, 86, 87, 31, 32, 113, 114, 115, 116, 117, 61, 106, 62, 40, 41, 42, 37, 38, 39, 26, 27, 28, 5, 29, 12, 143, 144, 145, 146, 147, 34, 35, 36, 18, 43, 44, 45, 158, 159, 160, 161, 162, 163, 164, 165, 166, 167] (by decide +kernel) (by decide +kernel)
set_option maxRecDepth 20000 in
theorem gX1_obey_X1_bluffJoint : GoodIn wsX1_obey (wsV RX1 82 RX1 yX1_bluffJoint wsX1_bluffJoint) := goodIn_app (goodIn_of _ (by decide +kernel)) ggX1_obey_X1_bluffJoint
set_option maxRecDepth 20000 in
theorem ggX1_obey_X1_doubtJoint : GoodIn wsX1_obey wsX1_doubtJoint := goodIn_r _ [151, 1, 7, 92, 152, 153, 154, 155, 156, 16, 157, 117, 87, 31, 32, 82, 83, 84, 85, 86, 51, 52, 53, 5, 54, 55, 56, 113, 114, 115, 116, 61, 106, 62, 40, 41, 42, 37, 38, 39, 26, 27, 28, 29, 12, 158, 159, 160, 161, 162, 168, 169, 170, 171, 172, 173, 174, 175, 176, 163, 164, 165, 166, 167] (by decide +kernel) (by decide +kernel)
set_option maxRecDepth 20000 in
theorem gX1_obey_X1_doubtJoint : GoodIn wsX1_obey (wsV RX1 85 RX1 yX1_doubtJoint wsX1_doubtJoint) := goodIn_app (goodIn_of _ (by decide +kernel)) ggX1_obey_X1_doubtJoint
theorem dX1_obey_0 : decode cX1_obey 0 = .ok (.iload_n 1, 1) := by decide +kernel
theorem dX1_obey_1 : decode cX1_obey 1 = .ok (.bipush 112, 2) := by decide +kernel
theorem dX1_obey_3 : decode cX1_obey 3 = .ok (.if_icmp .ne 8, 3) := by decide +kernel
theorem dX1_obey_6 : decode cX1_obey 6 = .ok (.aload_n 0, 1) := by decide +kernel
theorem dX1_obey_7 : decode cX1_obey 7 = .ok (.invokevirtual 67, 3) := by decide +kernel
theorem dX1_obey_10 : decode cX1_obey 10 = .ok (.ireturn, 1) := by decide +kernel
theorem dX1_obey_11 : decode cX1_obey 11 = .ok (.iload_n 2, 1) := by decide +kernel
theorem dX1_obey_12 : decode cX1_obey 12 = .ok (.invokestatic 70, 3) := by decide +kernel
theorem dX1_obey_15 : decode cX1_obey 15 = .ok (.ifCond .ne 5, 3) := by decide +kernel
theorem dX1_obey_18 : decode cX1_obey 18 = .ok (.iconst (-1), 1) := by decide +kernel
theorem dX1_obey_19 : decode cX1_obey 19 = .ok (.ireturn, 1) := by decide +kernel
theorem dX1_obey_20 : decode cX1_obey 20 = .ok (.aload_n 0, 1) := by decide +kernel
theorem dX1_obey_21 : decode cX1_obey 21 = .ok (.invokevirtual 46, 3) := by decide +kernel
theorem dX1_obey_24 : decode cX1_obey 24 = .ok (.ifCond .ne 14, 3) := by decide +kernel
theorem dX1_obey_27 : decode cX1_obey 27 = .ok (.aload_n 0, 1) := by decide +kernel
theorem dX1_obey_28 : decode cX1_obey 28 = .ok (.getfield 12, 3) := by decide +kernel
theorem dX1_obey_31 : decode cX1_obey 31 = .ok (.iload_n 2, 1) := by decide +kernel
theorem dX1_obey_32 : decode cX1_obey 32 = .ok (.invokevirtual 57, 3) := by decide +kernel
theorem dX1_obey_35 : decode cX1_obey 35 = .ok (.ifCond .eq 6, 3) := by decide +kernel
theorem dX1_obey_38 : decode cX1_obey 38 = .ok (.bipush (-5), 2) := by decide +kernel
theorem dX1_obey_40 : decode cX1_obey 40 = .ok (.ireturn, 1) := by decide +kernel
theorem dX1_obey_41 : decode cX1_obey 41 = .ok (.iload_n 1, 1) := by decide +kernel
theorem dX1_obey_42 : decode cX1_obey 42 = .ok (.lookupswitch 80 #[(98, 68), (99, 50), (100, 74), (115, 56), (119, 62)], 50) := by decide +kernel
theorem dX1_obey_92 : decode cX1_obey 92 = .ok (.aload_n 0, 1) := by decide +kernel
theorem dX1_obey_93 : decode cX1_obey 93 = .ok (.iload_n 2, 1) := by decide +kernel
theorem dX1_obey_94 : decode cX1_obey 94 = .ok (.invokevirtual 73, 3) := by decide +kernel
theorem dX1_obey_97 : decode cX1_obey 97 = .ok (.ireturn, 1) := by decide +kernel
theorem dX1_obey_98 : decode cX1_obey 98 = .ok (.aload_n 0, 1) := by decide +kernel
theorem dX1_obey_99 : decode cX1_obey 99 = .ok (.iload_n 2, 1) := by decide +kernel
theorem dX1_obey_100 : decode cX1_obey 100 = .ok (.invokevirtual 76, 3) := by decide +kernel
theorem dX1_obey_103 : decode cX1_obey 103 = .ok (.ireturn, 1) := by decide +kernel
theorem dX1_obey_104 : decode cX1_obey 104 = .ok (.aload_n 0, 1) := by decide +kernel
theorem dX1_obey_105 : decode cX1_obey 105 = .ok (.iload_n 2, 1) := by decide +kernel
theorem dX1_obey_106 : decode cX1_obey 106 = .ok (.invokevirtual 79, 3) := by decide +kernel
theorem dX1_obey_109 : decode cX1_obey 109 = .ok (.ireturn, 1) := by decide +kernel
theorem dX1_obey_110 : decode cX1_obey 110 = .ok (.aload_n 0, 1) := by decide +kernel
theorem dX1_obey_111 : decode cX1_obey 111 = .ok (.iload_n 2, 1) := by decide +kernel
theorem dX1_obey_112 : decode cX1_obey 112 = .ok (.invokevirtual 82, 3) := by decide +kernel
theorem dX1_obey_115 : decode cX1_obey 115 = .ok (.ireturn, 1) := by decide +kernel
theorem dX1_obey_116 : decode cX1_obey 116 = .ok (.aload_n 0, 1) := by decide +kernel
theorem dX1_obey_117 : decode cX1_obey 117 = .ok (.iload_n 2, 1) := by decide +kernel
theorem dX1_obey_118 : decode cX1_obey 118 = .ok (.invokevirtual 85, 3) := by decide +kernel
theorem dX1_obey_121 : decode cX1_obey 121 = .ok (.ireturn, 1) := by decide +kernel
theorem dX1_obey_122 : decode cX1_obey 122 = .ok (.bipush (-5), 2) := by decide +kernel
theorem dX1_obey_124 : decode cX1_obey 124 = .ok (.ireturn, 1) := by decide +kernel
theorem dX1_endTurn_0 : decode cX1_endTurn 0 = .ok (.aload_n 0, 1) := by decide +kernel
theorem dX1_endTurn_1 : decode cX1_endTurn 1 = .ok (.dup, 1) := by decide +kernel
theorem dX1_endTurn_2 : decode cX1_endTurn 2 = .ok (.getfield 39, 3) := by decide +kernel
theorem dX1_endTurn_5 : decode cX1_endTurn 5 = .ok (.iconst 1, 1) := by decide +kernel
theorem dX1_endTurn_6 : decode cX1_endTurn 6 = .ok (.iadd, 1) := by decide +kernel
theorem dX1_endTurn_7 : decode cX1_endTurn 7 = .ok (.putfield 39, 3) := by decide +kernel
theorem dX1_endTurn_10 : decode cX1_endTurn 10 = .ok (.aload_n 0, 1) := by decide +kernel
theorem dX1_endTurn_11 : decode cX1_endTurn 11 = .ok (.iconst 1, 1) := by decide +kernel
theorem dX1_endTurn_12 : decode cX1_endTurn 12 = .ok (.aload_n 0, 1) := by decide +kernel
theorem dX1_endTurn_13 : decode cX1_endTurn 13 = .ok (.getfield 35, 3) := by decide +kernel
theorem dX1_endTurn_16 : decode cX1_endTurn 16 = .ok (.isub, 1) := by decide +kernel
theorem dX1_endTurn_17 : decode cX1_endTurn 17 = .ok (.putfield 35, 3) := by decide +kernel
theorem dX1_endTurn_20 : decode cX1_endTurn 20 = .ok (.return_, 1) := by decide +kernel
set_option maxRecDepth 20000 in
theorem ggX1_passOn_X1_isOver : GoodIn wsX1_passOn wsX1_isOver := goodIn_r _ [6, 7, 8, 9, 10, 11, 12, 13, 14, 15, 16, 17, 18, 19, 20, 21, 26, 27, 28, 29, 30, 31, 32, 33, 34, 35] (by decide +kernel) (by decide +kernel)
set_option maxRecDepth 20000 in
theorem gX1_passOn_X1_isOver : GoodIn wsX1_passOn (wsV RX1 46 RX1 yX1_isOver wsX1_isOver) := goodIn_app (goodIn_of _ (by decide +kernel)) ggX1_passOn_X1_isOver
set_option maxRecDepth 20000 in
theorem ggX1_passOn_X1_endTurn : GoodIn wsX1_passOn wsX1_endTurn := goodIn_r _ [25, 7, 1, 26, 27, 28, 29, 30] (by decide +kernel) (by decide +kernel)
set_option maxRecDepth 20000 in
theorem gX1_passOn_X1_endTurn : GoodIn wsX1_passOn (wsV RX1 88 RX1 yX1_endTurn wsX1_endTurn) := goodIn_app (goodIn_of _ (by decide +kernel)) ggX1_passOn_X1_endTurn
theorem dX1_passOn_0 : decode cX1_passOn 0 = .ok (.aload_n 0, 1) := by decide +kernel
theorem dX1_passOn_1 : decode cX1_passOn 1 = .ok (.invokevirtual 46, 3) := by decide +kernel
theorem dX1_passOn_4 : decode cX1_passOn 4 = .ok (.ifCond .eq 6, 3) := by decide +kernel
theorem dX1_passOn_7 : decode cX1_passOn 7 = .ok (.bipush (-5), 2) := by decide +kernel
theorem dX1_passOn_9 : decode cX1_passOn 9 = .ok (.ireturn, 1) := by decide +kernel
theorem dX1_passOn_10 : decode cX1_passOn 10 = .ok (.aload_n 0, 1) := by decide +kernel
theorem dX1_passOn_11 : decode cX1_passOn 11 = .ok (.invokevirtual 88, 3) := by decide +kernel
theorem dX1_passOn_14 : decode cX1_passOn 14 = .ok (.aload_n 0, 1) := by decide +kernel
theorem dX1_passOn_15 : decode cX1_passOn 15 = .ok (.getfield 35, 3) := by decide +kernel
theorem dX1_passOn_18 : decode cX1_passOn 18 = .ok (.ireturn, 1) := by decide +kernel
set_option maxRecDepth 20000 in
theorem ggX1_markJoint_X1_tailorOf : GoodIn wsX1_markJoint wsX1_tailorOf := goodIn_r _ [8, 9, 10, 43, 44, 45, 46, 47] (by decide +kernel) (by decide +kernel)
set_option maxRecDepth 20000 in
theorem gX1_markJoint_X1_tailorOf : GoodIn wsX1_markJoint (wsV RX1 91 RX1 yX1_tailorOf wsX1_tailorOf) := goodIn_app (goodIn_of _ (by decide +kernel)) ggX1_markJoint_X1_tailorOf
set_option maxRecDepth 20000 in
theorem ggX1_markJoint_X0_holds : GoodIn wsX1_markJoint wsX0_holds := goodIn_r _ [15, 16, 17, 18, 19, 14, 20, 21, 22, 23, 24, 25, 26, 57, 58, 59, 60, 61] (by decide +kernel) (by decide +kernel)
set_option maxRecDepth 20000 in
theorem gX1_markJoint_X0_holds : GoodIn wsX1_markJoint (wsV RX1 95 RX0 yX0_holds wsX0_holds) := goodIn_app (goodIn_of _ (by decide +kernel)) ggX1_markJoint_X0_holds
set_option maxRecDepth 20000 in
theorem ggX1_markJoint_X5_hasMark : GoodIn wsX1_markJoint wsX5_hasMark := goodIn_r _ [31, 32, 33, 48, 49, 50, 51, 52, 53, 54, 55, 56] (by decide +kernel) (by decide +kernel)
set_option maxRecDepth 20000 in
theorem gX1_markJoint_X5_hasMark : GoodIn wsX1_markJoint (wsV RX1 53 RX5 yX5_hasMark wsX5_hasMark) := goodIn_app (goodIn_of _ (by decide +kernel)) ggX1_markJoint_X5_hasMark
set_option maxRecDepth 20000 in
theorem ggX1_markJoint_X5_addMark : GoodIn wsX1_markJoint wsX5_addMark := goodIn_r _ [37, 32, 33, 48, 49, 50, 51, 52, 53, 54, 55, 56] (by decide +kernel) (by decide +kernel)
set_option maxRecDepth 20000 in
theorem gX1_markJoint_X5_addMark : GoodIn wsX1_markJoint (wsV RX1 98 RX5 yX5_addMark wsX5_addMark) := goodIn_app (goodIn_of _ (by decide +kernel)) ggX1_markJoint_X5_addMark
set_option maxRecDepth 20000 in
theorem ggX1_markJoint_X1_endTurn : GoodIn wsX1_markJoint wsX1_endTurn := goodIn_r _ [41, 42, 1, 43, 44, 45, 46, 47] (by decide +kernel) (by decide +kernel)
set_option maxRecDepth 20000 in
theorem gX1_markJoint_X1_endTurn : GoodIn wsX1_markJoint (wsV RX1 88 RX1 yX1_endTurn wsX1_endTurn) := goodIn_app (goodIn_of _ (by decide +kernel)) ggX1_markJoint_X1_endTurn
theorem dX1_markJoint_0 : decode cX1_markJoint 0 = .ok (.aload_n 0, 1) := by decide +kernel
theorem dX1_markJoint_1 : decode cX1_markJoint 1 = .ok (.aload_n 0, 1) := by decide +kernel
theorem dX1_markJoint_2 : decode cX1_markJoint 2 = .ok (.getfield 35, 3) := by decide +kernel
theorem dX1_markJoint_5 : decode cX1_markJoint 5 = .ok (.invokevirtual 91, 3) := by decide +kernel
theorem dX1_markJoint_8 : decode cX1_markJoint 8 = .ok (.astore_n 2, 1) := by decide +kernel
theorem dX1_markJoint_9 : decode cX1_markJoint 9 = .ok (.aload_n 0, 1) := by decide +kernel
theorem dX1_markJoint_10 : decode cX1_markJoint 10 = .ok (.getfield 12, 3) := by decide +kernel
theorem dX1_markJoint_13 : decode cX1_markJoint 13 = .ok (.iload_n 1, 1) := by decide +kernel
theorem dX1_markJoint_14 : decode cX1_markJoint 14 = .ok (.invokevirtual 95, 3) := by decide +kernel
theorem dX1_markJoint_17 : decode cX1_markJoint 17 = .ok (.ifCond .eq 11, 3) := by decide +kernel
theorem dX1_markJoint_20 : decode cX1_markJoint 20 = .ok (.aload_n 2, 1) := by decide +kernel
theorem dX1_markJoint_21 : decode cX1_markJoint 21 = .ok (.iload_n 1, 1) := by decide +kernel
theorem dX1_markJoint_22 : decode cX1_markJoint 22 = .ok (.invokevirtual 53, 3) := by decide +kernel
theorem dX1_markJoint_25 : decode cX1_markJoint 25 = .ok (.ifCond .eq 6, 3) := by decide +kernel
theorem dX1_markJoint_28 : decode cX1_markJoint 28 = .ok (.bipush (-5), 2) := by decide +kernel
theorem dX1_markJoint_30 : decode cX1_markJoint 30 = .ok (.ireturn, 1) := by decide +kernel
theorem dX1_markJoint_31 : decode cX1_markJoint 31 = .ok (.aload_n 2, 1) := by decide +kernel
theorem dX1_markJoint_32 : decode cX1_markJoint 32 = .ok (.iload_n 1, 1) := by decide +kernel
theorem dX1_markJoint_33 : decode cX1_markJoint 33 = .ok (.invokevirtual 98, 3) := by decide +kernel
theorem dX1_markJoint_36 : decode cX1_markJoint 36 = .ok (.ifCond .ne 6, 3) := by decide +kernel
theorem dX1_markJoint_39 : decode cX1_markJoint 39 = .ok (.bipush (-4), 2) := by decide +kernel
theorem dX1_markJoint_41 : decode cX1_markJoint 41 = .ok (.ireturn, 1) := by decide +kernel
theorem dX1_markJoint_42 : decode cX1_markJoint 42 = .ok (.aload_n 0, 1) := by decide +kernel
theorem dX1_markJoint_43 : decode cX1_markJoint 43 = .ok (.invokevirtual 88, 3) := by decide +kernel
theorem dX1_markJoint_46 : decode cX1_markJoint 46 = .ok (.aload_n 2, 1) := by decide +kernel
theorem dX1_markJoint_47 : decode cX1_markJoint 47 = .ok (.getfield 101, 3) := by decide +kernel
theorem dX1_markJoint_50 : decode cX1_markJoint 50 = .ok (.ireturn, 1) := by decide +kernel
set_option maxRecDepth 20000 in
theorem ggX1_snipJoint_X1_whyNoSnip : GoodIn wsX1_snipJoint wsX1_whyNoSnip := goodIn_r _ [6, 1, 7, 8, 9, 5, 10, 11, 12, 13, 14, 15, 16, 17, 18, 19, 20, 21, 22, 23, 24, 25, 26, 27, 28, 29, 30, 31, 32, 33, 34, 35, 36, 37, 38, 39, 40, 41, 42, 43, 44, 45, 112, 113, 114, 115, 116, 117, 118, 119, 120, 121] (by decide +kernel) (by decide +kernel)
set_option maxRecDepth 20000 in
theorem gX1_snipJoint_X1_whyNoSnip : GoodIn wsX1_snipJoint (wsV RX1 104 RX1 yX1_whyNoSnip wsX1_whyNoSnip) := goodIn_app (goodIn_of _ (by decide +kernel)) ggX1_snipJoint_X1_whyNoSnip
set_option maxRecDepth 20000 in
theorem ggX1_snipJoint_X1_findChalk : GoodIn wsX1_snipJoint wsX1_findChalk := goodIn_r _ [49, 50, 51, 52, 53, 54, 55, 5, 56, 57, 58, 59, 60, 61, 62, 63, 64, 65, 66, 67, 68, 69, 70, 71, 72, 73, 112, 113, 114, 115, 116, 122, 123, 124, 125, 126, 127, 128, 129, 130] (by decide +kernel) (by decide +kernel)
set_option maxRecDepth 20000 in
theorem gX1_snipJoint_X1_findChalk : GoodIn wsX1_snipJoint (wsV RX1 107 RX1 yX1_findChalk wsX1_findChalk) := goodIn_app (goodIn_of _ (by decide +kernel)) ggX1_snipJoint_X1_findChalk
set_option maxRecDepth 20000 in
theorem ggX1_snipJoint_X0_ragOf : GoodIn wsX1_snipJoint wsX0_ragOf := goodIn_r _ [77, 78, 79, 80, 32, 33, 15, 34, 29, 30, 31, 81, 82, 83, 84, 85, 86, 35, 36, 37, 18, 19, 20, 21, 22, 23, 24, 117, 118, 119, 120, 121] (by decide +kernel) (by decide +kernel)
set_option maxRecDepth 20000 in
theorem gX1_snipJoint_X0_ragOf : GoodIn wsX1_snipJoint (wsV RX1 111 RX0 yX0_ragOf wsX0_ragOf) := goodIn_app (goodIn_of _ (by decide +kernel)) ggX1_snipJoint_X0_ragOf
set_option maxRecDepth 20000 in
theorem ggX1_snipJoint_X0_make : GoodIn wsX1_snipJoint wsX0_make := goodIn_r _ [90, 42, 91, 80, 79, 78, 43, 44, 15, 45, 32, 33, 34, 29, 30, 31, 117, 118, 119, 120, 121] (by decide +kernel) (by decide +kernel)
set_option maxRecDepth 20000 in
theorem gX1_snipJoint_X0_make : GoodIn wsX1_snipJoint (wsV RX1 115 RX0 yX0_make wsX0_make) := goodIn_app (goodIn_of _ (by decide +kernel)) ggX1_snipJoint_X0_make
set_option maxRecDepth 20000 in
theorem ggX1_snipJoint_X1_loseRag : GoodIn wsX1_snipJoint wsX1_loseRag := goodIn_r _ [95, 1, 50, 96, 97, 98, 15, 99, 17, 78, 79, 80, 53, 54, 55, 5, 56, 57, 58, 100, 19, 20, 21, 22, 23, 24, 101, 102, 103, 62, 104, 105, 106, 107, 25, 26, 27, 28, 29, 30, 31, 32, 33, 34, 35, 36, 37, 66, 67, 68, 69, 70, 71, 72, 73, 64, 65, 112, 113, 114, 115, 116, 117, 118, 119, 120, 121, 122, 123, 124, 125, 126, 127, 128, 129, 130] (by decide +kernel) (by decide +kernel)
set_option maxRecDepth 20000 in
theorem gX1_snipJoint_X1_loseRag : GoodIn wsX1_snipJoint (wsV RX1 119 RX1 yX1_loseRag wsX1_loseRag) := goodIn_app (goodIn_of _ (by decide +kernel)) ggX1_snipJoint_X1_loseRag
set_option maxRecDepth 20000 in
theorem ggX1_snipJoint_X1_endTurn : GoodIn wsX1_snipJoint wsX1_endTurn := goodIn_r _ [111, 11, 50, 112, 113, 114, 115, 116] (by decide +kernel) (by decide +kernel)
set_option maxRecDepth 20000 in
theorem gX1_snipJoint_X1_endTurn : GoodIn wsX1_snipJoint (wsV RX1 88 RX1 yX1_endTurn wsX1_endTurn) := goodIn_app (goodIn_of _ (by decide +kernel)) ggX1_snipJoint_X1_endTurn
set_option maxRecDepth 20000 in
theorem ggX1_snipJoint_J13_bitCount_95d88 : GoodIn wsX1_snipJoint wsJ13_bitCount_95d88 := goodIn_r _ [21, 22, 23, 24] (by decide +kernel) (by decide +kernel)
set_option maxRecDepth 20000 in
theorem gX1_snipJoint_J13_bitCount_95d88 : GoodIn wsX1_snipJoint (va_wsS RX1 123 yJ13_bitCount_95d88 wsJ13_bitCount_95d88) := goodIn_app (goodIn_of _ (by decide +kernel)) ggX1_snipJoint_J13_bitCount_95d88
theorem dX1_snipJoint_0 : decode cX1_snipJoint 0 = .ok (.aload_n 0, 1) := by decide +kernel
theorem dX1_snipJoint_1 : decode cX1_snipJoint 1 = .ok (.iload_n 1, 1) := by decide +kernel
theorem dX1_snipJoint_2 : decode cX1_snipJoint 2 = .ok (.invokevirtual 104, 3) := by decide +kernel
theorem dX1_snipJoint_5 : decode cX1_snipJoint 5 = .ok (.ifCond .eq 6, 3) := by decide +kernel
theorem dX1_snipJoint_8 : decode cX1_snipJoint 8 = .ok (.bipush (-5), 2) := by decide +kernel
theorem dX1_snipJoint_10 : decode cX1_snipJoint 10 = .ok (.ireturn, 1) := by decide +kernel
theorem dX1_snipJoint_11 : decode cX1_snipJoint 11 = .ok (.aload_n 0, 1) := by decide +kernel
theorem dX1_snipJoint_12 : decode cX1_snipJoint 12 = .ok (.iload_n 1, 1) := by decide +kernel
theorem dX1_snipJoint_13 : decode cX1_snipJoint 13 = .ok (.invokevirtual 107, 3) := by decide +kernel
theorem dX1_snipJoint_16 : decode cX1_snipJoint 16 = .ok (.aload_n 0, 1) := by decide +kernel
theorem dX1_snipJoint_17 : decode cX1_snipJoint 17 = .ok (.getfield 12, 3) := by decide +kernel
theorem dX1_snipJoint_20 : decode cX1_snipJoint 20 = .ok (.iload_n 1, 1) := by decide +kernel
theorem dX1_snipJoint_21 : decode cX1_snipJoint 21 = .ok (.invokevirtual 111, 3) := by decide +kernel
theorem dX1_snipJoint_24 : decode cX1_snipJoint 24 = .ok (.lstore_n 2, 1) := by decide +kernel
theorem dX1_snipJoint_25 : decode cX1_snipJoint 25 = .ok (.aload_n 0, 1) := by decide +kernel
theorem dX1_snipJoint_26 : decode cX1_snipJoint 26 = .ok (.getfield 12, 3) := by decide +kernel
theorem dX1_snipJoint_29 : decode cX1_snipJoint 29 = .ok (.iload_n 1, 1) := by decide +kernel
theorem dX1_snipJoint_30 : decode cX1_snipJoint 30 = .ok (.iconst 1, 1) := by decide +kernel
theorem dX1_snipJoint_31 : decode cX1_snipJoint 31 = .ok (.bipush (-6), 2) := by decide +kernel
theorem dX1_snipJoint_33 : decode cX1_snipJoint 33 = .ok (.invokevirtual 115, 3) := by decide +kernel
theorem dX1_snipJoint_36 : decode cX1_snipJoint 36 = .ok (.lload_n 2, 1) := by decide +kernel
theorem dX1_snipJoint_37 : decode cX1_snipJoint 37 = .ok (.lconst 0, 1) := by decide +kernel
theorem dX1_snipJoint_38 : decode cX1_snipJoint 38 = .ok (.lcmp, 1) := by decide +kernel
theorem dX1_snipJoint_39 : decode cX1_snipJoint 39 = .ok (.ifCond .eq 8, 3) := by decide +kernel
theorem dX1_snipJoint_42 : decode cX1_snipJoint 42 = .ok (.aload_n 0, 1) := by decide +kernel
theorem dX1_snipJoint_43 : decode cX1_snipJoint 43 = .ok (.lload_n 2, 1) := by decide +kernel
theorem dX1_snipJoint_44 : decode cX1_snipJoint 44 = .ok (.invokevirtual 119, 3) := by decide +kernel
theorem dX1_snipJoint_47 : decode cX1_snipJoint 47 = .ok (.aload_n 0, 1) := by decide +kernel
theorem dX1_snipJoint_48 : decode cX1_snipJoint 48 = .ok (.invokevirtual 88, 3) := by decide +kernel
theorem dX1_snipJoint_51 : decode cX1_snipJoint 51 = .ok (.lload_n 2, 1) := by decide +kernel
theorem dX1_snipJoint_52 : decode cX1_snipJoint 52 = .ok (.invokestatic 123, 3) := by decide +kernel
theorem dX1_snipJoint_55 : decode cX1_snipJoint 55 = .ok (.ireturn, 1) := by decide +kernel
set_option maxRecDepth 20000 in
theorem ggX1_findChalk_X1_tailorOf : GoodIn wsX1_findChalk wsX1_tailorOf := goodIn_r _ [8, 9, 10, 26, 27, 28, 29, 30] (by decide +kernel) (by decide +kernel)
set_option maxRecDepth 20000 in
theorem gX1_findChalk_X1_tailorOf : GoodIn wsX1_findChalk (wsV RX1 91 RX1 yX1_tailorOf wsX1_tailorOf) := goodIn_app (goodIn_of _ (by decide +kernel)) ggX1_findChalk_X1_tailorOf
set_option maxRecDepth 20000 in
theorem ggX1_findChalk_X5_hasMark : GoodIn wsX1_findChalk wsX5_hasMark := goodIn_r _ [15, 16, 17, 31, 32, 33, 34, 35, 36, 37, 38, 39] (by decide +kernel) (by decide +kernel)
set_option maxRecDepth 20000 in
theorem gX1_findChalk_X5_hasMark : GoodIn wsX1_findChalk (wsV RX1 53 RX5 yX5_hasMark wsX5_hasMark) := goodIn_app (goodIn_of _ (by decide +kernel)) ggX1_findChalk_X5_hasMark
set_option maxRecDepth 20000 in
theorem ggX1_findChalk_X1_dropMarks : GoodIn wsX1_findChalk wsX1_dropMarks := goodIn_r _ [21, 9, 10, 22, 23, 24, 14, 25, 16, 17, 26, 27, 28, 29, 30, 31, 32, 33, 34, 35, 36, 37, 38, 39] (by decide +kernel) (by decide +kernel)
set_option maxRecDepth 20000 in
theorem gX1_findChalk_X1_dropMarks : GoodIn wsX1_findChalk (wsV RX1 132 RX1 yX1_dropMarks wsX1_dropMarks) := goodIn_app (goodIn_of _ (by decide +kernel)) ggX1_findChalk_X1_dropMarks
theorem dX1_findChalk_0 : decode cX1_findChalk 0 = .ok (.aload_n 0, 1) := by decide +kernel
theorem dX1_findChalk_1 : decode cX1_findChalk 1 = .ok (.aload_n 0, 1) := by decide +kernel
theorem dX1_findChalk_2 : decode cX1_findChalk 2 = .ok (.getfield 35, 3) := by decide +kernel
theorem dX1_findChalk_5 : decode cX1_findChalk 5 = .ok (.invokevirtual 91, 3) := by decide +kernel
theorem dX1_findChalk_8 : decode cX1_findChalk 8 = .ok (.astore_n 2, 1) := by decide +kernel
theorem dX1_findChalk_9 : decode cX1_findChalk 9 = .ok (.aload_n 0, 1) := by decide +kernel
theorem dX1_findChalk_10 : decode cX1_findChalk 10 = .ok (.iconst 1, 1) := by decide +kernel
theorem dX1_findChalk_11 : decode cX1_findChalk 11 = .ok (.aload_n 0, 1) := by decide +kernel
theorem dX1_findChalk_12 : decode cX1_findChalk 12 = .ok (.getfield 35, 3) := by decide +kernel
theorem dX1_findChalk_15 : decode cX1_findChalk 15 = .ok (.isub, 1) := by decide +kernel
theorem dX1_findChalk_16 : decode cX1_findChalk 16 = .ok (.invokevirtual 91, 3) := by decide +kernel
theorem dX1_findChalk_19 : decode cX1_findChalk 19 = .ok (.astore_n 3, 1) := by decide +kernel
theorem dX1_findChalk_20 : decode cX1_findChalk 20 = .ok (.aload_n 3, 1) := by decide +kernel
theorem dX1_findChalk_21 : decode cX1_findChalk 21 = .ok (.iload_n 1, 1) := by decide +kernel
theorem dX1_findChalk_22 : decode cX1_findChalk 22 = .ok (.invokevirtual 53, 3) := by decide +kernel
theorem dX1_findChalk_25 : decode cX1_findChalk 25 = .ok (.ifCond .eq 23, 3) := by decide +kernel
theorem dX1_findChalk_28 : decode cX1_findChalk 28 = .ok (.aload_n 2, 1) := by decide +kernel
theorem dX1_findChalk_29 : decode cX1_findChalk 29 = .ok (.dup, 1) := by decide +kernel
theorem dX1_findChalk_30 : decode cX1_findChalk 30 = .ok (.getfield 50, 3) := by decide +kernel
theorem dX1_findChalk_33 : decode cX1_findChalk 33 = .ok (.iconst 3, 1) := by decide +kernel
theorem dX1_findChalk_34 : decode cX1_findChalk 34 = .ok (.isub, 1) := by decide +kernel
theorem dX1_findChalk_35 : decode cX1_findChalk 35 = .ok (.putfield 50, 3) := by decide +kernel
theorem dX1_findChalk_38 : decode cX1_findChalk 38 = .ok (.aload_n 2, 1) := by decide +kernel
theorem dX1_findChalk_39 : decode cX1_findChalk 39 = .ok (.dup, 1) := by decide +kernel
theorem dX1_findChalk_40 : decode cX1_findChalk 40 = .ok (.getfield 129, 3) := by decide +kernel
theorem dX1_findChalk_43 : decode cX1_findChalk 43 = .ok (.iconst 1, 1) := by decide +kernel
theorem dX1_findChalk_44 : decode cX1_findChalk 44 = .ok (.iadd, 1) := by decide +kernel
theorem dX1_findChalk_45 : decode cX1_findChalk 45 = .ok (.putfield 129, 3) := by decide +kernel
theorem dX1_findChalk_48 : decode cX1_findChalk 48 = .ok (.aload_n 2, 1) := by decide +kernel
theorem dX1_findChalk_49 : decode cX1_findChalk 49 = .ok (.iload_n 1, 1) := by decide +kernel
theorem dX1_findChalk_50 : decode cX1_findChalk 50 = .ok (.invokevirtual 53, 3) := by decide +kernel
theorem dX1_findChalk_53 : decode cX1_findChalk 53 = .ok (.ifCond .eq 13, 3) := by decide +kernel
theorem dX1_findChalk_56 : decode cX1_findChalk 56 = .ok (.aload_n 2, 1) := by decide +kernel
theorem dX1_findChalk_57 : decode cX1_findChalk 57 = .ok (.dup, 1) := by decide +kernel
theorem dX1_findChalk_58 : decode cX1_findChalk 58 = .ok (.getfield 50, 3) := by decide +kernel
theorem dX1_findChalk_61 : decode cX1_findChalk 61 = .ok (.iconst 1, 1) := by decide +kernel
theorem dX1_findChalk_62 : decode cX1_findChalk 62 = .ok (.iadd, 1) := by decide +kernel
theorem dX1_findChalk_63 : decode cX1_findChalk 63 = .ok (.putfield 50, 3) := by decide +kernel
theorem dX1_findChalk_66 : decode cX1_findChalk 66 = .ok (.aload_n 0, 1) := by decide +kernel
theorem dX1_findChalk_67 : decode cX1_findChalk 67 = .ok (.iload_n 1, 1) := by decide +kernel
theorem dX1_findChalk_68 : decode cX1_findChalk 68 = .ok (.invokevirtual 132, 3) := by decide +kernel
theorem dX1_findChalk_71 : decode cX1_findChalk 71 = .ok (.return_, 1) := by decide +kernel
set_option maxRecDepth 20000 in
theorem ggX1_dropMarks_X5_dropMark : GoodIn wsX1_dropMarks wsX5_dropMark := goodIn_r _ [7, 8, 9, 15, 16, 17, 18, 19, 20, 21, 22, 23] (by decide +kernel) (by decide +kernel)
set_option maxRecDepth 20000 in
theorem gX1_dropMarks_X5_dropMark : GoodIn wsX1_dropMarks (wsV RX1 135 RX5 yX5_dropMark wsX5_dropMark) := goodIn_app (goodIn_of _ (by decide +kernel)) ggX1_dropMarks_X5_dropMark
theorem dX1_dropMarks_0 : decode cX1_dropMarks 0 = .ok (.aload_n 0, 1) := by decide +kernel
theorem dX1_dropMarks_1 : decode cX1_dropMarks 1 = .ok (.getfield 21, 3) := by decide +kernel
theorem dX1_dropMarks_4 : decode cX1_dropMarks 4 = .ok (.iload_n 1, 1) := by decide +kernel
theorem dX1_dropMarks_5 : decode cX1_dropMarks 5 = .ok (.invokevirtual 135, 3) := by decide +kernel
theorem dX1_dropMarks_8 : decode cX1_dropMarks 8 = .ok (.aload_n 0, 1) := by decide +kernel
theorem dX1_dropMarks_9 : decode cX1_dropMarks 9 = .ok (.getfield 25, 3) := by decide +kernel
theorem dX1_dropMarks_12 : decode cX1_dropMarks 12 = .ok (.iload_n 1, 1) := by decide +kernel
theorem dX1_dropMarks_13 : decode cX1_dropMarks 13 = .ok (.invokevirtual 135, 3) := by decide +kernel
theorem dX1_dropMarks_16 : decode cX1_dropMarks 16 = .ok (.return_, 1) := by decide +kernel
set_option maxRecDepth 20000 in
theorem ggX1_loseRag_X0_tearOff : GoodIn wsX1_loseRag wsX0_tearOff := goodIn_r _ [7, 8, 9, 10, 11, 62, 63, 64, 65, 66] (by decide +kernel) (by decide +kernel)
set_option maxRecDepth 20000 in
theorem gX1_loseRag_X0_tearOff : GoodIn wsX1_loseRag (wsV RX1 138 RX0 yX0_tearOff wsX0_tearOff) := goodIn_app (goodIn_of _ (by decide +kernel)) ggX1_loseRag_X0_tearOff
set_option maxRecDepth 20000 in
theorem ggX1_loseRag_X1_tailorOf : GoodIn wsX1_loseRag wsX1_tailorOf := goodIn_r _ [16, 17, 18, 57, 58, 59, 60, 61] (by decide +kernel) (by decide +kernel)
set_option maxRecDepth 20000 in
theorem gX1_loseRag_X1_tailorOf : GoodIn wsX1_loseRag (wsV RX1 91 RX1 yX1_tailorOf wsX1_tailorOf) := goodIn_app (goodIn_of _ (by decide +kernel)) ggX1_loseRag_X1_tailorOf
set_option maxRecDepth 20000 in
theorem ggX1_loseRag_J13_bitCount_95d88 : GoodIn wsX1_loseRag wsJ13_bitCount_95d88 := goodIn_r _ [22, 23, 24, 25] (by decide +kernel) (by decide +kernel)
set_option maxRecDepth 20000 in
theorem gX1_loseRag_J13_bitCount_95d88 : GoodIn wsX1_loseRag (va_wsS RX1 123 yJ13_bitCount_95d88 wsJ13_bitCount_95d88) := goodIn_app (goodIn_of _ (by decide +kernel)) ggX1_loseRag_J13_bitCount_95d88
set_option maxRecDepth 20000 in
theorem ggX1_loseRag_X5_winRag : GoodIn wsX1_loseRag wsX5_winRag := goodIn_r _ [30, 31, 32, 33, 67, 68, 69, 70, 71, 72, 73, 74, 75] (by decide +kernel) (by decide +kernel)
set_option maxRecDepth 20000 in
theorem gX1_loseRag_X5_winRag : GoodIn wsX1_loseRag (wsV RX1 141 RX5 yX5_winRag wsX5_winRag) := goodIn_app (goodIn_of _ (by decide +kernel)) ggX1_loseRag_X5_winRag
set_option maxRecDepth 20000 in
theorem ggX1_loseRag_X0_isVoid : GoodIn wsX1_loseRag wsX0_isVoid := goodIn_r _ [37, 8, 38, 39, 6, 40, 41, 42, 43, 44, 45, 46, 62, 63, 64, 65, 66] (by decide +kernel) (by decide +kernel)
set_option maxRecDepth 20000 in
theorem gX1_loseRag_X0_isVoid : GoodIn wsX1_loseRag (wsV RX1 57 RX0 yX0_isVoid wsX0_isVoid) := goodIn_app (goodIn_of _ (by decide +kernel)) ggX1_loseRag_X0_isVoid
set_option maxRecDepth 20000 in
theorem ggX1_loseRag_X1_dropMarks : GoodIn wsX1_loseRag wsX1_dropMarks := goodIn_r _ [50, 17, 18, 51, 52, 53, 29, 54, 55, 56, 57, 58, 59, 60, 61, 67, 68, 69, 70, 71, 72, 73, 74, 75] (by decide +kernel) (by decide +kernel)
set_option maxRecDepth 20000 in
theorem gX1_loseRag_X1_dropMarks : GoodIn wsX1_loseRag (wsV RX1 132 RX1 yX1_dropMarks wsX1_dropMarks) := goodIn_app (goodIn_of _ (by decide +kernel)) ggX1_loseRag_X1_dropMarks
theorem dX1_loseRag_0 : decode cX1_loseRag 0 = .ok (.aload_n 0, 1) := by decide +kernel
theorem dX1_loseRag_1 : decode cX1_loseRag 1 = .ok (.getfield 12, 3) := by decide +kernel
theorem dX1_loseRag_4 : decode cX1_loseRag 4 = .ok (.lload_n 1, 1) := by decide +kernel
theorem dX1_loseRag_5 : decode cX1_loseRag 5 = .ok (.invokevirtual 138, 3) := by decide +kernel
theorem dX1_loseRag_8 : decode cX1_loseRag 8 = .ok (.aload_n 0, 1) := by decide +kernel
theorem dX1_loseRag_9 : decode cX1_loseRag 9 = .ok (.aload_n 0, 1) := by decide +kernel
theorem dX1_loseRag_10 : decode cX1_loseRag 10 = .ok (.getfield 35, 3) := by decide +kernel
theorem dX1_loseRag_13 : decode cX1_loseRag 13 = .ok (.invokevirtual 91, 3) := by decide +kernel
theorem dX1_loseRag_16 : decode cX1_loseRag 16 = .ok (.lload_n 1, 1) := by decide +kernel
theorem dX1_loseRag_17 : decode cX1_loseRag 17 = .ok (.invokestatic 123, 3) := by decide +kernel
theorem dX1_loseRag_20 : decode cX1_loseRag 20 = .ok (.invokevirtual 141, 3) := by decide +kernel
theorem dX1_loseRag_23 : decode cX1_loseRag 23 = .ok (.iconst 0, 1) := by decide +kernel
theorem dX1_loseRag_24 : decode cX1_loseRag 24 = .ok (.istore_n 3, 1) := by decide +kernel
theorem dX1_loseRag_25 : decode cX1_loseRag 25 = .ok (.iload_n 3, 1) := by decide +kernel
theorem dX1_loseRag_26 : decode cX1_loseRag 26 = .ok (.bipush 82, 2) := by decide +kernel
theorem dX1_loseRag_28 : decode cX1_loseRag 28 = .ok (.if_icmp .ge 25, 3) := by decide +kernel
theorem dX1_loseRag_31 : decode cX1_loseRag 31 = .ok (.aload_n 0, 1) := by decide +kernel
theorem dX1_loseRag_32 : decode cX1_loseRag 32 = .ok (.getfield 12, 3) := by decide +kernel
theorem dX1_loseRag_35 : decode cX1_loseRag 35 = .ok (.iload_n 3, 1) := by decide +kernel
theorem dX1_loseRag_36 : decode cX1_loseRag 36 = .ok (.invokevirtual 57, 3) := by decide +kernel
theorem dX1_loseRag_39 : decode cX1_loseRag 39 = .ok (.ifCond .eq 8, 3) := by decide +kernel
theorem dX1_loseRag_42 : decode cX1_loseRag 42 = .ok (.aload_n 0, 1) := by decide +kernel
theorem dX1_loseRag_43 : decode cX1_loseRag 43 = .ok (.iload_n 3, 1) := by decide +kernel
theorem dX1_loseRag_44 : decode cX1_loseRag 44 = .ok (.invokevirtual 132, 3) := by decide +kernel
theorem dX1_loseRag_47 : decode cX1_loseRag 47 = .ok (.iinc 3 1, 3) := by decide +kernel
theorem dX1_loseRag_50 : decode cX1_loseRag 50 = .ok (.goto (-25), 3) := by decide +kernel
theorem dX1_loseRag_53 : decode cX1_loseRag 53 = .ok (.return_, 1) := by decide +kernel
set_option maxRecDepth 20000 in
theorem ggX1_sewJoint_X1_tailorOf : GoodIn wsX1_sewJoint wsX1_tailorOf := goodIn_r _ [8, 9, 10, 39, 40, 41, 42, 43] (by decide +kernel) (by decide +kernel)
set_option maxRecDepth 20000 in
theorem gX1_sewJoint_X1_tailorOf : GoodIn wsX1_sewJoint (wsV RX1 91 RX1 yX1_tailorOf wsX1_tailorOf) := goodIn_app (goodIn_of _ (by decide +kernel)) ggX1_sewJoint_X1_tailorOf
set_option maxRecDepth 20000 in
theorem ggX1_sewJoint_X0_stateOf : GoodIn wsX1_sewJoint wsX0_stateOf := goodIn_r _ [15, 16, 17, 18, 14, 19, 53, 54, 55, 56, 57] (by decide +kernel) (by decide +kernel)
set_option maxRecDepth 20000 in
theorem gX1_sewJoint_X0_stateOf : GoodIn wsX1_sewJoint (wsV RX1 64 RX0 yX0_stateOf wsX0_stateOf) := goodIn_app (goodIn_of _ (by decide +kernel)) ggX1_sewJoint_X0_stateOf
set_option maxRecDepth 20000 in
theorem ggX1_sewJoint_X0_make : GoodIn wsX1_sewJoint wsX0_make := goodIn_r _ [23, 16, 24, 25, 26, 27, 17, 18, 14, 19, 28, 29, 30, 31, 32, 33, 53, 54, 55, 56, 57] (by decide +kernel) (by decide +kernel)
set_option maxRecDepth 20000 in
theorem gX1_sewJoint_X0_make : GoodIn wsX1_sewJoint (wsV RX1 115 RX0 yX0_make wsX0_make) := goodIn_app (goodIn_of _ (by decide +kernel)) ggX1_sewJoint_X0_make
set_option maxRecDepth 20000 in
theorem ggX1_sewJoint_X1_endTurn : GoodIn wsX1_sewJoint wsX1_endTurn := goodIn_r _ [37, 38, 1, 39, 40, 41, 42, 43] (by decide +kernel) (by decide +kernel)
set_option maxRecDepth 20000 in
theorem gX1_sewJoint_X1_endTurn : GoodIn wsX1_sewJoint (wsV RX1 88 RX1 yX1_endTurn wsX1_endTurn) := goodIn_app (goodIn_of _ (by decide +kernel)) ggX1_sewJoint_X1_endTurn
theorem dX1_sewJoint_0 : decode cX1_sewJoint 0 = .ok (.aload_n 0, 1) := by decide +kernel
theorem dX1_sewJoint_1 : decode cX1_sewJoint 1 = .ok (.aload_n 0, 1) := by decide +kernel
theorem dX1_sewJoint_2 : decode cX1_sewJoint 2 = .ok (.getfield 35, 3) := by decide +kernel
theorem dX1_sewJoint_5 : decode cX1_sewJoint 5 = .ok (.invokevirtual 91, 3) := by decide +kernel
theorem dX1_sewJoint_8 : decode cX1_sewJoint 8 = .ok (.astore_n 2, 1) := by decide +kernel
theorem dX1_sewJoint_9 : decode cX1_sewJoint 9 = .ok (.aload_n 0, 1) := by decide +kernel
theorem dX1_sewJoint_10 : decode cX1_sewJoint 10 = .ok (.getfield 12, 3) := by decide +kernel
theorem dX1_sewJoint_13 : decode cX1_sewJoint 13 = .ok (.iload_n 1, 1) := by decide +kernel
theorem dX1_sewJoint_14 : decode cX1_sewJoint 14 = .ok (.invokevirtual 64, 3) := by decide +kernel
theorem dX1_sewJoint_17 : decode cX1_sewJoint 17 = .ok (.iconst 1, 1) := by decide +kernel
theorem dX1_sewJoint_18 : decode cX1_sewJoint 18 = .ok (.if_icmp .ne 10, 3) := by decide +kernel
theorem dX1_sewJoint_21 : decode cX1_sewJoint 21 = .ok (.aload_n 2, 1) := by decide +kernel
theorem dX1_sewJoint_22 : decode cX1_sewJoint 22 = .ok (.getfield 144, 3) := by decide +kernel
theorem dX1_sewJoint_25 : decode cX1_sewJoint 25 = .ok (.ifCond .ne 6, 3) := by decide +kernel
theorem dX1_sewJoint_28 : decode cX1_sewJoint 28 = .ok (.bipush (-5), 2) := by decide +kernel
theorem dX1_sewJoint_30 : decode cX1_sewJoint 30 = .ok (.ireturn, 1) := by decide +kernel
theorem dX1_sewJoint_31 : decode cX1_sewJoint 31 = .ok (.aload_n 2, 1) := by decide +kernel
theorem dX1_sewJoint_32 : decode cX1_sewJoint 32 = .ok (.dup, 1) := by decide +kernel
theorem dX1_sewJoint_33 : decode cX1_sewJoint 33 = .ok (.getfield 144, 3) := by decide +kernel
theorem dX1_sewJoint_36 : decode cX1_sewJoint 36 = .ok (.iconst 1, 1) := by decide +kernel
theorem dX1_sewJoint_37 : decode cX1_sewJoint 37 = .ok (.isub, 1) := by decide +kernel
theorem dX1_sewJoint_38 : decode cX1_sewJoint 38 = .ok (.putfield 144, 3) := by decide +kernel
theorem dX1_sewJoint_41 : decode cX1_sewJoint 41 = .ok (.aload_n 0, 1) := by decide +kernel
theorem dX1_sewJoint_42 : decode cX1_sewJoint 42 = .ok (.getfield 12, 3) := by decide +kernel
theorem dX1_sewJoint_45 : decode cX1_sewJoint 45 = .ok (.iload_n 1, 1) := by decide +kernel
theorem dX1_sewJoint_46 : decode cX1_sewJoint 46 = .ok (.iconst 2, 1) := by decide +kernel
theorem dX1_sewJoint_47 : decode cX1_sewJoint 47 = .ok (.aload_n 0, 1) := by decide +kernel
theorem dX1_sewJoint_48 : decode cX1_sewJoint 48 = .ok (.getfield 35, 3) := by decide +kernel
theorem dX1_sewJoint_51 : decode cX1_sewJoint 51 = .ok (.invokevirtual 115, 3) := by decide +kernel
theorem dX1_sewJoint_54 : decode cX1_sewJoint 54 = .ok (.aload_n 0, 1) := by decide +kernel
theorem dX1_sewJoint_55 : decode cX1_sewJoint 55 = .ok (.invokevirtual 88, 3) := by decide +kernel
theorem dX1_sewJoint_58 : decode cX1_sewJoint 58 = .ok (.aload_n 2, 1) := by decide +kernel
theorem dX1_sewJoint_59 : decode cX1_sewJoint 59 = .ok (.getfield 144, 3) := by decide +kernel
theorem dX1_sewJoint_62 : decode cX1_sewJoint 62 = .ok (.ireturn, 1) := by decide +kernel
set_option maxRecDepth 20000 in
theorem ggX1_bluffJoint_X0_stateOf : GoodIn wsX1_bluffJoint wsX0_stateOf := goodIn_r _ [7, 8, 9, 10, 6, 11, 49, 50, 51, 52, 53] (by decide +kernel) (by decide +kernel)
set_option maxRecDepth 20000 in
theorem gX1_bluffJoint_X0_stateOf : GoodIn wsX1_bluffJoint (wsV RX1 64 RX0 yX0_stateOf wsX0_stateOf) := goodIn_app (goodIn_of _ (by decide +kernel)) ggX1_bluffJoint_X0_stateOf
set_option maxRecDepth 20000 in
theorem ggX1_bluffJoint_X0_make : GoodIn wsX1_bluffJoint wsX0_make := goodIn_r _ [15, 8, 16, 17, 18, 19, 9, 10, 6, 11, 20, 21, 22, 23, 24, 25, 49, 50, 51, 52, 53] (by decide +kernel) (by decide +kernel)
set_option maxRecDepth 20000 in
theorem gX1_bluffJoint_X0_make : GoodIn wsX1_bluffJoint (wsV RX1 115 RX0 yX0_make wsX0_make) := goodIn_app (goodIn_of _ (by decide +kernel)) ggX1_bluffJoint_X0_make
set_option maxRecDepth 20000 in
theorem ggX1_bluffJoint_X1_endTurn : GoodIn wsX1_bluffJoint wsX1_endTurn := goodIn_r _ [30, 31, 2, 44, 45, 46, 47, 48] (by decide +kernel) (by decide +kernel)
set_option maxRecDepth 20000 in
theorem gX1_bluffJoint_X1_endTurn : GoodIn wsX1_bluffJoint (wsV RX1 88 RX1 yX1_endTurn wsX1_endTurn) := goodIn_app (goodIn_of _ (by decide +kernel)) ggX1_bluffJoint_X1_endTurn
set_option maxRecDepth 20000 in
theorem ggX1_bluffJoint_X0_jointsThatAre : GoodIn wsX1_bluffJoint wsX0_jointsThatAre := goodIn_r _ [35, 8, 36, 37, 38, 6, 39, 40, 23, 24, 25, 20, 21, 22, 41, 42, 43, 49, 50, 51, 52, 53] (by decide +kernel) (by decide +kernel)
set_option maxRecDepth 20000 in
theorem gX1_bluffJoint_X0_jointsThatAre : GoodIn wsX1_bluffJoint (wsV RX1 147 RX0 yX0_jointsThatAre wsX0_jointsThatAre) := goodIn_app (goodIn_of _ (by decide +kernel)) ggX1_bluffJoint_X0_jointsThatAre
theorem dX1_bluffJoint_0 : decode cX1_bluffJoint 0 = .ok (.aload_n 0, 1) := by decide +kernel
theorem dX1_bluffJoint_1 : decode cX1_bluffJoint 1 = .ok (.getfield 12, 3) := by decide +kernel
theorem dX1_bluffJoint_4 : decode cX1_bluffJoint 4 = .ok (.iload_n 1, 1) := by decide +kernel
theorem dX1_bluffJoint_5 : decode cX1_bluffJoint 5 = .ok (.invokevirtual 64, 3) := by decide +kernel
theorem dX1_bluffJoint_8 : decode cX1_bluffJoint 8 = .ok (.iconst 1, 1) := by decide +kernel
theorem dX1_bluffJoint_9 : decode cX1_bluffJoint 9 = .ok (.if_icmp .eq 6, 3) := by decide +kernel
theorem dX1_bluffJoint_12 : decode cX1_bluffJoint 12 = .ok (.bipush (-5), 2) := by decide +kernel
theorem dX1_bluffJoint_14 : decode cX1_bluffJoint 14 = .ok (.ireturn, 1) := by decide +kernel
theorem dX1_bluffJoint_15 : decode cX1_bluffJoint 15 = .ok (.aload_n 0, 1) := by decide +kernel
theorem dX1_bluffJoint_16 : decode cX1_bluffJoint 16 = .ok (.getfield 12, 3) := by decide +kernel
theorem dX1_bluffJoint_19 : decode cX1_bluffJoint 19 = .ok (.iload_n 1, 1) := by decide +kernel
theorem dX1_bluffJoint_20 : decode cX1_bluffJoint 20 = .ok (.iconst 3, 1) := by decide +kernel
theorem dX1_bluffJoint_21 : decode cX1_bluffJoint 21 = .ok (.aload_n 0, 1) := by decide +kernel
theorem dX1_bluffJoint_22 : decode cX1_bluffJoint 22 = .ok (.getfield 35, 3) := by decide +kernel
theorem dX1_bluffJoint_25 : decode cX1_bluffJoint 25 = .ok (.invokevirtual 115, 3) := by decide +kernel
theorem dX1_bluffJoint_28 : decode cX1_bluffJoint 28 = .ok (.aload_n 0, 1) := by decide +kernel
theorem dX1_bluffJoint_29 : decode cX1_bluffJoint 29 = .ok (.invokevirtual 88, 3) := by decide +kernel
theorem dX1_bluffJoint_32 : decode cX1_bluffJoint 32 = .ok (.aload_n 0, 1) := by decide +kernel
theorem dX1_bluffJoint_33 : decode cX1_bluffJoint 33 = .ok (.getfield 12, 3) := by decide +kernel
theorem dX1_bluffJoint_36 : decode cX1_bluffJoint 36 = .ok (.iconst 3, 1) := by decide +kernel
theorem dX1_bluffJoint_37 : decode cX1_bluffJoint 37 = .ok (.invokevirtual 147, 3) := by decide +kernel
theorem dX1_bluffJoint_40 : decode cX1_bluffJoint 40 = .ok (.ireturn, 1) := by decide +kernel
set_option maxRecDepth 20000 in
theorem ggX1_doubtJoint_X0_makerOf : GoodIn wsX1_doubtJoint wsX0_makerOf := goodIn_r _ [10, 11, 12, 13, 9, 14, 59, 60, 61, 62, 63] (by decide +kernel) (by decide +kernel)
set_option maxRecDepth 20000 in
theorem gX1_doubtJoint_X0_makerOf : GoodIn wsX1_doubtJoint (wsV RX1 60 RX0 yX0_makerOf wsX0_makerOf) := goodIn_app (goodIn_of _ (by decide +kernel)) ggX1_doubtJoint_X0_makerOf
set_option maxRecDepth 20000 in
theorem ggX1_doubtJoint_X0_stateOf : GoodIn wsX1_doubtJoint wsX0_stateOf := goodIn_r _ [18, 19, 12, 13, 9, 14, 59, 60, 61, 62, 63] (by decide +kernel) (by decide +kernel)
set_option maxRecDepth 20000 in
theorem gX1_doubtJoint_X0_stateOf : GoodIn wsX1_doubtJoint (wsV RX1 64 RX0 yX0_stateOf wsX0_stateOf) := goodIn_app (goodIn_of _ (by decide +kernel)) ggX1_doubtJoint_X0_stateOf
set_option maxRecDepth 20000 in
theorem ggX1_doubtJoint_X1_tailorOf : GoodIn wsX1_doubtJoint wsX1_tailorOf := goodIn_r _ [24, 25, 26, 45, 46, 47, 48, 49] (by decide +kernel) (by decide +kernel)
set_option maxRecDepth 20000 in
theorem gX1_doubtJoint_X1_tailorOf : GoodIn wsX1_doubtJoint (wsV RX1 91 RX1 yX1_tailorOf wsX1_tailorOf) := goodIn_app (goodIn_of _ (by decide +kernel)) ggX1_doubtJoint_X1_tailorOf
set_option maxRecDepth 20000 in
theorem ggX1_doubtJoint_X0_make : GoodIn wsX1_doubtJoint wsX0_make := goodIn_r _ [30, 19, 11, 31, 32, 33, 12, 13, 9, 14, 34, 35, 36, 37, 38, 39, 59, 60, 61, 62, 63] (by decide +kernel) (by decide +kernel)
set_option maxRecDepth 20000 in
theorem gX1_doubtJoint_X0_make : GoodIn wsX1_doubtJoint (wsV RX1 115 RX0 yX0_make wsX0_make) := goodIn_app (goodIn_of _ (by decide +kernel)) ggX1_doubtJoint_X0_make
set_option maxRecDepth 20000 in
theorem ggX1_doubtJoint_X1_endTurn : GoodIn wsX1_doubtJoint wsX1_endTurn := goodIn_r _ [43, 44, 2, 45, 46, 47, 48, 49] (by decide +kernel) (by decide +kernel)
set_option maxRecDepth 20000 in
theorem gX1_doubtJoint_X1_endTurn : GoodIn wsX1_doubtJoint (wsV RX1 88 RX1 yX1_endTurn wsX1_endTurn) := goodIn_app (goodIn_of _ (by decide +kernel)) ggX1_doubtJoint_X1_endTurn
theorem dX1_doubtJoint_0 : decode cX1_doubtJoint 0 = .ok (.aload_n 0, 1) := by decide +kernel
theorem dX1_doubtJoint_1 : decode cX1_doubtJoint 1 = .ok (.getfield 12, 3) := by decide +kernel
theorem dX1_doubtJoint_4 : decode cX1_doubtJoint 4 = .ok (.iload_n 1, 1) := by decide +kernel
theorem dX1_doubtJoint_5 : decode cX1_doubtJoint 5 = .ok (.invokevirtual 60, 3) := by decide +kernel
theorem dX1_doubtJoint_8 : decode cX1_doubtJoint 8 = .ok (.iconst 1, 1) := by decide +kernel
theorem dX1_doubtJoint_9 : decode cX1_doubtJoint 9 = .ok (.aload_n 0, 1) := by decide +kernel
theorem dX1_doubtJoint_10 : decode cX1_doubtJoint 10 = .ok (.getfield 35, 3) := by decide +kernel
theorem dX1_doubtJoint_13 : decode cX1_doubtJoint 13 = .ok (.isub, 1) := by decide +kernel
theorem dX1_doubtJoint_14 : decode cX1_doubtJoint 14 = .ok (.if_icmp .eq 6, 3) := by decide +kernel
theorem dX1_doubtJoint_17 : decode cX1_doubtJoint 17 = .ok (.bipush (-5), 2) := by decide +kernel
theorem dX1_doubtJoint_19 : decode cX1_doubtJoint 19 = .ok (.ireturn, 1) := by decide +kernel
theorem dX1_doubtJoint_20 : decode cX1_doubtJoint 20 = .ok (.aload_n 0, 1) := by decide +kernel
theorem dX1_doubtJoint_21 : decode cX1_doubtJoint 21 = .ok (.getfield 12, 3) := by decide +kernel
theorem dX1_doubtJoint_24 : decode cX1_doubtJoint 24 = .ok (.iload_n 1, 1) := by decide +kernel
theorem dX1_doubtJoint_25 : decode cX1_doubtJoint 25 = .ok (.invokevirtual 64, 3) := by decide +kernel
theorem dX1_doubtJoint_28 : decode cX1_doubtJoint 28 = .ok (.iconst 3, 1) := by decide +kernel
theorem dX1_doubtJoint_29 : decode cX1_doubtJoint 29 = .ok (.if_icmp .ne 7, 3) := by decide +kernel
theorem dX1_doubtJoint_32 : decode cX1_doubtJoint 32 = .ok (.iconst 1, 1) := by decide +kernel
theorem dX1_doubtJoint_33 : decode cX1_doubtJoint 33 = .ok (.goto 4, 3) := by decide +kernel
theorem dX1_doubtJoint_36 : decode cX1_doubtJoint 36 = .ok (.iconst 0, 1) := by decide +kernel
theorem dX1_doubtJoint_37 : decode cX1_doubtJoint 37 = .ok (.istore_n 2, 1) := by decide +kernel
theorem dX1_doubtJoint_38 : decode cX1_doubtJoint 38 = .ok (.aload_n 0, 1) := by decide +kernel
theorem dX1_doubtJoint_39 : decode cX1_doubtJoint 39 = .ok (.aload_n 0, 1) := by decide +kernel
theorem dX1_doubtJoint_40 : decode cX1_doubtJoint 40 = .ok (.getfield 35, 3) := by decide +kernel
theorem dX1_doubtJoint_43 : decode cX1_doubtJoint 43 = .ok (.invokevirtual 91, 3) := by decide +kernel
theorem dX1_doubtJoint_46 : decode cX1_doubtJoint 46 = .ok (.astore_n 3, 1) := by decide +kernel
theorem dX1_doubtJoint_47 : decode cX1_doubtJoint 47 = .ok (.iload_n 2, 1) := by decide +kernel
theorem dX1_doubtJoint_48 : decode cX1_doubtJoint 48 = .ok (.ifCond .eq 26, 3) := by decide +kernel
theorem dX1_doubtJoint_51 : decode cX1_doubtJoint 51 = .ok (.aload_n 3, 1) := by decide +kernel
theorem dX1_doubtJoint_52 : decode cX1_doubtJoint 52 = .ok (.dup, 1) := by decide +kernel
theorem dX1_doubtJoint_53 : decode cX1_doubtJoint 53 = .ok (.getfield 50, 3) := by decide +kernel
theorem dX1_doubtJoint_56 : decode cX1_doubtJoint 56 = .ok (.iconst 2, 1) := by decide +kernel
theorem dX1_doubtJoint_57 : decode cX1_doubtJoint 57 = .ok (.iadd, 1) := by decide +kernel
theorem dX1_doubtJoint_58 : decode cX1_doubtJoint 58 = .ok (.putfield 50, 3) := by decide +kernel
theorem dX1_doubtJoint_61 : decode cX1_doubtJoint 61 = .ok (.aload_n 3, 1) := by decide +kernel
theorem dX1_doubtJoint_62 : decode cX1_doubtJoint 62 = .ok (.dup, 1) := by decide +kernel
theorem dX1_doubtJoint_63 : decode cX1_doubtJoint 63 = .ok (.getfield 150, 3) := by decide +kernel
theorem dX1_doubtJoint_66 : decode cX1_doubtJoint 66 = .ok (.iconst 1, 1) := by decide +kernel
theorem dX1_doubtJoint_67 : decode cX1_doubtJoint 67 = .ok (.iadd, 1) := by decide +kernel
theorem dX1_doubtJoint_68 : decode cX1_doubtJoint 68 = .ok (.putfield 150, 3) := by decide +kernel
theorem dX1_doubtJoint_71 : decode cX1_doubtJoint 71 = .ok (.goto 23, 3) := by decide +kernel
theorem dX1_doubtJoint_74 : decode cX1_doubtJoint 74 = .ok (.aload_n 3, 1) := by decide +kernel
theorem dX1_doubtJoint_75 : decode cX1_doubtJoint 75 = .ok (.dup, 1) := by decide +kernel
theorem dX1_doubtJoint_76 : decode cX1_doubtJoint 76 = .ok (.getfield 50, 3) := by decide +kernel
theorem dX1_doubtJoint_79 : decode cX1_doubtJoint 79 = .ok (.iconst 2, 1) := by decide +kernel
theorem dX1_doubtJoint_80 : decode cX1_doubtJoint 80 = .ok (.isub, 1) := by decide +kernel
theorem dX1_doubtJoint_81 : decode cX1_doubtJoint 81 = .ok (.putfield 50, 3) := by decide +kernel
theorem dX1_doubtJoint_84 : decode cX1_doubtJoint 84 = .ok (.aload_n 3, 1) := by decide +kernel
theorem dX1_doubtJoint_85 : decode cX1_doubtJoint 85 = .ok (.dup, 1) := by decide +kernel
theorem dX1_doubtJoint_86 : decode cX1_doubtJoint 86 = .ok (.getfield 153, 3) := by decide +kernel
theorem dX1_doubtJoint_89 : decode cX1_doubtJoint 89 = .ok (.iconst 1, 1) := by decide +kernel
theorem dX1_doubtJoint_90 : decode cX1_doubtJoint 90 = .ok (.iadd, 1) := by decide +kernel
theorem dX1_doubtJoint_91 : decode cX1_doubtJoint 91 = .ok (.putfield 153, 3) := by decide +kernel
theorem dX1_doubtJoint_94 : decode cX1_doubtJoint 94 = .ok (.aload_n 0, 1) := by decide +kernel
theorem dX1_doubtJoint_95 : decode cX1_doubtJoint 95 = .ok (.getfield 12, 3) := by decide +kernel
theorem dX1_doubtJoint_98 : decode cX1_doubtJoint 98 = .ok (.iload_n 1, 1) := by decide +kernel
theorem dX1_doubtJoint_99 : decode cX1_doubtJoint 99 = .ok (.iload_n 2, 1) := by decide +kernel
theorem dX1_doubtJoint_100 : decode cX1_doubtJoint 100 = .ok (.ifCond .eq 7, 3) := by decide +kernel
theorem dX1_doubtJoint_103 : decode cX1_doubtJoint 103 = .ok (.iconst 1, 1) := by decide +kernel
theorem dX1_doubtJoint_104 : decode cX1_doubtJoint 104 = .ok (.goto 4, 3) := by decide +kernel
theorem dX1_doubtJoint_107 : decode cX1_doubtJoint 107 = .ok (.iconst 2, 1) := by decide +kernel
theorem dX1_doubtJoint_108 : decode cX1_doubtJoint 108 = .ok (.bipush (-6), 2) := by decide +kernel
theorem dX1_doubtJoint_110 : decode cX1_doubtJoint 110 = .ok (.invokevirtual 115, 3) := by decide +kernel
theorem dX1_doubtJoint_113 : decode cX1_doubtJoint 113 = .ok (.aload_n 0, 1) := by decide +kernel
theorem dX1_doubtJoint_114 : decode cX1_doubtJoint 114 = .ok (.invokevirtual 88, 3) := by decide +kernel
theorem dX1_doubtJoint_117 : decode cX1_doubtJoint 117 = .ok (.iload_n 2, 1) := by decide +kernel
theorem dX1_doubtJoint_118 : decode cX1_doubtJoint 118 = .ok (.ifCond .eq 7, 3) := by decide +kernel
theorem dX1_doubtJoint_121 : decode cX1_doubtJoint 121 = .ok (.iconst 1, 1) := by decide +kernel
theorem dX1_doubtJoint_122 : decode cX1_doubtJoint 122 = .ok (.goto 4, 3) := by decide +kernel
theorem dX1_doubtJoint_125 : decode cX1_doubtJoint 125 = .ok (.iconst 0, 1) := by decide +kernel
theorem dX1_doubtJoint_126 : decode cX1_doubtJoint 126 = .ok (.ireturn, 1) := by decide +kernel
set_option maxRecDepth 20000 in
theorem ggX1_openGain_X1_tailorOf : GoodIn wsX1_openGain wsX1_tailorOf := goodIn_r _ [7, 8, 9, 48, 49, 50, 51, 52] (by decide +kernel) (by decide +kernel)
set_option maxRecDepth 20000 in
theorem gX1_openGain_X1_tailorOf : GoodIn wsX1_openGain (wsV RX1 91 RX1 yX1_tailorOf wsX1_tailorOf) := goodIn_app (goodIn_of _ (by decide +kernel)) ggX1_openGain_X1_tailorOf
set_option maxRecDepth 20000 in
theorem ggX1_openGain_X5_hasMark : GoodIn wsX1_openGain wsX5_hasMark := goodIn_r _ [14, 15, 16, 53, 54, 55, 56, 57, 58, 59, 60, 61] (by decide +kernel) (by decide +kernel)
set_option maxRecDepth 20000 in
theorem gX1_openGain_X5_hasMark : GoodIn wsX1_openGain (wsV RX1 53 RX5 yX5_hasMark wsX5_hasMark) := goodIn_app (goodIn_of _ (by decide +kernel)) ggX1_openGain_X5_hasMark
set_option maxRecDepth 20000 in
theorem ggX1_openGain_X0_ragOf : GoodIn wsX1_openGain wsX0_ragOf := goodIn_r _ [21, 22, 23, 24, 25, 26, 20, 27, 28, 29, 30, 31, 32, 33, 34, 35, 36, 37, 38, 39, 40, 41, 42, 43, 44, 45, 46, 62, 63, 64, 65, 66] (by decide +kernel) (by decide +kernel)
set_option maxRecDepth 20000 in
theorem gX1_openGain_X0_ragOf : GoodIn wsX1_openGain (wsV RX1 111 RX0 yX0_ragOf wsX0_ragOf) := goodIn_app (goodIn_of _ (by decide +kernel)) ggX1_openGain_X0_ragOf
set_option maxRecDepth 20000 in
theorem ggX1_openGain_J13_bitCount_95d88 : GoodIn wsX1_openGain wsJ13_bitCount_95d88 := goodIn_r _ [43, 44, 45, 46] (by decide +kernel) (by decide +kernel)
set_option maxRecDepth 20000 in
theorem gX1_openGain_J13_bitCount_95d88 : GoodIn wsX1_openGain (va_wsS RX1 123 yJ13_bitCount_95d88 wsJ13_bitCount_95d88) := goodIn_app (goodIn_of _ (by decide +kernel)) ggX1_openGain_J13_bitCount_95d88
theorem dX1_openGain_0 : decode cX1_openGain 0 = .ok (.aload_n 0, 1) := by decide +kernel
theorem dX1_openGain_1 : decode cX1_openGain 1 = .ok (.aload_n 0, 1) := by decide +kernel
theorem dX1_openGain_2 : decode cX1_openGain 2 = .ok (.getfield 35, 3) := by decide +kernel
theorem dX1_openGain_5 : decode cX1_openGain 5 = .ok (.invokevirtual 91, 3) := by decide +kernel
theorem dX1_openGain_8 : decode cX1_openGain 8 = .ok (.iload_n 1, 1) := by decide +kernel
theorem dX1_openGain_9 : decode cX1_openGain 9 = .ok (.invokevirtual 53, 3) := by decide +kernel
theorem dX1_openGain_12 : decode cX1_openGain 12 = .ok (.ifCond .eq 7, 3) := by decide +kernel
theorem dX1_openGain_15 : decode cX1_openGain 15 = .ok (.iconst 1, 1) := by decide +kernel
theorem dX1_openGain_16 : decode cX1_openGain 16 = .ok (.goto 4, 3) := by decide +kernel
theorem dX1_openGain_19 : decode cX1_openGain 19 = .ok (.iconst 0, 1) := by decide +kernel
theorem dX1_openGain_20 : decode cX1_openGain 20 = .ok (.istore_n 2, 1) := by decide +kernel
theorem dX1_openGain_21 : decode cX1_openGain 21 = .ok (.aload_n 0, 1) := by decide +kernel
theorem dX1_openGain_22 : decode cX1_openGain 22 = .ok (.getfield 12, 3) := by decide +kernel
theorem dX1_openGain_25 : decode cX1_openGain 25 = .ok (.iload_n 1, 1) := by decide +kernel
theorem dX1_openGain_26 : decode cX1_openGain 26 = .ok (.invokevirtual 111, 3) := by decide +kernel
theorem dX1_openGain_29 : decode cX1_openGain 29 = .ok (.invokestatic 123, 3) := by decide +kernel
theorem dX1_openGain_32 : decode cX1_openGain 32 = .ok (.iload_n 2, 1) := by decide +kernel
theorem dX1_openGain_33 : decode cX1_openGain 33 = .ok (.iadd, 1) := by decide +kernel
theorem dX1_openGain_34 : decode cX1_openGain 34 = .ok (.ireturn, 1) := by decide +kernel
set_option maxRecDepth 20000 in
theorem ggX1_bestJoint_X1_whyNoSnip : GoodIn wsX1_bestJoint wsX1_whyNoSnip := goodIn_r _ [5, 6, 7, 8, 9, 4, 10, 11, 12, 13, 14, 15, 16, 17, 18, 19, 20, 21, 22, 23, 24, 25, 26, 27, 28, 29, 30, 31, 32, 33, 34, 35, 36, 37, 38, 39, 40, 41, 42, 43, 44, 45, 78, 79, 80, 81, 82, 83, 84, 85, 86, 87] (by decide +kernel) (by decide +kernel)
set_option maxRecDepth 20000 in
theorem gX1_bestJoint_X1_whyNoSnip : GoodIn wsX1_bestJoint (wsV RX1 104 RX1 yX1_whyNoSnip wsX1_whyNoSnip) := goodIn_app (goodIn_of _ (by decide +kernel)) ggX1_bestJoint_X1_whyNoSnip
set_option maxRecDepth 20000 in
theorem ggX1_bestJoint_X1_openGain : GoodIn wsX1_bestJoint wsX1_openGain := goodIn_r _ [49, 50, 6, 51, 52, 53, 4, 54, 55, 56, 57, 58, 59, 60, 61, 62, 63, 64, 65, 66, 15, 67, 68, 69, 70, 32, 33, 34, 29, 30, 31, 71, 72, 73, 74, 75, 76, 35, 36, 37, 18, 19, 20, 21, 22, 23, 24, 77, 78, 79, 80, 81, 82, 88, 89, 90, 91, 92, 93, 94, 95, 96, 83, 84, 85, 86, 87] (by decide +kernel) (by decide +kernel)
set_option maxRecDepth 20000 in
theorem gX1_bestJoint_X1_openGain : GoodIn wsX1_bestJoint (wsV RX1 156 RX1 yX1_openGain wsX1_openGain) := goodIn_app (goodIn_of _ (by decide +kernel)) ggX1_bestJoint_X1_openGain
theorem dX1_bestJoint_0 : decode cX1_bestJoint 0 = .ok (.bipush (-6), 2) := by decide +kernel
theorem dX1_bestJoint_2 : decode cX1_bestJoint 2 = .ok (.istore_n 1, 1) := by decide +kernel
theorem dX1_bestJoint_3 : decode cX1_bestJoint 3 = .ok (.iconst (-1), 1) := by decide +kernel
theorem dX1_bestJoint_4 : decode cX1_bestJoint 4 = .ok (.istore_n 2, 1) := by decide +kernel
theorem dX1_bestJoint_5 : decode cX1_bestJoint 5 = .ok (.iconst 0, 1) := by decide +kernel
theorem dX1_bestJoint_6 : decode cX1_bestJoint 6 = .ok (.istore_n 3, 1) := by decide +kernel
theorem dX1_bestJoint_7 : decode cX1_bestJoint 7 = .ok (.iload_n 3, 1) := by decide +kernel
theorem dX1_bestJoint_8 : decode cX1_bestJoint 8 = .ok (.bipush 82, 2) := by decide +kernel
theorem dX1_bestJoint_10 : decode cX1_bestJoint 10 = .ok (.if_icmp .ge 39, 3) := by decide +kernel
theorem dX1_bestJoint_13 : decode cX1_bestJoint 13 = .ok (.aload_n 0, 1) := by decide +kernel
theorem dX1_bestJoint_14 : decode cX1_bestJoint 14 = .ok (.iload_n 3, 1) := by decide +kernel
theorem dX1_bestJoint_15 : decode cX1_bestJoint 15 = .ok (.invokevirtual 104, 3) := by decide +kernel
theorem dX1_bestJoint_18 : decode cX1_bestJoint 18 = .ok (.ifCond .ne 11, 3) := by decide +kernel
theorem dX1_bestJoint_21 : decode cX1_bestJoint 21 = .ok (.aload_n 0, 1) := by decide +kernel
theorem dX1_bestJoint_22 : decode cX1_bestJoint 22 = .ok (.iload_n 3, 1) := by decide +kernel
theorem dX1_bestJoint_23 : decode cX1_bestJoint 23 = .ok (.invokevirtual 156, 3) := by decide +kernel
theorem dX1_bestJoint_26 : decode cX1_bestJoint 26 = .ok (.goto 4, 3) := by decide +kernel
theorem dX1_bestJoint_29 : decode cX1_bestJoint 29 = .ok (.iconst (-1), 1) := by decide +kernel
theorem dX1_bestJoint_30 : decode cX1_bestJoint 30 = .ok (.istore 4, 2) := by decide +kernel
theorem dX1_bestJoint_32 : decode cX1_bestJoint 32 = .ok (.iload 4, 2) := by decide +kernel
theorem dX1_bestJoint_34 : decode cX1_bestJoint 34 = .ok (.iload_n 2, 1) := by decide +kernel
theorem dX1_bestJoint_35 : decode cX1_bestJoint 35 = .ok (.if_icmp .le 8, 3) := by decide +kernel
theorem dX1_bestJoint_38 : decode cX1_bestJoint 38 = .ok (.iload 4, 2) := by decide +kernel
theorem dX1_bestJoint_40 : decode cX1_bestJoint 40 = .ok (.istore_n 2, 1) := by decide +kernel
theorem dX1_bestJoint_41 : decode cX1_bestJoint 41 = .ok (.iload_n 3, 1) := by decide +kernel
theorem dX1_bestJoint_42 : decode cX1_bestJoint 42 = .ok (.istore_n 1, 1) := by decide +kernel
theorem dX1_bestJoint_43 : decode cX1_bestJoint 43 = .ok (.iinc 3 1, 3) := by decide +kernel
theorem dX1_bestJoint_46 : decode cX1_bestJoint 46 = .ok (.goto (-39), 3) := by decide +kernel
theorem dX1_bestJoint_49 : decode cX1_bestJoint 49 = .ok (.iload_n 1, 1) := by decide +kernel
theorem dX1_bestJoint_50 : decode cX1_bestJoint 50 = .ok (.ireturn, 1) := by decide +kernel
set_option maxRecDepth 20000 in
theorem ggX2_init_X1_init : GoodIn wsX2_init wsX1_init := goodIn_r _ [11, 12, 2, 3, 13, 14, 15, 16, 17, 18, 19, 20, 21, 22, 23, 24, 25, 26, 27, 28, 29, 30, 31, 32, 33, 34, 35, 36, 37, 38, 39, 40, 41, 42, 43, 44, 45, 46, 47, 48, 49, 50, 59, 60, 61, 62, 63, 54, 55, 56, 57, 58, 64, 65, 66, 67, 68, 69, 70, 71, 72] (by decide +kernel) (by decide +kernel)
set_option maxRecDepth 20000 in
theorem gX2_init_X1_init : GoodIn wsX2_init (wsX1_init) := ggX2_init_X1_init
theorem dX2_init_0 : decode cX2_init 0 = .ok (.aload_n 0, 1) := by decide +kernel
theorem dX2_init_1 : decode cX2_init 1 = .ok (.invokespecial 3, 3) := by decide +kernel
theorem dX2_init_4 : decode cX2_init 4 = .ok (.aload_n 0, 1) := by decide +kernel
theorem dX2_init_5 : decode cX2_init 5 = .ok (.bipush 6, 2) := by decide +kernel
theorem dX2_init_7 : decode cX2_init 7 = .ok (.anewarray 11, 3) := by decide +kernel
theorem dX2_init_10 : decode cX2_init 10 = .ok (.putfield 13, 3) := by decide +kernel
theorem dX2_init_13 : decode cX2_init 13 = .ok (.iconst 0, 1) := by decide +kernel
theorem dX2_init_14 : decode cX2_init 14 = .ok (.istore_n 1, 1) := by decide +kernel
theorem dX2_init_15 : decode cX2_init 15 = .ok (.iload_n 1, 1) := by decide +kernel
theorem dX2_init_16 : decode cX2_init 16 = .ok (.bipush 6, 2) := by decide +kernel
theorem dX2_init_18 : decode cX2_init 18 = .ok (.if_icmp .ge 22, 3) := by decide +kernel
theorem dX2_init_21 : decode cX2_init 21 = .ok (.aload_n 0, 1) := by decide +kernel
theorem dX2_init_22 : decode cX2_init 22 = .ok (.getfield 13, 3) := by decide +kernel
theorem dX2_init_25 : decode cX2_init 25 = .ok (.iload_n 1, 1) := by decide +kernel
theorem dX2_init_26 : decode cX2_init 26 = .ok (.new 11, 3) := by decide +kernel
theorem dX2_init_29 : decode cX2_init 29 = .ok (.dup, 1) := by decide +kernel
theorem dX2_init_30 : decode cX2_init 30 = .ok (.invokespecial 17, 3) := by decide +kernel
theorem dX2_init_33 : decode cX2_init 33 = .ok (.aastore, 1) := by decide +kernel
theorem dX2_init_34 : decode cX2_init 34 = .ok (.iinc 1 1, 3) := by decide +kernel
theorem dX2_init_37 : decode cX2_init 37 = .ok (.goto (-22), 3) := by decide +kernel
theorem dX2_init_40 : decode cX2_init 40 = .ok (.aload_n 0, 1) := by decide +kernel
theorem dX2_init_41 : decode cX2_init 41 = .ok (.new 11, 3) := by decide +kernel
theorem dX2_init_44 : decode cX2_init 44 = .ok (.dup, 1) := by decide +kernel
theorem dX2_init_45 : decode cX2_init 45 = .ok (.invokespecial 17, 3) := by decide +kernel
theorem dX2_init_48 : decode cX2_init 48 = .ok (.putfield 18, 3) := by decide +kernel
theorem dX2_init_51 : decode cX2_init 51 = .ok (.return_, 1) := by decide +kernel
set_option maxRecDepth 20000 in
theorem ggX2_note_X1_become : GoodIn wsX2_note wsX1_become := goodIn_r _ [6, 7, 8, 9, 10, 11, 12, 13, 14, 15, 16, 17, 18, 19, 20, 21, 22, 23, 24, 25, 26, 27, 28, 29, 30, 31, 32, 33, 34, 35, 39, 40, 41, 42, 43, 44, 45, 46, 47, 48, 49, 50, 51, 52, 53, 54, 55, 56, 57] (by decide +kernel) (by decide +kernel)
set_option maxRecDepth 20000 in
theorem gX2_note_X1_become : GoodIn wsX2_note (wsV RX2 22 RX1 yX1_become wsX1_become) := goodIn_app (goodIn_of _ (by decide +kernel)) ggX2_note_X1_become
theorem dX2_note_0 : decode cX2_note 0 = .ok (.aload_n 0, 1) := by decide +kernel
theorem dX2_note_1 : decode cX2_note 1 = .ok (.getfield 18, 3) := by decide +kernel
theorem dX2_note_4 : decode cX2_note 4 = .ok (.aload_n 1, 1) := by decide +kernel
theorem dX2_note_5 : decode cX2_note 5 = .ok (.invokevirtual 22, 3) := by decide +kernel
theorem dX2_note_8 : decode cX2_note 8 = .ok (.return_, 1) := by decide +kernel
set_option maxRecDepth 20000 in
theorem ggX2_keepNoted_X2_dropOldest : GoodIn wsX2_keepNoted wsX2_dropOldest := goodIn_r _ [8, 2, 1, 9, 10, 11] (by decide +kernel) (by decide +kernel)
set_option maxRecDepth 20000 in
theorem gX2_keepNoted_X2_dropOldest : GoodIn wsX2_keepNoted (wsV RX2 30 RX2 yX2_dropOldest wsX2_dropOldest) := goodIn_app (goodIn_of _ (by decide +kernel)) ggX2_keepNoted_X2_dropOldest
theorem dX2_keepNoted_0 : decode cX2_keepNoted 0 = .ok (.aload_n 0, 1) := by decide +kernel
theorem dX2_keepNoted_1 : decode cX2_keepNoted 1 = .ok (.getfield 26, 3) := by decide +kernel
theorem dX2_keepNoted_4 : decode cX2_keepNoted 4 = .ok (.bipush 6, 2) := by decide +kernel
theorem dX2_keepNoted_6 : decode cX2_keepNoted 6 = .ok (.if_icmp .lt 7, 3) := by decide +kernel
theorem dX2_keepNoted_9 : decode cX2_keepNoted 9 = .ok (.aload_n 0, 1) := by decide +kernel
theorem dX2_keepNoted_10 : decode cX2_keepNoted 10 = .ok (.invokevirtual 30, 3) := by decide +kernel
theorem dX2_keepNoted_13 : decode cX2_keepNoted 13 = .ok (.aload_n 0, 1) := by decide +kernel
theorem dX2_keepNoted_14 : decode cX2_keepNoted 14 = .ok (.getfield 13, 3) := by decide +kernel
theorem dX2_keepNoted_17 : decode cX2_keepNoted 17 = .ok (.aload_n 0, 1) := by decide +kernel
theorem dX2_keepNoted_18 : decode cX2_keepNoted 18 = .ok (.getfield 26, 3) := by decide +kernel
theorem dX2_keepNoted_21 : decode cX2_keepNoted 21 = .ok (.aaload, 1) := by decide +kernel
theorem dX2_keepNoted_22 : decode cX2_keepNoted 22 = .ok (.astore_n 1, 1) := by decide +kernel
theorem dX2_keepNoted_23 : decode cX2_keepNoted 23 = .ok (.aload_n 0, 1) := by decide +kernel
theorem dX2_keepNoted_24 : decode cX2_keepNoted 24 = .ok (.getfield 13, 3) := by decide +kernel
theorem dX2_keepNoted_27 : decode cX2_keepNoted 27 = .ok (.aload_n 0, 1) := by decide +kernel
theorem dX2_keepNoted_28 : decode cX2_keepNoted 28 = .ok (.getfield 26, 3) := by decide +kernel
theorem dX2_keepNoted_31 : decode cX2_keepNoted 31 = .ok (.aload_n 0, 1) := by decide +kernel
theorem dX2_keepNoted_32 : decode cX2_keepNoted 32 = .ok (.getfield 18, 3) := by decide +kernel
theorem dX2_keepNoted_35 : decode cX2_keepNoted 35 = .ok (.aastore, 1) := by decide +kernel
theorem dX2_keepNoted_36 : decode cX2_keepNoted 36 = .ok (.aload_n 0, 1) := by decide +kernel
theorem dX2_keepNoted_37 : decode cX2_keepNoted 37 = .ok (.aload_n 1, 1) := by decide +kernel
theorem dX2_keepNoted_38 : decode cX2_keepNoted 38 = .ok (.putfield 18, 3) := by decide +kernel
theorem dX2_keepNoted_41 : decode cX2_keepNoted 41 = .ok (.aload_n 0, 1) := by decide +kernel
theorem dX2_keepNoted_42 : decode cX2_keepNoted 42 = .ok (.dup, 1) := by decide +kernel
theorem dX2_keepNoted_43 : decode cX2_keepNoted 43 = .ok (.getfield 26, 3) := by decide +kernel
theorem dX2_keepNoted_46 : decode cX2_keepNoted 46 = .ok (.iconst 1, 1) := by decide +kernel
theorem dX2_keepNoted_47 : decode cX2_keepNoted 47 = .ok (.iadd, 1) := by decide +kernel
theorem dX2_keepNoted_48 : decode cX2_keepNoted 48 = .ok (.putfield 26, 3) := by decide +kernel
theorem dX2_keepNoted_51 : decode cX2_keepNoted 51 = .ok (.return_, 1) := by decide +kernel
theorem dX2_dropOldest_0 : decode cX2_dropOldest 0 = .ok (.aload_n 0, 1) := by decide +kernel
theorem dX2_dropOldest_1 : decode cX2_dropOldest 1 = .ok (.getfield 13, 3) := by decide +kernel
theorem dX2_dropOldest_4 : decode cX2_dropOldest 4 = .ok (.iconst 0, 1) := by decide +kernel
theorem dX2_dropOldest_5 : decode cX2_dropOldest 5 = .ok (.aaload, 1) := by decide +kernel
theorem dX2_dropOldest_6 : decode cX2_dropOldest 6 = .ok (.astore_n 1, 1) := by decide +kernel
theorem dX2_dropOldest_7 : decode cX2_dropOldest 7 = .ok (.iconst 1, 1) := by decide +kernel
theorem dX2_dropOldest_8 : decode cX2_dropOldest 8 = .ok (.istore_n 2, 1) := by decide +kernel
theorem dX2_dropOldest_9 : decode cX2_dropOldest 9 = .ok (.iload_n 2, 1) := by decide +kernel
theorem dX2_dropOldest_10 : decode cX2_dropOldest 10 = .ok (.bipush 6, 2) := by decide +kernel
theorem dX2_dropOldest_12 : decode cX2_dropOldest 12 = .ok (.if_icmp .ge 23, 3) := by decide +kernel
theorem dX2_dropOldest_15 : decode cX2_dropOldest 15 = .ok (.aload_n 0, 1) := by decide +kernel
theorem dX2_dropOldest_16 : decode cX2_dropOldest 16 = .ok (.getfield 13, 3) := by decide +kernel
theorem dX2_dropOldest_19 : decode cX2_dropOldest 19 = .ok (.iload_n 2, 1) := by decide +kernel
theorem dX2_dropOldest_20 : decode cX2_dropOldest 20 = .ok (.iconst 1, 1) := by decide +kernel
theorem dX2_dropOldest_21 : decode cX2_dropOldest 21 = .ok (.isub, 1) := by decide +kernel
theorem dX2_dropOldest_22 : decode cX2_dropOldest 22 = .ok (.aload_n 0, 1) := by decide +kernel
theorem dX2_dropOldest_23 : decode cX2_dropOldest 23 = .ok (.getfield 13, 3) := by decide +kernel
theorem dX2_dropOldest_26 : decode cX2_dropOldest 26 = .ok (.iload_n 2, 1) := by decide +kernel
theorem dX2_dropOldest_27 : decode cX2_dropOldest 27 = .ok (.aaload, 1) := by decide +kernel
theorem dX2_dropOldest_28 : decode cX2_dropOldest 28 = .ok (.aastore, 1) := by decide +kernel
theorem dX2_dropOldest_29 : decode cX2_dropOldest 29 = .ok (.iinc 2 1, 3) := by decide +kernel
theorem dX2_dropOldest_32 : decode cX2_dropOldest 32 = .ok (.goto (-23), 3) := by decide +kernel
theorem dX2_dropOldest_35 : decode cX2_dropOldest 35 = .ok (.aload_n 0, 1) := by decide +kernel
theorem dX2_dropOldest_36 : decode cX2_dropOldest 36 = .ok (.getfield 13, 3) := by decide +kernel
theorem dX2_dropOldest_39 : decode cX2_dropOldest 39 = .ok (.iconst 5, 1) := by decide +kernel
theorem dX2_dropOldest_40 : decode cX2_dropOldest 40 = .ok (.aload_n 1, 1) := by decide +kernel
theorem dX2_dropOldest_41 : decode cX2_dropOldest 41 = .ok (.aastore, 1) := by decide +kernel
theorem dX2_dropOldest_42 : decode cX2_dropOldest 42 = .ok (.aload_n 0, 1) := by decide +kernel
theorem dX2_dropOldest_43 : decode cX2_dropOldest 43 = .ok (.iconst 5, 1) := by decide +kernel
theorem dX2_dropOldest_44 : decode cX2_dropOldest 44 = .ok (.putfield 26, 3) := by decide +kernel
theorem dX2_dropOldest_47 : decode cX2_dropOldest 47 = .ok (.return_, 1) := by decide +kernel
set_option maxRecDepth 20000 in
theorem ggX2_goBack_X1_become : GoodIn wsX2_goBack wsX1_become := goodIn_r _ [7, 8, 9, 10, 11, 12, 13, 14, 15, 16, 17, 18, 19, 20, 21, 22, 23, 24, 25, 26, 27, 28, 29, 30, 31, 32, 33, 34, 35, 36, 40, 41, 42, 43, 44, 45, 46, 47, 48, 49, 50, 51, 52, 53, 54, 55, 56, 57, 58] (by decide +kernel) (by decide +kernel)
set_option maxRecDepth 20000 in
theorem gX2_goBack_X1_become : GoodIn wsX2_goBack (wsV RX2 22 RX1 yX1_become wsX1_become) := goodIn_app (goodIn_of _ (by decide +kernel)) ggX2_goBack_X1_become
theorem dX2_goBack_0 : decode cX2_goBack 0 = .ok (.aload_n 0, 1) := by decide +kernel
theorem dX2_goBack_1 : decode cX2_goBack 1 = .ok (.getfield 26, 3) := by decide +kernel
theorem dX2_goBack_4 : decode cX2_goBack 4 = .ok (.ifCond .gt 6, 3) := by decide +kernel
theorem dX2_goBack_7 : decode cX2_goBack 7 = .ok (.bipush (-5), 2) := by decide +kernel
theorem dX2_goBack_9 : decode cX2_goBack 9 = .ok (.ireturn, 1) := by decide +kernel
theorem dX2_goBack_10 : decode cX2_goBack 10 = .ok (.aload_n 0, 1) := by decide +kernel
theorem dX2_goBack_11 : decode cX2_goBack 11 = .ok (.dup, 1) := by decide +kernel
theorem dX2_goBack_12 : decode cX2_goBack 12 = .ok (.getfield 26, 3) := by decide +kernel
theorem dX2_goBack_15 : decode cX2_goBack 15 = .ok (.iconst 1, 1) := by decide +kernel
theorem dX2_goBack_16 : decode cX2_goBack 16 = .ok (.isub, 1) := by decide +kernel
theorem dX2_goBack_17 : decode cX2_goBack 17 = .ok (.putfield 26, 3) := by decide +kernel
theorem dX2_goBack_20 : decode cX2_goBack 20 = .ok (.aload_n 1, 1) := by decide +kernel
theorem dX2_goBack_21 : decode cX2_goBack 21 = .ok (.aload_n 0, 1) := by decide +kernel
theorem dX2_goBack_22 : decode cX2_goBack 22 = .ok (.getfield 13, 3) := by decide +kernel
theorem dX2_goBack_25 : decode cX2_goBack 25 = .ok (.aload_n 0, 1) := by decide +kernel
theorem dX2_goBack_26 : decode cX2_goBack 26 = .ok (.getfield 26, 3) := by decide +kernel
theorem dX2_goBack_29 : decode cX2_goBack 29 = .ok (.aaload, 1) := by decide +kernel
theorem dX2_goBack_30 : decode cX2_goBack 30 = .ok (.invokevirtual 22, 3) := by decide +kernel
theorem dX2_goBack_33 : decode cX2_goBack 33 = .ok (.aload_n 0, 1) := by decide +kernel
theorem dX2_goBack_34 : decode cX2_goBack 34 = .ok (.getfield 26, 3) := by decide +kernel
theorem dX2_goBack_37 : decode cX2_goBack 37 = .ok (.ireturn, 1) := by decide +kernel
theorem dX3_init_0 : decode cX3_init 0 = .ok (.aload_n 0, 1) := by decide +kernel
theorem dX3_init_1 : decode cX3_init 1 = .ok (.invokespecial 3, 3) := by decide +kernel
theorem dX3_init_4 : decode cX3_init 4 = .ok (.aload_n 0, 1) := by decide +kernel
theorem dX3_init_5 : decode cX3_init 5 = .ok (.bipush 80, 2) := by decide +kernel
theorem dX3_init_7 : decode cX3_init 7 = .ok (.newarray .char, 2) := by decide +kernel
theorem dX3_init_9 : decode cX3_init 9 = .ok (.putfield 11, 3) := by decide +kernel
theorem dX3_init_12 : decode cX3_init 12 = .ok (.return_, 1) := by decide +kernel
set_option maxRecDepth 20000 in
theorem ggX3_append_X3_charactersIn : GoodIn wsX3_append wsX3_charactersIn := goodIn_r _ [7, 3, 8, 9] (by decide +kernel) (by decide +kernel)
set_option maxRecDepth 20000 in
theorem gX3_append_X3_charactersIn : GoodIn wsX3_append (va_wsS RX3 15 yX3_charactersIn wsX3_charactersIn) := goodIn_app (goodIn_of _ (by decide +kernel)) ggX3_append_X3_charactersIn
theorem dX3_append_0 : decode cX3_append 0 = .ok (.lload_n 1, 1) := by decide +kernel
theorem dX3_append_1 : decode cX3_append 1 = .ok (.invokestatic 15, 3) := by decide +kernel
theorem dX3_append_4 : decode cX3_append 4 = .ok (.istore_n 3, 1) := by decide +kernel
theorem dX3_append_5 : decode cX3_append 5 = .ok (.iload_n 3, 1) := by decide +kernel
theorem dX3_append_6 : decode cX3_append 6 = .ok (.ifCond .ne 6, 3) := by decide +kernel
theorem dX3_append_9 : decode cX3_append 9 = .ok (.bipush (-2), 2) := by decide +kernel
theorem dX3_append_11 : decode cX3_append 11 = .ok (.ireturn, 1) := by decide +kernel
theorem dX3_append_12 : decode cX3_append 12 = .ok (.iload_n 3, 1) := by decide +kernel
theorem dX3_append_13 : decode cX3_append 13 = .ok (.bipush 80, 2) := by decide +kernel
theorem dX3_append_15 : decode cX3_append 15 = .ok (.aload_n 0, 1) := by decide +kernel
theorem dX3_append_16 : decode cX3_append 16 = .ok (.getfield 19, 3) := by decide +kernel
theorem dX3_append_19 : decode cX3_append 19 = .ok (.isub, 1) := by decide +kernel
theorem dX3_append_20 : decode cX3_append 20 = .ok (.if_icmp .le 6, 3) := by decide +kernel
theorem dX3_append_23 : decode cX3_append 23 = .ok (.bipush (-4), 2) := by decide +kernel
theorem dX3_append_25 : decode cX3_append 25 = .ok (.ireturn, 1) := by decide +kernel
theorem dX3_append_26 : decode cX3_append 26 = .ok (.iload_n 3, 1) := by decide +kernel
theorem dX3_append_27 : decode cX3_append 27 = .ok (.iconst 1, 1) := by decide +kernel
theorem dX3_append_28 : decode cX3_append 28 = .ok (.isub, 1) := by decide +kernel
theorem dX3_append_29 : decode cX3_append 29 = .ok (.istore 4, 2) := by decide +kernel
theorem dX3_append_31 : decode cX3_append 31 = .ok (.iload 4, 2) := by decide +kernel
theorem dX3_append_33 : decode cX3_append 33 = .ok (.ifCond .lt 41, 3) := by decide +kernel
theorem dX3_append_36 : decode cX3_append 36 = .ok (.aload_n 0, 1) := by decide +kernel
theorem dX3_append_37 : decode cX3_append 37 = .ok (.getfield 11, 3) := by decide +kernel
theorem dX3_append_40 : decode cX3_append 40 = .ok (.aload_n 0, 1) := by decide +kernel
theorem dX3_append_41 : decode cX3_append 41 = .ok (.getfield 19, 3) := by decide +kernel
theorem dX3_append_44 : decode cX3_append 44 = .ok (.lload_n 1, 1) := by decide +kernel
theorem dX3_append_45 : decode cX3_append 45 = .ok (.bipush 8, 2) := by decide +kernel
theorem dX3_append_47 : decode cX3_append 47 = .ok (.iload 4, 2) := by decide +kernel
theorem dX3_append_49 : decode cX3_append 49 = .ok (.imul, 1) := by decide +kernel
theorem dX3_append_50 : decode cX3_append 50 = .ok (.lushr, 1) := by decide +kernel
theorem dX3_append_51 : decode cX3_append 51 = .ok (.ldc2_w 23, 3) := by decide +kernel
theorem dX3_append_54 : decode cX3_append 54 = .ok (.land, 1) := by decide +kernel
theorem dX3_append_55 : decode cX3_append 55 = .ok (.l2i, 1) := by decide +kernel
theorem dX3_append_56 : decode cX3_append 56 = .ok (.i2c, 1) := by decide +kernel
theorem dX3_append_57 : decode cX3_append 57 = .ok (.castore, 1) := by decide +kernel
theorem dX3_append_58 : decode cX3_append 58 = .ok (.aload_n 0, 1) := by decide +kernel
theorem dX3_append_59 : decode cX3_append 59 = .ok (.dup, 1) := by decide +kernel
theorem dX3_append_60 : decode cX3_append 60 = .ok (.getfield 19, 3) := by decide +kernel
theorem dX3_append_63 : decode cX3_append 63 = .ok (.iconst 1, 1) := by decide +kernel
theorem dX3_append_64 : decode cX3_append 64 = .ok (.iadd, 1) := by decide +kernel
theorem dX3_append_65 : decode cX3_append 65 = .ok (.putfield 19, 3) := by decide +kernel
theorem dX3_append_68 : decode cX3_append 68 = .ok (.iinc 4 (-1), 3) := by decide +kernel
theorem dX3_append_71 : decode cX3_append 71 = .ok (.goto (-40), 3) := by decide +kernel
theorem dX3_append_74 : decode cX3_append 74 = .ok (.aload_n 0, 1) := by decide +kernel
theorem dX3_append_75 : decode cX3_append 75 = .ok (.getfield 19, 3) := by decide +kernel
theorem dX3_append_78 : decode cX3_append 78 = .ok (.ireturn, 1) := by decide +kernel
theorem dX3_charactersIn_0 : decode cX3_charactersIn 0 = .ok (.iconst 0, 1) := by decide +kernel
theorem dX3_charactersIn_1 : decode cX3_charactersIn 1 = .ok (.istore_n 2, 1) := by decide +kernel
theorem dX3_charactersIn_2 : decode cX3_charactersIn 2 = .ok (.lload_n 0, 1) := by decide +kernel
theorem dX3_charactersIn_3 : decode cX3_charactersIn 3 = .ok (.lstore_n 3, 1) := by decide +kernel
theorem dX3_charactersIn_4 : decode cX3_charactersIn 4 = .ok (.lload_n 3, 1) := by decide +kernel
theorem dX3_charactersIn_5 : decode cX3_charactersIn 5 = .ok (.lconst 0, 1) := by decide +kernel
theorem dX3_charactersIn_6 : decode cX3_charactersIn 6 = .ok (.lcmp, 1) := by decide +kernel
theorem dX3_charactersIn_7 : decode cX3_charactersIn 7 = .ok (.ifCond .eq 47, 3) := by decide +kernel
theorem dX3_charactersIn_10 : decode cX3_charactersIn 10 = .ok (.iload_n 2, 1) := by decide +kernel
theorem dX3_charactersIn_11 : decode cX3_charactersIn 11 = .ok (.bipush 8, 2) := by decide +kernel
theorem dX3_charactersIn_13 : decode cX3_charactersIn 13 = .ok (.if_icmp .ge 41, 3) := by decide +kernel
theorem dX3_charactersIn_16 : decode cX3_charactersIn 16 = .ok (.lload_n 3, 1) := by decide +kernel
theorem dX3_charactersIn_17 : decode cX3_charactersIn 17 = .ok (.ldc2_w 23, 3) := by decide +kernel
theorem dX3_charactersIn_20 : decode cX3_charactersIn 20 = .ok (.land, 1) := by decide +kernel
theorem dX3_charactersIn_21 : decode cX3_charactersIn 21 = .ok (.lstore 5, 2) := by decide +kernel
theorem dX3_charactersIn_23 : decode cX3_charactersIn 23 = .ok (.lload 5, 2) := by decide +kernel
theorem dX3_charactersIn_25 : decode cX3_charactersIn 25 = .ok (.ldc2_w 25, 3) := by decide +kernel
theorem dX3_charactersIn_28 : decode cX3_charactersIn 28 = .ok (.lcmp, 1) := by decide +kernel
theorem dX3_charactersIn_29 : decode cX3_charactersIn 29 = .ok (.ifCond .lt 12, 3) := by decide +kernel
theorem dX3_charactersIn_32 : decode cX3_charactersIn 32 = .ok (.lload 5, 2) := by decide +kernel
theorem dX3_charactersIn_34 : decode cX3_charactersIn 34 = .ok (.ldc2_w 27, 3) := by decide +kernel
theorem dX3_charactersIn_37 : decode cX3_charactersIn 37 = .ok (.lcmp, 1) := by decide +kernel
theorem dX3_charactersIn_38 : decode cX3_charactersIn 38 = .ok (.ifCond .le 5, 3) := by decide +kernel
theorem dX3_charactersIn_41 : decode cX3_charactersIn 41 = .ok (.iconst 0, 1) := by decide +kernel
theorem dX3_charactersIn_42 : decode cX3_charactersIn 42 = .ok (.ireturn, 1) := by decide +kernel
theorem dX3_charactersIn_43 : decode cX3_charactersIn 43 = .ok (.iinc 2 1, 3) := by decide +kernel
theorem dX3_charactersIn_46 : decode cX3_charactersIn 46 = .ok (.lload_n 3, 1) := by decide +kernel
theorem dX3_charactersIn_47 : decode cX3_charactersIn 47 = .ok (.bipush 8, 2) := by decide +kernel
theorem dX3_charactersIn_49 : decode cX3_charactersIn 49 = .ok (.lushr, 1) := by decide +kernel
theorem dX3_charactersIn_50 : decode cX3_charactersIn 50 = .ok (.lstore_n 3, 1) := by decide +kernel
theorem dX3_charactersIn_51 : decode cX3_charactersIn 51 = .ok (.goto (-47), 3) := by decide +kernel
theorem dX3_charactersIn_54 : decode cX3_charactersIn 54 = .ok (.iload_n 2, 1) := by decide +kernel
theorem dX3_charactersIn_55 : decode cX3_charactersIn 55 = .ok (.ireturn, 1) := by decide +kernel
theorem dX3_clear_0 : decode cX3_clear 0 = .ok (.aload_n 0, 1) := by decide +kernel
theorem dX3_clear_1 : decode cX3_clear 1 = .ok (.getfield 19, 3) := by decide +kernel
theorem dX3_clear_4 : decode cX3_clear 4 = .ok (.istore_n 1, 1) := by decide +kernel
theorem dX3_clear_5 : decode cX3_clear 5 = .ok (.aload_n 0, 1) := by decide +kernel
theorem dX3_clear_6 : decode cX3_clear 6 = .ok (.iconst 0, 1) := by decide +kernel
theorem dX3_clear_7 : decode cX3_clear 7 = .ok (.putfield 19, 3) := by decide +kernel
theorem dX3_clear_10 : decode cX3_clear 10 = .ok (.iload_n 1, 1) := by decide +kernel
theorem dX3_clear_11 : decode cX3_clear 11 = .ok (.ireturn, 1) := by decide +kernel
theorem dX3_signAt_0 : decode cX3_signAt 0 = .ok (.iload_n 1, 1) := by decide +kernel
theorem dX3_signAt_1 : decode cX3_signAt 1 = .ok (.ifCond .lt 20, 3) := by decide +kernel
theorem dX3_signAt_4 : decode cX3_signAt 4 = .ok (.iload_n 1, 1) := by decide +kernel
theorem dX3_signAt_5 : decode cX3_signAt 5 = .ok (.aload_n 0, 1) := by decide +kernel
theorem dX3_signAt_6 : decode cX3_signAt 6 = .ok (.getfield 19, 3) := by decide +kernel
theorem dX3_signAt_9 : decode cX3_signAt 9 = .ok (.if_icmp .ge 12, 3) := by decide +kernel
theorem dX3_signAt_12 : decode cX3_signAt 12 = .ok (.aload_n 0, 1) := by decide +kernel
theorem dX3_signAt_13 : decode cX3_signAt 13 = .ok (.getfield 11, 3) := by decide +kernel
theorem dX3_signAt_16 : decode cX3_signAt 16 = .ok (.iload_n 1, 1) := by decide +kernel
theorem dX3_signAt_17 : decode cX3_signAt 17 = .ok (.caload, 1) := by decide +kernel
theorem dX3_signAt_18 : decode cX3_signAt 18 = .ok (.goto 5, 3) := by decide +kernel
theorem dX3_signAt_21 : decode cX3_signAt 21 = .ok (.bipush 59, 2) := by decide +kernel
theorem dX3_signAt_23 : decode cX3_signAt 23 = .ok (.ireturn, 1) := by decide +kernel
theorem dX3_isDigit_0 : decode cX3_isDigit 0 = .ok (.iload_n 0, 1) := by decide +kernel
theorem dX3_isDigit_1 : decode cX3_isDigit 1 = .ok (.bipush 48, 2) := by decide +kernel
theorem dX3_isDigit_3 : decode cX3_isDigit 3 = .ok (.if_icmp .lt 13, 3) := by decide +kernel
theorem dX3_isDigit_6 : decode cX3_isDigit 6 = .ok (.iload_n 0, 1) := by decide +kernel
theorem dX3_isDigit_7 : decode cX3_isDigit 7 = .ok (.bipush 57, 2) := by decide +kernel
theorem dX3_isDigit_9 : decode cX3_isDigit 9 = .ok (.if_icmp .gt 7, 3) := by decide +kernel
theorem dX3_isDigit_12 : decode cX3_isDigit 12 = .ok (.iconst 1, 1) := by decide +kernel
theorem dX3_isDigit_13 : decode cX3_isDigit 13 = .ok (.goto 4, 3) := by decide +kernel
theorem dX3_isDigit_16 : decode cX3_isDigit 16 = .ok (.iconst 0, 1) := by decide +kernel
theorem dX3_isDigit_17 : decode cX3_isDigit 17 = .ok (.ireturn, 1) := by decide +kernel
set_option maxRecDepth 20000 in
theorem ggX3_firstFault_X3_placeBehind : GoodIn wsX3_firstFault wsX3_placeBehind := goodIn_r _ [6, 7, 8, 5, 9, 10, 11, 12] (by decide +kernel) (by decide +kernel)
set_option maxRecDepth 20000 in
theorem gX3_firstFault_X3_placeBehind : GoodIn wsX3_firstFault (va_wsS RX3 29 yX3_placeBehind wsX3_placeBehind) := goodIn_app (goodIn_of _ (by decide +kernel)) ggX3_firstFault_X3_placeBehind
theorem dX3_firstFault_0 : decode cX3_firstFault 0 = .ok (.iconst 0, 1) := by decide +kernel
theorem dX3_firstFault_1 : decode cX3_firstFault 1 = .ok (.istore_n 1, 1) := by decide +kernel
theorem dX3_firstFault_2 : decode cX3_firstFault 2 = .ok (.iconst 0, 1) := by decide +kernel
theorem dX3_firstFault_3 : decode cX3_firstFault 3 = .ok (.istore_n 2, 1) := by decide +kernel
theorem dX3_firstFault_4 : decode cX3_firstFault 4 = .ok (.iload_n 2, 1) := by decide +kernel
theorem dX3_firstFault_5 : decode cX3_firstFault 5 = .ok (.aload_n 0, 1) := by decide +kernel
theorem dX3_firstFault_6 : decode cX3_firstFault 6 = .ok (.getfield 19, 3) := by decide +kernel
theorem dX3_firstFault_9 : decode cX3_firstFault 9 = .ok (.if_icmp .ge 27, 3) := by decide +kernel
theorem dX3_firstFault_12 : decode cX3_firstFault 12 = .ok (.iload_n 1, 1) := by decide +kernel
theorem dX3_firstFault_13 : decode cX3_firstFault 13 = .ok (.aload_n 0, 1) := by decide +kernel
theorem dX3_firstFault_14 : decode cX3_firstFault 14 = .ok (.getfield 11, 3) := by decide +kernel
theorem dX3_firstFault_17 : decode cX3_firstFault 17 = .ok (.iload_n 2, 1) := by decide +kernel
theorem dX3_firstFault_18 : decode cX3_firstFault 18 = .ok (.caload, 1) := by decide +kernel
theorem dX3_firstFault_19 : decode cX3_firstFault 19 = .ok (.invokestatic 29, 3) := by decide +kernel
theorem dX3_firstFault_22 : decode cX3_firstFault 22 = .ok (.istore_n 1, 1) := by decide +kernel
theorem dX3_firstFault_23 : decode cX3_firstFault 23 = .ok (.iload_n 1, 1) := by decide +kernel
theorem dX3_firstFault_24 : decode cX3_firstFault 24 = .ok (.iconst 4, 1) := by decide +kernel
theorem dX3_firstFault_25 : decode cX3_firstFault 25 = .ok (.if_icmp .ne 5, 3) := by decide +kernel
theorem dX3_firstFault_28 : decode cX3_firstFault 28 = .ok (.iload_n 2, 1) := by decide +kernel
theorem dX3_firstFault_29 : decode cX3_firstFault 29 = .ok (.ireturn, 1) := by decide +kernel
theorem dX3_firstFault_30 : decode cX3_firstFault 30 = .ok (.iinc 2 1, 3) := by decide +kernel
theorem dX3_firstFault_33 : decode cX3_firstFault 33 = .ok (.goto (-29), 3) := by decide +kernel
theorem dX3_firstFault_36 : decode cX3_firstFault 36 = .ok (.iload_n 1, 1) := by decide +kernel
theorem dX3_firstFault_37 : decode cX3_firstFault 37 = .ok (.iconst 2, 1) := by decide +kernel
theorem dX3_firstFault_38 : decode cX3_firstFault 38 = .ok (.if_icmp .eq 8, 3) := by decide +kernel
theorem dX3_firstFault_41 : decode cX3_firstFault 41 = .ok (.iload_n 1, 1) := by decide +kernel
theorem dX3_firstFault_42 : decode cX3_firstFault 42 = .ok (.iconst 3, 1) := by decide +kernel
theorem dX3_firstFault_43 : decode cX3_firstFault 43 = .ok (.if_icmp .ne 8, 3) := by decide +kernel
theorem dX3_firstFault_46 : decode cX3_firstFault 46 = .ok (.bipush (-6), 2) := by decide +kernel
theorem dX3_firstFault_48 : decode cX3_firstFault 48 = .ok (.goto 7, 3) := by decide +kernel
theorem dX3_firstFault_51 : decode cX3_firstFault 51 = .ok (.aload_n 0, 1) := by decide +kernel
theorem dX3_firstFault_52 : decode cX3_firstFault 52 = .ok (.getfield 19, 3) := by decide +kernel
theorem dX3_firstFault_55 : decode cX3_firstFault 55 = .ok (.ireturn, 1) := by decide +kernel
set_option maxRecDepth 20000 in
theorem ggX3_placeBehind_X3_placeBehindOrder : GoodIn wsX3_placeBehind wsX3_placeBehindOrder := goodIn_r _ [4] (by decide +kernel) (by decide +kernel)
set_option maxRecDepth 20000 in
theorem gX3_placeBehind_X3_placeBehindOrder : GoodIn wsX3_placeBehind (va_wsS RX3 33 yX3_placeBehindOrder wsX3_placeBehindOrder) := goodIn_app (goodIn_of _ (by decide +kernel)) ggX3_placeBehind_X3_placeBehindOrder
set_option maxRecDepth 20000 in
theorem ggX3_placeBehind_X3_isDigit : GoodIn wsX3_placeBehind wsX3_isDigit := goodIn_r _ [7] (by decide +kernel) (by decide +kernel)
set_option maxRecDepth 20000 in
theorem gX3_placeBehind_X3_isDigit : GoodIn wsX3_placeBehind (va_wsS RX3 37 yX3_isDigit wsX3_isDigit) := goodIn_app (goodIn_of _ (by decide +kernel)) ggX3_placeBehind_X3_isDigit
theorem dX3_placeBehind_0 : decode cX3_placeBehind 0 = .ok (.iload_n 0, 1) := by decide +kernel
theorem dX3_placeBehind_1 : decode cX3_placeBehind 1 = .ok (.ifCond .ne 8, 3) := by decide +kernel
theorem dX3_placeBehind_4 : decode cX3_placeBehind 4 = .ok (.iload_n 1, 1) := by decide +kernel
theorem dX3_placeBehind_5 : decode cX3_placeBehind 5 = .ok (.invokestatic 33, 3) := by decide +kernel
theorem dX3_placeBehind_8 : decode cX3_placeBehind 8 = .ok (.ireturn, 1) := by decide +kernel
theorem dX3_placeBehind_9 : decode cX3_placeBehind 9 = .ok (.iload_n 0, 1) := by decide +kernel
theorem dX3_placeBehind_10 : decode cX3_placeBehind 10 = .ok (.iconst 1, 1) := by decide +kernel
theorem dX3_placeBehind_11 : decode cX3_placeBehind 11 = .ok (.if_icmp .ne 22, 3) := by decide +kernel
theorem dX3_placeBehind_14 : decode cX3_placeBehind 14 = .ok (.iload_n 1, 1) := by decide +kernel
theorem dX3_placeBehind_15 : decode cX3_placeBehind 15 = .ok (.invokestatic 37, 3) := by decide +kernel
theorem dX3_placeBehind_18 : decode cX3_placeBehind 18 = .ok (.ifCond .eq 15, 3) := by decide +kernel
theorem dX3_placeBehind_21 : decode cX3_placeBehind 21 = .ok (.iload_n 1, 1) := by decide +kernel
theorem dX3_placeBehind_22 : decode cX3_placeBehind 22 = .ok (.bipush 48, 2) := by decide +kernel
theorem dX3_placeBehind_24 : decode cX3_placeBehind 24 = .ok (.if_icmp .ne 7, 3) := by decide +kernel
theorem dX3_placeBehind_27 : decode cX3_placeBehind 27 = .ok (.iconst 3, 1) := by decide +kernel
theorem dX3_placeBehind_28 : decode cX3_placeBehind 28 = .ok (.goto 4, 3) := by decide +kernel
theorem dX3_placeBehind_31 : decode cX3_placeBehind 31 = .ok (.iconst 2, 1) := by decide +kernel
theorem dX3_placeBehind_32 : decode cX3_placeBehind 32 = .ok (.ireturn, 1) := by decide +kernel
theorem dX3_placeBehind_33 : decode cX3_placeBehind 33 = .ok (.iload_n 0, 1) := by decide +kernel
theorem dX3_placeBehind_34 : decode cX3_placeBehind 34 = .ok (.iconst 2, 1) := by decide +kernel
theorem dX3_placeBehind_35 : decode cX3_placeBehind 35 = .ok (.if_icmp .ne 12, 3) := by decide +kernel
theorem dX3_placeBehind_38 : decode cX3_placeBehind 38 = .ok (.iload_n 1, 1) := by decide +kernel
theorem dX3_placeBehind_39 : decode cX3_placeBehind 39 = .ok (.invokestatic 37, 3) := by decide +kernel
theorem dX3_placeBehind_42 : decode cX3_placeBehind 42 = .ok (.ifCond .eq 5, 3) := by decide +kernel
theorem dX3_placeBehind_45 : decode cX3_placeBehind 45 = .ok (.iconst 3, 1) := by decide +kernel
theorem dX3_placeBehind_46 : decode cX3_placeBehind 46 = .ok (.ireturn, 1) := by decide +kernel
theorem dX3_placeBehind_47 : decode cX3_placeBehind 47 = .ok (.iload_n 0, 1) := by decide +kernel
theorem dX3_placeBehind_48 : decode cX3_placeBehind 48 = .ok (.iconst 2, 1) := by decide +kernel
theorem dX3_placeBehind_49 : decode cX3_placeBehind 49 = .ok (.if_icmp .eq 8, 3) := by decide +kernel
theorem dX3_placeBehind_52 : decode cX3_placeBehind 52 = .ok (.iload_n 0, 1) := by decide +kernel
theorem dX3_placeBehind_53 : decode cX3_placeBehind 53 = .ok (.iconst 3, 1) := by decide +kernel
theorem dX3_placeBehind_54 : decode cX3_placeBehind 54 = .ok (.if_icmp .ne 7, 3) := by decide +kernel
theorem dX3_placeBehind_57 : decode cX3_placeBehind 57 = .ok (.iconst 1, 1) := by decide +kernel
theorem dX3_placeBehind_58 : decode cX3_placeBehind 58 = .ok (.goto 4, 3) := by decide +kernel
theorem dX3_placeBehind_61 : decode cX3_placeBehind 61 = .ok (.iconst 0, 1) := by decide +kernel
theorem dX3_placeBehind_62 : decode cX3_placeBehind 62 = .ok (.istore_n 2, 1) := by decide +kernel
theorem dX3_placeBehind_63 : decode cX3_placeBehind 63 = .ok (.iload_n 2, 1) := by decide +kernel
theorem dX3_placeBehind_64 : decode cX3_placeBehind 64 = .ok (.ifCond .eq 13, 3) := by decide +kernel
theorem dX3_placeBehind_67 : decode cX3_placeBehind 67 = .ok (.iload_n 1, 1) := by decide +kernel
theorem dX3_placeBehind_68 : decode cX3_placeBehind 68 = .ok (.bipush 59, 2) := by decide +kernel
theorem dX3_placeBehind_70 : decode cX3_placeBehind 70 = .ok (.if_icmp .ne 7, 3) := by decide +kernel
theorem dX3_placeBehind_73 : decode cX3_placeBehind 73 = .ok (.iconst 0, 1) := by decide +kernel
theorem dX3_placeBehind_74 : decode cX3_placeBehind 74 = .ok (.goto 4, 3) := by decide +kernel
theorem dX3_placeBehind_77 : decode cX3_placeBehind 77 = .ok (.iconst 4, 1) := by decide +kernel
theorem dX3_placeBehind_78 : decode cX3_placeBehind 78 = .ok (.ireturn, 1) := by decide +kernel
theorem dX3_placeBehindOrder_0 : decode cX3_placeBehindOrder 0 = .ok (.iload_n 0, 1) := by decide +kernel
theorem dX3_placeBehindOrder_1 : decode cX3_placeBehindOrder 1 = .ok (.lookupswitch 63 #[(98, 59), (99, 59), (100, 59), (112, 61), (115, 59), (119, 59)], 59) := by decide +kernel
theorem dX3_placeBehindOrder_60 : decode cX3_placeBehindOrder 60 = .ok (.iconst 1, 1) := by decide +kernel
theorem dX3_placeBehindOrder_61 : decode cX3_placeBehindOrder 61 = .ok (.ireturn, 1) := by decide +kernel
theorem dX3_placeBehindOrder_62 : decode cX3_placeBehindOrder 62 = .ok (.iconst 3, 1) := by decide +kernel
theorem dX3_placeBehindOrder_63 : decode cX3_placeBehindOrder 63 = .ok (.ireturn, 1) := by decide +kernel
theorem dX3_placeBehindOrder_64 : decode cX3_placeBehindOrder 64 = .ok (.iconst 4, 1) := by decide +kernel
theorem dX3_placeBehindOrder_65 : decode cX3_placeBehindOrder 65 = .ok (.ireturn, 1) := by decide +kernel
set_option maxRecDepth 20000 in
theorem ggX4_init_X1_init : GoodIn wsX4_init wsX1_init := goodIn_r _ [10, 11, 2, 3, 12, 13, 14, 15, 16, 17, 18, 19, 20, 21, 22, 23, 24, 25, 26, 27, 28, 29, 30, 31, 32, 33, 34, 35, 36, 37, 38, 39, 40, 41, 42, 43, 44, 45, 46, 47, 48, 49, 57, 58, 59, 60, 61, 50, 51, 52, 53, 54, 62, 63, 64, 65, 66, 67, 68, 69, 70] (by decide +kernel) (by decide +kernel)
set_option maxRecDepth 20000 in
theorem gX4_init_X1_init : GoodIn wsX4_init (wsX1_init) := ggX4_init_X1_init
theorem dX4_init_0 : decode cX4_init 0 = .ok (.aload_n 0, 1) := by decide +kernel
theorem dX4_init_1 : decode cX4_init 1 = .ok (.invokespecial 1, 3) := by decide +kernel
theorem dX4_init_4 : decode cX4_init 4 = .ok (.aload_n 0, 1) := by decide +kernel
theorem dX4_init_5 : decode cX4_init 5 = .ok (.new 7, 3) := by decide +kernel
theorem dX4_init_8 : decode cX4_init 8 = .ok (.dup, 1) := by decide +kernel
theorem dX4_init_9 : decode cX4_init 9 = .ok (.invokespecial 9, 3) := by decide +kernel
theorem dX4_init_12 : decode cX4_init 12 = .ok (.putfield 10, 3) := by decide +kernel
theorem dX4_init_15 : decode cX4_init 15 = .ok (.return_, 1) := by decide +kernel
set_option maxRecDepth 20000 in
theorem ggX4_fill_X1_become : GoodIn wsX4_fill wsX1_become := goodIn_r _ [7, 8, 9, 10, 11, 12, 13, 14, 15, 16, 17, 18, 19, 20, 21, 22, 23, 24, 25, 26, 27, 28, 29, 30, 31, 32, 33, 34, 35, 36, 39, 40, 41, 42, 43, 44, 45, 46, 47, 48, 49, 50, 51, 52, 53, 54, 55, 56, 57] (by decide +kernel) (by decide +kernel)
set_option maxRecDepth 20000 in
theorem gX4_fill_X1_become : GoodIn wsX4_fill (wsV RX4 16 RX1 yX1_become wsX1_become) := goodIn_app (goodIn_of _ (by decide +kernel)) ggX4_fill_X1_become
theorem dX4_fill_0 : decode cX4_fill 0 = .ok (.aload_n 0, 1) := by decide +kernel
theorem dX4_fill_1 : decode cX4_fill 1 = .ok (.getfield 10, 3) := by decide +kernel
theorem dX4_fill_4 : decode cX4_fill 4 = .ok (.aload_n 1, 1) := by decide +kernel
theorem dX4_fill_5 : decode cX4_fill 5 = .ok (.invokevirtual 16, 3) := by decide +kernel
theorem dX4_fill_8 : decode cX4_fill 8 = .ok (.aload_n 0, 1) := by decide +kernel
theorem dX4_fill_9 : decode cX4_fill 9 = .ok (.iconst 1, 1) := by decide +kernel
theorem dX4_fill_10 : decode cX4_fill 10 = .ok (.putfield 20, 3) := by decide +kernel
theorem dX4_fill_13 : decode cX4_fill 13 = .ok (.return_, 1) := by decide +kernel
theorem dX5_init_0 : decode cX5_init 0 = .ok (.aload_n 0, 1) := by decide +kernel
theorem dX5_init_1 : decode cX5_init 1 = .ok (.invokespecial 3, 3) := by decide +kernel
theorem dX5_init_4 : decode cX5_init 4 = .ok (.aload_n 0, 1) := by decide +kernel
theorem dX5_init_5 : decode cX5_init 5 = .ok (.bipush 8, 2) := by decide +kernel
theorem dX5_init_7 : decode cX5_init 7 = .ok (.newarray .int, 2) := by decide +kernel
theorem dX5_init_9 : decode cX5_init 9 = .ok (.putfield 11, 3) := by decide +kernel
theorem dX5_init_12 : decode cX5_init 12 = .ok (.aload_n 0, 1) := by decide +kernel
theorem dX5_init_13 : decode cX5_init 13 = .ok (.iconst 5, 1) := by decide +kernel
theorem dX5_init_14 : decode cX5_init 14 = .ok (.putfield 15, 3) := by decide +kernel
theorem dX5_init_17 : decode cX5_init 17 = .ok (.return_, 1) := by decide +kernel
theorem dX5_become_0 : decode cX5_become 0 = .ok (.iconst 0, 1) := by decide +kernel
theorem dX5_become_1 : decode cX5_become 1 = .ok (.istore_n 2, 1) := by decide +kernel
theorem dX5_become_2 : decode cX5_become 2 = .ok (.iload_n 2, 1) := by decide +kernel
theorem dX5_become_3 : decode cX5_become 3 = .ok (.bipush 8, 2) := by decide +kernel
theorem dX5_become_5 : decode cX5_become 5 = .ok (.if_icmp .ge 21, 3) := by decide +kernel
theorem dX5_become_8 : decode cX5_become 8 = .ok (.aload_n 0, 1) := by decide +kernel
theorem dX5_become_9 : decode cX5_become 9 = .ok (.getfield 11, 3) := by decide +kernel
theorem dX5_become_12 : decode cX5_become 12 = .ok (.iload_n 2, 1) := by decide +kernel
theorem dX5_become_13 : decode cX5_become 13 = .ok (.aload_n 1, 1) := by decide +kernel
theorem dX5_become_14 : decode cX5_become 14 = .ok (.getfield 11, 3) := by decide +kernel
theorem dX5_become_17 : decode cX5_become 17 = .ok (.iload_n 2, 1) := by decide +kernel
theorem dX5_become_18 : decode cX5_become 18 = .ok (.iaload, 1) := by decide +kernel
theorem dX5_become_19 : decode cX5_become 19 = .ok (.iastore, 1) := by decide +kernel
theorem dX5_become_20 : decode cX5_become 20 = .ok (.iinc 2 1, 3) := by decide +kernel
theorem dX5_become_23 : decode cX5_become 23 = .ok (.goto (-21), 3) := by decide +kernel
theorem dX5_become_26 : decode cX5_become 26 = .ok (.aload_n 0, 1) := by decide +kernel
theorem dX5_become_27 : decode cX5_become 27 = .ok (.aload_n 1, 1) := by decide +kernel
theorem dX5_become_28 : decode cX5_become 28 = .ok (.getfield 19, 3) := by decide +kernel
theorem dX5_become_31 : decode cX5_become 31 = .ok (.putfield 19, 3) := by decide +kernel
theorem dX5_become_34 : decode cX5_become 34 = .ok (.aload_n 0, 1) := by decide +kernel
theorem dX5_become_35 : decode cX5_become 35 = .ok (.aload_n 1, 1) := by decide +kernel
theorem dX5_become_36 : decode cX5_become 36 = .ok (.getfield 22, 3) := by decide +kernel
theorem dX5_become_39 : decode cX5_become 39 = .ok (.putfield 22, 3) := by decide +kernel
theorem dX5_become_42 : decode cX5_become 42 = .ok (.aload_n 0, 1) := by decide +kernel
theorem dX5_become_43 : decode cX5_become 43 = .ok (.aload_n 1, 1) := by decide +kernel
theorem dX5_become_44 : decode cX5_become 44 = .ok (.getfield 15, 3) := by decide +kernel
theorem dX5_become_47 : decode cX5_become 47 = .ok (.putfield 15, 3) := by decide +kernel
theorem dX5_become_50 : decode cX5_become 50 = .ok (.aload_n 0, 1) := by decide +kernel
theorem dX5_become_51 : decode cX5_become 51 = .ok (.aload_n 1, 1) := by decide +kernel
theorem dX5_become_52 : decode cX5_become 52 = .ok (.getfield 25, 3) := by decide +kernel
theorem dX5_become_55 : decode cX5_become 55 = .ok (.putfield 25, 3) := by decide +kernel
theorem dX5_become_58 : decode cX5_become 58 = .ok (.aload_n 0, 1) := by decide +kernel
theorem dX5_become_59 : decode cX5_become 59 = .ok (.aload_n 1, 1) := by decide +kernel
theorem dX5_become_60 : decode cX5_become 60 = .ok (.getfield 28, 3) := by decide +kernel
theorem dX5_become_63 : decode cX5_become 63 = .ok (.putfield 28, 3) := by decide +kernel
theorem dX5_become_66 : decode cX5_become 66 = .ok (.aload_n 0, 1) := by decide +kernel
theorem dX5_become_67 : decode cX5_become 67 = .ok (.aload_n 1, 1) := by decide +kernel
theorem dX5_become_68 : decode cX5_become 68 = .ok (.getfield 31, 3) := by decide +kernel
theorem dX5_become_71 : decode cX5_become 71 = .ok (.putfield 31, 3) := by decide +kernel
theorem dX5_become_74 : decode cX5_become 74 = .ok (.aload_n 0, 1) := by decide +kernel
theorem dX5_become_75 : decode cX5_become 75 = .ok (.aload_n 1, 1) := by decide +kernel
theorem dX5_become_76 : decode cX5_become 76 = .ok (.getfield 34, 3) := by decide +kernel
theorem dX5_become_79 : decode cX5_become 79 = .ok (.putfield 34, 3) := by decide +kernel
theorem dX5_become_82 : decode cX5_become 82 = .ok (.aload_n 0, 1) := by decide +kernel
theorem dX5_become_83 : decode cX5_become 83 = .ok (.aload_n 1, 1) := by decide +kernel
theorem dX5_become_84 : decode cX5_become 84 = .ok (.getfield 37, 3) := by decide +kernel
theorem dX5_become_87 : decode cX5_become 87 = .ok (.putfield 37, 3) := by decide +kernel
theorem dX5_become_90 : decode cX5_become 90 = .ok (.return_, 1) := by decide +kernel
theorem dX5_hasMark_0 : decode cX5_hasMark 0 = .ok (.iconst 0, 1) := by decide +kernel
theorem dX5_hasMark_1 : decode cX5_hasMark 1 = .ok (.istore_n 2, 1) := by decide +kernel
theorem dX5_hasMark_2 : decode cX5_hasMark 2 = .ok (.iload_n 2, 1) := by decide +kernel
theorem dX5_hasMark_3 : decode cX5_hasMark 3 = .ok (.aload_n 0, 1) := by decide +kernel
theorem dX5_hasMark_4 : decode cX5_hasMark 4 = .ok (.getfield 19, 3) := by decide +kernel
theorem dX5_hasMark_7 : decode cX5_hasMark 7 = .ok (.if_icmp .ge 21, 3) := by decide +kernel
theorem dX5_hasMark_10 : decode cX5_hasMark 10 = .ok (.aload_n 0, 1) := by decide +kernel
theorem dX5_hasMark_11 : decode cX5_hasMark 11 = .ok (.getfield 11, 3) := by decide +kernel
theorem dX5_hasMark_14 : decode cX5_hasMark 14 = .ok (.iload_n 2, 1) := by decide +kernel
theorem dX5_hasMark_15 : decode cX5_hasMark 15 = .ok (.iaload, 1) := by decide +kernel
theorem dX5_hasMark_16 : decode cX5_hasMark 16 = .ok (.iload_n 1, 1) := by decide +kernel
theorem dX5_hasMark_17 : decode cX5_hasMark 17 = .ok (.if_icmp .ne 5, 3) := by decide +kernel
theorem dX5_hasMark_20 : decode cX5_hasMark 20 = .ok (.iconst 1, 1) := by decide +kernel
theorem dX5_hasMark_21 : decode cX5_hasMark 21 = .ok (.ireturn, 1) := by decide +kernel
theorem dX5_hasMark_22 : decode cX5_hasMark 22 = .ok (.iinc 2 1, 3) := by decide +kernel
theorem dX5_hasMark_25 : decode cX5_hasMark 25 = .ok (.goto (-23), 3) := by decide +kernel
theorem dX5_hasMark_28 : decode cX5_hasMark 28 = .ok (.iconst 0, 1) := by decide +kernel
theorem dX5_hasMark_29 : decode cX5_hasMark 29 = .ok (.ireturn, 1) := by decide +kernel
theorem dX5_markAt_0 : decode cX5_markAt 0 = .ok (.iload_n 1, 1) := by decide +kernel
theorem dX5_markAt_1 : decode cX5_markAt 1 = .ok (.ifCond .lt 20, 3) := by decide +kernel
theorem dX5_markAt_4 : decode cX5_markAt 4 = .ok (.iload_n 1, 1) := by decide +kernel
theorem dX5_markAt_5 : decode cX5_markAt 5 = .ok (.aload_n 0, 1) := by decide +kernel
theorem dX5_markAt_6 : decode cX5_markAt 6 = .ok (.getfield 19, 3) := by decide +kernel
theorem dX5_markAt_9 : decode cX5_markAt 9 = .ok (.if_icmp .ge 12, 3) := by decide +kernel
theorem dX5_markAt_12 : decode cX5_markAt 12 = .ok (.aload_n 0, 1) := by decide +kernel
theorem dX5_markAt_13 : decode cX5_markAt 13 = .ok (.getfield 11, 3) := by decide +kernel
theorem dX5_markAt_16 : decode cX5_markAt 16 = .ok (.iload_n 1, 1) := by decide +kernel
theorem dX5_markAt_17 : decode cX5_markAt 17 = .ok (.iaload, 1) := by decide +kernel
theorem dX5_markAt_18 : decode cX5_markAt 18 = .ok (.goto 4, 3) := by decide +kernel
theorem dX5_markAt_21 : decode cX5_markAt 21 = .ok (.iconst (-1), 1) := by decide +kernel
theorem dX5_markAt_22 : decode cX5_markAt 22 = .ok (.ireturn, 1) := by decide +kernel
theorem dX5_addMark_0 : decode cX5_addMark 0 = .ok (.aload_n 0, 1) := by decide +kernel
theorem dX5_addMark_1 : decode cX5_addMark 1 = .ok (.getfield 19, 3) := by decide +kernel
theorem dX5_addMark_4 : decode cX5_addMark 4 = .ok (.bipush 8, 2) := by decide +kernel
theorem dX5_addMark_6 : decode cX5_addMark 6 = .ok (.if_icmp .lt 5, 3) := by decide +kernel
theorem dX5_addMark_9 : decode cX5_addMark 9 = .ok (.iconst 0, 1) := by decide +kernel
theorem dX5_addMark_10 : decode cX5_addMark 10 = .ok (.ireturn, 1) := by decide +kernel
theorem dX5_addMark_11 : decode cX5_addMark 11 = .ok (.aload_n 0, 1) := by decide +kernel
theorem dX5_addMark_12 : decode cX5_addMark 12 = .ok (.getfield 11, 3) := by decide +kernel
theorem dX5_addMark_15 : decode cX5_addMark 15 = .ok (.aload_n 0, 1) := by decide +kernel
theorem dX5_addMark_16 : decode cX5_addMark 16 = .ok (.getfield 19, 3) := by decide +kernel
theorem dX5_addMark_19 : decode cX5_addMark 19 = .ok (.iload_n 1, 1) := by decide +kernel
theorem dX5_addMark_20 : decode cX5_addMark 20 = .ok (.iastore, 1) := by decide +kernel
theorem dX5_addMark_21 : decode cX5_addMark 21 = .ok (.aload_n 0, 1) := by decide +kernel
theorem dX5_addMark_22 : decode cX5_addMark 22 = .ok (.dup, 1) := by decide +kernel
theorem dX5_addMark_23 : decode cX5_addMark 23 = .ok (.getfield 19, 3) := by decide +kernel
theorem dX5_addMark_26 : decode cX5_addMark 26 = .ok (.iconst 1, 1) := by decide +kernel
theorem dX5_addMark_27 : decode cX5_addMark 27 = .ok (.iadd, 1) := by decide +kernel
theorem dX5_addMark_28 : decode cX5_addMark 28 = .ok (.putfield 19, 3) := by decide +kernel
theorem dX5_addMark_31 : decode cX5_addMark 31 = .ok (.iconst 1, 1) := by decide +kernel
theorem dX5_addMark_32 : decode cX5_addMark 32 = .ok (.ireturn, 1) := by decide +kernel
theorem dX5_dropMark_0 : decode cX5_dropMark 0 = .ok (.iconst 0, 1) := by decide +kernel
theorem dX5_dropMark_1 : decode cX5_dropMark 1 = .ok (.istore_n 2, 1) := by decide +kernel
theorem dX5_dropMark_2 : decode cX5_dropMark 2 = .ok (.iconst 0, 1) := by decide +kernel
theorem dX5_dropMark_3 : decode cX5_dropMark 3 = .ok (.istore_n 3, 1) := by decide +kernel
theorem dX5_dropMark_4 : decode cX5_dropMark 4 = .ok (.iload_n 3, 1) := by decide +kernel
theorem dX5_dropMark_5 : decode cX5_dropMark 5 = .ok (.aload_n 0, 1) := by decide +kernel
theorem dX5_dropMark_6 : decode cX5_dropMark 6 = .ok (.getfield 19, 3) := by decide +kernel
theorem dX5_dropMark_9 : decode cX5_dropMark 9 = .ok (.if_icmp .ge 34, 3) := by decide +kernel
theorem dX5_dropMark_12 : decode cX5_dropMark 12 = .ok (.aload_n 0, 1) := by decide +kernel
theorem dX5_dropMark_13 : decode cX5_dropMark 13 = .ok (.getfield 11, 3) := by decide +kernel
theorem dX5_dropMark_16 : decode cX5_dropMark 16 = .ok (.iload_n 3, 1) := by decide +kernel
theorem dX5_dropMark_17 : decode cX5_dropMark 17 = .ok (.iaload, 1) := by decide +kernel
theorem dX5_dropMark_18 : decode cX5_dropMark 18 = .ok (.iload_n 1, 1) := by decide +kernel
theorem dX5_dropMark_19 : decode cX5_dropMark 19 = .ok (.if_icmp .eq 18, 3) := by decide +kernel
theorem dX5_dropMark_22 : decode cX5_dropMark 22 = .ok (.aload_n 0, 1) := by decide +kernel
theorem dX5_dropMark_23 : decode cX5_dropMark 23 = .ok (.getfield 11, 3) := by decide +kernel
theorem dX5_dropMark_26 : decode cX5_dropMark 26 = .ok (.iload_n 2, 1) := by decide +kernel
theorem dX5_dropMark_27 : decode cX5_dropMark 27 = .ok (.aload_n 0, 1) := by decide +kernel
theorem dX5_dropMark_28 : decode cX5_dropMark 28 = .ok (.getfield 11, 3) := by decide +kernel
theorem dX5_dropMark_31 : decode cX5_dropMark 31 = .ok (.iload_n 3, 1) := by decide +kernel
theorem dX5_dropMark_32 : decode cX5_dropMark 32 = .ok (.iaload, 1) := by decide +kernel
theorem dX5_dropMark_33 : decode cX5_dropMark 33 = .ok (.iastore, 1) := by decide +kernel
theorem dX5_dropMark_34 : decode cX5_dropMark 34 = .ok (.iinc 2 1, 3) := by decide +kernel
theorem dX5_dropMark_37 : decode cX5_dropMark 37 = .ok (.iinc 3 1, 3) := by decide +kernel
theorem dX5_dropMark_40 : decode cX5_dropMark 40 = .ok (.goto (-36), 3) := by decide +kernel
theorem dX5_dropMark_43 : decode cX5_dropMark 43 = .ok (.aload_n 0, 1) := by decide +kernel
theorem dX5_dropMark_44 : decode cX5_dropMark 44 = .ok (.iload_n 2, 1) := by decide +kernel
theorem dX5_dropMark_45 : decode cX5_dropMark 45 = .ok (.putfield 19, 3) := by decide +kernel
theorem dX5_dropMark_48 : decode cX5_dropMark 48 = .ok (.return_, 1) := by decide +kernel
theorem dX5_winRag_0 : decode cX5_winRag 0 = .ok (.aload_n 0, 1) := by decide +kernel
theorem dX5_winRag_1 : decode cX5_winRag 1 = .ok (.dup, 1) := by decide +kernel
theorem dX5_winRag_2 : decode cX5_winRag 2 = .ok (.getfield 25, 3) := by decide +kernel
theorem dX5_winRag_5 : decode cX5_winRag 5 = .ok (.iconst 1, 1) := by decide +kernel
theorem dX5_winRag_6 : decode cX5_winRag 6 = .ok (.iadd, 1) := by decide +kernel
theorem dX5_winRag_7 : decode cX5_winRag 7 = .ok (.putfield 25, 3) := by decide +kernel
theorem dX5_winRag_10 : decode cX5_winRag 10 = .ok (.aload_n 0, 1) := by decide +kernel
theorem dX5_winRag_11 : decode cX5_winRag 11 = .ok (.dup, 1) := by decide +kernel
theorem dX5_winRag_12 : decode cX5_winRag 12 = .ok (.getfield 28, 3) := by decide +kernel
theorem dX5_winRag_15 : decode cX5_winRag 15 = .ok (.iload_n 1, 1) := by decide +kernel
theorem dX5_winRag_16 : decode cX5_winRag 16 = .ok (.iadd, 1) := by decide +kernel
theorem dX5_winRag_17 : decode cX5_winRag 17 = .ok (.putfield 28, 3) := by decide +kernel
theorem dX5_winRag_20 : decode cX5_winRag 20 = .ok (.aload_n 0, 1) := by decide +kernel
theorem dX5_winRag_21 : decode cX5_winRag 21 = .ok (.dup, 1) := by decide +kernel
theorem dX5_winRag_22 : decode cX5_winRag 22 = .ok (.getfield 22, 3) := by decide +kernel
theorem dX5_winRag_25 : decode cX5_winRag 25 = .ok (.iload_n 1, 1) := by decide +kernel
theorem dX5_winRag_26 : decode cX5_winRag 26 = .ok (.iadd, 1) := by decide +kernel
theorem dX5_winRag_27 : decode cX5_winRag 27 = .ok (.putfield 22, 3) := by decide +kernel
theorem dX5_winRag_30 : decode cX5_winRag 30 = .ok (.return_, 1) := by decide +kernel
set_option maxRecDepth 20000 in
theorem ggX6_init_X1_init : GoodIn wsX6_init wsX1_init := goodIn_r _ [23, 24, 2, 3, 25, 26, 27, 28, 29, 30, 31, 32, 33, 34, 35, 36, 37, 38, 39, 40, 41, 42, 43, 44, 45, 46, 47, 48, 49, 50, 51, 52, 53, 54, 55, 56, 57, 58, 59, 60, 61, 62, 101, 102, 103, 104, 105, 84, 85, 86, 87, 88, 106, 107, 108, 109, 110, 111, 112, 113, 114] (by decide +kernel) (by decide +kernel)
set_option maxRecDepth 20000 in
theorem gX6_init_X1_init : GoodIn wsX6_init (wsX1_init) := ggX6_init_X1_init
set_option maxRecDepth 20000 in
theorem ggX6_init_X2_init : GoodIn wsX6_init wsX2_init := goodIn_r _ [65, 66, 2, 3, 67, 68, 5, 6, 69, 70, 22, 23, 24, 25, 26, 27, 28, 29, 30, 31, 32, 33, 34, 35, 36, 37, 38, 39, 40, 41, 42, 43, 44, 45, 46, 47, 48, 49, 50, 51, 52, 53, 54, 55, 56, 57, 58, 59, 60, 61, 62, 94, 95, 96, 84, 85, 86, 87, 88, 101, 102, 103, 104, 105, 106, 107, 108, 109, 110, 111, 112, 113, 114] (by decide +kernel) (by decide +kernel)
set_option maxRecDepth 20000 in
theorem gX6_init_X2_init : GoodIn wsX6_init (wsX2_init) := ggX6_init_X2_init
set_option maxRecDepth 20000 in
theorem ggX6_init_X4_init : GoodIn wsX6_init wsX4_init := goodIn_r _ [73, 74, 2, 3, 75, 5, 6, 76, 77, 22, 23, 24, 25, 26, 27, 28, 29, 30, 31, 32, 33, 34, 35, 36, 37, 38, 39, 40, 41, 42, 43, 44, 45, 46, 47, 48, 49, 50, 51, 52, 53, 54, 55, 56, 57, 58, 59, 60, 61, 62, 84, 85, 86, 87, 88, 97, 98, 101, 102, 103, 104, 105, 106, 107, 108, 109, 110, 111, 112, 113, 114] (by decide +kernel) (by decide +kernel)
set_option maxRecDepth 20000 in
theorem gX6_init_X4_init : GoodIn wsX6_init (wsX4_init) := ggX6_init_X4_init
set_option maxRecDepth 20000 in
theorem ggX6_init_X3_init : GoodIn wsX6_init wsX3_init := goodIn_r _ [80, 81, 2, 3, 82, 83, 99, 100] (by decide +kernel) (by decide +kernel)
set_option maxRecDepth 20000 in
theorem gX6_init_X3_init : GoodIn wsX6_init (wsX3_init) := ggX6_init_X3_init
theorem dX6_init_0 : decode cX6_init 0 = .ok (.aload_n 0, 1) := by decide +kernel
theorem dX6_init_1 : decode cX6_init 1 = .ok (.invokespecial 1, 3) := by decide +kernel
theorem dX6_init_4 : decode cX6_init 4 = .ok (.aload_n 0, 1) := by decide +kernel
theorem dX6_init_5 : decode cX6_init 5 = .ok (.new 7, 3) := by decide +kernel
theorem dX6_init_8 : decode cX6_init 8 = .ok (.dup, 1) := by decide +kernel
theorem dX6_init_9 : decode cX6_init 9 = .ok (.invokespecial 9, 3) := by decide +kernel
theorem dX6_init_12 : decode cX6_init 12 = .ok (.putfield 10, 3) := by decide +kernel
theorem dX6_init_15 : decode cX6_init 15 = .ok (.aload_n 0, 1) := by decide +kernel
theorem dX6_init_16 : decode cX6_init 16 = .ok (.new 16, 3) := by decide +kernel
theorem dX6_init_19 : decode cX6_init 19 = .ok (.dup, 1) := by decide +kernel
theorem dX6_init_20 : decode cX6_init 20 = .ok (.invokespecial 18, 3) := by decide +kernel
theorem dX6_init_23 : decode cX6_init 23 = .ok (.putfield 19, 3) := by decide +kernel
theorem dX6_init_26 : decode cX6_init 26 = .ok (.aload_n 0, 1) := by decide +kernel
theorem dX6_init_27 : decode cX6_init 27 = .ok (.new 23, 3) := by decide +kernel
theorem dX6_init_30 : decode cX6_init 30 = .ok (.dup, 1) := by decide +kernel
theorem dX6_init_31 : decode cX6_init 31 = .ok (.invokespecial 25, 3) := by decide +kernel
theorem dX6_init_34 : decode cX6_init 34 = .ok (.putfield 26, 3) := by decide +kernel
theorem dX6_init_37 : decode cX6_init 37 = .ok (.aload_n 0, 1) := by decide +kernel
theorem dX6_init_38 : decode cX6_init 38 = .ok (.new 23, 3) := by decide +kernel
theorem dX6_init_41 : decode cX6_init 41 = .ok (.dup, 1) := by decide +kernel
theorem dX6_init_42 : decode cX6_init 42 = .ok (.invokespecial 25, 3) := by decide +kernel
theorem dX6_init_45 : decode cX6_init 45 = .ok (.putfield 30, 3) := by decide +kernel
theorem dX6_init_48 : decode cX6_init 48 = .ok (.aload_n 0, 1) := by decide +kernel
theorem dX6_init_49 : decode cX6_init 49 = .ok (.new 33, 3) := by decide +kernel
theorem dX6_init_52 : decode cX6_init 52 = .ok (.dup, 1) := by decide +kernel
theorem dX6_init_53 : decode cX6_init 53 = .ok (.invokespecial 35, 3) := by decide +kernel
theorem dX6_init_56 : decode cX6_init 56 = .ok (.putfield 36, 3) := by decide +kernel
theorem dX6_init_59 : decode cX6_init 59 = .ok (.return_, 1) := by decide +kernel
set_option maxRecDepth 20000 in
theorem ggX6_chalk_X6_takeTurn : GoodIn wsX6_chalk wsX6_takeTurn := goodIn_r _ [5, 6, 7, 8, 9, 10, 11, 12, 13, 14, 15, 16, 17, 18, 19, 20, 21, 22, 23, 24, 25, 26, 27, 28, 29, 30, 31, 32, 33, 34, 35, 36, 37, 38, 39, 40, 41, 42, 43, 44, 45, 46, 47, 48, 49, 50, 51, 52, 53, 54, 55, 56, 57, 58, 59, 60, 61, 62, 63, 64, 65, 66, 67, 68, 69, 70, 71, 72, 73, 74, 75, 76, 77, 78, 79, 80, 81, 82, 83, 84, 85, 86, 87, 88, 89, 90, 91, 92, 93, 94, 95, 96, 97, 98, 99, 100, 101, 102, 103, 104, 105, 106, 107, 108, 109, 110, 111, 112, 113, 114, 115, 116, 117, 118, 119, 120, 121, 122, 123, 124, 125, 126, 127, 128, 129, 130, 131, 132, 133, 134, 135, 136, 137, 138, 139, 140, 141, 142, 143, 144, 145, 146, 147, 148, 149, 150, 151, 152, 153, 154, 155, 156, 157, 158, 159, 160, 161, 162, 163, 164, 165, 166, 167, 168, 169, 170, 171, 172, 173, 174, 175, 176, 177, 178, 179, 180, 181, 182, 183, 184, 185, 186, 187, 188, 189, 190, 191, 192, 193, 194, 195, 196, 197, 198, 199, 200, 201, 202, 203, 204, 205, 206, 207, 208, 209, 210, 211, 212, 213, 214, 215, 216, 217, 218, 219, 220, 221, 222, 223, 224, 225, 226, 227] (by decide +kernel) (by decide +kernel)
set_option maxRecDepth 20000 in
theorem gX6_chalk_X6_takeTurn : GoodIn wsX6_chalk (wsV RX6 40 RX6 yX6_takeTurn wsX6_takeTurn) := goodIn_app (goodIn_of _ (by decide +kernel)) ggX6_chalk_X6_takeTurn
theorem dX6_chalk_0 : decode cX6_chalk 0 = .ok (.aload_n 0, 1) := by decide +kernel
theorem dX6_chalk_1 : decode cX6_chalk 1 = .ok (.bipush 99, 2) := by decide +kernel
theorem dX6_chalk_3 : decode cX6_chalk 3 = .ok (.iload_n 1, 1) := by decide +kernel
theorem dX6_chalk_4 : decode cX6_chalk 4 = .ok (.invokevirtual 40, 3) := by decide +kernel
theorem dX6_chalk_7 : decode cX6_chalk 7 = .ok (.ireturn, 1) := by decide +kernel
set_option maxRecDepth 20000 in
theorem ggX6_snip_X6_takeTurn : GoodIn wsX6_snip wsX6_takeTurn := goodIn_r _ [5, 6, 7, 8, 9, 10, 11, 12, 13, 14, 15, 16, 17, 18, 19, 20, 21, 22, 23, 24, 25, 26, 27, 28, 29, 30, 31, 32, 33, 34, 35, 36, 37, 38, 39, 40, 41, 42, 43, 44, 45, 46, 47, 48, 49, 50, 51, 52, 53, 54, 55, 56, 57, 58, 59, 60, 61, 62, 63, 64, 65, 66, 67, 68, 69, 70, 71, 72, 73, 74, 75, 76, 77, 78, 79, 80, 81, 82, 83, 84, 85, 86, 87, 88, 89, 90, 91, 92, 93, 94, 95, 96, 97, 98, 99, 100, 101, 102, 103, 104, 105, 106, 107, 108, 109, 110, 111, 112, 113, 114, 115, 116, 117, 118, 119, 120, 121, 122, 123, 124, 125, 126, 127, 128, 129, 130, 131, 132, 133, 134, 135, 136, 137, 138, 139, 140, 141, 142, 143, 144, 145, 146, 147, 148, 149, 150, 151, 152, 153, 154, 155, 156, 157, 158, 159, 160, 161, 162, 163, 164, 165, 166, 167, 168, 169, 170, 171, 172, 173, 174, 175, 176, 177, 178, 179, 180, 181, 182, 183, 184, 185, 186, 187, 188, 189, 190, 191, 192, 193, 194, 195, 196, 197, 198, 199, 200, 201, 202, 203, 204, 205, 206, 207, 208, 209, 210, 211, 212, 213, 214, 215, 216, 217, 218, 219, 220, 221, 222, 223, 224, 225, 226, 227] (by decide +kernel) (by decide +kernel)
set_option maxRecDepth 20000 in
theorem gX6_snip_X6_takeTurn : GoodIn wsX6_snip (wsV RX6 40 RX6 yX6_takeTurn wsX6_takeTurn) := goodIn_app (goodIn_of _ (by decide +kernel)) ggX6_snip_X6_takeTurn
theorem dX6_snip_0 : decode cX6_snip 0 = .ok (.aload_n 0, 1) := by decide +kernel
theorem dX6_snip_1 : decode cX6_snip 1 = .ok (.bipush 115, 2) := by decide +kernel
theorem dX6_snip_3 : decode cX6_snip 3 = .ok (.iload_n 1, 1) := by decide +kernel
theorem dX6_snip_4 : decode cX6_snip 4 = .ok (.invokevirtual 40, 3) := by decide +kernel
theorem dX6_snip_7 : decode cX6_snip 7 = .ok (.ireturn, 1) := by decide +kernel
set_option maxRecDepth 20000 in
theorem ggX6_sew_X6_takeTurn : GoodIn wsX6_sew wsX6_takeTurn := goodIn_r _ [5, 6, 7, 8, 9, 10, 11, 12, 13, 14, 15, 16, 17, 18, 19, 20, 21, 22, 23, 24, 25, 26, 27, 28, 29, 30, 31, 32, 33, 34, 35, 36, 37, 38, 39, 40, 41, 42, 43, 44, 45, 46, 47, 48, 49, 50, 51, 52, 53, 54, 55, 56, 57, 58, 59, 60, 61, 62, 63, 64, 65, 66, 67, 68, 69, 70, 71, 72, 73, 74, 75, 76, 77, 78, 79, 80, 81, 82, 83, 84, 85, 86, 87, 88, 89, 90, 91, 92, 93, 94, 95, 96, 97, 98, 99, 100, 101, 102, 103, 104, 105, 106, 107, 108, 109, 110, 111, 112, 113, 114, 115, 116, 117, 118, 119, 120, 121, 122, 123, 124, 125, 126, 127, 128, 129, 130, 131, 132, 133, 134, 135, 136, 137, 138, 139, 140, 141, 142, 143, 144, 145, 146, 147, 148, 149, 150, 151, 152, 153, 154, 155, 156, 157, 158, 159, 160, 161, 162, 163, 164, 165, 166, 167, 168, 169, 170, 171, 172, 173, 174, 175, 176, 177, 178, 179, 180, 181, 182, 183, 184, 185, 186, 187, 188, 189, 190, 191, 192, 193, 194, 195, 196, 197, 198, 199, 200, 201, 202, 203, 204, 205, 206, 207, 208, 209, 210, 211, 212, 213, 214, 215, 216, 217, 218, 219, 220, 221, 222, 223, 224, 225, 226, 227] (by decide +kernel) (by decide +kernel)
set_option maxRecDepth 20000 in
theorem gX6_sew_X6_takeTurn : GoodIn wsX6_sew (wsV RX6 40 RX6 yX6_takeTurn wsX6_takeTurn) := goodIn_app (goodIn_of _ (by decide +kernel)) ggX6_sew_X6_takeTurn
theorem dX6_sew_0 : decode cX6_sew 0 = .ok (.aload_n 0, 1) := by decide +kernel
theorem dX6_sew_1 : decode cX6_sew 1 = .ok (.bipush 119, 2) := by decide +kernel
theorem dX6_sew_3 : decode cX6_sew 3 = .ok (.iload_n 1, 1) := by decide +kernel
theorem dX6_sew_4 : decode cX6_sew 4 = .ok (.invokevirtual 40, 3) := by decide +kernel
theorem dX6_sew_7 : decode cX6_sew 7 = .ok (.ireturn, 1) := by decide +kernel
set_option maxRecDepth 20000 in
theorem ggX6_bluff_X6_takeTurn : GoodIn wsX6_bluff wsX6_takeTurn := goodIn_r _ [5, 6, 7, 8, 9, 10, 11, 12, 13, 14, 15, 16, 17, 18, 19, 20, 21, 22, 23, 24, 25, 26, 27, 28, 29, 30, 31, 32, 33, 34, 35, 36, 37, 38, 39, 40, 41, 42, 43, 44, 45, 46, 47, 48, 49, 50, 51, 52, 53, 54, 55, 56, 57, 58, 59, 60, 61, 62, 63, 64, 65, 66, 67, 68, 69, 70, 71, 72, 73, 74, 75, 76, 77, 78, 79, 80, 81, 82, 83, 84, 85, 86, 87, 88, 89, 90, 91, 92, 93, 94, 95, 96, 97, 98, 99, 100, 101, 102, 103, 104, 105, 106, 107, 108, 109, 110, 111, 112, 113, 114, 115, 116, 117, 118, 119, 120, 121, 122, 123, 124, 125, 126, 127, 128, 129, 130, 131, 132, 133, 134, 135, 136, 137, 138, 139, 140, 141, 142, 143, 144, 145, 146, 147, 148, 149, 150, 151, 152, 153, 154, 155, 156, 157, 158, 159, 160, 161, 162, 163, 164, 165, 166, 167, 168, 169, 170, 171, 172, 173, 174, 175, 176, 177, 178, 179, 180, 181, 182, 183, 184, 185, 186, 187, 188, 189, 190, 191, 192, 193, 194, 195, 196, 197, 198, 199, 200, 201, 202, 203, 204, 205, 206, 207, 208, 209, 210, 211, 212, 213, 214, 215, 216, 217, 218, 219, 220, 221, 222, 223, 224, 225, 226, 227] (by decide +kernel) (by decide +kernel)
set_option maxRecDepth 20000 in
theorem gX6_bluff_X6_takeTurn : GoodIn wsX6_bluff (wsV RX6 40 RX6 yX6_takeTurn wsX6_takeTurn) := goodIn_app (goodIn_of _ (by decide +kernel)) ggX6_bluff_X6_takeTurn
theorem dX6_bluff_0 : decode cX6_bluff 0 = .ok (.aload_n 0, 1) := by decide +kernel
theorem dX6_bluff_1 : decode cX6_bluff 1 = .ok (.bipush 98, 2) := by decide +kernel
theorem dX6_bluff_3 : decode cX6_bluff 3 = .ok (.iload_n 1, 1) := by decide +kernel
theorem dX6_bluff_4 : decode cX6_bluff 4 = .ok (.invokevirtual 40, 3) := by decide +kernel
theorem dX6_bluff_7 : decode cX6_bluff 7 = .ok (.ireturn, 1) := by decide +kernel
set_option maxRecDepth 20000 in
theorem ggX6_doubt_X6_takeTurn : GoodIn wsX6_doubt wsX6_takeTurn := goodIn_r _ [5, 6, 7, 8, 9, 10, 11, 12, 13, 14, 15, 16, 17, 18, 19, 20, 21, 22, 23, 24, 25, 26, 27, 28, 29, 30, 31, 32, 33, 34, 35, 36, 37, 38, 39, 40, 41, 42, 43, 44, 45, 46, 47, 48, 49, 50, 51, 52, 53, 54, 55, 56, 57, 58, 59, 60, 61, 62, 63, 64, 65, 66, 67, 68, 69, 70, 71, 72, 73, 74, 75, 76, 77, 78, 79, 80, 81, 82, 83, 84, 85, 86, 87, 88, 89, 90, 91, 92, 93, 94, 95, 96, 97, 98, 99, 100, 101, 102, 103, 104, 105, 106, 107, 108, 109, 110, 111, 112, 113, 114, 115, 116, 117, 118, 119, 120, 121, 122, 123, 124, 125, 126, 127, 128, 129, 130, 131, 132, 133, 134, 135, 136, 137, 138, 139, 140, 141, 142, 143, 144, 145, 146, 147, 148, 149, 150, 151, 152, 153, 154, 155, 156, 157, 158, 159, 160, 161, 162, 163, 164, 165, 166, 167, 168, 169, 170, 171, 172, 173, 174, 175, 176, 177, 178, 179, 180, 181, 182, 183, 184, 185, 186, 187, 188, 189, 190, 191, 192, 193, 194, 195, 196, 197, 198, 199, 200, 201, 202, 203, 204, 205, 206, 207, 208, 209, 210, 211, 212, 213, 214, 215, 216, 217, 218, 219, 220, 221, 222, 223, 224, 225, 226, 227] (by decide +kernel) (by decide +kernel)
set_option maxRecDepth 20000 in
theorem gX6_doubt_X6_takeTurn : GoodIn wsX6_doubt (wsV RX6 40 RX6 yX6_takeTurn wsX6_takeTurn) := goodIn_app (goodIn_of _ (by decide +kernel)) ggX6_doubt_X6_takeTurn
theorem dX6_doubt_0 : decode cX6_doubt 0 = .ok (.aload_n 0, 1) := by decide +kernel
theorem dX6_doubt_1 : decode cX6_doubt 1 = .ok (.bipush 100, 2) := by decide +kernel
theorem dX6_doubt_3 : decode cX6_doubt 3 = .ok (.iload_n 1, 1) := by decide +kernel
theorem dX6_doubt_4 : decode cX6_doubt 4 = .ok (.invokevirtual 40, 3) := by decide +kernel
theorem dX6_doubt_7 : decode cX6_doubt 7 = .ok (.ireturn, 1) := by decide +kernel
set_option maxRecDepth 20000 in
theorem ggX6_pass_X6_takeTurn : GoodIn wsX6_pass wsX6_takeTurn := goodIn_r _ [5, 6, 7, 8, 9, 10, 11, 12, 13, 14, 15, 16, 17, 18, 19, 20, 21, 22, 23, 24, 25, 26, 27, 28, 29, 30, 31, 32, 33, 34, 35, 36, 37, 38, 39, 40, 41, 42, 43, 44, 45, 46, 47, 48, 49, 50, 51, 52, 53, 54, 55, 56, 57, 58, 59, 60, 61, 62, 63, 64, 65, 66, 67, 68, 69, 70, 71, 72, 73, 74, 75, 76, 77, 78, 79, 80, 81, 82, 83, 84, 85, 86, 87, 88, 89, 90, 91, 92, 93, 94, 95, 96, 97, 98, 99, 100, 101, 102, 103, 104, 105, 106, 107, 108, 109, 110, 111, 112, 113, 114, 115, 116, 117, 118, 119, 120, 121, 122, 123, 124, 125, 126, 127, 128, 129, 130, 131, 132, 133, 134, 135, 136, 137, 138, 139, 140, 141, 142, 143, 144, 145, 146, 147, 148, 149, 150, 151, 152, 153, 154, 155, 156, 157, 158, 159, 160, 161, 162, 163, 164, 165, 166, 167, 168, 169, 170, 171, 172, 173, 174, 175, 176, 177, 178, 179, 180, 181, 182, 183, 184, 185, 186, 187, 188, 189, 190, 191, 192, 193, 194, 195, 196, 197, 198, 199, 200, 201, 202, 203, 204, 205, 206, 207, 208, 209, 210, 211, 212, 213, 214, 215, 216, 217, 218, 219, 220, 221, 222, 223, 224, 225, 226, 227] (by decide +kernel) (by decide +kernel)
set_option maxRecDepth 20000 in
theorem gX6_pass_X6_takeTurn : GoodIn wsX6_pass (wsV RX6 40 RX6 yX6_takeTurn wsX6_takeTurn) := goodIn_app (goodIn_of _ (by decide +kernel)) ggX6_pass_X6_takeTurn
theorem dX6_pass_0 : decode cX6_pass 0 = .ok (.aload_n 0, 1) := by decide +kernel
theorem dX6_pass_1 : decode cX6_pass 1 = .ok (.bipush 112, 2) := by decide +kernel
theorem dX6_pass_3 : decode cX6_pass 3 = .ok (.iconst 0, 1) := by decide +kernel
theorem dX6_pass_4 : decode cX6_pass 4 = .ok (.invokevirtual 40, 3) := by decide +kernel
theorem dX6_pass_7 : decode cX6_pass 7 = .ok (.ireturn, 1) := by decide +kernel
set_option maxRecDepth 20000 in
theorem ggX6_takeTurn_X2_note : GoodIn wsX6_takeTurn wsX2_note := goodIn_r _ [7, 8, 9, 10, 11, 12, 13, 14, 15, 16, 17, 18, 19, 20, 21, 22, 23, 24, 25, 26, 27, 28, 29, 30, 31, 32, 33, 34, 35, 36, 37, 38, 39, 40, 41, 42, 201, 202, 203, 204, 205, 206, 207, 208, 209, 210, 211, 212, 213, 214, 215, 216, 217, 218, 219, 220, 221, 222] (by decide +kernel) (by decide +kernel)
set_option maxRecDepth 20000 in
theorem gX6_takeTurn_X2_note : GoodIn wsX6_takeTurn (wsV RX6 44 RX2 yX2_note wsX2_note) := goodIn_app (goodIn_of _ (by decide +kernel)) ggX6_takeTurn_X2_note
set_option maxRecDepth 20000 in
theorem ggX6_takeTurn_X1_obey : GoodIn wsX6_takeTurn wsX1_obey := goodIn_r _ [46, 14, 47, 48, 49, 12, 50, 17, 51, 52, 53, 54, 18, 55, 56, 57, 22, 58, 26, 59, 60, 61, 62, 63, 64, 65, 66, 67, 68, 69, 70, 71, 72, 73, 74, 75, 76, 77, 78, 79, 80, 81, 82, 83, 84, 85, 86, 87, 88, 89, 90, 91, 92, 93, 94, 15, 16, 95, 96, 97, 98, 28, 27, 99, 100, 101, 32, 102, 35, 34, 103, 104, 105, 106, 107, 108, 109, 110, 111, 112, 113, 114, 115, 116, 117, 118, 24, 119, 120, 121, 122, 123, 124, 125, 126, 127, 128, 129, 130, 131, 132, 133, 134, 135, 136, 137, 138, 139, 140, 141, 142, 143, 144, 145, 146, 147, 148, 25, 149, 150, 151, 152, 153, 154, 155, 156, 157, 158, 159, 160, 161, 38, 39, 36, 162, 163, 164, 165, 166, 167, 168, 169, 170, 171, 172, 173, 174, 175, 176, 177, 178, 179, 180, 181, 182, 183, 184, 185, 204, 205, 206, 207, 208, 209, 210, 211, 212, 213, 214, 215, 216, 217, 218, 219, 220, 221, 222] (by decide +kernel) (by decide +kernel)
set_option maxRecDepth 20000 in
theorem gX6_takeTurn_X1_obey : GoodIn wsX6_takeTurn (wsV RX6 48 RX1 yX1_obey wsX1_obey) := goodIn_app (goodIn_of _ (by decide +kernel)) ggX6_takeTurn_X1_obey
set_option maxRecDepth 20000 in
theorem ggX6_takeTurn_X2_keepNoted : GoodIn wsX6_takeTurn wsX2_keepNoted := goodIn_r _ [189, 190, 191, 8, 192, 193, 194, 6, 195, 201, 202, 203] (by decide +kernel) (by decide +kernel)
set_option maxRecDepth 20000 in
theorem gX6_takeTurn_X2_keepNoted : GoodIn wsX6_takeTurn (wsV RX6 51 RX2 yX2_keepNoted wsX2_keepNoted) := goodIn_app (goodIn_of _ (by decide +kernel)) ggX6_takeTurn_X2_keepNoted
theorem dX6_takeTurn_0 : decode cX6_takeTurn 0 = .ok (.aload_n 0, 1) := by decide +kernel
theorem dX6_takeTurn_1 : decode cX6_takeTurn 1 = .ok (.getfield 19, 3) := by decide +kernel
theorem dX6_takeTurn_4 : decode cX6_takeTurn 4 = .ok (.aload_n 0, 1) := by decide +kernel
theorem dX6_takeTurn_5 : decode cX6_takeTurn 5 = .ok (.getfield 10, 3) := by decide +kernel
theorem dX6_takeTurn_8 : decode cX6_takeTurn 8 = .ok (.invokevirtual 44, 3) := by decide +kernel
theorem dX6_takeTurn_11 : decode cX6_takeTurn 11 = .ok (.aload_n 0, 1) := by decide +kernel
theorem dX6_takeTurn_12 : decode cX6_takeTurn 12 = .ok (.getfield 10, 3) := by decide +kernel
theorem dX6_takeTurn_15 : decode cX6_takeTurn 15 = .ok (.iload_n 1, 1) := by decide +kernel
theorem dX6_takeTurn_16 : decode cX6_takeTurn 16 = .ok (.iload_n 2, 1) := by decide +kernel
theorem dX6_takeTurn_17 : decode cX6_takeTurn 17 = .ok (.invokevirtual 48, 3) := by decide +kernel
theorem dX6_takeTurn_20 : decode cX6_takeTurn 20 = .ok (.istore_n 3, 1) := by decide +kernel
theorem dX6_takeTurn_21 : decode cX6_takeTurn 21 = .ok (.iload_n 3, 1) := by decide +kernel
theorem dX6_takeTurn_22 : decode cX6_takeTurn 22 = .ok (.ifCond .lt 10, 3) := by decide +kernel
theorem dX6_takeTurn_25 : decode cX6_takeTurn 25 = .ok (.aload_n 0, 1) := by decide +kernel
theorem dX6_takeTurn_26 : decode cX6_takeTurn 26 = .ok (.getfield 19, 3) := by decide +kernel
theorem dX6_takeTurn_29 : decode cX6_takeTurn 29 = .ok (.invokevirtual 51, 3) := by decide +kernel
theorem dX6_takeTurn_32 : decode cX6_takeTurn 32 = .ok (.iload_n 3, 1) := by decide +kernel
theorem dX6_takeTurn_33 : decode cX6_takeTurn 33 = .ok (.ireturn, 1) := by decide +kernel
set_option maxRecDepth 20000 in
theorem ggX6_of_X0_isJoint : GoodIn wsX6_of wsX0_isJoint := goodIn_r _ [6] (by decide +kernel) (by decide +kernel)
set_option maxRecDepth 20000 in
theorem gX6_of_X0_isJoint : GoodIn wsX6_of (va_wsS RX6 54 yX0_isJoint wsX0_isJoint) := goodIn_app (goodIn_of _ (by decide +kernel)) ggX6_of_X0_isJoint
set_option maxRecDepth 20000 in
theorem ggX6_of_X0_stateOf : GoodIn wsX6_of wsX0_stateOf := goodIn_r _ [10, 11, 12, 4, 5, 6, 92, 93, 94, 95, 96] (by decide +kernel) (by decide +kernel)
set_option maxRecDepth 20000 in
theorem gX6_of_X0_stateOf : GoodIn wsX6_of (wsV RX6 64 RX0 yX0_stateOf wsX0_stateOf) := goodIn_app (goodIn_of _ (by decide +kernel)) ggX6_of_X0_stateOf
set_option maxRecDepth 20000 in
theorem ggX6_of_X0_isVoid : GoodIn wsX6_of wsX0_isVoid := goodIn_r _ [16, 17, 18, 19, 5, 20, 21, 22, 23, 24, 25, 26, 92, 93, 94, 95, 96] (by decide +kernel) (by decide +kernel)
set_option maxRecDepth 20000 in
theorem gX6_of_X0_isVoid : GoodIn wsX6_of (wsV RX6 68 RX0 yX0_isVoid wsX0_isVoid) := goodIn_app (goodIn_of _ (by decide +kernel)) ggX6_of_X0_isVoid
set_option maxRecDepth 20000 in
theorem ggX6_of_X6_asNumber : GoodIn wsX6_of wsX6_asNumber := goodIn_r _ [30] (by decide +kernel) (by decide +kernel)
set_option maxRecDepth 20000 in
theorem gX6_of_X6_asNumber : GoodIn wsX6_of (va_wsS RX6 71 yX6_asNumber wsX6_asNumber) := goodIn_app (goodIn_of _ (by decide +kernel)) ggX6_of_X6_asNumber
set_option maxRecDepth 20000 in
theorem ggX6_of_X0_firstCell : GoodIn wsX6_of wsX0_firstCell := goodIn_r _ [23] (by decide +kernel) (by decide +kernel)
set_option maxRecDepth 20000 in
theorem gX6_of_X0_firstCell : GoodIn wsX6_of (va_wsS RX6 75 yX0_firstCell wsX0_firstCell) := goodIn_app (goodIn_of _ (by decide +kernel)) ggX6_of_X0_firstCell
set_option maxRecDepth 20000 in
theorem ggX6_of_X0_secondCell : GoodIn wsX6_of wsX0_secondCell := goodIn_r _ [34, 21, 22, 5, 23, 18, 19, 20] (by decide +kernel) (by decide +kernel)
set_option maxRecDepth 20000 in
theorem gX6_of_X0_secondCell : GoodIn wsX6_of (va_wsS RX6 78 yX0_secondCell wsX0_secondCell) := goodIn_app (goodIn_of _ (by decide +kernel)) ggX6_of_X0_secondCell
set_option maxRecDepth 20000 in
theorem ggX6_of_X1_chalkersOf : GoodIn wsX6_of wsX1_chalkersOf := goodIn_r _ [39, 40, 41, 42, 43, 44, 45, 46, 47, 48, 87, 88, 89, 90, 91, 97, 98, 99, 100, 101, 102, 103, 104, 105] (by decide +kernel) (by decide +kernel)
set_option maxRecDepth 20000 in
theorem gX6_of_X1_chalkersOf : GoodIn wsX6_of (wsV RX6 81 RX1 yX1_chalkersOf wsX1_chalkersOf) := goodIn_app (goodIn_of _ (by decide +kernel)) ggX6_of_X1_chalkersOf
set_option maxRecDepth 20000 in
theorem ggX6_of_X1_doubtableMaker : GoodIn wsX6_of wsX1_doubtableMaker := goodIn_r _ [52, 53, 54, 55, 56, 38, 57, 58, 59, 60, 61, 5, 62, 17, 63, 64, 65, 66, 67, 68, 69, 70, 14, 15, 16, 18, 19, 20, 21, 22, 23, 24, 25, 26, 71, 72, 73, 74, 75, 12, 4, 6, 87, 88, 89, 90, 91, 92, 93, 94, 95, 96] (by decide +kernel) (by decide +kernel)
set_option maxRecDepth 20000 in
theorem gX6_of_X1_doubtableMaker : GoodIn wsX6_of (wsV RX6 84 RX1 yX1_doubtableMaker wsX1_doubtableMaker) := goodIn_app (goodIn_of _ (by decide +kernel)) ggX6_of_X1_doubtableMaker
set_option maxRecDepth 20000 in
theorem ggX6_of_X0_holds : GoodIn wsX6_of wsX0_holds := goodIn_r _ [79, 80, 81, 18, 19, 5, 20, 21, 22, 23, 24, 25, 26, 92, 93, 94, 95, 96] (by decide +kernel) (by decide +kernel)
set_option maxRecDepth 20000 in
theorem gX6_of_X0_holds : GoodIn wsX6_of (wsV RX6 87 RX0 yX0_holds wsX0_holds) := goodIn_app (goodIn_of _ (by decide +kernel)) ggX6_of_X0_holds
theorem dX6_of_0 : decode cX6_of 0 = .ok (.iload_n 1, 1) := by decide +kernel
theorem dX6_of_1 : decode cX6_of 1 = .ok (.invokestatic 54, 3) := by decide +kernel
theorem dX6_of_4 : decode cX6_of 4 = .ok (.ifCond .ne 5, 3) := by decide +kernel
theorem dX6_of_7 : decode cX6_of 7 = .ok (.iconst (-1), 1) := by decide +kernel
theorem dX6_of_8 : decode cX6_of 8 = .ok (.ireturn, 1) := by decide +kernel
theorem dX6_of_9 : decode cX6_of 9 = .ok (.iload_n 2, 1) := by decide +kernel
theorem dX6_of_10 : decode cX6_of 10 = .ok (.tableswitch 112 0 6 #[42, 54, 69, 74, 79, 88, 97], 42) := by decide +kernel
theorem dX6_of_52 : decode cX6_of 52 = .ok (.aload_n 0, 1) := by decide +kernel
theorem dX6_of_53 : decode cX6_of 53 = .ok (.getfield 10, 3) := by decide +kernel
theorem dX6_of_56 : decode cX6_of 56 = .ok (.getfield 60, 3) := by decide +kernel
theorem dX6_of_59 : decode cX6_of 59 = .ok (.iload_n 1, 1) := by decide +kernel
theorem dX6_of_60 : decode cX6_of 60 = .ok (.invokevirtual 64, 3) := by decide +kernel
theorem dX6_of_63 : decode cX6_of 63 = .ok (.ireturn, 1) := by decide +kernel
theorem dX6_of_64 : decode cX6_of 64 = .ok (.aload_n 0, 1) := by decide +kernel
theorem dX6_of_65 : decode cX6_of 65 = .ok (.getfield 10, 3) := by decide +kernel
theorem dX6_of_68 : decode cX6_of 68 = .ok (.getfield 60, 3) := by decide +kernel
theorem dX6_of_71 : decode cX6_of 71 = .ok (.iload_n 1, 1) := by decide +kernel
theorem dX6_of_72 : decode cX6_of 72 = .ok (.invokevirtual 68, 3) := by decide +kernel
theorem dX6_of_75 : decode cX6_of 75 = .ok (.invokestatic 71, 3) := by decide +kernel
theorem dX6_of_78 : decode cX6_of 78 = .ok (.ireturn, 1) := by decide +kernel
theorem dX6_of_79 : decode cX6_of 79 = .ok (.iload_n 1, 1) := by decide +kernel
theorem dX6_of_80 : decode cX6_of 80 = .ok (.invokestatic 75, 3) := by decide +kernel
theorem dX6_of_83 : decode cX6_of 83 = .ok (.ireturn, 1) := by decide +kernel
theorem dX6_of_84 : decode cX6_of 84 = .ok (.iload_n 1, 1) := by decide +kernel
theorem dX6_of_85 : decode cX6_of 85 = .ok (.invokestatic 78, 3) := by decide +kernel
theorem dX6_of_88 : decode cX6_of 88 = .ok (.ireturn, 1) := by decide +kernel
theorem dX6_of_89 : decode cX6_of 89 = .ok (.aload_n 0, 1) := by decide +kernel
theorem dX6_of_90 : decode cX6_of 90 = .ok (.getfield 10, 3) := by decide +kernel
theorem dX6_of_93 : decode cX6_of 93 = .ok (.iload_n 1, 1) := by decide +kernel
theorem dX6_of_94 : decode cX6_of 94 = .ok (.invokevirtual 81, 3) := by decide +kernel
theorem dX6_of_97 : decode cX6_of 97 = .ok (.ireturn, 1) := by decide +kernel
theorem dX6_of_98 : decode cX6_of 98 = .ok (.aload_n 0, 1) := by decide +kernel
theorem dX6_of_99 : decode cX6_of 99 = .ok (.getfield 10, 3) := by decide +kernel
theorem dX6_of_102 : decode cX6_of 102 = .ok (.iload_n 1, 1) := by decide +kernel
theorem dX6_of_103 : decode cX6_of 103 = .ok (.invokevirtual 84, 3) := by decide +kernel
theorem dX6_of_106 : decode cX6_of 106 = .ok (.ireturn, 1) := by decide +kernel
theorem dX6_of_107 : decode cX6_of 107 = .ok (.aload_n 0, 1) := by decide +kernel
theorem dX6_of_108 : decode cX6_of 108 = .ok (.getfield 10, 3) := by decide +kernel
theorem dX6_of_111 : decode cX6_of 111 = .ok (.getfield 60, 3) := by decide +kernel
theorem dX6_of_114 : decode cX6_of 114 = .ok (.iload_n 1, 1) := by decide +kernel
theorem dX6_of_115 : decode cX6_of 115 = .ok (.invokevirtual 87, 3) := by decide +kernel
theorem dX6_of_118 : decode cX6_of 118 = .ok (.invokestatic 71, 3) := by decide +kernel
theorem dX6_of_121 : decode cX6_of 121 = .ok (.ireturn, 1) := by decide +kernel
theorem dX6_of_122 : decode cX6_of 122 = .ok (.bipush (-2), 2) := by decide +kernel
theorem dX6_of_124 : decode cX6_of 124 = .ok (.ireturn, 1) := by decide +kernel
set_option maxRecDepth 20000 in
theorem ggX6_cell_X0_isCell : GoodIn wsX6_cell wsX0_isCell := goodIn_r _ [6] (by decide +kernel) (by decide +kernel)
set_option maxRecDepth 20000 in
theorem gX6_cell_X0_isCell : GoodIn wsX6_cell (va_wsS RX6 90 yX0_isCell wsX0_isCell) := goodIn_app (goodIn_of _ (by decide +kernel)) ggX6_cell_X0_isCell
set_option maxRecDepth 20000 in
theorem ggX6_cell_X0_isGone : GoodIn wsX6_cell wsX0_isGone := goodIn_r _ [10, 11, 12, 13, 5, 14, 68, 69, 70, 71, 72] (by decide +kernel) (by decide +kernel)
set_option maxRecDepth 20000 in
theorem gX6_cell_X0_isGone : GoodIn wsX6_cell (wsV RX6 93 RX0 yX0_isGone wsX0_isGone) := goodIn_app (goodIn_of _ (by decide +kernel)) ggX6_cell_X0_isGone
set_option maxRecDepth 20000 in
theorem ggX6_cell_X6_asNumber : GoodIn wsX6_cell wsX6_asNumber := goodIn_r _ [18] (by decide +kernel) (by decide +kernel)
set_option maxRecDepth 20000 in
theorem gX6_cell_X6_asNumber : GoodIn wsX6_cell (va_wsS RX6 71 yX6_asNumber wsX6_asNumber) := goodIn_app (goodIn_of _ (by decide +kernel)) ggX6_cell_X6_asNumber
set_option maxRecDepth 20000 in
theorem ggX6_cell_X0_pieceOf : GoodIn wsX6_cell wsX0_pieceOf := goodIn_r _ [22, 23, 24, 25, 8, 9, 5, 10, 11, 12, 13, 14, 26, 27, 28, 68, 69, 70, 71, 72] (by decide +kernel) (by decide +kernel)
set_option maxRecDepth 20000 in
theorem gX6_cell_X0_pieceOf : GoodIn wsX6_cell (wsV RX6 96 RX0 yX0_pieceOf wsX0_pieceOf) := goodIn_app (goodIn_of _ (by decide +kernel)) ggX6_cell_X0_pieceOf
set_option maxRecDepth 20000 in
theorem ggX6_cell_J13_bitCount_95d88 : GoodIn wsX6_cell wsJ13_bitCount_95d88 := goodIn_r _ [32, 33, 34, 35] (by decide +kernel) (by decide +kernel)
set_option maxRecDepth 20000 in
theorem gX6_cell_J13_bitCount_95d88 : GoodIn wsX6_cell (va_wsS RX6 100 yJ13_bitCount_95d88 wsJ13_bitCount_95d88) := goodIn_app (goodIn_of _ (by decide +kernel)) ggX6_cell_J13_bitCount_95d88
set_option maxRecDepth 20000 in
theorem ggX6_cell_X0_lowestOfPiece : GoodIn wsX6_cell wsX0_lowestOfPiece := goodIn_r _ [39, 40, 20, 21, 5, 22, 23, 24, 25, 8, 9, 10, 11, 12, 13, 14, 26, 27, 28, 68, 69, 70, 71, 72] (by decide +kernel) (by decide +kernel)
set_option maxRecDepth 20000 in
theorem gX6_cell_X0_lowestOfPiece : GoodIn wsX6_cell (wsV RX6 106 RX0 yX0_lowestOfPiece wsX0_lowestOfPiece) := goodIn_app (goodIn_of _ (by decide +kernel)) ggX6_cell_X0_lowestOfPiece
set_option maxRecDepth 20000 in
theorem ggX6_cell_X0_holdsOn : GoodIn wsX6_cell wsX0_holdsOn := goodIn_r _ [44, 45, 46, 47, 5, 48, 24, 23, 49, 50, 51, 52, 53, 54, 12, 13, 14, 55, 56, 57, 68, 69, 70, 71, 72] (by decide +kernel) (by decide +kernel)
set_option maxRecDepth 20000 in
theorem gX6_cell_X0_holdsOn : GoodIn wsX6_cell (wsV RX6 109 RX0 yX0_holdsOn wsX0_holdsOn) := goodIn_app (goodIn_of _ (by decide +kernel)) ggX6_cell_X0_holdsOn
theorem dX6_cell_0 : decode cX6_cell 0 = .ok (.iload_n 1, 1) := by decide +kernel
theorem dX6_cell_1 : decode cX6_cell 1 = .ok (.invokestatic 90, 3) := by decide +kernel
theorem dX6_cell_4 : decode cX6_cell 4 = .ok (.ifCond .ne 5, 3) := by decide +kernel
theorem dX6_cell_7 : decode cX6_cell 7 = .ok (.iconst (-1), 1) := by decide +kernel
theorem dX6_cell_8 : decode cX6_cell 8 = .ok (.ireturn, 1) := by decide +kernel
theorem dX6_cell_9 : decode cX6_cell 9 = .ok (.iload_n 2, 1) := by decide +kernel
theorem dX6_cell_10 : decode cX6_cell 10 = .ok (.tableswitch 84 0 3 #[30, 45, 60, 72], 30) := by decide +kernel
theorem dX6_cell_40 : decode cX6_cell 40 = .ok (.aload_n 0, 1) := by decide +kernel
theorem dX6_cell_41 : decode cX6_cell 41 = .ok (.getfield 10, 3) := by decide +kernel
theorem dX6_cell_44 : decode cX6_cell 44 = .ok (.getfield 60, 3) := by decide +kernel
theorem dX6_cell_47 : decode cX6_cell 47 = .ok (.iload_n 1, 1) := by decide +kernel
theorem dX6_cell_48 : decode cX6_cell 48 = .ok (.invokevirtual 93, 3) := by decide +kernel
theorem dX6_cell_51 : decode cX6_cell 51 = .ok (.invokestatic 71, 3) := by decide +kernel
theorem dX6_cell_54 : decode cX6_cell 54 = .ok (.ireturn, 1) := by decide +kernel
theorem dX6_cell_55 : decode cX6_cell 55 = .ok (.aload_n 0, 1) := by decide +kernel
theorem dX6_cell_56 : decode cX6_cell 56 = .ok (.getfield 10, 3) := by decide +kernel
theorem dX6_cell_59 : decode cX6_cell 59 = .ok (.getfield 60, 3) := by decide +kernel
theorem dX6_cell_62 : decode cX6_cell 62 = .ok (.iload_n 1, 1) := by decide +kernel
theorem dX6_cell_63 : decode cX6_cell 63 = .ok (.invokevirtual 96, 3) := by decide +kernel
theorem dX6_cell_66 : decode cX6_cell 66 = .ok (.invokestatic 100, 3) := by decide +kernel
theorem dX6_cell_69 : decode cX6_cell 69 = .ok (.ireturn, 1) := by decide +kernel
theorem dX6_cell_70 : decode cX6_cell 70 = .ok (.aload_n 0, 1) := by decide +kernel
theorem dX6_cell_71 : decode cX6_cell 71 = .ok (.getfield 10, 3) := by decide +kernel
theorem dX6_cell_74 : decode cX6_cell 74 = .ok (.getfield 60, 3) := by decide +kernel
theorem dX6_cell_77 : decode cX6_cell 77 = .ok (.iload_n 1, 1) := by decide +kernel
theorem dX6_cell_78 : decode cX6_cell 78 = .ok (.invokevirtual 106, 3) := by decide +kernel
theorem dX6_cell_81 : decode cX6_cell 81 = .ok (.ireturn, 1) := by decide +kernel
theorem dX6_cell_82 : decode cX6_cell 82 = .ok (.aload_n 0, 1) := by decide +kernel
theorem dX6_cell_83 : decode cX6_cell 83 = .ok (.getfield 10, 3) := by decide +kernel
theorem dX6_cell_86 : decode cX6_cell 86 = .ok (.getfield 60, 3) := by decide +kernel
theorem dX6_cell_89 : decode cX6_cell 89 = .ok (.iload_n 1, 1) := by decide +kernel
theorem dX6_cell_90 : decode cX6_cell 90 = .ok (.invokevirtual 109, 3) := by decide +kernel
theorem dX6_cell_93 : decode cX6_cell 93 = .ok (.ireturn, 1) := by decide +kernel
theorem dX6_cell_94 : decode cX6_cell 94 = .ok (.bipush (-2), 2) := by decide +kernel
theorem dX6_cell_96 : decode cX6_cell 96 = .ok (.ireturn, 1) := by decide +kernel
set_option maxRecDepth 20000 in
theorem ggX6_player_X1_isPlayer : GoodIn wsX6_player wsX1_isPlayer := goodIn_r _ [13] (by decide +kernel) (by decide +kernel)
set_option maxRecDepth 20000 in
theorem gX6_player_X1_isPlayer : GoodIn wsX6_player (va_wsS RX6 112 yX1_isPlayer wsX1_isPlayer) := goodIn_app (goodIn_of _ (by decide +kernel)) ggX6_player_X1_isPlayer
set_option maxRecDepth 20000 in
theorem ggX6_player_X1_tailorOf : GoodIn wsX6_player wsX1_tailorOf := goodIn_r _ [17, 18, 19, 34, 35, 36, 37, 38] (by decide +kernel) (by decide +kernel)
set_option maxRecDepth 20000 in
theorem gX6_player_X1_tailorOf : GoodIn wsX6_player (wsV RX6 115 RX1 yX1_tailorOf wsX1_tailorOf) := goodIn_app (goodIn_of _ (by decide +kernel)) ggX6_player_X1_tailorOf
theorem dX6_player_0 : decode cX6_player 0 = .ok (.iload_n 1, 1) := by decide +kernel
theorem dX6_player_1 : decode cX6_player 1 = .ok (.invokestatic 112, 3) := by decide +kernel
theorem dX6_player_4 : decode cX6_player 4 = .ok (.ifCond .ne 5, 3) := by decide +kernel
theorem dX6_player_7 : decode cX6_player 7 = .ok (.iconst (-1), 1) := by decide +kernel
theorem dX6_player_8 : decode cX6_player 8 = .ok (.ireturn, 1) := by decide +kernel
theorem dX6_player_9 : decode cX6_player 9 = .ok (.aload_n 0, 1) := by decide +kernel
theorem dX6_player_10 : decode cX6_player 10 = .ok (.getfield 10, 3) := by decide +kernel
theorem dX6_player_13 : decode cX6_player 13 = .ok (.iload_n 1, 1) := by decide +kernel
theorem dX6_player_14 : decode cX6_player 14 = .ok (.invokevirtual 115, 3) := by decide +kernel
theorem dX6_player_17 : decode cX6_player 17 = .ok (.astore_n 3, 1) := by decide +kernel
theorem dX6_player_18 : decode cX6_player 18 = .ok (.iload_n 2, 1) := by decide +kernel
theorem dX6_player_19 : decode cX6_player 19 = .ok (.tableswitch 89 0 7 #[45, 54, 59, 64, 69, 74, 79, 84], 45) := by decide +kernel
theorem dX6_player_64 : decode cX6_player 64 = .ok (.aload_n 3, 1) := by decide +kernel
theorem dX6_player_65 : decode cX6_player 65 = .ok (.getfield 119, 3) := by decide +kernel
theorem dX6_player_68 : decode cX6_player 68 = .ok (.sipush 500, 3) := by decide +kernel
theorem dX6_player_71 : decode cX6_player 71 = .ok (.iadd, 1) := by decide +kernel
theorem dX6_player_72 : decode cX6_player 72 = .ok (.ireturn, 1) := by decide +kernel
theorem dX6_player_73 : decode cX6_player 73 = .ok (.aload_n 3, 1) := by decide +kernel
theorem dX6_player_74 : decode cX6_player 74 = .ok (.getfield 125, 3) := by decide +kernel
theorem dX6_player_77 : decode cX6_player 77 = .ok (.ireturn, 1) := by decide +kernel
theorem dX6_player_78 : decode cX6_player 78 = .ok (.aload_n 3, 1) := by decide +kernel
theorem dX6_player_79 : decode cX6_player 79 = .ok (.getfield 128, 3) := by decide +kernel
theorem dX6_player_82 : decode cX6_player 82 = .ok (.ireturn, 1) := by decide +kernel
theorem dX6_player_83 : decode cX6_player 83 = .ok (.aload_n 3, 1) := by decide +kernel
theorem dX6_player_84 : decode cX6_player 84 = .ok (.getfield 131, 3) := by decide +kernel
theorem dX6_player_87 : decode cX6_player 87 = .ok (.ireturn, 1) := by decide +kernel
theorem dX6_player_88 : decode cX6_player 88 = .ok (.aload_n 3, 1) := by decide +kernel
theorem dX6_player_89 : decode cX6_player 89 = .ok (.getfield 134, 3) := by decide +kernel
theorem dX6_player_92 : decode cX6_player 92 = .ok (.ireturn, 1) := by decide +kernel
theorem dX6_player_93 : decode cX6_player 93 = .ok (.aload_n 3, 1) := by decide +kernel
theorem dX6_player_94 : decode cX6_player 94 = .ok (.getfield 137, 3) := by decide +kernel
theorem dX6_player_97 : decode cX6_player 97 = .ok (.ireturn, 1) := by decide +kernel
theorem dX6_player_98 : decode cX6_player 98 = .ok (.aload_n 3, 1) := by decide +kernel
theorem dX6_player_99 : decode cX6_player 99 = .ok (.getfield 140, 3) := by decide +kernel
theorem dX6_player_102 : decode cX6_player 102 = .ok (.ireturn, 1) := by decide +kernel
theorem dX6_player_103 : decode cX6_player 103 = .ok (.aload_n 3, 1) := by decide +kernel
theorem dX6_player_104 : decode cX6_player 104 = .ok (.getfield 143, 3) := by decide +kernel
theorem dX6_player_107 : decode cX6_player 107 = .ok (.ireturn, 1) := by decide +kernel
theorem dX6_player_108 : decode cX6_player 108 = .ok (.bipush (-2), 2) := by decide +kernel
theorem dX6_player_110 : decode cX6_player 110 = .ok (.ireturn, 1) := by decide +kernel
set_option maxRecDepth 20000 in
theorem ggX6_chalked_X1_isPlayer : GoodIn wsX6_chalked wsX1_isPlayer := goodIn_r _ [5] (by decide +kernel) (by decide +kernel)
set_option maxRecDepth 20000 in
theorem gX6_chalked_X1_isPlayer : GoodIn wsX6_chalked (va_wsS RX6 112 yX1_isPlayer wsX1_isPlayer) := goodIn_app (goodIn_of _ (by decide +kernel)) ggX6_chalked_X1_isPlayer
set_option maxRecDepth 20000 in
theorem ggX6_chalked_X1_tailorOf : GoodIn wsX6_chalked wsX1_tailorOf := goodIn_r _ [9, 10, 11, 24, 25, 26, 27, 28] (by decide +kernel) (by decide +kernel)
set_option maxRecDepth 20000 in
theorem gX6_chalked_X1_tailorOf : GoodIn wsX6_chalked (wsV RX6 115 RX1 yX1_tailorOf wsX1_tailorOf) := goodIn_app (goodIn_of _ (by decide +kernel)) ggX6_chalked_X1_tailorOf
set_option maxRecDepth 20000 in
theorem ggX6_chalked_X5_markAt : GoodIn wsX6_chalked wsX5_markAt := goodIn_r _ [16, 17, 18, 29, 30, 31, 32, 33, 34, 35, 36, 37] (by decide +kernel) (by decide +kernel)
set_option maxRecDepth 20000 in
theorem gX6_chalked_X5_markAt : GoodIn wsX6_chalked (wsV RX6 146 RX5 yX5_markAt wsX5_markAt) := goodIn_app (goodIn_of _ (by decide +kernel)) ggX6_chalked_X5_markAt
theorem dX6_chalked_0 : decode cX6_chalked 0 = .ok (.iload_n 1, 1) := by decide +kernel
theorem dX6_chalked_1 : decode cX6_chalked 1 = .ok (.invokestatic 112, 3) := by decide +kernel
theorem dX6_chalked_4 : decode cX6_chalked 4 = .ok (.ifCond .ne 5, 3) := by decide +kernel
theorem dX6_chalked_7 : decode cX6_chalked 7 = .ok (.iconst (-1), 1) := by decide +kernel
theorem dX6_chalked_8 : decode cX6_chalked 8 = .ok (.ireturn, 1) := by decide +kernel
theorem dX6_chalked_9 : decode cX6_chalked 9 = .ok (.aload_n 0, 1) := by decide +kernel
theorem dX6_chalked_10 : decode cX6_chalked 10 = .ok (.getfield 10, 3) := by decide +kernel
theorem dX6_chalked_13 : decode cX6_chalked 13 = .ok (.iload_n 1, 1) := by decide +kernel
theorem dX6_chalked_14 : decode cX6_chalked 14 = .ok (.invokevirtual 115, 3) := by decide +kernel
theorem dX6_chalked_17 : decode cX6_chalked 17 = .ok (.iload_n 2, 1) := by decide +kernel
theorem dX6_chalked_18 : decode cX6_chalked 18 = .ok (.invokevirtual 146, 3) := by decide +kernel
theorem dX6_chalked_21 : decode cX6_chalked 21 = .ok (.ireturn, 1) := by decide +kernel
set_option maxRecDepth 20000 in
theorem ggX6_count_X1_isOver : GoodIn wsX6_count wsX1_isOver := goodIn_r _ [13, 14, 15, 16, 17, 18, 19, 20, 21, 22, 23, 24, 25, 26, 27, 28, 82, 83, 84, 85, 86, 92, 93, 94, 95, 96] (by decide +kernel) (by decide +kernel)
set_option maxRecDepth 20000 in
theorem gX6_count_X1_isOver : GoodIn wsX6_count (wsV RX6 155 RX1 yX1_isOver wsX1_isOver) := goodIn_app (goodIn_of _ (by decide +kernel)) ggX6_count_X1_isOver
set_option maxRecDepth 20000 in
theorem ggX6_count_X6_asNumber : GoodIn wsX6_count wsX6_asNumber := goodIn_r _ [32] (by decide +kernel) (by decide +kernel)
set_option maxRecDepth 20000 in
theorem gX6_count_X6_asNumber : GoodIn wsX6_count (va_wsS RX6 71 yX6_asNumber wsX6_asNumber) := goodIn_app (goodIn_of _ (by decide +kernel)) ggX6_count_X6_asNumber
set_option maxRecDepth 20000 in
theorem ggX6_count_X1_winner : GoodIn wsX6_count wsX1_winner := goodIn_r _ [36, 37, 38, 39, 40, 10, 11, 12, 13, 14, 15, 16, 17, 18, 19, 20, 21, 22, 23, 24, 25, 26, 27, 28, 82, 83, 84, 85, 86, 97, 98, 99, 100, 101, 102, 103, 104, 105, 92, 93, 94, 95, 96] (by decide +kernel) (by decide +kernel)
set_option maxRecDepth 20000 in
theorem gX6_count_X1_winner : GoodIn wsX6_count (wsV RX6 159 RX1 yX1_winner wsX1_winner) := goodIn_app (goodIn_of _ (by decide +kernel)) ggX6_count_X1_winner
set_option maxRecDepth 20000 in
theorem ggX6_count_X0_cellsLeft : GoodIn wsX6_count wsX0_cellsLeft := goodIn_r _ [20, 21, 22, 23, 24, 25, 26, 27, 28, 92, 93, 94, 95, 96] (by decide +kernel) (by decide +kernel)
set_option maxRecDepth 20000 in
theorem gX6_count_X0_cellsLeft : GoodIn wsX6_count (wsV RX6 163 RX0 yX0_cellsLeft wsX0_cellsLeft) := goodIn_app (goodIn_of _ (by decide +kernel)) ggX6_count_X0_cellsLeft
set_option maxRecDepth 20000 in
theorem ggX6_count_X0_pieces : GoodIn wsX6_count wsX0_pieces := goodIn_r _ [45, 21, 46, 47, 19, 48, 49, 50, 51, 52, 53, 54, 55, 56, 57, 58, 59, 60, 61, 92, 93, 94, 95, 96] (by decide +kernel) (by decide +kernel)
set_option maxRecDepth 20000 in
theorem gX6_count_X0_pieces : GoodIn wsX6_count (wsV RX6 166 RX0 yX0_pieces wsX0_pieces) := goodIn_app (goodIn_of _ (by decide +kernel)) ggX6_count_X0_pieces
set_option maxRecDepth 20000 in
theorem ggX6_count_X0_jointsThatAre : GoodIn wsX6_count wsX0_jointsThatAre := goodIn_r _ [65, 66, 67, 68, 69, 19, 70, 21, 71, 72, 73, 74, 75, 76, 46, 47, 48, 92, 93, 94, 95, 96] (by decide +kernel) (by decide +kernel)
set_option maxRecDepth 20000 in
theorem gX6_count_X0_jointsThatAre : GoodIn wsX6_count (wsV RX6 169 RX0 yX0_jointsThatAre wsX0_jointsThatAre) := goodIn_app (goodIn_of _ (by decide +kernel)) ggX6_count_X0_jointsThatAre
theorem dX6_count_0 : decode cX6_count 0 = .ok (.iload_n 1, 1) := by decide +kernel
theorem dX6_count_1 : decode cX6_count 1 = .ok (.tableswitch 168 0 10 #[59, 67, 75, 86, 94, 105, 116, 128, 140, 152, 160], 59) := by decide +kernel
theorem dX6_count_60 : decode cX6_count 60 = .ok (.aload_n 0, 1) := by decide +kernel
theorem dX6_count_61 : decode cX6_count 61 = .ok (.getfield 10, 3) := by decide +kernel
theorem dX6_count_64 : decode cX6_count 64 = .ok (.getfield 149, 3) := by decide +kernel
theorem dX6_count_67 : decode cX6_count 67 = .ok (.ireturn, 1) := by decide +kernel
theorem dX6_count_68 : decode cX6_count 68 = .ok (.aload_n 0, 1) := by decide +kernel
theorem dX6_count_69 : decode cX6_count 69 = .ok (.getfield 10, 3) := by decide +kernel
theorem dX6_count_72 : decode cX6_count 72 = .ok (.getfield 152, 3) := by decide +kernel
theorem dX6_count_75 : decode cX6_count 75 = .ok (.ireturn, 1) := by decide +kernel
theorem dX6_count_76 : decode cX6_count 76 = .ok (.aload_n 0, 1) := by decide +kernel
theorem dX6_count_77 : decode cX6_count 77 = .ok (.getfield 10, 3) := by decide +kernel
theorem dX6_count_80 : decode cX6_count 80 = .ok (.invokevirtual 155, 3) := by decide +kernel
theorem dX6_count_83 : decode cX6_count 83 = .ok (.invokestatic 71, 3) := by decide +kernel
theorem dX6_count_86 : decode cX6_count 86 = .ok (.ireturn, 1) := by decide +kernel
theorem dX6_count_87 : decode cX6_count 87 = .ok (.aload_n 0, 1) := by decide +kernel
theorem dX6_count_88 : decode cX6_count 88 = .ok (.getfield 10, 3) := by decide +kernel
theorem dX6_count_91 : decode cX6_count 91 = .ok (.invokevirtual 159, 3) := by decide +kernel
theorem dX6_count_94 : decode cX6_count 94 = .ok (.ireturn, 1) := by decide +kernel
theorem dX6_count_95 : decode cX6_count 95 = .ok (.aload_n 0, 1) := by decide +kernel
theorem dX6_count_96 : decode cX6_count 96 = .ok (.getfield 10, 3) := by decide +kernel
theorem dX6_count_99 : decode cX6_count 99 = .ok (.getfield 60, 3) := by decide +kernel
theorem dX6_count_102 : decode cX6_count 102 = .ok (.invokevirtual 163, 3) := by decide +kernel
theorem dX6_count_105 : decode cX6_count 105 = .ok (.ireturn, 1) := by decide +kernel
theorem dX6_count_106 : decode cX6_count 106 = .ok (.aload_n 0, 1) := by decide +kernel
theorem dX6_count_107 : decode cX6_count 107 = .ok (.getfield 10, 3) := by decide +kernel
theorem dX6_count_110 : decode cX6_count 110 = .ok (.getfield 60, 3) := by decide +kernel
theorem dX6_count_113 : decode cX6_count 113 = .ok (.invokevirtual 166, 3) := by decide +kernel
theorem dX6_count_116 : decode cX6_count 116 = .ok (.ireturn, 1) := by decide +kernel
theorem dX6_count_117 : decode cX6_count 117 = .ok (.aload_n 0, 1) := by decide +kernel
theorem dX6_count_118 : decode cX6_count 118 = .ok (.getfield 10, 3) := by decide +kernel
theorem dX6_count_121 : decode cX6_count 121 = .ok (.getfield 60, 3) := by decide +kernel
theorem dX6_count_124 : decode cX6_count 124 = .ok (.iconst 1, 1) := by decide +kernel
theorem dX6_count_125 : decode cX6_count 125 = .ok (.invokevirtual 169, 3) := by decide +kernel
theorem dX6_count_128 : decode cX6_count 128 = .ok (.ireturn, 1) := by decide +kernel
theorem dX6_count_129 : decode cX6_count 129 = .ok (.aload_n 0, 1) := by decide +kernel
theorem dX6_count_130 : decode cX6_count 130 = .ok (.getfield 10, 3) := by decide +kernel
theorem dX6_count_133 : decode cX6_count 133 = .ok (.getfield 60, 3) := by decide +kernel
theorem dX6_count_136 : decode cX6_count 136 = .ok (.iconst 2, 1) := by decide +kernel
theorem dX6_count_137 : decode cX6_count 137 = .ok (.invokevirtual 169, 3) := by decide +kernel
theorem dX6_count_140 : decode cX6_count 140 = .ok (.ireturn, 1) := by decide +kernel
theorem dX6_count_141 : decode cX6_count 141 = .ok (.aload_n 0, 1) := by decide +kernel
theorem dX6_count_142 : decode cX6_count 142 = .ok (.getfield 10, 3) := by decide +kernel
theorem dX6_count_145 : decode cX6_count 145 = .ok (.getfield 60, 3) := by decide +kernel
theorem dX6_count_148 : decode cX6_count 148 = .ok (.iconst 3, 1) := by decide +kernel
theorem dX6_count_149 : decode cX6_count 149 = .ok (.invokevirtual 169, 3) := by decide +kernel
theorem dX6_count_152 : decode cX6_count 152 = .ok (.ireturn, 1) := by decide +kernel
theorem dX6_count_153 : decode cX6_count 153 = .ok (.aload_n 0, 1) := by decide +kernel
theorem dX6_count_154 : decode cX6_count 154 = .ok (.getfield 36, 3) := by decide +kernel
theorem dX6_count_157 : decode cX6_count 157 = .ok (.getfield 172, 3) := by decide +kernel
theorem dX6_count_160 : decode cX6_count 160 = .ok (.ireturn, 1) := by decide +kernel
theorem dX6_count_161 : decode cX6_count 161 = .ok (.aload_n 0, 1) := by decide +kernel
theorem dX6_count_162 : decode cX6_count 162 = .ok (.getfield 19, 3) := by decide +kernel
theorem dX6_count_165 : decode cX6_count 165 = .ok (.getfield 175, 3) := by decide +kernel
theorem dX6_count_168 : decode cX6_count 168 = .ok (.ireturn, 1) := by decide +kernel
theorem dX6_count_169 : decode cX6_count 169 = .ok (.bipush (-2), 2) := by decide +kernel
theorem dX6_count_171 : decode cX6_count 171 = .ok (.ireturn, 1) := by decide +kernel
theorem dX6_asNumber_0 : decode cX6_asNumber 0 = .ok (.iload_n 0, 1) := by decide +kernel
theorem dX6_asNumber_1 : decode cX6_asNumber 1 = .ok (.ifCond .eq 7, 3) := by decide +kernel
theorem dX6_asNumber_4 : decode cX6_asNumber 4 = .ok (.iconst 1, 1) := by decide +kernel
theorem dX6_asNumber_5 : decode cX6_asNumber 5 = .ok (.goto 4, 3) := by decide +kernel
theorem dX6_asNumber_8 : decode cX6_asNumber 8 = .ok (.iconst 0, 1) := by decide +kernel
theorem dX6_asNumber_9 : decode cX6_asNumber 9 = .ok (.ireturn, 1) := by decide +kernel
set_option maxRecDepth 20000 in
theorem ggX6_why_X0_isJoint : GoodIn wsX6_why wsX0_isJoint := goodIn_r _ [5] (by decide +kernel) (by decide +kernel)
set_option maxRecDepth 20000 in
theorem gX6_why_X0_isJoint : GoodIn wsX6_why (va_wsS RX6 54 yX0_isJoint wsX0_isJoint) := goodIn_app (goodIn_of _ (by decide +kernel)) ggX6_why_X0_isJoint
set_option maxRecDepth 20000 in
theorem ggX6_why_X1_whyNoSnip : GoodIn wsX6_why wsX1_whyNoSnip := goodIn_r _ [10, 11, 12, 13, 14, 9, 15, 16, 17, 18, 19, 4, 20, 21, 22, 23, 24, 25, 26, 27, 28, 29, 30, 31, 32, 33, 34, 35, 36, 37, 38, 39, 40, 41, 42, 43, 44, 45, 46, 47, 3, 5, 53, 54, 55, 56, 57, 58, 59, 60, 61, 62] (by decide +kernel) (by decide +kernel)
set_option maxRecDepth 20000 in
theorem gX6_why_X1_whyNoSnip : GoodIn wsX6_why (wsV RX6 178 RX1 yX1_whyNoSnip wsX1_whyNoSnip) := goodIn_app (goodIn_of _ (by decide +kernel)) ggX6_why_X1_whyNoSnip
theorem dX6_why_0 : decode cX6_why 0 = .ok (.iload_n 1, 1) := by decide +kernel
theorem dX6_why_1 : decode cX6_why 1 = .ok (.invokestatic 54, 3) := by decide +kernel
theorem dX6_why_4 : decode cX6_why 4 = .ok (.ifCond .eq 14, 3) := by decide +kernel
theorem dX6_why_7 : decode cX6_why 7 = .ok (.aload_n 0, 1) := by decide +kernel
theorem dX6_why_8 : decode cX6_why 8 = .ok (.getfield 10, 3) := by decide +kernel
theorem dX6_why_11 : decode cX6_why 11 = .ok (.iload_n 1, 1) := by decide +kernel
theorem dX6_why_12 : decode cX6_why 12 = .ok (.invokevirtual 178, 3) := by decide +kernel
theorem dX6_why_15 : decode cX6_why 15 = .ok (.goto 4, 3) := by decide +kernel
theorem dX6_why_18 : decode cX6_why 18 = .ok (.iconst (-1), 1) := by decide +kernel
theorem dX6_why_19 : decode cX6_why 19 = .ok (.ireturn, 1) := by decide +kernel
set_option maxRecDepth 20000 in
theorem ggX6_ifSnipped_X0_isJoint : GoodIn wsX6_ifSnipped wsX0_isJoint := goodIn_r _ [6] (by decide +kernel) (by decide +kernel)
set_option maxRecDepth 20000 in
theorem gX6_ifSnipped_X0_isJoint : GoodIn wsX6_ifSnipped (va_wsS RX6 54 yX0_isJoint wsX0_isJoint) := goodIn_app (goodIn_of _ (by decide +kernel)) ggX6_ifSnipped_X0_isJoint
set_option maxRecDepth 20000 in
theorem ggX6_ifSnipped_X1_whyNoSnip : GoodIn wsX6_ifSnipped wsX1_whyNoSnip := goodIn_r _ [11, 12, 13, 14, 15, 10, 16, 17, 18, 19, 20, 5, 21, 22, 23, 24, 25, 26, 27, 28, 29, 30, 31, 32, 33, 34, 35, 36, 37, 38, 39, 40, 41, 42, 43, 44, 45, 46, 47, 48, 4, 6, 68, 69, 70, 71, 72, 73, 74, 75, 76, 77] (by decide +kernel) (by decide +kernel)
set_option maxRecDepth 20000 in
theorem gX6_ifSnipped_X1_whyNoSnip : GoodIn wsX6_ifSnipped (wsV RX6 178 RX1 yX1_whyNoSnip wsX1_whyNoSnip) := goodIn_app (goodIn_of _ (by decide +kernel)) ggX6_ifSnipped_X1_whyNoSnip
set_option maxRecDepth 20000 in
theorem ggX6_ifSnipped_X0_ragOf : GoodIn wsX6_ifSnipped wsX0_ragOf := goodIn_r _ [52, 53, 54, 55, 37, 38, 5, 39, 34, 35, 36, 56, 57, 58, 59, 60, 61, 40, 41, 42, 23, 24, 25, 26, 27, 28, 29, 73, 74, 75, 76, 77] (by decide +kernel) (by decide +kernel)
set_option maxRecDepth 20000 in
theorem gX6_ifSnipped_X0_ragOf : GoodIn wsX6_ifSnipped (wsV RX6 181 RX0 yX0_ragOf wsX0_ragOf) := goodIn_app (goodIn_of _ (by decide +kernel)) ggX6_ifSnipped_X0_ragOf
set_option maxRecDepth 20000 in
theorem ggX6_ifSnipped_J13_bitCount_95d88 : GoodIn wsX6_ifSnipped wsJ13_bitCount_95d88 := goodIn_r _ [26, 27, 28, 29] (by decide +kernel) (by decide +kernel)
set_option maxRecDepth 20000 in
theorem gX6_ifSnipped_J13_bitCount_95d88 : GoodIn wsX6_ifSnipped (va_wsS RX6 100 yJ13_bitCount_95d88 wsJ13_bitCount_95d88) := goodIn_app (goodIn_of _ (by decide +kernel)) ggX6_ifSnipped_J13_bitCount_95d88
theorem dX6_ifSnipped_0 : decode cX6_ifSnipped 0 = .ok (.iload_n 1, 1) := by decide +kernel
theorem dX6_ifSnipped_1 : decode cX6_ifSnipped 1 = .ok (.invokestatic 54, 3) := by decide +kernel
theorem dX6_ifSnipped_4 : decode cX6_ifSnipped 4 = .ok (.ifCond .ne 5, 3) := by decide +kernel
theorem dX6_ifSnipped_7 : decode cX6_ifSnipped 7 = .ok (.iconst (-1), 1) := by decide +kernel
theorem dX6_ifSnipped_8 : decode cX6_ifSnipped 8 = .ok (.ireturn, 1) := by decide +kernel
theorem dX6_ifSnipped_9 : decode cX6_ifSnipped 9 = .ok (.aload_n 0, 1) := by decide +kernel
theorem dX6_ifSnipped_10 : decode cX6_ifSnipped 10 = .ok (.getfield 10, 3) := by decide +kernel
theorem dX6_ifSnipped_13 : decode cX6_ifSnipped 13 = .ok (.iload_n 1, 1) := by decide +kernel
theorem dX6_ifSnipped_14 : decode cX6_ifSnipped 14 = .ok (.invokevirtual 178, 3) := by decide +kernel
theorem dX6_ifSnipped_17 : decode cX6_ifSnipped 17 = .ok (.ifCond .eq 6, 3) := by decide +kernel
theorem dX6_ifSnipped_20 : decode cX6_ifSnipped 20 = .ok (.bipush (-5), 2) := by decide +kernel
theorem dX6_ifSnipped_22 : decode cX6_ifSnipped 22 = .ok (.ireturn, 1) := by decide +kernel
theorem dX6_ifSnipped_23 : decode cX6_ifSnipped 23 = .ok (.aload_n 0, 1) := by decide +kernel
theorem dX6_ifSnipped_24 : decode cX6_ifSnipped 24 = .ok (.getfield 10, 3) := by decide +kernel
theorem dX6_ifSnipped_27 : decode cX6_ifSnipped 27 = .ok (.getfield 60, 3) := by decide +kernel
theorem dX6_ifSnipped_30 : decode cX6_ifSnipped 30 = .ok (.iload_n 1, 1) := by decide +kernel
theorem dX6_ifSnipped_31 : decode cX6_ifSnipped 31 = .ok (.invokevirtual 181, 3) := by decide +kernel
theorem dX6_ifSnipped_34 : decode cX6_ifSnipped 34 = .ok (.invokestatic 100, 3) := by decide +kernel
theorem dX6_ifSnipped_37 : decode cX6_ifSnipped 37 = .ok (.ireturn, 1) := by decide +kernel
set_option maxRecDepth 20000 in
theorem ggX6_bestSnip_X1_bestJoint : GoodIn wsX6_bestSnip wsX1_bestJoint := goodIn_r _ [6, 7, 8, 9, 5, 10, 11, 12, 13, 14, 15, 16, 17, 18, 19, 20, 21, 22, 23, 24, 25, 26, 27, 28, 29, 30, 31, 32, 33, 34, 35, 36, 37, 38, 39, 40, 41, 42, 43, 44, 45, 46, 47, 48, 49, 50, 51, 52, 53, 54, 55, 56, 57, 58, 59, 60, 61, 62, 63, 64, 65, 66, 67, 68, 69, 70, 71, 72, 73, 74, 75, 76, 77, 78, 79, 80, 81, 82, 89, 90, 91, 92, 93, 94, 95, 96, 97, 98, 99, 100, 101, 102, 103, 104, 105, 106, 107] (by decide +kernel) (by decide +kernel)
set_option maxRecDepth 20000 in
theorem gX6_bestSnip_X1_bestJoint : GoodIn wsX6_bestSnip (wsV RX6 184 RX1 yX1_bestJoint wsX1_bestJoint) := goodIn_app (goodIn_of _ (by decide +kernel)) ggX6_bestSnip_X1_bestJoint
set_option maxRecDepth 20000 in
theorem ggX6_bestSnip_X1_openGain : GoodIn wsX6_bestSnip wsX1_openGain := goodIn_r _ [54, 55, 11, 56, 57, 58, 5, 59, 60, 61, 62, 63, 64, 65, 66, 67, 68, 69, 70, 71, 20, 72, 73, 74, 75, 37, 38, 39, 34, 35, 36, 76, 77, 78, 79, 80, 81, 40, 41, 42, 23, 24, 25, 26, 27, 28, 29, 82, 89, 90, 91, 92, 93, 99, 100, 101, 102, 103, 104, 105, 106, 107, 94, 95, 96, 97, 98] (by decide +kernel) (by decide +kernel)
set_option maxRecDepth 20000 in
theorem gX6_bestSnip_X1_openGain : GoodIn wsX6_bestSnip (wsV RX6 187 RX1 yX1_openGain wsX1_openGain) := goodIn_app (goodIn_of _ (by decide +kernel)) ggX6_bestSnip_X1_openGain
theorem dX6_bestSnip_0 : decode cX6_bestSnip 0 = .ok (.iload_n 1, 1) := by decide +kernel
theorem dX6_bestSnip_1 : decode cX6_bestSnip 1 = .ok (.ifCond .eq 11, 3) := by decide +kernel
theorem dX6_bestSnip_4 : decode cX6_bestSnip 4 = .ok (.iload_n 1, 1) := by decide +kernel
theorem dX6_bestSnip_5 : decode cX6_bestSnip 5 = .ok (.iconst 1, 1) := by decide +kernel
theorem dX6_bestSnip_6 : decode cX6_bestSnip 6 = .ok (.if_icmp .eq 6, 3) := by decide +kernel
theorem dX6_bestSnip_9 : decode cX6_bestSnip 9 = .ok (.bipush (-2), 2) := by decide +kernel
theorem dX6_bestSnip_11 : decode cX6_bestSnip 11 = .ok (.ireturn, 1) := by decide +kernel
theorem dX6_bestSnip_12 : decode cX6_bestSnip 12 = .ok (.aload_n 0, 1) := by decide +kernel
theorem dX6_bestSnip_13 : decode cX6_bestSnip 13 = .ok (.getfield 10, 3) := by decide +kernel
theorem dX6_bestSnip_16 : decode cX6_bestSnip 16 = .ok (.invokevirtual 184, 3) := by decide +kernel
theorem dX6_bestSnip_19 : decode cX6_bestSnip 19 = .ok (.istore_n 2, 1) := by decide +kernel
theorem dX6_bestSnip_20 : decode cX6_bestSnip 20 = .ok (.iload_n 1, 1) := by decide +kernel
theorem dX6_bestSnip_21 : decode cX6_bestSnip 21 = .ok (.ifCond .eq 9, 3) := by decide +kernel
theorem dX6_bestSnip_24 : decode cX6_bestSnip 24 = .ok (.iload_n 2, 1) := by decide +kernel
theorem dX6_bestSnip_25 : decode cX6_bestSnip 25 = .ok (.bipush (-6), 2) := by decide +kernel
theorem dX6_bestSnip_27 : decode cX6_bestSnip 27 = .ok (.if_icmp .ne 7, 3) := by decide +kernel
theorem dX6_bestSnip_30 : decode cX6_bestSnip 30 = .ok (.iload_n 2, 1) := by decide +kernel
theorem dX6_bestSnip_31 : decode cX6_bestSnip 31 = .ok (.goto 11, 3) := by decide +kernel
theorem dX6_bestSnip_34 : decode cX6_bestSnip 34 = .ok (.aload_n 0, 1) := by decide +kernel
theorem dX6_bestSnip_35 : decode cX6_bestSnip 35 = .ok (.getfield 10, 3) := by decide +kernel
theorem dX6_bestSnip_38 : decode cX6_bestSnip 38 = .ok (.iload_n 2, 1) := by decide +kernel
theorem dX6_bestSnip_39 : decode cX6_bestSnip 39 = .ok (.invokevirtual 187, 3) := by decide +kernel
theorem dX6_bestSnip_42 : decode cX6_bestSnip 42 = .ok (.ireturn, 1) := by decide +kernel
set_option maxRecDepth 20000 in
theorem ggX6_weak_X1_isOver : GoodIn wsX6_weak wsX1_isOver := goodIn_r _ [7, 8, 9, 10, 11, 12, 13, 14, 15, 16, 17, 18, 19, 20, 21, 22, 58, 59, 60, 61, 62, 63, 64, 65, 66, 67] (by decide +kernel) (by decide +kernel)
set_option maxRecDepth 20000 in
theorem gX6_weak_X1_isOver : GoodIn wsX6_weak (wsV RX6 155 RX1 yX1_isOver wsX1_isOver) := goodIn_app (goodIn_of _ (by decide +kernel)) ggX6_weak_X1_isOver
set_option maxRecDepth 20000 in
theorem ggX6_weak_X0_weakJoints : GoodIn wsX6_weak wsX0_weakJoints := goodIn_r _ [26, 27, 28, 29, 13, 30, 31, 32, 33, 34, 35, 36, 37, 38, 39, 40, 41, 42, 43, 44, 45, 46, 47, 48, 49, 50, 51, 52, 16, 17, 18, 19, 20, 21, 22, 63, 64, 65, 66, 67] (by decide +kernel) (by decide +kernel)
set_option maxRecDepth 20000 in
theorem gX6_weak_X0_weakJoints : GoodIn wsX6_weak (wsV RX6 190 RX0 yX0_weakJoints wsX0_weakJoints) := goodIn_app (goodIn_of _ (by decide +kernel)) ggX6_weak_X0_weakJoints
theorem dX6_weak_0 : decode cX6_weak 0 = .ok (.aload_n 0, 1) := by decide +kernel
theorem dX6_weak_1 : decode cX6_weak 1 = .ok (.getfield 10, 3) := by decide +kernel
theorem dX6_weak_4 : decode cX6_weak 4 = .ok (.invokevirtual 155, 3) := by decide +kernel
theorem dX6_weak_7 : decode cX6_weak 7 = .ok (.ifCond .eq 7, 3) := by decide +kernel
theorem dX6_weak_10 : decode cX6_weak 10 = .ok (.iconst 0, 1) := by decide +kernel
theorem dX6_weak_11 : decode cX6_weak 11 = .ok (.goto 13, 3) := by decide +kernel
theorem dX6_weak_14 : decode cX6_weak 14 = .ok (.aload_n 0, 1) := by decide +kernel
theorem dX6_weak_15 : decode cX6_weak 15 = .ok (.getfield 10, 3) := by decide +kernel
theorem dX6_weak_18 : decode cX6_weak 18 = .ok (.getfield 60, 3) := by decide +kernel
theorem dX6_weak_21 : decode cX6_weak 21 = .ok (.invokevirtual 190, 3) := by decide +kernel
theorem dX6_weak_24 : decode cX6_weak 24 = .ok (.ireturn, 1) := by decide +kernel
set_option maxRecDepth 20000 in
theorem ggX6_together_X0_isCell : GoodIn wsX6_together wsX0_isCell := goodIn_r _ [6] (by decide +kernel) (by decide +kernel)
set_option maxRecDepth 20000 in
theorem gX6_together_X0_isCell : GoodIn wsX6_together (va_wsS RX6 90 yX0_isCell wsX0_isCell) := goodIn_app (goodIn_of _ (by decide +kernel)) ggX6_together_X0_isCell
set_option maxRecDepth 20000 in
theorem ggX6_together_X0_isGone : GoodIn wsX6_together wsX0_isGone := goodIn_r _ [10, 11, 12, 13, 5, 14, 55, 56, 57, 58, 59] (by decide +kernel) (by decide +kernel)
set_option maxRecDepth 20000 in
theorem gX6_together_X0_isGone : GoodIn wsX6_together (wsV RX6 93 RX0 yX0_isGone wsX0_isGone) := goodIn_app (goodIn_of _ (by decide +kernel)) ggX6_together_X0_isGone
set_option maxRecDepth 20000 in
theorem ggX6_together_X0_pieceOf : GoodIn wsX6_together wsX0_pieceOf := goodIn_r _ [18, 19, 20, 21, 8, 9, 5, 10, 11, 12, 13, 14, 22, 23, 24, 55, 56, 57, 58, 59] (by decide +kernel) (by decide +kernel)
set_option maxRecDepth 20000 in
theorem gX6_together_X0_pieceOf : GoodIn wsX6_together (wsV RX6 96 RX0 yX0_pieceOf wsX0_pieceOf) := goodIn_app (goodIn_of _ (by decide +kernel)) ggX6_together_X0_pieceOf
set_option maxRecDepth 20000 in
theorem ggX6_together_X0_pieceIfBluffedHeld : GoodIn wsX6_together wsX0_pieceIfBluffedHeld := goodIn_r _ [28, 19, 20, 29, 30, 31, 32, 5, 33, 11, 34, 35, 36, 37, 38, 39, 12, 13, 14, 22, 23, 24, 55, 56, 57, 58, 59] (by decide +kernel) (by decide +kernel)
set_option maxRecDepth 20000 in
theorem gX6_together_X0_pieceIfBluffedHeld : GoodIn wsX6_together (wsV RX6 193 RX0 yX0_pieceIfBluffedHeld wsX0_pieceIfBluffedHeld) := goodIn_app (goodIn_of _ (by decide +kernel)) ggX6_together_X0_pieceIfBluffedHeld
set_option maxRecDepth 20000 in
theorem ggX6_together_X0_has : GoodIn wsX6_together wsX0_has := goodIn_r _ [14] (by decide +kernel) (by decide +kernel)
set_option maxRecDepth 20000 in
theorem gX6_together_X0_has : GoodIn wsX6_together (va_wsS RX6 196 yX0_has wsX0_has) := goodIn_app (goodIn_of _ (by decide +kernel)) ggX6_together_X0_has
set_option maxRecDepth 20000 in
theorem ggX6_together_X6_asNumber : GoodIn wsX6_together wsX6_asNumber := goodIn_r _ [44] (by decide +kernel) (by decide +kernel)
set_option maxRecDepth 20000 in
theorem gX6_together_X6_asNumber : GoodIn wsX6_together (va_wsS RX6 71 yX6_asNumber wsX6_asNumber) := goodIn_app (goodIn_of _ (by decide +kernel)) ggX6_together_X6_asNumber
theorem dX6_together_0 : decode cX6_together 0 = .ok (.iload_n 1, 1) := by decide +kernel
theorem dX6_together_1 : decode cX6_together 1 = .ok (.invokestatic 90, 3) := by decide +kernel
theorem dX6_together_4 : decode cX6_together 4 = .ok (.ifCond .eq 10, 3) := by decide +kernel
theorem dX6_together_7 : decode cX6_together 7 = .ok (.iload_n 2, 1) := by decide +kernel
theorem dX6_together_8 : decode cX6_together 8 = .ok (.invokestatic 90, 3) := by decide +kernel
theorem dX6_together_11 : decode cX6_together 11 = .ok (.ifCond .ne 5, 3) := by decide +kernel
theorem dX6_together_14 : decode cX6_together 14 = .ok (.iconst (-1), 1) := by decide +kernel
theorem dX6_together_15 : decode cX6_together 15 = .ok (.ireturn, 1) := by decide +kernel
theorem dX6_together_16 : decode cX6_together 16 = .ok (.iload_n 3, 1) := by decide +kernel
theorem dX6_together_17 : decode cX6_together 17 = .ok (.ifCond .eq 11, 3) := by decide +kernel
theorem dX6_together_20 : decode cX6_together 20 = .ok (.iload_n 3, 1) := by decide +kernel
theorem dX6_together_21 : decode cX6_together 21 = .ok (.iconst 1, 1) := by decide +kernel
theorem dX6_together_22 : decode cX6_together 22 = .ok (.if_icmp .eq 6, 3) := by decide +kernel
theorem dX6_together_25 : decode cX6_together 25 = .ok (.bipush (-2), 2) := by decide +kernel
theorem dX6_together_27 : decode cX6_together 27 = .ok (.ireturn, 1) := by decide +kernel
theorem dX6_together_28 : decode cX6_together 28 = .ok (.aload_n 0, 1) := by decide +kernel
theorem dX6_together_29 : decode cX6_together 29 = .ok (.getfield 10, 3) := by decide +kernel
theorem dX6_together_32 : decode cX6_together 32 = .ok (.getfield 60, 3) := by decide +kernel
theorem dX6_together_35 : decode cX6_together 35 = .ok (.iload_n 1, 1) := by decide +kernel
theorem dX6_together_36 : decode cX6_together 36 = .ok (.invokevirtual 93, 3) := by decide +kernel
theorem dX6_together_39 : decode cX6_together 39 = .ok (.ifCond .ne 17, 3) := by decide +kernel
theorem dX6_together_42 : decode cX6_together 42 = .ok (.aload_n 0, 1) := by decide +kernel
theorem dX6_together_43 : decode cX6_together 43 = .ok (.getfield 10, 3) := by decide +kernel
theorem dX6_together_46 : decode cX6_together 46 = .ok (.getfield 60, 3) := by decide +kernel
theorem dX6_together_49 : decode cX6_together 49 = .ok (.iload_n 2, 1) := by decide +kernel
theorem dX6_together_50 : decode cX6_together 50 = .ok (.invokevirtual 93, 3) := by decide +kernel
theorem dX6_together_53 : decode cX6_together 53 = .ok (.ifCond .eq 6, 3) := by decide +kernel
theorem dX6_together_56 : decode cX6_together 56 = .ok (.bipush (-5), 2) := by decide +kernel
theorem dX6_together_58 : decode cX6_together 58 = .ok (.ireturn, 1) := by decide +kernel
theorem dX6_together_59 : decode cX6_together 59 = .ok (.iload_n 3, 1) := by decide +kernel
theorem dX6_together_60 : decode cX6_together 60 = .ok (.ifCond .ne 17, 3) := by decide +kernel
theorem dX6_together_63 : decode cX6_together 63 = .ok (.aload_n 0, 1) := by decide +kernel
theorem dX6_together_64 : decode cX6_together 64 = .ok (.getfield 10, 3) := by decide +kernel
theorem dX6_together_67 : decode cX6_together 67 = .ok (.getfield 60, 3) := by decide +kernel
theorem dX6_together_70 : decode cX6_together 70 = .ok (.iload_n 1, 1) := by decide +kernel
theorem dX6_together_71 : decode cX6_together 71 = .ok (.invokevirtual 96, 3) := by decide +kernel
theorem dX6_together_74 : decode cX6_together 74 = .ok (.goto 14, 3) := by decide +kernel
theorem dX6_together_77 : decode cX6_together 77 = .ok (.aload_n 0, 1) := by decide +kernel
theorem dX6_together_78 : decode cX6_together 78 = .ok (.getfield 10, 3) := by decide +kernel
theorem dX6_together_81 : decode cX6_together 81 = .ok (.getfield 60, 3) := by decide +kernel
theorem dX6_together_84 : decode cX6_together 84 = .ok (.iload_n 1, 1) := by decide +kernel
theorem dX6_together_85 : decode cX6_together 85 = .ok (.invokevirtual 193, 3) := by decide +kernel
theorem dX6_together_88 : decode cX6_together 88 = .ok (.lstore 4, 2) := by decide +kernel
theorem dX6_together_90 : decode cX6_together 90 = .ok (.lload 4, 2) := by decide +kernel
theorem dX6_together_92 : decode cX6_together 92 = .ok (.iload_n 2, 1) := by decide +kernel
theorem dX6_together_93 : decode cX6_together 93 = .ok (.invokestatic 196, 3) := by decide +kernel
theorem dX6_together_96 : decode cX6_together 96 = .ok (.invokestatic 71, 3) := by decide +kernel
theorem dX6_together_99 : decode cX6_together 99 = .ok (.ireturn, 1) := by decide +kernel
set_option maxRecDepth 20000 in
theorem ggX6_put_X3_append : GoodIn wsX6_put wsX3_append := goodIn_r _ [6, 7, 8, 9, 10, 11, 5, 12, 13, 14, 20, 21] (by decide +kernel) (by decide +kernel)
set_option maxRecDepth 20000 in
theorem gX6_put_X3_append : GoodIn wsX6_put (wsV RX6 200 RX3 yX3_append wsX3_append) := goodIn_app (goodIn_of _ (by decide +kernel)) ggX6_put_X3_append
theorem dX6_put_0 : decode cX6_put 0 = .ok (.aload_n 0, 1) := by decide +kernel
theorem dX6_put_1 : decode cX6_put 1 = .ok (.getfield 36, 3) := by decide +kernel
theorem dX6_put_4 : decode cX6_put 4 = .ok (.lload_n 1, 1) := by decide +kernel
theorem dX6_put_5 : decode cX6_put 5 = .ok (.invokevirtual 200, 3) := by decide +kernel
theorem dX6_put_8 : decode cX6_put 8 = .ok (.ireturn, 1) := by decide +kernel
set_option maxRecDepth 20000 in
theorem ggX6_wipe_X3_clear : GoodIn wsX6_wipe wsX3_clear := goodIn_r _ [6, 7, 13, 14] (by decide +kernel) (by decide +kernel)
set_option maxRecDepth 20000 in
theorem gX6_wipe_X3_clear : GoodIn wsX6_wipe (wsV RX6 203 RX3 yX3_clear wsX3_clear) := goodIn_app (goodIn_of _ (by decide +kernel)) ggX6_wipe_X3_clear
theorem dX6_wipe_0 : decode cX6_wipe 0 = .ok (.aload_n 0, 1) := by decide +kernel
theorem dX6_wipe_1 : decode cX6_wipe 1 = .ok (.getfield 36, 3) := by decide +kernel
theorem dX6_wipe_4 : decode cX6_wipe 4 = .ok (.invokevirtual 203, 3) := by decide +kernel
theorem dX6_wipe_7 : decode cX6_wipe 7 = .ok (.ireturn, 1) := by decide +kernel
set_option maxRecDepth 20000 in
theorem ggX6_fault_X3_firstFault : GoodIn wsX6_fault wsX3_firstFault := goodIn_r _ [6, 7, 8, 9, 10, 5, 11, 12, 13, 14, 15, 16, 17, 23, 24] (by decide +kernel) (by decide +kernel)
set_option maxRecDepth 20000 in
theorem gX6_fault_X3_firstFault : GoodIn wsX6_fault (wsV RX6 206 RX3 yX3_firstFault wsX3_firstFault) := goodIn_app (goodIn_of _ (by decide +kernel)) ggX6_fault_X3_firstFault
theorem dX6_fault_0 : decode cX6_fault 0 = .ok (.aload_n 0, 1) := by decide +kernel
theorem dX6_fault_1 : decode cX6_fault 1 = .ok (.getfield 36, 3) := by decide +kernel
theorem dX6_fault_4 : decode cX6_fault 4 = .ok (.invokevirtual 206, 3) := by decide +kernel
theorem dX6_fault_7 : decode cX6_fault 7 = .ok (.ireturn, 1) := by decide +kernel
set_option maxRecDepth 20000 in
theorem ggX6_carryOut_X3_firstFault : GoodIn wsX6_carryOut wsX3_firstFault := goodIn_r _ [8, 9, 10, 11, 12, 7, 13, 14, 15, 16, 17, 18, 19, 233, 234] (by decide +kernel) (by decide +kernel)
set_option maxRecDepth 20000 in
theorem gX6_carryOut_X3_firstFault : GoodIn wsX6_carryOut (wsV RX6 206 RX3 yX3_firstFault wsX3_firstFault) := goodIn_app (goodIn_of _ (by decide +kernel)) ggX6_carryOut_X3_firstFault
set_option maxRecDepth 20000 in
theorem ggX6_carryOut_X2_note : GoodIn wsX6_carryOut wsX2_note := goodIn_r _ [24, 25, 26, 27, 28, 29, 30, 31, 32, 33, 34, 35, 36, 37, 38, 39, 40, 41, 42, 43, 44, 45, 46, 47, 48, 49, 50, 51, 52, 53, 54, 55, 56, 57, 58, 59, 235, 236, 237, 238, 239, 240, 241, 242, 243, 244, 245, 246, 247, 248, 249, 250, 251, 252, 253, 254, 255, 256] (by decide +kernel) (by decide +kernel)
set_option maxRecDepth 20000 in
theorem gX6_carryOut_X2_note : GoodIn wsX6_carryOut (wsV RX6 44 RX2 yX2_note wsX2_note) := goodIn_app (goodIn_of _ (by decide +kernel)) ggX6_carryOut_X2_note
set_option maxRecDepth 20000 in
theorem ggX6_carryOut_X2_keepNoted : GoodIn wsX6_carryOut wsX2_keepNoted := goodIn_r _ [63, 64, 65, 25, 66, 67, 68, 23, 69, 235, 236, 237] (by decide +kernel) (by decide +kernel)
set_option maxRecDepth 20000 in
theorem gX6_carryOut_X2_keepNoted : GoodIn wsX6_carryOut (wsV RX6 51 RX2 yX2_keepNoted wsX2_keepNoted) := goodIn_app (goodIn_of _ (by decide +kernel)) ggX6_carryOut_X2_keepNoted
set_option maxRecDepth 20000 in
theorem ggX6_carryOut_X6_obeyPad : GoodIn wsX6_carryOut wsX6_obeyPad := goodIn_r _ [74, 1, 75, 3, 76, 77, 78, 7, 79, 9, 10, 80, 81, 82, 29, 83, 31, 84, 85, 86, 87, 34, 88, 89, 90, 91, 35, 92, 93, 94, 39, 95, 43, 96, 97, 98, 99, 100, 101, 102, 103, 104, 105, 106, 107, 108, 109, 110, 111, 112, 113, 114, 115, 116, 117, 118, 119, 120, 121, 122, 123, 124, 125, 126, 127, 128, 129, 130, 131, 32, 33, 132, 133, 134, 135, 45, 44, 136, 137, 138, 49, 139, 52, 51, 140, 141, 142, 143, 144, 145, 146, 147, 148, 149, 150, 151, 152, 153, 154, 155, 41, 156, 157, 158, 159, 160, 161, 162, 163, 164, 165, 166, 167, 168, 169, 170, 171, 172, 173, 174, 175, 176, 177, 178, 179, 180, 181, 182, 183, 184, 185, 42, 186, 187, 188, 189, 190, 191, 192, 193, 194, 195, 196, 197, 198, 55, 56, 53, 199, 200, 201, 202, 203, 204, 205, 206, 207, 208, 209, 210, 211, 212, 213, 214, 215, 216, 217, 218, 219, 220, 221, 222, 223, 18, 19, 228, 229, 230, 231, 232, 233, 234, 238, 239, 240, 241, 242, 243, 244, 245, 246, 247, 248, 249, 250, 251, 252, 253, 254, 255, 256] (by decide +kernel) (by decide +kernel)
set_option maxRecDepth 20000 in
theorem gX6_carryOut_X6_obeyPad : GoodIn wsX6_carryOut (wsV RX6 209 RX6 yX6_obeyPad wsX6_obeyPad) := goodIn_app (goodIn_of _ (by decide +kernel)) ggX6_carryOut_X6_obeyPad
set_option maxRecDepth 20000 in
theorem ggX6_carryOut_X3_clear : GoodIn wsX6_carryOut wsX3_clear := goodIn_r _ [227, 9, 233, 234] (by decide +kernel) (by decide +kernel)
set_option maxRecDepth 20000 in
theorem gX6_carryOut_X3_clear : GoodIn wsX6_carryOut (wsV RX6 203 RX3 yX3_clear wsX3_clear) := goodIn_app (goodIn_of _ (by decide +kernel)) ggX6_carryOut_X3_clear
theorem dX6_carryOut_0 : decode cX6_carryOut 0 = .ok (.aload_n 0, 1) := by decide +kernel
theorem dX6_carryOut_1 : decode cX6_carryOut 1 = .ok (.getfield 36, 3) := by decide +kernel
theorem dX6_carryOut_4 : decode cX6_carryOut 4 = .ok (.invokevirtual 206, 3) := by decide +kernel
theorem dX6_carryOut_7 : decode cX6_carryOut 7 = .ok (.bipush (-6), 2) := by decide +kernel
theorem dX6_carryOut_9 : decode cX6_carryOut 9 = .ok (.if_icmp .eq 6, 3) := by decide +kernel
theorem dX6_carryOut_12 : decode cX6_carryOut 12 = .ok (.bipush (-3), 2) := by decide +kernel
theorem dX6_carryOut_14 : decode cX6_carryOut 14 = .ok (.ireturn, 1) := by decide +kernel
theorem dX6_carryOut_15 : decode cX6_carryOut 15 = .ok (.aload_n 0, 1) := by decide +kernel
theorem dX6_carryOut_16 : decode cX6_carryOut 16 = .ok (.getfield 19, 3) := by decide +kernel
theorem dX6_carryOut_19 : decode cX6_carryOut 19 = .ok (.aload_n 0, 1) := by decide +kernel
theorem dX6_carryOut_20 : decode cX6_carryOut 20 = .ok (.getfield 10, 3) := by decide +kernel
theorem dX6_carryOut_23 : decode cX6_carryOut 23 = .ok (.invokevirtual 44, 3) := by decide +kernel
theorem dX6_carryOut_26 : decode cX6_carryOut 26 = .ok (.aload_n 0, 1) := by decide +kernel
theorem dX6_carryOut_27 : decode cX6_carryOut 27 = .ok (.getfield 19, 3) := by decide +kernel
theorem dX6_carryOut_30 : decode cX6_carryOut 30 = .ok (.invokevirtual 51, 3) := by decide +kernel
theorem dX6_carryOut_33 : decode cX6_carryOut 33 = .ok (.aload_n 0, 1) := by decide +kernel
theorem dX6_carryOut_34 : decode cX6_carryOut 34 = .ok (.invokevirtual 209, 3) := by decide +kernel
theorem dX6_carryOut_37 : decode cX6_carryOut 37 = .ok (.istore_n 1, 1) := by decide +kernel
theorem dX6_carryOut_38 : decode cX6_carryOut 38 = .ok (.aload_n 0, 1) := by decide +kernel
theorem dX6_carryOut_39 : decode cX6_carryOut 39 = .ok (.getfield 36, 3) := by decide +kernel
theorem dX6_carryOut_42 : decode cX6_carryOut 42 = .ok (.invokevirtual 203, 3) := by decide +kernel
theorem dX6_carryOut_45 : decode cX6_carryOut 45 = .ok (.pop, 1) := by decide +kernel
theorem dX6_carryOut_46 : decode cX6_carryOut 46 = .ok (.iload_n 1, 1) := by decide +kernel
theorem dX6_carryOut_47 : decode cX6_carryOut 47 = .ok (.ireturn, 1) := by decide +kernel
set_option maxRecDepth 20000 in
theorem ggX6_obeyPad_X3_signAt : GoodIn wsX6_obeyPad wsX3_signAt := goodIn_r _ [8, 9, 10, 180, 181] (by decide +kernel) (by decide +kernel)
set_option maxRecDepth 20000 in
theorem gX6_obeyPad_X3_signAt : GoodIn wsX6_obeyPad (wsV RX6 212 RX3 yX3_signAt wsX3_signAt) := goodIn_app (goodIn_of _ (by decide +kernel)) ggX6_obeyPad_X3_signAt
set_option maxRecDepth 20000 in
theorem ggX6_obeyPad_X1_obey : GoodIn wsX6_obeyPad wsX1_obey := goodIn_r _ [15, 16, 17, 18, 19, 14, 20, 21, 22, 23, 24, 25, 26, 27, 28, 29, 30, 31, 32, 33, 34, 35, 36, 37, 38, 39, 40, 41, 42, 43, 44, 45, 46, 47, 48, 49, 50, 51, 52, 53, 54, 55, 56, 57, 58, 59, 60, 61, 62, 63, 64, 65, 66, 67, 68, 69, 70, 71, 72, 73, 74, 75, 76, 77, 78, 79, 80, 81, 82, 83, 84, 85, 86, 87, 88, 89, 90, 91, 92, 93, 94, 95, 96, 97, 98, 99, 100, 101, 102, 103, 104, 105, 106, 107, 108, 109, 110, 111, 112, 113, 114, 115, 116, 117, 118, 119, 120, 121, 122, 123, 124, 125, 126, 127, 128, 129, 130, 131, 132, 133, 134, 135, 136, 137, 138, 139, 140, 141, 142, 143, 144, 145, 146, 147, 148, 149, 150, 151, 152, 153, 154, 155, 156, 157, 158, 159, 160, 161, 162, 163, 164, 165, 166, 167, 168, 169, 170, 171, 182, 183, 184, 185, 186, 187, 188, 189, 190, 191, 192, 193, 194, 195, 196, 197, 198, 199, 200] (by decide +kernel) (by decide +kernel)
set_option maxRecDepth 20000 in
theorem gX6_obeyPad_X1_obey : GoodIn wsX6_obeyPad (wsV RX6 48 RX1 yX1_obey wsX1_obey) := goodIn_app (goodIn_of _ (by decide +kernel)) ggX6_obeyPad_X1_obey
set_option maxRecDepth 20000 in
theorem ggX6_obeyPad_X3_isDigit : GoodIn wsX6_obeyPad wsX3_isDigit := goodIn_r _ [174] (by decide +kernel) (by decide +kernel)
set_option maxRecDepth 20000 in
theorem gX6_obeyPad_X3_isDigit : GoodIn wsX6_obeyPad (va_wsS RX6 216 yX3_isDigit wsX3_isDigit) := goodIn_app (goodIn_of _ (by decide +kernel)) ggX6_obeyPad_X3_isDigit
theorem dX6_obeyPad_0 : decode cX6_obeyPad 0 = .ok (.iconst 0, 1) := by decide +kernel
theorem dX6_obeyPad_1 : decode cX6_obeyPad 1 = .ok (.istore_n 1, 1) := by decide +kernel
theorem dX6_obeyPad_2 : decode cX6_obeyPad 2 = .ok (.bipush 112, 2) := by decide +kernel
theorem dX6_obeyPad_4 : decode cX6_obeyPad 4 = .ok (.istore_n 2, 1) := by decide +kernel
theorem dX6_obeyPad_5 : decode cX6_obeyPad 5 = .ok (.iconst 0, 1) := by decide +kernel
theorem dX6_obeyPad_6 : decode cX6_obeyPad 6 = .ok (.istore_n 3, 1) := by decide +kernel
theorem dX6_obeyPad_7 : decode cX6_obeyPad 7 = .ok (.iconst 0, 1) := by decide +kernel
theorem dX6_obeyPad_8 : decode cX6_obeyPad 8 = .ok (.istore 4, 2) := by decide +kernel
theorem dX6_obeyPad_10 : decode cX6_obeyPad 10 = .ok (.iload 4, 2) := by decide +kernel
theorem dX6_obeyPad_12 : decode cX6_obeyPad 12 = .ok (.aload_n 0, 1) := by decide +kernel
theorem dX6_obeyPad_13 : decode cX6_obeyPad 13 = .ok (.getfield 36, 3) := by decide +kernel
theorem dX6_obeyPad_16 : decode cX6_obeyPad 16 = .ok (.getfield 172, 3) := by decide +kernel
theorem dX6_obeyPad_19 : decode cX6_obeyPad 19 = .ok (.if_icmp .gt 74, 3) := by decide +kernel
theorem dX6_obeyPad_22 : decode cX6_obeyPad 22 = .ok (.aload_n 0, 1) := by decide +kernel
theorem dX6_obeyPad_23 : decode cX6_obeyPad 23 = .ok (.getfield 36, 3) := by decide +kernel
theorem dX6_obeyPad_26 : decode cX6_obeyPad 26 = .ok (.iload 4, 2) := by decide +kernel
theorem dX6_obeyPad_28 : decode cX6_obeyPad 28 = .ok (.invokevirtual 212, 3) := by decide +kernel
theorem dX6_obeyPad_31 : decode cX6_obeyPad 31 = .ok (.istore 5, 2) := by decide +kernel
theorem dX6_obeyPad_33 : decode cX6_obeyPad 33 = .ok (.iload 5, 2) := by decide +kernel
theorem dX6_obeyPad_35 : decode cX6_obeyPad 35 = .ok (.bipush 59, 2) := by decide +kernel
theorem dX6_obeyPad_37 : decode cX6_obeyPad 37 = .ok (.if_icmp .ne 25, 3) := by decide +kernel
theorem dX6_obeyPad_40 : decode cX6_obeyPad 40 = .ok (.aload_n 0, 1) := by decide +kernel
theorem dX6_obeyPad_41 : decode cX6_obeyPad 41 = .ok (.getfield 10, 3) := by decide +kernel
theorem dX6_obeyPad_44 : decode cX6_obeyPad 44 = .ok (.iload_n 2, 1) := by decide +kernel
theorem dX6_obeyPad_45 : decode cX6_obeyPad 45 = .ok (.iload_n 3, 1) := by decide +kernel
theorem dX6_obeyPad_46 : decode cX6_obeyPad 46 = .ok (.invokevirtual 48, 3) := by decide +kernel
theorem dX6_obeyPad_49 : decode cX6_obeyPad 49 = .ok (.ifCond .ge 5, 3) := by decide +kernel
theorem dX6_obeyPad_52 : decode cX6_obeyPad 52 = .ok (.iload_n 1, 1) := by decide +kernel
theorem dX6_obeyPad_53 : decode cX6_obeyPad 53 = .ok (.ireturn, 1) := by decide +kernel
theorem dX6_obeyPad_54 : decode cX6_obeyPad 54 = .ok (.iinc 1 1, 3) := by decide +kernel
theorem dX6_obeyPad_57 : decode cX6_obeyPad 57 = .ok (.iconst 0, 1) := by decide +kernel
theorem dX6_obeyPad_58 : decode cX6_obeyPad 58 = .ok (.istore_n 3, 1) := by decide +kernel
theorem dX6_obeyPad_59 : decode cX6_obeyPad 59 = .ok (.goto 28, 3) := by decide +kernel
theorem dX6_obeyPad_62 : decode cX6_obeyPad 62 = .ok (.iload 5, 2) := by decide +kernel
theorem dX6_obeyPad_64 : decode cX6_obeyPad 64 = .ok (.invokestatic 216, 3) := by decide +kernel
theorem dX6_obeyPad_67 : decode cX6_obeyPad 67 = .ok (.ifCond .eq 17, 3) := by decide +kernel
theorem dX6_obeyPad_70 : decode cX6_obeyPad 70 = .ok (.bipush 10, 2) := by decide +kernel
theorem dX6_obeyPad_72 : decode cX6_obeyPad 72 = .ok (.iload_n 3, 1) := by decide +kernel
theorem dX6_obeyPad_73 : decode cX6_obeyPad 73 = .ok (.imul, 1) := by decide +kernel
theorem dX6_obeyPad_74 : decode cX6_obeyPad 74 = .ok (.iload 5, 2) := by decide +kernel
theorem dX6_obeyPad_76 : decode cX6_obeyPad 76 = .ok (.bipush 48, 2) := by decide +kernel
theorem dX6_obeyPad_78 : decode cX6_obeyPad 78 = .ok (.isub, 1) := by decide +kernel
theorem dX6_obeyPad_79 : decode cX6_obeyPad 79 = .ok (.iadd, 1) := by decide +kernel
theorem dX6_obeyPad_80 : decode cX6_obeyPad 80 = .ok (.istore_n 3, 1) := by decide +kernel
theorem dX6_obeyPad_81 : decode cX6_obeyPad 81 = .ok (.goto 6, 3) := by decide +kernel
theorem dX6_obeyPad_84 : decode cX6_obeyPad 84 = .ok (.iload 5, 2) := by decide +kernel
theorem dX6_obeyPad_86 : decode cX6_obeyPad 86 = .ok (.istore_n 2, 1) := by decide +kernel
theorem dX6_obeyPad_87 : decode cX6_obeyPad 87 = .ok (.iinc 4 1, 3) := by decide +kernel
theorem dX6_obeyPad_90 : decode cX6_obeyPad 90 = .ok (.goto (-80), 3) := by decide +kernel
theorem dX6_obeyPad_93 : decode cX6_obeyPad 93 = .ok (.iload_n 1, 1) := by decide +kernel
theorem dX6_obeyPad_94 : decode cX6_obeyPad 94 = .ok (.ireturn, 1) := by decide +kernel
set_option maxRecDepth 20000 in
theorem ggX6_undo_X2_goBack : GoodIn wsX6_undo wsX2_goBack := goodIn_r _ [7, 8, 9, 10, 11, 12, 13, 14, 15, 16, 17, 18, 19, 20, 21, 22, 23, 24, 25, 26, 27, 28, 29, 30, 31, 32, 33, 34, 35, 36, 37, 38, 39, 40, 41, 42, 43, 49, 50, 51, 52, 53, 54, 55, 56, 57, 58, 59, 60, 61, 62, 63, 64, 65, 66, 67, 68, 69, 70] (by decide +kernel) (by decide +kernel)
set_option maxRecDepth 20000 in
theorem gX6_undo_X2_goBack : GoodIn wsX6_undo (wsV RX6 220 RX2 yX2_goBack wsX2_goBack) := goodIn_app (goodIn_of _ (by decide +kernel)) ggX6_undo_X2_goBack
theorem dX6_undo_0 : decode cX6_undo 0 = .ok (.aload_n 0, 1) := by decide +kernel
theorem dX6_undo_1 : decode cX6_undo 1 = .ok (.getfield 19, 3) := by decide +kernel
theorem dX6_undo_4 : decode cX6_undo 4 = .ok (.aload_n 0, 1) := by decide +kernel
theorem dX6_undo_5 : decode cX6_undo 5 = .ok (.getfield 10, 3) := by decide +kernel
theorem dX6_undo_8 : decode cX6_undo 8 = .ok (.invokevirtual 220, 3) := by decide +kernel
theorem dX6_undo_11 : decode cX6_undo 11 = .ok (.ireturn, 1) := by decide +kernel
set_option maxRecDepth 20000 in
theorem ggX6_save_X6_isSlot : GoodIn wsX6_save wsX6_isSlot := goodIn_r _ [6] (by decide +kernel) (by decide +kernel)
set_option maxRecDepth 20000 in
theorem gX6_save_X6_isSlot : GoodIn wsX6_save (va_wsS RX6 224 yX6_isSlot wsX6_isSlot) := goodIn_app (goodIn_of _ (by decide +kernel)) ggX6_save_X6_isSlot
set_option maxRecDepth 20000 in
theorem ggX6_save_X6_slotOf : GoodIn wsX6_save wsX6_slotOf := goodIn_r _ [10, 11, 12, 65, 66, 67, 68, 69] (by decide +kernel) (by decide +kernel)
set_option maxRecDepth 20000 in
theorem gX6_save_X6_slotOf : GoodIn wsX6_save (wsV RX6 227 RX6 yX6_slotOf wsX6_slotOf) := goodIn_app (goodIn_of _ (by decide +kernel)) ggX6_save_X6_slotOf
set_option maxRecDepth 20000 in
theorem ggX6_save_X4_fill : GoodIn wsX6_save wsX4_fill := goodIn_r _ [17, 18, 19, 20, 21, 22, 23, 24, 25, 26, 27, 28, 29, 30, 31, 32, 33, 34, 35, 36, 37, 38, 39, 40, 41, 42, 43, 44, 45, 46, 47, 48, 49, 50, 51, 52, 53, 75, 76, 70, 71, 72, 73, 74, 77, 78, 79, 80, 81, 82, 83, 84, 85, 86, 87, 88, 89, 90] (by decide +kernel) (by decide +kernel)
set_option maxRecDepth 20000 in
theorem gX6_save_X4_fill : GoodIn wsX6_save (wsV RX6 231 RX4 yX4_fill wsX4_fill) := goodIn_app (goodIn_of _ (by decide +kernel)) ggX6_save_X4_fill
set_option maxRecDepth 20000 in
theorem ggX6_save_X0_cellsLeft : GoodIn wsX6_save wsX0_cellsLeft := goodIn_r _ [57, 37, 58, 59, 60, 61, 62, 63, 64, 77, 78, 79, 80, 81] (by decide +kernel) (by decide +kernel)
set_option maxRecDepth 20000 in
theorem gX6_save_X0_cellsLeft : GoodIn wsX6_save (wsV RX6 163 RX0 yX0_cellsLeft wsX0_cellsLeft) := goodIn_app (goodIn_of _ (by decide +kernel)) ggX6_save_X0_cellsLeft
theorem dX6_save_0 : decode cX6_save 0 = .ok (.iload_n 1, 1) := by decide +kernel
theorem dX6_save_1 : decode cX6_save 1 = .ok (.invokestatic 224, 3) := by decide +kernel
theorem dX6_save_4 : decode cX6_save 4 = .ok (.ifCond .ne 6, 3) := by decide +kernel
theorem dX6_save_7 : decode cX6_save 7 = .ok (.bipush (-2), 2) := by decide +kernel
theorem dX6_save_9 : decode cX6_save 9 = .ok (.ireturn, 1) := by decide +kernel
theorem dX6_save_10 : decode cX6_save 10 = .ok (.aload_n 0, 1) := by decide +kernel
theorem dX6_save_11 : decode cX6_save 11 = .ok (.iload_n 1, 1) := by decide +kernel
theorem dX6_save_12 : decode cX6_save 12 = .ok (.invokevirtual 227, 3) := by decide +kernel
theorem dX6_save_15 : decode cX6_save 15 = .ok (.aload_n 0, 1) := by decide +kernel
theorem dX6_save_16 : decode cX6_save 16 = .ok (.getfield 10, 3) := by decide +kernel
theorem dX6_save_19 : decode cX6_save 19 = .ok (.invokevirtual 231, 3) := by decide +kernel
theorem dX6_save_22 : decode cX6_save 22 = .ok (.aload_n 0, 1) := by decide +kernel
theorem dX6_save_23 : decode cX6_save 23 = .ok (.getfield 10, 3) := by decide +kernel
theorem dX6_save_26 : decode cX6_save 26 = .ok (.getfield 60, 3) := by decide +kernel
theorem dX6_save_29 : decode cX6_save 29 = .ok (.invokevirtual 163, 3) := by decide +kernel
theorem dX6_save_32 : decode cX6_save 32 = .ok (.ireturn, 1) := by decide +kernel
set_option maxRecDepth 20000 in
theorem ggX6_restore_X6_isSlot : GoodIn wsX6_restore wsX6_isSlot := goodIn_r _ [9] (by decide +kernel) (by decide +kernel)
set_option maxRecDepth 20000 in
theorem gX6_restore_X6_isSlot : GoodIn wsX6_restore (va_wsS RX6 224 yX6_isSlot wsX6_isSlot) := goodIn_app (goodIn_of _ (by decide +kernel)) ggX6_restore_X6_isSlot
set_option maxRecDepth 20000 in
theorem ggX6_restore_X6_slotOf : GoodIn wsX6_restore wsX6_slotOf := goodIn_r _ [13, 14, 15, 80, 81, 82, 83, 84] (by decide +kernel) (by decide +kernel)
set_option maxRecDepth 20000 in
theorem gX6_restore_X6_slotOf : GoodIn wsX6_restore (wsV RX6 227 RX6 yX6_slotOf wsX6_slotOf) := goodIn_app (goodIn_of _ (by decide +kernel)) ggX6_restore_X6_slotOf
set_option maxRecDepth 20000 in
theorem ggX6_restore_X2_note : GoodIn wsX6_restore wsX2_note := goodIn_r _ [20, 21, 22, 23, 24, 25, 26, 27, 28, 29, 30, 31, 32, 33, 34, 35, 36, 37, 38, 39, 40, 41, 42, 43, 44, 45, 46, 47, 48, 49, 50, 51, 52, 53, 54, 55, 90, 91, 92, 85, 86, 87, 88, 89, 93, 94, 95, 96, 97, 98, 99, 100, 101, 102, 103, 104, 105, 106] (by decide +kernel) (by decide +kernel)
set_option maxRecDepth 20000 in
theorem gX6_restore_X2_note : GoodIn wsX6_restore (wsV RX6 44 RX2 yX2_note wsX2_note) := goodIn_app (goodIn_of _ (by decide +kernel)) ggX6_restore_X2_note
set_option maxRecDepth 20000 in
theorem ggX6_restore_X2_keepNoted : GoodIn wsX6_restore wsX2_keepNoted := goodIn_r _ [59, 60, 61, 21, 62, 63, 64, 19, 65, 90, 91, 92] (by decide +kernel) (by decide +kernel)
set_option maxRecDepth 20000 in
theorem gX6_restore_X2_keepNoted : GoodIn wsX6_restore (wsV RX6 51 RX2 yX2_keepNoted wsX2_keepNoted) := goodIn_app (goodIn_of _ (by decide +kernel)) ggX6_restore_X2_keepNoted
set_option maxRecDepth 20000 in
theorem ggX6_restore_X1_become : GoodIn wsX6_restore wsX1_become := goodIn_r _ [26, 27, 28, 29, 30, 31, 32, 33, 34, 35, 36, 37, 38, 39, 40, 41, 42, 43, 44, 45, 46, 47, 48, 49, 50, 51, 52, 53, 54, 55, 85, 86, 87, 88, 89, 93, 94, 95, 96, 97, 98, 99, 100, 101, 102, 103, 104, 105, 106] (by decide +kernel) (by decide +kernel)
set_option maxRecDepth 20000 in
theorem gX6_restore_X1_become : GoodIn wsX6_restore (wsV RX6 241 RX1 yX1_become wsX1_become) := goodIn_app (goodIn_of _ (by decide +kernel)) ggX6_restore_X1_become
set_option maxRecDepth 20000 in
theorem ggX6_restore_X0_cellsLeft : GoodIn wsX6_restore wsX0_cellsLeft := goodIn_r _ [70, 39, 71, 72, 73, 74, 75, 76, 77, 93, 94, 95, 96, 97] (by decide +kernel) (by decide +kernel)
set_option maxRecDepth 20000 in
theorem gX6_restore_X0_cellsLeft : GoodIn wsX6_restore (wsV RX6 163 RX0 yX0_cellsLeft wsX0_cellsLeft) := goodIn_app (goodIn_of _ (by decide +kernel)) ggX6_restore_X0_cellsLeft
theorem dX6_restore_0 : decode cX6_restore 0 = .ok (.iload_n 1, 1) := by decide +kernel
theorem dX6_restore_1 : decode cX6_restore 1 = .ok (.invokestatic 224, 3) := by decide +kernel
theorem dX6_restore_4 : decode cX6_restore 4 = .ok (.ifCond .ne 6, 3) := by decide +kernel
theorem dX6_restore_7 : decode cX6_restore 7 = .ok (.bipush (-2), 2) := by decide +kernel
theorem dX6_restore_9 : decode cX6_restore 9 = .ok (.ireturn, 1) := by decide +kernel
theorem dX6_restore_10 : decode cX6_restore 10 = .ok (.aload_n 0, 1) := by decide +kernel
theorem dX6_restore_11 : decode cX6_restore 11 = .ok (.iload_n 1, 1) := by decide +kernel
theorem dX6_restore_12 : decode cX6_restore 12 = .ok (.invokevirtual 227, 3) := by decide +kernel
theorem dX6_restore_15 : decode cX6_restore 15 = .ok (.astore_n 2, 1) := by decide +kernel
theorem dX6_restore_16 : decode cX6_restore 16 = .ok (.aload_n 2, 1) := by decide +kernel
theorem dX6_restore_17 : decode cX6_restore 17 = .ok (.getfield 234, 3) := by decide +kernel
theorem dX6_restore_20 : decode cX6_restore 20 = .ok (.ifCond .ne 6, 3) := by decide +kernel
theorem dX6_restore_23 : decode cX6_restore 23 = .ok (.bipush (-5), 2) := by decide +kernel
theorem dX6_restore_25 : decode cX6_restore 25 = .ok (.ireturn, 1) := by decide +kernel
theorem dX6_restore_26 : decode cX6_restore 26 = .ok (.aload_n 0, 1) := by decide +kernel
theorem dX6_restore_27 : decode cX6_restore 27 = .ok (.getfield 19, 3) := by decide +kernel
theorem dX6_restore_30 : decode cX6_restore 30 = .ok (.aload_n 0, 1) := by decide +kernel
theorem dX6_restore_31 : decode cX6_restore 31 = .ok (.getfield 10, 3) := by decide +kernel
theorem dX6_restore_34 : decode cX6_restore 34 = .ok (.invokevirtual 44, 3) := by decide +kernel
theorem dX6_restore_37 : decode cX6_restore 37 = .ok (.aload_n 0, 1) := by decide +kernel
theorem dX6_restore_38 : decode cX6_restore 38 = .ok (.getfield 19, 3) := by decide +kernel
theorem dX6_restore_41 : decode cX6_restore 41 = .ok (.invokevirtual 51, 3) := by decide +kernel
theorem dX6_restore_44 : decode cX6_restore 44 = .ok (.aload_n 0, 1) := by decide +kernel
theorem dX6_restore_45 : decode cX6_restore 45 = .ok (.getfield 10, 3) := by decide +kernel
theorem dX6_restore_48 : decode cX6_restore 48 = .ok (.aload_n 2, 1) := by decide +kernel
theorem dX6_restore_49 : decode cX6_restore 49 = .ok (.getfield 238, 3) := by decide +kernel
theorem dX6_restore_52 : decode cX6_restore 52 = .ok (.invokevirtual 241, 3) := by decide +kernel
theorem dX6_restore_55 : decode cX6_restore 55 = .ok (.aload_n 0, 1) := by decide +kernel
theorem dX6_restore_56 : decode cX6_restore 56 = .ok (.getfield 10, 3) := by decide +kernel
theorem dX6_restore_59 : decode cX6_restore 59 = .ok (.getfield 60, 3) := by decide +kernel
theorem dX6_restore_62 : decode cX6_restore 62 = .ok (.invokevirtual 163, 3) := by decide +kernel
theorem dX6_restore_65 : decode cX6_restore 65 = .ok (.ireturn, 1) := by decide +kernel
theorem dX6_isSlot_0 : decode cX6_isSlot 0 = .ok (.iload_n 0, 1) := by decide +kernel
theorem dX6_isSlot_1 : decode cX6_isSlot 1 = .ok (.ifCond .eq 8, 3) := by decide +kernel
theorem dX6_isSlot_4 : decode cX6_isSlot 4 = .ok (.iload_n 0, 1) := by decide +kernel
theorem dX6_isSlot_5 : decode cX6_isSlot 5 = .ok (.iconst 1, 1) := by decide +kernel
theorem dX6_isSlot_6 : decode cX6_isSlot 6 = .ok (.if_icmp .ne 7, 3) := by decide +kernel
theorem dX6_isSlot_9 : decode cX6_isSlot 9 = .ok (.iconst 1, 1) := by decide +kernel
theorem dX6_isSlot_10 : decode cX6_isSlot 10 = .ok (.goto 4, 3) := by decide +kernel
theorem dX6_isSlot_13 : decode cX6_isSlot 13 = .ok (.iconst 0, 1) := by decide +kernel
theorem dX6_isSlot_14 : decode cX6_isSlot 14 = .ok (.ireturn, 1) := by decide +kernel
theorem dX6_slotOf_0 : decode cX6_slotOf 0 = .ok (.iload_n 1, 1) := by decide +kernel
theorem dX6_slotOf_1 : decode cX6_slotOf 1 = .ok (.ifCond .ne 10, 3) := by decide +kernel
theorem dX6_slotOf_4 : decode cX6_slotOf 4 = .ok (.aload_n 0, 1) := by decide +kernel
theorem dX6_slotOf_5 : decode cX6_slotOf 5 = .ok (.getfield 26, 3) := by decide +kernel
theorem dX6_slotOf_8 : decode cX6_slotOf 8 = .ok (.goto 7, 3) := by decide +kernel
theorem dX6_slotOf_11 : decode cX6_slotOf 11 = .ok (.aload_n 0, 1) := by decide +kernel
theorem dX6_slotOf_12 : decode cX6_slotOf 12 = .ok (.getfield 30, 3) := by decide +kernel
theorem dX6_slotOf_15 : decode cX6_slotOf 15 = .ok (.areturn, 1) := by decide +kernel
set_option maxRecDepth 20000 in
theorem ggX7_init_X7_at : GoodIn wsX7_init wsX7_at := goodIn_r _ [16] (by decide +kernel) (by decide +kernel)
set_option maxRecDepth 20000 in
theorem gX7_init_X7_at : GoodIn wsX7_init (va_wsS RX7 32 yX7_at wsX7_at) := goodIn_app (goodIn_of _ (by decide +kernel)) ggX7_init_X7_at
theorem dX7_init_0 : decode cX7_init 0 = .ok (.aload_n 0, 1) := by decide +kernel
theorem dX7_init_1 : decode cX7_init 1 = .ok (.invokespecial 1, 3) := by decide +kernel
theorem dX7_init_4 : decode cX7_init 4 = .ok (.aload_n 0, 1) := by decide +kernel
theorem dX7_init_5 : decode cX7_init 5 = .ok (.sipush 246, 3) := by decide +kernel
theorem dX7_init_8 : decode cX7_init 8 = .ok (.newarray .int, 2) := by decide +kernel
theorem dX7_init_10 : decode cX7_init 10 = .ok (.putfield 7, 3) := by decide +kernel
theorem dX7_init_13 : decode cX7_init 13 = .ok (.aload_n 0, 1) := by decide +kernel
theorem dX7_init_14 : decode cX7_init 14 = .ok (.sipush 246, 3) := by decide +kernel
theorem dX7_init_17 : decode cX7_init 17 = .ok (.newarray .int, 2) := by decide +kernel
theorem dX7_init_19 : decode cX7_init 19 = .ok (.putfield 13, 3) := by decide +kernel
theorem dX7_init_22 : decode cX7_init 22 = .ok (.aload_n 0, 1) := by decide +kernel
theorem dX7_init_23 : decode cX7_init 23 = .ok (.sipush 1476, 3) := by decide +kernel
theorem dX7_init_26 : decode cX7_init 26 = .ok (.newarray .int, 2) := by decide +kernel
theorem dX7_init_28 : decode cX7_init 28 = .ok (.putfield 16, 3) := by decide +kernel
theorem dX7_init_31 : decode cX7_init 31 = .ok (.aload_n 0, 1) := by decide +kernel
theorem dX7_init_32 : decode cX7_init 32 = .ok (.sipush 492, 3) := by decide +kernel
theorem dX7_init_35 : decode cX7_init 35 = .ok (.newarray .int, 2) := by decide +kernel
theorem dX7_init_37 : decode cX7_init 37 = .ok (.putfield 19, 3) := by decide +kernel
theorem dX7_init_40 : decode cX7_init 40 = .ok (.aload_n 0, 1) := by decide +kernel
theorem dX7_init_41 : decode cX7_init 41 = .ok (.iconst 2, 1) := by decide +kernel
theorem dX7_init_42 : decode cX7_init 42 = .ok (.newarray .boolean, 2) := by decide +kernel
theorem dX7_init_44 : decode cX7_init 44 = .ok (.putfield 22, 3) := by decide +kernel
theorem dX7_init_47 : decode cX7_init 47 = .ok (.aload_n 0, 1) := by decide +kernel
theorem dX7_init_48 : decode cX7_init 48 = .ok (.bipush 80, 2) := by decide +kernel
theorem dX7_init_50 : decode cX7_init 50 = .ok (.newarray .int, 2) := by decide +kernel
theorem dX7_init_52 : decode cX7_init 52 = .ok (.putfield 26, 3) := by decide +kernel
theorem dX7_init_55 : decode cX7_init 55 = .ok (.aload_n 0, 1) := by decide +kernel
theorem dX7_init_56 : decode cX7_init 56 = .ok (.bipush 48, 2) := by decide +kernel
theorem dX7_init_58 : decode cX7_init 58 = .ok (.newarray .int, 2) := by decide +kernel
theorem dX7_init_60 : decode cX7_init 60 = .ok (.putfield 29, 3) := by decide +kernel
theorem dX7_init_63 : decode cX7_init 63 = .ok (.iconst 0, 1) := by decide +kernel
theorem dX7_init_64 : decode cX7_init 64 = .ok (.istore_n 1, 1) := by decide +kernel
theorem dX7_init_65 : decode cX7_init 65 = .ok (.iload_n 1, 1) := by decide +kernel
theorem dX7_init_66 : decode cX7_init 66 = .ok (.bipush 82, 2) := by decide +kernel
theorem dX7_init_68 : decode cX7_init 68 = .ok (.if_icmp .ge 20, 3) := by decide +kernel
theorem dX7_init_71 : decode cX7_init 71 = .ok (.aload_n 0, 1) := by decide +kernel
theorem dX7_init_72 : decode cX7_init 72 = .ok (.getfield 7, 3) := by decide +kernel
theorem dX7_init_75 : decode cX7_init 75 = .ok (.bipush 82, 2) := by decide +kernel
theorem dX7_init_77 : decode cX7_init 77 = .ok (.iload_n 1, 1) := by decide +kernel
theorem dX7_init_78 : decode cX7_init 78 = .ok (.iadd, 1) := by decide +kernel
theorem dX7_init_79 : decode cX7_init 79 = .ok (.bipush (-6), 2) := by decide +kernel
theorem dX7_init_81 : decode cX7_init 81 = .ok (.iastore, 1) := by decide +kernel
theorem dX7_init_82 : decode cX7_init 82 = .ok (.iinc 1 1, 3) := by decide +kernel
theorem dX7_init_85 : decode cX7_init 85 = .ok (.goto (-20), 3) := by decide +kernel
theorem dX7_init_88 : decode cX7_init 88 = .ok (.aload_n 0, 1) := by decide +kernel
theorem dX7_init_89 : decode cX7_init 89 = .ok (.getfield 7, 3) := by decide +kernel
theorem dX7_init_92 : decode cX7_init 92 = .ok (.iconst 0, 1) := by decide +kernel
theorem dX7_init_93 : decode cX7_init 93 = .ok (.iconst 1, 1) := by decide +kernel
theorem dX7_init_94 : decode cX7_init 94 = .ok (.invokestatic 32, 3) := by decide +kernel
theorem dX7_init_97 : decode cX7_init 97 = .ok (.iconst 5, 1) := by decide +kernel
theorem dX7_init_98 : decode cX7_init 98 = .ok (.iastore, 1) := by decide +kernel
theorem dX7_init_99 : decode cX7_init 99 = .ok (.aload_n 0, 1) := by decide +kernel
theorem dX7_init_100 : decode cX7_init 100 = .ok (.getfield 7, 3) := by decide +kernel
theorem dX7_init_103 : decode cX7_init 103 = .ok (.iconst 1, 1) := by decide +kernel
theorem dX7_init_104 : decode cX7_init 104 = .ok (.iconst 1, 1) := by decide +kernel
theorem dX7_init_105 : decode cX7_init 105 = .ok (.invokestatic 32, 3) := by decide +kernel
theorem dX7_init_108 : decode cX7_init 108 = .ok (.iconst 5, 1) := by decide +kernel
theorem dX7_init_109 : decode cX7_init 109 = .ok (.iastore, 1) := by decide +kernel
theorem dX7_init_110 : decode cX7_init 110 = .ok (.return_, 1) := by decide +kernel
theorem dX7_in_0 : decode cX7_in 0 = .ok (.iload_n 0, 1) := by decide +kernel
theorem dX7_in_1 : decode cX7_in 1 = .ok (.iload_n 1, 1) := by decide +kernel
theorem dX7_in_2 : decode cX7_in 2 = .ok (.if_icmp .lt 12, 3) := by decide +kernel
theorem dX7_in_5 : decode cX7_in 5 = .ok (.iload_n 0, 1) := by decide +kernel
theorem dX7_in_6 : decode cX7_in 6 = .ok (.iload_n 2, 1) := by decide +kernel
theorem dX7_in_7 : decode cX7_in 7 = .ok (.if_icmp .gt 7, 3) := by decide +kernel
theorem dX7_in_10 : decode cX7_in 10 = .ok (.iconst 1, 1) := by decide +kernel
theorem dX7_in_11 : decode cX7_in 11 = .ok (.goto 4, 3) := by decide +kernel
theorem dX7_in_14 : decode cX7_in 14 = .ok (.iconst 0, 1) := by decide +kernel
theorem dX7_in_15 : decode cX7_in 15 = .ok (.ireturn, 1) := by decide +kernel
set_option maxRecDepth 20000 in
theorem ggX7_isJoint_X7_in : GoodIn wsX7_isJoint wsX7_in := goodIn_r _ [4] (by decide +kernel) (by decide +kernel)
set_option maxRecDepth 20000 in
theorem gX7_isJoint_X7_in : GoodIn wsX7_isJoint (va_wsS RX7 36 yX7_in wsX7_in) := goodIn_app (goodIn_of _ (by decide +kernel)) ggX7_isJoint_X7_in
theorem dX7_isJoint_0 : decode cX7_isJoint 0 = .ok (.iload_n 0, 1) := by decide +kernel
theorem dX7_isJoint_1 : decode cX7_isJoint 1 = .ok (.iconst 0, 1) := by decide +kernel
theorem dX7_isJoint_2 : decode cX7_isJoint 2 = .ok (.bipush 81, 2) := by decide +kernel
theorem dX7_isJoint_4 : decode cX7_isJoint 4 = .ok (.invokestatic 36, 3) := by decide +kernel
theorem dX7_isJoint_7 : decode cX7_isJoint 7 = .ok (.ireturn, 1) := by decide +kernel
set_option maxRecDepth 20000 in
theorem ggX7_isCell_X7_in : GoodIn wsX7_isCell wsX7_in := goodIn_r _ [4] (by decide +kernel) (by decide +kernel)
set_option maxRecDepth 20000 in
theorem gX7_isCell_X7_in : GoodIn wsX7_isCell (va_wsS RX7 36 yX7_in wsX7_in) := goodIn_app (goodIn_of _ (by decide +kernel)) ggX7_isCell_X7_in
theorem dX7_isCell_0 : decode cX7_isCell 0 = .ok (.iload_n 0, 1) := by decide +kernel
theorem dX7_isCell_1 : decode cX7_isCell 1 = .ok (.iconst 0, 1) := by decide +kernel
theorem dX7_isCell_2 : decode cX7_isCell 2 = .ok (.bipush 47, 2) := by decide +kernel
theorem dX7_isCell_4 : decode cX7_isCell 4 = .ok (.invokestatic 36, 3) := by decide +kernel
theorem dX7_isCell_7 : decode cX7_isCell 7 = .ok (.ireturn, 1) := by decide +kernel
theorem dX7_at_0 : decode cX7_at 0 = .ok (.sipush 212, 3) := by decide +kernel
theorem dX7_at_3 : decode cX7_at 3 = .ok (.bipush 16, 2) := by decide +kernel
theorem dX7_at_5 : decode cX7_at 5 = .ok (.iload_n 0, 1) := by decide +kernel
theorem dX7_at_6 : decode cX7_at 6 = .ok (.imul, 1) := by decide +kernel
theorem dX7_at_7 : decode cX7_at 7 = .ok (.iadd, 1) := by decide +kernel
theorem dX7_at_8 : decode cX7_at 8 = .ok (.iload_n 1, 1) := by decide +kernel
theorem dX7_at_9 : decode cX7_at 9 = .ok (.iadd, 1) := by decide +kernel
theorem dX7_at_10 : decode cX7_at 10 = .ok (.ireturn, 1) := by decide +kernel
set_option maxRecDepth 20000 in
theorem ggX7_chalkAt_X7_at : GoodIn wsX7_chalkAt wsX7_at := goodIn_r _ [5] (by decide +kernel) (by decide +kernel)
set_option maxRecDepth 20000 in
theorem gX7_chalkAt_X7_at : GoodIn wsX7_chalkAt (va_wsS RX7 32 yX7_at wsX7_at) := goodIn_app (goodIn_of _ (by decide +kernel)) ggX7_chalkAt_X7_at
theorem dX7_chalkAt_0 : decode cX7_chalkAt 0 = .ok (.aload_n 0, 1) := by decide +kernel
theorem dX7_chalkAt_1 : decode cX7_chalkAt 1 = .ok (.getfield 7, 3) := by decide +kernel
theorem dX7_chalkAt_4 : decode cX7_chalkAt 4 = .ok (.iload_n 1, 1) := by decide +kernel
theorem dX7_chalkAt_5 : decode cX7_chalkAt 5 = .ok (.bipush 8, 2) := by decide +kernel
theorem dX7_chalkAt_7 : decode cX7_chalkAt 7 = .ok (.invokestatic 32, 3) := by decide +kernel
theorem dX7_chalkAt_10 : decode cX7_chalkAt 10 = .ok (.iload_n 2, 1) := by decide +kernel
theorem dX7_chalkAt_11 : decode cX7_chalkAt 11 = .ok (.iadd, 1) := by decide +kernel
theorem dX7_chalkAt_12 : decode cX7_chalkAt 12 = .ok (.iaload, 1) := by decide +kernel
theorem dX7_chalkAt_13 : decode cX7_chalkAt 13 = .ok (.ireturn, 1) := by decide +kernel
theorem dX7_first_0 : decode cX7_first 0 = .ok (.iload_n 0, 1) := by decide +kernel
theorem dX7_first_1 : decode cX7_first 1 = .ok (.bipush 42, 2) := by decide +kernel
theorem dX7_first_3 : decode cX7_first 3 = .ok (.if_icmp .ge 18, 3) := by decide +kernel
theorem dX7_first_6 : decode cX7_first 6 = .ok (.iload_n 0, 1) := by decide +kernel
theorem dX7_first_7 : decode cX7_first 7 = .ok (.bipush 7, 2) := by decide +kernel
theorem dX7_first_9 : decode cX7_first 9 = .ok (.idiv, 1) := by decide +kernel
theorem dX7_first_10 : decode cX7_first 10 = .ok (.bipush 8, 2) := by decide +kernel
theorem dX7_first_12 : decode cX7_first 12 = .ok (.imul, 1) := by decide +kernel
theorem dX7_first_13 : decode cX7_first 13 = .ok (.iload_n 0, 1) := by decide +kernel
theorem dX7_first_14 : decode cX7_first 14 = .ok (.bipush 7, 2) := by decide +kernel
theorem dX7_first_16 : decode cX7_first 16 = .ok (.irem, 1) := by decide +kernel
theorem dX7_first_17 : decode cX7_first 17 = .ok (.iadd, 1) := by decide +kernel
theorem dX7_first_18 : decode cX7_first 18 = .ok (.goto 7, 3) := by decide +kernel
theorem dX7_first_21 : decode cX7_first 21 = .ok (.iload_n 0, 1) := by decide +kernel
theorem dX7_first_22 : decode cX7_first 22 = .ok (.bipush 42, 2) := by decide +kernel
theorem dX7_first_24 : decode cX7_first 24 = .ok (.isub, 1) := by decide +kernel
theorem dX7_first_25 : decode cX7_first 25 = .ok (.ireturn, 1) := by decide +kernel
set_option maxRecDepth 20000 in
theorem ggX7_second_X7_first : GoodIn wsX7_second wsX7_first := goodIn_r _ [4] (by decide +kernel) (by decide +kernel)
set_option maxRecDepth 20000 in
theorem gX7_second_X7_first : GoodIn wsX7_second (va_wsS RX7 40 yX7_first wsX7_first) := goodIn_app (goodIn_of _ (by decide +kernel)) ggX7_second_X7_first
theorem dX7_second_0 : decode cX7_second 0 = .ok (.iload_n 0, 1) := by decide +kernel
theorem dX7_second_1 : decode cX7_second 1 = .ok (.bipush 42, 2) := by decide +kernel
theorem dX7_second_3 : decode cX7_second 3 = .ok (.if_icmp .ge 12, 3) := by decide +kernel
theorem dX7_second_6 : decode cX7_second 6 = .ok (.iload_n 0, 1) := by decide +kernel
theorem dX7_second_7 : decode cX7_second 7 = .ok (.invokestatic 40, 3) := by decide +kernel
theorem dX7_second_10 : decode cX7_second 10 = .ok (.iconst 1, 1) := by decide +kernel
theorem dX7_second_11 : decode cX7_second 11 = .ok (.iadd, 1) := by decide +kernel
theorem dX7_second_12 : decode cX7_second 12 = .ok (.goto 10, 3) := by decide +kernel
theorem dX7_second_15 : decode cX7_second 15 = .ok (.iload_n 0, 1) := by decide +kernel
theorem dX7_second_16 : decode cX7_second 16 = .ok (.invokestatic 40, 3) := by decide +kernel
theorem dX7_second_19 : decode cX7_second 19 = .ok (.bipush 8, 2) := by decide +kernel
theorem dX7_second_21 : decode cX7_second 21 = .ok (.iadd, 1) := by decide +kernel
theorem dX7_second_22 : decode cX7_second 22 = .ok (.ireturn, 1) := by decide +kernel
theorem dX7_isGone_0 : decode cX7_isGone 0 = .ok (.aload_n 0, 1) := by decide +kernel
theorem dX7_isGone_1 : decode cX7_isGone 1 = .ok (.getfield 7, 3) := by decide +kernel
theorem dX7_isGone_4 : decode cX7_isGone 4 = .ok (.sipush 164, 3) := by decide +kernel
theorem dX7_isGone_7 : decode cX7_isGone 7 = .ok (.iload_n 1, 1) := by decide +kernel
theorem dX7_isGone_8 : decode cX7_isGone 8 = .ok (.iadd, 1) := by decide +kernel
theorem dX7_isGone_9 : decode cX7_isGone 9 = .ok (.iaload, 1) := by decide +kernel
theorem dX7_isGone_10 : decode cX7_isGone 10 = .ok (.iconst 1, 1) := by decide +kernel
theorem dX7_isGone_11 : decode cX7_isGone 11 = .ok (.if_icmp .ne 7, 3) := by decide +kernel
theorem dX7_isGone_14 : decode cX7_isGone 14 = .ok (.iconst 1, 1) := by decide +kernel
theorem dX7_isGone_15 : decode cX7_isGone 15 = .ok (.goto 4, 3) := by decide +kernel
theorem dX7_isGone_18 : decode cX7_isGone 18 = .ok (.iconst 0, 1) := by decide +kernel
theorem dX7_isGone_19 : decode cX7_isGone 19 = .ok (.ireturn, 1) := by decide +kernel
set_option maxRecDepth 20000 in
theorem ggX7_isVoid_X7_first : GoodIn wsX7_isVoid wsX7_first := goodIn_r _ [4] (by decide +kernel) (by decide +kernel)
set_option maxRecDepth 20000 in
theorem gX7_isVoid_X7_first : GoodIn wsX7_isVoid (va_wsS RX7 40 yX7_first wsX7_first) := goodIn_app (goodIn_of _ (by decide +kernel)) ggX7_isVoid_X7_first
set_option maxRecDepth 20000 in
theorem ggX7_isVoid_X7_isGone : GoodIn wsX7_isVoid wsX7_isGone := goodIn_r _ [8, 9, 13, 14, 15, 16, 17, 18, 19, 20, 21] (by decide +kernel) (by decide +kernel)
set_option maxRecDepth 20000 in
theorem gX7_isVoid_X7_isGone : GoodIn wsX7_isVoid (wsV RX7 44 RX7 yX7_isGone wsX7_isGone) := goodIn_app (goodIn_of _ (by decide +kernel)) ggX7_isVoid_X7_isGone
set_option maxRecDepth 20000 in
theorem ggX7_isVoid_X7_second : GoodIn wsX7_isVoid wsX7_second := goodIn_r _ [12, 1, 2, 3, 4] (by decide +kernel) (by decide +kernel)
set_option maxRecDepth 20000 in
theorem gX7_isVoid_X7_second : GoodIn wsX7_isVoid (va_wsS RX7 48 yX7_second wsX7_second) := goodIn_app (goodIn_of _ (by decide +kernel)) ggX7_isVoid_X7_second
theorem dX7_isVoid_0 : decode cX7_isVoid 0 = .ok (.aload_n 0, 1) := by decide +kernel
theorem dX7_isVoid_1 : decode cX7_isVoid 1 = .ok (.iload_n 1, 1) := by decide +kernel
theorem dX7_isVoid_2 : decode cX7_isVoid 2 = .ok (.invokestatic 40, 3) := by decide +kernel
theorem dX7_isVoid_5 : decode cX7_isVoid 5 = .ok (.invokevirtual 44, 3) := by decide +kernel
theorem dX7_isVoid_8 : decode cX7_isVoid 8 = .ok (.ifCond .ne 14, 3) := by decide +kernel
theorem dX7_isVoid_11 : decode cX7_isVoid 11 = .ok (.aload_n 0, 1) := by decide +kernel
theorem dX7_isVoid_12 : decode cX7_isVoid 12 = .ok (.iload_n 1, 1) := by decide +kernel
theorem dX7_isVoid_13 : decode cX7_isVoid 13 = .ok (.invokestatic 48, 3) := by decide +kernel
theorem dX7_isVoid_16 : decode cX7_isVoid 16 = .ok (.invokevirtual 44, 3) := by decide +kernel
theorem dX7_isVoid_19 : decode cX7_isVoid 19 = .ok (.ifCond .eq 7, 3) := by decide +kernel
theorem dX7_isVoid_22 : decode cX7_isVoid 22 = .ok (.iconst 1, 1) := by decide +kernel
theorem dX7_isVoid_23 : decode cX7_isVoid 23 = .ok (.goto 4, 3) := by decide +kernel
theorem dX7_isVoid_26 : decode cX7_isVoid 26 = .ok (.iconst 0, 1) := by decide +kernel
theorem dX7_isVoid_27 : decode cX7_isVoid 27 = .ok (.ireturn, 1) := by decide +kernel
set_option maxRecDepth 20000 in
theorem ggX7_holds_X7_isVoid : GoodIn wsX7_holds wsX7_isVoid := goodIn_r _ [6, 7, 8, 5, 9, 10, 11, 12, 13, 1, 14, 15, 16, 17, 18, 19, 20, 21, 22, 23, 24, 25] (by decide +kernel) (by decide +kernel)
set_option maxRecDepth 20000 in
theorem gX7_holds_X7_isVoid : GoodIn wsX7_holds (wsV RX7 51 RX7 yX7_isVoid wsX7_isVoid) := goodIn_app (goodIn_of _ (by decide +kernel)) ggX7_holds_X7_isVoid
theorem dX7_holds_0 : decode cX7_holds 0 = .ok (.aload_n 0, 1) := by decide +kernel
theorem dX7_holds_1 : decode cX7_holds 1 = .ok (.iload_n 1, 1) := by decide +kernel
theorem dX7_holds_2 : decode cX7_holds 2 = .ok (.invokevirtual 51, 3) := by decide +kernel
theorem dX7_holds_5 : decode cX7_holds 5 = .ok (.ifCond .ne 30, 3) := by decide +kernel
theorem dX7_holds_8 : decode cX7_holds 8 = .ok (.aload_n 0, 1) := by decide +kernel
theorem dX7_holds_9 : decode cX7_holds 9 = .ok (.getfield 7, 3) := by decide +kernel
theorem dX7_holds_12 : decode cX7_holds 12 = .ok (.iconst 0, 1) := by decide +kernel
theorem dX7_holds_13 : decode cX7_holds 13 = .ok (.iload_n 1, 1) := by decide +kernel
theorem dX7_holds_14 : decode cX7_holds 14 = .ok (.iadd, 1) := by decide +kernel
theorem dX7_holds_15 : decode cX7_holds 15 = .ok (.iaload, 1) := by decide +kernel
theorem dX7_holds_16 : decode cX7_holds 16 = .ok (.ifCond .eq 15, 3) := by decide +kernel
theorem dX7_holds_19 : decode cX7_holds 19 = .ok (.aload_n 0, 1) := by decide +kernel
theorem dX7_holds_20 : decode cX7_holds 20 = .ok (.getfield 7, 3) := by decide +kernel
theorem dX7_holds_23 : decode cX7_holds 23 = .ok (.iconst 0, 1) := by decide +kernel
theorem dX7_holds_24 : decode cX7_holds 24 = .ok (.iload_n 1, 1) := by decide +kernel
theorem dX7_holds_25 : decode cX7_holds 25 = .ok (.iadd, 1) := by decide +kernel
theorem dX7_holds_26 : decode cX7_holds 26 = .ok (.iaload, 1) := by decide +kernel
theorem dX7_holds_27 : decode cX7_holds 27 = .ok (.iconst 2, 1) := by decide +kernel
theorem dX7_holds_28 : decode cX7_holds 28 = .ok (.if_icmp .ne 7, 3) := by decide +kernel
theorem dX7_holds_31 : decode cX7_holds 31 = .ok (.iconst 1, 1) := by decide +kernel
theorem dX7_holds_32 : decode cX7_holds 32 = .ok (.goto 4, 3) := by decide +kernel
theorem dX7_holds_35 : decode cX7_holds 35 = .ok (.iconst 0, 1) := by decide +kernel
theorem dX7_holds_36 : decode cX7_holds 36 = .ok (.ireturn, 1) := by decide +kernel
theorem dX7_looks_0 : decode cX7_looks 0 = .ok (.iconst 0, 1) := by decide +kernel
theorem dX7_looks_1 : decode cX7_looks 1 = .ok (.istore_n 1, 1) := by decide +kernel
theorem dX7_looks_2 : decode cX7_looks 2 = .ok (.iload_n 1, 1) := by decide +kernel
theorem dX7_looks_3 : decode cX7_looks 3 = .ok (.sipush 246, 3) := by decide +kernel
theorem dX7_looks_6 : decode cX7_looks 6 = .ok (.if_icmp .ge 21, 3) := by decide +kernel
theorem dX7_looks_9 : decode cX7_looks 9 = .ok (.aload_n 0, 1) := by decide +kernel
theorem dX7_looks_10 : decode cX7_looks 10 = .ok (.getfield 13, 3) := by decide +kernel
theorem dX7_looks_13 : decode cX7_looks 13 = .ok (.iload_n 1, 1) := by decide +kernel
theorem dX7_looks_14 : decode cX7_looks 14 = .ok (.aload_n 0, 1) := by decide +kernel
theorem dX7_looks_15 : decode cX7_looks 15 = .ok (.getfield 7, 3) := by decide +kernel
theorem dX7_looks_18 : decode cX7_looks 18 = .ok (.iload_n 1, 1) := by decide +kernel
theorem dX7_looks_19 : decode cX7_looks 19 = .ok (.iaload, 1) := by decide +kernel
theorem dX7_looks_20 : decode cX7_looks 20 = .ok (.iastore, 1) := by decide +kernel
theorem dX7_looks_21 : decode cX7_looks 21 = .ok (.iinc 1 1, 3) := by decide +kernel
theorem dX7_looks_24 : decode cX7_looks 24 = .ok (.goto (-22), 3) := by decide +kernel
theorem dX7_looks_27 : decode cX7_looks 27 = .ok (.return_, 1) := by decide +kernel
theorem dX7_records_0 : decode cX7_records 0 = .ok (.aload_n 0, 1) := by decide +kernel
theorem dX7_records_1 : decode cX7_records 1 = .ok (.getfield 54, 3) := by decide +kernel
theorem dX7_records_4 : decode cX7_records 4 = .ok (.bipush 6, 2) := by decide +kernel
theorem dX7_records_6 : decode cX7_records 6 = .ok (.if_icmp .ne 44, 3) := by decide +kernel
theorem dX7_records_9 : decode cX7_records 9 = .ok (.iconst 0, 1) := by decide +kernel
theorem dX7_records_10 : decode cX7_records 10 = .ok (.istore_n 1, 1) := by decide +kernel
theorem dX7_records_11 : decode cX7_records 11 = .ok (.iload_n 1, 1) := by decide +kernel
theorem dX7_records_12 : decode cX7_records 12 = .ok (.sipush 1230, 3) := by decide +kernel
theorem dX7_records_15 : decode cX7_records 15 = .ok (.if_icmp .ge 25, 3) := by decide +kernel
theorem dX7_records_18 : decode cX7_records 18 = .ok (.aload_n 0, 1) := by decide +kernel
theorem dX7_records_19 : decode cX7_records 19 = .ok (.getfield 16, 3) := by decide +kernel
theorem dX7_records_22 : decode cX7_records 22 = .ok (.iload_n 1, 1) := by decide +kernel
theorem dX7_records_23 : decode cX7_records 23 = .ok (.aload_n 0, 1) := by decide +kernel
theorem dX7_records_24 : decode cX7_records 24 = .ok (.getfield 16, 3) := by decide +kernel
theorem dX7_records_27 : decode cX7_records 27 = .ok (.iload_n 1, 1) := by decide +kernel
theorem dX7_records_28 : decode cX7_records 28 = .ok (.sipush 246, 3) := by decide +kernel
theorem dX7_records_31 : decode cX7_records 31 = .ok (.iadd, 1) := by decide +kernel
theorem dX7_records_32 : decode cX7_records 32 = .ok (.iaload, 1) := by decide +kernel
theorem dX7_records_33 : decode cX7_records 33 = .ok (.iastore, 1) := by decide +kernel
theorem dX7_records_34 : decode cX7_records 34 = .ok (.iinc 1 1, 3) := by decide +kernel
theorem dX7_records_37 : decode cX7_records 37 = .ok (.goto (-26), 3) := by decide +kernel
theorem dX7_records_40 : decode cX7_records 40 = .ok (.aload_n 0, 1) := by decide +kernel
theorem dX7_records_41 : decode cX7_records 41 = .ok (.dup, 1) := by decide +kernel
theorem dX7_records_42 : decode cX7_records 42 = .ok (.getfield 54, 3) := by decide +kernel
theorem dX7_records_45 : decode cX7_records 45 = .ok (.iconst 1, 1) := by decide +kernel
theorem dX7_records_46 : decode cX7_records 46 = .ok (.isub, 1) := by decide +kernel
theorem dX7_records_47 : decode cX7_records 47 = .ok (.putfield 54, 3) := by decide +kernel
theorem dX7_records_50 : decode cX7_records 50 = .ok (.iconst 0, 1) := by decide +kernel
theorem dX7_records_51 : decode cX7_records 51 = .ok (.istore_n 1, 1) := by decide +kernel
theorem dX7_records_52 : decode cX7_records 52 = .ok (.iload_n 1, 1) := by decide +kernel
theorem dX7_records_53 : decode cX7_records 53 = .ok (.sipush 246, 3) := by decide +kernel
theorem dX7_records_56 : decode cX7_records 56 = .ok (.if_icmp .ge 30, 3) := by decide +kernel
theorem dX7_records_59 : decode cX7_records 59 = .ok (.aload_n 0, 1) := by decide +kernel
theorem dX7_records_60 : decode cX7_records 60 = .ok (.getfield 16, 3) := by decide +kernel
theorem dX7_records_63 : decode cX7_records 63 = .ok (.sipush 246, 3) := by decide +kernel
theorem dX7_records_66 : decode cX7_records 66 = .ok (.aload_n 0, 1) := by decide +kernel
theorem dX7_records_67 : decode cX7_records 67 = .ok (.getfield 54, 3) := by decide +kernel
theorem dX7_records_70 : decode cX7_records 70 = .ok (.imul, 1) := by decide +kernel
theorem dX7_records_71 : decode cX7_records 71 = .ok (.iload_n 1, 1) := by decide +kernel
theorem dX7_records_72 : decode cX7_records 72 = .ok (.iadd, 1) := by decide +kernel
theorem dX7_records_73 : decode cX7_records 73 = .ok (.aload_n 0, 1) := by decide +kernel
theorem dX7_records_74 : decode cX7_records 74 = .ok (.getfield 13, 3) := by decide +kernel
theorem dX7_records_77 : decode cX7_records 77 = .ok (.iload_n 1, 1) := by decide +kernel
theorem dX7_records_78 : decode cX7_records 78 = .ok (.iaload, 1) := by decide +kernel
theorem dX7_records_79 : decode cX7_records 79 = .ok (.iastore, 1) := by decide +kernel
theorem dX7_records_80 : decode cX7_records 80 = .ok (.iinc 1 1, 3) := by decide +kernel
theorem dX7_records_83 : decode cX7_records 83 = .ok (.goto (-31), 3) := by decide +kernel
theorem dX7_records_86 : decode cX7_records 86 = .ok (.aload_n 0, 1) := by decide +kernel
theorem dX7_records_87 : decode cX7_records 87 = .ok (.dup, 1) := by decide +kernel
theorem dX7_records_88 : decode cX7_records 88 = .ok (.getfield 54, 3) := by decide +kernel
theorem dX7_records_91 : decode cX7_records 91 = .ok (.iconst 1, 1) := by decide +kernel
theorem dX7_records_92 : decode cX7_records 92 = .ok (.iadd, 1) := by decide +kernel
theorem dX7_records_93 : decode cX7_records 93 = .ok (.putfield 54, 3) := by decide +kernel
theorem dX7_records_96 : decode cX7_records 96 = .ok (.return_, 1) := by decide +kernel
set_option maxRecDepth 20000 in
theorem ggX7_layPieces_X7_isGone : GoodIn wsX7_layPieces wsX7_isGone := goodIn_r _ [7, 2, 22, 23, 24, 25, 26, 27, 28, 29, 30] (by decide +kernel) (by decide +kernel)
set_option maxRecDepth 20000 in
theorem gX7_layPieces_X7_isGone : GoodIn wsX7_layPieces (wsV RX7 44 RX7 yX7_isGone wsX7_isGone) := goodIn_app (goodIn_of _ (by decide +kernel)) ggX7_layPieces_X7_isGone
set_option maxRecDepth 20000 in
theorem ggX7_layPieces_X7_holds : GoodIn wsX7_layPieces wsX7_holds := goodIn_r _ [11, 2, 12, 13, 14, 6, 15, 16, 17, 18, 3, 4, 5, 7, 19, 20, 21, 22, 23, 24, 25, 26, 27, 28, 29, 30] (by decide +kernel) (by decide +kernel)
set_option maxRecDepth 20000 in
theorem gX7_layPieces_X7_holds : GoodIn wsX7_layPieces (wsV RX7 58 RX7 yX7_holds wsX7_holds) := goodIn_app (goodIn_of _ (by decide +kernel)) ggX7_layPieces_X7_holds
set_option maxRecDepth 20000 in
theorem ggX7_layPieces_X7_isVoid : GoodIn wsX7_layPieces wsX7_isVoid := goodIn_r _ [15, 16, 17, 6, 18, 3, 4, 5, 7, 2, 19, 20, 21, 22, 23, 24, 25, 26, 27, 28, 29, 30] (by decide +kernel) (by decide +kernel)
set_option maxRecDepth 20000 in
theorem gX7_layPieces_X7_isVoid : GoodIn wsX7_layPieces (wsV RX7 51 RX7 yX7_isVoid wsX7_isVoid) := goodIn_app (goodIn_of _ (by decide +kernel)) ggX7_layPieces_X7_isVoid
set_option maxRecDepth 20000 in
theorem ggX7_layPieces_X7_first : GoodIn wsX7_layPieces wsX7_first := goodIn_r _ [18] (by decide +kernel) (by decide +kernel)
set_option maxRecDepth 20000 in
theorem gX7_layPieces_X7_first : GoodIn wsX7_layPieces (va_wsS RX7 40 yX7_first wsX7_first) := goodIn_app (goodIn_of _ (by decide +kernel)) ggX7_layPieces_X7_first
set_option maxRecDepth 20000 in
theorem ggX7_layPieces_X7_second : GoodIn wsX7_layPieces wsX7_second := goodIn_r _ [21, 16, 17, 6, 18] (by decide +kernel) (by decide +kernel)
set_option maxRecDepth 20000 in
theorem gX7_layPieces_X7_second : GoodIn wsX7_layPieces (va_wsS RX7 48 yX7_second wsX7_second) := goodIn_app (goodIn_of _ (by decide +kernel)) ggX7_layPieces_X7_second
theorem dX7_layPieces_0 : decode cX7_layPieces 0 = .ok (.iconst 0, 1) := by decide +kernel
theorem dX7_layPieces_1 : decode cX7_layPieces 1 = .ok (.istore_n 3, 1) := by decide +kernel
theorem dX7_layPieces_2 : decode cX7_layPieces 2 = .ok (.iload_n 3, 1) := by decide +kernel
theorem dX7_layPieces_3 : decode cX7_layPieces 3 = .ok (.bipush 48, 2) := by decide +kernel
theorem dX7_layPieces_5 : decode cX7_layPieces 5 = .ok (.if_icmp .ge 29, 3) := by decide +kernel
theorem dX7_layPieces_8 : decode cX7_layPieces 8 = .ok (.aload_n 0, 1) := by decide +kernel
theorem dX7_layPieces_9 : decode cX7_layPieces 9 = .ok (.getfield 29, 3) := by decide +kernel
theorem dX7_layPieces_12 : decode cX7_layPieces 12 = .ok (.iload_n 3, 1) := by decide +kernel
theorem dX7_layPieces_13 : decode cX7_layPieces 13 = .ok (.aload_n 0, 1) := by decide +kernel
theorem dX7_layPieces_14 : decode cX7_layPieces 14 = .ok (.iload_n 3, 1) := by decide +kernel
theorem dX7_layPieces_15 : decode cX7_layPieces 15 = .ok (.invokevirtual 44, 3) := by decide +kernel
theorem dX7_layPieces_18 : decode cX7_layPieces 18 = .ok (.ifCond .eq 8, 3) := by decide +kernel
theorem dX7_layPieces_21 : decode cX7_layPieces 21 = .ok (.bipush (-6), 2) := by decide +kernel
theorem dX7_layPieces_23 : decode cX7_layPieces 23 = .ok (.goto 4, 3) := by decide +kernel
theorem dX7_layPieces_26 : decode cX7_layPieces 26 = .ok (.iload_n 3, 1) := by decide +kernel
theorem dX7_layPieces_27 : decode cX7_layPieces 27 = .ok (.iastore, 1) := by decide +kernel
theorem dX7_layPieces_28 : decode cX7_layPieces 28 = .ok (.iinc 3 1, 3) := by decide +kernel
theorem dX7_layPieces_31 : decode cX7_layPieces 31 = .ok (.goto (-29), 3) := by decide +kernel
theorem dX7_layPieces_34 : decode cX7_layPieces 34 = .ok (.iconst 1, 1) := by decide +kernel
theorem dX7_layPieces_35 : decode cX7_layPieces 35 = .ok (.istore_n 3, 1) := by decide +kernel
theorem dX7_layPieces_36 : decode cX7_layPieces 36 = .ok (.iload_n 3, 1) := by decide +kernel
theorem dX7_layPieces_37 : decode cX7_layPieces 37 = .ok (.ifCond .eq 154, 3) := by decide +kernel
theorem dX7_layPieces_40 : decode cX7_layPieces 40 = .ok (.iconst 0, 1) := by decide +kernel
theorem dX7_layPieces_41 : decode cX7_layPieces 41 = .ok (.istore_n 3, 1) := by decide +kernel
theorem dX7_layPieces_42 : decode cX7_layPieces 42 = .ok (.iconst 0, 1) := by decide +kernel
theorem dX7_layPieces_43 : decode cX7_layPieces 43 = .ok (.istore 4, 2) := by decide +kernel
theorem dX7_layPieces_45 : decode cX7_layPieces 45 = .ok (.iload 4, 2) := by decide +kernel
theorem dX7_layPieces_47 : decode cX7_layPieces 47 = .ok (.bipush 82, 2) := by decide +kernel
theorem dX7_layPieces_49 : decode cX7_layPieces 49 = .ok (.if_icmp .ge 139, 3) := by decide +kernel
theorem dX7_layPieces_52 : decode cX7_layPieces 52 = .ok (.iload 4, 2) := by decide +kernel
theorem dX7_layPieces_54 : decode cX7_layPieces 54 = .ok (.iload_n 1, 1) := by decide +kernel
theorem dX7_layPieces_55 : decode cX7_layPieces 55 = .ok (.if_icmp .eq 42, 3) := by decide +kernel
theorem dX7_layPieces_58 : decode cX7_layPieces 58 = .ok (.aload_n 0, 1) := by decide +kernel
theorem dX7_layPieces_59 : decode cX7_layPieces 59 = .ok (.iload 4, 2) := by decide +kernel
theorem dX7_layPieces_61 : decode cX7_layPieces 61 = .ok (.invokevirtual 58, 3) := by decide +kernel
theorem dX7_layPieces_64 : decode cX7_layPieces 64 = .ok (.ifCond .ne 29, 3) := by decide +kernel
theorem dX7_layPieces_67 : decode cX7_layPieces 67 = .ok (.iload_n 2, 1) := by decide +kernel
theorem dX7_layPieces_68 : decode cX7_layPieces 68 = .ok (.ifCond .eq 29, 3) := by decide +kernel
theorem dX7_layPieces_71 : decode cX7_layPieces 71 = .ok (.aload_n 0, 1) := by decide +kernel
theorem dX7_layPieces_72 : decode cX7_layPieces 72 = .ok (.iload 4, 2) := by decide +kernel
theorem dX7_layPieces_74 : decode cX7_layPieces 74 = .ok (.invokevirtual 51, 3) := by decide +kernel
theorem dX7_layPieces_77 : decode cX7_layPieces 77 = .ok (.ifCond .ne 20, 3) := by decide +kernel
theorem dX7_layPieces_80 : decode cX7_layPieces 80 = .ok (.aload_n 0, 1) := by decide +kernel
theorem dX7_layPieces_81 : decode cX7_layPieces 81 = .ok (.getfield 7, 3) := by decide +kernel
theorem dX7_layPieces_84 : decode cX7_layPieces 84 = .ok (.iconst 0, 1) := by decide +kernel
theorem dX7_layPieces_85 : decode cX7_layPieces 85 = .ok (.iload 4, 2) := by decide +kernel
theorem dX7_layPieces_87 : decode cX7_layPieces 87 = .ok (.iadd, 1) := by decide +kernel
theorem dX7_layPieces_88 : decode cX7_layPieces 88 = .ok (.iaload, 1) := by decide +kernel
theorem dX7_layPieces_89 : decode cX7_layPieces 89 = .ok (.iconst 3, 1) := by decide +kernel
theorem dX7_layPieces_90 : decode cX7_layPieces 90 = .ok (.if_icmp .ne 7, 3) := by decide +kernel
theorem dX7_layPieces_93 : decode cX7_layPieces 93 = .ok (.iconst 1, 1) := by decide +kernel
theorem dX7_layPieces_94 : decode cX7_layPieces 94 = .ok (.goto 4, 3) := by decide +kernel
theorem dX7_layPieces_97 : decode cX7_layPieces 97 = .ok (.iconst 0, 1) := by decide +kernel
theorem dX7_layPieces_98 : decode cX7_layPieces 98 = .ok (.istore 5, 2) := by decide +kernel
theorem dX7_layPieces_100 : decode cX7_layPieces 100 = .ok (.aload_n 0, 1) := by decide +kernel
theorem dX7_layPieces_101 : decode cX7_layPieces 101 = .ok (.getfield 29, 3) := by decide +kernel
theorem dX7_layPieces_104 : decode cX7_layPieces 104 = .ok (.iload 4, 2) := by decide +kernel
theorem dX7_layPieces_106 : decode cX7_layPieces 106 = .ok (.invokestatic 40, 3) := by decide +kernel
theorem dX7_layPieces_109 : decode cX7_layPieces 109 = .ok (.iaload, 1) := by decide +kernel
theorem dX7_layPieces_110 : decode cX7_layPieces 110 = .ok (.istore 6, 2) := by decide +kernel
theorem dX7_layPieces_112 : decode cX7_layPieces 112 = .ok (.aload_n 0, 1) := by decide +kernel
theorem dX7_layPieces_113 : decode cX7_layPieces 113 = .ok (.getfield 29, 3) := by decide +kernel
theorem dX7_layPieces_116 : decode cX7_layPieces 116 = .ok (.iload 4, 2) := by decide +kernel
theorem dX7_layPieces_118 : decode cX7_layPieces 118 = .ok (.invokestatic 48, 3) := by decide +kernel
theorem dX7_layPieces_121 : decode cX7_layPieces 121 = .ok (.iaload, 1) := by decide +kernel
theorem dX7_layPieces_122 : decode cX7_layPieces 122 = .ok (.istore 7, 2) := by decide +kernel
theorem dX7_layPieces_124 : decode cX7_layPieces 124 = .ok (.iload 5, 2) := by decide +kernel
theorem dX7_layPieces_126 : decode cX7_layPieces 126 = .ok (.ifCond .eq 56, 3) := by decide +kernel
theorem dX7_layPieces_129 : decode cX7_layPieces 129 = .ok (.iload 6, 2) := by decide +kernel
theorem dX7_layPieces_131 : decode cX7_layPieces 131 = .ok (.iload 7, 2) := by decide +kernel
theorem dX7_layPieces_133 : decode cX7_layPieces 133 = .ok (.if_icmp .eq 49, 3) := by decide +kernel
theorem dX7_layPieces_136 : decode cX7_layPieces 136 = .ok (.aload_n 0, 1) := by decide +kernel
theorem dX7_layPieces_137 : decode cX7_layPieces 137 = .ok (.getfield 29, 3) := by decide +kernel
theorem dX7_layPieces_140 : decode cX7_layPieces 140 = .ok (.iload 4, 2) := by decide +kernel
theorem dX7_layPieces_142 : decode cX7_layPieces 142 = .ok (.invokestatic 40, 3) := by decide +kernel
theorem dX7_layPieces_145 : decode cX7_layPieces 145 = .ok (.iload 6, 2) := by decide +kernel
theorem dX7_layPieces_147 : decode cX7_layPieces 147 = .ok (.iload 7, 2) := by decide +kernel
theorem dX7_layPieces_149 : decode cX7_layPieces 149 = .ok (.if_icmp .ge 8, 3) := by decide +kernel
theorem dX7_layPieces_152 : decode cX7_layPieces 152 = .ok (.iload 6, 2) := by decide +kernel
theorem dX7_layPieces_154 : decode cX7_layPieces 154 = .ok (.goto 5, 3) := by decide +kernel
theorem dX7_layPieces_157 : decode cX7_layPieces 157 = .ok (.iload 7, 2) := by decide +kernel
theorem dX7_layPieces_159 : decode cX7_layPieces 159 = .ok (.iastore, 1) := by decide +kernel
theorem dX7_layPieces_160 : decode cX7_layPieces 160 = .ok (.aload_n 0, 1) := by decide +kernel
theorem dX7_layPieces_161 : decode cX7_layPieces 161 = .ok (.getfield 29, 3) := by decide +kernel
theorem dX7_layPieces_164 : decode cX7_layPieces 164 = .ok (.iload 4, 2) := by decide +kernel
theorem dX7_layPieces_166 : decode cX7_layPieces 166 = .ok (.invokestatic 48, 3) := by decide +kernel
theorem dX7_layPieces_169 : decode cX7_layPieces 169 = .ok (.aload_n 0, 1) := by decide +kernel
theorem dX7_layPieces_170 : decode cX7_layPieces 170 = .ok (.getfield 29, 3) := by decide +kernel
theorem dX7_layPieces_173 : decode cX7_layPieces 173 = .ok (.iload 4, 2) := by decide +kernel
theorem dX7_layPieces_175 : decode cX7_layPieces 175 = .ok (.invokestatic 40, 3) := by decide +kernel
theorem dX7_layPieces_178 : decode cX7_layPieces 178 = .ok (.iaload, 1) := by decide +kernel
theorem dX7_layPieces_179 : decode cX7_layPieces 179 = .ok (.iastore, 1) := by decide +kernel
theorem dX7_layPieces_180 : decode cX7_layPieces 180 = .ok (.iconst 1, 1) := by decide +kernel
theorem dX7_layPieces_181 : decode cX7_layPieces 181 = .ok (.istore_n 3, 1) := by decide +kernel
theorem dX7_layPieces_182 : decode cX7_layPieces 182 = .ok (.iinc 4 1, 3) := by decide +kernel
theorem dX7_layPieces_185 : decode cX7_layPieces 185 = .ok (.goto (-140), 3) := by decide +kernel
theorem dX7_layPieces_188 : decode cX7_layPieces 188 = .ok (.goto (-152), 3) := by decide +kernel
theorem dX7_layPieces_191 : decode cX7_layPieces 191 = .ok (.return_, 1) := by decide +kernel
theorem dX7_cellsOf_0 : decode cX7_cellsOf 0 = .ok (.iconst 0, 1) := by decide +kernel
theorem dX7_cellsOf_1 : decode cX7_cellsOf 1 = .ok (.istore_n 2, 1) := by decide +kernel
theorem dX7_cellsOf_2 : decode cX7_cellsOf 2 = .ok (.iconst 0, 1) := by decide +kernel
theorem dX7_cellsOf_3 : decode cX7_cellsOf 3 = .ok (.istore_n 3, 1) := by decide +kernel
theorem dX7_cellsOf_4 : decode cX7_cellsOf 4 = .ok (.iload_n 3, 1) := by decide +kernel
theorem dX7_cellsOf_5 : decode cX7_cellsOf 5 = .ok (.bipush 48, 2) := by decide +kernel
theorem dX7_cellsOf_7 : decode cX7_cellsOf 7 = .ok (.if_icmp .ge 27, 3) := by decide +kernel
theorem dX7_cellsOf_10 : decode cX7_cellsOf 10 = .ok (.iload_n 2, 1) := by decide +kernel
theorem dX7_cellsOf_11 : decode cX7_cellsOf 11 = .ok (.aload_n 0, 1) := by decide +kernel
theorem dX7_cellsOf_12 : decode cX7_cellsOf 12 = .ok (.getfield 29, 3) := by decide +kernel
theorem dX7_cellsOf_15 : decode cX7_cellsOf 15 = .ok (.iload_n 3, 1) := by decide +kernel
theorem dX7_cellsOf_16 : decode cX7_cellsOf 16 = .ok (.iaload, 1) := by decide +kernel
theorem dX7_cellsOf_17 : decode cX7_cellsOf 17 = .ok (.iload_n 1, 1) := by decide +kernel
theorem dX7_cellsOf_18 : decode cX7_cellsOf 18 = .ok (.if_icmp .ne 7, 3) := by decide +kernel
theorem dX7_cellsOf_21 : decode cX7_cellsOf 21 = .ok (.iconst 1, 1) := by decide +kernel
theorem dX7_cellsOf_22 : decode cX7_cellsOf 22 = .ok (.goto 4, 3) := by decide +kernel
theorem dX7_cellsOf_25 : decode cX7_cellsOf 25 = .ok (.iconst 0, 1) := by decide +kernel
theorem dX7_cellsOf_26 : decode cX7_cellsOf 26 = .ok (.iadd, 1) := by decide +kernel
theorem dX7_cellsOf_27 : decode cX7_cellsOf 27 = .ok (.istore_n 2, 1) := by decide +kernel
theorem dX7_cellsOf_28 : decode cX7_cellsOf 28 = .ok (.iinc 3 1, 3) := by decide +kernel
theorem dX7_cellsOf_31 : decode cX7_cellsOf 31 = .ok (.goto (-27), 3) := by decide +kernel
theorem dX7_cellsOf_34 : decode cX7_cellsOf 34 = .ok (.iload_n 2, 1) := by decide +kernel
theorem dX7_cellsOf_35 : decode cX7_cellsOf 35 = .ok (.ireturn, 1) := by decide +kernel
set_option maxRecDepth 20000 in
theorem ggX7_fallsBy_X7_layPieces : GoodIn wsX7_fallsBy wsX7_layPieces := goodIn_r _ [6, 1, 7, 8, 9, 10, 5, 11, 12, 13, 14, 15, 16, 17, 18, 19, 20, 21, 22, 23, 24, 25, 30, 31, 32, 33, 34, 35, 36, 37, 38] (by decide +kernel) (by decide +kernel)
set_option maxRecDepth 20000 in
theorem gX7_fallsBy_X7_layPieces : GoodIn wsX7_fallsBy (wsV RX7 61 RX7 yX7_layPieces wsX7_layPieces) := goodIn_app (goodIn_of _ (by decide +kernel)) ggX7_fallsBy_X7_layPieces
set_option maxRecDepth 20000 in
theorem ggX7_fallsBy_X7_first : GoodIn wsX7_fallsBy wsX7_first := goodIn_r _ [22] (by decide +kernel) (by decide +kernel)
set_option maxRecDepth 20000 in
theorem gX7_fallsBy_X7_first : GoodIn wsX7_fallsBy (va_wsS RX7 40 yX7_first wsX7_first) := goodIn_app (goodIn_of _ (by decide +kernel)) ggX7_fallsBy_X7_first
set_option maxRecDepth 20000 in
theorem ggX7_fallsBy_X7_second : GoodIn wsX7_fallsBy wsX7_second := goodIn_r _ [25, 20, 21, 5, 22] (by decide +kernel) (by decide +kernel)
set_option maxRecDepth 20000 in
theorem gX7_fallsBy_X7_second : GoodIn wsX7_fallsBy (va_wsS RX7 48 yX7_second wsX7_second) := goodIn_app (goodIn_of _ (by decide +kernel)) ggX7_fallsBy_X7_second
set_option maxRecDepth 20000 in
theorem ggX7_fallsBy_X7_cellsOf : GoodIn wsX7_fallsBy wsX7_cellsOf := goodIn_r _ [29, 1, 30, 31, 32, 33, 34, 35, 36, 37, 38] (by decide +kernel) (by decide +kernel)
set_option maxRecDepth 20000 in
theorem gX7_fallsBy_X7_cellsOf : GoodIn wsX7_fallsBy (wsV RX7 65 RX7 yX7_cellsOf wsX7_cellsOf) := goodIn_app (goodIn_of _ (by decide +kernel)) ggX7_fallsBy_X7_cellsOf
theorem dX7_fallsBy_0 : decode cX7_fallsBy 0 = .ok (.aload_n 0, 1) := by decide +kernel
theorem dX7_fallsBy_1 : decode cX7_fallsBy 1 = .ok (.iload_n 1, 1) := by decide +kernel
theorem dX7_fallsBy_2 : decode cX7_fallsBy 2 = .ok (.iconst 0, 1) := by decide +kernel
theorem dX7_fallsBy_3 : decode cX7_fallsBy 3 = .ok (.invokevirtual 61, 3) := by decide +kernel
theorem dX7_fallsBy_6 : decode cX7_fallsBy 6 = .ok (.aload_n 0, 1) := by decide +kernel
theorem dX7_fallsBy_7 : decode cX7_fallsBy 7 = .ok (.getfield 29, 3) := by decide +kernel
theorem dX7_fallsBy_10 : decode cX7_fallsBy 10 = .ok (.iload_n 1, 1) := by decide +kernel
theorem dX7_fallsBy_11 : decode cX7_fallsBy 11 = .ok (.invokestatic 40, 3) := by decide +kernel
theorem dX7_fallsBy_14 : decode cX7_fallsBy 14 = .ok (.iaload, 1) := by decide +kernel
theorem dX7_fallsBy_15 : decode cX7_fallsBy 15 = .ok (.istore_n 2, 1) := by decide +kernel
theorem dX7_fallsBy_16 : decode cX7_fallsBy 16 = .ok (.aload_n 0, 1) := by decide +kernel
theorem dX7_fallsBy_17 : decode cX7_fallsBy 17 = .ok (.getfield 29, 3) := by decide +kernel
theorem dX7_fallsBy_20 : decode cX7_fallsBy 20 = .ok (.iload_n 1, 1) := by decide +kernel
theorem dX7_fallsBy_21 : decode cX7_fallsBy 21 = .ok (.invokestatic 48, 3) := by decide +kernel
theorem dX7_fallsBy_24 : decode cX7_fallsBy 24 = .ok (.iaload, 1) := by decide +kernel
theorem dX7_fallsBy_25 : decode cX7_fallsBy 25 = .ok (.istore_n 3, 1) := by decide +kernel
theorem dX7_fallsBy_26 : decode cX7_fallsBy 26 = .ok (.aload_n 0, 1) := by decide +kernel
theorem dX7_fallsBy_27 : decode cX7_fallsBy 27 = .ok (.iload_n 2, 1) := by decide +kernel
theorem dX7_fallsBy_28 : decode cX7_fallsBy 28 = .ok (.invokevirtual 65, 3) := by decide +kernel
theorem dX7_fallsBy_31 : decode cX7_fallsBy 31 = .ok (.aload_n 0, 1) := by decide +kernel
theorem dX7_fallsBy_32 : decode cX7_fallsBy 32 = .ok (.iload_n 3, 1) := by decide +kernel
theorem dX7_fallsBy_33 : decode cX7_fallsBy 33 = .ok (.invokevirtual 65, 3) := by decide +kernel
theorem dX7_fallsBy_36 : decode cX7_fallsBy 36 = .ok (.if_icmp .ge 7, 3) := by decide +kernel
theorem dX7_fallsBy_39 : decode cX7_fallsBy 39 = .ok (.iload_n 2, 1) := by decide +kernel
theorem dX7_fallsBy_40 : decode cX7_fallsBy 40 = .ok (.goto 4, 3) := by decide +kernel
theorem dX7_fallsBy_43 : decode cX7_fallsBy 43 = .ok (.iload_n 3, 1) := by decide +kernel
theorem dX7_fallsBy_44 : decode cX7_fallsBy 44 = .ok (.istore 4, 2) := by decide +kernel
theorem dX7_fallsBy_46 : decode cX7_fallsBy 46 = .ok (.iload_n 2, 1) := by decide +kernel
theorem dX7_fallsBy_47 : decode cX7_fallsBy 47 = .ok (.iload_n 3, 1) := by decide +kernel
theorem dX7_fallsBy_48 : decode cX7_fallsBy 48 = .ok (.if_icmp .eq 14, 3) := by decide +kernel
theorem dX7_fallsBy_51 : decode cX7_fallsBy 51 = .ok (.aload_n 0, 1) := by decide +kernel
theorem dX7_fallsBy_52 : decode cX7_fallsBy 52 = .ok (.iload 4, 2) := by decide +kernel
theorem dX7_fallsBy_54 : decode cX7_fallsBy 54 = .ok (.invokevirtual 65, 3) := by decide +kernel
theorem dX7_fallsBy_57 : decode cX7_fallsBy 57 = .ok (.bipush 12, 2) := by decide +kernel
theorem dX7_fallsBy_59 : decode cX7_fallsBy 59 = .ok (.if_icmp .le 8, 3) := by decide +kernel
theorem dX7_fallsBy_62 : decode cX7_fallsBy 62 = .ok (.bipush (-6), 2) := by decide +kernel
theorem dX7_fallsBy_64 : decode cX7_fallsBy 64 = .ok (.goto 5, 3) := by decide +kernel
theorem dX7_fallsBy_67 : decode cX7_fallsBy 67 = .ok (.iload 4, 2) := by decide +kernel
theorem dX7_fallsBy_69 : decode cX7_fallsBy 69 = .ok (.ireturn, 1) := by decide +kernel
set_option maxRecDepth 20000 in
theorem ggX7_cellsBy_X7_fallsBy : GoodIn wsX7_cellsBy wsX7_fallsBy := goodIn_r _ [5, 6, 7, 8, 9, 4, 10, 11, 12, 13, 14, 15, 16, 17, 18, 19, 20, 21, 22, 23, 24, 25, 26, 27, 28, 29, 30, 31, 32, 33, 34, 35, 36, 37, 38, 39, 40, 41, 42] (by decide +kernel) (by decide +kernel)
set_option maxRecDepth 20000 in
theorem gX7_cellsBy_X7_fallsBy : GoodIn wsX7_cellsBy (wsV RX7 68 RX7 yX7_fallsBy wsX7_fallsBy) := goodIn_app (goodIn_of _ (by decide +kernel)) ggX7_cellsBy_X7_fallsBy
set_option maxRecDepth 20000 in
theorem ggX7_cellsBy_X7_cellsOf : GoodIn wsX7_cellsBy wsX7_cellsOf := goodIn_r _ [33, 6, 34, 35, 36, 37, 38, 39, 40, 41, 42] (by decide +kernel) (by decide +kernel)
set_option maxRecDepth 20000 in
theorem gX7_cellsBy_X7_cellsOf : GoodIn wsX7_cellsBy (wsV RX7 65 RX7 yX7_cellsOf wsX7_cellsOf) := goodIn_app (goodIn_of _ (by decide +kernel)) ggX7_cellsBy_X7_cellsOf
theorem dX7_cellsBy_0 : decode cX7_cellsBy 0 = .ok (.aload_n 0, 1) := by decide +kernel
theorem dX7_cellsBy_1 : decode cX7_cellsBy 1 = .ok (.iload_n 1, 1) := by decide +kernel
theorem dX7_cellsBy_2 : decode cX7_cellsBy 2 = .ok (.invokevirtual 68, 3) := by decide +kernel
theorem dX7_cellsBy_5 : decode cX7_cellsBy 5 = .ok (.istore_n 2, 1) := by decide +kernel
theorem dX7_cellsBy_6 : decode cX7_cellsBy 6 = .ok (.iload_n 2, 1) := by decide +kernel
theorem dX7_cellsBy_7 : decode cX7_cellsBy 7 = .ok (.bipush (-6), 2) := by decide +kernel
theorem dX7_cellsBy_9 : decode cX7_cellsBy 9 = .ok (.if_icmp .ne 7, 3) := by decide +kernel
theorem dX7_cellsBy_12 : decode cX7_cellsBy 12 = .ok (.iconst 0, 1) := by decide +kernel
theorem dX7_cellsBy_13 : decode cX7_cellsBy 13 = .ok (.goto 8, 3) := by decide +kernel
theorem dX7_cellsBy_16 : decode cX7_cellsBy 16 = .ok (.aload_n 0, 1) := by decide +kernel
theorem dX7_cellsBy_17 : decode cX7_cellsBy 17 = .ok (.iload_n 2, 1) := by decide +kernel
theorem dX7_cellsBy_18 : decode cX7_cellsBy 18 = .ok (.invokevirtual 65, 3) := by decide +kernel
theorem dX7_cellsBy_21 : decode cX7_cellsBy 21 = .ok (.ireturn, 1) := by decide +kernel
set_option maxRecDepth 20000 in
theorem ggX7_left_X7_isGone : GoodIn wsX7_left wsX7_isGone := goodIn_r _ [5, 6, 7, 8, 9, 10, 11, 12, 13, 14, 15] (by decide +kernel) (by decide +kernel)
set_option maxRecDepth 20000 in
theorem gX7_left_X7_isGone : GoodIn wsX7_left (wsV RX7 44 RX7 yX7_isGone wsX7_isGone) := goodIn_app (goodIn_of _ (by decide +kernel)) ggX7_left_X7_isGone
theorem dX7_left_0 : decode cX7_left 0 = .ok (.iconst 0, 1) := by decide +kernel
theorem dX7_left_1 : decode cX7_left 1 = .ok (.istore_n 1, 1) := by decide +kernel
theorem dX7_left_2 : decode cX7_left 2 = .ok (.iconst 0, 1) := by decide +kernel
theorem dX7_left_3 : decode cX7_left 3 = .ok (.istore_n 2, 1) := by decide +kernel
theorem dX7_left_4 : decode cX7_left 4 = .ok (.iload_n 2, 1) := by decide +kernel
theorem dX7_left_5 : decode cX7_left 5 = .ok (.bipush 48, 2) := by decide +kernel
theorem dX7_left_7 : decode cX7_left 7 = .ok (.if_icmp .ge 25, 3) := by decide +kernel
theorem dX7_left_10 : decode cX7_left 10 = .ok (.iload_n 1, 1) := by decide +kernel
theorem dX7_left_11 : decode cX7_left 11 = .ok (.aload_n 0, 1) := by decide +kernel
theorem dX7_left_12 : decode cX7_left 12 = .ok (.iload_n 2, 1) := by decide +kernel
theorem dX7_left_13 : decode cX7_left 13 = .ok (.invokevirtual 44, 3) := by decide +kernel
theorem dX7_left_16 : decode cX7_left 16 = .ok (.ifCond .eq 7, 3) := by decide +kernel
theorem dX7_left_19 : decode cX7_left 19 = .ok (.iconst 0, 1) := by decide +kernel
theorem dX7_left_20 : decode cX7_left 20 = .ok (.goto 4, 3) := by decide +kernel
theorem dX7_left_23 : decode cX7_left 23 = .ok (.iconst 1, 1) := by decide +kernel
theorem dX7_left_24 : decode cX7_left 24 = .ok (.iadd, 1) := by decide +kernel
theorem dX7_left_25 : decode cX7_left 25 = .ok (.istore_n 1, 1) := by decide +kernel
theorem dX7_left_26 : decode cX7_left 26 = .ok (.iinc 2 1, 3) := by decide +kernel
theorem dX7_left_29 : decode cX7_left 29 = .ok (.goto (-25), 3) := by decide +kernel
theorem dX7_left_32 : decode cX7_left 32 = .ok (.iload_n 1, 1) := by decide +kernel
theorem dX7_left_33 : decode cX7_left 33 = .ok (.ireturn, 1) := by decide +kernel
set_option maxRecDepth 20000 in
theorem ggX7_isOver_X7_left : GoodIn wsX7_isOver wsX7_left := goodIn_r _ [6, 7, 8, 9, 5, 10, 1, 11, 12, 13, 14, 15, 16, 17, 18, 19] (by decide +kernel) (by decide +kernel)
set_option maxRecDepth 20000 in
theorem gX7_isOver_X7_left : GoodIn wsX7_isOver (wsV RX7 71 RX7 yX7_left wsX7_left) := goodIn_app (goodIn_of _ (by decide +kernel)) ggX7_isOver_X7_left
theorem dX7_isOver_0 : decode cX7_isOver 0 = .ok (.aload_n 0, 1) := by decide +kernel
theorem dX7_isOver_1 : decode cX7_isOver 1 = .ok (.getfield 7, 3) := by decide +kernel
theorem dX7_isOver_4 : decode cX7_isOver 4 = .ok (.sipush 244, 3) := by decide +kernel
theorem dX7_isOver_7 : decode cX7_isOver 7 = .ok (.iaload, 1) := by decide +kernel
theorem dX7_isOver_8 : decode cX7_isOver 8 = .ok (.sipush 200, 3) := by decide +kernel
theorem dX7_isOver_11 : decode cX7_isOver 11 = .ok (.if_icmp .ge 12, 3) := by decide +kernel
theorem dX7_isOver_14 : decode cX7_isOver 14 = .ok (.aload_n 0, 1) := by decide +kernel
theorem dX7_isOver_15 : decode cX7_isOver 15 = .ok (.invokevirtual 71, 3) := by decide +kernel
theorem dX7_isOver_18 : decode cX7_isOver 18 = .ok (.bipush 13, 2) := by decide +kernel
theorem dX7_isOver_20 : decode cX7_isOver 20 = .ok (.if_icmp .ge 7, 3) := by decide +kernel
theorem dX7_isOver_23 : decode cX7_isOver 23 = .ok (.iconst 1, 1) := by decide +kernel
theorem dX7_isOver_24 : decode cX7_isOver 24 = .ok (.goto 4, 3) := by decide +kernel
theorem dX7_isOver_27 : decode cX7_isOver 27 = .ok (.iconst 0, 1) := by decide +kernel
theorem dX7_isOver_28 : decode cX7_isOver 28 = .ok (.ireturn, 1) := by decide +kernel
set_option maxRecDepth 20000 in
theorem ggX7_rankOf_X7_at : GoodIn wsX7_rankOf wsX7_at := goodIn_r _ [5] (by decide +kernel) (by decide +kernel)
set_option maxRecDepth 20000 in
theorem gX7_rankOf_X7_at : GoodIn wsX7_rankOf (va_wsS RX7 32 yX7_at wsX7_at) := goodIn_app (goodIn_of _ (by decide +kernel)) ggX7_rankOf_X7_at
set_option maxRecDepth 20000 in
theorem ggX7_rankOf_X7_chalkAt : GoodIn wsX7_rankOf wsX7_chalkAt := goodIn_r _ [9, 1, 2, 3, 4, 5, 10, 11, 12, 13, 14, 15, 16, 17, 18] (by decide +kernel) (by decide +kernel)
set_option maxRecDepth 20000 in
theorem gX7_rankOf_X7_chalkAt : GoodIn wsX7_rankOf (wsV RX7 75 RX7 yX7_chalkAt wsX7_chalkAt) := goodIn_app (goodIn_of _ (by decide +kernel)) ggX7_rankOf_X7_chalkAt
theorem dX7_rankOf_0 : decode cX7_rankOf 0 = .ok (.bipush (-6), 2) := by decide +kernel
theorem dX7_rankOf_2 : decode cX7_rankOf 2 = .ok (.istore_n 3, 1) := by decide +kernel
theorem dX7_rankOf_3 : decode cX7_rankOf 3 = .ok (.iconst 0, 1) := by decide +kernel
theorem dX7_rankOf_4 : decode cX7_rankOf 4 = .ok (.istore 4, 2) := by decide +kernel
theorem dX7_rankOf_6 : decode cX7_rankOf 6 = .ok (.iload 4, 2) := by decide +kernel
theorem dX7_rankOf_8 : decode cX7_rankOf 8 = .ok (.aload_n 0, 1) := by decide +kernel
theorem dX7_rankOf_9 : decode cX7_rankOf 9 = .ok (.getfield 7, 3) := by decide +kernel
theorem dX7_rankOf_12 : decode cX7_rankOf 12 = .ok (.iload_n 1, 1) := by decide +kernel
theorem dX7_rankOf_13 : decode cX7_rankOf 13 = .ok (.iconst 2, 1) := by decide +kernel
theorem dX7_rankOf_14 : decode cX7_rankOf 14 = .ok (.invokestatic 32, 3) := by decide +kernel
theorem dX7_rankOf_17 : decode cX7_rankOf 17 = .ok (.iaload, 1) := by decide +kernel
theorem dX7_rankOf_18 : decode cX7_rankOf 18 = .ok (.if_icmp .ge 27, 3) := by decide +kernel
theorem dX7_rankOf_21 : decode cX7_rankOf 21 = .ok (.aload_n 0, 1) := by decide +kernel
theorem dX7_rankOf_22 : decode cX7_rankOf 22 = .ok (.iload_n 1, 1) := by decide +kernel
theorem dX7_rankOf_23 : decode cX7_rankOf 23 = .ok (.iload 4, 2) := by decide +kernel
theorem dX7_rankOf_25 : decode cX7_rankOf 25 = .ok (.invokevirtual 75, 3) := by decide +kernel
theorem dX7_rankOf_28 : decode cX7_rankOf 28 = .ok (.iload_n 2, 1) := by decide +kernel
theorem dX7_rankOf_29 : decode cX7_rankOf 29 = .ok (.if_icmp .ne 8, 3) := by decide +kernel
theorem dX7_rankOf_32 : decode cX7_rankOf 32 = .ok (.iload 4, 2) := by decide +kernel
theorem dX7_rankOf_34 : decode cX7_rankOf 34 = .ok (.goto 4, 3) := by decide +kernel
theorem dX7_rankOf_37 : decode cX7_rankOf 37 = .ok (.iload_n 3, 1) := by decide +kernel
theorem dX7_rankOf_38 : decode cX7_rankOf 38 = .ok (.istore_n 3, 1) := by decide +kernel
theorem dX7_rankOf_39 : decode cX7_rankOf 39 = .ok (.iinc 4 1, 3) := by decide +kernel
theorem dX7_rankOf_42 : decode cX7_rankOf 42 = .ok (.goto (-36), 3) := by decide +kernel
theorem dX7_rankOf_45 : decode cX7_rankOf 45 = .ok (.iload_n 3, 1) := by decide +kernel
theorem dX7_rankOf_46 : decode cX7_rankOf 46 = .ok (.ireturn, 1) := by decide +kernel
set_option maxRecDepth 20000 in
theorem ggX7_hasChalk_X7_rankOf : GoodIn wsX7_hasChalk wsX7_rankOf := goodIn_r _ [5, 6, 7, 8, 4, 9, 10, 11, 12, 13, 14, 15, 16, 17, 18, 19, 20, 21, 22] (by decide +kernel) (by decide +kernel)
set_option maxRecDepth 20000 in
theorem gX7_hasChalk_X7_rankOf : GoodIn wsX7_hasChalk (wsV RX7 78 RX7 yX7_rankOf wsX7_rankOf) := goodIn_app (goodIn_of _ (by decide +kernel)) ggX7_hasChalk_X7_rankOf
theorem dX7_hasChalk_0 : decode cX7_hasChalk 0 = .ok (.aload_n 0, 1) := by decide +kernel
theorem dX7_hasChalk_1 : decode cX7_hasChalk 1 = .ok (.iload_n 1, 1) := by decide +kernel
theorem dX7_hasChalk_2 : decode cX7_hasChalk 2 = .ok (.iload_n 2, 1) := by decide +kernel
theorem dX7_hasChalk_3 : decode cX7_hasChalk 3 = .ok (.invokevirtual 78, 3) := by decide +kernel
theorem dX7_hasChalk_6 : decode cX7_hasChalk 6 = .ok (.bipush (-6), 2) := by decide +kernel
theorem dX7_hasChalk_8 : decode cX7_hasChalk 8 = .ok (.if_icmp .eq 7, 3) := by decide +kernel
theorem dX7_hasChalk_11 : decode cX7_hasChalk 11 = .ok (.iconst 1, 1) := by decide +kernel
theorem dX7_hasChalk_12 : decode cX7_hasChalk 12 = .ok (.goto 4, 3) := by decide +kernel
theorem dX7_hasChalk_15 : decode cX7_hasChalk 15 = .ok (.iconst 0, 1) := by decide +kernel
theorem dX7_hasChalk_16 : decode cX7_hasChalk 16 = .ok (.ireturn, 1) := by decide +kernel
set_option maxRecDepth 20000 in
theorem ggX7_rubs_X7_rankOf : GoodIn wsX7_rubs wsX7_rankOf := goodIn_r _ [6, 1, 7, 8, 5, 9, 10, 11, 12, 13, 14, 15, 16, 17, 18, 19, 20, 21, 22] (by decide +kernel) (by decide +kernel)
set_option maxRecDepth 20000 in
theorem gX7_rubs_X7_rankOf : GoodIn wsX7_rubs (wsV RX7 78 RX7 yX7_rankOf wsX7_rankOf) := goodIn_app (goodIn_of _ (by decide +kernel)) ggX7_rubs_X7_rankOf
set_option maxRecDepth 20000 in
theorem ggX7_rubs_X7_at : GoodIn wsX7_rubs wsX7_at := goodIn_r _ [9] (by decide +kernel) (by decide +kernel)
set_option maxRecDepth 20000 in
theorem gX7_rubs_X7_at : GoodIn wsX7_rubs (va_wsS RX7 32 yX7_at wsX7_at) := goodIn_app (goodIn_of _ (by decide +kernel)) ggX7_rubs_X7_at
set_option maxRecDepth 20000 in
theorem ggX7_rubs_X7_chalkAt : GoodIn wsX7_rubs wsX7_chalkAt := goodIn_r _ [13, 1, 7, 8, 5, 9, 14, 15, 16, 17, 18, 19, 20, 21, 22] (by decide +kernel) (by decide +kernel)
set_option maxRecDepth 20000 in
theorem gX7_rubs_X7_chalkAt : GoodIn wsX7_rubs (wsV RX7 75 RX7 yX7_chalkAt wsX7_chalkAt) := goodIn_app (goodIn_of _ (by decide +kernel)) ggX7_rubs_X7_chalkAt
theorem dX7_rubs_0 : decode cX7_rubs 0 = .ok (.aload_n 0, 1) := by decide +kernel
theorem dX7_rubs_1 : decode cX7_rubs 1 = .ok (.iload_n 1, 1) := by decide +kernel
theorem dX7_rubs_2 : decode cX7_rubs 2 = .ok (.iload_n 2, 1) := by decide +kernel
theorem dX7_rubs_3 : decode cX7_rubs 3 = .ok (.invokevirtual 78, 3) := by decide +kernel
theorem dX7_rubs_6 : decode cX7_rubs 6 = .ok (.istore_n 3, 1) := by decide +kernel
theorem dX7_rubs_7 : decode cX7_rubs 7 = .ok (.iload_n 3, 1) := by decide +kernel
theorem dX7_rubs_8 : decode cX7_rubs 8 = .ok (.bipush (-6), 2) := by decide +kernel
theorem dX7_rubs_10 : decode cX7_rubs 10 = .ok (.if_icmp .eq 87, 3) := by decide +kernel
theorem dX7_rubs_13 : decode cX7_rubs 13 = .ok (.aload_n 0, 1) := by decide +kernel
theorem dX7_rubs_14 : decode cX7_rubs 14 = .ok (.getfield 7, 3) := by decide +kernel
theorem dX7_rubs_17 : decode cX7_rubs 17 = .ok (.iload_n 1, 1) := by decide +kernel
theorem dX7_rubs_18 : decode cX7_rubs 18 = .ok (.iconst 2, 1) := by decide +kernel
theorem dX7_rubs_19 : decode cX7_rubs 19 = .ok (.invokestatic 32, 3) := by decide +kernel
theorem dX7_rubs_22 : decode cX7_rubs 22 = .ok (.dup2, 1) := by decide +kernel
theorem dX7_rubs_23 : decode cX7_rubs 23 = .ok (.iaload, 1) := by decide +kernel
theorem dX7_rubs_24 : decode cX7_rubs 24 = .ok (.iconst 1, 1) := by decide +kernel
theorem dX7_rubs_25 : decode cX7_rubs 25 = .ok (.isub, 1) := by decide +kernel
theorem dX7_rubs_26 : decode cX7_rubs 26 = .ok (.iastore, 1) := by decide +kernel
theorem dX7_rubs_27 : decode cX7_rubs 27 = .ok (.iload_n 3, 1) := by decide +kernel
theorem dX7_rubs_28 : decode cX7_rubs 28 = .ok (.istore 4, 2) := by decide +kernel
theorem dX7_rubs_30 : decode cX7_rubs 30 = .ok (.iload 4, 2) := by decide +kernel
theorem dX7_rubs_32 : decode cX7_rubs 32 = .ok (.aload_n 0, 1) := by decide +kernel
theorem dX7_rubs_33 : decode cX7_rubs 33 = .ok (.getfield 7, 3) := by decide +kernel
theorem dX7_rubs_36 : decode cX7_rubs 36 = .ok (.iload_n 1, 1) := by decide +kernel
theorem dX7_rubs_37 : decode cX7_rubs 37 = .ok (.iconst 2, 1) := by decide +kernel
theorem dX7_rubs_38 : decode cX7_rubs 38 = .ok (.invokestatic 32, 3) := by decide +kernel
theorem dX7_rubs_41 : decode cX7_rubs 41 = .ok (.iaload, 1) := by decide +kernel
theorem dX7_rubs_42 : decode cX7_rubs 42 = .ok (.if_icmp .ge 32, 3) := by decide +kernel
theorem dX7_rubs_45 : decode cX7_rubs 45 = .ok (.aload_n 0, 1) := by decide +kernel
theorem dX7_rubs_46 : decode cX7_rubs 46 = .ok (.getfield 7, 3) := by decide +kernel
theorem dX7_rubs_49 : decode cX7_rubs 49 = .ok (.iload_n 1, 1) := by decide +kernel
theorem dX7_rubs_50 : decode cX7_rubs 50 = .ok (.bipush 8, 2) := by decide +kernel
theorem dX7_rubs_52 : decode cX7_rubs 52 = .ok (.invokestatic 32, 3) := by decide +kernel
theorem dX7_rubs_55 : decode cX7_rubs 55 = .ok (.iload 4, 2) := by decide +kernel
theorem dX7_rubs_57 : decode cX7_rubs 57 = .ok (.iadd, 1) := by decide +kernel
theorem dX7_rubs_58 : decode cX7_rubs 58 = .ok (.aload_n 0, 1) := by decide +kernel
theorem dX7_rubs_59 : decode cX7_rubs 59 = .ok (.iload_n 1, 1) := by decide +kernel
theorem dX7_rubs_60 : decode cX7_rubs 60 = .ok (.iload 4, 2) := by decide +kernel
theorem dX7_rubs_62 : decode cX7_rubs 62 = .ok (.iconst 1, 1) := by decide +kernel
theorem dX7_rubs_63 : decode cX7_rubs 63 = .ok (.iadd, 1) := by decide +kernel
theorem dX7_rubs_64 : decode cX7_rubs 64 = .ok (.invokevirtual 75, 3) := by decide +kernel
theorem dX7_rubs_67 : decode cX7_rubs 67 = .ok (.iastore, 1) := by decide +kernel
theorem dX7_rubs_68 : decode cX7_rubs 68 = .ok (.iinc 4 1, 3) := by decide +kernel
theorem dX7_rubs_71 : decode cX7_rubs 71 = .ok (.goto (-41), 3) := by decide +kernel
theorem dX7_rubs_74 : decode cX7_rubs 74 = .ok (.aload_n 0, 1) := by decide +kernel
theorem dX7_rubs_75 : decode cX7_rubs 75 = .ok (.getfield 7, 3) := by decide +kernel
theorem dX7_rubs_78 : decode cX7_rubs 78 = .ok (.iload_n 1, 1) := by decide +kernel
theorem dX7_rubs_79 : decode cX7_rubs 79 = .ok (.bipush 8, 2) := by decide +kernel
theorem dX7_rubs_81 : decode cX7_rubs 81 = .ok (.invokestatic 32, 3) := by decide +kernel
theorem dX7_rubs_84 : decode cX7_rubs 84 = .ok (.aload_n 0, 1) := by decide +kernel
theorem dX7_rubs_85 : decode cX7_rubs 85 = .ok (.getfield 7, 3) := by decide +kernel
theorem dX7_rubs_88 : decode cX7_rubs 88 = .ok (.iload_n 1, 1) := by decide +kernel
theorem dX7_rubs_89 : decode cX7_rubs 89 = .ok (.iconst 2, 1) := by decide +kernel
theorem dX7_rubs_90 : decode cX7_rubs 90 = .ok (.invokestatic 32, 3) := by decide +kernel
theorem dX7_rubs_93 : decode cX7_rubs 93 = .ok (.iaload, 1) := by decide +kernel
theorem dX7_rubs_94 : decode cX7_rubs 94 = .ok (.iadd, 1) := by decide +kernel
theorem dX7_rubs_95 : decode cX7_rubs 95 = .ok (.iconst 0, 1) := by decide +kernel
theorem dX7_rubs_96 : decode cX7_rubs 96 = .ok (.iastore, 1) := by decide +kernel
theorem dX7_rubs_97 : decode cX7_rubs 97 = .ok (.return_, 1) := by decide +kernel
theorem dX7_ends_0 : decode cX7_ends 0 = .ok (.aload_n 0, 1) := by decide +kernel
theorem dX7_ends_1 : decode cX7_ends 1 = .ok (.getfield 7, 3) := by decide +kernel
theorem dX7_ends_4 : decode cX7_ends 4 = .ok (.sipush 244, 3) := by decide +kernel
theorem dX7_ends_7 : decode cX7_ends 7 = .ok (.dup2, 1) := by decide +kernel
theorem dX7_ends_8 : decode cX7_ends 8 = .ok (.iaload, 1) := by decide +kernel
theorem dX7_ends_9 : decode cX7_ends 9 = .ok (.iconst 1, 1) := by decide +kernel
theorem dX7_ends_10 : decode cX7_ends 10 = .ok (.iadd, 1) := by decide +kernel
theorem dX7_ends_11 : decode cX7_ends 11 = .ok (.iastore, 1) := by decide +kernel
theorem dX7_ends_12 : decode cX7_ends 12 = .ok (.aload_n 0, 1) := by decide +kernel
theorem dX7_ends_13 : decode cX7_ends 13 = .ok (.getfield 7, 3) := by decide +kernel
theorem dX7_ends_16 : decode cX7_ends 16 = .ok (.sipush 245, 3) := by decide +kernel
theorem dX7_ends_19 : decode cX7_ends 19 = .ok (.iconst 1, 1) := by decide +kernel
theorem dX7_ends_20 : decode cX7_ends 20 = .ok (.aload_n 0, 1) := by decide +kernel
theorem dX7_ends_21 : decode cX7_ends 21 = .ok (.getfield 7, 3) := by decide +kernel
theorem dX7_ends_24 : decode cX7_ends 24 = .ok (.sipush 245, 3) := by decide +kernel
theorem dX7_ends_27 : decode cX7_ends 27 = .ok (.iaload, 1) := by decide +kernel
theorem dX7_ends_28 : decode cX7_ends 28 = .ok (.isub, 1) := by decide +kernel
theorem dX7_ends_29 : decode cX7_ends 29 = .ok (.iastore, 1) := by decide +kernel
theorem dX7_ends_30 : decode cX7_ends 30 = .ok (.iload_n 1, 1) := by decide +kernel
theorem dX7_ends_31 : decode cX7_ends 31 = .ok (.ireturn, 1) := by decide +kernel
set_option maxRecDepth 20000 in
theorem ggX7_chalks_X7_isJoint : GoodIn wsX7_chalks wsX7_isJoint := goodIn_r _ [5, 6, 7, 4, 8] (by decide +kernel) (by decide +kernel)
set_option maxRecDepth 20000 in
theorem gX7_chalks_X7_isJoint : GoodIn wsX7_chalks (va_wsS RX7 81 yX7_isJoint wsX7_isJoint) := goodIn_app (goodIn_of _ (by decide +kernel)) ggX7_chalks_X7_isJoint
set_option maxRecDepth 20000 in
theorem ggX7_chalks_X7_isOver : GoodIn wsX7_chalks wsX7_isOver := goodIn_r _ [12, 1, 13, 14, 15, 4, 16, 17, 18, 19, 20, 54, 55, 56, 57, 58, 59, 60, 61, 62] (by decide +kernel) (by decide +kernel)
set_option maxRecDepth 20000 in
theorem gX7_chalks_X7_isOver : GoodIn wsX7_chalks (wsV RX7 84 RX7 yX7_isOver wsX7_isOver) := goodIn_app (goodIn_of _ (by decide +kernel)) ggX7_chalks_X7_isOver
set_option maxRecDepth 20000 in
theorem ggX7_chalks_X7_holds : GoodIn wsX7_chalks wsX7_holds := goodIn_r _ [24, 1, 25, 26, 27, 4, 28, 29, 30, 31, 17, 18, 19, 20, 32, 33, 34, 54, 55, 56, 57, 58, 59, 60, 61, 62] (by decide +kernel) (by decide +kernel)
set_option maxRecDepth 20000 in
theorem gX7_chalks_X7_holds : GoodIn wsX7_chalks (wsV RX7 58 RX7 yX7_holds wsX7_holds) := goodIn_app (goodIn_of _ (by decide +kernel)) ggX7_chalks_X7_holds
set_option maxRecDepth 20000 in
theorem ggX7_chalks_X7_hasChalk : GoodIn wsX7_chalks wsX7_hasChalk := goodIn_r _ [38, 39, 40, 41, 4, 42, 1, 43, 44, 45, 46, 47, 48, 49, 54, 55, 56, 57, 58, 59, 60, 61, 62] (by decide +kernel) (by decide +kernel)
set_option maxRecDepth 20000 in
theorem gX7_chalks_X7_hasChalk : GoodIn wsX7_chalks (wsV RX7 88 RX7 yX7_hasChalk wsX7_hasChalk) := goodIn_app (goodIn_of _ (by decide +kernel)) ggX7_chalks_X7_hasChalk
set_option maxRecDepth 20000 in
theorem ggX7_chalks_X7_at : GoodIn wsX7_chalks wsX7_at := goodIn_r _ [45] (by decide +kernel) (by decide +kernel)
set_option maxRecDepth 20000 in
theorem gX7_chalks_X7_at : GoodIn wsX7_chalks (va_wsS RX7 32 yX7_at wsX7_at) := goodIn_app (goodIn_of _ (by decide +kernel)) ggX7_chalks_X7_at
set_option maxRecDepth 20000 in
theorem ggX7_chalks_X7_ends : GoodIn wsX7_chalks wsX7_ends := goodIn_r _ [53, 1, 54, 55, 56, 57, 58, 59, 60, 61, 62] (by decide +kernel) (by decide +kernel)
set_option maxRecDepth 20000 in
theorem gX7_chalks_X7_ends : GoodIn wsX7_chalks (wsV RX7 92 RX7 yX7_ends wsX7_ends) := goodIn_app (goodIn_of _ (by decide +kernel)) ggX7_chalks_X7_ends
theorem dX7_chalks_0 : decode cX7_chalks 0 = .ok (.aload_n 0, 1) := by decide +kernel
theorem dX7_chalks_1 : decode cX7_chalks 1 = .ok (.getfield 7, 3) := by decide +kernel
theorem dX7_chalks_4 : decode cX7_chalks 4 = .ok (.sipush 245, 3) := by decide +kernel
theorem dX7_chalks_7 : decode cX7_chalks 7 = .ok (.iaload, 1) := by decide +kernel
theorem dX7_chalks_8 : decode cX7_chalks 8 = .ok (.istore_n 2, 1) := by decide +kernel
theorem dX7_chalks_9 : decode cX7_chalks 9 = .ok (.iload_n 1, 1) := by decide +kernel
theorem dX7_chalks_10 : decode cX7_chalks 10 = .ok (.invokestatic 81, 3) := by decide +kernel
theorem dX7_chalks_13 : decode cX7_chalks 13 = .ok (.ifCond .ne 5, 3) := by decide +kernel
theorem dX7_chalks_16 : decode cX7_chalks 16 = .ok (.iconst (-1), 1) := by decide +kernel
theorem dX7_chalks_17 : decode cX7_chalks 17 = .ok (.ireturn, 1) := by decide +kernel
theorem dX7_chalks_18 : decode cX7_chalks 18 = .ok (.aload_n 0, 1) := by decide +kernel
theorem dX7_chalks_19 : decode cX7_chalks 19 = .ok (.invokevirtual 84, 3) := by decide +kernel
theorem dX7_chalks_22 : decode cX7_chalks 22 = .ok (.ifCond .ne 20, 3) := by decide +kernel
theorem dX7_chalks_25 : decode cX7_chalks 25 = .ok (.aload_n 0, 1) := by decide +kernel
theorem dX7_chalks_26 : decode cX7_chalks 26 = .ok (.iload_n 1, 1) := by decide +kernel
theorem dX7_chalks_27 : decode cX7_chalks 27 = .ok (.invokevirtual 58, 3) := by decide +kernel
theorem dX7_chalks_30 : decode cX7_chalks 30 = .ok (.ifCond .eq 12, 3) := by decide +kernel
theorem dX7_chalks_33 : decode cX7_chalks 33 = .ok (.aload_n 0, 1) := by decide +kernel
theorem dX7_chalks_34 : decode cX7_chalks 34 = .ok (.iload_n 2, 1) := by decide +kernel
theorem dX7_chalks_35 : decode cX7_chalks 35 = .ok (.iload_n 1, 1) := by decide +kernel
theorem dX7_chalks_36 : decode cX7_chalks 36 = .ok (.invokevirtual 88, 3) := by decide +kernel
theorem dX7_chalks_39 : decode cX7_chalks 39 = .ok (.ifCond .eq 6, 3) := by decide +kernel
theorem dX7_chalks_42 : decode cX7_chalks 42 = .ok (.bipush (-5), 2) := by decide +kernel
theorem dX7_chalks_44 : decode cX7_chalks 44 = .ok (.ireturn, 1) := by decide +kernel
theorem dX7_chalks_45 : decode cX7_chalks 45 = .ok (.aload_n 0, 1) := by decide +kernel
theorem dX7_chalks_46 : decode cX7_chalks 46 = .ok (.getfield 7, 3) := by decide +kernel
theorem dX7_chalks_49 : decode cX7_chalks 49 = .ok (.iload_n 2, 1) := by decide +kernel
theorem dX7_chalks_50 : decode cX7_chalks 50 = .ok (.iconst 2, 1) := by decide +kernel
theorem dX7_chalks_51 : decode cX7_chalks 51 = .ok (.invokestatic 32, 3) := by decide +kernel
theorem dX7_chalks_54 : decode cX7_chalks 54 = .ok (.iaload, 1) := by decide +kernel
theorem dX7_chalks_55 : decode cX7_chalks 55 = .ok (.bipush 8, 2) := by decide +kernel
theorem dX7_chalks_57 : decode cX7_chalks 57 = .ok (.if_icmp .ne 6, 3) := by decide +kernel
theorem dX7_chalks_60 : decode cX7_chalks 60 = .ok (.bipush (-4), 2) := by decide +kernel
theorem dX7_chalks_62 : decode cX7_chalks 62 = .ok (.ireturn, 1) := by decide +kernel
theorem dX7_chalks_63 : decode cX7_chalks 63 = .ok (.aload_n 0, 1) := by decide +kernel
theorem dX7_chalks_64 : decode cX7_chalks 64 = .ok (.getfield 7, 3) := by decide +kernel
theorem dX7_chalks_67 : decode cX7_chalks 67 = .ok (.iload_n 2, 1) := by decide +kernel
theorem dX7_chalks_68 : decode cX7_chalks 68 = .ok (.bipush 8, 2) := by decide +kernel
theorem dX7_chalks_70 : decode cX7_chalks 70 = .ok (.invokestatic 32, 3) := by decide +kernel
theorem dX7_chalks_73 : decode cX7_chalks 73 = .ok (.aload_n 0, 1) := by decide +kernel
theorem dX7_chalks_74 : decode cX7_chalks 74 = .ok (.getfield 7, 3) := by decide +kernel
theorem dX7_chalks_77 : decode cX7_chalks 77 = .ok (.iload_n 2, 1) := by decide +kernel
theorem dX7_chalks_78 : decode cX7_chalks 78 = .ok (.iconst 2, 1) := by decide +kernel
theorem dX7_chalks_79 : decode cX7_chalks 79 = .ok (.invokestatic 32, 3) := by decide +kernel
theorem dX7_chalks_82 : decode cX7_chalks 82 = .ok (.iaload, 1) := by decide +kernel
theorem dX7_chalks_83 : decode cX7_chalks 83 = .ok (.iadd, 1) := by decide +kernel
theorem dX7_chalks_84 : decode cX7_chalks 84 = .ok (.iload_n 1, 1) := by decide +kernel
theorem dX7_chalks_85 : decode cX7_chalks 85 = .ok (.iastore, 1) := by decide +kernel
theorem dX7_chalks_86 : decode cX7_chalks 86 = .ok (.aload_n 0, 1) := by decide +kernel
theorem dX7_chalks_87 : decode cX7_chalks 87 = .ok (.getfield 7, 3) := by decide +kernel
theorem dX7_chalks_90 : decode cX7_chalks 90 = .ok (.iload_n 2, 1) := by decide +kernel
theorem dX7_chalks_91 : decode cX7_chalks 91 = .ok (.iconst 2, 1) := by decide +kernel
theorem dX7_chalks_92 : decode cX7_chalks 92 = .ok (.invokestatic 32, 3) := by decide +kernel
theorem dX7_chalks_95 : decode cX7_chalks 95 = .ok (.dup2, 1) := by decide +kernel
theorem dX7_chalks_96 : decode cX7_chalks 96 = .ok (.iaload, 1) := by decide +kernel
theorem dX7_chalks_97 : decode cX7_chalks 97 = .ok (.iconst 1, 1) := by decide +kernel
theorem dX7_chalks_98 : decode cX7_chalks 98 = .ok (.iadd, 1) := by decide +kernel
theorem dX7_chalks_99 : decode cX7_chalks 99 = .ok (.iastore, 1) := by decide +kernel
theorem dX7_chalks_100 : decode cX7_chalks 100 = .ok (.aload_n 0, 1) := by decide +kernel
theorem dX7_chalks_101 : decode cX7_chalks 101 = .ok (.aload_n 0, 1) := by decide +kernel
theorem dX7_chalks_102 : decode cX7_chalks 102 = .ok (.getfield 7, 3) := by decide +kernel
theorem dX7_chalks_105 : decode cX7_chalks 105 = .ok (.iload_n 2, 1) := by decide +kernel
theorem dX7_chalks_106 : decode cX7_chalks 106 = .ok (.iconst 2, 1) := by decide +kernel
theorem dX7_chalks_107 : decode cX7_chalks 107 = .ok (.invokestatic 32, 3) := by decide +kernel
theorem dX7_chalks_110 : decode cX7_chalks 110 = .ok (.iaload, 1) := by decide +kernel
theorem dX7_chalks_111 : decode cX7_chalks 111 = .ok (.invokevirtual 92, 3) := by decide +kernel
theorem dX7_chalks_114 : decode cX7_chalks 114 = .ok (.ireturn, 1) := by decide +kernel
set_option maxRecDepth 20000 in
theorem ggX7_reason_X7_isOver : GoodIn wsX7_reason wsX7_isOver := goodIn_r _ [6, 1, 7, 8, 9, 5, 10, 11, 12, 13, 14, 25, 26, 27, 28, 29, 30, 31, 32, 33] (by decide +kernel) (by decide +kernel)
set_option maxRecDepth 20000 in
theorem gX7_reason_X7_isOver : GoodIn wsX7_reason (wsV RX7 84 RX7 yX7_isOver wsX7_isOver) := goodIn_app (goodIn_of _ (by decide +kernel)) ggX7_reason_X7_isOver
set_option maxRecDepth 20000 in
theorem ggX7_reason_X7_isVoid : GoodIn wsX7_reason wsX7_isVoid := goodIn_r _ [18, 19, 20, 5, 21, 11, 12, 13, 14, 1, 22, 23, 24, 25, 26, 27, 28, 29, 30, 31, 32, 33] (by decide +kernel) (by decide +kernel)
set_option maxRecDepth 20000 in
theorem gX7_reason_X7_isVoid : GoodIn wsX7_reason (wsV RX7 51 RX7 yX7_isVoid wsX7_isVoid) := goodIn_app (goodIn_of _ (by decide +kernel)) ggX7_reason_X7_isVoid
theorem dX7_reason_0 : decode cX7_reason 0 = .ok (.aload_n 0, 1) := by decide +kernel
theorem dX7_reason_1 : decode cX7_reason 1 = .ok (.invokevirtual 84, 3) := by decide +kernel
theorem dX7_reason_4 : decode cX7_reason 4 = .ok (.ifCond .eq 7, 3) := by decide +kernel
theorem dX7_reason_7 : decode cX7_reason 7 = .ok (.iconst 1, 1) := by decide +kernel
theorem dX7_reason_8 : decode cX7_reason 8 = .ok (.goto 32, 3) := by decide +kernel
theorem dX7_reason_11 : decode cX7_reason 11 = .ok (.aload_n 0, 1) := by decide +kernel
theorem dX7_reason_12 : decode cX7_reason 12 = .ok (.iload_n 1, 1) := by decide +kernel
theorem dX7_reason_13 : decode cX7_reason 13 = .ok (.invokevirtual 51, 3) := by decide +kernel
theorem dX7_reason_16 : decode cX7_reason 16 = .ok (.ifCond .eq 7, 3) := by decide +kernel
theorem dX7_reason_19 : decode cX7_reason 19 = .ok (.iconst 2, 1) := by decide +kernel
theorem dX7_reason_20 : decode cX7_reason 20 = .ok (.goto 20, 3) := by decide +kernel
theorem dX7_reason_23 : decode cX7_reason 23 = .ok (.aload_n 0, 1) := by decide +kernel
theorem dX7_reason_24 : decode cX7_reason 24 = .ok (.getfield 7, 3) := by decide +kernel
theorem dX7_reason_27 : decode cX7_reason 27 = .ok (.iconst 0, 1) := by decide +kernel
theorem dX7_reason_28 : decode cX7_reason 28 = .ok (.iload_n 1, 1) := by decide +kernel
theorem dX7_reason_29 : decode cX7_reason 29 = .ok (.iadd, 1) := by decide +kernel
theorem dX7_reason_30 : decode cX7_reason 30 = .ok (.iaload, 1) := by decide +kernel
theorem dX7_reason_31 : decode cX7_reason 31 = .ok (.iconst 1, 1) := by decide +kernel
theorem dX7_reason_32 : decode cX7_reason 32 = .ok (.if_icmp .ne 7, 3) := by decide +kernel
theorem dX7_reason_35 : decode cX7_reason 35 = .ok (.iconst 3, 1) := by decide +kernel
theorem dX7_reason_36 : decode cX7_reason 36 = .ok (.goto 4, 3) := by decide +kernel
theorem dX7_reason_39 : decode cX7_reason 39 = .ok (.iconst 0, 1) := by decide +kernel
theorem dX7_reason_40 : decode cX7_reason 40 = .ok (.ireturn, 1) := by decide +kernel
set_option maxRecDepth 20000 in
theorem ggX7_snips_X7_isJoint : GoodIn wsX7_snips wsX7_isJoint := goodIn_r _ [6, 7, 8, 5, 9] (by decide +kernel) (by decide +kernel)
set_option maxRecDepth 20000 in
theorem gX7_snips_X7_isJoint : GoodIn wsX7_snips (va_wsS RX7 81 yX7_isJoint wsX7_isJoint) := goodIn_app (goodIn_of _ (by decide +kernel)) ggX7_snips_X7_isJoint
set_option maxRecDepth 20000 in
theorem ggX7_snips_X7_reason : GoodIn wsX7_snips wsX7_reason := goodIn_r _ [13, 1, 14, 15, 16, 5, 17, 18, 19, 20, 21, 22, 23, 24, 25, 26, 27, 28, 29, 30, 31, 32, 33, 34, 35, 75, 76, 77, 78, 79, 80, 81, 82, 83] (by decide +kernel) (by decide +kernel)
set_option maxRecDepth 20000 in
theorem gX7_snips_X7_reason : GoodIn wsX7_snips (wsV RX7 95 RX7 yX7_reason wsX7_reason) := goodIn_app (goodIn_of _ (by decide +kernel)) ggX7_snips_X7_reason
set_option maxRecDepth 20000 in
theorem ggX7_snips_X7_hasChalk : GoodIn wsX7_snips wsX7_hasChalk := goodIn_r _ [39, 40, 41, 42, 5, 43, 1, 44, 45, 46, 47, 48, 49, 50, 75, 76, 77, 78, 79, 80, 81, 82, 83] (by decide +kernel) (by decide +kernel)
set_option maxRecDepth 20000 in
theorem gX7_snips_X7_hasChalk : GoodIn wsX7_snips (wsV RX7 88 RX7 yX7_hasChalk wsX7_hasChalk) := goodIn_app (goodIn_of _ (by decide +kernel)) ggX7_snips_X7_hasChalk
set_option maxRecDepth 20000 in
theorem ggX7_snips_X7_at : GoodIn wsX7_snips wsX7_at := goodIn_r _ [46] (by decide +kernel) (by decide +kernel)
set_option maxRecDepth 20000 in
theorem gX7_snips_X7_at : GoodIn wsX7_snips (va_wsS RX7 32 yX7_at wsX7_at) := goodIn_app (goodIn_of _ (by decide +kernel)) ggX7_snips_X7_at
set_option maxRecDepth 20000 in
theorem ggX7_snips_X7_rubs : GoodIn wsX7_snips wsX7_rubs := goodIn_r _ [54, 1, 40, 41, 42, 5, 43, 44, 45, 46, 47, 48, 49, 50, 75, 76, 77, 78, 79, 80, 81, 82, 83] (by decide +kernel) (by decide +kernel)
set_option maxRecDepth 20000 in
theorem gX7_snips_X7_rubs : GoodIn wsX7_snips (wsV RX7 98 RX7 yX7_rubs wsX7_rubs) := goodIn_app (goodIn_of _ (by decide +kernel)) ggX7_snips_X7_rubs
set_option maxRecDepth 20000 in
theorem ggX7_snips_X7_fallsBy : GoodIn wsX7_snips wsX7_fallsBy := goodIn_r _ [58, 2, 59, 60, 61, 5, 62, 1, 22, 23, 24, 25, 63, 64, 65, 66, 26, 27, 28, 29, 30, 31, 32, 33, 34, 35, 67, 68, 69, 70, 75, 76, 77, 78, 79, 80, 81, 82, 83] (by decide +kernel) (by decide +kernel)
set_option maxRecDepth 20000 in
theorem gX7_snips_X7_fallsBy : GoodIn wsX7_snips (wsV RX7 68 RX7 yX7_fallsBy wsX7_fallsBy) := goodIn_app (goodIn_of _ (by decide +kernel)) ggX7_snips_X7_fallsBy
set_option maxRecDepth 20000 in
theorem ggX7_snips_X7_cellsOf : GoodIn wsX7_snips wsX7_cellsOf := goodIn_r _ [70, 2, 75, 76, 77, 78, 79, 80, 81, 82, 83] (by decide +kernel) (by decide +kernel)
set_option maxRecDepth 20000 in
theorem gX7_snips_X7_cellsOf : GoodIn wsX7_snips (wsV RX7 65 RX7 yX7_cellsOf wsX7_cellsOf) := goodIn_app (goodIn_of _ (by decide +kernel)) ggX7_snips_X7_cellsOf
set_option maxRecDepth 20000 in
theorem ggX7_snips_X7_isVoid : GoodIn wsX7_snips wsX7_isVoid := goodIn_r _ [29, 30, 31, 5, 32, 22, 23, 24, 25, 1, 33, 34, 35, 75, 76, 77, 78, 79, 80, 81, 82, 83] (by decide +kernel) (by decide +kernel)
set_option maxRecDepth 20000 in
theorem gX7_snips_X7_isVoid : GoodIn wsX7_snips (wsV RX7 51 RX7 yX7_isVoid wsX7_isVoid) := goodIn_app (goodIn_of _ (by decide +kernel)) ggX7_snips_X7_isVoid
set_option maxRecDepth 20000 in
theorem ggX7_snips_X7_ends : GoodIn wsX7_snips wsX7_ends := goodIn_r _ [74, 1, 75, 76, 77, 78, 79, 80, 81, 82, 83] (by decide +kernel) (by decide +kernel)
set_option maxRecDepth 20000 in
theorem gX7_snips_X7_ends : GoodIn wsX7_snips (wsV RX7 92 RX7 yX7_ends wsX7_ends) := goodIn_app (goodIn_of _ (by decide +kernel)) ggX7_snips_X7_ends
theorem dX7_snips_0 : decode cX7_snips 0 = .ok (.aload_n 0, 1) := by decide +kernel
theorem dX7_snips_1 : decode cX7_snips 1 = .ok (.getfield 7, 3) := by decide +kernel
theorem dX7_snips_4 : decode cX7_snips 4 = .ok (.sipush 245, 3) := by decide +kernel
theorem dX7_snips_7 : decode cX7_snips 7 = .ok (.iaload, 1) := by decide +kernel
theorem dX7_snips_8 : decode cX7_snips 8 = .ok (.istore_n 2, 1) := by decide +kernel
theorem dX7_snips_9 : decode cX7_snips 9 = .ok (.iload_n 1, 1) := by decide +kernel
theorem dX7_snips_10 : decode cX7_snips 10 = .ok (.invokestatic 81, 3) := by decide +kernel
theorem dX7_snips_13 : decode cX7_snips 13 = .ok (.ifCond .ne 5, 3) := by decide +kernel
theorem dX7_snips_16 : decode cX7_snips 16 = .ok (.iconst (-1), 1) := by decide +kernel
theorem dX7_snips_17 : decode cX7_snips 17 = .ok (.ireturn, 1) := by decide +kernel
theorem dX7_snips_18 : decode cX7_snips 18 = .ok (.aload_n 0, 1) := by decide +kernel
theorem dX7_snips_19 : decode cX7_snips 19 = .ok (.iload_n 1, 1) := by decide +kernel
theorem dX7_snips_20 : decode cX7_snips 20 = .ok (.invokevirtual 95, 3) := by decide +kernel
theorem dX7_snips_23 : decode cX7_snips 23 = .ok (.ifCond .le 6, 3) := by decide +kernel
theorem dX7_snips_26 : decode cX7_snips 26 = .ok (.bipush (-5), 2) := by decide +kernel
theorem dX7_snips_28 : decode cX7_snips 28 = .ok (.ireturn, 1) := by decide +kernel
theorem dX7_snips_29 : decode cX7_snips 29 = .ok (.aload_n 0, 1) := by decide +kernel
theorem dX7_snips_30 : decode cX7_snips 30 = .ok (.getfield 7, 3) := by decide +kernel
theorem dX7_snips_33 : decode cX7_snips 33 = .ok (.iconst 0, 1) := by decide +kernel
theorem dX7_snips_34 : decode cX7_snips 34 = .ok (.iload_n 1, 1) := by decide +kernel
theorem dX7_snips_35 : decode cX7_snips 35 = .ok (.iadd, 1) := by decide +kernel
theorem dX7_snips_36 : decode cX7_snips 36 = .ok (.iconst 1, 1) := by decide +kernel
theorem dX7_snips_37 : decode cX7_snips 37 = .ok (.iastore, 1) := by decide +kernel
theorem dX7_snips_38 : decode cX7_snips 38 = .ok (.aload_n 0, 1) := by decide +kernel
theorem dX7_snips_39 : decode cX7_snips 39 = .ok (.getfield 7, 3) := by decide +kernel
theorem dX7_snips_42 : decode cX7_snips 42 = .ok (.bipush 82, 2) := by decide +kernel
theorem dX7_snips_44 : decode cX7_snips 44 = .ok (.iload_n 1, 1) := by decide +kernel
theorem dX7_snips_45 : decode cX7_snips 45 = .ok (.iadd, 1) := by decide +kernel
theorem dX7_snips_46 : decode cX7_snips 46 = .ok (.bipush (-6), 2) := by decide +kernel
theorem dX7_snips_48 : decode cX7_snips 48 = .ok (.iastore, 1) := by decide +kernel
theorem dX7_snips_49 : decode cX7_snips 49 = .ok (.aload_n 0, 1) := by decide +kernel
theorem dX7_snips_50 : decode cX7_snips 50 = .ok (.iconst 1, 1) := by decide +kernel
theorem dX7_snips_51 : decode cX7_snips 51 = .ok (.iload_n 2, 1) := by decide +kernel
theorem dX7_snips_52 : decode cX7_snips 52 = .ok (.isub, 1) := by decide +kernel
theorem dX7_snips_53 : decode cX7_snips 53 = .ok (.iload_n 1, 1) := by decide +kernel
theorem dX7_snips_54 : decode cX7_snips 54 = .ok (.invokevirtual 88, 3) := by decide +kernel
theorem dX7_snips_57 : decode cX7_snips 57 = .ok (.istore_n 3, 1) := by decide +kernel
theorem dX7_snips_58 : decode cX7_snips 58 = .ok (.aload_n 0, 1) := by decide +kernel
theorem dX7_snips_59 : decode cX7_snips 59 = .ok (.getfield 7, 3) := by decide +kernel
theorem dX7_snips_62 : decode cX7_snips 62 = .ok (.iload_n 2, 1) := by decide +kernel
theorem dX7_snips_63 : decode cX7_snips 63 = .ok (.iconst 0, 1) := by decide +kernel
theorem dX7_snips_64 : decode cX7_snips 64 = .ok (.invokestatic 32, 3) := by decide +kernel
theorem dX7_snips_67 : decode cX7_snips 67 = .ok (.dup2, 1) := by decide +kernel
theorem dX7_snips_68 : decode cX7_snips 68 = .ok (.iaload, 1) := by decide +kernel
theorem dX7_snips_69 : decode cX7_snips 69 = .ok (.iload_n 3, 1) := by decide +kernel
theorem dX7_snips_70 : decode cX7_snips 70 = .ok (.ifCond .eq 8, 3) := by decide +kernel
theorem dX7_snips_73 : decode cX7_snips 73 = .ok (.bipush (-3), 2) := by decide +kernel
theorem dX7_snips_75 : decode cX7_snips 75 = .ok (.goto 4, 3) := by decide +kernel
theorem dX7_snips_78 : decode cX7_snips 78 = .ok (.iconst 0, 1) := by decide +kernel
theorem dX7_snips_79 : decode cX7_snips 79 = .ok (.aload_n 0, 1) := by decide +kernel
theorem dX7_snips_80 : decode cX7_snips 80 = .ok (.iload_n 2, 1) := by decide +kernel
theorem dX7_snips_81 : decode cX7_snips 81 = .ok (.iload_n 1, 1) := by decide +kernel
theorem dX7_snips_82 : decode cX7_snips 82 = .ok (.invokevirtual 88, 3) := by decide +kernel
theorem dX7_snips_85 : decode cX7_snips 85 = .ok (.ifCond .eq 7, 3) := by decide +kernel
theorem dX7_snips_88 : decode cX7_snips 88 = .ok (.iconst 1, 1) := by decide +kernel
theorem dX7_snips_89 : decode cX7_snips 89 = .ok (.goto 4, 3) := by decide +kernel
theorem dX7_snips_92 : decode cX7_snips 92 = .ok (.iconst 0, 1) := by decide +kernel
theorem dX7_snips_93 : decode cX7_snips 93 = .ok (.iadd, 1) := by decide +kernel
theorem dX7_snips_94 : decode cX7_snips 94 = .ok (.iadd, 1) := by decide +kernel
theorem dX7_snips_95 : decode cX7_snips 95 = .ok (.iastore, 1) := by decide +kernel
theorem dX7_snips_96 : decode cX7_snips 96 = .ok (.aload_n 0, 1) := by decide +kernel
theorem dX7_snips_97 : decode cX7_snips 97 = .ok (.getfield 7, 3) := by decide +kernel
theorem dX7_snips_100 : decode cX7_snips 100 = .ok (.iload_n 2, 1) := by decide +kernel
theorem dX7_snips_101 : decode cX7_snips 101 = .ok (.iconst 5, 1) := by decide +kernel
theorem dX7_snips_102 : decode cX7_snips 102 = .ok (.invokestatic 32, 3) := by decide +kernel
theorem dX7_snips_105 : decode cX7_snips 105 = .ok (.dup2, 1) := by decide +kernel
theorem dX7_snips_106 : decode cX7_snips 106 = .ok (.iaload, 1) := by decide +kernel
theorem dX7_snips_107 : decode cX7_snips 107 = .ok (.iload_n 3, 1) := by decide +kernel
theorem dX7_snips_108 : decode cX7_snips 108 = .ok (.ifCond .eq 7, 3) := by decide +kernel
theorem dX7_snips_111 : decode cX7_snips 111 = .ok (.iconst 1, 1) := by decide +kernel
theorem dX7_snips_112 : decode cX7_snips 112 = .ok (.goto 4, 3) := by decide +kernel
theorem dX7_snips_115 : decode cX7_snips 115 = .ok (.iconst 0, 1) := by decide +kernel
theorem dX7_snips_116 : decode cX7_snips 116 = .ok (.iadd, 1) := by decide +kernel
theorem dX7_snips_117 : decode cX7_snips 117 = .ok (.iastore, 1) := by decide +kernel
theorem dX7_snips_118 : decode cX7_snips 118 = .ok (.aload_n 0, 1) := by decide +kernel
theorem dX7_snips_119 : decode cX7_snips 119 = .ok (.iconst 0, 1) := by decide +kernel
theorem dX7_snips_120 : decode cX7_snips 120 = .ok (.iload_n 1, 1) := by decide +kernel
theorem dX7_snips_121 : decode cX7_snips 121 = .ok (.invokevirtual 98, 3) := by decide +kernel
theorem dX7_snips_124 : decode cX7_snips 124 = .ok (.aload_n 0, 1) := by decide +kernel
theorem dX7_snips_125 : decode cX7_snips 125 = .ok (.iconst 1, 1) := by decide +kernel
theorem dX7_snips_126 : decode cX7_snips 126 = .ok (.iload_n 1, 1) := by decide +kernel
theorem dX7_snips_127 : decode cX7_snips 127 = .ok (.invokevirtual 98, 3) := by decide +kernel
theorem dX7_snips_130 : decode cX7_snips 130 = .ok (.aload_n 0, 1) := by decide +kernel
theorem dX7_snips_131 : decode cX7_snips 131 = .ok (.iload_n 1, 1) := by decide +kernel
theorem dX7_snips_132 : decode cX7_snips 132 = .ok (.invokevirtual 68, 3) := by decide +kernel
theorem dX7_snips_135 : decode cX7_snips 135 = .ok (.istore 4, 2) := by decide +kernel
theorem dX7_snips_137 : decode cX7_snips 137 = .ok (.iload 4, 2) := by decide +kernel
theorem dX7_snips_139 : decode cX7_snips 139 = .ok (.bipush (-6), 2) := by decide +kernel
theorem dX7_snips_141 : decode cX7_snips 141 = .ok (.if_icmp .ne 7, 3) := by decide +kernel
theorem dX7_snips_144 : decode cX7_snips 144 = .ok (.iconst 0, 1) := by decide +kernel
theorem dX7_snips_145 : decode cX7_snips 145 = .ok (.goto 9, 3) := by decide +kernel
theorem dX7_snips_148 : decode cX7_snips 148 = .ok (.aload_n 0, 1) := by decide +kernel
theorem dX7_snips_149 : decode cX7_snips 149 = .ok (.iload 4, 2) := by decide +kernel
theorem dX7_snips_151 : decode cX7_snips 151 = .ok (.invokevirtual 65, 3) := by decide +kernel
theorem dX7_snips_154 : decode cX7_snips 154 = .ok (.istore 5, 2) := by decide +kernel
theorem dX7_snips_156 : decode cX7_snips 156 = .ok (.iconst 0, 1) := by decide +kernel
theorem dX7_snips_157 : decode cX7_snips 157 = .ok (.istore 6, 2) := by decide +kernel
theorem dX7_snips_159 : decode cX7_snips 159 = .ok (.iload 6, 2) := by decide +kernel
theorem dX7_snips_161 : decode cX7_snips 161 = .ok (.bipush 48, 2) := by decide +kernel
theorem dX7_snips_163 : decode cX7_snips 163 = .ok (.if_icmp .ge 52, 3) := by decide +kernel
theorem dX7_snips_166 : decode cX7_snips 166 = .ok (.iload 5, 2) := by decide +kernel
theorem dX7_snips_168 : decode cX7_snips 168 = .ok (.ifCond .le 47, 3) := by decide +kernel
theorem dX7_snips_171 : decode cX7_snips 171 = .ok (.aload_n 0, 1) := by decide +kernel
theorem dX7_snips_172 : decode cX7_snips 172 = .ok (.getfield 7, 3) := by decide +kernel
theorem dX7_snips_175 : decode cX7_snips 175 = .ok (.sipush 164, 3) := by decide +kernel
theorem dX7_snips_178 : decode cX7_snips 178 = .ok (.iload 6, 2) := by decide +kernel
theorem dX7_snips_180 : decode cX7_snips 180 = .ok (.iadd, 1) := by decide +kernel
theorem dX7_snips_181 : decode cX7_snips 181 = .ok (.aload_n 0, 1) := by decide +kernel
theorem dX7_snips_182 : decode cX7_snips 182 = .ok (.getfield 29, 3) := by decide +kernel
theorem dX7_snips_185 : decode cX7_snips 185 = .ok (.iload 6, 2) := by decide +kernel
theorem dX7_snips_187 : decode cX7_snips 187 = .ok (.iaload, 1) := by decide +kernel
theorem dX7_snips_188 : decode cX7_snips 188 = .ok (.iload 4, 2) := by decide +kernel
theorem dX7_snips_190 : decode cX7_snips 190 = .ok (.if_icmp .ne 7, 3) := by decide +kernel
theorem dX7_snips_193 : decode cX7_snips 193 = .ok (.iconst 1, 1) := by decide +kernel
theorem dX7_snips_194 : decode cX7_snips 194 = .ok (.goto 14, 3) := by decide +kernel
theorem dX7_snips_197 : decode cX7_snips 197 = .ok (.aload_n 0, 1) := by decide +kernel
theorem dX7_snips_198 : decode cX7_snips 198 = .ok (.getfield 7, 3) := by decide +kernel
theorem dX7_snips_201 : decode cX7_snips 201 = .ok (.sipush 164, 3) := by decide +kernel
theorem dX7_snips_204 : decode cX7_snips 204 = .ok (.iload 6, 2) := by decide +kernel
theorem dX7_snips_206 : decode cX7_snips 206 = .ok (.iadd, 1) := by decide +kernel
theorem dX7_snips_207 : decode cX7_snips 207 = .ok (.iaload, 1) := by decide +kernel
theorem dX7_snips_208 : decode cX7_snips 208 = .ok (.iastore, 1) := by decide +kernel
theorem dX7_snips_209 : decode cX7_snips 209 = .ok (.iinc 6 1, 3) := by decide +kernel
theorem dX7_snips_212 : decode cX7_snips 212 = .ok (.goto (-53), 3) := by decide +kernel
theorem dX7_snips_215 : decode cX7_snips 215 = .ok (.iconst 0, 1) := by decide +kernel
theorem dX7_snips_216 : decode cX7_snips 216 = .ok (.istore 6, 2) := by decide +kernel
theorem dX7_snips_218 : decode cX7_snips 218 = .ok (.iload 6, 2) := by decide +kernel
theorem dX7_snips_220 : decode cX7_snips 220 = .ok (.bipush 82, 2) := by decide +kernel
theorem dX7_snips_222 : decode cX7_snips 222 = .ok (.if_icmp .ge 37, 3) := by decide +kernel
theorem dX7_snips_225 : decode cX7_snips 225 = .ok (.iload 5, 2) := by decide +kernel
theorem dX7_snips_227 : decode cX7_snips 227 = .ok (.ifCond .le 32, 3) := by decide +kernel
theorem dX7_snips_230 : decode cX7_snips 230 = .ok (.aload_n 0, 1) := by decide +kernel
theorem dX7_snips_231 : decode cX7_snips 231 = .ok (.iload 6, 2) := by decide +kernel
theorem dX7_snips_233 : decode cX7_snips 233 = .ok (.invokevirtual 51, 3) := by decide +kernel
theorem dX7_snips_236 : decode cX7_snips 236 = .ok (.ifCond .eq 17, 3) := by decide +kernel
theorem dX7_snips_239 : decode cX7_snips 239 = .ok (.aload_n 0, 1) := by decide +kernel
theorem dX7_snips_240 : decode cX7_snips 240 = .ok (.iconst 0, 1) := by decide +kernel
theorem dX7_snips_241 : decode cX7_snips 241 = .ok (.iload 6, 2) := by decide +kernel
theorem dX7_snips_243 : decode cX7_snips 243 = .ok (.invokevirtual 98, 3) := by decide +kernel
theorem dX7_snips_246 : decode cX7_snips 246 = .ok (.aload_n 0, 1) := by decide +kernel
theorem dX7_snips_247 : decode cX7_snips 247 = .ok (.iconst 1, 1) := by decide +kernel
theorem dX7_snips_248 : decode cX7_snips 248 = .ok (.iload 6, 2) := by decide +kernel
theorem dX7_snips_250 : decode cX7_snips 250 = .ok (.invokevirtual 98, 3) := by decide +kernel
theorem dX7_snips_253 : decode cX7_snips 253 = .ok (.iinc 6 1, 3) := by decide +kernel
theorem dX7_snips_256 : decode cX7_snips 256 = .ok (.goto (-38), 3) := by decide +kernel
theorem dX7_snips_259 : decode cX7_snips 259 = .ok (.aload_n 0, 1) := by decide +kernel
theorem dX7_snips_260 : decode cX7_snips 260 = .ok (.getfield 7, 3) := by decide +kernel
theorem dX7_snips_263 : decode cX7_snips 263 = .ok (.iload_n 2, 1) := by decide +kernel
theorem dX7_snips_264 : decode cX7_snips 264 = .ok (.iconst 0, 1) := by decide +kernel
theorem dX7_snips_265 : decode cX7_snips 265 = .ok (.invokestatic 32, 3) := by decide +kernel
theorem dX7_snips_268 : decode cX7_snips 268 = .ok (.dup2, 1) := by decide +kernel
theorem dX7_snips_269 : decode cX7_snips 269 = .ok (.iaload, 1) := by decide +kernel
theorem dX7_snips_270 : decode cX7_snips 270 = .ok (.iload 5, 2) := by decide +kernel
theorem dX7_snips_272 : decode cX7_snips 272 = .ok (.iadd, 1) := by decide +kernel
theorem dX7_snips_273 : decode cX7_snips 273 = .ok (.iastore, 1) := by decide +kernel
theorem dX7_snips_274 : decode cX7_snips 274 = .ok (.aload_n 0, 1) := by decide +kernel
theorem dX7_snips_275 : decode cX7_snips 275 = .ok (.getfield 7, 3) := by decide +kernel
theorem dX7_snips_278 : decode cX7_snips 278 = .ok (.iload_n 2, 1) := by decide +kernel
theorem dX7_snips_279 : decode cX7_snips 279 = .ok (.iconst 4, 1) := by decide +kernel
theorem dX7_snips_280 : decode cX7_snips 280 = .ok (.invokestatic 32, 3) := by decide +kernel
theorem dX7_snips_283 : decode cX7_snips 283 = .ok (.dup2, 1) := by decide +kernel
theorem dX7_snips_284 : decode cX7_snips 284 = .ok (.iaload, 1) := by decide +kernel
theorem dX7_snips_285 : decode cX7_snips 285 = .ok (.iload 5, 2) := by decide +kernel
theorem dX7_snips_287 : decode cX7_snips 287 = .ok (.iadd, 1) := by decide +kernel
theorem dX7_snips_288 : decode cX7_snips 288 = .ok (.iastore, 1) := by decide +kernel
theorem dX7_snips_289 : decode cX7_snips 289 = .ok (.aload_n 0, 1) := by decide +kernel
theorem dX7_snips_290 : decode cX7_snips 290 = .ok (.getfield 7, 3) := by decide +kernel
theorem dX7_snips_293 : decode cX7_snips 293 = .ok (.iload_n 2, 1) := by decide +kernel
theorem dX7_snips_294 : decode cX7_snips 294 = .ok (.iconst 3, 1) := by decide +kernel
theorem dX7_snips_295 : decode cX7_snips 295 = .ok (.invokestatic 32, 3) := by decide +kernel
theorem dX7_snips_298 : decode cX7_snips 298 = .ok (.dup2, 1) := by decide +kernel
theorem dX7_snips_299 : decode cX7_snips 299 = .ok (.iaload, 1) := by decide +kernel
theorem dX7_snips_300 : decode cX7_snips 300 = .ok (.iload 5, 2) := by decide +kernel
theorem dX7_snips_302 : decode cX7_snips 302 = .ok (.ifCond .le 7, 3) := by decide +kernel
theorem dX7_snips_305 : decode cX7_snips 305 = .ok (.iconst 1, 1) := by decide +kernel
theorem dX7_snips_306 : decode cX7_snips 306 = .ok (.goto 4, 3) := by decide +kernel
theorem dX7_snips_309 : decode cX7_snips 309 = .ok (.iconst 0, 1) := by decide +kernel
theorem dX7_snips_310 : decode cX7_snips 310 = .ok (.iadd, 1) := by decide +kernel
theorem dX7_snips_311 : decode cX7_snips 311 = .ok (.iastore, 1) := by decide +kernel
theorem dX7_snips_312 : decode cX7_snips 312 = .ok (.aload_n 0, 1) := by decide +kernel
theorem dX7_snips_313 : decode cX7_snips 313 = .ok (.iload 5, 2) := by decide +kernel
theorem dX7_snips_315 : decode cX7_snips 315 = .ok (.invokevirtual 92, 3) := by decide +kernel
theorem dX7_snips_318 : decode cX7_snips 318 = .ok (.ireturn, 1) := by decide +kernel
set_option maxRecDepth 20000 in
theorem ggX7_isCut_X7_isOver : GoodIn wsX7_isCut wsX7_isOver := goodIn_r _ [6, 1, 7, 8, 9, 5, 10, 11, 12, 13, 14, 25, 26, 27, 28, 29, 30, 31, 32, 33] (by decide +kernel) (by decide +kernel)
set_option maxRecDepth 20000 in
theorem gX7_isCut_X7_isOver : GoodIn wsX7_isCut (wsV RX7 84 RX7 yX7_isOver wsX7_isOver) := goodIn_app (goodIn_of _ (by decide +kernel)) ggX7_isCut_X7_isOver
set_option maxRecDepth 20000 in
theorem ggX7_isCut_X7_isVoid : GoodIn wsX7_isCut wsX7_isVoid := goodIn_r _ [18, 19, 20, 5, 21, 11, 12, 13, 14, 1, 22, 23, 24, 25, 26, 27, 28, 29, 30, 31, 32, 33] (by decide +kernel) (by decide +kernel)
set_option maxRecDepth 20000 in
theorem gX7_isCut_X7_isVoid : GoodIn wsX7_isCut (wsV RX7 51 RX7 yX7_isVoid wsX7_isVoid) := goodIn_app (goodIn_of _ (by decide +kernel)) ggX7_isCut_X7_isVoid
theorem dX7_isCut_0 : decode cX7_isCut 0 = .ok (.aload_n 0, 1) := by decide +kernel
theorem dX7_isCut_1 : decode cX7_isCut 1 = .ok (.invokevirtual 84, 3) := by decide +kernel
theorem dX7_isCut_4 : decode cX7_isCut 4 = .ok (.ifCond .ne 27, 3) := by decide +kernel
theorem dX7_isCut_7 : decode cX7_isCut 7 = .ok (.aload_n 0, 1) := by decide +kernel
theorem dX7_isCut_8 : decode cX7_isCut 8 = .ok (.iload_n 1, 1) := by decide +kernel
theorem dX7_isCut_9 : decode cX7_isCut 9 = .ok (.invokevirtual 51, 3) := by decide +kernel
theorem dX7_isCut_12 : decode cX7_isCut 12 = .ok (.ifCond .ne 19, 3) := by decide +kernel
theorem dX7_isCut_15 : decode cX7_isCut 15 = .ok (.aload_n 0, 1) := by decide +kernel
theorem dX7_isCut_16 : decode cX7_isCut 16 = .ok (.getfield 7, 3) := by decide +kernel
theorem dX7_isCut_19 : decode cX7_isCut 19 = .ok (.iconst 0, 1) := by decide +kernel
theorem dX7_isCut_20 : decode cX7_isCut 20 = .ok (.iload_n 1, 1) := by decide +kernel
theorem dX7_isCut_21 : decode cX7_isCut 21 = .ok (.iadd, 1) := by decide +kernel
theorem dX7_isCut_22 : decode cX7_isCut 22 = .ok (.iaload, 1) := by decide +kernel
theorem dX7_isCut_23 : decode cX7_isCut 23 = .ok (.iconst 1, 1) := by decide +kernel
theorem dX7_isCut_24 : decode cX7_isCut 24 = .ok (.if_icmp .ne 7, 3) := by decide +kernel
theorem dX7_isCut_27 : decode cX7_isCut 27 = .ok (.iconst 1, 1) := by decide +kernel
theorem dX7_isCut_28 : decode cX7_isCut 28 = .ok (.goto 4, 3) := by decide +kernel
theorem dX7_isCut_31 : decode cX7_isCut 31 = .ok (.iconst 0, 1) := by decide +kernel
theorem dX7_isCut_32 : decode cX7_isCut 32 = .ok (.ireturn, 1) := by decide +kernel
set_option maxRecDepth 20000 in
theorem ggX7_sews_X7_isJoint : GoodIn wsX7_sews wsX7_isJoint := goodIn_r _ [5, 6, 7, 4, 8] (by decide +kernel) (by decide +kernel)
set_option maxRecDepth 20000 in
theorem gX7_sews_X7_isJoint : GoodIn wsX7_sews (va_wsS RX7 81 yX7_isJoint wsX7_isJoint) := goodIn_app (goodIn_of _ (by decide +kernel)) ggX7_sews_X7_isJoint
set_option maxRecDepth 20000 in
theorem ggX7_sews_X7_isCut : GoodIn wsX7_sews wsX7_isCut := goodIn_r _ [12, 1, 13, 14, 15, 4, 16, 17, 18, 19, 20, 21, 22, 23, 24, 25, 26, 27, 28, 29, 30, 31, 32, 33, 34, 42, 43, 44, 45, 46, 47, 48, 49, 50] (by decide +kernel) (by decide +kernel)
set_option maxRecDepth 20000 in
theorem gX7_sews_X7_isCut : GoodIn wsX7_sews (wsV RX7 102 RX7 yX7_isCut wsX7_isCut) := goodIn_app (goodIn_of _ (by decide +kernel)) ggX7_sews_X7_isCut
set_option maxRecDepth 20000 in
theorem ggX7_sews_X7_at : GoodIn wsX7_sews wsX7_at := goodIn_r _ [37] (by decide +kernel) (by decide +kernel)
set_option maxRecDepth 20000 in
theorem gX7_sews_X7_at : GoodIn wsX7_sews (va_wsS RX7 32 yX7_at wsX7_at) := goodIn_app (goodIn_of _ (by decide +kernel)) ggX7_sews_X7_at
set_option maxRecDepth 20000 in
theorem ggX7_sews_X7_ends : GoodIn wsX7_sews wsX7_ends := goodIn_r _ [41, 1, 42, 43, 44, 45, 46, 47, 48, 49, 50] (by decide +kernel) (by decide +kernel)
set_option maxRecDepth 20000 in
theorem gX7_sews_X7_ends : GoodIn wsX7_sews (wsV RX7 92 RX7 yX7_ends wsX7_ends) := goodIn_app (goodIn_of _ (by decide +kernel)) ggX7_sews_X7_ends
theorem dX7_sews_0 : decode cX7_sews 0 = .ok (.aload_n 0, 1) := by decide +kernel
theorem dX7_sews_1 : decode cX7_sews 1 = .ok (.getfield 7, 3) := by decide +kernel
theorem dX7_sews_4 : decode cX7_sews 4 = .ok (.sipush 245, 3) := by decide +kernel
theorem dX7_sews_7 : decode cX7_sews 7 = .ok (.iaload, 1) := by decide +kernel
theorem dX7_sews_8 : decode cX7_sews 8 = .ok (.istore_n 2, 1) := by decide +kernel
theorem dX7_sews_9 : decode cX7_sews 9 = .ok (.iload_n 1, 1) := by decide +kernel
theorem dX7_sews_10 : decode cX7_sews 10 = .ok (.invokestatic 81, 3) := by decide +kernel
theorem dX7_sews_13 : decode cX7_sews 13 = .ok (.ifCond .ne 5, 3) := by decide +kernel
theorem dX7_sews_16 : decode cX7_sews 16 = .ok (.iconst (-1), 1) := by decide +kernel
theorem dX7_sews_17 : decode cX7_sews 17 = .ok (.ireturn, 1) := by decide +kernel
theorem dX7_sews_18 : decode cX7_sews 18 = .ok (.aload_n 0, 1) := by decide +kernel
theorem dX7_sews_19 : decode cX7_sews 19 = .ok (.iload_n 1, 1) := by decide +kernel
theorem dX7_sews_20 : decode cX7_sews 20 = .ok (.invokevirtual 102, 3) := by decide +kernel
theorem dX7_sews_23 : decode cX7_sews 23 = .ok (.ifCond .eq 16, 3) := by decide +kernel
theorem dX7_sews_26 : decode cX7_sews 26 = .ok (.aload_n 0, 1) := by decide +kernel
theorem dX7_sews_27 : decode cX7_sews 27 = .ok (.getfield 7, 3) := by decide +kernel
theorem dX7_sews_30 : decode cX7_sews 30 = .ok (.iload_n 2, 1) := by decide +kernel
theorem dX7_sews_31 : decode cX7_sews 31 = .ok (.iconst 1, 1) := by decide +kernel
theorem dX7_sews_32 : decode cX7_sews 32 = .ok (.invokestatic 32, 3) := by decide +kernel
theorem dX7_sews_35 : decode cX7_sews 35 = .ok (.iaload, 1) := by decide +kernel
theorem dX7_sews_36 : decode cX7_sews 36 = .ok (.ifCond .ne 6, 3) := by decide +kernel
theorem dX7_sews_39 : decode cX7_sews 39 = .ok (.bipush (-5), 2) := by decide +kernel
theorem dX7_sews_41 : decode cX7_sews 41 = .ok (.ireturn, 1) := by decide +kernel
theorem dX7_sews_42 : decode cX7_sews 42 = .ok (.aload_n 0, 1) := by decide +kernel
theorem dX7_sews_43 : decode cX7_sews 43 = .ok (.getfield 7, 3) := by decide +kernel
theorem dX7_sews_46 : decode cX7_sews 46 = .ok (.iconst 0, 1) := by decide +kernel
theorem dX7_sews_47 : decode cX7_sews 47 = .ok (.iload_n 1, 1) := by decide +kernel
theorem dX7_sews_48 : decode cX7_sews 48 = .ok (.iadd, 1) := by decide +kernel
theorem dX7_sews_49 : decode cX7_sews 49 = .ok (.iconst 2, 1) := by decide +kernel
theorem dX7_sews_50 : decode cX7_sews 50 = .ok (.iastore, 1) := by decide +kernel
theorem dX7_sews_51 : decode cX7_sews 51 = .ok (.aload_n 0, 1) := by decide +kernel
theorem dX7_sews_52 : decode cX7_sews 52 = .ok (.getfield 7, 3) := by decide +kernel
theorem dX7_sews_55 : decode cX7_sews 55 = .ok (.bipush 82, 2) := by decide +kernel
theorem dX7_sews_57 : decode cX7_sews 57 = .ok (.iload_n 1, 1) := by decide +kernel
theorem dX7_sews_58 : decode cX7_sews 58 = .ok (.iadd, 1) := by decide +kernel
theorem dX7_sews_59 : decode cX7_sews 59 = .ok (.iload_n 2, 1) := by decide +kernel
theorem dX7_sews_60 : decode cX7_sews 60 = .ok (.iastore, 1) := by decide +kernel
theorem dX7_sews_61 : decode cX7_sews 61 = .ok (.aload_n 0, 1) := by decide +kernel
theorem dX7_sews_62 : decode cX7_sews 62 = .ok (.getfield 7, 3) := by decide +kernel
theorem dX7_sews_65 : decode cX7_sews 65 = .ok (.iload_n 2, 1) := by decide +kernel
theorem dX7_sews_66 : decode cX7_sews 66 = .ok (.iconst 1, 1) := by decide +kernel
theorem dX7_sews_67 : decode cX7_sews 67 = .ok (.invokestatic 32, 3) := by decide +kernel
theorem dX7_sews_70 : decode cX7_sews 70 = .ok (.dup2, 1) := by decide +kernel
theorem dX7_sews_71 : decode cX7_sews 71 = .ok (.iaload, 1) := by decide +kernel
theorem dX7_sews_72 : decode cX7_sews 72 = .ok (.iconst 1, 1) := by decide +kernel
theorem dX7_sews_73 : decode cX7_sews 73 = .ok (.isub, 1) := by decide +kernel
theorem dX7_sews_74 : decode cX7_sews 74 = .ok (.iastore, 1) := by decide +kernel
theorem dX7_sews_75 : decode cX7_sews 75 = .ok (.aload_n 0, 1) := by decide +kernel
theorem dX7_sews_76 : decode cX7_sews 76 = .ok (.aload_n 0, 1) := by decide +kernel
theorem dX7_sews_77 : decode cX7_sews 77 = .ok (.getfield 7, 3) := by decide +kernel
theorem dX7_sews_80 : decode cX7_sews 80 = .ok (.iload_n 2, 1) := by decide +kernel
theorem dX7_sews_81 : decode cX7_sews 81 = .ok (.iconst 1, 1) := by decide +kernel
theorem dX7_sews_82 : decode cX7_sews 82 = .ok (.invokestatic 32, 3) := by decide +kernel
theorem dX7_sews_85 : decode cX7_sews 85 = .ok (.iaload, 1) := by decide +kernel
theorem dX7_sews_86 : decode cX7_sews 86 = .ok (.invokevirtual 92, 3) := by decide +kernel
theorem dX7_sews_89 : decode cX7_sews 89 = .ok (.ireturn, 1) := by decide +kernel
set_option maxRecDepth 20000 in
theorem ggX7_many_X7_isVoid : GoodIn wsX7_many wsX7_isVoid := goodIn_r _ [6, 7, 8, 5, 9, 10, 11, 12, 13, 1, 14, 15, 16, 17, 18, 19, 20, 21, 22, 23, 24, 25] (by decide +kernel) (by decide +kernel)
set_option maxRecDepth 20000 in
theorem gX7_many_X7_isVoid : GoodIn wsX7_many (wsV RX7 51 RX7 yX7_isVoid wsX7_isVoid) := goodIn_app (goodIn_of _ (by decide +kernel)) ggX7_many_X7_isVoid
theorem dX7_many_0 : decode cX7_many 0 = .ok (.iconst 0, 1) := by decide +kernel
theorem dX7_many_1 : decode cX7_many 1 = .ok (.istore_n 2, 1) := by decide +kernel
theorem dX7_many_2 : decode cX7_many 2 = .ok (.iconst 0, 1) := by decide +kernel
theorem dX7_many_3 : decode cX7_many 3 = .ok (.istore_n 3, 1) := by decide +kernel
theorem dX7_many_4 : decode cX7_many 4 = .ok (.iload_n 3, 1) := by decide +kernel
theorem dX7_many_5 : decode cX7_many 5 = .ok (.bipush 82, 2) := by decide +kernel
theorem dX7_many_7 : decode cX7_many 7 = .ok (.if_icmp .ge 37, 3) := by decide +kernel
theorem dX7_many_10 : decode cX7_many 10 = .ok (.iload_n 2, 1) := by decide +kernel
theorem dX7_many_11 : decode cX7_many 11 = .ok (.aload_n 0, 1) := by decide +kernel
theorem dX7_many_12 : decode cX7_many 12 = .ok (.getfield 7, 3) := by decide +kernel
theorem dX7_many_15 : decode cX7_many 15 = .ok (.iconst 0, 1) := by decide +kernel
theorem dX7_many_16 : decode cX7_many 16 = .ok (.iload_n 3, 1) := by decide +kernel
theorem dX7_many_17 : decode cX7_many 17 = .ok (.iadd, 1) := by decide +kernel
theorem dX7_many_18 : decode cX7_many 18 = .ok (.iaload, 1) := by decide +kernel
theorem dX7_many_19 : decode cX7_many 19 = .ok (.iload_n 1, 1) := by decide +kernel
theorem dX7_many_20 : decode cX7_many 20 = .ok (.if_icmp .ne 15, 3) := by decide +kernel
theorem dX7_many_23 : decode cX7_many 23 = .ok (.aload_n 0, 1) := by decide +kernel
theorem dX7_many_24 : decode cX7_many 24 = .ok (.iload_n 3, 1) := by decide +kernel
theorem dX7_many_25 : decode cX7_many 25 = .ok (.invokevirtual 51, 3) := by decide +kernel
theorem dX7_many_28 : decode cX7_many 28 = .ok (.ifCond .ne 7, 3) := by decide +kernel
theorem dX7_many_31 : decode cX7_many 31 = .ok (.iconst 1, 1) := by decide +kernel
theorem dX7_many_32 : decode cX7_many 32 = .ok (.goto 4, 3) := by decide +kernel
theorem dX7_many_35 : decode cX7_many 35 = .ok (.iconst 0, 1) := by decide +kernel
theorem dX7_many_36 : decode cX7_many 36 = .ok (.iadd, 1) := by decide +kernel
theorem dX7_many_37 : decode cX7_many 37 = .ok (.istore_n 2, 1) := by decide +kernel
theorem dX7_many_38 : decode cX7_many 38 = .ok (.iinc 3 1, 3) := by decide +kernel
theorem dX7_many_41 : decode cX7_many 41 = .ok (.goto (-37), 3) := by decide +kernel
theorem dX7_many_44 : decode cX7_many 44 = .ok (.iload_n 2, 1) := by decide +kernel
theorem dX7_many_45 : decode cX7_many 45 = .ok (.ireturn, 1) := by decide +kernel
set_option maxRecDepth 20000 in
theorem ggX7_bluffs_X7_isJoint : GoodIn wsX7_bluffs wsX7_isJoint := goodIn_r _ [5, 6, 7, 4, 8] (by decide +kernel) (by decide +kernel)
set_option maxRecDepth 20000 in
theorem gX7_bluffs_X7_isJoint : GoodIn wsX7_bluffs (va_wsS RX7 81 yX7_isJoint wsX7_isJoint) := goodIn_app (goodIn_of _ (by decide +kernel)) ggX7_bluffs_X7_isJoint
set_option maxRecDepth 20000 in
theorem ggX7_bluffs_X7_isCut : GoodIn wsX7_bluffs wsX7_isCut := goodIn_r _ [12, 1, 13, 14, 15, 4, 16, 17, 18, 19, 20, 21, 22, 23, 24, 25, 26, 27, 28, 29, 30, 31, 32, 33, 34, 43, 44, 45, 46, 47, 48, 49, 50, 51] (by decide +kernel) (by decide +kernel)
set_option maxRecDepth 20000 in
theorem gX7_bluffs_X7_isCut : GoodIn wsX7_bluffs (wsV RX7 102 RX7 yX7_isCut wsX7_isCut) := goodIn_app (goodIn_of _ (by decide +kernel)) ggX7_bluffs_X7_isCut
set_option maxRecDepth 20000 in
theorem ggX7_bluffs_X7_many : GoodIn wsX7_bluffs wsX7_many := goodIn_r _ [38, 1, 25, 26, 27, 4, 28, 29, 30, 31, 21, 22, 23, 24, 32, 33, 34, 43, 44, 45, 46, 47, 48, 49, 50, 51] (by decide +kernel) (by decide +kernel)
set_option maxRecDepth 20000 in
theorem gX7_bluffs_X7_many : GoodIn wsX7_bluffs (wsV RX7 105 RX7 yX7_many wsX7_many) := goodIn_app (goodIn_of _ (by decide +kernel)) ggX7_bluffs_X7_many
set_option maxRecDepth 20000 in
theorem ggX7_bluffs_X7_ends : GoodIn wsX7_bluffs wsX7_ends := goodIn_r _ [42, 1, 43, 44, 45, 46, 47, 48, 49, 50, 51] (by decide +kernel) (by decide +kernel)
set_option maxRecDepth 20000 in
theorem gX7_bluffs_X7_ends : GoodIn wsX7_bluffs (wsV RX7 92 RX7 yX7_ends wsX7_ends) := goodIn_app (goodIn_of _ (by decide +kernel)) ggX7_bluffs_X7_ends
theorem dX7_bluffs_0 : decode cX7_bluffs 0 = .ok (.iload_n 1, 1) := by decide +kernel
theorem dX7_bluffs_1 : decode cX7_bluffs 1 = .ok (.invokestatic 81, 3) := by decide +kernel
theorem dX7_bluffs_4 : decode cX7_bluffs 4 = .ok (.ifCond .ne 5, 3) := by decide +kernel
theorem dX7_bluffs_7 : decode cX7_bluffs 7 = .ok (.iconst (-1), 1) := by decide +kernel
theorem dX7_bluffs_8 : decode cX7_bluffs 8 = .ok (.ireturn, 1) := by decide +kernel
theorem dX7_bluffs_9 : decode cX7_bluffs 9 = .ok (.aload_n 0, 1) := by decide +kernel
theorem dX7_bluffs_10 : decode cX7_bluffs 10 = .ok (.iload_n 1, 1) := by decide +kernel
theorem dX7_bluffs_11 : decode cX7_bluffs 11 = .ok (.invokevirtual 102, 3) := by decide +kernel
theorem dX7_bluffs_14 : decode cX7_bluffs 14 = .ok (.ifCond .ne 6, 3) := by decide +kernel
theorem dX7_bluffs_17 : decode cX7_bluffs 17 = .ok (.bipush (-5), 2) := by decide +kernel
theorem dX7_bluffs_19 : decode cX7_bluffs 19 = .ok (.ireturn, 1) := by decide +kernel
theorem dX7_bluffs_20 : decode cX7_bluffs 20 = .ok (.aload_n 0, 1) := by decide +kernel
theorem dX7_bluffs_21 : decode cX7_bluffs 21 = .ok (.getfield 7, 3) := by decide +kernel
theorem dX7_bluffs_24 : decode cX7_bluffs 24 = .ok (.iconst 0, 1) := by decide +kernel
theorem dX7_bluffs_25 : decode cX7_bluffs 25 = .ok (.iload_n 1, 1) := by decide +kernel
theorem dX7_bluffs_26 : decode cX7_bluffs 26 = .ok (.iadd, 1) := by decide +kernel
theorem dX7_bluffs_27 : decode cX7_bluffs 27 = .ok (.iconst 3, 1) := by decide +kernel
theorem dX7_bluffs_28 : decode cX7_bluffs 28 = .ok (.iastore, 1) := by decide +kernel
theorem dX7_bluffs_29 : decode cX7_bluffs 29 = .ok (.aload_n 0, 1) := by decide +kernel
theorem dX7_bluffs_30 : decode cX7_bluffs 30 = .ok (.getfield 7, 3) := by decide +kernel
theorem dX7_bluffs_33 : decode cX7_bluffs 33 = .ok (.bipush 82, 2) := by decide +kernel
theorem dX7_bluffs_35 : decode cX7_bluffs 35 = .ok (.iload_n 1, 1) := by decide +kernel
theorem dX7_bluffs_36 : decode cX7_bluffs 36 = .ok (.iadd, 1) := by decide +kernel
theorem dX7_bluffs_37 : decode cX7_bluffs 37 = .ok (.aload_n 0, 1) := by decide +kernel
theorem dX7_bluffs_38 : decode cX7_bluffs 38 = .ok (.getfield 7, 3) := by decide +kernel
theorem dX7_bluffs_41 : decode cX7_bluffs 41 = .ok (.sipush 245, 3) := by decide +kernel
theorem dX7_bluffs_44 : decode cX7_bluffs 44 = .ok (.iaload, 1) := by decide +kernel
theorem dX7_bluffs_45 : decode cX7_bluffs 45 = .ok (.iastore, 1) := by decide +kernel
theorem dX7_bluffs_46 : decode cX7_bluffs 46 = .ok (.aload_n 0, 1) := by decide +kernel
theorem dX7_bluffs_47 : decode cX7_bluffs 47 = .ok (.aload_n 0, 1) := by decide +kernel
theorem dX7_bluffs_48 : decode cX7_bluffs 48 = .ok (.iconst 3, 1) := by decide +kernel
theorem dX7_bluffs_49 : decode cX7_bluffs 49 = .ok (.invokevirtual 105, 3) := by decide +kernel
theorem dX7_bluffs_52 : decode cX7_bluffs 52 = .ok (.invokevirtual 92, 3) := by decide +kernel
theorem dX7_bluffs_55 : decode cX7_bluffs 55 = .ok (.ireturn, 1) := by decide +kernel
set_option maxRecDepth 20000 in
theorem ggX7_doubts_X7_isJoint : GoodIn wsX7_doubts wsX7_isJoint := goodIn_r _ [5, 6, 7, 4, 8] (by decide +kernel) (by decide +kernel)
set_option maxRecDepth 20000 in
theorem gX7_doubts_X7_isJoint : GoodIn wsX7_doubts (va_wsS RX7 81 yX7_isJoint wsX7_isJoint) := goodIn_app (goodIn_of _ (by decide +kernel)) ggX7_doubts_X7_isJoint
set_option maxRecDepth 20000 in
theorem ggX7_doubts_X7_isOver : GoodIn wsX7_doubts wsX7_isOver := goodIn_r _ [12, 1, 13, 14, 15, 4, 16, 17, 18, 19, 20, 38, 39, 40, 41, 42, 43, 44, 45, 46] (by decide +kernel) (by decide +kernel)
set_option maxRecDepth 20000 in
theorem gX7_doubts_X7_isOver : GoodIn wsX7_doubts (wsV RX7 84 RX7 yX7_isOver wsX7_isOver) := goodIn_app (goodIn_of _ (by decide +kernel)) ggX7_doubts_X7_isOver
set_option maxRecDepth 20000 in
theorem ggX7_doubts_X7_isVoid : GoodIn wsX7_doubts wsX7_isVoid := goodIn_r _ [24, 25, 26, 4, 27, 17, 18, 19, 20, 1, 28, 29, 30, 38, 39, 40, 41, 42, 43, 44, 45, 46] (by decide +kernel) (by decide +kernel)
set_option maxRecDepth 20000 in
theorem gX7_doubts_X7_isVoid : GoodIn wsX7_doubts (wsV RX7 51 RX7 yX7_isVoid wsX7_isVoid) := goodIn_app (goodIn_of _ (by decide +kernel)) ggX7_doubts_X7_isVoid
set_option maxRecDepth 20000 in
theorem ggX7_doubts_X7_at : GoodIn wsX7_doubts wsX7_at := goodIn_r _ [33] (by decide +kernel) (by decide +kernel)
set_option maxRecDepth 20000 in
theorem gX7_doubts_X7_at : GoodIn wsX7_doubts (va_wsS RX7 32 yX7_at wsX7_at) := goodIn_app (goodIn_of _ (by decide +kernel)) ggX7_doubts_X7_at
set_option maxRecDepth 20000 in
theorem ggX7_doubts_X7_ends : GoodIn wsX7_doubts wsX7_ends := goodIn_r _ [37, 1, 38, 39, 40, 41, 42, 43, 44, 45, 46] (by decide +kernel) (by decide +kernel)
set_option maxRecDepth 20000 in
theorem gX7_doubts_X7_ends : GoodIn wsX7_doubts (wsV RX7 92 RX7 yX7_ends wsX7_ends) := goodIn_app (goodIn_of _ (by decide +kernel)) ggX7_doubts_X7_ends
theorem dX7_doubts_0 : decode cX7_doubts 0 = .ok (.aload_n 0, 1) := by decide +kernel
theorem dX7_doubts_1 : decode cX7_doubts 1 = .ok (.getfield 7, 3) := by decide +kernel
theorem dX7_doubts_4 : decode cX7_doubts 4 = .ok (.sipush 245, 3) := by decide +kernel
theorem dX7_doubts_7 : decode cX7_doubts 7 = .ok (.iaload, 1) := by decide +kernel
theorem dX7_doubts_8 : decode cX7_doubts 8 = .ok (.istore_n 2, 1) := by decide +kernel
theorem dX7_doubts_9 : decode cX7_doubts 9 = .ok (.iload_n 1, 1) := by decide +kernel
theorem dX7_doubts_10 : decode cX7_doubts 10 = .ok (.invokestatic 81, 3) := by decide +kernel
theorem dX7_doubts_13 : decode cX7_doubts 13 = .ok (.ifCond .ne 5, 3) := by decide +kernel
theorem dX7_doubts_16 : decode cX7_doubts 16 = .ok (.iconst (-1), 1) := by decide +kernel
theorem dX7_doubts_17 : decode cX7_doubts 17 = .ok (.ireturn, 1) := by decide +kernel
theorem dX7_doubts_18 : decode cX7_doubts 18 = .ok (.aload_n 0, 1) := by decide +kernel
theorem dX7_doubts_19 : decode cX7_doubts 19 = .ok (.invokevirtual 84, 3) := by decide +kernel
theorem dX7_doubts_22 : decode cX7_doubts 22 = .ok (.ifCond .ne 26, 3) := by decide +kernel
theorem dX7_doubts_25 : decode cX7_doubts 25 = .ok (.aload_n 0, 1) := by decide +kernel
theorem dX7_doubts_26 : decode cX7_doubts 26 = .ok (.iload_n 1, 1) := by decide +kernel
theorem dX7_doubts_27 : decode cX7_doubts 27 = .ok (.invokevirtual 51, 3) := by decide +kernel
theorem dX7_doubts_30 : decode cX7_doubts 30 = .ok (.ifCond .ne 18, 3) := by decide +kernel
theorem dX7_doubts_33 : decode cX7_doubts 33 = .ok (.aload_n 0, 1) := by decide +kernel
theorem dX7_doubts_34 : decode cX7_doubts 34 = .ok (.getfield 7, 3) := by decide +kernel
theorem dX7_doubts_37 : decode cX7_doubts 37 = .ok (.bipush 82, 2) := by decide +kernel
theorem dX7_doubts_39 : decode cX7_doubts 39 = .ok (.iload_n 1, 1) := by decide +kernel
theorem dX7_doubts_40 : decode cX7_doubts 40 = .ok (.iadd, 1) := by decide +kernel
theorem dX7_doubts_41 : decode cX7_doubts 41 = .ok (.iaload, 1) := by decide +kernel
theorem dX7_doubts_42 : decode cX7_doubts 42 = .ok (.iconst 1, 1) := by decide +kernel
theorem dX7_doubts_43 : decode cX7_doubts 43 = .ok (.iload_n 2, 1) := by decide +kernel
theorem dX7_doubts_44 : decode cX7_doubts 44 = .ok (.isub, 1) := by decide +kernel
theorem dX7_doubts_45 : decode cX7_doubts 45 = .ok (.if_icmp .eq 6, 3) := by decide +kernel
theorem dX7_doubts_48 : decode cX7_doubts 48 = .ok (.bipush (-5), 2) := by decide +kernel
theorem dX7_doubts_50 : decode cX7_doubts 50 = .ok (.ireturn, 1) := by decide +kernel
theorem dX7_doubts_51 : decode cX7_doubts 51 = .ok (.aload_n 0, 1) := by decide +kernel
theorem dX7_doubts_52 : decode cX7_doubts 52 = .ok (.getfield 7, 3) := by decide +kernel
theorem dX7_doubts_55 : decode cX7_doubts 55 = .ok (.iconst 0, 1) := by decide +kernel
theorem dX7_doubts_56 : decode cX7_doubts 56 = .ok (.iload_n 1, 1) := by decide +kernel
theorem dX7_doubts_57 : decode cX7_doubts 57 = .ok (.iadd, 1) := by decide +kernel
theorem dX7_doubts_58 : decode cX7_doubts 58 = .ok (.iaload, 1) := by decide +kernel
theorem dX7_doubts_59 : decode cX7_doubts 59 = .ok (.iconst 3, 1) := by decide +kernel
theorem dX7_doubts_60 : decode cX7_doubts 60 = .ok (.if_icmp .ne 7, 3) := by decide +kernel
theorem dX7_doubts_63 : decode cX7_doubts 63 = .ok (.iconst 1, 1) := by decide +kernel
theorem dX7_doubts_64 : decode cX7_doubts 64 = .ok (.goto 4, 3) := by decide +kernel
theorem dX7_doubts_67 : decode cX7_doubts 67 = .ok (.iconst 0, 1) := by decide +kernel
theorem dX7_doubts_68 : decode cX7_doubts 68 = .ok (.istore_n 3, 1) := by decide +kernel
theorem dX7_doubts_69 : decode cX7_doubts 69 = .ok (.aload_n 0, 1) := by decide +kernel
theorem dX7_doubts_70 : decode cX7_doubts 70 = .ok (.getfield 7, 3) := by decide +kernel
theorem dX7_doubts_73 : decode cX7_doubts 73 = .ok (.bipush 82, 2) := by decide +kernel
theorem dX7_doubts_75 : decode cX7_doubts 75 = .ok (.iload_n 1, 1) := by decide +kernel
theorem dX7_doubts_76 : decode cX7_doubts 76 = .ok (.iadd, 1) := by decide +kernel
theorem dX7_doubts_77 : decode cX7_doubts 77 = .ok (.bipush (-6), 2) := by decide +kernel
theorem dX7_doubts_79 : decode cX7_doubts 79 = .ok (.iastore, 1) := by decide +kernel
theorem dX7_doubts_80 : decode cX7_doubts 80 = .ok (.aload_n 0, 1) := by decide +kernel
theorem dX7_doubts_81 : decode cX7_doubts 81 = .ok (.getfield 7, 3) := by decide +kernel
theorem dX7_doubts_84 : decode cX7_doubts 84 = .ok (.iconst 0, 1) := by decide +kernel
theorem dX7_doubts_85 : decode cX7_doubts 85 = .ok (.iload_n 1, 1) := by decide +kernel
theorem dX7_doubts_86 : decode cX7_doubts 86 = .ok (.iadd, 1) := by decide +kernel
theorem dX7_doubts_87 : decode cX7_doubts 87 = .ok (.iload_n 3, 1) := by decide +kernel
theorem dX7_doubts_88 : decode cX7_doubts 88 = .ok (.ifCond .eq 7, 3) := by decide +kernel
theorem dX7_doubts_91 : decode cX7_doubts 91 = .ok (.iconst 1, 1) := by decide +kernel
theorem dX7_doubts_92 : decode cX7_doubts 92 = .ok (.goto 4, 3) := by decide +kernel
theorem dX7_doubts_95 : decode cX7_doubts 95 = .ok (.iconst 2, 1) := by decide +kernel
theorem dX7_doubts_96 : decode cX7_doubts 96 = .ok (.iastore, 1) := by decide +kernel
theorem dX7_doubts_97 : decode cX7_doubts 97 = .ok (.aload_n 0, 1) := by decide +kernel
theorem dX7_doubts_98 : decode cX7_doubts 98 = .ok (.getfield 7, 3) := by decide +kernel
theorem dX7_doubts_101 : decode cX7_doubts 101 = .ok (.iload_n 2, 1) := by decide +kernel
theorem dX7_doubts_102 : decode cX7_doubts 102 = .ok (.iconst 0, 1) := by decide +kernel
theorem dX7_doubts_103 : decode cX7_doubts 103 = .ok (.invokestatic 32, 3) := by decide +kernel
theorem dX7_doubts_106 : decode cX7_doubts 106 = .ok (.dup2, 1) := by decide +kernel
theorem dX7_doubts_107 : decode cX7_doubts 107 = .ok (.iaload, 1) := by decide +kernel
theorem dX7_doubts_108 : decode cX7_doubts 108 = .ok (.iload_n 3, 1) := by decide +kernel
theorem dX7_doubts_109 : decode cX7_doubts 109 = .ok (.ifCond .eq 7, 3) := by decide +kernel
theorem dX7_doubts_112 : decode cX7_doubts 112 = .ok (.iconst 2, 1) := by decide +kernel
theorem dX7_doubts_113 : decode cX7_doubts 113 = .ok (.goto 5, 3) := by decide +kernel
theorem dX7_doubts_116 : decode cX7_doubts 116 = .ok (.bipush (-2), 2) := by decide +kernel
theorem dX7_doubts_118 : decode cX7_doubts 118 = .ok (.iadd, 1) := by decide +kernel
theorem dX7_doubts_119 : decode cX7_doubts 119 = .ok (.iastore, 1) := by decide +kernel
theorem dX7_doubts_120 : decode cX7_doubts 120 = .ok (.aload_n 0, 1) := by decide +kernel
theorem dX7_doubts_121 : decode cX7_doubts 121 = .ok (.getfield 7, 3) := by decide +kernel
theorem dX7_doubts_124 : decode cX7_doubts 124 = .ok (.iload_n 2, 1) := by decide +kernel
theorem dX7_doubts_125 : decode cX7_doubts 125 = .ok (.iload_n 3, 1) := by decide +kernel
theorem dX7_doubts_126 : decode cX7_doubts 126 = .ok (.ifCond .eq 8, 3) := by decide +kernel
theorem dX7_doubts_129 : decode cX7_doubts 129 = .ok (.bipush 6, 2) := by decide +kernel
theorem dX7_doubts_131 : decode cX7_doubts 131 = .ok (.goto 5, 3) := by decide +kernel
theorem dX7_doubts_134 : decode cX7_doubts 134 = .ok (.bipush 7, 2) := by decide +kernel
theorem dX7_doubts_136 : decode cX7_doubts 136 = .ok (.invokestatic 32, 3) := by decide +kernel
theorem dX7_doubts_139 : decode cX7_doubts 139 = .ok (.dup2, 1) := by decide +kernel
theorem dX7_doubts_140 : decode cX7_doubts 140 = .ok (.iaload, 1) := by decide +kernel
theorem dX7_doubts_141 : decode cX7_doubts 141 = .ok (.iconst 1, 1) := by decide +kernel
theorem dX7_doubts_142 : decode cX7_doubts 142 = .ok (.iadd, 1) := by decide +kernel
theorem dX7_doubts_143 : decode cX7_doubts 143 = .ok (.iastore, 1) := by decide +kernel
theorem dX7_doubts_144 : decode cX7_doubts 144 = .ok (.aload_n 0, 1) := by decide +kernel
theorem dX7_doubts_145 : decode cX7_doubts 145 = .ok (.iload_n 3, 1) := by decide +kernel
theorem dX7_doubts_146 : decode cX7_doubts 146 = .ok (.ifCond .eq 7, 3) := by decide +kernel
theorem dX7_doubts_149 : decode cX7_doubts 149 = .ok (.iconst 1, 1) := by decide +kernel
theorem dX7_doubts_150 : decode cX7_doubts 150 = .ok (.goto 4, 3) := by decide +kernel
theorem dX7_doubts_153 : decode cX7_doubts 153 = .ok (.iconst 0, 1) := by decide +kernel
theorem dX7_doubts_154 : decode cX7_doubts 154 = .ok (.invokevirtual 92, 3) := by decide +kernel
theorem dX7_doubts_157 : decode cX7_doubts 157 = .ok (.ireturn, 1) := by decide +kernel
set_option maxRecDepth 20000 in
theorem ggX7_passes_X7_isOver : GoodIn wsX7_passes wsX7_isOver := goodIn_r _ [6, 1, 7, 8, 9, 5, 10, 11, 12, 13, 14, 19, 20, 21, 22, 23, 24, 25, 26, 27] (by decide +kernel) (by decide +kernel)
set_option maxRecDepth 20000 in
theorem gX7_passes_X7_isOver : GoodIn wsX7_passes (wsV RX7 84 RX7 yX7_isOver wsX7_isOver) := goodIn_app (goodIn_of _ (by decide +kernel)) ggX7_passes_X7_isOver
set_option maxRecDepth 20000 in
theorem ggX7_passes_X7_ends : GoodIn wsX7_passes wsX7_ends := goodIn_r _ [18, 1, 19, 20, 21, 22, 23, 24, 25, 26, 27] (by decide +kernel) (by decide +kernel)
set_option maxRecDepth 20000 in
theorem gX7_passes_X7_ends : GoodIn wsX7_passes (wsV RX7 92 RX7 yX7_ends wsX7_ends) := goodIn_app (goodIn_of _ (by decide +kernel)) ggX7_passes_X7_ends
theorem dX7_passes_0 : decode cX7_passes 0 = .ok (.aload_n 0, 1) := by decide +kernel
theorem dX7_passes_1 : decode cX7_passes 1 = .ok (.invokevirtual 84, 3) := by decide +kernel
theorem dX7_passes_4 : decode cX7_passes 4 = .ok (.ifCond .eq 8, 3) := by decide +kernel
theorem dX7_passes_7 : decode cX7_passes 7 = .ok (.bipush (-5), 2) := by decide +kernel
theorem dX7_passes_9 : decode cX7_passes 9 = .ok (.goto 17, 3) := by decide +kernel
theorem dX7_passes_12 : decode cX7_passes 12 = .ok (.aload_n 0, 1) := by decide +kernel
theorem dX7_passes_13 : decode cX7_passes 13 = .ok (.iconst 1, 1) := by decide +kernel
theorem dX7_passes_14 : decode cX7_passes 14 = .ok (.aload_n 0, 1) := by decide +kernel
theorem dX7_passes_15 : decode cX7_passes 15 = .ok (.getfield 7, 3) := by decide +kernel
theorem dX7_passes_18 : decode cX7_passes 18 = .ok (.sipush 245, 3) := by decide +kernel
theorem dX7_passes_21 : decode cX7_passes 21 = .ok (.iaload, 1) := by decide +kernel
theorem dX7_passes_22 : decode cX7_passes 22 = .ok (.isub, 1) := by decide +kernel
theorem dX7_passes_23 : decode cX7_passes 23 = .ok (.invokevirtual 92, 3) := by decide +kernel
theorem dX7_passes_26 : decode cX7_passes 26 = .ok (.ireturn, 1) := by decide +kernel
set_option maxRecDepth 20000 in
theorem ggX7_does_X7_chalks : GoodIn wsX7_does wsX7_chalks := goodIn_r _ [5, 6, 7, 8, 4, 9, 10, 11, 12, 13, 14, 15, 16, 17, 18, 19, 20, 21, 22, 23, 24, 25, 26, 27, 28, 29, 30, 31, 32, 33, 34, 35, 36, 37, 38, 39, 40, 41, 42, 43, 44, 45, 46, 47, 48, 49, 50, 51, 52, 53, 54, 55, 56, 57, 107, 108, 109, 110, 111, 112, 113, 114, 115] (by decide +kernel) (by decide +kernel)
set_option maxRecDepth 20000 in
theorem gX7_does_X7_chalks : GoodIn wsX7_does (wsV RX7 108 RX7 yX7_chalks wsX7_chalks) := goodIn_app (goodIn_of _ (by decide +kernel)) ggX7_does_X7_chalks
set_option maxRecDepth 20000 in
theorem ggX7_does_X7_snips : GoodIn wsX7_does wsX7_snips := goodIn_r _ [61, 6, 62, 7, 8, 4, 9, 10, 11, 12, 63, 64, 65, 66, 13, 14, 15, 16, 17, 18, 19, 20, 21, 22, 23, 24, 29, 30, 31, 32, 33, 34, 35, 36, 37, 38, 39, 40, 41, 42, 43, 44, 45, 46, 47, 48, 49, 50, 51, 52, 53, 67, 68, 69, 70, 71, 72, 73, 74, 75, 76, 77, 78, 25, 26, 27, 28, 79, 80, 81, 82, 54, 55, 56, 57, 107, 108, 109, 110, 111, 112, 113, 114, 115] (by decide +kernel) (by decide +kernel)
set_option maxRecDepth 20000 in
theorem gX7_does_X7_snips : GoodIn wsX7_does (wsV RX7 111 RX7 yX7_snips wsX7_snips) := goodIn_app (goodIn_of _ (by decide +kernel)) ggX7_does_X7_snips
set_option maxRecDepth 20000 in
theorem ggX7_does_X7_sews : GoodIn wsX7_does wsX7_sews := goodIn_r _ [86, 6, 7, 8, 4, 9, 10, 11, 12, 87, 88, 89, 90, 13, 14, 15, 16, 17, 18, 19, 20, 21, 22, 23, 24, 29, 30, 31, 32, 33, 34, 35, 36, 37, 38, 47, 48, 49, 54, 55, 56, 57, 107, 108, 109, 110, 111, 112, 113, 114, 115] (by decide +kernel) (by decide +kernel)
set_option maxRecDepth 20000 in
theorem gX7_does_X7_sews : GoodIn wsX7_does (wsV RX7 114 RX7 yX7_sews wsX7_sews) := goodIn_app (goodIn_of _ (by decide +kernel)) ggX7_does_X7_sews
set_option maxRecDepth 20000 in
theorem ggX7_does_X7_bluffs : GoodIn wsX7_does wsX7_bluffs := goodIn_r _ [94, 6, 7, 8, 4, 9, 10, 11, 12, 87, 88, 89, 90, 13, 14, 15, 16, 17, 18, 19, 20, 21, 22, 23, 24, 29, 30, 31, 32, 33, 34, 35, 36, 37, 38, 95, 96, 97, 98, 54, 55, 56, 57, 107, 108, 109, 110, 111, 112, 113, 114, 115] (by decide +kernel) (by decide +kernel)
set_option maxRecDepth 20000 in
theorem gX7_does_X7_bluffs : GoodIn wsX7_does (wsV RX7 117 RX7 yX7_bluffs wsX7_bluffs) := goodIn_app (goodIn_of _ (by decide +kernel)) ggX7_does_X7_bluffs
set_option maxRecDepth 20000 in
theorem ggX7_does_X7_doubts : GoodIn wsX7_does wsX7_doubts := goodIn_r _ [102, 6, 7, 8, 4, 9, 10, 11, 12, 13, 14, 15, 16, 17, 18, 19, 20, 21, 22, 23, 24, 29, 30, 31, 32, 33, 34, 35, 36, 37, 38, 47, 48, 49, 54, 55, 56, 57, 107, 108, 109, 110, 111, 112, 113, 114, 115] (by decide +kernel) (by decide +kernel)
set_option maxRecDepth 20000 in
theorem gX7_does_X7_doubts : GoodIn wsX7_does (wsV RX7 120 RX7 yX7_doubts wsX7_doubts) := goodIn_app (goodIn_of _ (by decide +kernel)) ggX7_does_X7_doubts
set_option maxRecDepth 20000 in
theorem ggX7_does_X7_passes : GoodIn wsX7_does wsX7_passes := goodIn_r _ [106, 6, 13, 14, 15, 4, 16, 17, 18, 19, 20, 21, 22, 23, 24, 54, 55, 56, 57, 107, 108, 109, 110, 111, 112, 113, 114, 115] (by decide +kernel) (by decide +kernel)
set_option maxRecDepth 20000 in
theorem gX7_does_X7_passes : GoodIn wsX7_does (wsV RX7 123 RX7 yX7_passes wsX7_passes) := goodIn_app (goodIn_of _ (by decide +kernel)) ggX7_does_X7_passes
theorem dX7_does_0 : decode cX7_does 0 = .ok (.iload_n 1, 1) := by decide +kernel
theorem dX7_does_1 : decode cX7_does 1 = .ok (.lookupswitch 81 #[(98, 69), (99, 51), (100, 75), (115, 57), (119, 63)], 51) := by decide +kernel
theorem dX7_does_52 : decode cX7_does 52 = .ok (.aload_n 0, 1) := by decide +kernel
theorem dX7_does_53 : decode cX7_does 53 = .ok (.iload_n 2, 1) := by decide +kernel
theorem dX7_does_54 : decode cX7_does 54 = .ok (.invokevirtual 108, 3) := by decide +kernel
theorem dX7_does_57 : decode cX7_does 57 = .ok (.ireturn, 1) := by decide +kernel
theorem dX7_does_58 : decode cX7_does 58 = .ok (.aload_n 0, 1) := by decide +kernel
theorem dX7_does_59 : decode cX7_does 59 = .ok (.iload_n 2, 1) := by decide +kernel
theorem dX7_does_60 : decode cX7_does 60 = .ok (.invokevirtual 111, 3) := by decide +kernel
theorem dX7_does_63 : decode cX7_does 63 = .ok (.ireturn, 1) := by decide +kernel
theorem dX7_does_64 : decode cX7_does 64 = .ok (.aload_n 0, 1) := by decide +kernel
theorem dX7_does_65 : decode cX7_does 65 = .ok (.iload_n 2, 1) := by decide +kernel
theorem dX7_does_66 : decode cX7_does 66 = .ok (.invokevirtual 114, 3) := by decide +kernel
theorem dX7_does_69 : decode cX7_does 69 = .ok (.ireturn, 1) := by decide +kernel
theorem dX7_does_70 : decode cX7_does 70 = .ok (.aload_n 0, 1) := by decide +kernel
theorem dX7_does_71 : decode cX7_does 71 = .ok (.iload_n 2, 1) := by decide +kernel
theorem dX7_does_72 : decode cX7_does 72 = .ok (.invokevirtual 117, 3) := by decide +kernel
theorem dX7_does_75 : decode cX7_does 75 = .ok (.ireturn, 1) := by decide +kernel
theorem dX7_does_76 : decode cX7_does 76 = .ok (.aload_n 0, 1) := by decide +kernel
theorem dX7_does_77 : decode cX7_does 77 = .ok (.iload_n 2, 1) := by decide +kernel
theorem dX7_does_78 : decode cX7_does 78 = .ok (.invokevirtual 120, 3) := by decide +kernel
theorem dX7_does_81 : decode cX7_does 81 = .ok (.ireturn, 1) := by decide +kernel
theorem dX7_does_82 : decode cX7_does 82 = .ok (.aload_n 0, 1) := by decide +kernel
theorem dX7_does_83 : decode cX7_does 83 = .ok (.invokevirtual 123, 3) := by decide +kernel
theorem dX7_does_86 : decode cX7_does 86 = .ok (.ireturn, 1) := by decide +kernel
set_option maxRecDepth 20000 in
theorem ggX7_turns_X7_looks : GoodIn wsX7_turns wsX7_looks := goodIn_r _ [5, 6, 7, 122, 123, 124, 125, 126, 127, 128, 129, 130] (by decide +kernel) (by decide +kernel)
set_option maxRecDepth 20000 in
theorem gX7_turns_X7_looks : GoodIn wsX7_turns (wsV RX7 126 RX7 yX7_looks wsX7_looks) := goodIn_app (goodIn_of _ (by decide +kernel)) ggX7_turns_X7_looks
set_option maxRecDepth 20000 in
theorem ggX7_turns_X7_does : GoodIn wsX7_turns wsX7_does := goodIn_r _ [11, 12, 13, 14, 4, 15, 7, 16, 17, 18, 19, 20, 21, 22, 23, 24, 25, 26, 27, 28, 29, 30, 31, 32, 33, 34, 35, 36, 37, 38, 39, 40, 41, 42, 43, 44, 45, 46, 47, 48, 49, 50, 51, 52, 53, 54, 55, 56, 57, 58, 59, 60, 61, 62, 63, 64, 65, 66, 67, 68, 69, 70, 71, 72, 73, 74, 75, 76, 77, 78, 79, 80, 81, 82, 83, 84, 85, 86, 87, 88, 89, 90, 91, 92, 93, 94, 95, 96, 97, 98, 99, 100, 101, 102, 103, 104, 105, 106, 107, 108, 109, 110, 111, 112, 113, 114, 115, 122, 123, 124, 125, 126, 127, 128, 129, 130] (by decide +kernel) (by decide +kernel)
set_option maxRecDepth 20000 in
theorem gX7_turns_X7_does : GoodIn wsX7_turns (wsV RX7 129 RX7 yX7_does wsX7_does) := goodIn_app (goodIn_of _ (by decide +kernel)) ggX7_turns_X7_does
set_option maxRecDepth 20000 in
theorem ggX7_turns_X7_records : GoodIn wsX7_turns wsX7_records := goodIn_r _ [119, 120, 121, 6, 122, 123, 124, 125, 126, 127, 128, 129, 130] (by decide +kernel) (by decide +kernel)
set_option maxRecDepth 20000 in
theorem gX7_turns_X7_records : GoodIn wsX7_turns (wsV RX7 132 RX7 yX7_records wsX7_records) := goodIn_app (goodIn_of _ (by decide +kernel)) ggX7_turns_X7_records
theorem dX7_turns_0 : decode cX7_turns 0 = .ok (.aload_n 0, 1) := by decide +kernel
theorem dX7_turns_1 : decode cX7_turns 1 = .ok (.invokevirtual 126, 3) := by decide +kernel
theorem dX7_turns_4 : decode cX7_turns 4 = .ok (.aload_n 0, 1) := by decide +kernel
theorem dX7_turns_5 : decode cX7_turns 5 = .ok (.iload_n 1, 1) := by decide +kernel
theorem dX7_turns_6 : decode cX7_turns 6 = .ok (.iload_n 2, 1) := by decide +kernel
theorem dX7_turns_7 : decode cX7_turns 7 = .ok (.invokevirtual 129, 3) := by decide +kernel
theorem dX7_turns_10 : decode cX7_turns 10 = .ok (.istore_n 3, 1) := by decide +kernel
theorem dX7_turns_11 : decode cX7_turns 11 = .ok (.iload_n 3, 1) := by decide +kernel
theorem dX7_turns_12 : decode cX7_turns 12 = .ok (.ifCond .lt 7, 3) := by decide +kernel
theorem dX7_turns_15 : decode cX7_turns 15 = .ok (.aload_n 0, 1) := by decide +kernel
theorem dX7_turns_16 : decode cX7_turns 16 = .ok (.invokevirtual 132, 3) := by decide +kernel
theorem dX7_turns_19 : decode cX7_turns 19 = .ok (.iload_n 3, 1) := by decide +kernel
theorem dX7_turns_20 : decode cX7_turns 20 = .ok (.ireturn, 1) := by decide +kernel
set_option maxRecDepth 20000 in
theorem ggX7_chalk_X7_turns : GoodIn wsX7_chalk wsX7_turns := goodIn_r _ [5, 6, 7, 8, 4, 9, 10, 11, 12, 13, 14, 15, 16, 17, 18, 19, 20, 21, 22, 23, 24, 25, 26, 27, 28, 29, 30, 31, 32, 33, 34, 35, 36, 37, 38, 39, 40, 41, 42, 43, 44, 45, 46, 47, 48, 49, 50, 51, 52, 53, 54, 55, 56, 57, 58, 59, 60, 61, 62, 63, 64, 65, 66, 67, 68, 69, 70, 71, 72, 73, 74, 75, 76, 77, 78, 79, 80, 81, 82, 83, 84, 85, 86, 87, 88, 89, 90, 91, 92, 93, 94, 95, 96, 97, 98, 99, 100, 101, 102, 103, 104, 105, 106, 107, 108, 109, 110, 111, 112, 113, 114, 115, 116, 117, 118, 119, 120, 121, 122, 123, 124, 125, 126, 127, 128, 129, 130, 131, 132, 133, 134] (by decide +kernel) (by decide +kernel)
set_option maxRecDepth 20000 in
theorem gX7_chalk_X7_turns : GoodIn wsX7_chalk (wsV RX7 135 RX7 yX7_turns wsX7_turns) := goodIn_app (goodIn_of _ (by decide +kernel)) ggX7_chalk_X7_turns
theorem dX7_chalk_0 : decode cX7_chalk 0 = .ok (.aload_n 0, 1) := by decide +kernel
theorem dX7_chalk_1 : decode cX7_chalk 1 = .ok (.bipush 99, 2) := by decide +kernel
theorem dX7_chalk_3 : decode cX7_chalk 3 = .ok (.iload_n 1, 1) := by decide +kernel
theorem dX7_chalk_4 : decode cX7_chalk 4 = .ok (.invokevirtual 135, 3) := by decide +kernel
theorem dX7_chalk_7 : decode cX7_chalk 7 = .ok (.ireturn, 1) := by decide +kernel
set_option maxRecDepth 20000 in
theorem ggX7_snip_X7_turns : GoodIn wsX7_snip wsX7_turns := goodIn_r _ [5, 6, 7, 8, 4, 9, 10, 11, 12, 13, 14, 15, 16, 17, 18, 19, 20, 21, 22, 23, 24, 25, 26, 27, 28, 29, 30, 31, 32, 33, 34, 35, 36, 37, 38, 39, 40, 41, 42, 43, 44, 45, 46, 47, 48, 49, 50, 51, 52, 53, 54, 55, 56, 57, 58, 59, 60, 61, 62, 63, 64, 65, 66, 67, 68, 69, 70, 71, 72, 73, 74, 75, 76, 77, 78, 79, 80, 81, 82, 83, 84, 85, 86, 87, 88, 89, 90, 91, 92, 93, 94, 95, 96, 97, 98, 99, 100, 101, 102, 103, 104, 105, 106, 107, 108, 109, 110, 111, 112, 113, 114, 115, 116, 117, 118, 119, 120, 121, 122, 123, 124, 125, 126, 127, 128, 129, 130, 131, 132, 133, 134] (by decide +kernel) (by decide +kernel)
set_option maxRecDepth 20000 in
theorem gX7_snip_X7_turns : GoodIn wsX7_snip (wsV RX7 135 RX7 yX7_turns wsX7_turns) := goodIn_app (goodIn_of _ (by decide +kernel)) ggX7_snip_X7_turns
theorem dX7_snip_0 : decode cX7_snip 0 = .ok (.aload_n 0, 1) := by decide +kernel
theorem dX7_snip_1 : decode cX7_snip 1 = .ok (.bipush 115, 2) := by decide +kernel
theorem dX7_snip_3 : decode cX7_snip 3 = .ok (.iload_n 1, 1) := by decide +kernel
theorem dX7_snip_4 : decode cX7_snip 4 = .ok (.invokevirtual 135, 3) := by decide +kernel
theorem dX7_snip_7 : decode cX7_snip 7 = .ok (.ireturn, 1) := by decide +kernel
set_option maxRecDepth 20000 in
theorem ggX7_sew_X7_turns : GoodIn wsX7_sew wsX7_turns := goodIn_r _ [5, 6, 7, 8, 4, 9, 10, 11, 12, 13, 14, 15, 16, 17, 18, 19, 20, 21, 22, 23, 24, 25, 26, 27, 28, 29, 30, 31, 32, 33, 34, 35, 36, 37, 38, 39, 40, 41, 42, 43, 44, 45, 46, 47, 48, 49, 50, 51, 52, 53, 54, 55, 56, 57, 58, 59, 60, 61, 62, 63, 64, 65, 66, 67, 68, 69, 70, 71, 72, 73, 74, 75, 76, 77, 78, 79, 80, 81, 82, 83, 84, 85, 86, 87, 88, 89, 90, 91, 92, 93, 94, 95, 96, 97, 98, 99, 100, 101, 102, 103, 104, 105, 106, 107, 108, 109, 110, 111, 112, 113, 114, 115, 116, 117, 118, 119, 120, 121, 122, 123, 124, 125, 126, 127, 128, 129, 130, 131, 132, 133, 134] (by decide +kernel) (by decide +kernel)
set_option maxRecDepth 20000 in
theorem gX7_sew_X7_turns : GoodIn wsX7_sew (wsV RX7 135 RX7 yX7_turns wsX7_turns) := goodIn_app (goodIn_of _ (by decide +kernel)) ggX7_sew_X7_turns
theorem dX7_sew_0 : decode cX7_sew 0 = .ok (.aload_n 0, 1) := by decide +kernel
theorem dX7_sew_1 : decode cX7_sew 1 = .ok (.bipush 119, 2) := by decide +kernel
theorem dX7_sew_3 : decode cX7_sew 3 = .ok (.iload_n 1, 1) := by decide +kernel
theorem dX7_sew_4 : decode cX7_sew 4 = .ok (.invokevirtual 135, 3) := by decide +kernel
theorem dX7_sew_7 : decode cX7_sew 7 = .ok (.ireturn, 1) := by decide +kernel
set_option maxRecDepth 20000 in
theorem ggX7_bluff_X7_turns : GoodIn wsX7_bluff wsX7_turns := goodIn_r _ [5, 6, 7, 8, 4, 9, 10, 11, 12, 13, 14, 15, 16, 17, 18, 19, 20, 21, 22, 23, 24, 25, 26, 27, 28, 29, 30, 31, 32, 33, 34, 35, 36, 37, 38, 39, 40, 41, 42, 43, 44, 45, 46, 47, 48, 49, 50, 51, 52, 53, 54, 55, 56, 57, 58, 59, 60, 61, 62, 63, 64, 65, 66, 67, 68, 69, 70, 71, 72, 73, 74, 75, 76, 77, 78, 79, 80, 81, 82, 83, 84, 85, 86, 87, 88, 89, 90, 91, 92, 93, 94, 95, 96, 97, 98, 99, 100, 101, 102, 103, 104, 105, 106, 107, 108, 109, 110, 111, 112, 113, 114, 115, 116, 117, 118, 119, 120, 121, 122, 123, 124, 125, 126, 127, 128, 129, 130, 131, 132, 133, 134] (by decide +kernel) (by decide +kernel)
set_option maxRecDepth 20000 in
theorem gX7_bluff_X7_turns : GoodIn wsX7_bluff (wsV RX7 135 RX7 yX7_turns wsX7_turns) := goodIn_app (goodIn_of _ (by decide +kernel)) ggX7_bluff_X7_turns
theorem dX7_bluff_0 : decode cX7_bluff 0 = .ok (.aload_n 0, 1) := by decide +kernel
theorem dX7_bluff_1 : decode cX7_bluff 1 = .ok (.bipush 98, 2) := by decide +kernel
theorem dX7_bluff_3 : decode cX7_bluff 3 = .ok (.iload_n 1, 1) := by decide +kernel
theorem dX7_bluff_4 : decode cX7_bluff 4 = .ok (.invokevirtual 135, 3) := by decide +kernel
theorem dX7_bluff_7 : decode cX7_bluff 7 = .ok (.ireturn, 1) := by decide +kernel
set_option maxRecDepth 20000 in
theorem ggX7_doubt_X7_turns : GoodIn wsX7_doubt wsX7_turns := goodIn_r _ [5, 6, 7, 8, 4, 9, 10, 11, 12, 13, 14, 15, 16, 17, 18, 19, 20, 21, 22, 23, 24, 25, 26, 27, 28, 29, 30, 31, 32, 33, 34, 35, 36, 37, 38, 39, 40, 41, 42, 43, 44, 45, 46, 47, 48, 49, 50, 51, 52, 53, 54, 55, 56, 57, 58, 59, 60, 61, 62, 63, 64, 65, 66, 67, 68, 69, 70, 71, 72, 73, 74, 75, 76, 77, 78, 79, 80, 81, 82, 83, 84, 85, 86, 87, 88, 89, 90, 91, 92, 93, 94, 95, 96, 97, 98, 99, 100, 101, 102, 103, 104, 105, 106, 107, 108, 109, 110, 111, 112, 113, 114, 115, 116, 117, 118, 119, 120, 121, 122, 123, 124, 125, 126, 127, 128, 129, 130, 131, 132, 133, 134] (by decide +kernel) (by decide +kernel)
set_option maxRecDepth 20000 in
theorem gX7_doubt_X7_turns : GoodIn wsX7_doubt (wsV RX7 135 RX7 yX7_turns wsX7_turns) := goodIn_app (goodIn_of _ (by decide +kernel)) ggX7_doubt_X7_turns
theorem dX7_doubt_0 : decode cX7_doubt 0 = .ok (.aload_n 0, 1) := by decide +kernel
theorem dX7_doubt_1 : decode cX7_doubt 1 = .ok (.bipush 100, 2) := by decide +kernel
theorem dX7_doubt_3 : decode cX7_doubt 3 = .ok (.iload_n 1, 1) := by decide +kernel
theorem dX7_doubt_4 : decode cX7_doubt 4 = .ok (.invokevirtual 135, 3) := by decide +kernel
theorem dX7_doubt_7 : decode cX7_doubt 7 = .ok (.ireturn, 1) := by decide +kernel
set_option maxRecDepth 20000 in
theorem ggX7_pass_X7_turns : GoodIn wsX7_pass wsX7_turns := goodIn_r _ [5, 6, 7, 8, 4, 9, 10, 11, 12, 13, 14, 15, 16, 17, 18, 19, 20, 21, 22, 23, 24, 25, 26, 27, 28, 29, 30, 31, 32, 33, 34, 35, 36, 37, 38, 39, 40, 41, 42, 43, 44, 45, 46, 47, 48, 49, 50, 51, 52, 53, 54, 55, 56, 57, 58, 59, 60, 61, 62, 63, 64, 65, 66, 67, 68, 69, 70, 71, 72, 73, 74, 75, 76, 77, 78, 79, 80, 81, 82, 83, 84, 85, 86, 87, 88, 89, 90, 91, 92, 93, 94, 95, 96, 97, 98, 99, 100, 101, 102, 103, 104, 105, 106, 107, 108, 109, 110, 111, 112, 113, 114, 115, 116, 117, 118, 119, 120, 121, 122, 123, 124, 125, 126, 127, 128, 129, 130, 131, 132, 133, 134] (by decide +kernel) (by decide +kernel)
set_option maxRecDepth 20000 in
theorem gX7_pass_X7_turns : GoodIn wsX7_pass (wsV RX7 135 RX7 yX7_turns wsX7_turns) := goodIn_app (goodIn_of _ (by decide +kernel)) ggX7_pass_X7_turns
theorem dX7_pass_0 : decode cX7_pass 0 = .ok (.aload_n 0, 1) := by decide +kernel
theorem dX7_pass_1 : decode cX7_pass 1 = .ok (.bipush 112, 2) := by decide +kernel
theorem dX7_pass_3 : decode cX7_pass 3 = .ok (.iconst 0, 1) := by decide +kernel
theorem dX7_pass_4 : decode cX7_pass 4 = .ok (.invokevirtual 135, 3) := by decide +kernel
theorem dX7_pass_7 : decode cX7_pass 7 = .ok (.ireturn, 1) := by decide +kernel
set_option maxRecDepth 20000 in
theorem ggX7_of_X7_isJoint : GoodIn wsX7_of wsX7_isJoint := goodIn_r _ [5, 6, 7, 4, 8] (by decide +kernel) (by decide +kernel)
set_option maxRecDepth 20000 in
theorem gX7_of_X7_isJoint : GoodIn wsX7_of (va_wsS RX7 81 yX7_isJoint wsX7_isJoint) := goodIn_app (goodIn_of _ (by decide +kernel)) ggX7_of_X7_isJoint
set_option maxRecDepth 20000 in
theorem ggX7_of_X7_isVoid : GoodIn wsX7_of wsX7_isVoid := goodIn_r _ [12, 13, 14, 4, 15, 16, 17, 18, 19, 1, 20, 21, 22, 42, 43, 44, 45, 46, 47, 48, 49, 50] (by decide +kernel) (by decide +kernel)
set_option maxRecDepth 20000 in
theorem gX7_of_X7_isVoid : GoodIn wsX7_of (wsV RX7 51 RX7 yX7_isVoid wsX7_isVoid) := goodIn_app (goodIn_of _ (by decide +kernel)) ggX7_of_X7_isVoid
set_option maxRecDepth 20000 in
theorem ggX7_of_X7_first : GoodIn wsX7_of wsX7_first := goodIn_r _ [15] (by decide +kernel) (by decide +kernel)
set_option maxRecDepth 20000 in
theorem gX7_of_X7_first : GoodIn wsX7_of (va_wsS RX7 40 yX7_first wsX7_first) := goodIn_app (goodIn_of _ (by decide +kernel)) ggX7_of_X7_first
set_option maxRecDepth 20000 in
theorem ggX7_of_X7_second : GoodIn wsX7_of wsX7_second := goodIn_r _ [22, 13, 14, 4, 15] (by decide +kernel) (by decide +kernel)
set_option maxRecDepth 20000 in
theorem gX7_of_X7_second : GoodIn wsX7_of (va_wsS RX7 48 yX7_second wsX7_second) := goodIn_app (goodIn_of _ (by decide +kernel)) ggX7_of_X7_second
set_option maxRecDepth 20000 in
theorem ggX7_of_X7_hasChalk : GoodIn wsX7_of wsX7_hasChalk := goodIn_r _ [26, 27, 28, 29, 4, 30, 1, 31, 32, 33, 34, 35, 36, 37, 42, 43, 44, 45, 46, 47, 48, 49, 50] (by decide +kernel) (by decide +kernel)
set_option maxRecDepth 20000 in
theorem gX7_of_X7_hasChalk : GoodIn wsX7_of (wsV RX7 88 RX7 yX7_hasChalk wsX7_hasChalk) := goodIn_app (goodIn_of _ (by decide +kernel)) ggX7_of_X7_hasChalk
set_option maxRecDepth 20000 in
theorem ggX7_of_X7_holds : GoodIn wsX7_of wsX7_holds := goodIn_r _ [41, 1, 9, 10, 11, 4, 12, 13, 14, 15, 16, 17, 18, 19, 20, 21, 22, 42, 43, 44, 45, 46, 47, 48, 49, 50] (by decide +kernel) (by decide +kernel)
set_option maxRecDepth 20000 in
theorem gX7_of_X7_holds : GoodIn wsX7_of (wsV RX7 58 RX7 yX7_holds wsX7_holds) := goodIn_app (goodIn_of _ (by decide +kernel)) ggX7_of_X7_holds
theorem dX7_of_0 : decode cX7_of 0 = .ok (.iload_n 1, 1) := by decide +kernel
theorem dX7_of_1 : decode cX7_of 1 = .ok (.invokestatic 81, 3) := by decide +kernel
theorem dX7_of_4 : decode cX7_of 4 = .ok (.ifCond .ne 5, 3) := by decide +kernel
theorem dX7_of_7 : decode cX7_of 7 = .ok (.iconst (-1), 1) := by decide +kernel
theorem dX7_of_8 : decode cX7_of 8 = .ok (.ireturn, 1) := by decide +kernel
theorem dX7_of_9 : decode cX7_of 9 = .ok (.iload_n 2, 1) := by decide +kernel
theorem dX7_of_10 : decode cX7_of 10 = .ok (.tableswitch 142 0 6 #[42, 51, 65, 70, 75, 105, 128], 42) := by decide +kernel
theorem dX7_of_52 : decode cX7_of 52 = .ok (.aload_n 0, 1) := by decide +kernel
theorem dX7_of_53 : decode cX7_of 53 = .ok (.getfield 7, 3) := by decide +kernel
theorem dX7_of_56 : decode cX7_of 56 = .ok (.iconst 0, 1) := by decide +kernel
theorem dX7_of_57 : decode cX7_of 57 = .ok (.iload_n 1, 1) := by decide +kernel
theorem dX7_of_58 : decode cX7_of 58 = .ok (.iadd, 1) := by decide +kernel
theorem dX7_of_59 : decode cX7_of 59 = .ok (.iaload, 1) := by decide +kernel
theorem dX7_of_60 : decode cX7_of 60 = .ok (.ireturn, 1) := by decide +kernel
theorem dX7_of_61 : decode cX7_of 61 = .ok (.aload_n 0, 1) := by decide +kernel
theorem dX7_of_62 : decode cX7_of 62 = .ok (.iload_n 1, 1) := by decide +kernel
theorem dX7_of_63 : decode cX7_of 63 = .ok (.invokevirtual 51, 3) := by decide +kernel
theorem dX7_of_66 : decode cX7_of 66 = .ok (.ifCond .eq 7, 3) := by decide +kernel
theorem dX7_of_69 : decode cX7_of 69 = .ok (.iconst 1, 1) := by decide +kernel
theorem dX7_of_70 : decode cX7_of 70 = .ok (.goto 4, 3) := by decide +kernel
theorem dX7_of_73 : decode cX7_of 73 = .ok (.iconst 0, 1) := by decide +kernel
theorem dX7_of_74 : decode cX7_of 74 = .ok (.ireturn, 1) := by decide +kernel
theorem dX7_of_75 : decode cX7_of 75 = .ok (.iload_n 1, 1) := by decide +kernel
theorem dX7_of_76 : decode cX7_of 76 = .ok (.invokestatic 40, 3) := by decide +kernel
theorem dX7_of_79 : decode cX7_of 79 = .ok (.ireturn, 1) := by decide +kernel
theorem dX7_of_80 : decode cX7_of 80 = .ok (.iload_n 1, 1) := by decide +kernel
theorem dX7_of_81 : decode cX7_of 81 = .ok (.invokestatic 48, 3) := by decide +kernel
theorem dX7_of_84 : decode cX7_of 84 = .ok (.ireturn, 1) := by decide +kernel
theorem dX7_of_85 : decode cX7_of 85 = .ok (.aload_n 0, 1) := by decide +kernel
theorem dX7_of_86 : decode cX7_of 86 = .ok (.iconst 0, 1) := by decide +kernel
theorem dX7_of_87 : decode cX7_of 87 = .ok (.iload_n 1, 1) := by decide +kernel
theorem dX7_of_88 : decode cX7_of 88 = .ok (.invokevirtual 88, 3) := by decide +kernel
theorem dX7_of_91 : decode cX7_of 91 = .ok (.ifCond .eq 7, 3) := by decide +kernel
theorem dX7_of_94 : decode cX7_of 94 = .ok (.iconst 1, 1) := by decide +kernel
theorem dX7_of_95 : decode cX7_of 95 = .ok (.goto 4, 3) := by decide +kernel
theorem dX7_of_98 : decode cX7_of 98 = .ok (.iconst 0, 1) := by decide +kernel
theorem dX7_of_99 : decode cX7_of 99 = .ok (.aload_n 0, 1) := by decide +kernel
theorem dX7_of_100 : decode cX7_of 100 = .ok (.iconst 1, 1) := by decide +kernel
theorem dX7_of_101 : decode cX7_of 101 = .ok (.iload_n 1, 1) := by decide +kernel
theorem dX7_of_102 : decode cX7_of 102 = .ok (.invokevirtual 88, 3) := by decide +kernel
theorem dX7_of_105 : decode cX7_of 105 = .ok (.ifCond .eq 7, 3) := by decide +kernel
theorem dX7_of_108 : decode cX7_of 108 = .ok (.iconst 2, 1) := by decide +kernel
theorem dX7_of_109 : decode cX7_of 109 = .ok (.goto 4, 3) := by decide +kernel
theorem dX7_of_112 : decode cX7_of 112 = .ok (.iconst 0, 1) := by decide +kernel
theorem dX7_of_113 : decode cX7_of 113 = .ok (.iadd, 1) := by decide +kernel
theorem dX7_of_114 : decode cX7_of 114 = .ok (.ireturn, 1) := by decide +kernel
theorem dX7_of_115 : decode cX7_of 115 = .ok (.aload_n 0, 1) := by decide +kernel
theorem dX7_of_116 : decode cX7_of 116 = .ok (.iload_n 1, 1) := by decide +kernel
theorem dX7_of_117 : decode cX7_of 117 = .ok (.invokevirtual 51, 3) := by decide +kernel
theorem dX7_of_120 : decode cX7_of 120 = .ok (.ifCond .eq 8, 3) := by decide +kernel
theorem dX7_of_123 : decode cX7_of 123 = .ok (.bipush (-6), 2) := by decide +kernel
theorem dX7_of_125 : decode cX7_of 125 = .ok (.goto 12, 3) := by decide +kernel
theorem dX7_of_128 : decode cX7_of 128 = .ok (.aload_n 0, 1) := by decide +kernel
theorem dX7_of_129 : decode cX7_of 129 = .ok (.getfield 7, 3) := by decide +kernel
theorem dX7_of_132 : decode cX7_of 132 = .ok (.bipush 82, 2) := by decide +kernel
theorem dX7_of_134 : decode cX7_of 134 = .ok (.iload_n 1, 1) := by decide +kernel
theorem dX7_of_135 : decode cX7_of 135 = .ok (.iadd, 1) := by decide +kernel
theorem dX7_of_136 : decode cX7_of 136 = .ok (.iaload, 1) := by decide +kernel
theorem dX7_of_137 : decode cX7_of 137 = .ok (.ireturn, 1) := by decide +kernel
theorem dX7_of_138 : decode cX7_of 138 = .ok (.aload_n 0, 1) := by decide +kernel
theorem dX7_of_139 : decode cX7_of 139 = .ok (.iload_n 1, 1) := by decide +kernel
theorem dX7_of_140 : decode cX7_of 140 = .ok (.invokevirtual 58, 3) := by decide +kernel
theorem dX7_of_143 : decode cX7_of 143 = .ok (.ifCond .eq 7, 3) := by decide +kernel
theorem dX7_of_146 : decode cX7_of 146 = .ok (.iconst 1, 1) := by decide +kernel
theorem dX7_of_147 : decode cX7_of 147 = .ok (.goto 4, 3) := by decide +kernel
theorem dX7_of_150 : decode cX7_of 150 = .ok (.iconst 0, 1) := by decide +kernel
theorem dX7_of_151 : decode cX7_of 151 = .ok (.ireturn, 1) := by decide +kernel
theorem dX7_of_152 : decode cX7_of 152 = .ok (.bipush (-2), 2) := by decide +kernel
theorem dX7_of_154 : decode cX7_of 154 = .ok (.ireturn, 1) := by decide +kernel
set_option maxRecDepth 20000 in
theorem ggX7_pieceOf_X7_layPieces : GoodIn wsX7_pieceOf wsX7_layPieces := goodIn_r _ [6, 1, 7, 8, 9, 10, 5, 11, 12, 13, 14, 15, 16, 17, 18, 19, 20, 21, 22, 23, 24, 25, 30, 31, 32, 33, 34, 35, 36, 37, 38] (by decide +kernel) (by decide +kernel)
set_option maxRecDepth 20000 in
theorem gX7_pieceOf_X7_layPieces : GoodIn wsX7_pieceOf (wsV RX7 61 RX7 yX7_layPieces wsX7_layPieces) := goodIn_app (goodIn_of _ (by decide +kernel)) ggX7_pieceOf_X7_layPieces
set_option maxRecDepth 20000 in
theorem ggX7_pieceOf_X7_isGone : GoodIn wsX7_pieceOf wsX7_isGone := goodIn_r _ [11, 7, 30, 31, 32, 33, 34, 35, 36, 37, 38] (by decide +kernel) (by decide +kernel)
set_option maxRecDepth 20000 in
theorem gX7_pieceOf_X7_isGone : GoodIn wsX7_pieceOf (wsV RX7 44 RX7 yX7_isGone wsX7_isGone) := goodIn_app (goodIn_of _ (by decide +kernel)) ggX7_pieceOf_X7_isGone
set_option maxRecDepth 20000 in
theorem ggX7_pieceOf_X7_cellsOf : GoodIn wsX7_pieceOf wsX7_cellsOf := goodIn_r _ [29, 1, 30, 31, 32, 33, 34, 35, 36, 37, 38] (by decide +kernel) (by decide +kernel)
set_option maxRecDepth 20000 in
theorem gX7_pieceOf_X7_cellsOf : GoodIn wsX7_pieceOf (wsV RX7 65 RX7 yX7_cellsOf wsX7_cellsOf) := goodIn_app (goodIn_of _ (by decide +kernel)) ggX7_pieceOf_X7_cellsOf
theorem dX7_pieceOf_0 : decode cX7_pieceOf 0 = .ok (.aload_n 0, 1) := by decide +kernel
theorem dX7_pieceOf_1 : decode cX7_pieceOf 1 = .ok (.bipush (-6), 2) := by decide +kernel
theorem dX7_pieceOf_3 : decode cX7_pieceOf 3 = .ok (.iconst 0, 1) := by decide +kernel
theorem dX7_pieceOf_4 : decode cX7_pieceOf 4 = .ok (.invokevirtual 61, 3) := by decide +kernel
theorem dX7_pieceOf_7 : decode cX7_pieceOf 7 = .ok (.aload_n 0, 1) := by decide +kernel
theorem dX7_pieceOf_8 : decode cX7_pieceOf 8 = .ok (.iload_n 1, 1) := by decide +kernel
theorem dX7_pieceOf_9 : decode cX7_pieceOf 9 = .ok (.invokevirtual 44, 3) := by decide +kernel
theorem dX7_pieceOf_12 : decode cX7_pieceOf 12 = .ok (.ifCond .eq 17, 3) := by decide +kernel
theorem dX7_pieceOf_15 : decode cX7_pieceOf 15 = .ok (.iload_n 2, 1) := by decide +kernel
theorem dX7_pieceOf_16 : decode cX7_pieceOf 16 = .ok (.iconst 1, 1) := by decide +kernel
theorem dX7_pieceOf_17 : decode cX7_pieceOf 17 = .ok (.if_icmp .ne 7, 3) := by decide +kernel
theorem dX7_pieceOf_20 : decode cX7_pieceOf 20 = .ok (.iconst 0, 1) := by decide +kernel
theorem dX7_pieceOf_21 : decode cX7_pieceOf 21 = .ok (.goto 32, 3) := by decide +kernel
theorem dX7_pieceOf_24 : decode cX7_pieceOf 24 = .ok (.bipush (-6), 2) := by decide +kernel
theorem dX7_pieceOf_26 : decode cX7_pieceOf 26 = .ok (.goto 27, 3) := by decide +kernel
theorem dX7_pieceOf_29 : decode cX7_pieceOf 29 = .ok (.iload_n 2, 1) := by decide +kernel
theorem dX7_pieceOf_30 : decode cX7_pieceOf 30 = .ok (.iconst 1, 1) := by decide +kernel
theorem dX7_pieceOf_31 : decode cX7_pieceOf 31 = .ok (.if_icmp .ne 16, 3) := by decide +kernel
theorem dX7_pieceOf_34 : decode cX7_pieceOf 34 = .ok (.aload_n 0, 1) := by decide +kernel
theorem dX7_pieceOf_35 : decode cX7_pieceOf 35 = .ok (.aload_n 0, 1) := by decide +kernel
theorem dX7_pieceOf_36 : decode cX7_pieceOf 36 = .ok (.getfield 29, 3) := by decide +kernel
theorem dX7_pieceOf_39 : decode cX7_pieceOf 39 = .ok (.iload_n 1, 1) := by decide +kernel
theorem dX7_pieceOf_40 : decode cX7_pieceOf 40 = .ok (.iaload, 1) := by decide +kernel
theorem dX7_pieceOf_41 : decode cX7_pieceOf 41 = .ok (.invokevirtual 65, 3) := by decide +kernel
theorem dX7_pieceOf_44 : decode cX7_pieceOf 44 = .ok (.goto 9, 3) := by decide +kernel
theorem dX7_pieceOf_47 : decode cX7_pieceOf 47 = .ok (.aload_n 0, 1) := by decide +kernel
theorem dX7_pieceOf_48 : decode cX7_pieceOf 48 = .ok (.getfield 29, 3) := by decide +kernel
theorem dX7_pieceOf_51 : decode cX7_pieceOf 51 = .ok (.iload_n 1, 1) := by decide +kernel
theorem dX7_pieceOf_52 : decode cX7_pieceOf 52 = .ok (.iaload, 1) := by decide +kernel
theorem dX7_pieceOf_53 : decode cX7_pieceOf 53 = .ok (.ireturn, 1) := by decide +kernel
set_option maxRecDepth 20000 in
theorem ggX7_holding_X7_first : GoodIn wsX7_holding wsX7_first := goodIn_r _ [4] (by decide +kernel) (by decide +kernel)
set_option maxRecDepth 20000 in
theorem gX7_holding_X7_first : GoodIn wsX7_holding (va_wsS RX7 40 yX7_first wsX7_first) := goodIn_app (goodIn_of _ (by decide +kernel)) ggX7_holding_X7_first
set_option maxRecDepth 20000 in
theorem ggX7_holding_X7_second : GoodIn wsX7_holding wsX7_second := goodIn_r _ [7, 1, 2, 3, 4] (by decide +kernel) (by decide +kernel)
set_option maxRecDepth 20000 in
theorem gX7_holding_X7_second : GoodIn wsX7_holding (va_wsS RX7 48 yX7_second wsX7_second) := goodIn_app (goodIn_of _ (by decide +kernel)) ggX7_holding_X7_second
set_option maxRecDepth 20000 in
theorem ggX7_holding_X7_holds : GoodIn wsX7_holding wsX7_holds := goodIn_r _ [11, 12, 13, 14, 15, 3, 16, 1, 2, 4, 17, 18, 19, 20, 5, 6, 7, 21, 22, 23, 24, 25, 26, 27, 28, 29] (by decide +kernel) (by decide +kernel)
set_option maxRecDepth 20000 in
theorem gX7_holding_X7_holds : GoodIn wsX7_holding (wsV RX7 58 RX7 yX7_holds wsX7_holds) := goodIn_app (goodIn_of _ (by decide +kernel)) ggX7_holding_X7_holds
theorem dX7_holding_0 : decode cX7_holding 0 = .ok (.iconst 0, 1) := by decide +kernel
theorem dX7_holding_1 : decode cX7_holding 1 = .ok (.istore_n 2, 1) := by decide +kernel
theorem dX7_holding_2 : decode cX7_holding 2 = .ok (.iconst 0, 1) := by decide +kernel
theorem dX7_holding_3 : decode cX7_holding 3 = .ok (.istore_n 3, 1) := by decide +kernel
theorem dX7_holding_4 : decode cX7_holding 4 = .ok (.iload_n 3, 1) := by decide +kernel
theorem dX7_holding_5 : decode cX7_holding 5 = .ok (.bipush 82, 2) := by decide +kernel
theorem dX7_holding_7 : decode cX7_holding 7 = .ok (.if_icmp .ge 41, 3) := by decide +kernel
theorem dX7_holding_10 : decode cX7_holding 10 = .ok (.iload_n 2, 1) := by decide +kernel
theorem dX7_holding_11 : decode cX7_holding 11 = .ok (.iload_n 3, 1) := by decide +kernel
theorem dX7_holding_12 : decode cX7_holding 12 = .ok (.invokestatic 40, 3) := by decide +kernel
theorem dX7_holding_15 : decode cX7_holding 15 = .ok (.iload_n 1, 1) := by decide +kernel
theorem dX7_holding_16 : decode cX7_holding 16 = .ok (.if_icmp .eq 11, 3) := by decide +kernel
theorem dX7_holding_19 : decode cX7_holding 19 = .ok (.iload_n 3, 1) := by decide +kernel
theorem dX7_holding_20 : decode cX7_holding 20 = .ok (.invokestatic 48, 3) := by decide +kernel
theorem dX7_holding_23 : decode cX7_holding 23 = .ok (.iload_n 1, 1) := by decide +kernel
theorem dX7_holding_24 : decode cX7_holding 24 = .ok (.if_icmp .ne 15, 3) := by decide +kernel
theorem dX7_holding_27 : decode cX7_holding 27 = .ok (.aload_n 0, 1) := by decide +kernel
theorem dX7_holding_28 : decode cX7_holding 28 = .ok (.iload_n 3, 1) := by decide +kernel
theorem dX7_holding_29 : decode cX7_holding 29 = .ok (.invokevirtual 58, 3) := by decide +kernel
theorem dX7_holding_32 : decode cX7_holding 32 = .ok (.ifCond .eq 7, 3) := by decide +kernel
theorem dX7_holding_35 : decode cX7_holding 35 = .ok (.iconst 1, 1) := by decide +kernel
theorem dX7_holding_36 : decode cX7_holding 36 = .ok (.goto 4, 3) := by decide +kernel
theorem dX7_holding_39 : decode cX7_holding 39 = .ok (.iconst 0, 1) := by decide +kernel
theorem dX7_holding_40 : decode cX7_holding 40 = .ok (.iadd, 1) := by decide +kernel
theorem dX7_holding_41 : decode cX7_holding 41 = .ok (.istore_n 2, 1) := by decide +kernel
theorem dX7_holding_42 : decode cX7_holding 42 = .ok (.iinc 3 1, 3) := by decide +kernel
theorem dX7_holding_45 : decode cX7_holding 45 = .ok (.goto (-41), 3) := by decide +kernel
theorem dX7_holding_48 : decode cX7_holding 48 = .ok (.iload_n 2, 1) := by decide +kernel
theorem dX7_holding_49 : decode cX7_holding 49 = .ok (.ireturn, 1) := by decide +kernel
set_option maxRecDepth 20000 in
theorem ggX7_cell_X7_isCell : GoodIn wsX7_cell wsX7_isCell := goodIn_r _ [4, 5, 6, 3, 7] (by decide +kernel) (by decide +kernel)
set_option maxRecDepth 20000 in
theorem gX7_cell_X7_isCell : GoodIn wsX7_cell (va_wsS RX7 138 yX7_isCell wsX7_isCell) := goodIn_app (goodIn_of _ (by decide +kernel)) ggX7_cell_X7_isCell
set_option maxRecDepth 20000 in
theorem ggX7_cell_X7_isGone : GoodIn wsX7_cell wsX7_isGone := goodIn_r _ [11, 12, 44, 45, 46, 47, 48, 49, 50, 51, 52] (by decide +kernel) (by decide +kernel)
set_option maxRecDepth 20000 in
theorem gX7_cell_X7_isGone : GoodIn wsX7_cell (wsV RX7 44 RX7 yX7_isGone wsX7_isGone) := goodIn_app (goodIn_of _ (by decide +kernel)) ggX7_cell_X7_isGone
set_option maxRecDepth 20000 in
theorem ggX7_cell_X7_pieceOf : GoodIn wsX7_cell wsX7_pieceOf := goodIn_r _ [16, 17, 18, 19, 20, 3, 21, 12, 8, 9, 10, 11, 22, 23, 24, 25, 26, 27, 28, 29, 30, 31, 32, 33, 34, 35, 36, 37, 38, 39, 44, 45, 46, 47, 48, 49, 50, 51, 52] (by decide +kernel) (by decide +kernel)
set_option maxRecDepth 20000 in
theorem gX7_cell_X7_pieceOf : GoodIn wsX7_cell (wsV RX7 141 RX7 yX7_pieceOf wsX7_pieceOf) := goodIn_app (goodIn_of _ (by decide +kernel)) ggX7_cell_X7_pieceOf
set_option maxRecDepth 20000 in
theorem ggX7_cell_X7_holding : GoodIn wsX7_cell wsX7_holding := goodIn_r _ [43, 30, 31, 3, 32, 33, 34, 35, 22, 23, 24, 25, 12, 26, 27, 28, 29, 8, 9, 10, 11, 44, 45, 46, 47, 48, 49, 50, 51, 52] (by decide +kernel) (by decide +kernel)
set_option maxRecDepth 20000 in
theorem gX7_cell_X7_holding : GoodIn wsX7_cell (wsV RX7 144 RX7 yX7_holding wsX7_holding) := goodIn_app (goodIn_of _ (by decide +kernel)) ggX7_cell_X7_holding
theorem dX7_cell_0 : decode cX7_cell 0 = .ok (.iload_n 1, 1) := by decide +kernel
theorem dX7_cell_1 : decode cX7_cell 1 = .ok (.invokestatic 138, 3) := by decide +kernel
theorem dX7_cell_4 : decode cX7_cell 4 = .ok (.ifCond .ne 5, 3) := by decide +kernel
theorem dX7_cell_7 : decode cX7_cell 7 = .ok (.iconst (-1), 1) := by decide +kernel
theorem dX7_cell_8 : decode cX7_cell 8 = .ok (.ireturn, 1) := by decide +kernel
theorem dX7_cell_9 : decode cX7_cell 9 = .ok (.iload_n 2, 1) := by decide +kernel
theorem dX7_cell_10 : decode cX7_cell 10 = .ok (.tableswitch 57 0 3 #[30, 44, 44, 51], 30) := by decide +kernel
theorem dX7_cell_40 : decode cX7_cell 40 = .ok (.aload_n 0, 1) := by decide +kernel
theorem dX7_cell_41 : decode cX7_cell 41 = .ok (.iload_n 1, 1) := by decide +kernel
theorem dX7_cell_42 : decode cX7_cell 42 = .ok (.invokevirtual 44, 3) := by decide +kernel
theorem dX7_cell_45 : decode cX7_cell 45 = .ok (.ifCond .eq 7, 3) := by decide +kernel
theorem dX7_cell_48 : decode cX7_cell 48 = .ok (.iconst 1, 1) := by decide +kernel
theorem dX7_cell_49 : decode cX7_cell 49 = .ok (.goto 4, 3) := by decide +kernel
theorem dX7_cell_52 : decode cX7_cell 52 = .ok (.iconst 0, 1) := by decide +kernel
theorem dX7_cell_53 : decode cX7_cell 53 = .ok (.ireturn, 1) := by decide +kernel
theorem dX7_cell_54 : decode cX7_cell 54 = .ok (.aload_n 0, 1) := by decide +kernel
theorem dX7_cell_55 : decode cX7_cell 55 = .ok (.iload_n 1, 1) := by decide +kernel
theorem dX7_cell_56 : decode cX7_cell 56 = .ok (.iload_n 2, 1) := by decide +kernel
theorem dX7_cell_57 : decode cX7_cell 57 = .ok (.invokevirtual 141, 3) := by decide +kernel
theorem dX7_cell_60 : decode cX7_cell 60 = .ok (.ireturn, 1) := by decide +kernel
theorem dX7_cell_61 : decode cX7_cell 61 = .ok (.aload_n 0, 1) := by decide +kernel
theorem dX7_cell_62 : decode cX7_cell 62 = .ok (.iload_n 1, 1) := by decide +kernel
theorem dX7_cell_63 : decode cX7_cell 63 = .ok (.invokevirtual 144, 3) := by decide +kernel
theorem dX7_cell_66 : decode cX7_cell 66 = .ok (.ireturn, 1) := by decide +kernel
theorem dX7_cell_67 : decode cX7_cell 67 = .ok (.bipush (-2), 2) := by decide +kernel
theorem dX7_cell_69 : decode cX7_cell 69 = .ok (.ireturn, 1) := by decide +kernel
set_option maxRecDepth 20000 in
theorem ggX7_player_X7_in : GoodIn wsX7_player wsX7_in := goodIn_r _ [5] (by decide +kernel) (by decide +kernel)
set_option maxRecDepth 20000 in
theorem gX7_player_X7_in : GoodIn wsX7_player (va_wsS RX7 36 yX7_in wsX7_in) := goodIn_app (goodIn_of _ (by decide +kernel)) ggX7_player_X7_in
set_option maxRecDepth 20000 in
theorem ggX7_player_X7_at : GoodIn wsX7_player wsX7_at := goodIn_r _ [8] (by decide +kernel) (by decide +kernel)
set_option maxRecDepth 20000 in
theorem gX7_player_X7_at : GoodIn wsX7_player (va_wsS RX7 32 yX7_at wsX7_at) := goodIn_app (goodIn_of _ (by decide +kernel)) ggX7_player_X7_at
theorem dX7_player_0 : decode cX7_player 0 = .ok (.iload_n 1, 1) := by decide +kernel
theorem dX7_player_1 : decode cX7_player 1 = .ok (.iconst 0, 1) := by decide +kernel
theorem dX7_player_2 : decode cX7_player 2 = .ok (.iconst 1, 1) := by decide +kernel
theorem dX7_player_3 : decode cX7_player 3 = .ok (.invokestatic 36, 3) := by decide +kernel
theorem dX7_player_6 : decode cX7_player 6 = .ok (.ifCond .ne 5, 3) := by decide +kernel
theorem dX7_player_9 : decode cX7_player 9 = .ok (.iconst (-1), 1) := by decide +kernel
theorem dX7_player_10 : decode cX7_player 10 = .ok (.ireturn, 1) := by decide +kernel
theorem dX7_player_11 : decode cX7_player 11 = .ok (.iload_n 2, 1) := by decide +kernel
theorem dX7_player_12 : decode cX7_player 12 = .ok (.ifCond .ne 20, 3) := by decide +kernel
theorem dX7_player_15 : decode cX7_player 15 = .ok (.sipush 500, 3) := by decide +kernel
theorem dX7_player_18 : decode cX7_player 18 = .ok (.aload_n 0, 1) := by decide +kernel
theorem dX7_player_19 : decode cX7_player 19 = .ok (.getfield 7, 3) := by decide +kernel
theorem dX7_player_22 : decode cX7_player 22 = .ok (.iload_n 1, 1) := by decide +kernel
theorem dX7_player_23 : decode cX7_player 23 = .ok (.iconst 0, 1) := by decide +kernel
theorem dX7_player_24 : decode cX7_player 24 = .ok (.invokestatic 32, 3) := by decide +kernel
theorem dX7_player_27 : decode cX7_player 27 = .ok (.iaload, 1) := by decide +kernel
theorem dX7_player_28 : decode cX7_player 28 = .ok (.iadd, 1) := by decide +kernel
theorem dX7_player_29 : decode cX7_player 29 = .ok (.goto 28, 3) := by decide +kernel
theorem dX7_player_32 : decode cX7_player 32 = .ok (.iload_n 2, 1) := by decide +kernel
theorem dX7_player_33 : decode cX7_player 33 = .ok (.iconst 1, 1) := by decide +kernel
theorem dX7_player_34 : decode cX7_player 34 = .ok (.bipush 7, 2) := by decide +kernel
theorem dX7_player_36 : decode cX7_player 36 = .ok (.invokestatic 36, 3) := by decide +kernel
theorem dX7_player_39 : decode cX7_player 39 = .ok (.ifCond .eq 16, 3) := by decide +kernel
theorem dX7_player_42 : decode cX7_player 42 = .ok (.aload_n 0, 1) := by decide +kernel
theorem dX7_player_43 : decode cX7_player 43 = .ok (.getfield 7, 3) := by decide +kernel
theorem dX7_player_46 : decode cX7_player 46 = .ok (.iload_n 1, 1) := by decide +kernel
theorem dX7_player_47 : decode cX7_player 47 = .ok (.iload_n 2, 1) := by decide +kernel
theorem dX7_player_48 : decode cX7_player 48 = .ok (.invokestatic 32, 3) := by decide +kernel
theorem dX7_player_51 : decode cX7_player 51 = .ok (.iaload, 1) := by decide +kernel
theorem dX7_player_52 : decode cX7_player 52 = .ok (.goto 5, 3) := by decide +kernel
theorem dX7_player_55 : decode cX7_player 55 = .ok (.bipush (-2), 2) := by decide +kernel
theorem dX7_player_57 : decode cX7_player 57 = .ok (.ireturn, 1) := by decide +kernel
set_option maxRecDepth 20000 in
theorem ggX7_chalked_X7_in : GoodIn wsX7_chalked wsX7_in := goodIn_r _ [5] (by decide +kernel) (by decide +kernel)
set_option maxRecDepth 20000 in
theorem gX7_chalked_X7_in : GoodIn wsX7_chalked (va_wsS RX7 36 yX7_in wsX7_in) := goodIn_app (goodIn_of _ (by decide +kernel)) ggX7_chalked_X7_in
set_option maxRecDepth 20000 in
theorem ggX7_chalked_X7_at : GoodIn wsX7_chalked wsX7_at := goodIn_r _ [8] (by decide +kernel) (by decide +kernel)
set_option maxRecDepth 20000 in
theorem gX7_chalked_X7_at : GoodIn wsX7_chalked (va_wsS RX7 32 yX7_at wsX7_at) := goodIn_app (goodIn_of _ (by decide +kernel)) ggX7_chalked_X7_at
set_option maxRecDepth 20000 in
theorem ggX7_chalked_X7_chalkAt : GoodIn wsX7_chalked wsX7_chalkAt := goodIn_r _ [12, 1, 6, 7, 4, 8, 13, 14, 15, 16, 17, 18, 19, 20, 21] (by decide +kernel) (by decide +kernel)
set_option maxRecDepth 20000 in
theorem gX7_chalked_X7_chalkAt : GoodIn wsX7_chalked (wsV RX7 75 RX7 yX7_chalkAt wsX7_chalkAt) := goodIn_app (goodIn_of _ (by decide +kernel)) ggX7_chalked_X7_chalkAt
theorem dX7_chalked_0 : decode cX7_chalked 0 = .ok (.iload_n 1, 1) := by decide +kernel
theorem dX7_chalked_1 : decode cX7_chalked 1 = .ok (.iconst 0, 1) := by decide +kernel
theorem dX7_chalked_2 : decode cX7_chalked 2 = .ok (.iconst 1, 1) := by decide +kernel
theorem dX7_chalked_3 : decode cX7_chalked 3 = .ok (.invokestatic 36, 3) := by decide +kernel
theorem dX7_chalked_6 : decode cX7_chalked 6 = .ok (.ifCond .eq 32, 3) := by decide +kernel
theorem dX7_chalked_9 : decode cX7_chalked 9 = .ok (.iload_n 2, 1) := by decide +kernel
theorem dX7_chalked_10 : decode cX7_chalked 10 = .ok (.iconst 0, 1) := by decide +kernel
theorem dX7_chalked_11 : decode cX7_chalked 11 = .ok (.aload_n 0, 1) := by decide +kernel
theorem dX7_chalked_12 : decode cX7_chalked 12 = .ok (.getfield 7, 3) := by decide +kernel
theorem dX7_chalked_15 : decode cX7_chalked 15 = .ok (.iload_n 1, 1) := by decide +kernel
theorem dX7_chalked_16 : decode cX7_chalked 16 = .ok (.iconst 2, 1) := by decide +kernel
theorem dX7_chalked_17 : decode cX7_chalked 17 = .ok (.invokestatic 32, 3) := by decide +kernel
theorem dX7_chalked_20 : decode cX7_chalked 20 = .ok (.iaload, 1) := by decide +kernel
theorem dX7_chalked_21 : decode cX7_chalked 21 = .ok (.iconst 1, 1) := by decide +kernel
theorem dX7_chalked_22 : decode cX7_chalked 22 = .ok (.isub, 1) := by decide +kernel
theorem dX7_chalked_23 : decode cX7_chalked 23 = .ok (.invokestatic 36, 3) := by decide +kernel
theorem dX7_chalked_26 : decode cX7_chalked 26 = .ok (.ifCond .eq 12, 3) := by decide +kernel
theorem dX7_chalked_29 : decode cX7_chalked 29 = .ok (.aload_n 0, 1) := by decide +kernel
theorem dX7_chalked_30 : decode cX7_chalked 30 = .ok (.iload_n 1, 1) := by decide +kernel
theorem dX7_chalked_31 : decode cX7_chalked 31 = .ok (.iload_n 2, 1) := by decide +kernel
theorem dX7_chalked_32 : decode cX7_chalked 32 = .ok (.invokevirtual 75, 3) := by decide +kernel
theorem dX7_chalked_35 : decode cX7_chalked 35 = .ok (.goto 4, 3) := by decide +kernel
theorem dX7_chalked_38 : decode cX7_chalked 38 = .ok (.iconst (-1), 1) := by decide +kernel
theorem dX7_chalked_39 : decode cX7_chalked 39 = .ok (.ireturn, 1) := by decide +kernel
set_option maxRecDepth 20000 in
theorem ggX7_pieces_X7_layPieces : GoodIn wsX7_pieces wsX7_layPieces := goodIn_r _ [6, 1, 7, 8, 9, 10, 5, 11, 12, 13, 14, 15, 16, 17, 18, 19, 20, 21, 22, 23, 24, 25, 26, 27, 28, 29, 30, 31, 32, 33, 34] (by decide +kernel) (by decide +kernel)
set_option maxRecDepth 20000 in
theorem gX7_pieces_X7_layPieces : GoodIn wsX7_pieces (wsV RX7 61 RX7 yX7_layPieces wsX7_layPieces) := goodIn_app (goodIn_of _ (by decide +kernel)) ggX7_pieces_X7_layPieces
theorem dX7_pieces_0 : decode cX7_pieces 0 = .ok (.aload_n 0, 1) := by decide +kernel
theorem dX7_pieces_1 : decode cX7_pieces 1 = .ok (.bipush (-6), 2) := by decide +kernel
theorem dX7_pieces_3 : decode cX7_pieces 3 = .ok (.iconst 0, 1) := by decide +kernel
theorem dX7_pieces_4 : decode cX7_pieces 4 = .ok (.invokevirtual 61, 3) := by decide +kernel
theorem dX7_pieces_7 : decode cX7_pieces 7 = .ok (.iconst 0, 1) := by decide +kernel
theorem dX7_pieces_8 : decode cX7_pieces 8 = .ok (.istore_n 1, 1) := by decide +kernel
theorem dX7_pieces_9 : decode cX7_pieces 9 = .ok (.iconst 0, 1) := by decide +kernel
theorem dX7_pieces_10 : decode cX7_pieces 10 = .ok (.istore_n 2, 1) := by decide +kernel
theorem dX7_pieces_11 : decode cX7_pieces 11 = .ok (.iload_n 2, 1) := by decide +kernel
theorem dX7_pieces_12 : decode cX7_pieces 12 = .ok (.bipush 48, 2) := by decide +kernel
theorem dX7_pieces_14 : decode cX7_pieces 14 = .ok (.if_icmp .ge 27, 3) := by decide +kernel
theorem dX7_pieces_17 : decode cX7_pieces 17 = .ok (.iload_n 1, 1) := by decide +kernel
theorem dX7_pieces_18 : decode cX7_pieces 18 = .ok (.aload_n 0, 1) := by decide +kernel
theorem dX7_pieces_19 : decode cX7_pieces 19 = .ok (.getfield 29, 3) := by decide +kernel
theorem dX7_pieces_22 : decode cX7_pieces 22 = .ok (.iload_n 2, 1) := by decide +kernel
theorem dX7_pieces_23 : decode cX7_pieces 23 = .ok (.iaload, 1) := by decide +kernel
theorem dX7_pieces_24 : decode cX7_pieces 24 = .ok (.iload_n 2, 1) := by decide +kernel
theorem dX7_pieces_25 : decode cX7_pieces 25 = .ok (.if_icmp .ne 7, 3) := by decide +kernel
theorem dX7_pieces_28 : decode cX7_pieces 28 = .ok (.iconst 1, 1) := by decide +kernel
theorem dX7_pieces_29 : decode cX7_pieces 29 = .ok (.goto 4, 3) := by decide +kernel
theorem dX7_pieces_32 : decode cX7_pieces 32 = .ok (.iconst 0, 1) := by decide +kernel
theorem dX7_pieces_33 : decode cX7_pieces 33 = .ok (.iadd, 1) := by decide +kernel
theorem dX7_pieces_34 : decode cX7_pieces 34 = .ok (.istore_n 1, 1) := by decide +kernel
theorem dX7_pieces_35 : decode cX7_pieces 35 = .ok (.iinc 2 1, 3) := by decide +kernel
theorem dX7_pieces_38 : decode cX7_pieces 38 = .ok (.goto (-27), 3) := by decide +kernel
theorem dX7_pieces_41 : decode cX7_pieces 41 = .ok (.iload_n 1, 1) := by decide +kernel
theorem dX7_pieces_42 : decode cX7_pieces 42 = .ok (.ireturn, 1) := by decide +kernel
set_option maxRecDepth 20000 in
theorem ggX7_winner_X7_at : GoodIn wsX7_winner wsX7_at := goodIn_r _ [5] (by decide +kernel) (by decide +kernel)
set_option maxRecDepth 20000 in
theorem gX7_winner_X7_at : GoodIn wsX7_winner (va_wsS RX7 32 yX7_at wsX7_at) := goodIn_app (goodIn_of _ (by decide +kernel)) ggX7_winner_X7_at
set_option maxRecDepth 20000 in
theorem ggX7_winner_X7_isOver : GoodIn wsX7_winner wsX7_isOver := goodIn_r _ [9, 1, 10, 11, 12, 4, 13, 14, 15, 16, 17, 18, 19, 20, 21, 22, 23, 24, 25, 26] (by decide +kernel) (by decide +kernel)
set_option maxRecDepth 20000 in
theorem gX7_winner_X7_isOver : GoodIn wsX7_winner (wsV RX7 84 RX7 yX7_isOver wsX7_isOver) := goodIn_app (goodIn_of _ (by decide +kernel)) ggX7_winner_X7_isOver
theorem dX7_winner_0 : decode cX7_winner 0 = .ok (.aload_n 0, 1) := by decide +kernel
theorem dX7_winner_1 : decode cX7_winner 1 = .ok (.getfield 7, 3) := by decide +kernel
theorem dX7_winner_4 : decode cX7_winner 4 = .ok (.iconst 0, 1) := by decide +kernel
theorem dX7_winner_5 : decode cX7_winner 5 = .ok (.iconst 0, 1) := by decide +kernel
theorem dX7_winner_6 : decode cX7_winner 6 = .ok (.invokestatic 32, 3) := by decide +kernel
theorem dX7_winner_9 : decode cX7_winner 9 = .ok (.iaload, 1) := by decide +kernel
theorem dX7_winner_10 : decode cX7_winner 10 = .ok (.aload_n 0, 1) := by decide +kernel
theorem dX7_winner_11 : decode cX7_winner 11 = .ok (.getfield 7, 3) := by decide +kernel
theorem dX7_winner_14 : decode cX7_winner 14 = .ok (.iconst 1, 1) := by decide +kernel
theorem dX7_winner_15 : decode cX7_winner 15 = .ok (.iconst 0, 1) := by decide +kernel
theorem dX7_winner_16 : decode cX7_winner 16 = .ok (.invokestatic 32, 3) := by decide +kernel
theorem dX7_winner_19 : decode cX7_winner 19 = .ok (.iaload, 1) := by decide +kernel
theorem dX7_winner_20 : decode cX7_winner 20 = .ok (.isub, 1) := by decide +kernel
theorem dX7_winner_21 : decode cX7_winner 21 = .ok (.istore_n 1, 1) := by decide +kernel
theorem dX7_winner_22 : decode cX7_winner 22 = .ok (.aload_n 0, 1) := by decide +kernel
theorem dX7_winner_23 : decode cX7_winner 23 = .ok (.invokevirtual 84, 3) := by decide +kernel
theorem dX7_winner_26 : decode cX7_winner 26 = .ok (.ifCond .ne 8, 3) := by decide +kernel
theorem dX7_winner_29 : decode cX7_winner 29 = .ok (.bipush (-6), 2) := by decide +kernel
theorem dX7_winner_31 : decode cX7_winner 31 = .ok (.goto 20, 3) := by decide +kernel
theorem dX7_winner_34 : decode cX7_winner 34 = .ok (.iload_n 1, 1) := by decide +kernel
theorem dX7_winner_35 : decode cX7_winner 35 = .ok (.ifCond .le 7, 3) := by decide +kernel
theorem dX7_winner_38 : decode cX7_winner 38 = .ok (.iconst 0, 1) := by decide +kernel
theorem dX7_winner_39 : decode cX7_winner 39 = .ok (.goto 12, 3) := by decide +kernel
theorem dX7_winner_42 : decode cX7_winner 42 = .ok (.iload_n 1, 1) := by decide +kernel
theorem dX7_winner_43 : decode cX7_winner 43 = .ok (.ifCond .ge 7, 3) := by decide +kernel
theorem dX7_winner_46 : decode cX7_winner 46 = .ok (.iconst 1, 1) := by decide +kernel
theorem dX7_winner_47 : decode cX7_winner 47 = .ok (.goto 4, 3) := by decide +kernel
theorem dX7_winner_50 : decode cX7_winner 50 = .ok (.iconst 2, 1) := by decide +kernel
theorem dX7_winner_51 : decode cX7_winner 51 = .ok (.ireturn, 1) := by decide +kernel
set_option maxRecDepth 20000 in
theorem ggX7_count_X7_isOver : GoodIn wsX7_count wsX7_isOver := goodIn_r _ [8, 1, 9, 10, 11, 7, 12, 13, 14, 15, 16, 51, 52, 53, 54, 55, 56, 57, 58, 59] (by decide +kernel) (by decide +kernel)
set_option maxRecDepth 20000 in
theorem gX7_count_X7_isOver : GoodIn wsX7_count (wsV RX7 84 RX7 yX7_isOver wsX7_isOver) := goodIn_app (goodIn_of _ (by decide +kernel)) ggX7_count_X7_isOver
set_option maxRecDepth 20000 in
theorem ggX7_count_X7_winner : GoodIn wsX7_count wsX7_winner := goodIn_r _ [20, 1, 21, 22, 7, 23, 4, 5, 6, 8, 9, 10, 11, 12, 13, 14, 15, 16, 51, 52, 53, 54, 55, 56, 57, 58, 59] (by decide +kernel) (by decide +kernel)
set_option maxRecDepth 20000 in
theorem gX7_count_X7_winner : GoodIn wsX7_count (wsV RX7 147 RX7 yX7_winner wsX7_winner) := goodIn_app (goodIn_of _ (by decide +kernel)) ggX7_count_X7_winner
set_option maxRecDepth 20000 in
theorem ggX7_count_X7_left : GoodIn wsX7_count wsX7_left := goodIn_r _ [12, 13, 14, 15, 7, 16, 1, 51, 52, 53, 54, 55, 56, 57, 58, 59] (by decide +kernel) (by decide +kernel)
set_option maxRecDepth 20000 in
theorem gX7_count_X7_left : GoodIn wsX7_count (wsV RX7 71 RX7 yX7_left wsX7_left) := goodIn_app (goodIn_of _ (by decide +kernel)) ggX7_count_X7_left
set_option maxRecDepth 20000 in
theorem ggX7_count_X7_pieces : GoodIn wsX7_count wsX7_pieces := goodIn_r _ [27, 28, 29, 30, 31, 7, 32, 1, 13, 14, 15, 16, 33, 34, 35, 36, 37, 38, 39, 40, 41, 42, 43, 44, 45, 46, 51, 52, 53, 54, 55, 56, 57, 58, 59] (by decide +kernel) (by decide +kernel)
set_option maxRecDepth 20000 in
theorem gX7_count_X7_pieces : GoodIn wsX7_count (wsV RX7 150 RX7 yX7_pieces wsX7_pieces) := goodIn_app (goodIn_of _ (by decide +kernel)) ggX7_count_X7_pieces
set_option maxRecDepth 20000 in
theorem ggX7_count_X7_many : GoodIn wsX7_count wsX7_many := goodIn_r _ [50, 1, 37, 38, 39, 7, 40, 41, 42, 43, 13, 14, 15, 16, 44, 45, 46, 51, 52, 53, 54, 55, 56, 57, 58, 59] (by decide +kernel) (by decide +kernel)
set_option maxRecDepth 20000 in
theorem gX7_count_X7_many : GoodIn wsX7_count (wsV RX7 105 RX7 yX7_many wsX7_many) := goodIn_app (goodIn_of _ (by decide +kernel)) ggX7_count_X7_many
theorem dX7_count_0 : decode cX7_count 0 = .ok (.iload_n 1, 1) := by decide +kernel
theorem dX7_count_1 : decode cX7_count 1 = .ok (.tableswitch 116 0 10 #[59, 59, 70, 83, 88, 93, 98, 98, 98, 106, 111], 59) := by decide +kernel
theorem dX7_count_60 : decode cX7_count 60 = .ok (.aload_n 0, 1) := by decide +kernel
theorem dX7_count_61 : decode cX7_count 61 = .ok (.getfield 7, 3) := by decide +kernel
theorem dX7_count_64 : decode cX7_count 64 = .ok (.sipush 244, 3) := by decide +kernel
theorem dX7_count_67 : decode cX7_count 67 = .ok (.iload_n 1, 1) := by decide +kernel
theorem dX7_count_68 : decode cX7_count 68 = .ok (.iadd, 1) := by decide +kernel
theorem dX7_count_69 : decode cX7_count 69 = .ok (.iaload, 1) := by decide +kernel
theorem dX7_count_70 : decode cX7_count 70 = .ok (.ireturn, 1) := by decide +kernel
theorem dX7_count_71 : decode cX7_count 71 = .ok (.aload_n 0, 1) := by decide +kernel
theorem dX7_count_72 : decode cX7_count 72 = .ok (.invokevirtual 84, 3) := by decide +kernel
theorem dX7_count_75 : decode cX7_count 75 = .ok (.ifCond .eq 7, 3) := by decide +kernel
theorem dX7_count_78 : decode cX7_count 78 = .ok (.iconst 1, 1) := by decide +kernel
theorem dX7_count_79 : decode cX7_count 79 = .ok (.goto 4, 3) := by decide +kernel
theorem dX7_count_82 : decode cX7_count 82 = .ok (.iconst 0, 1) := by decide +kernel
theorem dX7_count_83 : decode cX7_count 83 = .ok (.ireturn, 1) := by decide +kernel
theorem dX7_count_84 : decode cX7_count 84 = .ok (.aload_n 0, 1) := by decide +kernel
theorem dX7_count_85 : decode cX7_count 85 = .ok (.invokevirtual 147, 3) := by decide +kernel
theorem dX7_count_88 : decode cX7_count 88 = .ok (.ireturn, 1) := by decide +kernel
theorem dX7_count_89 : decode cX7_count 89 = .ok (.aload_n 0, 1) := by decide +kernel
theorem dX7_count_90 : decode cX7_count 90 = .ok (.invokevirtual 71, 3) := by decide +kernel
theorem dX7_count_93 : decode cX7_count 93 = .ok (.ireturn, 1) := by decide +kernel
theorem dX7_count_94 : decode cX7_count 94 = .ok (.aload_n 0, 1) := by decide +kernel
theorem dX7_count_95 : decode cX7_count 95 = .ok (.invokevirtual 150, 3) := by decide +kernel
theorem dX7_count_98 : decode cX7_count 98 = .ok (.ireturn, 1) := by decide +kernel
theorem dX7_count_99 : decode cX7_count 99 = .ok (.aload_n 0, 1) := by decide +kernel
theorem dX7_count_100 : decode cX7_count 100 = .ok (.iload_n 1, 1) := by decide +kernel
theorem dX7_count_101 : decode cX7_count 101 = .ok (.iconst 5, 1) := by decide +kernel
theorem dX7_count_102 : decode cX7_count 102 = .ok (.isub, 1) := by decide +kernel
theorem dX7_count_103 : decode cX7_count 103 = .ok (.invokevirtual 105, 3) := by decide +kernel
theorem dX7_count_106 : decode cX7_count 106 = .ok (.ireturn, 1) := by decide +kernel
theorem dX7_count_107 : decode cX7_count 107 = .ok (.aload_n 0, 1) := by decide +kernel
theorem dX7_count_108 : decode cX7_count 108 = .ok (.getfield 153, 3) := by decide +kernel
theorem dX7_count_111 : decode cX7_count 111 = .ok (.ireturn, 1) := by decide +kernel
theorem dX7_count_112 : decode cX7_count 112 = .ok (.aload_n 0, 1) := by decide +kernel
theorem dX7_count_113 : decode cX7_count 113 = .ok (.getfield 54, 3) := by decide +kernel
theorem dX7_count_116 : decode cX7_count 116 = .ok (.ireturn, 1) := by decide +kernel
theorem dX7_count_117 : decode cX7_count 117 = .ok (.bipush (-2), 2) := by decide +kernel
theorem dX7_count_119 : decode cX7_count 119 = .ok (.ireturn, 1) := by decide +kernel
set_option maxRecDepth 20000 in
theorem ggX7_why_X7_isJoint : GoodIn wsX7_why wsX7_isJoint := goodIn_r _ [4, 5, 6, 3, 7] (by decide +kernel) (by decide +kernel)
set_option maxRecDepth 20000 in
theorem gX7_why_X7_isJoint : GoodIn wsX7_why (va_wsS RX7 81 yX7_isJoint wsX7_isJoint) := goodIn_app (goodIn_of _ (by decide +kernel)) ggX7_why_X7_isJoint
set_option maxRecDepth 20000 in
theorem ggX7_why_X7_reason : GoodIn wsX7_why wsX7_reason := goodIn_r _ [11, 12, 13, 14, 15, 3, 16, 17, 18, 19, 20, 21, 22, 23, 24, 25, 26, 27, 28, 29, 30, 31, 32, 33, 34, 35, 36, 37, 38, 39, 40, 41, 42, 43] (by decide +kernel) (by decide +kernel)
set_option maxRecDepth 20000 in
theorem gX7_why_X7_reason : GoodIn wsX7_why (wsV RX7 95 RX7 yX7_reason wsX7_reason) := goodIn_app (goodIn_of _ (by decide +kernel)) ggX7_why_X7_reason
theorem dX7_why_0 : decode cX7_why 0 = .ok (.iload_n 1, 1) := by decide +kernel
theorem dX7_why_1 : decode cX7_why 1 = .ok (.invokestatic 81, 3) := by decide +kernel
theorem dX7_why_4 : decode cX7_why 4 = .ok (.ifCond .eq 11, 3) := by decide +kernel
theorem dX7_why_7 : decode cX7_why 7 = .ok (.aload_n 0, 1) := by decide +kernel
theorem dX7_why_8 : decode cX7_why 8 = .ok (.iload_n 1, 1) := by decide +kernel
theorem dX7_why_9 : decode cX7_why 9 = .ok (.invokevirtual 95, 3) := by decide +kernel
theorem dX7_why_12 : decode cX7_why 12 = .ok (.goto 4, 3) := by decide +kernel
theorem dX7_why_15 : decode cX7_why 15 = .ok (.iconst (-1), 1) := by decide +kernel
theorem dX7_why_16 : decode cX7_why 16 = .ok (.ireturn, 1) := by decide +kernel
set_option maxRecDepth 20000 in
theorem ggX7_ifSnipped_X7_isJoint : GoodIn wsX7_ifSnipped wsX7_isJoint := goodIn_r _ [4, 5, 6, 3, 7] (by decide +kernel) (by decide +kernel)
set_option maxRecDepth 20000 in
theorem gX7_ifSnipped_X7_isJoint : GoodIn wsX7_ifSnipped (va_wsS RX7 81 yX7_isJoint wsX7_isJoint) := goodIn_app (goodIn_of _ (by decide +kernel)) ggX7_ifSnipped_X7_isJoint
set_option maxRecDepth 20000 in
theorem ggX7_ifSnipped_X7_reason : GoodIn wsX7_ifSnipped wsX7_reason := goodIn_r _ [11, 12, 13, 14, 15, 3, 16, 17, 18, 19, 20, 21, 22, 23, 24, 25, 26, 27, 28, 29, 30, 31, 32, 33, 34, 56, 57, 58, 59, 60, 61, 62, 63, 64] (by decide +kernel) (by decide +kernel)
set_option maxRecDepth 20000 in
theorem gX7_ifSnipped_X7_reason : GoodIn wsX7_ifSnipped (wsV RX7 95 RX7 yX7_reason wsX7_reason) := goodIn_app (goodIn_of _ (by decide +kernel)) ggX7_ifSnipped_X7_reason
set_option maxRecDepth 20000 in
theorem ggX7_ifSnipped_X7_cellsBy : GoodIn wsX7_ifSnipped wsX7_cellsBy := goodIn_r _ [38, 39, 40, 41, 3, 42, 43, 44, 45, 46, 47, 12, 21, 22, 23, 24, 48, 49, 50, 51, 25, 26, 27, 28, 29, 30, 31, 32, 33, 34, 52, 53, 54, 55, 56, 57, 58, 59, 60, 61, 62, 63, 64] (by decide +kernel) (by decide +kernel)
set_option maxRecDepth 20000 in
theorem gX7_ifSnipped_X7_cellsBy : GoodIn wsX7_ifSnipped (wsV RX7 156 RX7 yX7_cellsBy wsX7_cellsBy) := goodIn_app (goodIn_of _ (by decide +kernel)) ggX7_ifSnipped_X7_cellsBy
theorem dX7_ifSnipped_0 : decode cX7_ifSnipped 0 = .ok (.iload_n 1, 1) := by decide +kernel
theorem dX7_ifSnipped_1 : decode cX7_ifSnipped 1 = .ok (.invokestatic 81, 3) := by decide +kernel
theorem dX7_ifSnipped_4 : decode cX7_ifSnipped 4 = .ok (.ifCond .ne 7, 3) := by decide +kernel
theorem dX7_ifSnipped_7 : decode cX7_ifSnipped 7 = .ok (.iconst (-1), 1) := by decide +kernel
theorem dX7_ifSnipped_8 : decode cX7_ifSnipped 8 = .ok (.goto 21, 3) := by decide +kernel
theorem dX7_ifSnipped_11 : decode cX7_ifSnipped 11 = .ok (.aload_n 0, 1) := by decide +kernel
theorem dX7_ifSnipped_12 : decode cX7_ifSnipped 12 = .ok (.iload_n 1, 1) := by decide +kernel
theorem dX7_ifSnipped_13 : decode cX7_ifSnipped 13 = .ok (.invokevirtual 95, 3) := by decide +kernel
theorem dX7_ifSnipped_16 : decode cX7_ifSnipped 16 = .ok (.ifCond .le 8, 3) := by decide +kernel
theorem dX7_ifSnipped_19 : decode cX7_ifSnipped 19 = .ok (.bipush (-5), 2) := by decide +kernel
theorem dX7_ifSnipped_21 : decode cX7_ifSnipped 21 = .ok (.goto 8, 3) := by decide +kernel
theorem dX7_ifSnipped_24 : decode cX7_ifSnipped 24 = .ok (.aload_n 0, 1) := by decide +kernel
theorem dX7_ifSnipped_25 : decode cX7_ifSnipped 25 = .ok (.iload_n 1, 1) := by decide +kernel
theorem dX7_ifSnipped_26 : decode cX7_ifSnipped 26 = .ok (.invokevirtual 156, 3) := by decide +kernel
theorem dX7_ifSnipped_29 : decode cX7_ifSnipped 29 = .ok (.ireturn, 1) := by decide +kernel
set_option maxRecDepth 20000 in
theorem ggX7_bestSnip_X7_in : GoodIn wsX7_bestSnip wsX7_in := goodIn_r _ [5] (by decide +kernel) (by decide +kernel)
set_option maxRecDepth 20000 in
theorem gX7_bestSnip_X7_in : GoodIn wsX7_bestSnip (va_wsS RX7 36 yX7_in wsX7_in) := goodIn_app (goodIn_of _ (by decide +kernel)) ggX7_bestSnip_X7_in
set_option maxRecDepth 20000 in
theorem ggX7_bestSnip_X7_reason : GoodIn wsX7_bestSnip wsX7_reason := goodIn_r _ [9, 1, 10, 11, 12, 4, 13, 14, 15, 16, 17, 18, 19, 20, 21, 22, 23, 24, 25, 26, 27, 28, 29, 30, 31, 68, 69, 70, 71, 72, 73, 74, 75, 76] (by decide +kernel) (by decide +kernel)
set_option maxRecDepth 20000 in
theorem gX7_bestSnip_X7_reason : GoodIn wsX7_bestSnip (wsV RX7 95 RX7 yX7_reason wsX7_reason) := goodIn_app (goodIn_of _ (by decide +kernel)) ggX7_bestSnip_X7_reason
set_option maxRecDepth 20000 in
theorem ggX7_bestSnip_X7_cellsBy : GoodIn wsX7_bestSnip wsX7_cellsBy := goodIn_r _ [35, 36, 37, 38, 4, 39, 40, 41, 42, 43, 44, 1, 18, 19, 20, 21, 45, 46, 47, 48, 22, 23, 24, 25, 26, 27, 28, 29, 30, 31, 49, 50, 51, 52, 68, 69, 70, 71, 72, 73, 74, 75, 76] (by decide +kernel) (by decide +kernel)
set_option maxRecDepth 20000 in
theorem gX7_bestSnip_X7_cellsBy : GoodIn wsX7_bestSnip (wsV RX7 156 RX7 yX7_cellsBy wsX7_cellsBy) := goodIn_app (goodIn_of _ (by decide +kernel)) ggX7_bestSnip_X7_cellsBy
set_option maxRecDepth 20000 in
theorem ggX7_bestSnip_X7_hasChalk : GoodIn wsX7_bestSnip wsX7_hasChalk := goodIn_r _ [56, 57, 58, 59, 4, 60, 1, 61, 62, 63, 64, 65, 66, 67, 68, 69, 70, 71, 72, 73, 74, 75, 76] (by decide +kernel) (by decide +kernel)
set_option maxRecDepth 20000 in
theorem gX7_bestSnip_X7_hasChalk : GoodIn wsX7_bestSnip (wsV RX7 88 RX7 yX7_hasChalk wsX7_hasChalk) := goodIn_app (goodIn_of _ (by decide +kernel)) ggX7_bestSnip_X7_hasChalk
theorem dX7_bestSnip_0 : decode cX7_bestSnip 0 = .ok (.iload_n 1, 1) := by decide +kernel
theorem dX7_bestSnip_1 : decode cX7_bestSnip 1 = .ok (.iconst 0, 1) := by decide +kernel
theorem dX7_bestSnip_2 : decode cX7_bestSnip 2 = .ok (.iconst 1, 1) := by decide +kernel
theorem dX7_bestSnip_3 : decode cX7_bestSnip 3 = .ok (.invokestatic 36, 3) := by decide +kernel
theorem dX7_bestSnip_6 : decode cX7_bestSnip 6 = .ok (.ifCond .ne 6, 3) := by decide +kernel
theorem dX7_bestSnip_9 : decode cX7_bestSnip 9 = .ok (.bipush (-2), 2) := by decide +kernel
theorem dX7_bestSnip_11 : decode cX7_bestSnip 11 = .ok (.ireturn, 1) := by decide +kernel
theorem dX7_bestSnip_12 : decode cX7_bestSnip 12 = .ok (.bipush (-6), 2) := by decide +kernel
theorem dX7_bestSnip_14 : decode cX7_bestSnip 14 = .ok (.istore_n 2, 1) := by decide +kernel
theorem dX7_bestSnip_15 : decode cX7_bestSnip 15 = .ok (.bipush (-6), 2) := by decide +kernel
theorem dX7_bestSnip_17 : decode cX7_bestSnip 17 = .ok (.istore_n 3, 1) := by decide +kernel
theorem dX7_bestSnip_18 : decode cX7_bestSnip 18 = .ok (.iconst 0, 1) := by decide +kernel
theorem dX7_bestSnip_19 : decode cX7_bestSnip 19 = .ok (.istore 4, 2) := by decide +kernel
theorem dX7_bestSnip_21 : decode cX7_bestSnip 21 = .ok (.iload 4, 2) := by decide +kernel
theorem dX7_bestSnip_23 : decode cX7_bestSnip 23 = .ok (.bipush 82, 2) := by decide +kernel
theorem dX7_bestSnip_25 : decode cX7_bestSnip 25 = .ok (.if_icmp .ge 75, 3) := by decide +kernel
theorem dX7_bestSnip_28 : decode cX7_bestSnip 28 = .ok (.aload_n 0, 1) := by decide +kernel
theorem dX7_bestSnip_29 : decode cX7_bestSnip 29 = .ok (.iload 4, 2) := by decide +kernel
theorem dX7_bestSnip_31 : decode cX7_bestSnip 31 = .ok (.invokevirtual 95, 3) := by decide +kernel
theorem dX7_bestSnip_34 : decode cX7_bestSnip 34 = .ok (.ifCond .ne 60, 3) := by decide +kernel
theorem dX7_bestSnip_37 : decode cX7_bestSnip 37 = .ok (.aload_n 0, 1) := by decide +kernel
theorem dX7_bestSnip_38 : decode cX7_bestSnip 38 = .ok (.iload 4, 2) := by decide +kernel
theorem dX7_bestSnip_40 : decode cX7_bestSnip 40 = .ok (.invokevirtual 156, 3) := by decide +kernel
theorem dX7_bestSnip_43 : decode cX7_bestSnip 43 = .ok (.aload_n 0, 1) := by decide +kernel
theorem dX7_bestSnip_44 : decode cX7_bestSnip 44 = .ok (.aload_n 0, 1) := by decide +kernel
theorem dX7_bestSnip_45 : decode cX7_bestSnip 45 = .ok (.getfield 7, 3) := by decide +kernel
theorem dX7_bestSnip_48 : decode cX7_bestSnip 48 = .ok (.sipush 245, 3) := by decide +kernel
theorem dX7_bestSnip_51 : decode cX7_bestSnip 51 = .ok (.iaload, 1) := by decide +kernel
theorem dX7_bestSnip_52 : decode cX7_bestSnip 52 = .ok (.iload 4, 2) := by decide +kernel
theorem dX7_bestSnip_54 : decode cX7_bestSnip 54 = .ok (.invokevirtual 88, 3) := by decide +kernel
theorem dX7_bestSnip_57 : decode cX7_bestSnip 57 = .ok (.ifCond .eq 7, 3) := by decide +kernel
theorem dX7_bestSnip_60 : decode cX7_bestSnip 60 = .ok (.iconst 1, 1) := by decide +kernel
theorem dX7_bestSnip_61 : decode cX7_bestSnip 61 = .ok (.goto 4, 3) := by decide +kernel
theorem dX7_bestSnip_64 : decode cX7_bestSnip 64 = .ok (.iconst 0, 1) := by decide +kernel
theorem dX7_bestSnip_65 : decode cX7_bestSnip 65 = .ok (.iadd, 1) := by decide +kernel
theorem dX7_bestSnip_66 : decode cX7_bestSnip 66 = .ok (.istore 5, 2) := by decide +kernel
theorem dX7_bestSnip_68 : decode cX7_bestSnip 68 = .ok (.iload 5, 2) := by decide +kernel
theorem dX7_bestSnip_70 : decode cX7_bestSnip 70 = .ok (.iload_n 3, 1) := by decide +kernel
theorem dX7_bestSnip_71 : decode cX7_bestSnip 71 = .ok (.if_icmp .le 8, 3) := by decide +kernel
theorem dX7_bestSnip_74 : decode cX7_bestSnip 74 = .ok (.iload 4, 2) := by decide +kernel
theorem dX7_bestSnip_76 : decode cX7_bestSnip 76 = .ok (.goto 4, 3) := by decide +kernel
theorem dX7_bestSnip_79 : decode cX7_bestSnip 79 = .ok (.iload_n 2, 1) := by decide +kernel
theorem dX7_bestSnip_80 : decode cX7_bestSnip 80 = .ok (.istore_n 2, 1) := by decide +kernel
theorem dX7_bestSnip_81 : decode cX7_bestSnip 81 = .ok (.iload 5, 2) := by decide +kernel
theorem dX7_bestSnip_83 : decode cX7_bestSnip 83 = .ok (.iload_n 3, 1) := by decide +kernel
theorem dX7_bestSnip_84 : decode cX7_bestSnip 84 = .ok (.if_icmp .le 8, 3) := by decide +kernel
theorem dX7_bestSnip_87 : decode cX7_bestSnip 87 = .ok (.iload 5, 2) := by decide +kernel
theorem dX7_bestSnip_89 : decode cX7_bestSnip 89 = .ok (.goto 4, 3) := by decide +kernel
theorem dX7_bestSnip_92 : decode cX7_bestSnip 92 = .ok (.iload_n 3, 1) := by decide +kernel
theorem dX7_bestSnip_93 : decode cX7_bestSnip 93 = .ok (.istore_n 3, 1) := by decide +kernel
theorem dX7_bestSnip_94 : decode cX7_bestSnip 94 = .ok (.iinc 4 1, 3) := by decide +kernel
theorem dX7_bestSnip_97 : decode cX7_bestSnip 97 = .ok (.goto (-76), 3) := by decide +kernel
theorem dX7_bestSnip_100 : decode cX7_bestSnip 100 = .ok (.iload_n 1, 1) := by decide +kernel
theorem dX7_bestSnip_101 : decode cX7_bestSnip 101 = .ok (.ifCond .ne 7, 3) := by decide +kernel
theorem dX7_bestSnip_104 : decode cX7_bestSnip 104 = .ok (.iload_n 2, 1) := by decide +kernel
theorem dX7_bestSnip_105 : decode cX7_bestSnip 105 = .ok (.goto 4, 3) := by decide +kernel
theorem dX7_bestSnip_108 : decode cX7_bestSnip 108 = .ok (.iload_n 3, 1) := by decide +kernel
theorem dX7_bestSnip_109 : decode cX7_bestSnip 109 = .ok (.ireturn, 1) := by decide +kernel
set_option maxRecDepth 20000 in
theorem ggX7_weak_X7_isOver : GoodIn wsX7_weak wsX7_isOver := goodIn_r _ [5, 6, 7, 8, 9, 4, 10, 11, 12, 13, 14, 46, 47, 48, 49, 50, 51, 52, 53, 54] (by decide +kernel) (by decide +kernel)
set_option maxRecDepth 20000 in
theorem gX7_weak_X7_isOver : GoodIn wsX7_weak (wsV RX7 84 RX7 yX7_isOver wsX7_isOver) := goodIn_app (goodIn_of _ (by decide +kernel)) ggX7_weak_X7_isOver
set_option maxRecDepth 20000 in
theorem ggX7_weak_X7_holds : GoodIn wsX7_weak wsX7_holds := goodIn_r _ [18, 6, 19, 20, 21, 4, 22, 23, 24, 25, 11, 12, 13, 14, 26, 27, 28, 46, 47, 48, 49, 50, 51, 52, 53, 54] (by decide +kernel) (by decide +kernel)
set_option maxRecDepth 20000 in
theorem gX7_weak_X7_holds : GoodIn wsX7_weak (wsV RX7 58 RX7 yX7_holds wsX7_holds) := goodIn_app (goodIn_of _ (by decide +kernel)) ggX7_weak_X7_holds
set_option maxRecDepth 20000 in
theorem ggX7_weak_X7_cellsBy : GoodIn wsX7_weak wsX7_cellsBy := goodIn_r _ [32, 33, 34, 35, 4, 36, 37, 38, 39, 40, 41, 6, 11, 12, 13, 14, 15, 16, 17, 18, 19, 20, 21, 22, 23, 24, 25, 26, 27, 28, 42, 43, 44, 45, 46, 47, 48, 49, 50, 51, 52, 53, 54] (by decide +kernel) (by decide +kernel)
set_option maxRecDepth 20000 in
theorem gX7_weak_X7_cellsBy : GoodIn wsX7_weak (wsV RX7 156 RX7 yX7_cellsBy wsX7_cellsBy) := goodIn_app (goodIn_of _ (by decide +kernel)) ggX7_weak_X7_cellsBy
theorem dX7_weak_0 : decode cX7_weak 0 = .ok (.iconst 0, 1) := by decide +kernel
theorem dX7_weak_1 : decode cX7_weak 1 = .ok (.istore_n 1, 1) := by decide +kernel
theorem dX7_weak_2 : decode cX7_weak 2 = .ok (.iconst 0, 1) := by decide +kernel
theorem dX7_weak_3 : decode cX7_weak 3 = .ok (.istore_n 2, 1) := by decide +kernel
theorem dX7_weak_4 : decode cX7_weak 4 = .ok (.iload_n 2, 1) := by decide +kernel
theorem dX7_weak_5 : decode cX7_weak 5 = .ok (.bipush 82, 2) := by decide +kernel
theorem dX7_weak_7 : decode cX7_weak 7 = .ok (.if_icmp .ge 40, 3) := by decide +kernel
theorem dX7_weak_10 : decode cX7_weak 10 = .ok (.aload_n 0, 1) := by decide +kernel
theorem dX7_weak_11 : decode cX7_weak 11 = .ok (.invokevirtual 84, 3) := by decide +kernel
theorem dX7_weak_14 : decode cX7_weak 14 = .ok (.ifCond .ne 33, 3) := by decide +kernel
theorem dX7_weak_17 : decode cX7_weak 17 = .ok (.iload_n 1, 1) := by decide +kernel
theorem dX7_weak_18 : decode cX7_weak 18 = .ok (.aload_n 0, 1) := by decide +kernel
theorem dX7_weak_19 : decode cX7_weak 19 = .ok (.iload_n 2, 1) := by decide +kernel
theorem dX7_weak_20 : decode cX7_weak 20 = .ok (.invokevirtual 58, 3) := by decide +kernel
theorem dX7_weak_23 : decode cX7_weak 23 = .ok (.ifCond .eq 15, 3) := by decide +kernel
theorem dX7_weak_26 : decode cX7_weak 26 = .ok (.aload_n 0, 1) := by decide +kernel
theorem dX7_weak_27 : decode cX7_weak 27 = .ok (.iload_n 2, 1) := by decide +kernel
theorem dX7_weak_28 : decode cX7_weak 28 = .ok (.invokevirtual 156, 3) := by decide +kernel
theorem dX7_weak_31 : decode cX7_weak 31 = .ok (.ifCond .le 7, 3) := by decide +kernel
theorem dX7_weak_34 : decode cX7_weak 34 = .ok (.iconst 1, 1) := by decide +kernel
theorem dX7_weak_35 : decode cX7_weak 35 = .ok (.goto 4, 3) := by decide +kernel
theorem dX7_weak_38 : decode cX7_weak 38 = .ok (.iconst 0, 1) := by decide +kernel
theorem dX7_weak_39 : decode cX7_weak 39 = .ok (.iadd, 1) := by decide +kernel
theorem dX7_weak_40 : decode cX7_weak 40 = .ok (.istore_n 1, 1) := by decide +kernel
theorem dX7_weak_41 : decode cX7_weak 41 = .ok (.iinc 2 1, 3) := by decide +kernel
theorem dX7_weak_44 : decode cX7_weak 44 = .ok (.goto (-40), 3) := by decide +kernel
theorem dX7_weak_47 : decode cX7_weak 47 = .ok (.iload_n 1, 1) := by decide +kernel
theorem dX7_weak_48 : decode cX7_weak 48 = .ok (.ireturn, 1) := by decide +kernel
set_option maxRecDepth 20000 in
theorem ggX7_together_X7_isCell : GoodIn wsX7_together wsX7_isCell := goodIn_r _ [5, 6, 7, 4, 8] (by decide +kernel) (by decide +kernel)
set_option maxRecDepth 20000 in
theorem gX7_together_X7_isCell : GoodIn wsX7_together (va_wsS RX7 138 yX7_isCell wsX7_isCell) := goodIn_app (goodIn_of _ (by decide +kernel)) ggX7_together_X7_isCell
set_option maxRecDepth 20000 in
theorem ggX7_together_X7_in : GoodIn wsX7_together wsX7_in := goodIn_r _ [8] (by decide +kernel) (by decide +kernel)
set_option maxRecDepth 20000 in
theorem gX7_together_X7_in : GoodIn wsX7_together (va_wsS RX7 36 yX7_in wsX7_in) := goodIn_app (goodIn_of _ (by decide +kernel)) ggX7_together_X7_in
set_option maxRecDepth 20000 in
theorem ggX7_together_X7_isGone : GoodIn wsX7_together wsX7_isGone := goodIn_r _ [12, 13, 32, 33, 34, 35, 36, 37, 38, 39, 40] (by decide +kernel) (by decide +kernel)
set_option maxRecDepth 20000 in
theorem gX7_together_X7_isGone : GoodIn wsX7_together (wsV RX7 44 RX7 yX7_isGone wsX7_isGone) := goodIn_app (goodIn_of _ (by decide +kernel)) ggX7_together_X7_isGone
set_option maxRecDepth 20000 in
theorem ggX7_together_X7_layPieces : GoodIn wsX7_together wsX7_layPieces := goodIn_r _ [17, 1, 13, 9, 10, 11, 4, 12, 18, 19, 20, 21, 22, 23, 24, 25, 26, 27, 28, 29, 30, 31, 32, 33, 34, 35, 36, 37, 38, 39, 40] (by decide +kernel) (by decide +kernel)
set_option maxRecDepth 20000 in
theorem gX7_together_X7_layPieces : GoodIn wsX7_together (wsV RX7 61 RX7 yX7_layPieces wsX7_layPieces) := goodIn_app (goodIn_of _ (by decide +kernel)) ggX7_together_X7_layPieces
theorem dX7_together_0 : decode cX7_together 0 = .ok (.iload_n 1, 1) := by decide +kernel
theorem dX7_together_1 : decode cX7_together 1 = .ok (.invokestatic 138, 3) := by decide +kernel
theorem dX7_together_4 : decode cX7_together 4 = .ok (.ifCond .eq 10, 3) := by decide +kernel
theorem dX7_together_7 : decode cX7_together 7 = .ok (.iload_n 2, 1) := by decide +kernel
theorem dX7_together_8 : decode cX7_together 8 = .ok (.invokestatic 138, 3) := by decide +kernel
theorem dX7_together_11 : decode cX7_together 11 = .ok (.ifCond .ne 5, 3) := by decide +kernel
theorem dX7_together_14 : decode cX7_together 14 = .ok (.iconst (-1), 1) := by decide +kernel
theorem dX7_together_15 : decode cX7_together 15 = .ok (.ireturn, 1) := by decide +kernel
theorem dX7_together_16 : decode cX7_together 16 = .ok (.iload_n 3, 1) := by decide +kernel
theorem dX7_together_17 : decode cX7_together 17 = .ok (.iconst 0, 1) := by decide +kernel
theorem dX7_together_18 : decode cX7_together 18 = .ok (.iconst 1, 1) := by decide +kernel
theorem dX7_together_19 : decode cX7_together 19 = .ok (.invokestatic 36, 3) := by decide +kernel
theorem dX7_together_22 : decode cX7_together 22 = .ok (.ifCond .ne 6, 3) := by decide +kernel
theorem dX7_together_25 : decode cX7_together 25 = .ok (.bipush (-2), 2) := by decide +kernel
theorem dX7_together_27 : decode cX7_together 27 = .ok (.ireturn, 1) := by decide +kernel
theorem dX7_together_28 : decode cX7_together 28 = .ok (.aload_n 0, 1) := by decide +kernel
theorem dX7_together_29 : decode cX7_together 29 = .ok (.iload_n 1, 1) := by decide +kernel
theorem dX7_together_30 : decode cX7_together 30 = .ok (.invokevirtual 44, 3) := by decide +kernel
theorem dX7_together_33 : decode cX7_together 33 = .ok (.ifCond .ne 11, 3) := by decide +kernel
theorem dX7_together_36 : decode cX7_together 36 = .ok (.aload_n 0, 1) := by decide +kernel
theorem dX7_together_37 : decode cX7_together 37 = .ok (.iload_n 2, 1) := by decide +kernel
theorem dX7_together_38 : decode cX7_together 38 = .ok (.invokevirtual 44, 3) := by decide +kernel
theorem dX7_together_41 : decode cX7_together 41 = .ok (.ifCond .eq 6, 3) := by decide +kernel
theorem dX7_together_44 : decode cX7_together 44 = .ok (.bipush (-5), 2) := by decide +kernel
theorem dX7_together_46 : decode cX7_together 46 = .ok (.ireturn, 1) := by decide +kernel
theorem dX7_together_47 : decode cX7_together 47 = .ok (.aload_n 0, 1) := by decide +kernel
theorem dX7_together_48 : decode cX7_together 48 = .ok (.bipush (-6), 2) := by decide +kernel
theorem dX7_together_50 : decode cX7_together 50 = .ok (.iload_n 3, 1) := by decide +kernel
theorem dX7_together_51 : decode cX7_together 51 = .ok (.iconst 1, 1) := by decide +kernel
theorem dX7_together_52 : decode cX7_together 52 = .ok (.if_icmp .ne 7, 3) := by decide +kernel
theorem dX7_together_55 : decode cX7_together 55 = .ok (.iconst 1, 1) := by decide +kernel
theorem dX7_together_56 : decode cX7_together 56 = .ok (.goto 4, 3) := by decide +kernel
theorem dX7_together_59 : decode cX7_together 59 = .ok (.iconst 0, 1) := by decide +kernel
theorem dX7_together_60 : decode cX7_together 60 = .ok (.invokevirtual 61, 3) := by decide +kernel
theorem dX7_together_63 : decode cX7_together 63 = .ok (.aload_n 0, 1) := by decide +kernel
theorem dX7_together_64 : decode cX7_together 64 = .ok (.getfield 29, 3) := by decide +kernel
theorem dX7_together_67 : decode cX7_together 67 = .ok (.iload_n 1, 1) := by decide +kernel
theorem dX7_together_68 : decode cX7_together 68 = .ok (.iaload, 1) := by decide +kernel
theorem dX7_together_69 : decode cX7_together 69 = .ok (.aload_n 0, 1) := by decide +kernel
theorem dX7_together_70 : decode cX7_together 70 = .ok (.getfield 29, 3) := by decide +kernel
theorem dX7_together_73 : decode cX7_together 73 = .ok (.iload_n 2, 1) := by decide +kernel
theorem dX7_together_74 : decode cX7_together 74 = .ok (.iaload, 1) := by decide +kernel
theorem dX7_together_75 : decode cX7_together 75 = .ok (.if_icmp .ne 7, 3) := by decide +kernel
theorem dX7_together_78 : decode cX7_together 78 = .ok (.iconst 1, 1) := by decide +kernel
theorem dX7_together_79 : decode cX7_together 79 = .ok (.goto 4, 3) := by decide +kernel
theorem dX7_together_82 : decode cX7_together 82 = .ok (.iconst 0, 1) := by decide +kernel
theorem dX7_together_83 : decode cX7_together 83 = .ok (.ireturn, 1) := by decide +kernel
set_option maxRecDepth 20000 in
theorem ggX7_put_X7_in : GoodIn wsX7_put wsX7_in := goodIn_r _ [7] (by decide +kernel) (by decide +kernel)
set_option maxRecDepth 20000 in
theorem gX7_put_X7_in : GoodIn wsX7_put (va_wsS RX7 36 yX7_in wsX7_in) := goodIn_app (goodIn_of _ (by decide +kernel)) ggX7_put_X7_in
theorem dX7_put_0 : decode cX7_put 0 = .ok (.iconst 0, 1) := by decide +kernel
theorem dX7_put_1 : decode cX7_put 1 = .ok (.istore_n 3, 1) := by decide +kernel
theorem dX7_put_2 : decode cX7_put 2 = .ok (.iconst 0, 1) := by decide +kernel
theorem dX7_put_3 : decode cX7_put 3 = .ok (.istore 4, 2) := by decide +kernel
theorem dX7_put_5 : decode cX7_put 5 = .ok (.iconst 0, 1) := by decide +kernel
theorem dX7_put_6 : decode cX7_put 6 = .ok (.istore 5, 2) := by decide +kernel
theorem dX7_put_8 : decode cX7_put 8 = .ok (.iload 5, 2) := by decide +kernel
theorem dX7_put_10 : decode cX7_put 10 = .ok (.bipush 8, 2) := by decide +kernel
theorem dX7_put_12 : decode cX7_put 12 = .ok (.if_icmp .ge 89, 3) := by decide +kernel
theorem dX7_put_15 : decode cX7_put 15 = .ok (.lload_n 1, 1) := by decide +kernel
theorem dX7_put_16 : decode cX7_put 16 = .ok (.bipush 8, 2) := by decide +kernel
theorem dX7_put_18 : decode cX7_put 18 = .ok (.iload 5, 2) := by decide +kernel
theorem dX7_put_20 : decode cX7_put 20 = .ok (.imul, 1) := by decide +kernel
theorem dX7_put_21 : decode cX7_put 21 = .ok (.lushr, 1) := by decide +kernel
theorem dX7_put_22 : decode cX7_put 22 = .ok (.ldc2_w 159, 3) := by decide +kernel
theorem dX7_put_25 : decode cX7_put 25 = .ok (.land, 1) := by decide +kernel
theorem dX7_put_26 : decode cX7_put 26 = .ok (.l2i, 1) := by decide +kernel
theorem dX7_put_27 : decode cX7_put 27 = .ok (.istore 6, 2) := by decide +kernel
theorem dX7_put_29 : decode cX7_put 29 = .ok (.iload 5, 2) := by decide +kernel
theorem dX7_put_31 : decode cX7_put 31 = .ok (.ifCond .le 19, 3) := by decide +kernel
theorem dX7_put_34 : decode cX7_put 34 = .ok (.lload_n 1, 1) := by decide +kernel
theorem dX7_put_35 : decode cX7_put 35 = .ok (.bipush 8, 2) := by decide +kernel
theorem dX7_put_37 : decode cX7_put 37 = .ok (.iload 5, 2) := by decide +kernel
theorem dX7_put_39 : decode cX7_put 39 = .ok (.imul, 1) := by decide +kernel
theorem dX7_put_40 : decode cX7_put 40 = .ok (.lushr, 1) := by decide +kernel
theorem dX7_put_41 : decode cX7_put 41 = .ok (.lconst 0, 1) := by decide +kernel
theorem dX7_put_42 : decode cX7_put 42 = .ok (.lcmp, 1) := by decide +kernel
theorem dX7_put_43 : decode cX7_put 43 = .ok (.ifCond .ne 7, 3) := by decide +kernel
theorem dX7_put_46 : decode cX7_put 46 = .ok (.iconst 1, 1) := by decide +kernel
theorem dX7_put_47 : decode cX7_put 47 = .ok (.goto 4, 3) := by decide +kernel
theorem dX7_put_50 : decode cX7_put 50 = .ok (.iconst 0, 1) := by decide +kernel
theorem dX7_put_51 : decode cX7_put 51 = .ok (.istore 7, 2) := by decide +kernel
theorem dX7_put_53 : decode cX7_put 53 = .ok (.iload 4, 2) := by decide +kernel
theorem dX7_put_55 : decode cX7_put 55 = .ok (.ifCond .ne 20, 3) := by decide +kernel
theorem dX7_put_58 : decode cX7_put 58 = .ok (.iload 7, 2) := by decide +kernel
theorem dX7_put_60 : decode cX7_put 60 = .ok (.ifCond .ne 19, 3) := by decide +kernel
theorem dX7_put_63 : decode cX7_put 63 = .ok (.iload 6, 2) := by decide +kernel
theorem dX7_put_65 : decode cX7_put 65 = .ok (.bipush 33, 2) := by decide +kernel
theorem dX7_put_67 : decode cX7_put 67 = .ok (.bipush 126, 2) := by decide +kernel
theorem dX7_put_69 : decode cX7_put 69 = .ok (.invokestatic 36, 3) := by decide +kernel
theorem dX7_put_72 : decode cX7_put 72 = .ok (.ifCond .ne 7, 3) := by decide +kernel
theorem dX7_put_75 : decode cX7_put 75 = .ok (.iconst 1, 1) := by decide +kernel
theorem dX7_put_76 : decode cX7_put 76 = .ok (.goto 4, 3) := by decide +kernel
theorem dX7_put_79 : decode cX7_put 79 = .ok (.iconst 0, 1) := by decide +kernel
theorem dX7_put_80 : decode cX7_put 80 = .ok (.istore 4, 2) := by decide +kernel
theorem dX7_put_82 : decode cX7_put 82 = .ok (.iload_n 3, 1) := by decide +kernel
theorem dX7_put_83 : decode cX7_put 83 = .ok (.iload 7, 2) := by decide +kernel
theorem dX7_put_85 : decode cX7_put 85 = .ok (.ifCond .eq 7, 3) := by decide +kernel
theorem dX7_put_88 : decode cX7_put 88 = .ok (.iconst 0, 1) := by decide +kernel
theorem dX7_put_89 : decode cX7_put 89 = .ok (.goto 4, 3) := by decide +kernel
theorem dX7_put_92 : decode cX7_put 92 = .ok (.iconst 1, 1) := by decide +kernel
theorem dX7_put_93 : decode cX7_put 93 = .ok (.iadd, 1) := by decide +kernel
theorem dX7_put_94 : decode cX7_put 94 = .ok (.istore_n 3, 1) := by decide +kernel
theorem dX7_put_95 : decode cX7_put 95 = .ok (.iinc 5 1, 3) := by decide +kernel
theorem dX7_put_98 : decode cX7_put 98 = .ok (.goto (-90), 3) := by decide +kernel
theorem dX7_put_101 : decode cX7_put 101 = .ok (.iload 4, 2) := by decide +kernel
theorem dX7_put_103 : decode cX7_put 103 = .ok (.ifCond .eq 6, 3) := by decide +kernel
theorem dX7_put_106 : decode cX7_put 106 = .ok (.bipush (-2), 2) := by decide +kernel
theorem dX7_put_108 : decode cX7_put 108 = .ok (.ireturn, 1) := by decide +kernel
theorem dX7_put_109 : decode cX7_put 109 = .ok (.aload_n 0, 1) := by decide +kernel
theorem dX7_put_110 : decode cX7_put 110 = .ok (.getfield 153, 3) := by decide +kernel
theorem dX7_put_113 : decode cX7_put 113 = .ok (.iload_n 3, 1) := by decide +kernel
theorem dX7_put_114 : decode cX7_put 114 = .ok (.iadd, 1) := by decide +kernel
theorem dX7_put_115 : decode cX7_put 115 = .ok (.bipush 80, 2) := by decide +kernel
theorem dX7_put_117 : decode cX7_put 117 = .ok (.if_icmp .le 6, 3) := by decide +kernel
theorem dX7_put_120 : decode cX7_put 120 = .ok (.bipush (-4), 2) := by decide +kernel
theorem dX7_put_122 : decode cX7_put 122 = .ok (.ireturn, 1) := by decide +kernel
theorem dX7_put_123 : decode cX7_put 123 = .ok (.iconst 0, 1) := by decide +kernel
theorem dX7_put_124 : decode cX7_put 124 = .ok (.istore 5, 2) := by decide +kernel
theorem dX7_put_126 : decode cX7_put 126 = .ok (.iload 5, 2) := by decide +kernel
theorem dX7_put_128 : decode cX7_put 128 = .ok (.iload_n 3, 1) := by decide +kernel
theorem dX7_put_129 : decode cX7_put 129 = .ok (.if_icmp .ge 37, 3) := by decide +kernel
theorem dX7_put_132 : decode cX7_put 132 = .ok (.aload_n 0, 1) := by decide +kernel
theorem dX7_put_133 : decode cX7_put 133 = .ok (.getfield 26, 3) := by decide +kernel
theorem dX7_put_136 : decode cX7_put 136 = .ok (.aload_n 0, 1) := by decide +kernel
theorem dX7_put_137 : decode cX7_put 137 = .ok (.getfield 153, 3) := by decide +kernel
theorem dX7_put_140 : decode cX7_put 140 = .ok (.iload_n 3, 1) := by decide +kernel
theorem dX7_put_141 : decode cX7_put 141 = .ok (.iadd, 1) := by decide +kernel
theorem dX7_put_142 : decode cX7_put 142 = .ok (.iconst 1, 1) := by decide +kernel
theorem dX7_put_143 : decode cX7_put 143 = .ok (.isub, 1) := by decide +kernel
theorem dX7_put_144 : decode cX7_put 144 = .ok (.iload 5, 2) := by decide +kernel
theorem dX7_put_146 : decode cX7_put 146 = .ok (.isub, 1) := by decide +kernel
theorem dX7_put_147 : decode cX7_put 147 = .ok (.lload_n 1, 1) := by decide +kernel
theorem dX7_put_148 : decode cX7_put 148 = .ok (.bipush 8, 2) := by decide +kernel
theorem dX7_put_150 : decode cX7_put 150 = .ok (.iload 5, 2) := by decide +kernel
theorem dX7_put_152 : decode cX7_put 152 = .ok (.imul, 1) := by decide +kernel
theorem dX7_put_153 : decode cX7_put 153 = .ok (.lushr, 1) := by decide +kernel
theorem dX7_put_154 : decode cX7_put 154 = .ok (.ldc2_w 159, 3) := by decide +kernel
theorem dX7_put_157 : decode cX7_put 157 = .ok (.land, 1) := by decide +kernel
theorem dX7_put_158 : decode cX7_put 158 = .ok (.l2i, 1) := by decide +kernel
theorem dX7_put_159 : decode cX7_put 159 = .ok (.iastore, 1) := by decide +kernel
theorem dX7_put_160 : decode cX7_put 160 = .ok (.iinc 5 1, 3) := by decide +kernel
theorem dX7_put_163 : decode cX7_put 163 = .ok (.goto (-37), 3) := by decide +kernel
theorem dX7_put_166 : decode cX7_put 166 = .ok (.aload_n 0, 1) := by decide +kernel
theorem dX7_put_167 : decode cX7_put 167 = .ok (.dup, 1) := by decide +kernel
theorem dX7_put_168 : decode cX7_put 168 = .ok (.getfield 153, 3) := by decide +kernel
theorem dX7_put_171 : decode cX7_put 171 = .ok (.iload_n 3, 1) := by decide +kernel
theorem dX7_put_172 : decode cX7_put 172 = .ok (.iadd, 1) := by decide +kernel
theorem dX7_put_173 : decode cX7_put 173 = .ok (.putfield 153, 3) := by decide +kernel
theorem dX7_put_176 : decode cX7_put 176 = .ok (.aload_n 0, 1) := by decide +kernel
theorem dX7_put_177 : decode cX7_put 177 = .ok (.getfield 153, 3) := by decide +kernel
theorem dX7_put_180 : decode cX7_put 180 = .ok (.ireturn, 1) := by decide +kernel
theorem dX7_wipe_0 : decode cX7_wipe 0 = .ok (.aload_n 0, 1) := by decide +kernel
theorem dX7_wipe_1 : decode cX7_wipe 1 = .ok (.getfield 153, 3) := by decide +kernel
theorem dX7_wipe_4 : decode cX7_wipe 4 = .ok (.istore_n 1, 1) := by decide +kernel
theorem dX7_wipe_5 : decode cX7_wipe 5 = .ok (.aload_n 0, 1) := by decide +kernel
theorem dX7_wipe_6 : decode cX7_wipe 6 = .ok (.iconst 0, 1) := by decide +kernel
theorem dX7_wipe_7 : decode cX7_wipe 7 = .ok (.putfield 153, 3) := by decide +kernel
theorem dX7_wipe_10 : decode cX7_wipe 10 = .ok (.iload_n 1, 1) := by decide +kernel
theorem dX7_wipe_11 : decode cX7_wipe 11 = .ok (.ireturn, 1) := by decide +kernel
theorem dX7_charAt_0 : decode cX7_charAt 0 = .ok (.iload_n 1, 1) := by decide +kernel
theorem dX7_charAt_1 : decode cX7_charAt 1 = .ok (.aload_n 0, 1) := by decide +kernel
theorem dX7_charAt_2 : decode cX7_charAt 2 = .ok (.getfield 153, 3) := by decide +kernel
theorem dX7_charAt_5 : decode cX7_charAt 5 = .ok (.if_icmp .ge 12, 3) := by decide +kernel
theorem dX7_charAt_8 : decode cX7_charAt 8 = .ok (.aload_n 0, 1) := by decide +kernel
theorem dX7_charAt_9 : decode cX7_charAt 9 = .ok (.getfield 26, 3) := by decide +kernel
theorem dX7_charAt_12 : decode cX7_charAt 12 = .ok (.iload_n 1, 1) := by decide +kernel
theorem dX7_charAt_13 : decode cX7_charAt 13 = .ok (.iaload, 1) := by decide +kernel
theorem dX7_charAt_14 : decode cX7_charAt 14 = .ok (.goto 4, 3) := by decide +kernel
theorem dX7_charAt_17 : decode cX7_charAt 17 = .ok (.iconst 0, 1) := by decide +kernel
theorem dX7_charAt_18 : decode cX7_charAt 18 = .ok (.ireturn, 1) := by decide +kernel
set_option maxRecDepth 20000 in
theorem ggX7_digitAt_X7_charAt : GoodIn wsX7_digitAt wsX7_charAt := goodIn_r _ [5, 6, 7, 8, 9, 10, 11, 12, 13, 14, 15, 16] (by decide +kernel) (by decide +kernel)
set_option maxRecDepth 20000 in
theorem gX7_digitAt_X7_charAt : GoodIn wsX7_digitAt (wsV RX7 161 RX7 yX7_charAt wsX7_charAt) := goodIn_app (goodIn_of _ (by decide +kernel)) ggX7_digitAt_X7_charAt
theorem dX7_digitAt_0 : decode cX7_digitAt 0 = .ok (.aload_n 0, 1) := by decide +kernel
theorem dX7_digitAt_1 : decode cX7_digitAt 1 = .ok (.iload_n 1, 1) := by decide +kernel
theorem dX7_digitAt_2 : decode cX7_digitAt 2 = .ok (.invokevirtual 161, 3) := by decide +kernel
theorem dX7_digitAt_5 : decode cX7_digitAt 5 = .ok (.bipush 48, 2) := by decide +kernel
theorem dX7_digitAt_7 : decode cX7_digitAt 7 = .ok (.isub, 1) := by decide +kernel
theorem dX7_digitAt_8 : decode cX7_digitAt 8 = .ok (.ireturn, 1) := by decide +kernel
set_option maxRecDepth 20000 in
theorem ggX7_behindOrder_X7_charAt : GoodIn wsX7_behindOrder wsX7_charAt := goodIn_r _ [5, 6, 7, 15, 16, 17, 18, 19, 20, 21, 22, 23] (by decide +kernel) (by decide +kernel)
set_option maxRecDepth 20000 in
theorem gX7_behindOrder_X7_charAt : GoodIn wsX7_behindOrder (wsV RX7 161 RX7 yX7_charAt wsX7_charAt) := goodIn_app (goodIn_of _ (by decide +kernel)) ggX7_behindOrder_X7_charAt
set_option maxRecDepth 20000 in
theorem ggX7_behindOrder_X7_digitAt : GoodIn wsX7_behindOrder wsX7_digitAt := goodIn_r _ [11, 1, 2, 3, 4, 5, 6, 7, 15, 16, 17, 18, 19, 20, 21, 22, 23] (by decide +kernel) (by decide +kernel)
set_option maxRecDepth 20000 in
theorem gX7_behindOrder_X7_digitAt : GoodIn wsX7_behindOrder (wsV RX7 164 RX7 yX7_digitAt wsX7_digitAt) := goodIn_app (goodIn_of _ (by decide +kernel)) ggX7_behindOrder_X7_digitAt
set_option maxRecDepth 20000 in
theorem ggX7_behindOrder_X7_in : GoodIn wsX7_behindOrder wsX7_in := goodIn_r _ [14] (by decide +kernel) (by decide +kernel)
set_option maxRecDepth 20000 in
theorem gX7_behindOrder_X7_in : GoodIn wsX7_behindOrder (va_wsS RX7 36 yX7_in wsX7_in) := goodIn_app (goodIn_of _ (by decide +kernel)) ggX7_behindOrder_X7_in
theorem dX7_behindOrder_0 : decode cX7_behindOrder 0 = .ok (.aload_n 0, 1) := by decide +kernel
theorem dX7_behindOrder_1 : decode cX7_behindOrder 1 = .ok (.iload_n 1, 1) := by decide +kernel
theorem dX7_behindOrder_2 : decode cX7_behindOrder 2 = .ok (.invokevirtual 161, 3) := by decide +kernel
theorem dX7_behindOrder_5 : decode cX7_behindOrder 5 = .ok (.istore_n 2, 1) := by decide +kernel
theorem dX7_behindOrder_6 : decode cX7_behindOrder 6 = .ok (.iload_n 2, 1) := by decide +kernel
theorem dX7_behindOrder_7 : decode cX7_behindOrder 7 = .ok (.bipush 112, 2) := by decide +kernel
theorem dX7_behindOrder_9 : decode cX7_behindOrder 9 = .ok (.if_icmp .ne 7, 3) := by decide +kernel
theorem dX7_behindOrder_12 : decode cX7_behindOrder 12 = .ok (.iload_n 1, 1) := by decide +kernel
theorem dX7_behindOrder_13 : decode cX7_behindOrder 13 = .ok (.iconst 1, 1) := by decide +kernel
theorem dX7_behindOrder_14 : decode cX7_behindOrder 14 = .ok (.iadd, 1) := by decide +kernel
theorem dX7_behindOrder_15 : decode cX7_behindOrder 15 = .ok (.ireturn, 1) := by decide +kernel
theorem dX7_behindOrder_16 : decode cX7_behindOrder 16 = .ok (.iload_n 2, 1) := by decide +kernel
theorem dX7_behindOrder_17 : decode cX7_behindOrder 17 = .ok (.bipush 99, 2) := by decide +kernel
theorem dX7_behindOrder_19 : decode cX7_behindOrder 19 = .ok (.if_icmp .eq 31, 3) := by decide +kernel
theorem dX7_behindOrder_22 : decode cX7_behindOrder 22 = .ok (.iload_n 2, 1) := by decide +kernel
theorem dX7_behindOrder_23 : decode cX7_behindOrder 23 = .ok (.bipush 115, 2) := by decide +kernel
theorem dX7_behindOrder_25 : decode cX7_behindOrder 25 = .ok (.if_icmp .eq 25, 3) := by decide +kernel
theorem dX7_behindOrder_28 : decode cX7_behindOrder 28 = .ok (.iload_n 2, 1) := by decide +kernel
theorem dX7_behindOrder_29 : decode cX7_behindOrder 29 = .ok (.bipush 119, 2) := by decide +kernel
theorem dX7_behindOrder_31 : decode cX7_behindOrder 31 = .ok (.if_icmp .eq 19, 3) := by decide +kernel
theorem dX7_behindOrder_34 : decode cX7_behindOrder 34 = .ok (.iload_n 2, 1) := by decide +kernel
theorem dX7_behindOrder_35 : decode cX7_behindOrder 35 = .ok (.bipush 98, 2) := by decide +kernel
theorem dX7_behindOrder_37 : decode cX7_behindOrder 37 = .ok (.if_icmp .eq 13, 3) := by decide +kernel
theorem dX7_behindOrder_40 : decode cX7_behindOrder 40 = .ok (.iload_n 2, 1) := by decide +kernel
theorem dX7_behindOrder_41 : decode cX7_behindOrder 41 = .ok (.bipush 100, 2) := by decide +kernel
theorem dX7_behindOrder_43 : decode cX7_behindOrder 43 = .ok (.if_icmp .eq 7, 3) := by decide +kernel
theorem dX7_behindOrder_46 : decode cX7_behindOrder 46 = .ok (.iconst (-1), 1) := by decide +kernel
theorem dX7_behindOrder_47 : decode cX7_behindOrder 47 = .ok (.iload_n 1, 1) := by decide +kernel
theorem dX7_behindOrder_48 : decode cX7_behindOrder 48 = .ok (.isub, 1) := by decide +kernel
theorem dX7_behindOrder_49 : decode cX7_behindOrder 49 = .ok (.ireturn, 1) := by decide +kernel
theorem dX7_behindOrder_50 : decode cX7_behindOrder 50 = .ok (.aload_n 0, 1) := by decide +kernel
theorem dX7_behindOrder_51 : decode cX7_behindOrder 51 = .ok (.iload_n 1, 1) := by decide +kernel
theorem dX7_behindOrder_52 : decode cX7_behindOrder 52 = .ok (.iconst 1, 1) := by decide +kernel
theorem dX7_behindOrder_53 : decode cX7_behindOrder 53 = .ok (.iadd, 1) := by decide +kernel
theorem dX7_behindOrder_54 : decode cX7_behindOrder 54 = .ok (.invokevirtual 164, 3) := by decide +kernel
theorem dX7_behindOrder_57 : decode cX7_behindOrder 57 = .ok (.iconst 0, 1) := by decide +kernel
theorem dX7_behindOrder_58 : decode cX7_behindOrder 58 = .ok (.bipush 9, 2) := by decide +kernel
theorem dX7_behindOrder_60 : decode cX7_behindOrder 60 = .ok (.invokestatic 36, 3) := by decide +kernel
theorem dX7_behindOrder_63 : decode cX7_behindOrder 63 = .ok (.ifCond .ne 8, 3) := by decide +kernel
theorem dX7_behindOrder_66 : decode cX7_behindOrder 66 = .ok (.bipush (-2), 2) := by decide +kernel
theorem dX7_behindOrder_68 : decode cX7_behindOrder 68 = .ok (.iload_n 1, 1) := by decide +kernel
theorem dX7_behindOrder_69 : decode cX7_behindOrder 69 = .ok (.isub, 1) := by decide +kernel
theorem dX7_behindOrder_70 : decode cX7_behindOrder 70 = .ok (.ireturn, 1) := by decide +kernel
theorem dX7_behindOrder_71 : decode cX7_behindOrder 71 = .ok (.aload_n 0, 1) := by decide +kernel
theorem dX7_behindOrder_72 : decode cX7_behindOrder 72 = .ok (.iload_n 1, 1) := by decide +kernel
theorem dX7_behindOrder_73 : decode cX7_behindOrder 73 = .ok (.iconst 1, 1) := by decide +kernel
theorem dX7_behindOrder_74 : decode cX7_behindOrder 74 = .ok (.iadd, 1) := by decide +kernel
theorem dX7_behindOrder_75 : decode cX7_behindOrder 75 = .ok (.invokevirtual 164, 3) := by decide +kernel
theorem dX7_behindOrder_78 : decode cX7_behindOrder 78 = .ok (.ifCond .le 25, 3) := by decide +kernel
theorem dX7_behindOrder_81 : decode cX7_behindOrder 81 = .ok (.aload_n 0, 1) := by decide +kernel
theorem dX7_behindOrder_82 : decode cX7_behindOrder 82 = .ok (.iload_n 1, 1) := by decide +kernel
theorem dX7_behindOrder_83 : decode cX7_behindOrder 83 = .ok (.iconst 2, 1) := by decide +kernel
theorem dX7_behindOrder_84 : decode cX7_behindOrder 84 = .ok (.iadd, 1) := by decide +kernel
theorem dX7_behindOrder_85 : decode cX7_behindOrder 85 = .ok (.invokevirtual 164, 3) := by decide +kernel
theorem dX7_behindOrder_88 : decode cX7_behindOrder 88 = .ok (.iconst 0, 1) := by decide +kernel
theorem dX7_behindOrder_89 : decode cX7_behindOrder 89 = .ok (.bipush 9, 2) := by decide +kernel
theorem dX7_behindOrder_91 : decode cX7_behindOrder 91 = .ok (.invokestatic 36, 3) := by decide +kernel
theorem dX7_behindOrder_94 : decode cX7_behindOrder 94 = .ok (.ifCond .eq 9, 3) := by decide +kernel
theorem dX7_behindOrder_97 : decode cX7_behindOrder 97 = .ok (.iload_n 1, 1) := by decide +kernel
theorem dX7_behindOrder_98 : decode cX7_behindOrder 98 = .ok (.iconst 3, 1) := by decide +kernel
theorem dX7_behindOrder_99 : decode cX7_behindOrder 99 = .ok (.iadd, 1) := by decide +kernel
theorem dX7_behindOrder_100 : decode cX7_behindOrder 100 = .ok (.goto 6, 3) := by decide +kernel
theorem dX7_behindOrder_103 : decode cX7_behindOrder 103 = .ok (.iload_n 1, 1) := by decide +kernel
theorem dX7_behindOrder_104 : decode cX7_behindOrder 104 = .ok (.iconst 2, 1) := by decide +kernel
theorem dX7_behindOrder_105 : decode cX7_behindOrder 105 = .ok (.iadd, 1) := by decide +kernel
theorem dX7_behindOrder_106 : decode cX7_behindOrder 106 = .ok (.ireturn, 1) := by decide +kernel
set_option maxRecDepth 20000 in
theorem ggX7_wrong_X7_behindOrder : GoodIn wsX7_wrong wsX7_behindOrder := goodIn_r _ [7, 8, 9, 10, 6, 11, 1, 2, 12, 13, 14, 15, 16, 17, 18, 19, 20, 21, 22, 23, 24, 25, 26, 27] (by decide +kernel) (by decide +kernel)
set_option maxRecDepth 20000 in
theorem gX7_wrong_X7_behindOrder : GoodIn wsX7_wrong (wsV RX7 167 RX7 yX7_behindOrder wsX7_behindOrder) := goodIn_app (goodIn_of _ (by decide +kernel)) ggX7_wrong_X7_behindOrder
theorem dX7_wrong_0 : decode cX7_wrong 0 = .ok (.iconst 0, 1) := by decide +kernel
theorem dX7_wrong_1 : decode cX7_wrong 1 = .ok (.istore_n 1, 1) := by decide +kernel
theorem dX7_wrong_2 : decode cX7_wrong 2 = .ok (.iconst 1, 1) := by decide +kernel
theorem dX7_wrong_3 : decode cX7_wrong 3 = .ok (.istore_n 2, 1) := by decide +kernel
theorem dX7_wrong_4 : decode cX7_wrong 4 = .ok (.iload_n 2, 1) := by decide +kernel
theorem dX7_wrong_5 : decode cX7_wrong 5 = .ok (.ifCond .eq 63, 3) := by decide +kernel
theorem dX7_wrong_8 : decode cX7_wrong 8 = .ok (.aload_n 0, 1) := by decide +kernel
theorem dX7_wrong_9 : decode cX7_wrong 9 = .ok (.iload_n 1, 1) := by decide +kernel
theorem dX7_wrong_10 : decode cX7_wrong 10 = .ok (.invokevirtual 167, 3) := by decide +kernel
theorem dX7_wrong_13 : decode cX7_wrong 13 = .ok (.istore_n 1, 1) := by decide +kernel
theorem dX7_wrong_14 : decode cX7_wrong 14 = .ok (.iload_n 1, 1) := by decide +kernel
theorem dX7_wrong_15 : decode cX7_wrong 15 = .ok (.ifCond .ge 7, 3) := by decide +kernel
theorem dX7_wrong_18 : decode cX7_wrong 18 = .ok (.iconst (-1), 1) := by decide +kernel
theorem dX7_wrong_19 : decode cX7_wrong 19 = .ok (.iload_n 1, 1) := by decide +kernel
theorem dX7_wrong_20 : decode cX7_wrong 20 = .ok (.isub, 1) := by decide +kernel
theorem dX7_wrong_21 : decode cX7_wrong 21 = .ok (.ireturn, 1) := by decide +kernel
theorem dX7_wrong_22 : decode cX7_wrong 22 = .ok (.iload_n 1, 1) := by decide +kernel
theorem dX7_wrong_23 : decode cX7_wrong 23 = .ok (.aload_n 0, 1) := by decide +kernel
theorem dX7_wrong_24 : decode cX7_wrong 24 = .ok (.getfield 153, 3) := by decide +kernel
theorem dX7_wrong_27 : decode cX7_wrong 27 = .ok (.if_icmp .ge 7, 3) := by decide +kernel
theorem dX7_wrong_30 : decode cX7_wrong 30 = .ok (.iconst 1, 1) := by decide +kernel
theorem dX7_wrong_31 : decode cX7_wrong 31 = .ok (.goto 4, 3) := by decide +kernel
theorem dX7_wrong_34 : decode cX7_wrong 34 = .ok (.iconst 0, 1) := by decide +kernel
theorem dX7_wrong_35 : decode cX7_wrong 35 = .ok (.istore_n 2, 1) := by decide +kernel
theorem dX7_wrong_36 : decode cX7_wrong 36 = .ok (.iload_n 2, 1) := by decide +kernel
theorem dX7_wrong_37 : decode cX7_wrong 37 = .ok (.ifCond .eq 16, 3) := by decide +kernel
theorem dX7_wrong_40 : decode cX7_wrong 40 = .ok (.aload_n 0, 1) := by decide +kernel
theorem dX7_wrong_41 : decode cX7_wrong 41 = .ok (.getfield 26, 3) := by decide +kernel
theorem dX7_wrong_44 : decode cX7_wrong 44 = .ok (.iload_n 1, 1) := by decide +kernel
theorem dX7_wrong_45 : decode cX7_wrong 45 = .ok (.iaload, 1) := by decide +kernel
theorem dX7_wrong_46 : decode cX7_wrong 46 = .ok (.bipush 59, 2) := by decide +kernel
theorem dX7_wrong_48 : decode cX7_wrong 48 = .ok (.if_icmp .eq 5, 3) := by decide +kernel
theorem dX7_wrong_51 : decode cX7_wrong 51 = .ok (.iload_n 1, 1) := by decide +kernel
theorem dX7_wrong_52 : decode cX7_wrong 52 = .ok (.ireturn, 1) := by decide +kernel
theorem dX7_wrong_53 : decode cX7_wrong 53 = .ok (.iload_n 1, 1) := by decide +kernel
theorem dX7_wrong_54 : decode cX7_wrong 54 = .ok (.iload_n 2, 1) := by decide +kernel
theorem dX7_wrong_55 : decode cX7_wrong 55 = .ok (.ifCond .eq 7, 3) := by decide +kernel
theorem dX7_wrong_58 : decode cX7_wrong 58 = .ok (.iconst 1, 1) := by decide +kernel
theorem dX7_wrong_59 : decode cX7_wrong 59 = .ok (.goto 4, 3) := by decide +kernel
theorem dX7_wrong_62 : decode cX7_wrong 62 = .ok (.iconst 0, 1) := by decide +kernel
theorem dX7_wrong_63 : decode cX7_wrong 63 = .ok (.iadd, 1) := by decide +kernel
theorem dX7_wrong_64 : decode cX7_wrong 64 = .ok (.istore_n 1, 1) := by decide +kernel
theorem dX7_wrong_65 : decode cX7_wrong 65 = .ok (.goto (-61), 3) := by decide +kernel
theorem dX7_wrong_68 : decode cX7_wrong 68 = .ok (.bipush (-6), 2) := by decide +kernel
theorem dX7_wrong_70 : decode cX7_wrong 70 = .ok (.ireturn, 1) := by decide +kernel
set_option maxRecDepth 20000 in
theorem ggX7_fault_X7_wrong : GoodIn wsX7_fault wsX7_wrong := goodIn_r _ [5, 6, 7, 8, 9, 10, 4, 11, 12, 13, 14, 15, 16, 17, 18, 19, 20, 21, 22, 23, 24, 25, 26, 27, 28, 29, 30, 31] (by decide +kernel) (by decide +kernel)
set_option maxRecDepth 20000 in
theorem gX7_fault_X7_wrong : GoodIn wsX7_fault (wsV RX7 170 RX7 yX7_wrong wsX7_wrong) := goodIn_app (goodIn_of _ (by decide +kernel)) ggX7_fault_X7_wrong
theorem dX7_fault_0 : decode cX7_fault 0 = .ok (.aload_n 0, 1) := by decide +kernel
theorem dX7_fault_1 : decode cX7_fault 1 = .ok (.invokevirtual 170, 3) := by decide +kernel
theorem dX7_fault_4 : decode cX7_fault 4 = .ok (.ireturn, 1) := by decide +kernel
set_option maxRecDepth 20000 in
theorem ggX7_carryOut_X7_wrong : GoodIn wsX7_carryOut wsX7_wrong := goodIn_r _ [6, 1, 7, 8, 9, 10, 5, 11, 12, 13, 14, 15, 16, 17, 18, 19, 20, 21, 22, 140, 141, 142, 143, 144, 145, 146, 147, 148] (by decide +kernel) (by decide +kernel)
set_option maxRecDepth 20000 in
theorem gX7_carryOut_X7_wrong : GoodIn wsX7_carryOut (wsV RX7 170 RX7 yX7_wrong wsX7_wrong) := goodIn_app (goodIn_of _ (by decide +kernel)) ggX7_carryOut_X7_wrong
set_option maxRecDepth 20000 in
theorem ggX7_carryOut_X7_looks : GoodIn wsX7_carryOut wsX7_looks := goodIn_r _ [26, 27, 28, 140, 141, 142, 143, 144, 145, 146, 147, 148] (by decide +kernel) (by decide +kernel)
set_option maxRecDepth 20000 in
theorem gX7_carryOut_X7_looks : GoodIn wsX7_carryOut (wsV RX7 126 RX7 yX7_looks wsX7_looks) := goodIn_app (goodIn_of _ (by decide +kernel)) ggX7_carryOut_X7_looks
set_option maxRecDepth 20000 in
theorem ggX7_carryOut_X7_records : GoodIn wsX7_carryOut wsX7_records := goodIn_r _ [32, 33, 34, 27, 140, 141, 142, 143, 144, 145, 146, 147, 148] (by decide +kernel) (by decide +kernel)
set_option maxRecDepth 20000 in
theorem gX7_carryOut_X7_records : GoodIn wsX7_carryOut (wsV RX7 132 RX7 yX7_records wsX7_records) := goodIn_app (goodIn_of _ (by decide +kernel)) ggX7_carryOut_X7_records
set_option maxRecDepth 20000 in
theorem ggX7_carryOut_X7_behindOrder : GoodIn wsX7_carryOut wsX7_behindOrder := goodIn_r _ [11, 12, 13, 14, 5, 15, 1, 7, 16, 17, 18, 19, 20, 21, 22, 140, 141, 142, 143, 144, 145, 146, 147, 148] (by decide +kernel) (by decide +kernel)
set_option maxRecDepth 20000 in
theorem gX7_carryOut_X7_behindOrder : GoodIn wsX7_carryOut (wsV RX7 167 RX7 yX7_behindOrder wsX7_behindOrder) := goodIn_app (goodIn_of _ (by decide +kernel)) ggX7_carryOut_X7_behindOrder
set_option maxRecDepth 20000 in
theorem ggX7_carryOut_X7_digitAt : GoodIn wsX7_carryOut wsX7_digitAt := goodIn_r _ [19, 12, 13, 14, 5, 15, 1, 7, 140, 141, 142, 143, 144, 145, 146, 147, 148] (by decide +kernel) (by decide +kernel)
set_option maxRecDepth 20000 in
theorem gX7_carryOut_X7_digitAt : GoodIn wsX7_carryOut (wsV RX7 164 RX7 yX7_digitAt wsX7_digitAt) := goodIn_app (goodIn_of _ (by decide +kernel)) ggX7_carryOut_X7_digitAt
set_option maxRecDepth 20000 in
theorem ggX7_carryOut_X7_charAt : GoodIn wsX7_carryOut wsX7_charAt := goodIn_r _ [15, 1, 7, 140, 141, 142, 143, 144, 145, 146, 147, 148] (by decide +kernel) (by decide +kernel)
set_option maxRecDepth 20000 in
theorem gX7_carryOut_X7_charAt : GoodIn wsX7_carryOut (wsV RX7 161 RX7 yX7_charAt wsX7_charAt) := goodIn_app (goodIn_of _ (by decide +kernel)) ggX7_carryOut_X7_charAt
set_option maxRecDepth 20000 in
theorem ggX7_carryOut_X7_does : GoodIn wsX7_carryOut wsX7_does := goodIn_r _ [38, 39, 40, 41, 5, 42, 28, 43, 44, 45, 20, 21, 22, 46, 47, 48, 49, 50, 51, 52, 53, 54, 55, 56, 57, 58, 59, 60, 61, 62, 63, 64, 65, 66, 67, 68, 69, 70, 71, 72, 73, 74, 75, 76, 77, 78, 79, 80, 81, 82, 83, 84, 85, 86, 87, 88, 89, 90, 91, 92, 93, 94, 95, 96, 97, 98, 99, 100, 101, 102, 103, 104, 105, 106, 107, 108, 109, 110, 111, 112, 113, 114, 115, 116, 117, 118, 119, 120, 121, 122, 123, 124, 125, 126, 127, 128, 129, 130, 131, 132, 133, 134, 135, 136, 137, 138, 139, 140, 141, 142, 143, 144, 145, 146, 147, 148] (by decide +kernel) (by decide +kernel)
set_option maxRecDepth 20000 in
theorem gX7_carryOut_X7_does : GoodIn wsX7_carryOut (wsV RX7 129 RX7 yX7_does wsX7_does) := goodIn_app (goodIn_of _ (by decide +kernel)) ggX7_carryOut_X7_does
theorem dX7_carryOut_0 : decode cX7_carryOut 0 = .ok (.aload_n 0, 1) := by decide +kernel
theorem dX7_carryOut_1 : decode cX7_carryOut 1 = .ok (.invokevirtual 170, 3) := by decide +kernel
theorem dX7_carryOut_4 : decode cX7_carryOut 4 = .ok (.bipush (-6), 2) := by decide +kernel
theorem dX7_carryOut_6 : decode cX7_carryOut 6 = .ok (.if_icmp .eq 6, 3) := by decide +kernel
theorem dX7_carryOut_9 : decode cX7_carryOut 9 = .ok (.bipush (-3), 2) := by decide +kernel
theorem dX7_carryOut_11 : decode cX7_carryOut 11 = .ok (.ireturn, 1) := by decide +kernel
theorem dX7_carryOut_12 : decode cX7_carryOut 12 = .ok (.aload_n 0, 1) := by decide +kernel
theorem dX7_carryOut_13 : decode cX7_carryOut 13 = .ok (.invokevirtual 126, 3) := by decide +kernel
theorem dX7_carryOut_16 : decode cX7_carryOut 16 = .ok (.aload_n 0, 1) := by decide +kernel
theorem dX7_carryOut_17 : decode cX7_carryOut 17 = .ok (.invokevirtual 132, 3) := by decide +kernel
theorem dX7_carryOut_20 : decode cX7_carryOut 20 = .ok (.iconst 0, 1) := by decide +kernel
theorem dX7_carryOut_21 : decode cX7_carryOut 21 = .ok (.istore_n 1, 1) := by decide +kernel
theorem dX7_carryOut_22 : decode cX7_carryOut 22 = .ok (.iconst 0, 1) := by decide +kernel
theorem dX7_carryOut_23 : decode cX7_carryOut 23 = .ok (.istore_n 2, 1) := by decide +kernel
theorem dX7_carryOut_24 : decode cX7_carryOut 24 = .ok (.iconst 1, 1) := by decide +kernel
theorem dX7_carryOut_25 : decode cX7_carryOut 25 = .ok (.istore_n 3, 1) := by decide +kernel
theorem dX7_carryOut_26 : decode cX7_carryOut 26 = .ok (.iload_n 3, 1) := by decide +kernel
theorem dX7_carryOut_27 : decode cX7_carryOut 27 = .ok (.ifCond .eq 96, 3) := by decide +kernel
theorem dX7_carryOut_30 : decode cX7_carryOut 30 = .ok (.iload_n 2, 1) := by decide +kernel
theorem dX7_carryOut_31 : decode cX7_carryOut 31 = .ok (.aload_n 0, 1) := by decide +kernel
theorem dX7_carryOut_32 : decode cX7_carryOut 32 = .ok (.getfield 153, 3) := by decide +kernel
theorem dX7_carryOut_35 : decode cX7_carryOut 35 = .ok (.if_icmp .ge 88, 3) := by decide +kernel
theorem dX7_carryOut_38 : decode cX7_carryOut 38 = .ok (.aload_n 0, 1) := by decide +kernel
theorem dX7_carryOut_39 : decode cX7_carryOut 39 = .ok (.iload_n 2, 1) := by decide +kernel
theorem dX7_carryOut_40 : decode cX7_carryOut 40 = .ok (.invokevirtual 167, 3) := by decide +kernel
theorem dX7_carryOut_43 : decode cX7_carryOut 43 = .ok (.istore 4, 2) := by decide +kernel
theorem dX7_carryOut_45 : decode cX7_carryOut 45 = .ok (.iload 4, 2) := by decide +kernel
theorem dX7_carryOut_47 : decode cX7_carryOut 47 = .ok (.iload_n 2, 1) := by decide +kernel
theorem dX7_carryOut_48 : decode cX7_carryOut 48 = .ok (.iconst 3, 1) := by decide +kernel
theorem dX7_carryOut_49 : decode cX7_carryOut 49 = .ok (.iadd, 1) := by decide +kernel
theorem dX7_carryOut_50 : decode cX7_carryOut 50 = .ok (.if_icmp .ne 24, 3) := by decide +kernel
theorem dX7_carryOut_53 : decode cX7_carryOut 53 = .ok (.bipush 10, 2) := by decide +kernel
theorem dX7_carryOut_55 : decode cX7_carryOut 55 = .ok (.aload_n 0, 1) := by decide +kernel
theorem dX7_carryOut_56 : decode cX7_carryOut 56 = .ok (.iload_n 2, 1) := by decide +kernel
theorem dX7_carryOut_57 : decode cX7_carryOut 57 = .ok (.iconst 1, 1) := by decide +kernel
theorem dX7_carryOut_58 : decode cX7_carryOut 58 = .ok (.iadd, 1) := by decide +kernel
theorem dX7_carryOut_59 : decode cX7_carryOut 59 = .ok (.invokevirtual 164, 3) := by decide +kernel
theorem dX7_carryOut_62 : decode cX7_carryOut 62 = .ok (.imul, 1) := by decide +kernel
theorem dX7_carryOut_63 : decode cX7_carryOut 63 = .ok (.aload_n 0, 1) := by decide +kernel
theorem dX7_carryOut_64 : decode cX7_carryOut 64 = .ok (.iload_n 2, 1) := by decide +kernel
theorem dX7_carryOut_65 : decode cX7_carryOut 65 = .ok (.iconst 2, 1) := by decide +kernel
theorem dX7_carryOut_66 : decode cX7_carryOut 66 = .ok (.iadd, 1) := by decide +kernel
theorem dX7_carryOut_67 : decode cX7_carryOut 67 = .ok (.invokevirtual 164, 3) := by decide +kernel
theorem dX7_carryOut_70 : decode cX7_carryOut 70 = .ok (.iadd, 1) := by decide +kernel
theorem dX7_carryOut_71 : decode cX7_carryOut 71 = .ok (.goto 10, 3) := by decide +kernel
theorem dX7_carryOut_74 : decode cX7_carryOut 74 = .ok (.aload_n 0, 1) := by decide +kernel
theorem dX7_carryOut_75 : decode cX7_carryOut 75 = .ok (.iload_n 2, 1) := by decide +kernel
theorem dX7_carryOut_76 : decode cX7_carryOut 76 = .ok (.iconst 1, 1) := by decide +kernel
theorem dX7_carryOut_77 : decode cX7_carryOut 77 = .ok (.iadd, 1) := by decide +kernel
theorem dX7_carryOut_78 : decode cX7_carryOut 78 = .ok (.invokevirtual 164, 3) := by decide +kernel
theorem dX7_carryOut_81 : decode cX7_carryOut 81 = .ok (.istore 5, 2) := by decide +kernel
theorem dX7_carryOut_83 : decode cX7_carryOut 83 = .ok (.aload_n 0, 1) := by decide +kernel
theorem dX7_carryOut_84 : decode cX7_carryOut 84 = .ok (.aload_n 0, 1) := by decide +kernel
theorem dX7_carryOut_85 : decode cX7_carryOut 85 = .ok (.iload_n 2, 1) := by decide +kernel
theorem dX7_carryOut_86 : decode cX7_carryOut 86 = .ok (.invokevirtual 161, 3) := by decide +kernel
theorem dX7_carryOut_89 : decode cX7_carryOut 89 = .ok (.iload 5, 2) := by decide +kernel
theorem dX7_carryOut_91 : decode cX7_carryOut 91 = .ok (.invokevirtual 129, 3) := by decide +kernel
theorem dX7_carryOut_94 : decode cX7_carryOut 94 = .ok (.ifCond .lt 7, 3) := by decide +kernel
theorem dX7_carryOut_97 : decode cX7_carryOut 97 = .ok (.iconst 1, 1) := by decide +kernel
theorem dX7_carryOut_98 : decode cX7_carryOut 98 = .ok (.goto 4, 3) := by decide +kernel
theorem dX7_carryOut_101 : decode cX7_carryOut 101 = .ok (.iconst 0, 1) := by decide +kernel
theorem dX7_carryOut_102 : decode cX7_carryOut 102 = .ok (.istore_n 3, 1) := by decide +kernel
theorem dX7_carryOut_103 : decode cX7_carryOut 103 = .ok (.iload_n 1, 1) := by decide +kernel
theorem dX7_carryOut_104 : decode cX7_carryOut 104 = .ok (.iload_n 3, 1) := by decide +kernel
theorem dX7_carryOut_105 : decode cX7_carryOut 105 = .ok (.ifCond .eq 7, 3) := by decide +kernel
theorem dX7_carryOut_108 : decode cX7_carryOut 108 = .ok (.iconst 1, 1) := by decide +kernel
theorem dX7_carryOut_109 : decode cX7_carryOut 109 = .ok (.goto 4, 3) := by decide +kernel
theorem dX7_carryOut_112 : decode cX7_carryOut 112 = .ok (.iconst 0, 1) := by decide +kernel
theorem dX7_carryOut_113 : decode cX7_carryOut 113 = .ok (.iadd, 1) := by decide +kernel
theorem dX7_carryOut_114 : decode cX7_carryOut 114 = .ok (.istore_n 1, 1) := by decide +kernel
theorem dX7_carryOut_115 : decode cX7_carryOut 115 = .ok (.iload 4, 2) := by decide +kernel
theorem dX7_carryOut_117 : decode cX7_carryOut 117 = .ok (.iconst 1, 1) := by decide +kernel
theorem dX7_carryOut_118 : decode cX7_carryOut 118 = .ok (.iadd, 1) := by decide +kernel
theorem dX7_carryOut_119 : decode cX7_carryOut 119 = .ok (.istore_n 2, 1) := by decide +kernel
theorem dX7_carryOut_120 : decode cX7_carryOut 120 = .ok (.goto (-94), 3) := by decide +kernel
theorem dX7_carryOut_123 : decode cX7_carryOut 123 = .ok (.aload_n 0, 1) := by decide +kernel
theorem dX7_carryOut_124 : decode cX7_carryOut 124 = .ok (.iconst 0, 1) := by decide +kernel
theorem dX7_carryOut_125 : decode cX7_carryOut 125 = .ok (.putfield 153, 3) := by decide +kernel
theorem dX7_carryOut_128 : decode cX7_carryOut 128 = .ok (.iload_n 1, 1) := by decide +kernel
theorem dX7_carryOut_129 : decode cX7_carryOut 129 = .ok (.ireturn, 1) := by decide +kernel
theorem dX7_undo_0 : decode cX7_undo 0 = .ok (.aload_n 0, 1) := by decide +kernel
theorem dX7_undo_1 : decode cX7_undo 1 = .ok (.getfield 54, 3) := by decide +kernel
theorem dX7_undo_4 : decode cX7_undo 4 = .ok (.ifCond .ne 6, 3) := by decide +kernel
theorem dX7_undo_7 : decode cX7_undo 7 = .ok (.bipush (-5), 2) := by decide +kernel
theorem dX7_undo_9 : decode cX7_undo 9 = .ok (.ireturn, 1) := by decide +kernel
theorem dX7_undo_10 : decode cX7_undo 10 = .ok (.aload_n 0, 1) := by decide +kernel
theorem dX7_undo_11 : decode cX7_undo 11 = .ok (.dup, 1) := by decide +kernel
theorem dX7_undo_12 : decode cX7_undo 12 = .ok (.getfield 54, 3) := by decide +kernel
theorem dX7_undo_15 : decode cX7_undo 15 = .ok (.iconst 1, 1) := by decide +kernel
theorem dX7_undo_16 : decode cX7_undo 16 = .ok (.isub, 1) := by decide +kernel
theorem dX7_undo_17 : decode cX7_undo 17 = .ok (.putfield 54, 3) := by decide +kernel
theorem dX7_undo_20 : decode cX7_undo 20 = .ok (.iconst 0, 1) := by decide +kernel
theorem dX7_undo_21 : decode cX7_undo 21 = .ok (.istore_n 1, 1) := by decide +kernel
theorem dX7_undo_22 : decode cX7_undo 22 = .ok (.iload_n 1, 1) := by decide +kernel
theorem dX7_undo_23 : decode cX7_undo 23 = .ok (.sipush 246, 3) := by decide +kernel
theorem dX7_undo_26 : decode cX7_undo 26 = .ok (.if_icmp .ge 30, 3) := by decide +kernel
theorem dX7_undo_29 : decode cX7_undo 29 = .ok (.aload_n 0, 1) := by decide +kernel
theorem dX7_undo_30 : decode cX7_undo 30 = .ok (.getfield 7, 3) := by decide +kernel
theorem dX7_undo_33 : decode cX7_undo 33 = .ok (.iload_n 1, 1) := by decide +kernel
theorem dX7_undo_34 : decode cX7_undo 34 = .ok (.aload_n 0, 1) := by decide +kernel
theorem dX7_undo_35 : decode cX7_undo 35 = .ok (.getfield 16, 3) := by decide +kernel
theorem dX7_undo_38 : decode cX7_undo 38 = .ok (.sipush 246, 3) := by decide +kernel
theorem dX7_undo_41 : decode cX7_undo 41 = .ok (.aload_n 0, 1) := by decide +kernel
theorem dX7_undo_42 : decode cX7_undo 42 = .ok (.getfield 54, 3) := by decide +kernel
theorem dX7_undo_45 : decode cX7_undo 45 = .ok (.imul, 1) := by decide +kernel
theorem dX7_undo_46 : decode cX7_undo 46 = .ok (.iload_n 1, 1) := by decide +kernel
theorem dX7_undo_47 : decode cX7_undo 47 = .ok (.iadd, 1) := by decide +kernel
theorem dX7_undo_48 : decode cX7_undo 48 = .ok (.iaload, 1) := by decide +kernel
theorem dX7_undo_49 : decode cX7_undo 49 = .ok (.iastore, 1) := by decide +kernel
theorem dX7_undo_50 : decode cX7_undo 50 = .ok (.iinc 1 1, 3) := by decide +kernel
theorem dX7_undo_53 : decode cX7_undo 53 = .ok (.goto (-31), 3) := by decide +kernel
theorem dX7_undo_56 : decode cX7_undo 56 = .ok (.aload_n 0, 1) := by decide +kernel
theorem dX7_undo_57 : decode cX7_undo 57 = .ok (.getfield 54, 3) := by decide +kernel
theorem dX7_undo_60 : decode cX7_undo 60 = .ok (.ireturn, 1) := by decide +kernel
set_option maxRecDepth 20000 in
theorem ggX7_save_X7_in : GoodIn wsX7_save wsX7_in := goodIn_r _ [7] (by decide +kernel) (by decide +kernel)
set_option maxRecDepth 20000 in
theorem gX7_save_X7_in : GoodIn wsX7_save (va_wsS RX7 36 yX7_in wsX7_in) := goodIn_app (goodIn_of _ (by decide +kernel)) ggX7_save_X7_in
set_option maxRecDepth 20000 in
theorem ggX7_save_X7_left : GoodIn wsX7_save wsX7_left := goodIn_r _ [11, 12, 13, 14, 6, 15, 2, 16, 17, 18, 19, 20, 21, 22, 23, 24] (by decide +kernel) (by decide +kernel)
set_option maxRecDepth 20000 in
theorem gX7_save_X7_left : GoodIn wsX7_save (wsV RX7 71 RX7 yX7_left wsX7_left) := goodIn_app (goodIn_of _ (by decide +kernel)) ggX7_save_X7_left
theorem dX7_save_0 : decode cX7_save 0 = .ok (.iload_n 1, 1) := by decide +kernel
theorem dX7_save_1 : decode cX7_save 1 = .ok (.iconst 0, 1) := by decide +kernel
theorem dX7_save_2 : decode cX7_save 2 = .ok (.iconst 1, 1) := by decide +kernel
theorem dX7_save_3 : decode cX7_save 3 = .ok (.invokestatic 36, 3) := by decide +kernel
theorem dX7_save_6 : decode cX7_save 6 = .ok (.ifCond .ne 6, 3) := by decide +kernel
theorem dX7_save_9 : decode cX7_save 9 = .ok (.bipush (-2), 2) := by decide +kernel
theorem dX7_save_11 : decode cX7_save 11 = .ok (.ireturn, 1) := by decide +kernel
theorem dX7_save_12 : decode cX7_save 12 = .ok (.iconst 0, 1) := by decide +kernel
theorem dX7_save_13 : decode cX7_save 13 = .ok (.istore_n 2, 1) := by decide +kernel
theorem dX7_save_14 : decode cX7_save 14 = .ok (.iload_n 2, 1) := by decide +kernel
theorem dX7_save_15 : decode cX7_save 15 = .ok (.sipush 246, 3) := by decide +kernel
theorem dX7_save_18 : decode cX7_save 18 = .ok (.if_icmp .ge 27, 3) := by decide +kernel
theorem dX7_save_21 : decode cX7_save 21 = .ok (.aload_n 0, 1) := by decide +kernel
theorem dX7_save_22 : decode cX7_save 22 = .ok (.getfield 19, 3) := by decide +kernel
theorem dX7_save_25 : decode cX7_save 25 = .ok (.sipush 246, 3) := by decide +kernel
theorem dX7_save_28 : decode cX7_save 28 = .ok (.iload_n 1, 1) := by decide +kernel
theorem dX7_save_29 : decode cX7_save 29 = .ok (.imul, 1) := by decide +kernel
theorem dX7_save_30 : decode cX7_save 30 = .ok (.iload_n 2, 1) := by decide +kernel
theorem dX7_save_31 : decode cX7_save 31 = .ok (.iadd, 1) := by decide +kernel
theorem dX7_save_32 : decode cX7_save 32 = .ok (.aload_n 0, 1) := by decide +kernel
theorem dX7_save_33 : decode cX7_save 33 = .ok (.getfield 7, 3) := by decide +kernel
theorem dX7_save_36 : decode cX7_save 36 = .ok (.iload_n 2, 1) := by decide +kernel
theorem dX7_save_37 : decode cX7_save 37 = .ok (.iaload, 1) := by decide +kernel
theorem dX7_save_38 : decode cX7_save 38 = .ok (.iastore, 1) := by decide +kernel
theorem dX7_save_39 : decode cX7_save 39 = .ok (.iinc 2 1, 3) := by decide +kernel
theorem dX7_save_42 : decode cX7_save 42 = .ok (.goto (-28), 3) := by decide +kernel
theorem dX7_save_45 : decode cX7_save 45 = .ok (.aload_n 0, 1) := by decide +kernel
theorem dX7_save_46 : decode cX7_save 46 = .ok (.getfield 22, 3) := by decide +kernel
theorem dX7_save_49 : decode cX7_save 49 = .ok (.iload_n 1, 1) := by decide +kernel
theorem dX7_save_50 : decode cX7_save 50 = .ok (.iconst 1, 1) := by decide +kernel
theorem dX7_save_51 : decode cX7_save 51 = .ok (.bastore, 1) := by decide +kernel
theorem dX7_save_52 : decode cX7_save 52 = .ok (.aload_n 0, 1) := by decide +kernel
theorem dX7_save_53 : decode cX7_save 53 = .ok (.invokevirtual 71, 3) := by decide +kernel
theorem dX7_save_56 : decode cX7_save 56 = .ok (.ireturn, 1) := by decide +kernel
set_option maxRecDepth 20000 in
theorem ggX7_restore_X7_in : GoodIn wsX7_restore wsX7_in := goodIn_r _ [7] (by decide +kernel) (by decide +kernel)
set_option maxRecDepth 20000 in
theorem gX7_restore_X7_in : GoodIn wsX7_restore (va_wsS RX7 36 yX7_in wsX7_in) := goodIn_app (goodIn_of _ (by decide +kernel)) ggX7_restore_X7_in
set_option maxRecDepth 20000 in
theorem ggX7_restore_X7_looks : GoodIn wsX7_restore wsX7_looks := goodIn_r _ [11, 12, 2, 27, 28, 29, 30, 31, 32, 33, 34, 35] (by decide +kernel) (by decide +kernel)
set_option maxRecDepth 20000 in
theorem gX7_restore_X7_looks : GoodIn wsX7_restore (wsV RX7 126 RX7 yX7_looks wsX7_looks) := goodIn_app (goodIn_of _ (by decide +kernel)) ggX7_restore_X7_looks
set_option maxRecDepth 20000 in
theorem ggX7_restore_X7_records : GoodIn wsX7_restore wsX7_records := goodIn_r _ [16, 17, 18, 12, 27, 28, 29, 30, 31, 32, 33, 34, 35] (by decide +kernel) (by decide +kernel)
set_option maxRecDepth 20000 in
theorem gX7_restore_X7_records : GoodIn wsX7_restore (wsV RX7 132 RX7 yX7_records wsX7_records) := goodIn_app (goodIn_of _ (by decide +kernel)) ggX7_restore_X7_records
set_option maxRecDepth 20000 in
theorem ggX7_restore_X7_left : GoodIn wsX7_restore wsX7_left := goodIn_r _ [22, 23, 24, 25, 6, 26, 2, 27, 28, 29, 30, 31, 32, 33, 34, 35] (by decide +kernel) (by decide +kernel)
set_option maxRecDepth 20000 in
theorem gX7_restore_X7_left : GoodIn wsX7_restore (wsV RX7 71 RX7 yX7_left wsX7_left) := goodIn_app (goodIn_of _ (by decide +kernel)) ggX7_restore_X7_left
theorem dX7_restore_0 : decode cX7_restore 0 = .ok (.iload_n 1, 1) := by decide +kernel
theorem dX7_restore_1 : decode cX7_restore 1 = .ok (.iconst 0, 1) := by decide +kernel
theorem dX7_restore_2 : decode cX7_restore 2 = .ok (.iconst 1, 1) := by decide +kernel
theorem dX7_restore_3 : decode cX7_restore 3 = .ok (.invokestatic 36, 3) := by decide +kernel
theorem dX7_restore_6 : decode cX7_restore 6 = .ok (.ifCond .ne 6, 3) := by decide +kernel
theorem dX7_restore_9 : decode cX7_restore 9 = .ok (.bipush (-2), 2) := by decide +kernel
theorem dX7_restore_11 : decode cX7_restore 11 = .ok (.ireturn, 1) := by decide +kernel
theorem dX7_restore_12 : decode cX7_restore 12 = .ok (.aload_n 0, 1) := by decide +kernel
theorem dX7_restore_13 : decode cX7_restore 13 = .ok (.getfield 22, 3) := by decide +kernel
theorem dX7_restore_16 : decode cX7_restore 16 = .ok (.iload_n 1, 1) := by decide +kernel
theorem dX7_restore_17 : decode cX7_restore 17 = .ok (.baload, 1) := by decide +kernel
theorem dX7_restore_18 : decode cX7_restore 18 = .ok (.ifCond .ne 6, 3) := by decide +kernel
theorem dX7_restore_21 : decode cX7_restore 21 = .ok (.bipush (-5), 2) := by decide +kernel
theorem dX7_restore_23 : decode cX7_restore 23 = .ok (.ireturn, 1) := by decide +kernel
theorem dX7_restore_24 : decode cX7_restore 24 = .ok (.aload_n 0, 1) := by decide +kernel
theorem dX7_restore_25 : decode cX7_restore 25 = .ok (.invokevirtual 126, 3) := by decide +kernel
theorem dX7_restore_28 : decode cX7_restore 28 = .ok (.aload_n 0, 1) := by decide +kernel
theorem dX7_restore_29 : decode cX7_restore 29 = .ok (.invokevirtual 132, 3) := by decide +kernel
theorem dX7_restore_32 : decode cX7_restore 32 = .ok (.iconst 0, 1) := by decide +kernel
theorem dX7_restore_33 : decode cX7_restore 33 = .ok (.istore_n 2, 1) := by decide +kernel
theorem dX7_restore_34 : decode cX7_restore 34 = .ok (.iload_n 2, 1) := by decide +kernel
theorem dX7_restore_35 : decode cX7_restore 35 = .ok (.sipush 246, 3) := by decide +kernel
theorem dX7_restore_38 : decode cX7_restore 38 = .ok (.if_icmp .ge 27, 3) := by decide +kernel
theorem dX7_restore_41 : decode cX7_restore 41 = .ok (.aload_n 0, 1) := by decide +kernel
theorem dX7_restore_42 : decode cX7_restore 42 = .ok (.getfield 7, 3) := by decide +kernel
theorem dX7_restore_45 : decode cX7_restore 45 = .ok (.iload_n 2, 1) := by decide +kernel
theorem dX7_restore_46 : decode cX7_restore 46 = .ok (.aload_n 0, 1) := by decide +kernel
theorem dX7_restore_47 : decode cX7_restore 47 = .ok (.getfield 19, 3) := by decide +kernel
theorem dX7_restore_50 : decode cX7_restore 50 = .ok (.sipush 246, 3) := by decide +kernel
theorem dX7_restore_53 : decode cX7_restore 53 = .ok (.iload_n 1, 1) := by decide +kernel
theorem dX7_restore_54 : decode cX7_restore 54 = .ok (.imul, 1) := by decide +kernel
theorem dX7_restore_55 : decode cX7_restore 55 = .ok (.iload_n 2, 1) := by decide +kernel
theorem dX7_restore_56 : decode cX7_restore 56 = .ok (.iadd, 1) := by decide +kernel
theorem dX7_restore_57 : decode cX7_restore 57 = .ok (.iaload, 1) := by decide +kernel
theorem dX7_restore_58 : decode cX7_restore 58 = .ok (.iastore, 1) := by decide +kernel
theorem dX7_restore_59 : decode cX7_restore 59 = .ok (.iinc 2 1, 3) := by decide +kernel
theorem dX7_restore_62 : decode cX7_restore 62 = .ok (.goto (-28), 3) := by decide +kernel
theorem dX7_restore_65 : decode cX7_restore 65 = .ok (.aload_n 0, 1) := by decide +kernel
theorem dX7_restore_66 : decode cX7_restore 66 = .ok (.invokevirtual 71, 3) := by decide +kernel
theorem dX7_restore_69 : decode cX7_restore 69 = .ok (.ireturn, 1) := by decide +kernel
theorem dJ13_bitCount_95d88_0 : decode cJ13_bitCount_95d88 0 = .ok (.lload_n 0, 1) := by decide +kernel
theorem dJ13_bitCount_95d88_1 : decode cJ13_bitCount_95d88 1 = .ok (.lload_n 0, 1) := by decide +kernel
theorem dJ13_bitCount_95d88_2 : decode cJ13_bitCount_95d88 2 = .ok (.iconst 1, 1) := by decide +kernel
theorem dJ13_bitCount_95d88_3 : decode cJ13_bitCount_95d88 3 = .ok (.lushr, 1) := by decide +kernel
theorem dJ13_bitCount_95d88_4 : decode cJ13_bitCount_95d88 4 = .ok (.ldc2_w 314, 3) := by decide +kernel
theorem dJ13_bitCount_95d88_7 : decode cJ13_bitCount_95d88 7 = .ok (.land, 1) := by decide +kernel
theorem dJ13_bitCount_95d88_8 : decode cJ13_bitCount_95d88 8 = .ok (.lsub, 1) := by decide +kernel
theorem dJ13_bitCount_95d88_9 : decode cJ13_bitCount_95d88 9 = .ok (.lstore_n 0, 1) := by decide +kernel
theorem dJ13_bitCount_95d88_10 : decode cJ13_bitCount_95d88 10 = .ok (.lload_n 0, 1) := by decide +kernel
theorem dJ13_bitCount_95d88_11 : decode cJ13_bitCount_95d88 11 = .ok (.ldc2_w 316, 3) := by decide +kernel
theorem dJ13_bitCount_95d88_14 : decode cJ13_bitCount_95d88 14 = .ok (.land, 1) := by decide +kernel
theorem dJ13_bitCount_95d88_15 : decode cJ13_bitCount_95d88 15 = .ok (.lload_n 0, 1) := by decide +kernel
theorem dJ13_bitCount_95d88_16 : decode cJ13_bitCount_95d88 16 = .ok (.iconst 2, 1) := by decide +kernel
theorem dJ13_bitCount_95d88_17 : decode cJ13_bitCount_95d88 17 = .ok (.lushr, 1) := by decide +kernel
theorem dJ13_bitCount_95d88_18 : decode cJ13_bitCount_95d88 18 = .ok (.ldc2_w 316, 3) := by decide +kernel
theorem dJ13_bitCount_95d88_21 : decode cJ13_bitCount_95d88 21 = .ok (.land, 1) := by decide +kernel
theorem dJ13_bitCount_95d88_22 : decode cJ13_bitCount_95d88 22 = .ok (.ladd, 1) := by decide +kernel
theorem dJ13_bitCount_95d88_23 : decode cJ13_bitCount_95d88 23 = .ok (.lstore_n 0, 1) := by decide +kernel
theorem dJ13_bitCount_95d88_24 : decode cJ13_bitCount_95d88 24 = .ok (.lload_n 0, 1) := by decide +kernel
theorem dJ13_bitCount_95d88_25 : decode cJ13_bitCount_95d88 25 = .ok (.lload_n 0, 1) := by decide +kernel
theorem dJ13_bitCount_95d88_26 : decode cJ13_bitCount_95d88 26 = .ok (.iconst 4, 1) := by decide +kernel
theorem dJ13_bitCount_95d88_27 : decode cJ13_bitCount_95d88 27 = .ok (.lushr, 1) := by decide +kernel
theorem dJ13_bitCount_95d88_28 : decode cJ13_bitCount_95d88 28 = .ok (.ladd, 1) := by decide +kernel
theorem dJ13_bitCount_95d88_29 : decode cJ13_bitCount_95d88 29 = .ok (.ldc2_w 318, 3) := by decide +kernel
theorem dJ13_bitCount_95d88_32 : decode cJ13_bitCount_95d88 32 = .ok (.land, 1) := by decide +kernel
theorem dJ13_bitCount_95d88_33 : decode cJ13_bitCount_95d88 33 = .ok (.lstore_n 0, 1) := by decide +kernel
theorem dJ13_bitCount_95d88_34 : decode cJ13_bitCount_95d88 34 = .ok (.lload_n 0, 1) := by decide +kernel
theorem dJ13_bitCount_95d88_35 : decode cJ13_bitCount_95d88 35 = .ok (.lload_n 0, 1) := by decide +kernel
theorem dJ13_bitCount_95d88_36 : decode cJ13_bitCount_95d88 36 = .ok (.bipush 8, 2) := by decide +kernel
theorem dJ13_bitCount_95d88_38 : decode cJ13_bitCount_95d88 38 = .ok (.lushr, 1) := by decide +kernel
theorem dJ13_bitCount_95d88_39 : decode cJ13_bitCount_95d88 39 = .ok (.ladd, 1) := by decide +kernel
theorem dJ13_bitCount_95d88_40 : decode cJ13_bitCount_95d88 40 = .ok (.lstore_n 0, 1) := by decide +kernel
theorem dJ13_bitCount_95d88_41 : decode cJ13_bitCount_95d88 41 = .ok (.lload_n 0, 1) := by decide +kernel
theorem dJ13_bitCount_95d88_42 : decode cJ13_bitCount_95d88 42 = .ok (.lload_n 0, 1) := by decide +kernel
theorem dJ13_bitCount_95d88_43 : decode cJ13_bitCount_95d88 43 = .ok (.bipush 16, 2) := by decide +kernel
theorem dJ13_bitCount_95d88_45 : decode cJ13_bitCount_95d88 45 = .ok (.lushr, 1) := by decide +kernel
theorem dJ13_bitCount_95d88_46 : decode cJ13_bitCount_95d88 46 = .ok (.ladd, 1) := by decide +kernel
theorem dJ13_bitCount_95d88_47 : decode cJ13_bitCount_95d88 47 = .ok (.lstore_n 0, 1) := by decide +kernel
theorem dJ13_bitCount_95d88_48 : decode cJ13_bitCount_95d88 48 = .ok (.lload_n 0, 1) := by decide +kernel
theorem dJ13_bitCount_95d88_49 : decode cJ13_bitCount_95d88 49 = .ok (.lload_n 0, 1) := by decide +kernel
theorem dJ13_bitCount_95d88_50 : decode cJ13_bitCount_95d88 50 = .ok (.bipush 32, 2) := by decide +kernel
theorem dJ13_bitCount_95d88_52 : decode cJ13_bitCount_95d88 52 = .ok (.lushr, 1) := by decide +kernel
theorem dJ13_bitCount_95d88_53 : decode cJ13_bitCount_95d88 53 = .ok (.ladd, 1) := by decide +kernel
theorem dJ13_bitCount_95d88_54 : decode cJ13_bitCount_95d88 54 = .ok (.lstore_n 0, 1) := by decide +kernel
theorem dJ13_bitCount_95d88_55 : decode cJ13_bitCount_95d88 55 = .ok (.lload_n 0, 1) := by decide +kernel
theorem dJ13_bitCount_95d88_56 : decode cJ13_bitCount_95d88 56 = .ok (.l2i, 1) := by decide +kernel
theorem dJ13_bitCount_95d88_57 : decode cJ13_bitCount_95d88 57 = .ok (.bipush 127, 2) := by decide +kernel
theorem dJ13_bitCount_95d88_59 : decode cJ13_bitCount_95d88 59 = .ok (.iand, 1) := by decide +kernel
theorem dJ13_bitCount_95d88_60 : decode cJ13_bitCount_95d88 60 = .ok (.ireturn, 1) := by decide +kernel
set_option maxRecDepth 20000 in
theorem ggL_law_X6_init : GoodIn wsL_law wsX6_init := goodIn_r _ [9, 10, 11, 12, 13, 14, 15, 16, 17, 18, 19, 20, 21, 22, 23, 24, 25, 26, 27, 28, 29, 30, 31, 32, 33, 34, 35, 36, 37, 38, 39, 40, 41, 42, 43, 44, 45, 46, 47, 48, 49, 50, 51, 52, 53, 54, 55, 56, 57, 58, 59, 60, 61, 62, 63, 64, 65, 66, 67, 68, 69, 70, 71, 72, 73, 74, 75, 76, 77, 78, 79, 80, 81, 82, 83, 84, 85, 86, 87, 88, 89, 90, 91, 92, 783, 784, 785, 786, 787, 769, 770, 771, 772, 773, 788, 789, 790, 791, 792, 793, 794, 795, 796, 797, 798, 799, 800, 801, 802, 803, 804, 805, 806, 807, 808] (by decide +kernel) (by decide +kernel)
set_option maxRecDepth 20000 in
theorem gL_law_X6_init : GoodIn wsL_law (wsX6_init) := ggL_law_X6_init
set_option maxRecDepth 20000 in
theorem ggL_law_X7_init : GoodIn wsL_law wsX7_init := goodIn_r _ [95, 96, 11, 12, 47, 97, 98, 99, 100, 101, 102, 103, 104, 105, 106, 5, 107, 774, 775, 776, 777, 778, 779, 780, 781, 782] (by decide +kernel) (by decide +kernel)
set_option maxRecDepth 20000 in
theorem gL_law_X7_init : GoodIn wsL_law (wsX7_init) := ggL_law_X7_init
set_option maxRecDepth 20000 in
theorem ggL_law_X6_chalk : GoodIn wsL_law wsX6_chalk := goodIn_r _ [111, 112, 113, 114, 2, 115, 20, 16, 116, 117, 118, 19, 119, 78, 120, 121, 122, 15, 123, 37, 41, 42, 124, 125, 126, 127, 128, 36, 129, 48, 49, 130, 56, 54, 131, 132, 133, 40, 134, 70, 135, 136, 71, 137, 138, 139, 140, 141, 142, 143, 144, 145, 146, 147, 148, 149, 150, 151, 152, 153, 154, 155, 156, 157, 158, 159, 160, 161, 162, 163, 164, 165, 166, 167, 168, 169, 58, 59, 170, 171, 172, 173, 63, 64, 65, 60, 61, 62, 174, 175, 176, 177, 178, 179, 180, 181, 182, 183, 184, 185, 186, 187, 188, 189, 190, 191, 192, 193, 194, 195, 196, 197, 198, 199, 200, 201, 202, 203, 204, 205, 206, 207, 208, 209, 57, 210, 211, 212, 213, 214, 215, 216, 217, 218, 219, 220, 221, 222, 223, 224, 225, 226, 227, 55, 228, 229, 230, 231, 232, 233, 234, 51, 52, 53, 235, 236, 237, 238, 239, 240, 241, 242, 243, 244, 245, 246, 247, 248, 249, 250, 251, 252, 253, 254, 255, 256, 257, 258, 259, 260, 261, 262, 263, 264, 265, 266, 267, 268, 269, 270, 271, 272, 273, 274, 275, 276, 77, 277, 278, 279, 280, 769, 770, 771, 772, 773, 788, 789, 790, 783, 784, 785, 786, 787, 795, 796, 797, 798, 799, 800, 801, 802, 803, 804, 805, 806, 807, 808] (by decide +kernel) (by decide +kernel)
set_option maxRecDepth 20000 in
theorem gL_law_X6_chalk : GoodIn wsL_law (wsV RL 13 RX6 yX6_chalk wsX6_chalk) := goodIn_app (goodIn_of _ (by decide +kernel)) ggL_law_X6_chalk
set_option maxRecDepth 20000 in
theorem ggL_law_X7_chalk : GoodIn wsL_law wsX7_chalk := goodIn_r _ [284, 285, 286, 287, 5, 288, 289, 290, 291, 292, 98, 97, 293, 294, 295, 296, 297, 298, 299, 300, 301, 302, 303, 304, 305, 306, 307, 308, 309, 310, 311, 312, 313, 314, 315, 316, 317, 318, 319, 320, 321, 322, 323, 324, 325, 326, 327, 328, 329, 330, 331, 332, 333, 334, 335, 336, 337, 338, 339, 340, 105, 106, 107, 341, 342, 343, 344, 345, 346, 347, 348, 349, 350, 351, 352, 104, 353, 354, 355, 356, 357, 358, 359, 360, 361, 362, 363, 364, 365, 366, 367, 368, 369, 370, 371, 372, 373, 374, 375, 376, 377, 378, 379, 380, 381, 382, 383, 384, 385, 386, 387, 388, 389, 390, 391, 392, 393, 394, 395, 396, 397, 398, 399, 400, 401, 99, 774, 775, 776, 777, 778, 779, 780, 781, 782] (by decide +kernel) (by decide +kernel)
set_option maxRecDepth 20000 in
theorem gL_law_X7_chalk : GoodIn wsL_law (wsV RL 17 RX7 yX7_chalk wsX7_chalk) := goodIn_app (goodIn_of _ (by decide +kernel)) ggL_law_X7_chalk
set_option maxRecDepth 20000 in
theorem ggL_law_X6_snip : GoodIn wsL_law wsX6_snip := goodIn_r _ [405, 112, 113, 114, 2, 115, 20, 16, 116, 117, 118, 19, 119, 78, 120, 121, 122, 15, 123, 37, 41, 42, 124, 125, 126, 127, 128, 36, 129, 48, 49, 130, 56, 54, 131, 132, 133, 40, 134, 70, 135, 136, 71, 137, 138, 139, 140, 141, 142, 143, 144, 145, 146, 147, 148, 149, 150, 151, 152, 153, 154, 155, 156, 157, 158, 159, 160, 161, 162, 163, 164, 165, 166, 167, 168, 169, 58, 59, 170, 171, 172, 173, 63, 64, 65, 60, 61, 62, 174, 175, 176, 177, 178, 179, 180, 181, 182, 183, 184, 185, 186, 187, 188, 189, 190, 191, 192, 193, 194, 195, 196, 197, 198, 199, 200, 201, 202, 203, 204, 205, 206, 207, 208, 209, 57, 210, 211, 212, 213, 214, 215, 216, 217, 218, 219, 220, 221, 222, 223, 224, 225, 226, 227, 55, 228, 229, 230, 231, 232, 233, 234, 51, 52, 53, 235, 236, 237, 238, 239, 240, 241, 242, 243, 244, 245, 246, 247, 248, 249, 250, 251, 252, 253, 254, 255, 256, 257, 258, 259, 260, 261, 262, 263, 264, 265, 266, 267, 268, 269, 270, 271, 272, 273, 274, 275, 276, 77, 277, 278, 279, 280, 769, 770, 771, 772, 773, 788, 789, 790, 783, 784, 785, 786, 787, 795, 796, 797, 798, 799, 800, 801, 802, 803, 804, 805, 806, 807, 808] (by decide +kernel) (by decide +kernel)
set_option maxRecDepth 20000 in
theorem gL_law_X6_snip : GoodIn wsL_law (wsV RL 18 RX6 yX6_snip wsX6_snip) := goodIn_app (goodIn_of _ (by decide +kernel)) ggL_law_X6_snip
set_option maxRecDepth 20000 in
theorem ggL_law_X7_snip : GoodIn wsL_law wsX7_snip := goodIn_r _ [409, 285, 286, 287, 5, 288, 289, 290, 291, 292, 98, 97, 293, 294, 295, 296, 297, 298, 299, 300, 301, 302, 303, 304, 305, 306, 307, 308, 309, 310, 311, 312, 313, 314, 315, 316, 317, 318, 319, 320, 321, 322, 323, 324, 325, 326, 327, 328, 329, 330, 331, 332, 333, 334, 335, 336, 337, 338, 339, 340, 105, 106, 107, 341, 342, 343, 344, 345, 346, 347, 348, 349, 350, 351, 352, 104, 353, 354, 355, 356, 357, 358, 359, 360, 361, 362, 363, 364, 365, 366, 367, 368, 369, 370, 371, 372, 373, 374, 375, 376, 377, 378, 379, 380, 381, 382, 383, 384, 385, 386, 387, 388, 389, 390, 391, 392, 393, 394, 395, 396, 397, 398, 399, 400, 401, 99, 774, 775, 776, 777, 778, 779, 780, 781, 782] (by decide +kernel) (by decide +kernel)
set_option maxRecDepth 20000 in
theorem gL_law_X7_snip : GoodIn wsL_law (wsV RL 21 RX7 yX7_snip wsX7_snip) := goodIn_app (goodIn_of _ (by decide +kernel)) ggL_law_X7_snip
set_option maxRecDepth 20000 in
theorem ggL_law_X6_sew : GoodIn wsL_law wsX6_sew := goodIn_r _ [413, 112, 113, 114, 2, 115, 20, 16, 116, 117, 118, 19, 119, 78, 120, 121, 122, 15, 123, 37, 41, 42, 124, 125, 126, 127, 128, 36, 129, 48, 49, 130, 56, 54, 131, 132, 133, 40, 134, 70, 135, 136, 71, 137, 138, 139, 140, 141, 142, 143, 144, 145, 146, 147, 148, 149, 150, 151, 152, 153, 154, 155, 156, 157, 158, 159, 160, 161, 162, 163, 164, 165, 166, 167, 168, 169, 58, 59, 170, 171, 172, 173, 63, 64, 65, 60, 61, 62, 174, 175, 176, 177, 178, 179, 180, 181, 182, 183, 184, 185, 186, 187, 188, 189, 190, 191, 192, 193, 194, 195, 196, 197, 198, 199, 200, 201, 202, 203, 204, 205, 206, 207, 208, 209, 57, 210, 211, 212, 213, 214, 215, 216, 217, 218, 219, 220, 221, 222, 223, 224, 225, 226, 227, 55, 228, 229, 230, 231, 232, 233, 234, 51, 52, 53, 235, 236, 237, 238, 239, 240, 241, 242, 243, 244, 245, 246, 247, 248, 249, 250, 251, 252, 253, 254, 255, 256, 257, 258, 259, 260, 261, 262, 263, 264, 265, 266, 267, 268, 269, 270, 271, 272, 273, 274, 275, 276, 77, 277, 278, 279, 280, 769, 770, 771, 772, 773, 788, 789, 790, 783, 784, 785, 786, 787, 795, 796, 797, 798, 799, 800, 801, 802, 803, 804, 805, 806, 807, 808] (by decide +kernel) (by decide +kernel)
set_option maxRecDepth 20000 in
theorem gL_law_X6_sew : GoodIn wsL_law (wsV RL 22 RX6 yX6_sew wsX6_sew) := goodIn_app (goodIn_of _ (by decide +kernel)) ggL_law_X6_sew
set_option maxRecDepth 20000 in
theorem ggL_law_X7_sew : GoodIn wsL_law wsX7_sew := goodIn_r _ [417, 285, 286, 287, 5, 288, 289, 290, 291, 292, 98, 97, 293, 294, 295, 296, 297, 298, 299, 300, 301, 302, 303, 304, 305, 306, 307, 308, 309, 310, 311, 312, 313, 314, 315, 316, 317, 318, 319, 320, 321, 322, 323, 324, 325, 326, 327, 328, 329, 330, 331, 332, 333, 334, 335, 336, 337, 338, 339, 340, 105, 106, 107, 341, 342, 343, 344, 345, 346, 347, 348, 349, 350, 351, 352, 104, 353, 354, 355, 356, 357, 358, 359, 360, 361, 362, 363, 364, 365, 366, 367, 368, 369, 370, 371, 372, 373, 374, 375, 376, 377, 378, 379, 380, 381, 382, 383, 384, 385, 386, 387, 388, 389, 390, 391, 392, 393, 394, 395, 396, 397, 398, 399, 400, 401, 99, 774, 775, 776, 777, 778, 779, 780, 781, 782] (by decide +kernel) (by decide +kernel)
set_option maxRecDepth 20000 in
theorem gL_law_X7_sew : GoodIn wsL_law (wsV RL 25 RX7 yX7_sew wsX7_sew) := goodIn_app (goodIn_of _ (by decide +kernel)) ggL_law_X7_sew
set_option maxRecDepth 20000 in
theorem ggL_law_X6_bluff : GoodIn wsL_law wsX6_bluff := goodIn_r _ [421, 112, 113, 114, 2, 115, 20, 16, 116, 117, 118, 19, 119, 78, 120, 121, 122, 15, 123, 37, 41, 42, 124, 125, 126, 127, 128, 36, 129, 48, 49, 130, 56, 54, 131, 132, 133, 40, 134, 70, 135, 136, 71, 137, 138, 139, 140, 141, 142, 143, 144, 145, 146, 147, 148, 149, 150, 151, 152, 153, 154, 155, 156, 157, 158, 159, 160, 161, 162, 163, 164, 165, 166, 167, 168, 169, 58, 59, 170, 171, 172, 173, 63, 64, 65, 60, 61, 62, 174, 175, 176, 177, 178, 179, 180, 181, 182, 183, 184, 185, 186, 187, 188, 189, 190, 191, 192, 193, 194, 195, 196, 197, 198, 199, 200, 201, 202, 203, 204, 205, 206, 207, 208, 209, 57, 210, 211, 212, 213, 214, 215, 216, 217, 218, 219, 220, 221, 222, 223, 224, 225, 226, 227, 55, 228, 229, 230, 231, 232, 233, 234, 51, 52, 53, 235, 236, 237, 238, 239, 240, 241, 242, 243, 244, 245, 246, 247, 248, 249, 250, 251, 252, 253, 254, 255, 256, 257, 258, 259, 260, 261, 262, 263, 264, 265, 266, 267, 268, 269, 270, 271, 272, 273, 274, 275, 276, 77, 277, 278, 279, 280, 769, 770, 771, 772, 773, 788, 789, 790, 783, 784, 785, 786, 787, 795, 796, 797, 798, 799, 800, 801, 802, 803, 804, 805, 806, 807, 808] (by decide +kernel) (by decide +kernel)
set_option maxRecDepth 20000 in
theorem gL_law_X6_bluff : GoodIn wsL_law (wsV RL 26 RX6 yX6_bluff wsX6_bluff) := goodIn_app (goodIn_of _ (by decide +kernel)) ggL_law_X6_bluff
set_option maxRecDepth 20000 in
theorem ggL_law_X7_bluff : GoodIn wsL_law wsX7_bluff := goodIn_r _ [425, 285, 286, 287, 5, 288, 289, 290, 291, 292, 98, 97, 293, 294, 295, 296, 297, 298, 299, 300, 301, 302, 303, 304, 305, 306, 307, 308, 309, 310, 311, 312, 313, 314, 315, 316, 317, 318, 319, 320, 321, 322, 323, 324, 325, 326, 327, 328, 329, 330, 331, 332, 333, 334, 335, 336, 337, 338, 339, 340, 105, 106, 107, 341, 342, 343, 344, 345, 346, 347, 348, 349, 350, 351, 352, 104, 353, 354, 355, 356, 357, 358, 359, 360, 361, 362, 363, 364, 365, 366, 367, 368, 369, 370, 371, 372, 373, 374, 375, 376, 377, 378, 379, 380, 381, 382, 383, 384, 385, 386, 387, 388, 389, 390, 391, 392, 393, 394, 395, 396, 397, 398, 399, 400, 401, 99, 774, 775, 776, 777, 778, 779, 780, 781, 782] (by decide +kernel) (by decide +kernel)
set_option maxRecDepth 20000 in
theorem gL_law_X7_bluff : GoodIn wsL_law (wsV RL 29 RX7 yX7_bluff wsX7_bluff) := goodIn_app (goodIn_of _ (by decide +kernel)) ggL_law_X7_bluff
set_option maxRecDepth 20000 in
theorem ggL_law_X6_doubt : GoodIn wsL_law wsX6_doubt := goodIn_r _ [429, 112, 113, 114, 2, 115, 20, 16, 116, 117, 118, 19, 119, 78, 120, 121, 122, 15, 123, 37, 41, 42, 124, 125, 126, 127, 128, 36, 129, 48, 49, 130, 56, 54, 131, 132, 133, 40, 134, 70, 135, 136, 71, 137, 138, 139, 140, 141, 142, 143, 144, 145, 146, 147, 148, 149, 150, 151, 152, 153, 154, 155, 156, 157, 158, 159, 160, 161, 162, 163, 164, 165, 166, 167, 168, 169, 58, 59, 170, 171, 172, 173, 63, 64, 65, 60, 61, 62, 174, 175, 176, 177, 178, 179, 180, 181, 182, 183, 184, 185, 186, 187, 188, 189, 190, 191, 192, 193, 194, 195, 196, 197, 198, 199, 200, 201, 202, 203, 204, 205, 206, 207, 208, 209, 57, 210, 211, 212, 213, 214, 215, 216, 217, 218, 219, 220, 221, 222, 223, 224, 225, 226, 227, 55, 228, 229, 230, 231, 232, 233, 234, 51, 52, 53, 235, 236, 237, 238, 239, 240, 241, 242, 243, 244, 245, 246, 247, 248, 249, 250, 251, 252, 253, 254, 255, 256, 257, 258, 259, 260, 261, 262, 263, 264, 265, 266, 267, 268, 269, 270, 271, 272, 273, 274, 275, 276, 77, 277, 278, 279, 280, 769, 770, 771, 772, 773, 788, 789, 790, 783, 784, 785, 786, 787, 795, 796, 797, 798, 799, 800, 801, 802, 803, 804, 805, 806, 807, 808] (by decide +kernel) (by decide +kernel)
set_option maxRecDepth 20000 in
theorem gL_law_X6_doubt : GoodIn wsL_law (wsV RL 30 RX6 yX6_doubt wsX6_doubt) := goodIn_app (goodIn_of _ (by decide +kernel)) ggL_law_X6_doubt
set_option maxRecDepth 20000 in
theorem ggL_law_X7_doubt : GoodIn wsL_law wsX7_doubt := goodIn_r _ [433, 285, 286, 287, 5, 288, 289, 290, 291, 292, 98, 97, 293, 294, 295, 296, 297, 298, 299, 300, 301, 302, 303, 304, 305, 306, 307, 308, 309, 310, 311, 312, 313, 314, 315, 316, 317, 318, 319, 320, 321, 322, 323, 324, 325, 326, 327, 328, 329, 330, 331, 332, 333, 334, 335, 336, 337, 338, 339, 340, 105, 106, 107, 341, 342, 343, 344, 345, 346, 347, 348, 349, 350, 351, 352, 104, 353, 354, 355, 356, 357, 358, 359, 360, 361, 362, 363, 364, 365, 366, 367, 368, 369, 370, 371, 372, 373, 374, 375, 376, 377, 378, 379, 380, 381, 382, 383, 384, 385, 386, 387, 388, 389, 390, 391, 392, 393, 394, 395, 396, 397, 398, 399, 400, 401, 99, 774, 775, 776, 777, 778, 779, 780, 781, 782] (by decide +kernel) (by decide +kernel)
set_option maxRecDepth 20000 in
theorem gL_law_X7_doubt : GoodIn wsL_law (wsV RL 33 RX7 yX7_doubt wsX7_doubt) := goodIn_app (goodIn_of _ (by decide +kernel)) ggL_law_X7_doubt
set_option maxRecDepth 20000 in
theorem ggL_law_X6_pass : GoodIn wsL_law wsX6_pass := goodIn_r _ [437, 112, 113, 114, 2, 115, 20, 16, 116, 117, 118, 19, 119, 78, 120, 121, 122, 15, 123, 37, 41, 42, 124, 125, 126, 127, 128, 36, 129, 48, 49, 130, 56, 54, 131, 132, 133, 40, 134, 70, 135, 136, 71, 137, 138, 139, 140, 141, 142, 143, 144, 145, 146, 147, 148, 149, 150, 151, 152, 153, 154, 155, 156, 157, 158, 159, 160, 161, 162, 163, 164, 165, 166, 167, 168, 169, 58, 59, 170, 171, 172, 173, 63, 64, 65, 60, 61, 62, 174, 175, 176, 177, 178, 179, 180, 181, 182, 183, 184, 185, 186, 187, 188, 189, 190, 191, 192, 193, 194, 195, 196, 197, 198, 199, 200, 201, 202, 203, 204, 205, 206, 207, 208, 209, 57, 210, 211, 212, 213, 214, 215, 216, 217, 218, 219, 220, 221, 222, 223, 224, 225, 226, 227, 55, 228, 229, 230, 231, 232, 233, 234, 51, 52, 53, 235, 236, 237, 238, 239, 240, 241, 242, 243, 244, 245, 246, 247, 248, 249, 250, 251, 252, 253, 254, 255, 256, 257, 258, 259, 260, 261, 262, 263, 264, 265, 266, 267, 268, 269, 270, 271, 272, 273, 274, 275, 276, 77, 277, 278, 279, 280, 769, 770, 771, 772, 773, 788, 789, 790, 783, 784, 785, 786, 787, 795, 796, 797, 798, 799, 800, 801, 802, 803, 804, 805, 806, 807, 808] (by decide +kernel) (by decide +kernel)
set_option maxRecDepth 20000 in
theorem gL_law_X6_pass : GoodIn wsL_law (wsV RL 34 RX6 yX6_pass wsX6_pass) := goodIn_app (goodIn_of _ (by decide +kernel)) ggL_law_X6_pass
set_option maxRecDepth 20000 in
theorem ggL_law_X7_pass : GoodIn wsL_law wsX7_pass := goodIn_r _ [441, 285, 286, 287, 5, 288, 289, 290, 291, 292, 98, 97, 293, 294, 295, 296, 297, 298, 299, 300, 301, 302, 303, 304, 305, 306, 307, 308, 309, 310, 311, 312, 313, 314, 315, 316, 317, 318, 319, 320, 321, 322, 323, 324, 325, 326, 327, 328, 329, 330, 331, 332, 333, 334, 335, 336, 337, 338, 339, 340, 105, 106, 107, 341, 342, 343, 344, 345, 346, 347, 348, 349, 350, 351, 352, 104, 353, 354, 355, 356, 357, 358, 359, 360, 361, 362, 363, 364, 365, 366, 367, 368, 369, 370, 371, 372, 373, 374, 375, 376, 377, 378, 379, 380, 381, 382, 383, 384, 385, 386, 387, 388, 389, 390, 391, 392, 393, 394, 395, 396, 397, 398, 399, 400, 401, 99, 774, 775, 776, 777, 778, 779, 780, 781, 782] (by decide +kernel) (by decide +kernel)
set_option maxRecDepth 20000 in
theorem gL_law_X7_pass : GoodIn wsL_law (wsV RL 38 RX7 yX7_pass wsX7_pass) := goodIn_app (goodIn_of _ (by decide +kernel)) ggL_law_X7_pass
set_option maxRecDepth 20000 in
theorem ggL_law_X6_of : GoodIn wsL_law wsX6_of := goodIn_r _ [445, 16, 446, 447, 58, 36, 59, 448, 207, 208, 209, 48, 57, 449, 171, 172, 173, 130, 63, 64, 65, 60, 61, 62, 174, 175, 176, 450, 451, 2, 452, 453, 454, 232, 233, 455, 456, 457, 15, 458, 41, 42, 190, 191, 192, 40, 193, 135, 70, 459, 460, 461, 462, 37, 150, 151, 152, 153, 125, 154, 155, 156, 157, 158, 159, 160, 161, 162, 163, 164, 170, 268, 269, 270, 271, 49, 463, 187, 188, 189, 54, 56, 769, 770, 771, 772, 773, 783, 784, 785, 786, 787, 795, 796, 797, 798, 799, 800, 801, 802, 803, 804, 805, 806, 807, 808] (by decide +kernel) (by decide +kernel)
set_option maxRecDepth 20000 in
theorem gL_law_X6_of : GoodIn wsL_law (wsV RL 39 RX6 yX6_of wsX6_of) := goodIn_app (goodIn_of _ (by decide +kernel)) ggL_law_X6_of
set_option maxRecDepth 20000 in
theorem ggL_law_X7_of : GoodIn wsL_law wsX7_of := goodIn_r _ [467, 97, 301, 302, 5, 303, 304, 305, 306, 323, 324, 325, 326, 327, 328, 329, 315, 316, 317, 318, 330, 331, 332, 333, 334, 335, 336, 337, 338, 339, 340, 105, 106, 107, 341, 342, 343, 344, 319, 320, 321, 322, 774, 775, 776, 777, 778, 779, 780, 781, 782] (by decide +kernel) (by decide +kernel)
set_option maxRecDepth 20000 in
theorem gL_law_X7_of : GoodIn wsL_law (wsV RL 43 RX7 yX7_of wsX7_of) := goodIn_app (goodIn_of _ (by decide +kernel)) ggL_law_X7_of
set_option maxRecDepth 20000 in
theorem ggL_law_X6_cell : GoodIn wsL_law wsX6_cell := goodIn_r _ [471, 16, 446, 472, 473, 36, 474, 475, 476, 477, 478, 130, 174, 175, 176, 450, 451, 2, 452, 479, 480, 481, 482, 56, 54, 483, 228, 229, 230, 484, 159, 160, 161, 162, 163, 164, 485, 486, 487, 488, 489, 490, 491, 492, 493, 494, 187, 188, 189, 63, 64, 65, 60, 61, 62, 231, 232, 233, 769, 770, 771, 772, 773, 783, 784, 785, 786, 787, 795, 796, 797, 798, 799] (by decide +kernel) (by decide +kernel)
set_option maxRecDepth 20000 in
theorem gL_law_X6_cell : GoodIn wsL_law (wsV RL 44 RX6 yX6_cell wsX6_cell) := goodIn_app (goodIn_of _ (by decide +kernel)) ggL_law_X6_cell
set_option maxRecDepth 20000 in
theorem ggL_law_X7_cell : GoodIn wsL_law wsX7_cell := goodIn_r _ [498, 499, 500, 5, 501, 304, 305, 306, 315, 316, 317, 318, 97, 502, 503, 504, 505, 104, 365, 366, 367, 368, 319, 320, 321, 322, 323, 324, 325, 326, 327, 328, 329, 330, 331, 332, 369, 370, 371, 372, 506, 507, 508, 509, 774, 775, 776, 777, 778, 779, 780, 781, 782] (by decide +kernel) (by decide +kernel)
set_option maxRecDepth 20000 in
theorem gL_law_X7_cell : GoodIn wsL_law (wsV RL 47 RX7 yX7_cell wsX7_cell) := goodIn_app (goodIn_of _ (by decide +kernel)) ggL_law_X7_cell
set_option maxRecDepth 20000 in
theorem ggL_law_X6_player : GoodIn wsL_law wsX6_player := goodIn_r _ [513, 16, 514, 515, 516, 517, 518, 519, 520, 521, 522, 523, 15, 524, 525, 183, 184, 185, 41, 42, 769, 770, 771, 772, 773, 800, 801, 802, 803, 804, 805, 806, 807, 808, 783, 784, 785, 786, 787] (by decide +kernel) (by decide +kernel)
set_option maxRecDepth 20000 in
theorem gL_law_X6_player : GoodIn wsL_law (wsV RL 48 RX6 yX6_player wsX6_player) := goodIn_app (goodIn_of _ (by decide +kernel)) ggL_law_X6_player
set_option maxRecDepth 20000 in
theorem ggL_law_X7_player : GoodIn wsL_law wsX7_player := goodIn_r _ [529, 97, 304, 305, 5, 306, 105, 106, 107, 774, 775, 776, 777, 778, 779, 780, 781, 782] (by decide +kernel) (by decide +kernel)
set_option maxRecDepth 20000 in
theorem gL_law_X7_player : GoodIn wsL_law (wsV RL 51 RX7 yX7_player wsX7_player) := goodIn_app (goodIn_of _ (by decide +kernel)) ggL_law_X7_player
set_option maxRecDepth 20000 in
theorem ggL_law_X6_chalked : GoodIn wsL_law wsX6_chalked := goodIn_r _ [533, 16, 522, 523, 15, 524, 525, 183, 184, 185, 41, 42, 534, 535, 536, 40, 537, 135, 70, 769, 770, 771, 772, 773, 783, 784, 785, 786, 787, 800, 801, 802, 803, 804, 805, 806, 807, 808] (by decide +kernel) (by decide +kernel)
set_option maxRecDepth 20000 in
theorem gL_law_X6_chalked : GoodIn wsL_law (wsV RL 52 RX6 yX6_chalked wsX6_chalked) := goodIn_app (goodIn_of _ (by decide +kernel)) ggL_law_X6_chalked
set_option maxRecDepth 20000 in
theorem ggL_law_X7_chalked : GoodIn wsL_law wsX7_chalked := goodIn_r _ [541, 97, 304, 305, 5, 306, 105, 106, 107, 341, 342, 343, 344, 774, 775, 776, 777, 778, 779, 780, 781, 782] (by decide +kernel) (by decide +kernel)
set_option maxRecDepth 20000 in
theorem gL_law_X7_chalked : GoodIn wsL_law (wsV RL 55 RX7 yX7_chalked wsX7_chalked) := goodIn_app (goodIn_of _ (by decide +kernel)) ggL_law_X7_chalked
set_option maxRecDepth 20000 in
theorem ggL_law_X6_count : GoodIn wsL_law wsX6_count := goodIn_r _ [545, 16, 546, 547, 446, 29, 548, 20, 549, 550, 151, 152, 15, 153, 125, 37, 154, 155, 156, 36, 157, 130, 158, 159, 160, 161, 162, 163, 164, 450, 451, 2, 452, 551, 552, 553, 554, 41, 214, 42, 150, 555, 556, 557, 558, 559, 174, 175, 176, 489, 480, 481, 482, 56, 54, 483, 476, 477, 478, 228, 229, 230, 560, 258, 259, 260, 48, 261, 171, 172, 173, 63, 64, 65, 60, 61, 62, 769, 770, 771, 772, 773, 783, 784, 785, 786, 787, 793, 794, 788, 789, 790, 795, 796, 797, 798, 799, 800, 801, 802, 803, 804, 805, 806, 807, 808] (by decide +kernel) (by decide +kernel)
set_option maxRecDepth 20000 in
theorem gL_law_X6_count : GoodIn wsL_law (wsV RL 56 RX6 yX6_count wsX6_count) := goodIn_app (goodIn_of _ (by decide +kernel)) ggL_law_X6_count
set_option maxRecDepth 20000 in
theorem ggL_law_X7_count : GoodIn wsL_law wsX7_count := goodIn_r _ [564, 97, 565, 401, 307, 308, 309, 5, 310, 311, 312, 313, 314, 315, 316, 317, 318, 566, 567, 568, 569, 105, 106, 107, 570, 571, 572, 573, 104, 365, 366, 367, 368, 319, 320, 321, 322, 323, 324, 325, 326, 327, 328, 329, 330, 331, 332, 385, 386, 387, 388, 774, 775, 776, 777, 778, 779, 780, 781, 782] (by decide +kernel) (by decide +kernel)
set_option maxRecDepth 20000 in
theorem gL_law_X7_count : GoodIn wsL_law (wsV RL 59 RX7 yX7_count wsX7_count) := goodIn_app (goodIn_of _ (by decide +kernel)) ggL_law_X7_count
set_option maxRecDepth 20000 in
theorem ggL_law_X6_why : GoodIn wsL_law wsX6_why := goodIn_r _ [577, 16, 447, 58, 36, 59, 578, 203, 204, 15, 205, 37, 150, 151, 152, 153, 125, 154, 155, 156, 157, 130, 158, 159, 160, 161, 162, 163, 164, 170, 171, 172, 173, 63, 64, 65, 60, 61, 62, 174, 175, 176, 206, 207, 208, 209, 48, 57, 769, 770, 771, 772, 773, 783, 784, 785, 786, 787, 795, 796, 797, 798, 799] (by decide +kernel) (by decide +kernel)
set_option maxRecDepth 20000 in
theorem gL_law_X6_why : GoodIn wsL_law (wsV RL 60 RX6 yX6_why wsX6_why) := goodIn_app (goodIn_of _ (by decide +kernel)) ggL_law_X6_why
set_option maxRecDepth 20000 in
theorem ggL_law_X7_why : GoodIn wsL_law wsX7_why := goodIn_r _ [582, 301, 302, 5, 303, 304, 305, 306, 353, 354, 355, 356, 97, 307, 308, 309, 310, 311, 312, 313, 314, 315, 316, 317, 318, 323, 324, 325, 326, 327, 328, 329, 330, 331, 332, 774, 775, 776, 777, 778, 779, 780, 781, 782] (by decide +kernel) (by decide +kernel)
set_option maxRecDepth 20000 in
theorem gL_law_X7_why : GoodIn wsL_law (wsV RL 63 RX7 yX7_why wsX7_why) := goodIn_app (goodIn_of _ (by decide +kernel)) ggL_law_X7_why
set_option maxRecDepth 20000 in
theorem ggL_law_X6_ifSnipped : GoodIn wsL_law wsX6_ifSnipped := goodIn_r _ [586, 16, 446, 447, 58, 36, 59, 578, 203, 204, 15, 205, 37, 150, 151, 152, 153, 125, 154, 155, 156, 157, 130, 158, 159, 160, 161, 162, 163, 164, 170, 171, 172, 173, 63, 64, 65, 60, 61, 62, 174, 175, 176, 206, 207, 208, 209, 48, 57, 587, 225, 226, 227, 56, 55, 54, 228, 229, 230, 231, 232, 233, 484, 769, 770, 771, 772, 773, 783, 784, 785, 786, 787, 795, 796, 797, 798, 799] (by decide +kernel) (by decide +kernel)
set_option maxRecDepth 20000 in
theorem gL_law_X6_ifSnipped : GoodIn wsL_law (wsV RL 64 RX6 yX6_ifSnipped wsX6_ifSnipped) := goodIn_app (goodIn_of _ (by decide +kernel)) ggL_law_X6_ifSnipped
set_option maxRecDepth 20000 in
theorem ggL_law_X7_ifSnipped : GoodIn wsL_law wsX7_ifSnipped := goodIn_r _ [591, 301, 302, 5, 303, 304, 305, 306, 353, 354, 355, 356, 97, 307, 308, 309, 310, 311, 312, 313, 314, 315, 316, 317, 318, 323, 324, 325, 326, 327, 328, 329, 330, 331, 332, 592, 593, 594, 595, 361, 362, 363, 364, 104, 365, 366, 367, 368, 319, 320, 321, 322, 369, 370, 371, 372, 774, 775, 776, 777, 778, 779, 780, 781, 782] (by decide +kernel) (by decide +kernel)
set_option maxRecDepth 20000 in
theorem gL_law_X7_ifSnipped : GoodIn wsL_law (wsV RL 67 RX7 yX7_ifSnipped wsX7_ifSnipped) := goodIn_app (goodIn_of _ (by decide +kernel)) ggL_law_X7_ifSnipped
set_option maxRecDepth 20000 in
theorem ggL_law_X6_bestSnip : GoodIn wsL_law wsX6_bestSnip := goodIn_r _ [599, 16, 600, 601, 602, 15, 603, 202, 203, 204, 205, 37, 150, 151, 152, 153, 125, 154, 155, 156, 36, 157, 130, 158, 159, 160, 161, 162, 163, 164, 170, 171, 172, 173, 63, 64, 65, 60, 61, 62, 174, 175, 176, 206, 207, 208, 209, 48, 57, 58, 59, 604, 605, 606, 607, 124, 182, 183, 184, 185, 41, 42, 190, 191, 192, 40, 193, 135, 70, 224, 225, 226, 227, 56, 55, 54, 228, 229, 230, 231, 232, 233, 243, 608, 769, 770, 771, 772, 773, 783, 784, 785, 786, 787, 795, 796, 797, 798, 799, 800, 801, 802, 803, 804, 805, 806, 807, 808] (by decide +kernel) (by decide +kernel)
set_option maxRecDepth 20000 in
theorem gL_law_X6_bestSnip : GoodIn wsL_law (wsV RL 68 RX6 yX6_bestSnip wsX6_bestSnip) := goodIn_app (goodIn_of _ (by decide +kernel)) ggL_law_X6_bestSnip
set_option maxRecDepth 20000 in
theorem ggL_law_X7_bestSnip : GoodIn wsL_law wsX7_bestSnip := goodIn_r _ [612, 97, 304, 305, 5, 306, 353, 354, 355, 356, 307, 308, 309, 310, 311, 312, 313, 314, 315, 316, 317, 318, 323, 324, 325, 326, 327, 328, 329, 330, 331, 332, 592, 593, 594, 595, 361, 362, 363, 364, 104, 365, 366, 367, 368, 319, 320, 321, 322, 369, 370, 371, 372, 333, 334, 335, 336, 337, 338, 339, 340, 105, 106, 107, 341, 342, 343, 344, 774, 775, 776, 777, 778, 779, 780, 781, 782] (by decide +kernel) (by decide +kernel)
set_option maxRecDepth 20000 in
theorem gL_law_X7_bestSnip : GoodIn wsL_law (wsV RL 71 RX7 yX7_bestSnip wsX7_bestSnip) := goodIn_app (goodIn_of _ (by decide +kernel)) ggL_law_X7_bestSnip
set_option maxRecDepth 20000 in
theorem ggL_law_X6_weak : GoodIn wsL_law wsX6_weak := goodIn_r _ [616, 16, 446, 550, 151, 152, 15, 153, 125, 37, 154, 155, 156, 36, 157, 130, 158, 159, 160, 161, 162, 163, 164, 617, 618, 619, 620, 494, 187, 188, 189, 54, 56, 63, 64, 65, 60, 61, 62, 174, 175, 176, 621, 225, 226, 227, 55, 228, 229, 230, 231, 232, 233, 769, 770, 771, 772, 773, 783, 784, 785, 786, 787, 795, 796, 797, 798, 799] (by decide +kernel) (by decide +kernel)
set_option maxRecDepth 20000 in
theorem gL_law_X6_weak : GoodIn wsL_law (wsV RL 72 RX6 yX6_weak wsX6_weak) := goodIn_app (goodIn_of _ (by decide +kernel)) ggL_law_X6_weak
set_option maxRecDepth 20000 in
theorem ggL_law_X7_weak : GoodIn wsL_law wsX7_weak := goodIn_r _ [625, 307, 308, 309, 5, 310, 97, 311, 312, 313, 314, 315, 316, 317, 318, 319, 320, 321, 322, 323, 324, 325, 326, 327, 328, 329, 330, 331, 332, 592, 593, 594, 595, 361, 362, 363, 364, 104, 365, 366, 367, 368, 369, 370, 371, 372, 774, 775, 776, 777, 778, 779, 780, 781, 782] (by decide +kernel) (by decide +kernel)
set_option maxRecDepth 20000 in
theorem gL_law_X7_weak : GoodIn wsL_law (wsV RL 75 RX7 yX7_weak wsX7_weak) := goodIn_app (goodIn_of _ (by decide +kernel)) ggL_law_X7_weak
set_option maxRecDepth 20000 in
theorem ggL_law_X6_together : GoodIn wsL_law wsX6_together := goodIn_r _ [629, 16, 446, 472, 473, 36, 474, 475, 476, 477, 478, 130, 174, 175, 176, 479, 480, 481, 482, 56, 54, 483, 228, 229, 230, 630, 631, 632, 633, 48, 261, 171, 172, 173, 63, 64, 65, 60, 61, 62, 634, 450, 451, 2, 452, 769, 770, 771, 772, 773, 783, 784, 785, 786, 787, 795, 796, 797, 798, 799] (by decide +kernel) (by decide +kernel)
set_option maxRecDepth 20000 in
theorem gL_law_X6_together : GoodIn wsL_law (wsV RL 76 RX6 yX6_together wsX6_together) := goodIn_app (goodIn_of _ (by decide +kernel)) ggL_law_X6_together
set_option maxRecDepth 20000 in
theorem ggL_law_X7_together : GoodIn wsL_law wsX7_together := goodIn_r _ [638, 104, 499, 500, 5, 501, 304, 305, 306, 315, 316, 317, 318, 97, 365, 366, 367, 368, 319, 320, 321, 322, 323, 324, 325, 326, 327, 328, 329, 330, 331, 332, 774, 775, 776, 777, 778, 779, 780, 781, 782] (by decide +kernel) (by decide +kernel)
set_option maxRecDepth 20000 in
theorem gL_law_X7_together : GoodIn wsL_law (wsV RL 80 RX7 yX7_together wsX7_together) := goodIn_app (goodIn_of _ (by decide +kernel)) ggL_law_X7_together
set_option maxRecDepth 20000 in
theorem ggL_law_X6_put : GoodIn wsL_law wsX6_put := goodIn_r _ [642, 29, 643, 644, 645, 28, 646, 647, 92, 648, 649, 650, 651, 652, 653, 769, 770, 771, 772, 773, 793, 794] (by decide +kernel) (by decide +kernel)
set_option maxRecDepth 20000 in
theorem gL_law_X6_put : GoodIn wsL_law (wsV RL 83 RX6 yX6_put wsX6_put) := goodIn_app (goodIn_of _ (by decide +kernel)) ggL_law_X6_put
set_option maxRecDepth 20000 in
theorem ggL_law_X7_put : GoodIn wsL_law wsX7_put := goodIn_r _ [657, 658, 565, 103, 304, 305, 5, 306, 774, 775, 776, 777, 778, 779, 780, 781, 782] (by decide +kernel) (by decide +kernel)
set_option maxRecDepth 20000 in
theorem gL_law_X7_put : GoodIn wsL_law (wsV RL 87 RX7 yX7_put wsX7_put) := goodIn_app (goodIn_of _ (by decide +kernel)) ggL_law_X7_put
set_option maxRecDepth 20000 in
theorem ggL_law_X6_wipe : GoodIn wsL_law wsX6_wipe := goodIn_r _ [662, 29, 663, 664, 665, 28, 666, 647, 769, 770, 771, 772, 773, 793, 794] (by decide +kernel) (by decide +kernel)
set_option maxRecDepth 20000 in
theorem gL_law_X6_wipe : GoodIn wsL_law (wsV RL 88 RX6 yX6_wipe wsX6_wipe) := goodIn_app (goodIn_of _ (by decide +kernel)) ggL_law_X6_wipe
set_option maxRecDepth 20000 in
theorem ggL_law_X7_wipe : GoodIn wsL_law wsX7_wipe := goodIn_r _ [670, 565, 774, 775, 776, 777, 778, 779, 780, 781, 782] (by decide +kernel) (by decide +kernel)
set_option maxRecDepth 20000 in
theorem gL_law_X7_wipe : GoodIn wsL_law (wsV RL 91 RX7 yX7_wipe wsX7_wipe) := goodIn_app (goodIn_of _ (by decide +kernel)) ggL_law_X7_wipe
set_option maxRecDepth 20000 in
theorem ggL_law_X6_fault : GoodIn wsL_law wsX6_fault := goodIn_r _ [674, 29, 675, 676, 677, 28, 678, 647, 92, 679, 680, 681, 682, 683, 684, 685, 686, 687, 769, 770, 771, 772, 773, 793, 794] (by decide +kernel) (by decide +kernel)
set_option maxRecDepth 20000 in
theorem gL_law_X6_fault : GoodIn wsL_law (wsV RL 92 RX6 yX6_fault wsX6_fault) := goodIn_app (goodIn_of _ (by decide +kernel)) ggL_law_X6_fault
set_option maxRecDepth 20000 in
theorem ggL_law_X7_fault : GoodIn wsL_law wsX7_fault := goodIn_r _ [691, 692, 693, 694, 5, 695, 565, 103, 696, 697, 698, 699, 700, 701, 702, 703, 704, 705, 706, 707, 304, 305, 306, 774, 775, 776, 777, 778, 779, 780, 781, 782] (by decide +kernel) (by decide +kernel)
set_option maxRecDepth 20000 in
theorem gL_law_X7_fault : GoodIn wsL_law (wsV RL 95 RX7 yX7_fault wsX7_fault) := goodIn_app (goodIn_of _ (by decide +kernel)) ggL_law_X7_fault
set_option maxRecDepth 20000 in
theorem ggL_law_X6_carryOut : GoodIn wsL_law wsX6_carryOut := goodIn_r _ [711, 29, 20, 16, 675, 676, 677, 28, 678, 647, 92, 679, 680, 681, 682, 683, 684, 685, 686, 687, 116, 117, 118, 19, 119, 78, 120, 121, 122, 15, 123, 37, 41, 42, 124, 125, 126, 127, 128, 36, 129, 48, 49, 130, 56, 54, 131, 132, 133, 40, 134, 70, 135, 136, 71, 137, 138, 139, 140, 141, 272, 273, 274, 275, 276, 77, 277, 278, 279, 280, 712, 713, 714, 2, 715, 548, 716, 717, 718, 719, 142, 143, 144, 145, 146, 147, 148, 149, 150, 151, 152, 153, 154, 155, 156, 157, 158, 159, 160, 161, 162, 163, 164, 165, 166, 167, 168, 169, 58, 59, 170, 171, 172, 173, 63, 64, 65, 60, 61, 62, 174, 175, 176, 177, 178, 179, 180, 181, 182, 183, 184, 185, 186, 187, 188, 189, 190, 191, 192, 193, 194, 195, 196, 197, 198, 199, 200, 201, 202, 203, 204, 205, 206, 207, 208, 209, 57, 210, 211, 212, 213, 214, 215, 216, 217, 218, 219, 220, 221, 222, 223, 224, 225, 226, 227, 55, 228, 229, 230, 231, 232, 233, 234, 51, 52, 53, 235, 236, 237, 238, 239, 240, 241, 242, 243, 244, 245, 246, 247, 248, 249, 250, 251, 252, 253, 254, 255, 256, 257, 258, 259, 260, 261, 262, 263, 264, 265, 266, 267, 268, 269, 270, 271, 720, 663, 664, 665, 666, 769, 770, 771, 772, 773, 793, 794, 788, 789, 790, 783, 784, 785, 786, 787, 795, 796, 797, 798, 799, 800, 801, 802, 803, 804, 805, 806, 807, 808] (by decide +kernel) (by decide +kernel)
set_option maxRecDepth 20000 in
theorem gL_law_X6_carryOut : GoodIn wsL_law (wsV RL 96 RX6 yX6_carryOut wsX6_carryOut) := goodIn_app (goodIn_of _ (by decide +kernel)) ggL_law_X6_carryOut
set_option maxRecDepth 20000 in
theorem ggL_law_X7_carryOut : GoodIn wsL_law wsX7_carryOut := goodIn_r _ [724, 565, 692, 693, 694, 5, 695, 103, 696, 697, 698, 699, 700, 701, 702, 703, 704, 705, 706, 707, 304, 305, 306, 289, 290, 291, 292, 98, 97, 397, 398, 399, 400, 401, 99, 293, 294, 295, 296, 297, 298, 299, 300, 301, 302, 303, 307, 308, 309, 310, 311, 312, 313, 314, 315, 316, 317, 318, 319, 320, 321, 322, 323, 324, 325, 326, 327, 328, 329, 330, 331, 332, 333, 334, 335, 336, 337, 338, 339, 340, 105, 106, 107, 341, 342, 343, 344, 345, 346, 347, 348, 349, 350, 351, 352, 104, 353, 354, 355, 356, 357, 358, 359, 360, 361, 362, 363, 364, 365, 366, 367, 368, 369, 370, 371, 372, 373, 374, 375, 376, 377, 378, 379, 380, 381, 382, 383, 384, 385, 386, 387, 388, 389, 390, 391, 392, 393, 394, 395, 396, 774, 775, 776, 777, 778, 779, 780, 781, 782] (by decide +kernel) (by decide +kernel)
set_option maxRecDepth 20000 in
theorem gL_law_X7_carryOut : GoodIn wsL_law (wsV RL 99 RX7 yX7_carryOut wsX7_carryOut) := goodIn_app (goodIn_of _ (by decide +kernel)) ggL_law_X7_carryOut
set_option maxRecDepth 20000 in
theorem ggL_law_X6_undo : GoodIn wsL_law wsX6_undo := goodIn_r _ [728, 20, 16, 729, 730, 731, 19, 732, 276, 77, 120, 121, 122, 15, 123, 37, 41, 42, 124, 125, 126, 127, 128, 36, 129, 48, 49, 130, 56, 54, 131, 132, 133, 40, 134, 70, 135, 136, 71, 137, 138, 139, 140, 141, 769, 770, 771, 772, 773, 788, 789, 790, 783, 784, 785, 786, 787, 795, 796, 797, 798, 799, 800, 801, 802, 803, 804, 805, 806, 807, 808] (by decide +kernel) (by decide +kernel)
set_option maxRecDepth 20000 in
theorem gL_law_X6_undo : GoodIn wsL_law (wsV RL 100 RX6 yX6_undo wsX6_undo) := goodIn_app (goodIn_of _ (by decide +kernel)) ggL_law_X6_undo
set_option maxRecDepth 20000 in
theorem ggL_law_X7_undo : GoodIn wsL_law wsX7_undo := goodIn_r _ [736, 401, 97, 99, 774, 775, 776, 777, 778, 779, 780, 781, 782] (by decide +kernel) (by decide +kernel)
set_option maxRecDepth 20000 in
theorem gL_law_X7_undo : GoodIn wsL_law (wsV RL 103 RX7 yX7_undo wsX7_undo) := goodIn_app (goodIn_of _ (by decide +kernel)) ggL_law_X7_undo
set_option maxRecDepth 20000 in
theorem ggL_law_X6_save : GoodIn wsL_law wsX6_save := goodIn_r _ [740, 16, 446, 741, 742, 2, 743, 744, 745, 746, 747, 24, 25, 748, 749, 750, 23, 751, 85, 752, 753, 121, 122, 15, 123, 37, 41, 42, 124, 125, 126, 127, 128, 36, 129, 48, 49, 130, 56, 54, 131, 132, 133, 40, 134, 70, 135, 136, 71, 137, 138, 139, 140, 141, 555, 155, 156, 157, 158, 159, 160, 161, 162, 163, 164, 769, 770, 771, 772, 773, 783, 784, 785, 786, 787, 791, 792, 795, 796, 797, 798, 799, 800, 801, 802, 803, 804, 805, 806, 807, 808] (by decide +kernel) (by decide +kernel)
set_option maxRecDepth 20000 in
theorem gL_law_X6_save : GoodIn wsL_law (wsV RL 104 RX6 yX6_save wsX6_save) := goodIn_app (goodIn_of _ (by decide +kernel)) ggL_law_X6_save
set_option maxRecDepth 20000 in
theorem ggL_law_X7_save : GoodIn wsL_law wsX7_save := goodIn_r _ [757, 100, 97, 102, 304, 305, 5, 306, 311, 312, 313, 314, 315, 316, 317, 318, 774, 775, 776, 777, 778, 779, 780, 781, 782] (by decide +kernel) (by decide +kernel)
set_option maxRecDepth 20000 in
theorem gL_law_X7_save : GoodIn wsL_law (wsV RL 107 RX7 yX7_save wsX7_save) := goodIn_app (goodIn_of _ (by decide +kernel)) ggL_law_X7_save
set_option maxRecDepth 20000 in
theorem ggL_law_X6_restore : GoodIn wsL_law wsX6_restore := goodIn_r _ [761, 762, 20, 16, 763, 446, 741, 742, 2, 743, 744, 745, 746, 747, 24, 25, 116, 117, 118, 19, 119, 78, 120, 121, 122, 15, 123, 37, 41, 42, 124, 125, 126, 127, 128, 36, 129, 48, 49, 130, 56, 54, 131, 132, 133, 40, 134, 70, 135, 136, 71, 137, 138, 139, 140, 141, 272, 273, 274, 275, 276, 77, 277, 278, 279, 280, 764, 555, 155, 156, 157, 158, 159, 160, 161, 162, 163, 164, 791, 792, 769, 770, 771, 772, 773, 783, 784, 785, 786, 787, 788, 789, 790, 795, 796, 797, 798, 799, 800, 801, 802, 803, 804, 805, 806, 807, 808] (by decide +kernel) (by decide +kernel)
set_option maxRecDepth 20000 in
theorem gL_law_X6_restore : GoodIn wsL_law (wsV RL 108 RX6 yX6_restore wsX6_restore) := goodIn_app (goodIn_of _ (by decide +kernel)) ggL_law_X6_restore
set_option maxRecDepth 20000 in
theorem ggL_law_X7_restore : GoodIn wsL_law wsX7_restore := goodIn_r _ [768, 102, 97, 100, 304, 305, 5, 306, 289, 290, 291, 292, 98, 397, 398, 399, 400, 401, 99, 311, 312, 313, 314, 315, 316, 317, 318, 774, 775, 776, 777, 778, 779, 780, 781, 782] (by decide +kernel) (by decide +kernel)
set_option maxRecDepth 20000 in
theorem gL_law_X7_restore : GoodIn wsL_law (wsV RL 111 RX7 yX7_restore wsX7_restore) := goodIn_app (goodIn_of _ (by decide +kernel)) ggL_law_X7_restore
theorem dL_law_0 : decode cL_law 0 = .ok (.new 7, 3) := by decide +kernel
theorem dL_law_3 : decode cL_law 3 = .ok (.dup, 1) := by decide +kernel
theorem dL_law_4 : decode cL_law 4 = .ok (.invokespecial 9, 3) := by decide +kernel
theorem dL_law_7 : decode cL_law 7 = .ok (.astore_n 1, 1) := by decide +kernel
theorem dL_law_8 : decode cL_law 8 = .ok (.new 10, 3) := by decide +kernel
theorem dL_law_11 : decode cL_law 11 = .ok (.dup, 1) := by decide +kernel
theorem dL_law_12 : decode cL_law 12 = .ok (.invokespecial 12, 3) := by decide +kernel
theorem dL_law_15 : decode cL_law 15 = .ok (.astore_n 2, 1) := by decide +kernel
theorem dL_law_16 : decode cL_law 16 = .ok (.iconst 0, 1) := by decide +kernel
theorem dL_law_17 : decode cL_law 17 = .ok (.istore_n 3, 1) := by decide +kernel
theorem dL_law_18 : decode cL_law 18 = .ok (.iload_n 3, 1) := by decide +kernel
theorem dL_law_19 : decode cL_law 19 = .ok (.aload_n 0, 1) := by decide +kernel
theorem dL_law_20 : decode cL_law 20 = .ok (.arraylength, 1) := by decide +kernel
theorem dL_law_21 : decode cL_law 21 = .ok (.iconst 4, 1) := by decide +kernel
theorem dL_law_22 : decode cL_law 22 = .ok (.isub, 1) := by decide +kernel
theorem dL_law_23 : decode cL_law 23 = .ok (.if_icmp .gt 682, 3) := by decide +kernel
theorem dL_law_26 : decode cL_law 26 = .ok (.aload_n 0, 1) := by decide +kernel
theorem dL_law_27 : decode cL_law 27 = .ok (.iload_n 3, 1) := by decide +kernel
theorem dL_law_28 : decode cL_law 28 = .ok (.iaload, 1) := by decide +kernel
theorem dL_law_29 : decode cL_law 29 = .ok (.bipush 31, 2) := by decide +kernel
theorem dL_law_31 : decode cL_law 31 = .ok (.iand, 1) := by decide +kernel
theorem dL_law_32 : decode cL_law 32 = .ok (.tableswitch 667 0 22 #[108, 131, 154, 177, 200, 223, 236, 269, 302, 335, 368, 391, 414, 437, 460, 473, 516, 569, 582, 595, 608, 621, 644], 108) := by decide +kernel
theorem dL_law_140 : decode cL_law 140 = .ok (.aload_n 1, 1) := by decide +kernel
theorem dL_law_141 : decode cL_law 141 = .ok (.aload_n 0, 1) := by decide +kernel
theorem dL_law_142 : decode cL_law 142 = .ok (.iload_n 3, 1) := by decide +kernel
theorem dL_law_143 : decode cL_law 143 = .ok (.iconst 1, 1) := by decide +kernel
theorem dL_law_144 : decode cL_law 144 = .ok (.iadd, 1) := by decide +kernel
theorem dL_law_145 : decode cL_law 145 = .ok (.iaload, 1) := by decide +kernel
theorem dL_law_146 : decode cL_law 146 = .ok (.invokevirtual 13, 3) := by decide +kernel
theorem dL_law_149 : decode cL_law 149 = .ok (.aload_n 2, 1) := by decide +kernel
theorem dL_law_150 : decode cL_law 150 = .ok (.aload_n 0, 1) := by decide +kernel
theorem dL_law_151 : decode cL_law 151 = .ok (.iload_n 3, 1) := by decide +kernel
theorem dL_law_152 : decode cL_law 152 = .ok (.iconst 1, 1) := by decide +kernel
theorem dL_law_153 : decode cL_law 153 = .ok (.iadd, 1) := by decide +kernel
theorem dL_law_154 : decode cL_law 154 = .ok (.iaload, 1) := by decide +kernel
theorem dL_law_155 : decode cL_law 155 = .ok (.invokevirtual 17, 3) := by decide +kernel
theorem dL_law_158 : decode cL_law 158 = .ok (.if_icmp .eq 541, 3) := by decide +kernel
theorem dL_law_161 : decode cL_law 161 = .ok (.iconst 0, 1) := by decide +kernel
theorem dL_law_162 : decode cL_law 162 = .ok (.ireturn, 1) := by decide +kernel
theorem dL_law_163 : decode cL_law 163 = .ok (.aload_n 1, 1) := by decide +kernel
theorem dL_law_164 : decode cL_law 164 = .ok (.aload_n 0, 1) := by decide +kernel
theorem dL_law_165 : decode cL_law 165 = .ok (.iload_n 3, 1) := by decide +kernel
theorem dL_law_166 : decode cL_law 166 = .ok (.iconst 1, 1) := by decide +kernel
theorem dL_law_167 : decode cL_law 167 = .ok (.iadd, 1) := by decide +kernel
theorem dL_law_168 : decode cL_law 168 = .ok (.iaload, 1) := by decide +kernel
theorem dL_law_169 : decode cL_law 169 = .ok (.invokevirtual 18, 3) := by decide +kernel
theorem dL_law_172 : decode cL_law 172 = .ok (.aload_n 2, 1) := by decide +kernel
theorem dL_law_173 : decode cL_law 173 = .ok (.aload_n 0, 1) := by decide +kernel
theorem dL_law_174 : decode cL_law 174 = .ok (.iload_n 3, 1) := by decide +kernel
theorem dL_law_175 : decode cL_law 175 = .ok (.iconst 1, 1) := by decide +kernel
theorem dL_law_176 : decode cL_law 176 = .ok (.iadd, 1) := by decide +kernel
theorem dL_law_177 : decode cL_law 177 = .ok (.iaload, 1) := by decide +kernel
theorem dL_law_178 : decode cL_law 178 = .ok (.invokevirtual 21, 3) := by decide +kernel
theorem dL_law_181 : decode cL_law 181 = .ok (.if_icmp .eq 518, 3) := by decide +kernel
theorem dL_law_184 : decode cL_law 184 = .ok (.iconst 0, 1) := by decide +kernel
theorem dL_law_185 : decode cL_law 185 = .ok (.ireturn, 1) := by decide +kernel
theorem dL_law_186 : decode cL_law 186 = .ok (.aload_n 1, 1) := by decide +kernel
theorem dL_law_187 : decode cL_law 187 = .ok (.aload_n 0, 1) := by decide +kernel
theorem dL_law_188 : decode cL_law 188 = .ok (.iload_n 3, 1) := by decide +kernel
theorem dL_law_189 : decode cL_law 189 = .ok (.iconst 1, 1) := by decide +kernel
theorem dL_law_190 : decode cL_law 190 = .ok (.iadd, 1) := by decide +kernel
theorem dL_law_191 : decode cL_law 191 = .ok (.iaload, 1) := by decide +kernel
theorem dL_law_192 : decode cL_law 192 = .ok (.invokevirtual 22, 3) := by decide +kernel
theorem dL_law_195 : decode cL_law 195 = .ok (.aload_n 2, 1) := by decide +kernel
theorem dL_law_196 : decode cL_law 196 = .ok (.aload_n 0, 1) := by decide +kernel
theorem dL_law_197 : decode cL_law 197 = .ok (.iload_n 3, 1) := by decide +kernel
theorem dL_law_198 : decode cL_law 198 = .ok (.iconst 1, 1) := by decide +kernel
theorem dL_law_199 : decode cL_law 199 = .ok (.iadd, 1) := by decide +kernel
theorem dL_law_200 : decode cL_law 200 = .ok (.iaload, 1) := by decide +kernel
theorem dL_law_201 : decode cL_law 201 = .ok (.invokevirtual 25, 3) := by decide +kernel
theorem dL_law_204 : decode cL_law 204 = .ok (.if_icmp .eq 495, 3) := by decide +kernel
theorem dL_law_207 : decode cL_law 207 = .ok (.iconst 0, 1) := by decide +kernel
theorem dL_law_208 : decode cL_law 208 = .ok (.ireturn, 1) := by decide +kernel
theorem dL_law_209 : decode cL_law 209 = .ok (.aload_n 1, 1) := by decide +kernel
theorem dL_law_210 : decode cL_law 210 = .ok (.aload_n 0, 1) := by decide +kernel
theorem dL_law_211 : decode cL_law 211 = .ok (.iload_n 3, 1) := by decide +kernel
theorem dL_law_212 : decode cL_law 212 = .ok (.iconst 1, 1) := by decide +kernel
theorem dL_law_213 : decode cL_law 213 = .ok (.iadd, 1) := by decide +kernel
theorem dL_law_214 : decode cL_law 214 = .ok (.iaload, 1) := by decide +kernel
theorem dL_law_215 : decode cL_law 215 = .ok (.invokevirtual 26, 3) := by decide +kernel
theorem dL_law_218 : decode cL_law 218 = .ok (.aload_n 2, 1) := by decide +kernel
theorem dL_law_219 : decode cL_law 219 = .ok (.aload_n 0, 1) := by decide +kernel
theorem dL_law_220 : decode cL_law 220 = .ok (.iload_n 3, 1) := by decide +kernel
theorem dL_law_221 : decode cL_law 221 = .ok (.iconst 1, 1) := by decide +kernel
theorem dL_law_222 : decode cL_law 222 = .ok (.iadd, 1) := by decide +kernel
theorem dL_law_223 : decode cL_law 223 = .ok (.iaload, 1) := by decide +kernel
theorem dL_law_224 : decode cL_law 224 = .ok (.invokevirtual 29, 3) := by decide +kernel
theorem dL_law_227 : decode cL_law 227 = .ok (.if_icmp .eq 472, 3) := by decide +kernel
theorem dL_law_230 : decode cL_law 230 = .ok (.iconst 0, 1) := by decide +kernel
theorem dL_law_231 : decode cL_law 231 = .ok (.ireturn, 1) := by decide +kernel
theorem dL_law_232 : decode cL_law 232 = .ok (.aload_n 1, 1) := by decide +kernel
theorem dL_law_233 : decode cL_law 233 = .ok (.aload_n 0, 1) := by decide +kernel
theorem dL_law_234 : decode cL_law 234 = .ok (.iload_n 3, 1) := by decide +kernel
theorem dL_law_235 : decode cL_law 235 = .ok (.iconst 1, 1) := by decide +kernel
theorem dL_law_236 : decode cL_law 236 = .ok (.iadd, 1) := by decide +kernel
theorem dL_law_237 : decode cL_law 237 = .ok (.iaload, 1) := by decide +kernel
theorem dL_law_238 : decode cL_law 238 = .ok (.invokevirtual 30, 3) := by decide +kernel
theorem dL_law_241 : decode cL_law 241 = .ok (.aload_n 2, 1) := by decide +kernel
theorem dL_law_242 : decode cL_law 242 = .ok (.aload_n 0, 1) := by decide +kernel
theorem dL_law_243 : decode cL_law 243 = .ok (.iload_n 3, 1) := by decide +kernel
theorem dL_law_244 : decode cL_law 244 = .ok (.iconst 1, 1) := by decide +kernel
theorem dL_law_245 : decode cL_law 245 = .ok (.iadd, 1) := by decide +kernel
theorem dL_law_246 : decode cL_law 246 = .ok (.iaload, 1) := by decide +kernel
theorem dL_law_247 : decode cL_law 247 = .ok (.invokevirtual 33, 3) := by decide +kernel
theorem dL_law_250 : decode cL_law 250 = .ok (.if_icmp .eq 449, 3) := by decide +kernel
theorem dL_law_253 : decode cL_law 253 = .ok (.iconst 0, 1) := by decide +kernel
theorem dL_law_254 : decode cL_law 254 = .ok (.ireturn, 1) := by decide +kernel
theorem dL_law_255 : decode cL_law 255 = .ok (.aload_n 1, 1) := by decide +kernel
theorem dL_law_256 : decode cL_law 256 = .ok (.invokevirtual 34, 3) := by decide +kernel
theorem dL_law_259 : decode cL_law 259 = .ok (.aload_n 2, 1) := by decide +kernel
theorem dL_law_260 : decode cL_law 260 = .ok (.invokevirtual 38, 3) := by decide +kernel
theorem dL_law_263 : decode cL_law 263 = .ok (.if_icmp .eq 436, 3) := by decide +kernel
theorem dL_law_266 : decode cL_law 266 = .ok (.iconst 0, 1) := by decide +kernel
theorem dL_law_267 : decode cL_law 267 = .ok (.ireturn, 1) := by decide +kernel
theorem dL_law_268 : decode cL_law 268 = .ok (.aload_n 1, 1) := by decide +kernel
theorem dL_law_269 : decode cL_law 269 = .ok (.aload_n 0, 1) := by decide +kernel
theorem dL_law_270 : decode cL_law 270 = .ok (.iload_n 3, 1) := by decide +kernel
theorem dL_law_271 : decode cL_law 271 = .ok (.iconst 1, 1) := by decide +kernel
theorem dL_law_272 : decode cL_law 272 = .ok (.iadd, 1) := by decide +kernel
theorem dL_law_273 : decode cL_law 273 = .ok (.iaload, 1) := by decide +kernel
theorem dL_law_274 : decode cL_law 274 = .ok (.aload_n 0, 1) := by decide +kernel
theorem dL_law_275 : decode cL_law 275 = .ok (.iload_n 3, 1) := by decide +kernel
theorem dL_law_276 : decode cL_law 276 = .ok (.iconst 2, 1) := by decide +kernel
theorem dL_law_277 : decode cL_law 277 = .ok (.iadd, 1) := by decide +kernel
theorem dL_law_278 : decode cL_law 278 = .ok (.iaload, 1) := by decide +kernel
theorem dL_law_279 : decode cL_law 279 = .ok (.invokevirtual 39, 3) := by decide +kernel
theorem dL_law_282 : decode cL_law 282 = .ok (.aload_n 2, 1) := by decide +kernel
theorem dL_law_283 : decode cL_law 283 = .ok (.aload_n 0, 1) := by decide +kernel
theorem dL_law_284 : decode cL_law 284 = .ok (.iload_n 3, 1) := by decide +kernel
theorem dL_law_285 : decode cL_law 285 = .ok (.iconst 1, 1) := by decide +kernel
theorem dL_law_286 : decode cL_law 286 = .ok (.iadd, 1) := by decide +kernel
theorem dL_law_287 : decode cL_law 287 = .ok (.iaload, 1) := by decide +kernel
theorem dL_law_288 : decode cL_law 288 = .ok (.aload_n 0, 1) := by decide +kernel
theorem dL_law_289 : decode cL_law 289 = .ok (.iload_n 3, 1) := by decide +kernel
theorem dL_law_290 : decode cL_law 290 = .ok (.iconst 2, 1) := by decide +kernel
theorem dL_law_291 : decode cL_law 291 = .ok (.iadd, 1) := by decide +kernel
theorem dL_law_292 : decode cL_law 292 = .ok (.iaload, 1) := by decide +kernel
theorem dL_law_293 : decode cL_law 293 = .ok (.invokevirtual 43, 3) := by decide +kernel
theorem dL_law_296 : decode cL_law 296 = .ok (.if_icmp .eq 403, 3) := by decide +kernel
theorem dL_law_299 : decode cL_law 299 = .ok (.iconst 0, 1) := by decide +kernel
theorem dL_law_300 : decode cL_law 300 = .ok (.ireturn, 1) := by decide +kernel
theorem dL_law_301 : decode cL_law 301 = .ok (.aload_n 1, 1) := by decide +kernel
theorem dL_law_302 : decode cL_law 302 = .ok (.aload_n 0, 1) := by decide +kernel
theorem dL_law_303 : decode cL_law 303 = .ok (.iload_n 3, 1) := by decide +kernel
theorem dL_law_304 : decode cL_law 304 = .ok (.iconst 1, 1) := by decide +kernel
theorem dL_law_305 : decode cL_law 305 = .ok (.iadd, 1) := by decide +kernel
theorem dL_law_306 : decode cL_law 306 = .ok (.iaload, 1) := by decide +kernel
theorem dL_law_307 : decode cL_law 307 = .ok (.aload_n 0, 1) := by decide +kernel
theorem dL_law_308 : decode cL_law 308 = .ok (.iload_n 3, 1) := by decide +kernel
theorem dL_law_309 : decode cL_law 309 = .ok (.iconst 2, 1) := by decide +kernel
theorem dL_law_310 : decode cL_law 310 = .ok (.iadd, 1) := by decide +kernel
theorem dL_law_311 : decode cL_law 311 = .ok (.iaload, 1) := by decide +kernel
theorem dL_law_312 : decode cL_law 312 = .ok (.invokevirtual 44, 3) := by decide +kernel
theorem dL_law_315 : decode cL_law 315 = .ok (.aload_n 2, 1) := by decide +kernel
theorem dL_law_316 : decode cL_law 316 = .ok (.aload_n 0, 1) := by decide +kernel
theorem dL_law_317 : decode cL_law 317 = .ok (.iload_n 3, 1) := by decide +kernel
theorem dL_law_318 : decode cL_law 318 = .ok (.iconst 1, 1) := by decide +kernel
theorem dL_law_319 : decode cL_law 319 = .ok (.iadd, 1) := by decide +kernel
theorem dL_law_320 : decode cL_law 320 = .ok (.iaload, 1) := by decide +kernel
theorem dL_law_321 : decode cL_law 321 = .ok (.aload_n 0, 1) := by decide +kernel
theorem dL_law_322 : decode cL_law 322 = .ok (.iload_n 3, 1) := by decide +kernel
theorem dL_law_323 : decode cL_law 323 = .ok (.iconst 2, 1) := by decide +kernel
theorem dL_law_324 : decode cL_law 324 = .ok (.iadd, 1) := by decide +kernel
theorem dL_law_325 : decode cL_law 325 = .ok (.iaload, 1) := by decide +kernel
theorem dL_law_326 : decode cL_law 326 = .ok (.invokevirtual 47, 3) := by decide +kernel
theorem dL_law_329 : decode cL_law 329 = .ok (.if_icmp .eq 370, 3) := by decide +kernel
theorem dL_law_332 : decode cL_law 332 = .ok (.iconst 0, 1) := by decide +kernel
theorem dL_law_333 : decode cL_law 333 = .ok (.ireturn, 1) := by decide +kernel
theorem dL_law_334 : decode cL_law 334 = .ok (.aload_n 1, 1) := by decide +kernel
theorem dL_law_335 : decode cL_law 335 = .ok (.aload_n 0, 1) := by decide +kernel
theorem dL_law_336 : decode cL_law 336 = .ok (.iload_n 3, 1) := by decide +kernel
theorem dL_law_337 : decode cL_law 337 = .ok (.iconst 1, 1) := by decide +kernel
theorem dL_law_338 : decode cL_law 338 = .ok (.iadd, 1) := by decide +kernel
theorem dL_law_339 : decode cL_law 339 = .ok (.iaload, 1) := by decide +kernel
theorem dL_law_340 : decode cL_law 340 = .ok (.aload_n 0, 1) := by decide +kernel
theorem dL_law_341 : decode cL_law 341 = .ok (.iload_n 3, 1) := by decide +kernel
theorem dL_law_342 : decode cL_law 342 = .ok (.iconst 2, 1) := by decide +kernel
theorem dL_law_343 : decode cL_law 343 = .ok (.iadd, 1) := by decide +kernel
theorem dL_law_344 : decode cL_law 344 = .ok (.iaload, 1) := by decide +kernel
theorem dL_law_345 : decode cL_law 345 = .ok (.invokevirtual 48, 3) := by decide +kernel
theorem dL_law_348 : decode cL_law 348 = .ok (.aload_n 2, 1) := by decide +kernel
theorem dL_law_349 : decode cL_law 349 = .ok (.aload_n 0, 1) := by decide +kernel
theorem dL_law_350 : decode cL_law 350 = .ok (.iload_n 3, 1) := by decide +kernel
theorem dL_law_351 : decode cL_law 351 = .ok (.iconst 1, 1) := by decide +kernel
theorem dL_law_352 : decode cL_law 352 = .ok (.iadd, 1) := by decide +kernel
theorem dL_law_353 : decode cL_law 353 = .ok (.iaload, 1) := by decide +kernel
theorem dL_law_354 : decode cL_law 354 = .ok (.aload_n 0, 1) := by decide +kernel
theorem dL_law_355 : decode cL_law 355 = .ok (.iload_n 3, 1) := by decide +kernel
theorem dL_law_356 : decode cL_law 356 = .ok (.iconst 2, 1) := by decide +kernel
theorem dL_law_357 : decode cL_law 357 = .ok (.iadd, 1) := by decide +kernel
theorem dL_law_358 : decode cL_law 358 = .ok (.iaload, 1) := by decide +kernel
theorem dL_law_359 : decode cL_law 359 = .ok (.invokevirtual 51, 3) := by decide +kernel
theorem dL_law_362 : decode cL_law 362 = .ok (.if_icmp .eq 337, 3) := by decide +kernel
theorem dL_law_365 : decode cL_law 365 = .ok (.iconst 0, 1) := by decide +kernel
theorem dL_law_366 : decode cL_law 366 = .ok (.ireturn, 1) := by decide +kernel
theorem dL_law_367 : decode cL_law 367 = .ok (.aload_n 1, 1) := by decide +kernel
theorem dL_law_368 : decode cL_law 368 = .ok (.aload_n 0, 1) := by decide +kernel
theorem dL_law_369 : decode cL_law 369 = .ok (.iload_n 3, 1) := by decide +kernel
theorem dL_law_370 : decode cL_law 370 = .ok (.iconst 1, 1) := by decide +kernel
theorem dL_law_371 : decode cL_law 371 = .ok (.iadd, 1) := by decide +kernel
theorem dL_law_372 : decode cL_law 372 = .ok (.iaload, 1) := by decide +kernel
theorem dL_law_373 : decode cL_law 373 = .ok (.aload_n 0, 1) := by decide +kernel
theorem dL_law_374 : decode cL_law 374 = .ok (.iload_n 3, 1) := by decide +kernel
theorem dL_law_375 : decode cL_law 375 = .ok (.iconst 2, 1) := by decide +kernel
theorem dL_law_376 : decode cL_law 376 = .ok (.iadd, 1) := by decide +kernel
theorem dL_law_377 : decode cL_law 377 = .ok (.iaload, 1) := by decide +kernel
theorem dL_law_378 : decode cL_law 378 = .ok (.invokevirtual 52, 3) := by decide +kernel
theorem dL_law_381 : decode cL_law 381 = .ok (.aload_n 2, 1) := by decide +kernel
theorem dL_law_382 : decode cL_law 382 = .ok (.aload_n 0, 1) := by decide +kernel
theorem dL_law_383 : decode cL_law 383 = .ok (.iload_n 3, 1) := by decide +kernel
theorem dL_law_384 : decode cL_law 384 = .ok (.iconst 1, 1) := by decide +kernel
theorem dL_law_385 : decode cL_law 385 = .ok (.iadd, 1) := by decide +kernel
theorem dL_law_386 : decode cL_law 386 = .ok (.iaload, 1) := by decide +kernel
theorem dL_law_387 : decode cL_law 387 = .ok (.aload_n 0, 1) := by decide +kernel
theorem dL_law_388 : decode cL_law 388 = .ok (.iload_n 3, 1) := by decide +kernel
theorem dL_law_389 : decode cL_law 389 = .ok (.iconst 2, 1) := by decide +kernel
theorem dL_law_390 : decode cL_law 390 = .ok (.iadd, 1) := by decide +kernel
theorem dL_law_391 : decode cL_law 391 = .ok (.iaload, 1) := by decide +kernel
theorem dL_law_392 : decode cL_law 392 = .ok (.invokevirtual 55, 3) := by decide +kernel
theorem dL_law_395 : decode cL_law 395 = .ok (.if_icmp .eq 304, 3) := by decide +kernel
theorem dL_law_398 : decode cL_law 398 = .ok (.iconst 0, 1) := by decide +kernel
theorem dL_law_399 : decode cL_law 399 = .ok (.ireturn, 1) := by decide +kernel
theorem dL_law_400 : decode cL_law 400 = .ok (.aload_n 1, 1) := by decide +kernel
theorem dL_law_401 : decode cL_law 401 = .ok (.aload_n 0, 1) := by decide +kernel
theorem dL_law_402 : decode cL_law 402 = .ok (.iload_n 3, 1) := by decide +kernel
theorem dL_law_403 : decode cL_law 403 = .ok (.iconst 1, 1) := by decide +kernel
theorem dL_law_404 : decode cL_law 404 = .ok (.iadd, 1) := by decide +kernel
theorem dL_law_405 : decode cL_law 405 = .ok (.iaload, 1) := by decide +kernel
theorem dL_law_406 : decode cL_law 406 = .ok (.invokevirtual 56, 3) := by decide +kernel
theorem dL_law_409 : decode cL_law 409 = .ok (.aload_n 2, 1) := by decide +kernel
theorem dL_law_410 : decode cL_law 410 = .ok (.aload_n 0, 1) := by decide +kernel
theorem dL_law_411 : decode cL_law 411 = .ok (.iload_n 3, 1) := by decide +kernel
theorem dL_law_412 : decode cL_law 412 = .ok (.iconst 1, 1) := by decide +kernel
theorem dL_law_413 : decode cL_law 413 = .ok (.iadd, 1) := by decide +kernel
theorem dL_law_414 : decode cL_law 414 = .ok (.iaload, 1) := by decide +kernel
theorem dL_law_415 : decode cL_law 415 = .ok (.invokevirtual 59, 3) := by decide +kernel
theorem dL_law_418 : decode cL_law 418 = .ok (.if_icmp .eq 281, 3) := by decide +kernel
theorem dL_law_421 : decode cL_law 421 = .ok (.iconst 0, 1) := by decide +kernel
theorem dL_law_422 : decode cL_law 422 = .ok (.ireturn, 1) := by decide +kernel
theorem dL_law_423 : decode cL_law 423 = .ok (.aload_n 1, 1) := by decide +kernel
theorem dL_law_424 : decode cL_law 424 = .ok (.aload_n 0, 1) := by decide +kernel
theorem dL_law_425 : decode cL_law 425 = .ok (.iload_n 3, 1) := by decide +kernel
theorem dL_law_426 : decode cL_law 426 = .ok (.iconst 1, 1) := by decide +kernel
theorem dL_law_427 : decode cL_law 427 = .ok (.iadd, 1) := by decide +kernel
theorem dL_law_428 : decode cL_law 428 = .ok (.iaload, 1) := by decide +kernel
theorem dL_law_429 : decode cL_law 429 = .ok (.invokevirtual 60, 3) := by decide +kernel
theorem dL_law_432 : decode cL_law 432 = .ok (.aload_n 2, 1) := by decide +kernel
theorem dL_law_433 : decode cL_law 433 = .ok (.aload_n 0, 1) := by decide +kernel
theorem dL_law_434 : decode cL_law 434 = .ok (.iload_n 3, 1) := by decide +kernel
theorem dL_law_435 : decode cL_law 435 = .ok (.iconst 1, 1) := by decide +kernel
theorem dL_law_436 : decode cL_law 436 = .ok (.iadd, 1) := by decide +kernel
theorem dL_law_437 : decode cL_law 437 = .ok (.iaload, 1) := by decide +kernel
theorem dL_law_438 : decode cL_law 438 = .ok (.invokevirtual 63, 3) := by decide +kernel
theorem dL_law_441 : decode cL_law 441 = .ok (.if_icmp .eq 258, 3) := by decide +kernel
theorem dL_law_444 : decode cL_law 444 = .ok (.iconst 0, 1) := by decide +kernel
theorem dL_law_445 : decode cL_law 445 = .ok (.ireturn, 1) := by decide +kernel
theorem dL_law_446 : decode cL_law 446 = .ok (.aload_n 1, 1) := by decide +kernel
theorem dL_law_447 : decode cL_law 447 = .ok (.aload_n 0, 1) := by decide +kernel
theorem dL_law_448 : decode cL_law 448 = .ok (.iload_n 3, 1) := by decide +kernel
theorem dL_law_449 : decode cL_law 449 = .ok (.iconst 1, 1) := by decide +kernel
theorem dL_law_450 : decode cL_law 450 = .ok (.iadd, 1) := by decide +kernel
theorem dL_law_451 : decode cL_law 451 = .ok (.iaload, 1) := by decide +kernel
theorem dL_law_452 : decode cL_law 452 = .ok (.invokevirtual 64, 3) := by decide +kernel
theorem dL_law_455 : decode cL_law 455 = .ok (.aload_n 2, 1) := by decide +kernel
theorem dL_law_456 : decode cL_law 456 = .ok (.aload_n 0, 1) := by decide +kernel
theorem dL_law_457 : decode cL_law 457 = .ok (.iload_n 3, 1) := by decide +kernel
theorem dL_law_458 : decode cL_law 458 = .ok (.iconst 1, 1) := by decide +kernel
theorem dL_law_459 : decode cL_law 459 = .ok (.iadd, 1) := by decide +kernel
theorem dL_law_460 : decode cL_law 460 = .ok (.iaload, 1) := by decide +kernel
theorem dL_law_461 : decode cL_law 461 = .ok (.invokevirtual 67, 3) := by decide +kernel
theorem dL_law_464 : decode cL_law 464 = .ok (.if_icmp .eq 235, 3) := by decide +kernel
theorem dL_law_467 : decode cL_law 467 = .ok (.iconst 0, 1) := by decide +kernel
theorem dL_law_468 : decode cL_law 468 = .ok (.ireturn, 1) := by decide +kernel
theorem dL_law_469 : decode cL_law 469 = .ok (.aload_n 1, 1) := by decide +kernel
theorem dL_law_470 : decode cL_law 470 = .ok (.aload_n 0, 1) := by decide +kernel
theorem dL_law_471 : decode cL_law 471 = .ok (.iload_n 3, 1) := by decide +kernel
theorem dL_law_472 : decode cL_law 472 = .ok (.iconst 1, 1) := by decide +kernel
theorem dL_law_473 : decode cL_law 473 = .ok (.iadd, 1) := by decide +kernel
theorem dL_law_474 : decode cL_law 474 = .ok (.iaload, 1) := by decide +kernel
theorem dL_law_475 : decode cL_law 475 = .ok (.invokevirtual 68, 3) := by decide +kernel
theorem dL_law_478 : decode cL_law 478 = .ok (.aload_n 2, 1) := by decide +kernel
theorem dL_law_479 : decode cL_law 479 = .ok (.aload_n 0, 1) := by decide +kernel
theorem dL_law_480 : decode cL_law 480 = .ok (.iload_n 3, 1) := by decide +kernel
theorem dL_law_481 : decode cL_law 481 = .ok (.iconst 1, 1) := by decide +kernel
theorem dL_law_482 : decode cL_law 482 = .ok (.iadd, 1) := by decide +kernel
theorem dL_law_483 : decode cL_law 483 = .ok (.iaload, 1) := by decide +kernel
theorem dL_law_484 : decode cL_law 484 = .ok (.invokevirtual 71, 3) := by decide +kernel
theorem dL_law_487 : decode cL_law 487 = .ok (.if_icmp .eq 212, 3) := by decide +kernel
theorem dL_law_490 : decode cL_law 490 = .ok (.iconst 0, 1) := by decide +kernel
theorem dL_law_491 : decode cL_law 491 = .ok (.ireturn, 1) := by decide +kernel
theorem dL_law_492 : decode cL_law 492 = .ok (.aload_n 1, 1) := by decide +kernel
theorem dL_law_493 : decode cL_law 493 = .ok (.invokevirtual 72, 3) := by decide +kernel
theorem dL_law_496 : decode cL_law 496 = .ok (.aload_n 2, 1) := by decide +kernel
theorem dL_law_497 : decode cL_law 497 = .ok (.invokevirtual 75, 3) := by decide +kernel
theorem dL_law_500 : decode cL_law 500 = .ok (.if_icmp .eq 199, 3) := by decide +kernel
theorem dL_law_503 : decode cL_law 503 = .ok (.iconst 0, 1) := by decide +kernel
theorem dL_law_504 : decode cL_law 504 = .ok (.ireturn, 1) := by decide +kernel
theorem dL_law_505 : decode cL_law 505 = .ok (.aload_n 1, 1) := by decide +kernel
theorem dL_law_506 : decode cL_law 506 = .ok (.aload_n 0, 1) := by decide +kernel
theorem dL_law_507 : decode cL_law 507 = .ok (.iload_n 3, 1) := by decide +kernel
theorem dL_law_508 : decode cL_law 508 = .ok (.iconst 1, 1) := by decide +kernel
theorem dL_law_509 : decode cL_law 509 = .ok (.iadd, 1) := by decide +kernel
theorem dL_law_510 : decode cL_law 510 = .ok (.iaload, 1) := by decide +kernel
theorem dL_law_511 : decode cL_law 511 = .ok (.aload_n 0, 1) := by decide +kernel
theorem dL_law_512 : decode cL_law 512 = .ok (.iload_n 3, 1) := by decide +kernel
theorem dL_law_513 : decode cL_law 513 = .ok (.iconst 2, 1) := by decide +kernel
theorem dL_law_514 : decode cL_law 514 = .ok (.iadd, 1) := by decide +kernel
theorem dL_law_515 : decode cL_law 515 = .ok (.iaload, 1) := by decide +kernel
theorem dL_law_516 : decode cL_law 516 = .ok (.aload_n 0, 1) := by decide +kernel
theorem dL_law_517 : decode cL_law 517 = .ok (.iload_n 3, 1) := by decide +kernel
theorem dL_law_518 : decode cL_law 518 = .ok (.iconst 3, 1) := by decide +kernel
theorem dL_law_519 : decode cL_law 519 = .ok (.iadd, 1) := by decide +kernel
theorem dL_law_520 : decode cL_law 520 = .ok (.iaload, 1) := by decide +kernel
theorem dL_law_521 : decode cL_law 521 = .ok (.invokevirtual 76, 3) := by decide +kernel
theorem dL_law_524 : decode cL_law 524 = .ok (.aload_n 2, 1) := by decide +kernel
theorem dL_law_525 : decode cL_law 525 = .ok (.aload_n 0, 1) := by decide +kernel
theorem dL_law_526 : decode cL_law 526 = .ok (.iload_n 3, 1) := by decide +kernel
theorem dL_law_527 : decode cL_law 527 = .ok (.iconst 1, 1) := by decide +kernel
theorem dL_law_528 : decode cL_law 528 = .ok (.iadd, 1) := by decide +kernel
theorem dL_law_529 : decode cL_law 529 = .ok (.iaload, 1) := by decide +kernel
theorem dL_law_530 : decode cL_law 530 = .ok (.aload_n 0, 1) := by decide +kernel
theorem dL_law_531 : decode cL_law 531 = .ok (.iload_n 3, 1) := by decide +kernel
theorem dL_law_532 : decode cL_law 532 = .ok (.iconst 2, 1) := by decide +kernel
theorem dL_law_533 : decode cL_law 533 = .ok (.iadd, 1) := by decide +kernel
theorem dL_law_534 : decode cL_law 534 = .ok (.iaload, 1) := by decide +kernel
theorem dL_law_535 : decode cL_law 535 = .ok (.aload_n 0, 1) := by decide +kernel
theorem dL_law_536 : decode cL_law 536 = .ok (.iload_n 3, 1) := by decide +kernel
theorem dL_law_537 : decode cL_law 537 = .ok (.iconst 3, 1) := by decide +kernel
theorem dL_law_538 : decode cL_law 538 = .ok (.iadd, 1) := by decide +kernel
theorem dL_law_539 : decode cL_law 539 = .ok (.iaload, 1) := by decide +kernel
theorem dL_law_540 : decode cL_law 540 = .ok (.invokevirtual 80, 3) := by decide +kernel
theorem dL_law_543 : decode cL_law 543 = .ok (.if_icmp .eq 156, 3) := by decide +kernel
theorem dL_law_546 : decode cL_law 546 = .ok (.iconst 0, 1) := by decide +kernel
theorem dL_law_547 : decode cL_law 547 = .ok (.ireturn, 1) := by decide +kernel
theorem dL_law_548 : decode cL_law 548 = .ok (.aload_n 1, 1) := by decide +kernel
theorem dL_law_549 : decode cL_law 549 = .ok (.aload_n 0, 1) := by decide +kernel
theorem dL_law_550 : decode cL_law 550 = .ok (.iload_n 3, 1) := by decide +kernel
theorem dL_law_551 : decode cL_law 551 = .ok (.iconst 1, 1) := by decide +kernel
theorem dL_law_552 : decode cL_law 552 = .ok (.iadd, 1) := by decide +kernel
theorem dL_law_553 : decode cL_law 553 = .ok (.iaload, 1) := by decide +kernel
theorem dL_law_554 : decode cL_law 554 = .ok (.i2l, 1) := by decide +kernel
theorem dL_law_555 : decode cL_law 555 = .ok (.bipush 32, 2) := by decide +kernel
theorem dL_law_557 : decode cL_law 557 = .ok (.lshl, 1) := by decide +kernel
theorem dL_law_558 : decode cL_law 558 = .ok (.aload_n 0, 1) := by decide +kernel
theorem dL_law_559 : decode cL_law 559 = .ok (.iload_n 3, 1) := by decide +kernel
theorem dL_law_560 : decode cL_law 560 = .ok (.iconst 2, 1) := by decide +kernel
theorem dL_law_561 : decode cL_law 561 = .ok (.iadd, 1) := by decide +kernel
theorem dL_law_562 : decode cL_law 562 = .ok (.iaload, 1) := by decide +kernel
theorem dL_law_563 : decode cL_law 563 = .ok (.i2l, 1) := by decide +kernel
theorem dL_law_564 : decode cL_law 564 = .ok (.ldc2_w 81, 3) := by decide +kernel
theorem dL_law_567 : decode cL_law 567 = .ok (.land, 1) := by decide +kernel
theorem dL_law_568 : decode cL_law 568 = .ok (.lor, 1) := by decide +kernel
theorem dL_law_569 : decode cL_law 569 = .ok (.invokevirtual 83, 3) := by decide +kernel
theorem dL_law_572 : decode cL_law 572 = .ok (.aload_n 2, 1) := by decide +kernel
theorem dL_law_573 : decode cL_law 573 = .ok (.aload_n 0, 1) := by decide +kernel
theorem dL_law_574 : decode cL_law 574 = .ok (.iload_n 3, 1) := by decide +kernel
theorem dL_law_575 : decode cL_law 575 = .ok (.iconst 1, 1) := by decide +kernel
theorem dL_law_576 : decode cL_law 576 = .ok (.iadd, 1) := by decide +kernel
theorem dL_law_577 : decode cL_law 577 = .ok (.iaload, 1) := by decide +kernel
theorem dL_law_578 : decode cL_law 578 = .ok (.i2l, 1) := by decide +kernel
theorem dL_law_579 : decode cL_law 579 = .ok (.bipush 32, 2) := by decide +kernel
theorem dL_law_581 : decode cL_law 581 = .ok (.lshl, 1) := by decide +kernel
theorem dL_law_582 : decode cL_law 582 = .ok (.aload_n 0, 1) := by decide +kernel
theorem dL_law_583 : decode cL_law 583 = .ok (.iload_n 3, 1) := by decide +kernel
theorem dL_law_584 : decode cL_law 584 = .ok (.iconst 2, 1) := by decide +kernel
theorem dL_law_585 : decode cL_law 585 = .ok (.iadd, 1) := by decide +kernel
theorem dL_law_586 : decode cL_law 586 = .ok (.iaload, 1) := by decide +kernel
theorem dL_law_587 : decode cL_law 587 = .ok (.i2l, 1) := by decide +kernel
theorem dL_law_588 : decode cL_law 588 = .ok (.ldc2_w 81, 3) := by decide +kernel
theorem dL_law_591 : decode cL_law 591 = .ok (.land, 1) := by decide +kernel
theorem dL_law_592 : decode cL_law 592 = .ok (.lor, 1) := by decide +kernel
theorem dL_law_593 : decode cL_law 593 = .ok (.invokevirtual 87, 3) := by decide +kernel
theorem dL_law_596 : decode cL_law 596 = .ok (.if_icmp .eq 103, 3) := by decide +kernel
theorem dL_law_599 : decode cL_law 599 = .ok (.iconst 0, 1) := by decide +kernel
theorem dL_law_600 : decode cL_law 600 = .ok (.ireturn, 1) := by decide +kernel
theorem dL_law_601 : decode cL_law 601 = .ok (.aload_n 1, 1) := by decide +kernel
theorem dL_law_602 : decode cL_law 602 = .ok (.invokevirtual 88, 3) := by decide +kernel
theorem dL_law_605 : decode cL_law 605 = .ok (.aload_n 2, 1) := by decide +kernel
theorem dL_law_606 : decode cL_law 606 = .ok (.invokevirtual 91, 3) := by decide +kernel
theorem dL_law_609 : decode cL_law 609 = .ok (.if_icmp .eq 90, 3) := by decide +kernel
theorem dL_law_612 : decode cL_law 612 = .ok (.iconst 0, 1) := by decide +kernel
theorem dL_law_613 : decode cL_law 613 = .ok (.ireturn, 1) := by decide +kernel
theorem dL_law_614 : decode cL_law 614 = .ok (.aload_n 1, 1) := by decide +kernel
theorem dL_law_615 : decode cL_law 615 = .ok (.invokevirtual 92, 3) := by decide +kernel
theorem dL_law_618 : decode cL_law 618 = .ok (.aload_n 2, 1) := by decide +kernel
theorem dL_law_619 : decode cL_law 619 = .ok (.invokevirtual 95, 3) := by decide +kernel
theorem dL_law_622 : decode cL_law 622 = .ok (.if_icmp .eq 77, 3) := by decide +kernel
theorem dL_law_625 : decode cL_law 625 = .ok (.iconst 0, 1) := by decide +kernel
theorem dL_law_626 : decode cL_law 626 = .ok (.ireturn, 1) := by decide +kernel
theorem dL_law_627 : decode cL_law 627 = .ok (.aload_n 1, 1) := by decide +kernel
theorem dL_law_628 : decode cL_law 628 = .ok (.invokevirtual 96, 3) := by decide +kernel
theorem dL_law_631 : decode cL_law 631 = .ok (.aload_n 2, 1) := by decide +kernel
theorem dL_law_632 : decode cL_law 632 = .ok (.invokevirtual 99, 3) := by decide +kernel
theorem dL_law_635 : decode cL_law 635 = .ok (.if_icmp .eq 64, 3) := by decide +kernel
theorem dL_law_638 : decode cL_law 638 = .ok (.iconst 0, 1) := by decide +kernel
theorem dL_law_639 : decode cL_law 639 = .ok (.ireturn, 1) := by decide +kernel
theorem dL_law_640 : decode cL_law 640 = .ok (.aload_n 1, 1) := by decide +kernel
theorem dL_law_641 : decode cL_law 641 = .ok (.invokevirtual 100, 3) := by decide +kernel
theorem dL_law_644 : decode cL_law 644 = .ok (.aload_n 2, 1) := by decide +kernel
theorem dL_law_645 : decode cL_law 645 = .ok (.invokevirtual 103, 3) := by decide +kernel
theorem dL_law_648 : decode cL_law 648 = .ok (.if_icmp .eq 51, 3) := by decide +kernel
theorem dL_law_651 : decode cL_law 651 = .ok (.iconst 0, 1) := by decide +kernel
theorem dL_law_652 : decode cL_law 652 = .ok (.ireturn, 1) := by decide +kernel
theorem dL_law_653 : decode cL_law 653 = .ok (.aload_n 1, 1) := by decide +kernel
theorem dL_law_654 : decode cL_law 654 = .ok (.aload_n 0, 1) := by decide +kernel
theorem dL_law_655 : decode cL_law 655 = .ok (.iload_n 3, 1) := by decide +kernel
theorem dL_law_656 : decode cL_law 656 = .ok (.iconst 1, 1) := by decide +kernel
theorem dL_law_657 : decode cL_law 657 = .ok (.iadd, 1) := by decide +kernel
theorem dL_law_658 : decode cL_law 658 = .ok (.iaload, 1) := by decide +kernel
theorem dL_law_659 : decode cL_law 659 = .ok (.invokevirtual 104, 3) := by decide +kernel
theorem dL_law_662 : decode cL_law 662 = .ok (.aload_n 2, 1) := by decide +kernel
theorem dL_law_663 : decode cL_law 663 = .ok (.aload_n 0, 1) := by decide +kernel
theorem dL_law_664 : decode cL_law 664 = .ok (.iload_n 3, 1) := by decide +kernel
theorem dL_law_665 : decode cL_law 665 = .ok (.iconst 1, 1) := by decide +kernel
theorem dL_law_666 : decode cL_law 666 = .ok (.iadd, 1) := by decide +kernel
theorem dL_law_667 : decode cL_law 667 = .ok (.iaload, 1) := by decide +kernel
theorem dL_law_668 : decode cL_law 668 = .ok (.invokevirtual 107, 3) := by decide +kernel
theorem dL_law_671 : decode cL_law 671 = .ok (.if_icmp .eq 28, 3) := by decide +kernel
theorem dL_law_674 : decode cL_law 674 = .ok (.iconst 0, 1) := by decide +kernel
theorem dL_law_675 : decode cL_law 675 = .ok (.ireturn, 1) := by decide +kernel
theorem dL_law_676 : decode cL_law 676 = .ok (.aload_n 1, 1) := by decide +kernel
theorem dL_law_677 : decode cL_law 677 = .ok (.aload_n 0, 1) := by decide +kernel
theorem dL_law_678 : decode cL_law 678 = .ok (.iload_n 3, 1) := by decide +kernel
theorem dL_law_679 : decode cL_law 679 = .ok (.iconst 1, 1) := by decide +kernel
theorem dL_law_680 : decode cL_law 680 = .ok (.iadd, 1) := by decide +kernel
theorem dL_law_681 : decode cL_law 681 = .ok (.iaload, 1) := by decide +kernel
theorem dL_law_682 : decode cL_law 682 = .ok (.invokevirtual 108, 3) := by decide +kernel
theorem dL_law_685 : decode cL_law 685 = .ok (.aload_n 2, 1) := by decide +kernel
theorem dL_law_686 : decode cL_law 686 = .ok (.aload_n 0, 1) := by decide +kernel
theorem dL_law_687 : decode cL_law 687 = .ok (.iload_n 3, 1) := by decide +kernel
theorem dL_law_688 : decode cL_law 688 = .ok (.iconst 1, 1) := by decide +kernel
theorem dL_law_689 : decode cL_law 689 = .ok (.iadd, 1) := by decide +kernel
theorem dL_law_690 : decode cL_law 690 = .ok (.iaload, 1) := by decide +kernel
theorem dL_law_691 : decode cL_law 691 = .ok (.invokevirtual 111, 3) := by decide +kernel
theorem dL_law_694 : decode cL_law 694 = .ok (.if_icmp .eq 5, 3) := by decide +kernel
theorem dL_law_697 : decode cL_law 697 = .ok (.iconst 0, 1) := by decide +kernel
theorem dL_law_698 : decode cL_law 698 = .ok (.ireturn, 1) := by decide +kernel
theorem dL_law_699 : decode cL_law 699 = .ok (.iinc 3 4, 3) := by decide +kernel
theorem dL_law_702 : decode cL_law 702 = .ok (.goto (-684), 3) := by decide +kernel
theorem dL_law_705 : decode cL_law 705 = .ok (.iconst 1, 1) := by decide +kernel
theorem dL_law_706 : decode cL_law 706 = .ok (.ireturn, 1) := by decide +kernel
abbrev vwCl : List vw_C := [(RX0, TX0, 5), (RX1, TX1, 5), (RX2, TX2, 3), (RX3, TX3, 2), (RX4, TX4, 2), (RX5, TX5, 9), (RX6, TX6, 5), (RX7, TX7, 9)]
/-! ===== END printed: names ===== -/
