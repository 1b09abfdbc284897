-- ===== PART A: goes FIRST, ahead of the names: the tables' words, and 'selects' of the private methods out of them =====
/-- a private method of a class that the tables say can be made, by its rows of tables_1 -/
def lw_okq (q : MethodName × Nat) : Prop := (q.1.cls ≠ "java/lang/invoke/MethodHandle" ∧ q.1.cls ≠ "java/lang/invoke/VarHandle") ∧ Cond.instantiable q.1.cls q.2 ∈ tables_1 ∧ Cond.privateMethod q.1 ∈ tables_1 ∧ Cond.instanceMethod q.1 ∈ tables_1
theorem lw_p0 : lw_okq (⟨"EightWires$Tape", "behindAll", "(III)I"⟩, 6) := ⟨⟨by decide +kernel, by decide +kernel⟩, List.mem_of_getElem? (i := 35) (by decide +kernel), List.mem_of_getElem? (i := 392) (by decide +kernel), List.mem_of_getElem? (i := 393) (by decide +kernel)⟩
theorem lw_p1 : lw_okq (⟨"EightWires$Tape", "byteAt", "(I)I"⟩, 6) := ⟨⟨by decide +kernel, by decide +kernel⟩, List.mem_of_getElem? (i := 35) (by decide +kernel), List.mem_of_getElem? (i := 396) (by decide +kernel), List.mem_of_getElem? (i := 397) (by decide +kernel)⟩
theorem lw_p2 : lw_okq (⟨"EightWires$Tape", "behindToken", "(I)I"⟩, 6) := ⟨⟨by decide +kernel, by decide +kernel⟩, List.mem_of_getElem? (i := 35) (by decide +kernel), List.mem_of_getElem? (i := 400) (by decide +kernel), List.mem_of_getElem? (i := 401) (by decide +kernel)⟩
theorem lw_p3 : lw_okq (⟨"EightWires$Tape", "tokenBetween", "(II)I"⟩, 6) := ⟨⟨by decide +kernel, by decide +kernel⟩, List.mem_of_getElem? (i := 35) (by decide +kernel), List.mem_of_getElem? (i := 407) (by decide +kernel), List.mem_of_getElem? (i := 408) (by decide +kernel)⟩
theorem lw_p4 : lw_okq (⟨"EightWires$Tape", "nameBetween", "(II)I"⟩, 6) := ⟨⟨by decide +kernel, by decide +kernel⟩, List.mem_of_getElem? (i := 35) (by decide +kernel), List.mem_of_getElem? (i := 411) (by decide +kernel), List.mem_of_getElem? (i := 412) (by decide +kernel)⟩
theorem lw_p5 : lw_okq (⟨"EightWires$Tape", "spells", "(Ljava/lang/String;II)Z"⟩, 6) := ⟨⟨by decide +kernel, by decide +kernel⟩, List.mem_of_getElem? (i := 35) (by decide +kernel), List.mem_of_getElem? (i := 416) (by decide +kernel), List.mem_of_getElem? (i := 417) (by decide +kernel)⟩
theorem lw_p6 : lw_okq (⟨"EightWires$Tape", "termBetween", "(II)I"⟩, 6) := ⟨⟨by decide +kernel, by decide +kernel⟩, List.mem_of_getElem? (i := 35) (by decide +kernel), List.mem_of_getElem? (i := 474) (by decide +kernel), List.mem_of_getElem? (i := 475) (by decide +kernel)⟩
theorem lw_p7 : lw_okq (⟨"EightWires$Tape", "valueBetween", "(II)I"⟩, 6) := ⟨⟨by decide +kernel, by decide +kernel⟩, List.mem_of_getElem? (i := 35) (by decide +kernel), List.mem_of_getElem? (i := 485) (by decide +kernel), List.mem_of_getElem? (i := 486) (by decide +kernel)⟩
theorem lw_p8 : lw_okq (⟨"EightWires$Tape", "addToken", "(III)V"⟩, 6) := ⟨⟨by decide +kernel, by decide +kernel⟩, List.mem_of_getElem? (i := 35) (by decide +kernel), List.mem_of_getElem? (i := 489) (by decide +kernel), List.mem_of_getElem? (i := 490) (by decide +kernel)⟩
theorem lw_p9 : lw_okq (⟨"EightWires$Reader", "begin", "()V"⟩, 11) := ⟨⟨by decide +kernel, by decide +kernel⟩, List.mem_of_getElem? (i := 29) (by decide +kernel), List.mem_of_getElem? (i := 497) (by decide +kernel), List.mem_of_getElem? (i := 498) (by decide +kernel)⟩
theorem lw_p10 : lw_okq (⟨"EightWires$Reader", "advance", "()V"⟩, 11) := ⟨⟨by decide +kernel, by decide +kernel⟩, List.mem_of_getElem? (i := 29) (by decide +kernel), List.mem_of_getElem? (i := 508) (by decide +kernel), List.mem_of_getElem? (i := 509) (by decide +kernel)⟩
theorem lw_p11 : lw_okq (⟨"EightWires$Reader", "readState", "()V"⟩, 11) := ⟨⟨by decide +kernel, by decide +kernel⟩, List.mem_of_getElem? (i := 29) (by decide +kernel), List.mem_of_getElem? (i := 512) (by decide +kernel), List.mem_of_getElem? (i := 513) (by decide +kernel)⟩
theorem lw_p12 : lw_okq (⟨"EightWires$Reader", "refuse", "(I)V"⟩, 11) := ⟨⟨by decide +kernel, by decide +kernel⟩, List.mem_of_getElem? (i := 29) (by decide +kernel), List.mem_of_getElem? (i := 516) (by decide +kernel), List.mem_of_getElem? (i := 517) (by decide +kernel)⟩
theorem lw_p13 : lw_okq (⟨"EightWires$Reader", "readBranch", "(II)V"⟩, 11) := ⟨⟨by decide +kernel, by decide +kernel⟩, List.mem_of_getElem? (i := 29) (by decide +kernel), List.mem_of_getElem? (i := 520) (by decide +kernel), List.mem_of_getElem? (i := 521) (by decide +kernel)⟩
theorem lw_p14 : lw_okq (⟨"EightWires$Reader", "readCondition", "(I)V"⟩, 11) := ⟨⟨by decide +kernel, by decide +kernel⟩, List.mem_of_getElem? (i := 29) (by decide +kernel), List.mem_of_getElem? (i := 524) (by decide +kernel), List.mem_of_getElem? (i := 525) (by decide +kernel)⟩
theorem lw_p15 : lw_okq (⟨"EightWires$Reader", "takeNumber", "(II)I"⟩, 11) := ⟨⟨by decide +kernel, by decide +kernel⟩, List.mem_of_getElem? (i := 29) (by decide +kernel), List.mem_of_getElem? (i := 531) (by decide +kernel), List.mem_of_getElem? (i := 532) (by decide +kernel)⟩
def lw_privs_1 : List (MethodName × Nat) := [(⟨"EightWires$Tape", "behindAll", "(III)I"⟩, 6), (⟨"EightWires$Tape", "byteAt", "(I)I"⟩, 6), (⟨"EightWires$Tape", "behindToken", "(I)I"⟩, 6), (⟨"EightWires$Tape", "tokenBetween", "(II)I"⟩, 6), (⟨"EightWires$Tape", "nameBetween", "(II)I"⟩, 6), (⟨"EightWires$Tape", "spells", "(Ljava/lang/String;II)Z"⟩, 6), (⟨"EightWires$Tape", "termBetween", "(II)I"⟩, 6), (⟨"EightWires$Tape", "valueBetween", "(II)I"⟩, 6), (⟨"EightWires$Tape", "addToken", "(III)V"⟩, 6), (⟨"EightWires$Reader", "begin", "()V"⟩, 11), (⟨"EightWires$Reader", "advance", "()V"⟩, 11), (⟨"EightWires$Reader", "readState", "()V"⟩, 11), (⟨"EightWires$Reader", "refuse", "(I)V"⟩, 11), (⟨"EightWires$Reader", "readBranch", "(II)V"⟩, 11), (⟨"EightWires$Reader", "readCondition", "(I)V"⟩, 11), (⟨"EightWires$Reader", "takeNumber", "(II)I"⟩, 11)]
theorem lw_r1 : ∀ q ∈ lw_privs_1, lw_okq q := List.forall_mem_cons.mpr ⟨lw_p0, List.forall_mem_cons.mpr ⟨lw_p1, List.forall_mem_cons.mpr ⟨lw_p2, List.forall_mem_cons.mpr ⟨lw_p3, List.forall_mem_cons.mpr ⟨lw_p4, List.forall_mem_cons.mpr ⟨lw_p5, List.forall_mem_cons.mpr ⟨lw_p6, List.forall_mem_cons.mpr ⟨lw_p7, List.forall_mem_cons.mpr ⟨lw_p8, List.forall_mem_cons.mpr ⟨lw_p9, List.forall_mem_cons.mpr ⟨lw_p10, List.forall_mem_cons.mpr ⟨lw_p11, List.forall_mem_cons.mpr ⟨lw_p12, List.forall_mem_cons.mpr ⟨lw_p13, List.forall_mem_cons.mpr ⟨lw_p14, List.forall_mem_cons.mpr ⟨lw_p15, fun _ h => absurd h List.not_mem_nil⟩⟩⟩⟩⟩⟩⟩⟩⟩⟩⟩⟩⟩⟩⟩⟩
theorem lw_p16 : lw_okq (⟨"EightWires$Reader", "take", "(I)V"⟩, 11) := ⟨⟨by decide +kernel, by decide +kernel⟩, List.mem_of_getElem? (i := 29) (by decide +kernel), List.mem_of_getElem? (i := 543) (by decide +kernel), List.mem_of_getElem? (i := 544) (by decide +kernel)⟩
theorem lw_p17 : lw_okq (⟨"EightWires$Reader", "readKeep", "()V"⟩, 11) := ⟨⟨by decide +kernel, by decide +kernel⟩, List.mem_of_getElem? (i := 29) (by decide +kernel), List.mem_of_getElem? (i := 551) (by decide +kernel), List.mem_of_getElem? (i := 552) (by decide +kernel)⟩
theorem lw_p18 : lw_okq (⟨"EightWires$Reader", "readDepth", "()V"⟩, 11) := ⟨⟨by decide +kernel, by decide +kernel⟩, List.mem_of_getElem? (i := 29) (by decide +kernel), List.mem_of_getElem? (i := 556) (by decide +kernel), List.mem_of_getElem? (i := 557) (by decide +kernel)⟩
theorem lw_p19 : lw_okq (⟨"EightWires$Reader", "readAhead", "()V"⟩, 11) := ⟨⟨by decide +kernel, by decide +kernel⟩, List.mem_of_getElem? (i := 29) (by decide +kernel), List.mem_of_getElem? (i := 560) (by decide +kernel), List.mem_of_getElem? (i := 561) (by decide +kernel)⟩
theorem lw_p20 : lw_okq (⟨"EightWires$Watch", "enter", "(I)V"⟩, 6) := ⟨⟨by decide +kernel, by decide +kernel⟩, List.mem_of_getElem? (i := 185) (by decide +kernel), List.mem_of_getElem? (i := 660) (by decide +kernel), List.mem_of_getElem? (i := 661) (by decide +kernel)⟩
theorem lw_p21 : lw_okq (⟨"EightWires$Watch", "look", "(LEightWires$Rules;LEightWires$Trace;I)V"⟩, 6) := ⟨⟨by decide +kernel, by decide +kernel⟩, List.mem_of_getElem? (i := 185) (by decide +kernel), List.mem_of_getElem? (i := 665) (by decide +kernel), List.mem_of_getElem? (i := 666) (by decide +kernel)⟩
theorem lw_p22 : lw_okq (⟨"EightWires$Watch", "leave", "(II)V"⟩, 6) := ⟨⟨by decide +kernel, by decide +kernel⟩, List.mem_of_getElem? (i := 185) (by decide +kernel), List.mem_of_getElem? (i := 696) (by decide +kernel), List.mem_of_getElem? (i := 697) (by decide +kernel)⟩
theorem lw_p23 : lw_okq (⟨"EightWires", "turns", "(IZI)Z"⟩, 13) := ⟨⟨by decide +kernel, by decide +kernel⟩, List.mem_of_getElem? (i := 21) (by decide +kernel), List.mem_of_getElem? (i := 722) (by decide +kernel), List.mem_of_getElem? (i := 723) (by decide +kernel)⟩
theorem lw_p24 : lw_okq (⟨"EightWires$Pulses", "note", "(III)V"⟩, 6) := ⟨⟨by decide +kernel, by decide +kernel⟩, List.mem_of_getElem? (i := 214) (by decide +kernel), List.mem_of_getElem? (i := 745) (by decide +kernel), List.mem_of_getElem? (i := 746) (by decide +kernel)⟩
theorem lw_p25 : lw_okq (⟨"EightWires", "firstRise", "(I)I"⟩, 13) := ⟨⟨by decide +kernel, by decide +kernel⟩, List.mem_of_getElem? (i := 21) (by decide +kernel), List.mem_of_getElem? (i := 753) (by decide +kernel), List.mem_of_getElem? (i := 754) (by decide +kernel)⟩
theorem lw_p26 : lw_okq (⟨"EightWires", "lastRise", "(I)I"⟩, 13) := ⟨⟨by decide +kernel, by decide +kernel⟩, List.mem_of_getElem? (i := 21) (by decide +kernel), List.mem_of_getElem? (i := 757) (by decide +kernel), List.mem_of_getElem? (i := 758) (by decide +kernel)⟩
theorem lw_p27 : lw_okq (⟨"EightWires$Trace", "flip", "(III)V"⟩, 3) := ⟨⟨by decide +kernel, by decide +kernel⟩, List.mem_of_getElem? (i := 145) (by decide +kernel), List.mem_of_getElem? (i := 782) (by decide +kernel), List.mem_of_getElem? (i := 783) (by decide +kernel)⟩
theorem lw_p28 : lw_okq (⟨"EightWires$Gaps", "note", "(III)V"⟩, 5) := ⟨⟨by decide +kernel, by decide +kernel⟩, List.mem_of_getElem? (i := 245) (by decide +kernel), List.mem_of_getElem? (i := 801) (by decide +kernel), List.mem_of_getElem? (i := 802) (by decide +kernel)⟩
theorem lw_p29 : lw_okq (⟨"EightWires$Bytes", "clear", "()V"⟩, 6) := ⟨⟨by decide +kernel, by decide +kernel⟩, List.mem_of_getElem? (i := 272) (by decide +kernel), List.mem_of_getElem? (i := 817) (by decide +kernel), List.mem_of_getElem? (i := 818) (by decide +kernel)⟩
theorem lw_p30 : lw_okq (⟨"EightWires$Bytes", "add", "(I)V"⟩, 6) := ⟨⟨by decide +kernel, by decide +kernel⟩, List.mem_of_getElem? (i := 272) (by decide +kernel), List.mem_of_getElem? (i := 823) (by decide +kernel), List.mem_of_getElem? (i := 824) (by decide +kernel)⟩
theorem lw_p31 : lw_okq (⟨"EightWires$Bytes", "takeFrame", "(LEightWires$Trace;III)V"⟩, 6) := ⟨⟨by decide +kernel, by decide +kernel⟩, List.mem_of_getElem? (i := 272) (by decide +kernel), List.mem_of_getElem? (i := 840) (by decide +kernel), List.mem_of_getElem? (i := 841) (by decide +kernel)⟩
def lw_privs_2 : List (MethodName × Nat) := [(⟨"EightWires$Reader", "take", "(I)V"⟩, 11), (⟨"EightWires$Reader", "readKeep", "()V"⟩, 11), (⟨"EightWires$Reader", "readDepth", "()V"⟩, 11), (⟨"EightWires$Reader", "readAhead", "()V"⟩, 11), (⟨"EightWires$Watch", "enter", "(I)V"⟩, 6), (⟨"EightWires$Watch", "look", "(LEightWires$Rules;LEightWires$Trace;I)V"⟩, 6), (⟨"EightWires$Watch", "leave", "(II)V"⟩, 6), (⟨"EightWires", "turns", "(IZI)Z"⟩, 13), (⟨"EightWires$Pulses", "note", "(III)V"⟩, 6), (⟨"EightWires", "firstRise", "(I)I"⟩, 13), (⟨"EightWires", "lastRise", "(I)I"⟩, 13), (⟨"EightWires$Trace", "flip", "(III)V"⟩, 3), (⟨"EightWires$Gaps", "note", "(III)V"⟩, 5), (⟨"EightWires$Bytes", "clear", "()V"⟩, 6), (⟨"EightWires$Bytes", "add", "(I)V"⟩, 6), (⟨"EightWires$Bytes", "takeFrame", "(LEightWires$Trace;III)V"⟩, 6)]
theorem lw_r2 : ∀ q ∈ lw_privs_2, lw_okq q := List.forall_mem_cons.mpr ⟨lw_p16, List.forall_mem_cons.mpr ⟨lw_p17, List.forall_mem_cons.mpr ⟨lw_p18, List.forall_mem_cons.mpr ⟨lw_p19, List.forall_mem_cons.mpr ⟨lw_p20, List.forall_mem_cons.mpr ⟨lw_p21, List.forall_mem_cons.mpr ⟨lw_p22, List.forall_mem_cons.mpr ⟨lw_p23, List.forall_mem_cons.mpr ⟨lw_p24, List.forall_mem_cons.mpr ⟨lw_p25, List.forall_mem_cons.mpr ⟨lw_p26, List.forall_mem_cons.mpr ⟨lw_p27, List.forall_mem_cons.mpr ⟨lw_p28, List.forall_mem_cons.mpr ⟨lw_p29, List.forall_mem_cons.mpr ⟨lw_p30, List.forall_mem_cons.mpr ⟨lw_p31, fun _ h => absurd h List.not_mem_nil⟩⟩⟩⟩⟩⟩⟩⟩⟩⟩⟩⟩⟩⟩⟩⟩
theorem lw_p32 : lw_okq (⟨"EightWires", "imageOf", "(I)LEightWires$Trace;"⟩, 13) := ⟨⟨by decide +kernel, by decide +kernel⟩, List.mem_of_getElem? (i := 21) (by decide +kernel), List.mem_of_getElem? (i := 900) (by decide +kernel), List.mem_of_getElem? (i := 901) (by decide +kernel)⟩
theorem lw_p33 : lw_okq (⟨"EightWires", "sheetOf", "(I)LEightWires$Sheet;"⟩, 13) := ⟨⟨by decide +kernel, by decide +kernel⟩, List.mem_of_getElem? (i := 21) (by decide +kernel), List.mem_of_getElem? (i := 924) (by decide +kernel), List.mem_of_getElem? (i := 925) (by decide +kernel)⟩
theorem lw_p34 : lw_okq (⟨"EightWires", "firstRefusal", "(LEightWires$Sheet;II)I"⟩, 13) := ⟨⟨by decide +kernel, by decide +kernel⟩, List.mem_of_getElem? (i := 21) (by decide +kernel), List.mem_of_getElem? (i := 968) (by decide +kernel), List.mem_of_getElem? (i := 969) (by decide +kernel)⟩
theorem lw_p35 : lw_okq (⟨"EightWires", "imagesKept", "()I"⟩, 13) := ⟨⟨by decide +kernel, by decide +kernel⟩, List.mem_of_getElem? (i := 21) (by decide +kernel), List.mem_of_getElem? (i := 984) (by decide +kernel), List.mem_of_getElem? (i := 985) (by decide +kernel)⟩
theorem lw_p36 : lw_okq (⟨"EightWires", "cellsOfFirst", "()I"⟩, 13) := ⟨⟨by decide +kernel, by decide +kernel⟩, List.mem_of_getElem? (i := 21) (by decide +kernel), List.mem_of_getElem? (i := 988) (by decide +kernel), List.mem_of_getElem? (i := 989) (by decide +kernel)⟩
theorem lw_p37 : lw_okq (⟨"EightWiresModel", "firstDraft", "()V"⟩, 34) := ⟨⟨by decide +kernel, by decide +kernel⟩, List.mem_of_getElem? (i := 992) (by decide +kernel), List.mem_of_getElem? (i := 998) (by decide +kernel), List.mem_of_getElem? (i := 999) (by decide +kernel)⟩
theorem lw_p38 : lw_okq (⟨"EightWiresModel", "keepDraft", "()V"⟩, 34) := ⟨⟨by decide +kernel, by decide +kernel⟩, List.mem_of_getElem? (i := 992) (by decide +kernel), List.mem_of_getElem? (i := 1002) (by decide +kernel), List.mem_of_getElem? (i := 1003) (by decide +kernel)⟩
theorem lw_p39 : lw_okq (⟨"EightWiresModel", "token", "()V"⟩, 34) := ⟨⟨by decide +kernel, by decide +kernel⟩, List.mem_of_getElem? (i := 992) (by decide +kernel), List.mem_of_getElem? (i := 1125) (by decide +kernel), List.mem_of_getElem? (i := 1126) (by decide +kernel)⟩
theorem lw_p40 : lw_okq (⟨"EightWiresModel", "look", "(I)I"⟩, 34) := ⟨⟨by decide +kernel, by decide +kernel⟩, List.mem_of_getElem? (i := 992) (by decide +kernel), List.mem_of_getElem? (i := 1129) (by decide +kernel), List.mem_of_getElem? (i := 1130) (by decide +kernel)⟩
theorem lw_p41 : lw_okq (⟨"EightWiresModel", "needs", "(ZI)V"⟩, 34) := ⟨⟨by decide +kernel, by decide +kernel⟩, List.mem_of_getElem? (i := 992) (by decide +kernel), List.mem_of_getElem? (i := 1137) (by decide +kernel), List.mem_of_getElem? (i := 1138) (by decide +kernel)⟩
theorem lw_p42 : lw_okq (⟨"EightWiresModel", "readLine", "()V"⟩, 34) := ⟨⟨by decide +kernel, by decide +kernel⟩, List.mem_of_getElem? (i := 992) (by decide +kernel), List.mem_of_getElem? (i := 1141) (by decide +kernel), List.mem_of_getElem? (i := 1142) (by decide +kernel)⟩
theorem lw_p43 : lw_okq (⟨"EightWiresModel", "lineNow", "()I"⟩, 34) := ⟨⟨by decide +kernel, by decide +kernel⟩, List.mem_of_getElem? (i := 992) (by decide +kernel), List.mem_of_getElem? (i := 1145) (by decide +kernel), List.mem_of_getElem? (i := 1146) (by decide +kernel)⟩
theorem lw_p44 : lw_okq (⟨"EightWiresModel", "is", "(IIIII)Z"⟩, 34) := ⟨⟨by decide +kernel, by decide +kernel⟩, List.mem_of_getElem? (i := 992) (by decide +kernel), List.mem_of_getElem? (i := 1149) (by decide +kernel), List.mem_of_getElem? (i := 1150) (by decide +kernel)⟩
theorem lw_p45 : lw_okq (⟨"EightWiresModel", "readState", "()V"⟩, 34) := ⟨⟨by decide +kernel, by decide +kernel⟩, List.mem_of_getElem? (i := 992) (by decide +kernel), List.mem_of_getElem? (i := 1153) (by decide +kernel), List.mem_of_getElem? (i := 1154) (by decide +kernel)⟩
theorem lw_p46 : lw_okq (⟨"EightWiresModel", "readBranch", "(I)V"⟩, 34) := ⟨⟨by decide +kernel, by decide +kernel⟩, List.mem_of_getElem? (i := 992) (by decide +kernel), List.mem_of_getElem? (i := 1157) (by decide +kernel), List.mem_of_getElem? (i := 1158) (by decide +kernel)⟩
theorem lw_p47 : lw_okq (⟨"EightWiresModel", "readCond", "(I)I"⟩, 34) := ⟨⟨by decide +kernel, by decide +kernel⟩, List.mem_of_getElem? (i := 992) (by decide +kernel), List.mem_of_getElem? (i := 1161) (by decide +kernel), List.mem_of_getElem? (i := 1162) (by decide +kernel)⟩
def lw_privs_3 : List (MethodName × Nat) := [(⟨"EightWires", "imageOf", "(I)LEightWires$Trace;"⟩, 13), (⟨"EightWires", "sheetOf", "(I)LEightWires$Sheet;"⟩, 13), (⟨"EightWires", "firstRefusal", "(LEightWires$Sheet;II)I"⟩, 13), (⟨"EightWires", "imagesKept", "()I"⟩, 13), (⟨"EightWires", "cellsOfFirst", "()I"⟩, 13), (⟨"EightWiresModel", "firstDraft", "()V"⟩, 34), (⟨"EightWiresModel", "keepDraft", "()V"⟩, 34), (⟨"EightWiresModel", "token", "()V"⟩, 34), (⟨"EightWiresModel", "look", "(I)I"⟩, 34), (⟨"EightWiresModel", "needs", "(ZI)V"⟩, 34), (⟨"EightWiresModel", "readLine", "()V"⟩, 34), (⟨"EightWiresModel", "lineNow", "()I"⟩, 34), (⟨"EightWiresModel", "is", "(IIIII)Z"⟩, 34), (⟨"EightWiresModel", "readState", "()V"⟩, 34), (⟨"EightWiresModel", "readBranch", "(I)V"⟩, 34), (⟨"EightWiresModel", "readCond", "(I)I"⟩, 34)]
theorem lw_r3 : ∀ q ∈ lw_privs_3, lw_okq q := List.forall_mem_cons.mpr ⟨lw_p32, List.forall_mem_cons.mpr ⟨lw_p33, List.forall_mem_cons.mpr ⟨lw_p34, List.forall_mem_cons.mpr ⟨lw_p35, List.forall_mem_cons.mpr ⟨lw_p36, List.forall_mem_cons.mpr ⟨lw_p37, List.forall_mem_cons.mpr ⟨lw_p38, List.forall_mem_cons.mpr ⟨lw_p39, List.forall_mem_cons.mpr ⟨lw_p40, List.forall_mem_cons.mpr ⟨lw_p41, List.forall_mem_cons.mpr ⟨lw_p42, List.forall_mem_cons.mpr ⟨lw_p43, List.forall_mem_cons.mpr ⟨lw_p44, List.forall_mem_cons.mpr ⟨lw_p45, List.forall_mem_cons.mpr ⟨lw_p46, List.forall_mem_cons.mpr ⟨lw_p47, fun _ h => absurd h List.not_mem_nil⟩⟩⟩⟩⟩⟩⟩⟩⟩⟩⟩⟩⟩⟩⟩⟩
theorem lw_p48 : lw_okq (⟨"EightWiresModel", "termNow", "()I"⟩, 34) := ⟨⟨by decide +kernel, by decide +kernel⟩, List.mem_of_getElem? (i := 992) (by decide +kernel), List.mem_of_getElem? (i := 1165) (by decide +kernel), List.mem_of_getElem? (i := 1166) (by decide +kernel)⟩
theorem lw_p49 : lw_okq (⟨"EightWiresModel", "readNumber", "(II)I"⟩, 34) := ⟨⟨by decide +kernel, by decide +kernel⟩, List.mem_of_getElem? (i := 992) (by decide +kernel), List.mem_of_getElem? (i := 1169) (by decide +kernel), List.mem_of_getElem? (i := 1170) (by decide +kernel)⟩
theorem lw_p50 : lw_okq (⟨"EightWiresModel", "wordNow", "()I"⟩, 34) := ⟨⟨by decide +kernel, by decide +kernel⟩, List.mem_of_getElem? (i := 992) (by decide +kernel), List.mem_of_getElem? (i := 1173) (by decide +kernel), List.mem_of_getElem? (i := 1174) (by decide +kernel)⟩
theorem lw_p51 : lw_okq (⟨"EightWiresModel", "isWhole", "()Z"⟩, 34) := ⟨⟨by decide +kernel, by decide +kernel⟩, List.mem_of_getElem? (i := 992) (by decide +kernel), List.mem_of_getElem? (i := 1177) (by decide +kernel), List.mem_of_getElem? (i := 1178) (by decide +kernel)⟩
theorem lw_p52 : lw_okq (⟨"EightWiresModel", "isState", "(I)Z"⟩, 34) := ⟨⟨by decide +kernel, by decide +kernel⟩, List.mem_of_getElem? (i := 992) (by decide +kernel), List.mem_of_getElem? (i := 1189) (by decide +kernel), List.mem_of_getElem? (i := 1190) (by decide +kernel)⟩
theorem lw_p53 : lw_okq (⟨"EightWiresModel", "isSample", "(I)Z"⟩, 34) := ⟨⟨by decide +kernel, by decide +kernel⟩, List.mem_of_getElem? (i := 992) (by decide +kernel), List.mem_of_getElem? (i := 1216) (by decide +kernel), List.mem_of_getElem? (i := 1217) (by decide +kernel)⟩
theorem lw_p54 : lw_okq (⟨"EightWiresModel", "runs0", "(I)V"⟩, 34) := ⟨⟨by decide +kernel, by decide +kernel⟩, List.mem_of_getElem? (i := 992) (by decide +kernel), List.mem_of_getElem? (i := 1229) (by decide +kernel), List.mem_of_getElem? (i := 1230) (by decide +kernel)⟩
theorem lw_p55 : lw_okq (⟨"EightWiresModel", "enters", "(II)V"⟩, 34) := ⟨⟨by decide +kernel, by decide +kernel⟩, List.mem_of_getElem? (i := 992) (by decide +kernel), List.mem_of_getElem? (i := 1233) (by decide +kernel), List.mem_of_getElem? (i := 1234) (by decide +kernel)⟩
theorem lw_p56 : lw_okq (⟨"EightWiresModel", "sample", "(I)V"⟩, 34) := ⟨⟨by decide +kernel, by decide +kernel⟩, List.mem_of_getElem? (i := 992) (by decide +kernel), List.mem_of_getElem? (i := 1237) (by decide +kernel), List.mem_of_getElem? (i := 1238) (by decide +kernel)⟩
theorem lw_p57 : lw_okq (⟨"EightWiresModel", "isSo", "(IIII)Z"⟩, 34) := ⟨⟨by decide +kernel, by decide +kernel⟩, List.mem_of_getElem? (i := 992) (by decide +kernel), List.mem_of_getElem? (i := 1241) (by decide +kernel), List.mem_of_getElem? (i := 1242) (by decide +kernel)⟩
theorem lw_p58 : lw_okq (⟨"EightWiresModel", "isHigh", "(II)Z"⟩, 34) := ⟨⟨by decide +kernel, by decide +kernel⟩, List.mem_of_getElem? (i := 992) (by decide +kernel), List.mem_of_getElem? (i := 1245) (by decide +kernel), List.mem_of_getElem? (i := 1246) (by decide +kernel)⟩
theorem lw_p59 : lw_okq (⟨"EightWiresModel", "rises", "(II)Z"⟩, 34) := ⟨⟨by decide +kernel, by decide +kernel⟩, List.mem_of_getElem? (i := 992) (by decide +kernel), List.mem_of_getElem? (i := 1249) (by decide +kernel), List.mem_of_getElem? (i := 1250) (by decide +kernel)⟩
theorem lw_p60 : lw_okq (⟨"EightWiresModel", "falls", "(II)Z"⟩, 34) := ⟨⟨by decide +kernel, by decide +kernel⟩, List.mem_of_getElem? (i := 992) (by decide +kernel), List.mem_of_getElem? (i := 1253) (by decide +kernel), List.mem_of_getElem? (i := 1254) (by decide +kernel)⟩
theorem lw_p61 : lw_okq (⟨"EightWiresModel", "isKept", "(I)Z"⟩, 34) := ⟨⟨by decide +kernel, by decide +kernel⟩, List.mem_of_getElem? (i := 992) (by decide +kernel), List.mem_of_getElem? (i := 1269) (by decide +kernel), List.mem_of_getElem? (i := 1270) (by decide +kernel)⟩
theorem lw_p62 : lw_okq (⟨"EightWiresModel", "isEdge", "(IZI)Z"⟩, 34) := ⟨⟨by decide +kernel, by decide +kernel⟩, List.mem_of_getElem? (i := 992) (by decide +kernel), List.mem_of_getElem? (i := 1285) (by decide +kernel), List.mem_of_getElem? (i := 1286) (by decide +kernel)⟩
theorem lw_p63 : lw_okq (⟨"EightWiresModel", "noPulses", "()V"⟩, 34) := ⟨⟨by decide +kernel, by decide +kernel⟩, List.mem_of_getElem? (i := 992) (by decide +kernel), List.mem_of_getElem? (i := 1301) (by decide +kernel), List.mem_of_getElem? (i := 1302) (by decide +kernel)⟩
def lw_privs_4 : List (MethodName × Nat) := [(⟨"EightWiresModel", "termNow", "()I"⟩, 34), (⟨"EightWiresModel", "readNumber", "(II)I"⟩, 34), (⟨"EightWiresModel", "wordNow", "()I"⟩, 34), (⟨"EightWiresModel", "isWhole", "()Z"⟩, 34), (⟨"EightWiresModel", "isState", "(I)Z"⟩, 34), (⟨"EightWiresModel", "isSample", "(I)Z"⟩, 34), (⟨"EightWiresModel", "runs0", "(I)V"⟩, 34), (⟨"EightWiresModel", "enters", "(II)V"⟩, 34), (⟨"EightWiresModel", "sample", "(I)V"⟩, 34), (⟨"EightWiresModel", "isSo", "(IIII)Z"⟩, 34), (⟨"EightWiresModel", "isHigh", "(II)Z"⟩, 34), (⟨"EightWiresModel", "rises", "(II)Z"⟩, 34), (⟨"EightWiresModel", "falls", "(II)Z"⟩, 34), (⟨"EightWiresModel", "isKept", "(I)Z"⟩, 34), (⟨"EightWiresModel", "isEdge", "(IZI)Z"⟩, 34), (⟨"EightWiresModel", "noPulses", "()V"⟩, 34)]
theorem lw_r4 : ∀ q ∈ lw_privs_4, lw_okq q := List.forall_mem_cons.mpr ⟨lw_p48, List.forall_mem_cons.mpr ⟨lw_p49, List.forall_mem_cons.mpr ⟨lw_p50, List.forall_mem_cons.mpr ⟨lw_p51, List.forall_mem_cons.mpr ⟨lw_p52, List.forall_mem_cons.mpr ⟨lw_p53, List.forall_mem_cons.mpr ⟨lw_p54, List.forall_mem_cons.mpr ⟨lw_p55, List.forall_mem_cons.mpr ⟨lw_p56, List.forall_mem_cons.mpr ⟨lw_p57, List.forall_mem_cons.mpr ⟨lw_p58, List.forall_mem_cons.mpr ⟨lw_p59, List.forall_mem_cons.mpr ⟨lw_p60, List.forall_mem_cons.mpr ⟨lw_p61, List.forall_mem_cons.mpr ⟨lw_p62, List.forall_mem_cons.mpr ⟨lw_p63, fun _ h => absurd h List.not_mem_nil⟩⟩⟩⟩⟩⟩⟩⟩⟩⟩⟩⟩⟩⟩⟩⟩
theorem lw_p64 : lw_okq (⟨"EightWiresModel", "findPulses", "(II)V"⟩, 34) := ⟨⟨by decide +kernel, by decide +kernel⟩, List.mem_of_getElem? (i := 992) (by decide +kernel), List.mem_of_getElem? (i := 1305) (by decide +kernel), List.mem_of_getElem? (i := 1306) (by decide +kernel)⟩
theorem lw_p65 : lw_okq (⟨"EightWiresModel", "endOf", "(II)I"⟩, 34) := ⟨⟨by decide +kernel, by decide +kernel⟩, List.mem_of_getElem? (i := 992) (by decide +kernel), List.mem_of_getElem? (i := 1309) (by decide +kernel), List.mem_of_getElem? (i := 1310) (by decide +kernel)⟩
theorem lw_p66 : lw_okq (⟨"EightWiresModel", "smooths", "(II)V"⟩, 34) := ⟨⟨by decide +kernel, by decide +kernel⟩, List.mem_of_getElem? (i := 992) (by decide +kernel), List.mem_of_getElem? (i := 1328) (by decide +kernel), List.mem_of_getElem? (i := 1329) (by decide +kernel)⟩
theorem lw_p67 : lw_okq (⟨"EightWiresModel", "aheadOf", "(II)I"⟩, 34) := ⟨⟨by decide +kernel, by decide +kernel⟩, List.mem_of_getElem? (i := 992) (by decide +kernel), List.mem_of_getElem? (i := 1336) (by decide +kernel), List.mem_of_getElem? (i := 1337) (by decide +kernel)⟩
theorem lw_p68 : lw_okq (⟨"EightWiresModel", "changes", "(II)Z"⟩, 34) := ⟨⟨by decide +kernel, by decide +kernel⟩, List.mem_of_getElem? (i := 992) (by decide +kernel), List.mem_of_getElem? (i := 1340) (by decide +kernel), List.mem_of_getElem? (i := 1341) (by decide +kernel)⟩
theorem lw_p69 : lw_okq (⟨"EightWiresModel", "behindOf", "(II)I"⟩, 34) := ⟨⟨by decide +kernel, by decide +kernel⟩, List.mem_of_getElem? (i := 992) (by decide +kernel), List.mem_of_getElem? (i := 1344) (by decide +kernel), List.mem_of_getElem? (i := 1345) (by decide +kernel)⟩
theorem lw_p70 : lw_okq (⟨"EightWiresModel", "layFrames", "(III)V"⟩, 34) := ⟨⟨by decide +kernel, by decide +kernel⟩, List.mem_of_getElem? (i := 992) (by decide +kernel), List.mem_of_getElem? (i := 1364) (by decide +kernel), List.mem_of_getElem? (i := 1365) (by decide +kernel)⟩
theorem lw_p71 : lw_okq (⟨"EightWiresModel", "edgesBy", "(II)I"⟩, 34) := ⟨⟨by decide +kernel, by decide +kernel⟩, List.mem_of_getElem? (i := 992) (by decide +kernel), List.mem_of_getElem? (i := 1376) (by decide +kernel), List.mem_of_getElem? (i := 1377) (by decide +kernel)⟩
theorem lw_p72 : lw_okq (⟨"EightWiresModel", "unlikeBits", "(II)I"⟩, 34) := ⟨⟨by decide +kernel, by decide +kernel⟩, List.mem_of_getElem? (i := 992) (by decide +kernel), List.mem_of_getElem? (i := 1380) (by decide +kernel), List.mem_of_getElem? (i := 1381) (by decide +kernel)⟩
theorem lw_p73 : lw_okq (⟨"EightWiresModel", "begins", "(I)Z"⟩, 34) := ⟨⟨by decide +kernel, by decide +kernel⟩, List.mem_of_getElem? (i := 992) (by decide +kernel), List.mem_of_getElem? (i := 1392) (by decide +kernel), List.mem_of_getElem? (i := 1393) (by decide +kernel)⟩
theorem lw_p74 : lw_okq (⟨"EightWiresModel", "timesOf", "(I)I"⟩, 34) := ⟨⟨by decide +kernel, by decide +kernel⟩, List.mem_of_getElem? (i := 992) (by decide +kernel), List.mem_of_getElem? (i := 1404) (by decide +kernel), List.mem_of_getElem? (i := 1405) (by decide +kernel)⟩
theorem lw_p75 : lw_okq (⟨"EightWiresModel", "isFresh", "(I)Z"⟩, 34) := ⟨⟨by decide +kernel, by decide +kernel⟩, List.mem_of_getElem? (i := 992) (by decide +kernel), List.mem_of_getElem? (i := 1408) (by decide +kernel), List.mem_of_getElem? (i := 1409) (by decide +kernel)⟩
theorem lw_p76 : lw_okq (⟨"EightWiresModel", "unlikeBy", "(II)I"⟩, 34) := ⟨⟨by decide +kernel, by decide +kernel⟩, List.mem_of_getElem? (i := 992) (by decide +kernel), List.mem_of_getElem? (i := 1425) (by decide +kernel), List.mem_of_getElem? (i := 1426) (by decide +kernel)⟩
def lw_privs_5 : List (MethodName × Nat) := [(⟨"EightWiresModel", "findPulses", "(II)V"⟩, 34), (⟨"EightWiresModel", "endOf", "(II)I"⟩, 34), (⟨"EightWiresModel", "smooths", "(II)V"⟩, 34), (⟨"EightWiresModel", "aheadOf", "(II)I"⟩, 34), (⟨"EightWiresModel", "changes", "(II)Z"⟩, 34), (⟨"EightWiresModel", "behindOf", "(II)I"⟩, 34), (⟨"EightWiresModel", "layFrames", "(III)V"⟩, 34), (⟨"EightWiresModel", "edgesBy", "(II)I"⟩, 34), (⟨"EightWiresModel", "unlikeBits", "(II)I"⟩, 34), (⟨"EightWiresModel", "begins", "(I)Z"⟩, 34), (⟨"EightWiresModel", "timesOf", "(I)I"⟩, 34), (⟨"EightWiresModel", "isFresh", "(I)Z"⟩, 34), (⟨"EightWiresModel", "unlikeBy", "(II)I"⟩, 34)]
theorem lw_r5 : ∀ q ∈ lw_privs_5, lw_okq q := List.forall_mem_cons.mpr ⟨lw_p64, List.forall_mem_cons.mpr ⟨lw_p65, List.forall_mem_cons.mpr ⟨lw_p66, List.forall_mem_cons.mpr ⟨lw_p67, List.forall_mem_cons.mpr ⟨lw_p68, List.forall_mem_cons.mpr ⟨lw_p69, List.forall_mem_cons.mpr ⟨lw_p70, List.forall_mem_cons.mpr ⟨lw_p71, List.forall_mem_cons.mpr ⟨lw_p72, List.forall_mem_cons.mpr ⟨lw_p73, List.forall_mem_cons.mpr ⟨lw_p74, List.forall_mem_cons.mpr ⟨lw_p75, List.forall_mem_cons.mpr ⟨lw_p76, fun _ h => absurd h List.not_mem_nil⟩⟩⟩⟩⟩⟩⟩⟩⟩⟩⟩⟩⟩
def lw_privs : List (MethodName × Nat) := lw_privs_1 ++ (lw_privs_2 ++ (lw_privs_3 ++ (lw_privs_4 ++ (lw_privs_5))))
def lw_tbl : List Cond := k2_sels lw_privs ++ tables_1
theorem lw_privs_ok : ∀ q ∈ lw_privs, lw_okq q := by
  show ∀ q ∈ lw_privs_1 ++ (lw_privs_2 ++ (lw_privs_3 ++ (lw_privs_4 ++ (lw_privs_5)))), lw_okq q
  exact List.forall_mem_append.mpr ⟨lw_r1, List.forall_mem_append.mpr ⟨lw_r2, List.forall_mem_append.mpr ⟨lw_r3, List.forall_mem_append.mpr ⟨lw_r4, lw_r5⟩⟩⟩⟩
def RX0 : String := "EightWires$Bytes"
def TX0 : u_T := fun k => match k with
  | 0 => ("EightWires$Bytes", "row", "[I", true)
  | 1 => ("EightWires$Bytes", "size", "I", false)
  | 2 => ("EightWires$Bytes", "whole", "I", false)
  | 3 => ("EightWires$Bytes", "broken", "I", false)
  | 4 => ("EightWires$Bytes", "lost", "I", false)
  | _ => ("EightWires$Bytes", "pending", "I", false)
def tyX0 : Nat → FieldType := fun k => match k with
  | 0 => .array .int
  | 1 => .int
  | 2 => .int
  | 3 => .int
  | 4 => .int
  | _ => .int
abbrev wsX00 : List Cond := u_ws RX0 TX0 6
theorem nmX0 : ∀ a, a < 6 → ∀ b, b < 6 → a ≠ b → (TX0 a).2.1 ≠ (TX0 b).2.1 := by decide +kernel
theorem tyX0_ok : ∀ k, k < 6 → parseFieldDescriptor (TX0 k).2.2.1 = some (tyX0 k) := by decide +kernel
abbrev cX0_init : ByteArray := prog_2_method_1_code
def yX0_init : MethodName := ⟨RX0, "<init>", "()V"⟩
abbrev cX0_clear : ByteArray := prog_2_method_2_code
def yX0_clear : MethodName := ⟨RX0, "clear", "()V"⟩
abbrev cX0_add : ByteArray := prog_2_method_3_code
def yX0_add : MethodName := ⟨RX0, "add", "(I)V"⟩
abbrev cX0_value : ByteArray := prog_2_method_4_code
def yX0_value : MethodName := ⟨RX0, "value", "(I)I"⟩
abbrev cX0_gather : ByteArray := prog_2_method_5_code
def yX0_gather : MethodName := ⟨RX0, "gather", "(LEightWires$Trace;III)V"⟩
abbrev cX0_listen : ByteArray := prog_2_method_6_code
def yX0_listen : MethodName := ⟨RX0, "listen", "(LEightWires$Trace;II)V"⟩
abbrev cX0_takeFrame : ByteArray := prog_2_method_7_code
def yX0_takeFrame : MethodName := ⟨RX0, "takeFrame", "(LEightWires$Trace;III)V"⟩
def RX1 : String := "EightWires$Census"
def TX1 : u_T := fun k => match k with
  | 0 => ("EightWires$Census", "times", "[I", true)
  | 1 => ("EightWires$Census", "pairs", "[J", true)
  | 2 => ("EightWires$Census", "unlikeValues", "I", false)
  | 3 => ("EightWires$Census", "commonest", "I", false)
  | _ => ("EightWires$Census", "howOften", "I", false)
def tyX1 : Nat → FieldType := fun k => match k with
  | 0 => .array .int
  | 1 => .array .long
  | 2 => .int
  | 3 => .int
  | _ => .int
abbrev wsX10 : List Cond := u_ws RX1 TX1 5
theorem nmX1 : ∀ a, a < 5 → ∀ b, b < 5 → a ≠ b → (TX1 a).2.1 ≠ (TX1 b).2.1 := by decide +kernel
theorem tyX1_ok : ∀ k, k < 5 → parseFieldDescriptor (TX1 k).2.2.1 = some (tyX1 k) := by decide +kernel
abbrev cX1_init : ByteArray := prog_3_method_1_code
def yX1_init : MethodName := ⟨RX1, "<init>", "()V"⟩
abbrev cX1_tally : ByteArray := prog_3_method_2_code
def yX1_tally : MethodName := ⟨RX1, "tally", "(LEightWires$Trace;)V"⟩
abbrev cX1_unlikePairs : ByteArray := prog_3_method_3_code
def yX1_unlikePairs : MethodName := ⟨RX1, "unlikePairs", "(LEightWires$Trace;)I"⟩
def RX2 : String := "EightWires$Gaps"
def TX2 : u_T := fun k => match k with
  | 0 => ("EightWires$Gaps", "leastAhead", "I", false)
  | 1 => ("EightWires$Gaps", "leastAheadAt", "I", false)
  | 2 => ("EightWires$Gaps", "leastBehind", "I", false)
  | 3 => ("EightWires$Gaps", "leastBehindAt", "I", false)
  | _ => ("EightWires$Gaps", "tooNear", "I", false)
def tyX2 : Nat → FieldType := fun k => match k with
  | 0 => .int
  | 1 => .int
  | 2 => .int
  | 3 => .int
  | _ => .int
abbrev wsX20 : List Cond := u_ws RX2 TX2 5
theorem nmX2 : ∀ a, a < 5 → ∀ b, b < 5 → a ≠ b → (TX2 a).2.1 ≠ (TX2 b).2.1 := by decide +kernel
theorem tyX2_ok : ∀ k, k < 5 → parseFieldDescriptor (TX2 k).2.2.1 = some (tyX2 k) := by decide +kernel
abbrev cX2_init : ByteArray := prog_4_method_1_code
def yX2_init : MethodName := ⟨RX2, "<init>", "()V"⟩
abbrev cX2_measure : ByteArray := prog_4_method_2_code
def yX2_measure : MethodName := ⟨RX2, "measure", "(LEightWires$Trace;IIII)V"⟩
abbrev cX2_note : ByteArray := prog_4_method_3_code
def yX2_note : MethodName := ⟨RX2, "note", "(III)V"⟩
abbrev cX2_firstChange : ByteArray := prog_4_method_4_code
def yX2_firstChange : MethodName := ⟨RX2, "firstChange", "(LEightWires$Trace;II)I"⟩
def RX3 : String := "EightWires$Pulses"
def TX3 : u_T := fun k => match k with
  | 0 => ("EightWires$Pulses", "found", "I", false)
  | 1 => ("EightWires$Pulses", "shortest", "I", false)
  | 2 => ("EightWires$Pulses", "shortestAt", "I", false)
  | 3 => ("EightWires$Pulses", "longest", "I", false)
  | 4 => ("EightWires$Pulses", "longestAt", "I", false)
  | _ => ("EightWires$Pulses", "tooShort", "I", false)
def tyX3 : Nat → FieldType := fun k => match k with
  | 0 => .int
  | 1 => .int
  | 2 => .int
  | 3 => .int
  | 4 => .int
  | _ => .int
abbrev wsX30 : List Cond := u_ws RX3 TX3 6
theorem nmX3 : ∀ a, a < 6 → ∀ b, b < 6 → a ≠ b → (TX3 a).2.1 ≠ (TX3 b).2.1 := by decide +kernel
theorem tyX3_ok : ∀ k, k < 6 → parseFieldDescriptor (TX3 k).2.2.1 = some (tyX3 k) := by decide +kernel
abbrev cX3_init : ByteArray := prog_5_method_1_code
def yX3_init : MethodName := ⟨RX3, "<init>", "()V"⟩
abbrev cX3_measure : ByteArray := prog_5_method_2_code
def yX3_measure : MethodName := ⟨RX3, "measure", "(LEightWires$Trace;III)V"⟩
abbrev cX3_note : ByteArray := prog_5_method_3_code
def yX3_note : MethodName := ⟨RX3, "note", "(III)V"⟩
def RX4 : String := "EightWires$Reader"
def TX4 : u_T := fun k => match k with
  | 0 => ("EightWires$Reader", "tape", "LEightWires$Tape;", true)
  | 1 => ("EightWires$Reader", "rules", "LEightWires$Rules;", false)
  | 2 => ("EightWires$Reader", "at", "I", false)
  | 3 => ("EightWires$Reader", "token", "I", false)
  | 4 => ("EightWires$Reader", "start", "I", false)
  | 5 => ("EightWires$Reader", "number", "I", false)
  | 6 => ("EightWires$Reader", "depthTold", "Z", false)
  | 7 => ("EightWires$Reader", "aheadTold", "Z", false)
  | 8 => ("EightWires$Reader", "fault", "I", false)
  | 9 => ("EightWires$Reader", "place", "I", false)
  | _ => ("EightWires$Reader", "lines", "I", false)
def tyX4 : Nat → FieldType := fun k => match k with
  | 0 => .object "EightWires$Tape"
  | 1 => .object "EightWires$Rules"
  | 2 => .int
  | 3 => .int
  | 4 => .int
  | 5 => .int
  | 6 => .boolean
  | 7 => .boolean
  | 8 => .int
  | 9 => .int
  | _ => .int
abbrev wsX40 : List Cond := u_ws RX4 TX4 11
theorem nmX4 : ∀ a, a < 11 → ∀ b, b < 11 → a ≠ b → (TX4 a).2.1 ≠ (TX4 b).2.1 := by decide +kernel
theorem tyX4_ok : ∀ k, k < 11 → parseFieldDescriptor (TX4 k).2.2.1 = some (tyX4 k) := by decide +kernel
abbrev cX4_init : ByteArray := prog_6_method_1_code
def yX4_init : MethodName := ⟨RX4, "<init>", "()V"⟩
abbrev cX4_readAll : ByteArray := prog_6_method_2_code
def yX4_readAll : MethodName := ⟨RX4, "readAll", "()V"⟩
abbrev cX4_exchange : ByteArray := prog_6_method_3_code
def yX4_exchange : MethodName := ⟨RX4, "exchange", "(LEightWires$Rules;)LEightWires$Rules;"⟩
abbrev cX4_begin : ByteArray := prog_6_method_4_code
def yX4_begin : MethodName := ⟨RX4, "begin", "()V"⟩
abbrev cX4_readState : ByteArray := prog_6_method_5_code
def yX4_readState : MethodName := ⟨RX4, "readState", "()V"⟩
abbrev cX4_readBranch : ByteArray := prog_6_method_6_code
def yX4_readBranch : MethodName := ⟨RX4, "readBranch", "(II)V"⟩
abbrev cX4_readKeep : ByteArray := prog_6_method_7_code
def yX4_readKeep : MethodName := ⟨RX4, "readKeep", "()V"⟩
abbrev cX4_readDepth : ByteArray := prog_6_method_8_code
def yX4_readDepth : MethodName := ⟨RX4, "readDepth", "()V"⟩
abbrev cX4_readAhead : ByteArray := prog_6_method_9_code
def yX4_readAhead : MethodName := ⟨RX4, "readAhead", "()V"⟩
abbrev cX4_readCondition : ByteArray := prog_6_method_10_code
def yX4_readCondition : MethodName := ⟨RX4, "readCondition", "(I)V"⟩
abbrev cX4_greatestOf : ByteArray := prog_6_method_11_code
def yX4_greatestOf : MethodName := ⟨RX4, "greatestOf", "(I)I"⟩
abbrev cX4_take : ByteArray := prog_6_method_12_code
def yX4_take : MethodName := ⟨RX4, "take", "(I)V"⟩
abbrev cX4_takeNumber : ByteArray := prog_6_method_13_code
def yX4_takeNumber : MethodName := ⟨RX4, "takeNumber", "(II)I"⟩
abbrev cX4_advance : ByteArray := prog_6_method_14_code
def yX4_advance : MethodName := ⟨RX4, "advance", "()V"⟩
abbrev cX4_refuse : ByteArray := prog_6_method_15_code
def yX4_refuse : MethodName := ⟨RX4, "refuse", "(I)V"⟩
def RX5 : String := "EightWires$Rules"
def TX5 : u_T := fun k => match k with
  | 0 => ("EightWires$Rules", "branchCounts", "[I", true)
  | 1 => ("EightWires$Rules", "times", "[I", true)
  | 2 => ("EightWires$Rules", "targets", "[I", true)
  | 3 => ("EightWires$Rules", "termCounts", "[I", true)
  | 4 => ("EightWires$Rules", "termKinds", "[I", true)
  | 5 => ("EightWires$Rules", "termNumbers", "[I", true)
  | 6 => ("EightWires$Rules", "states", "I", false)
  | 7 => ("EightWires$Rules", "depth", "I", false)
  | _ => ("EightWires$Rules", "ahead", "I", false)
def tyX5 : Nat → FieldType := fun k => match k with
  | 0 => .array .int
  | 1 => .array .int
  | 2 => .array .int
  | 3 => .array .int
  | 4 => .array .int
  | 5 => .array .int
  | 6 => .int
  | 7 => .int
  | _ => .int
abbrev wsX50 : List Cond := u_ws RX5 TX5 9
theorem nmX5 : ∀ a, a < 9 → ∀ b, b < 9 → a ≠ b → (TX5 a).2.1 ≠ (TX5 b).2.1 := by decide +kernel
theorem tyX5_ok : ∀ k, k < 9 → parseFieldDescriptor (TX5 k).2.2.1 = some (tyX5 k) := by decide +kernel
abbrev cX5_init : ByteArray := prog_7_method_1_code
def yX5_init : MethodName := ⟨RX5, "<init>", "()V"⟩
abbrev cX5_forget : ByteArray := prog_7_method_2_code
def yX5_forget : MethodName := ⟨RX5, "forget", "()V"⟩
abbrev cX5_branchCount : ByteArray := prog_7_method_3_code
def yX5_branchCount : MethodName := ⟨RX5, "branchCount", "(I)I"⟩
abbrev cX5_branchPlace : ByteArray := prog_7_method_4_code
def yX5_branchPlace : MethodName := ⟨RX5, "branchPlace", "(II)I"⟩
abbrev cX5_timesOf : ByteArray := prog_7_method_5_code
def yX5_timesOf : MethodName := ⟨RX5, "timesOf", "(I)I"⟩
abbrev cX5_targetOf : ByteArray := prog_7_method_6_code
def yX5_targetOf : MethodName := ⟨RX5, "targetOf", "(I)I"⟩
abbrev cX5_termCount : ByteArray := prog_7_method_7_code
def yX5_termCount : MethodName := ⟨RX5, "termCount", "(I)I"⟩
abbrev cX5_termKind : ByteArray := prog_7_method_8_code
def yX5_termKind : MethodName := ⟨RX5, "termKind", "(II)I"⟩
abbrev cX5_termNumber : ByteArray := prog_7_method_9_code
def yX5_termNumber : MethodName := ⟨RX5, "termNumber", "(II)I"⟩
abbrev cX5_addBranch : ByteArray := prog_7_method_10_code
def yX5_addBranch : MethodName := ⟨RX5, "addBranch", "(IIII)V"⟩
abbrev cX5_addTerm : ByteArray := prog_7_method_11_code
def yX5_addTerm : MethodName := ⟨RX5, "addTerm", "(III)V"⟩
abbrev cX5_leadsNowhere : ByteArray := prog_7_method_12_code
def yX5_leadsNowhere : MethodName := ⟨RX5, "leadsNowhere", "()Z"⟩
abbrev cX5_holds : ByteArray := prog_7_method_13_code
def yX5_holds : MethodName := ⟨RX5, "holds", "(ILEightWires$Trace;II)Z"⟩
abbrev cX5_termHolds : ByteArray := prog_7_method_14_code
def yX5_termHolds : MethodName := ⟨RX5, "termHolds", "(IILEightWires$Trace;II)Z"⟩
def RX6 : String := "EightWires$Sheet"
def TX6 : u_T := fun k => match k with
  | 0 => ("EightWires$Sheet", "cells", "[I", true)
  | 1 => ("EightWires$Sheet", "lane", "I", false)
  | _ => ("EightWires$Sheet", "size", "I", false)
def tyX6 : Nat → FieldType := fun k => match k with
  | 0 => .array .int
  | 1 => .int
  | _ => .int
abbrev wsX60 : List Cond := u_ws RX6 TX6 3
theorem nmX6 : ∀ a, a < 3 → ∀ b, b < 3 → a ≠ b → (TX6 a).2.1 ≠ (TX6 b).2.1 := by decide +kernel
theorem tyX6_ok : ∀ k, k < 3 → parseFieldDescriptor (TX6 k).2.2.1 = some (tyX6 k) := by decide +kernel
abbrev cX6_init : ByteArray := prog_8_method_1_code
def yX6_init : MethodName := ⟨RX6, "<init>", "()V"⟩
abbrev cX6_isNothing : ByteArray := prog_8_method_2_code
def yX6_isNothing : MethodName := ⟨RX6, "isNothing", "()Z"⟩
abbrev cX6_has : ByteArray := prog_8_method_3_code
def yX6_has : MethodName := ⟨RX6, "has", "(I)Z"⟩
abbrev cX6_cell : ByteArray := prog_8_method_4_code
def yX6_cell : MethodName := ⟨RX6, "cell", "(I)I"⟩
abbrev cX6_renew : ByteArray := prog_8_method_5_code
def yX6_renew : MethodName := ⟨RX6, "renew", "(II)V"⟩
abbrev cX6_write : ByteArray := prog_8_method_6_code
def yX6_write : MethodName := ⟨RX6, "write", "(II)V"⟩
abbrev cX6_faultAs : ByteArray := prog_8_method_7_code
def yX6_faultAs : MethodName := ⟨RX6, "faultAs", "(I)I"⟩
abbrev cX6_wholePairs : ByteArray := prog_8_method_8_code
def yX6_wholePairs : MethodName := ⟨RX6, "wholePairs", "(II)I"⟩
def RX7 : String := "EightWires$Tape"
def TX7 : u_T := fun k => match k with
  | 0 => ("EightWires$Tape", "places", "[I", true)
  | 1 => ("EightWires$Tape", "size", "I", false)
  | 2 => ("EightWires$Tape", "tokens", "[I", true)
  | 3 => ("EightWires$Tape", "starts", "[I", true)
  | 4 => ("EightWires$Tape", "numbers", "[I", true)
  | _ => ("EightWires$Tape", "tokenCount", "I", false)
def tyX7 : Nat → FieldType := fun k => match k with
  | 0 => .array .int
  | 1 => .int
  | 2 => .array .int
  | 3 => .array .int
  | 4 => .array .int
  | _ => .int
abbrev wsX70 : List Cond := u_ws RX7 TX7 6
theorem nmX7 : ∀ a, a < 6 → ∀ b, b < 6 → a ≠ b → (TX7 a).2.1 ≠ (TX7 b).2.1 := by decide +kernel
theorem tyX7_ok : ∀ k, k < 6 → parseFieldDescriptor (TX7 k).2.2.1 = some (tyX7 k) := by decide +kernel
abbrev cX7_init : ByteArray := prog_9_method_1_code
def yX7_init : MethodName := ⟨RX7, "<init>", "()V"⟩
abbrev cX7_append : ByteArray := prog_9_method_2_code
def yX7_append : MethodName := ⟨RX7, "append", "(J)V"⟩
abbrev cX7_split : ByteArray := prog_9_method_3_code
def yX7_split : MethodName := ⟨RX7, "split", "()V"⟩
abbrev cX7_addToken : ByteArray := prog_9_method_4_code
def yX7_addToken : MethodName := ⟨RX7, "addToken", "(III)V"⟩
abbrev cX7_byteAt : ByteArray := prog_9_method_5_code
def yX7_byteAt : MethodName := ⟨RX7, "byteAt", "(I)I"⟩
abbrev cX7_behindAll : ByteArray := prog_9_method_6_code
def yX7_behindAll : MethodName := ⟨RX7, "behindAll", "(III)I"⟩
abbrev cX7_behindToken : ByteArray := prog_9_method_7_code
def yX7_behindToken : MethodName := ⟨RX7, "behindToken", "(I)I"⟩
abbrev cX7_tokenBetween : ByteArray := prog_9_method_8_code
def yX7_tokenBetween : MethodName := ⟨RX7, "tokenBetween", "(II)I"⟩
abbrev cX7_nameBetween : ByteArray := prog_9_method_9_code
def yX7_nameBetween : MethodName := ⟨RX7, "nameBetween", "(II)I"⟩
abbrev cX7_termBetween : ByteArray := prog_9_method_10_code
def yX7_termBetween : MethodName := ⟨RX7, "termBetween", "(II)I"⟩
abbrev cX7_spells : ByteArray := prog_9_method_11_code
def yX7_spells : MethodName := ⟨RX7, "spells", "(Ljava/lang/String;II)Z"⟩
abbrev cX7_valueBetween : ByteArray := prog_9_method_12_code
def yX7_valueBetween : MethodName := ⟨RX7, "valueBetween", "(II)I"⟩
def RX8 : String := "EightWires$Trace"
def TX8 : u_T := fun k => match k with
  | 0 => ("EightWires$Trace", "samples", "[I", true)
  | 1 => ("EightWires$Trace", "size", "I", false)
  | _ => ("EightWires$Trace", "kept", "Z", false)
def tyX8 : Nat → FieldType := fun k => match k with
  | 0 => .array .int
  | 1 => .int
  | _ => .boolean
abbrev wsX80 : List Cond := u_ws RX8 TX8 3
theorem nmX8 : ∀ a, a < 3 → ∀ b, b < 3 → a ≠ b → (TX8 a).2.1 ≠ (TX8 b).2.1 := by decide +kernel
theorem tyX8_ok : ∀ k, k < 3 → parseFieldDescriptor (TX8 k).2.2.1 = some (tyX8 k) := by decide +kernel
abbrev cX8_init : ByteArray := prog_10_method_1_code
def yX8_init : MethodName := ⟨RX8, "<init>", "()V"⟩
abbrev cX8_has : ByteArray := prog_10_method_2_code
def yX8_has : MethodName := ⟨RX8, "has", "(I)Z"⟩
abbrev cX8_sample : ByteArray := prog_10_method_3_code
def yX8_sample : MethodName := ⟨RX8, "sample", "(I)I"⟩
abbrev cX8_replace : ByteArray := prog_10_method_4_code
def yX8_replace : MethodName := ⟨RX8, "replace", "(II)V"⟩
abbrev cX8_append : ByteArray := prog_10_method_5_code
def yX8_append : MethodName := ⟨RX8, "append", "(II)V"⟩
abbrev cX8_copy : ByteArray := prog_10_method_6_code
def yX8_copy : MethodName := ⟨RX8, "copy", "(LEightWires$Trace;)V"⟩
abbrev cX8_high : ByteArray := prog_10_method_7_code
def yX8_high : MethodName := ⟨RX8, "high", "(II)Z"⟩
abbrev cX8_changes : ByteArray := prog_10_method_8_code
def yX8_changes : MethodName := ⟨RX8, "changes", "(II)Z"⟩
abbrev cX8_rises : ByteArray := prog_10_method_9_code
def yX8_rises : MethodName := ⟨RX8, "rises", "(II)Z"⟩
abbrev cX8_falls : ByteArray := prog_10_method_10_code
def yX8_falls : MethodName := ⟨RX8, "falls", "(II)Z"⟩
abbrev cX8_beginsRun : ByteArray := prog_10_method_11_code
def yX8_beginsRun : MethodName := ⟨RX8, "beginsRun", "(I)Z"⟩
abbrev cX8_edgesSeen : ByteArray := prog_10_method_12_code
def yX8_edgesSeen : MethodName := ⟨RX8, "edgesSeen", "(II)I"⟩
abbrev cX8_unlikeLaid : ByteArray := prog_10_method_13_code
def yX8_unlikeLaid : MethodName := ⟨RX8, "unlikeLaid", "(LEightWires$Trace;I)I"⟩
abbrev cX8_smoothWire : ByteArray := prog_10_method_14_code
def yX8_smoothWire : MethodName := ⟨RX8, "smoothWire", "(II)V"⟩
abbrev cX8_flip : ByteArray := prog_10_method_15_code
def yX8_flip : MethodName := ⟨RX8, "flip", "(III)V"⟩
def RX9 : String := "EightWires$Watch"
def TX9 : u_T := fun k => match k with
  | 0 => ("EightWires$Watch", "come", "[I", true)
  | 1 => ("EightWires$Watch", "hit", "I", false)
  | 2 => ("EightWires$Watch", "state", "I", false)
  | 3 => ("EightWires$Watch", "entered", "I", false)
  | 4 => ("EightWires$Watch", "looked", "I", false)
  | _ => ("EightWires$Watch", "lookedSince", "I", false)
def tyX9 : Nat → FieldType := fun k => match k with
  | 0 => .array .int
  | 1 => .int
  | 2 => .int
  | 3 => .int
  | 4 => .int
  | _ => .int
abbrev wsX90 : List Cond := u_ws RX9 TX9 6
theorem nmX9 : ∀ a, a < 6 → ∀ b, b < 6 → a ≠ b → (TX9 a).2.1 ≠ (TX9 b).2.1 := by decide +kernel
theorem tyX9_ok : ∀ k, k < 6 → parseFieldDescriptor (TX9 k).2.2.1 = some (tyX9 k) := by decide +kernel
abbrev cX9_init : ByteArray := prog_11_method_1_code
def yX9_init : MethodName := ⟨RX9, "<init>", "()V"⟩
abbrev cX9_follow : ByteArray := prog_11_method_2_code
def yX9_follow : MethodName := ⟨RX9, "follow", "(LEightWires$Rules;LEightWires$Trace;I)V"⟩
abbrev cX9_enter : ByteArray := prog_11_method_3_code
def yX9_enter : MethodName := ⟨RX9, "enter", "(I)V"⟩
abbrev cX9_look : ByteArray := prog_11_method_4_code
def yX9_look : MethodName := ⟨RX9, "look", "(LEightWires$Rules;LEightWires$Trace;I)V"⟩
abbrev cX9_leave : ByteArray := prog_11_method_5_code
def yX9_leave : MethodName := ⟨RX9, "leave", "(II)V"⟩
def RX10 : String := "EightWires"
def TX10 : u_T := fun k => match k with
  | 0 => ("EightWires", "reader", "LEightWires$Reader;", true)
  | 1 => ("EightWires", "trace", "LEightWires$Trace;", true)
  | 2 => ("EightWires", "before", "LEightWires$Trace;", true)
  | 3 => ("EightWires", "images", "[LEightWires$Trace;", true)
  | 4 => ("EightWires", "sheets", "[LEightWires$Sheet;", true)
  | 5 => ("EightWires", "watch", "LEightWires$Watch;", true)
  | 6 => ("EightWires", "pulses", "LEightWires$Pulses;", true)
  | 7 => ("EightWires", "gaps", "LEightWires$Gaps;", true)
  | 8 => ("EightWires", "bytes", "LEightWires$Bytes;", true)
  | 9 => ("EightWires", "census", "LEightWires$Census;", true)
  | 10 => ("EightWires", "told", "LEightWires$Rules;", false)
  | 11 => ("EightWires", "textFault", "I", false)
  | _ => ("EightWires", "readFault", "I", false)
def tyX10 : Nat → FieldType := fun k => match k with
  | 0 => .object "EightWires$Reader"
  | 1 => .object "EightWires$Trace"
  | 2 => .object "EightWires$Trace"
  | 3 => .array (.object "EightWires$Trace")
  | 4 => .array (.object "EightWires$Sheet")
  | 5 => .object "EightWires$Watch"
  | 6 => .object "EightWires$Pulses"
  | 7 => .object "EightWires$Gaps"
  | 8 => .object "EightWires$Bytes"
  | 9 => .object "EightWires$Census"
  | 10 => .object "EightWires$Rules"
  | 11 => .int
  | _ => .int
abbrev wsX100 : List Cond := u_ws RX10 TX10 13
theorem nmX10 : ∀ a, a < 13 → ∀ b, b < 13 → a ≠ b → (TX10 a).2.1 ≠ (TX10 b).2.1 := by decide +kernel
theorem tyX10_ok : ∀ k, k < 13 → parseFieldDescriptor (TX10 k).2.2.1 = some (tyX10 k) := by decide +kernel
abbrev cX10_init : ByteArray := prog_1_method_1_code
def yX10_init : MethodName := ⟨RX10, "<init>", "()V"⟩
abbrev cX10_feed : ByteArray := prog_1_method_2_code
def yX10_feed : MethodName := ⟨RX10, "feed", "(J)I"⟩
abbrev cX10_end : ByteArray := prog_1_method_3_code
def yX10_end : MethodName := ⟨RX10, "end", "(I)I"⟩
abbrev cX10_text : ByteArray := prog_1_method_4_code
def yX10_text : MethodName := ⟨RX10, "text", "()I"⟩
abbrev cX10_fault : ByteArray := prog_1_method_5_code
def yX10_fault : MethodName := ⟨RX10, "fault", "()I"⟩
abbrev cX10_rule : ByteArray := prog_1_method_6_code
def yX10_rule : MethodName := ⟨RX10, "rule", "(I)I"⟩
abbrev cX10_branch : ByteArray := prog_1_method_7_code
def yX10_branch : MethodName := ⟨RX10, "branch", "(III)I"⟩
abbrev cX10_see : ByteArray := prog_1_method_8_code
def yX10_see : MethodName := ⟨RX10, "see", "(II)I"⟩
abbrev cX10_cut : ByteArray := prog_1_method_9_code
def yX10_cut : MethodName := ⟨RX10, "cut", "(I)I"⟩
abbrev cX10_at : ByteArray := prog_1_method_10_code
def yX10_at : MethodName := ⟨RX10, "at", "(I)I"⟩
abbrev cX10_put : ByteArray := prog_1_method_11_code
def yX10_put : MethodName := ⟨RX10, "put", "(II)I"⟩
abbrev cX10_run : ByteArray := prog_1_method_12_code
def yX10_run : MethodName := ⟨RX10, "run", "(I)I"⟩
abbrev cX10_state : ByteArray := prog_1_method_13_code
def yX10_state : MethodName := ⟨RX10, "state", "(I)I"⟩
abbrev cX10_stored : ByteArray := prog_1_method_14_code
def yX10_stored : MethodName := ⟨RX10, "stored", "(I)I"⟩
abbrev cX10_next : ByteArray := prog_1_method_15_code
def yX10_next : MethodName := ⟨RX10, "next", "(I)I"⟩
abbrev cX10_edges : ByteArray := prog_1_method_16_code
def yX10_edges : MethodName := ⟨RX10, "edges", "(IZ)I"⟩
abbrev cX10_edge : ByteArray := prog_1_method_17_code
def yX10_edge : MethodName := ⟨RX10, "edge", "(IZI)I"⟩
abbrev cX10_pulse : ByteArray := prog_1_method_18_code
def yX10_pulse : MethodName := ⟨RX10, "pulse", "(III)I"⟩
abbrev cX10_duty : ByteArray := prog_1_method_19_code
def yX10_duty : MethodName := ⟨RX10, "duty", "(II)I"⟩
abbrev cX10_shorter : ByteArray := prog_1_method_20_code
def yX10_shorter : MethodName := ⟨RX10, "shorter", "(II)I"⟩
abbrev cX10_smooth : ByteArray := prog_1_method_21_code
def yX10_smooth : MethodName := ⟨RX10, "smooth", "(I)I"⟩
abbrev cX10_setup : ByteArray := prog_1_method_22_code
def yX10_setup : MethodName := ⟨RX10, "setup", "(III)I"⟩
abbrev cX10_tight : ByteArray := prog_1_method_23_code
def yX10_tight : MethodName := ⟨RX10, "tight", "(IIII)I"⟩
abbrev cX10_bits : ByteArray := prog_1_method_24_code
def yX10_bits : MethodName := ⟨RX10, "bits", "(IIII)I"⟩
abbrev cX10_serial : ByteArray := prog_1_method_25_code
def yX10_serial : MethodName := ⟨RX10, "serial", "(III)I"⟩
abbrev cX10_rate : ByteArray := prog_1_method_26_code
def yX10_rate : MethodName := ⟨RX10, "rate", "(II)I"⟩
abbrev cX10_seen : ByteArray := prog_1_method_27_code
def yX10_seen : MethodName := ⟨RX10, "seen", "(III)I"⟩
abbrev cX10_widest : ByteArray := prog_1_method_28_code
def yX10_widest : MethodName := ⟨RX10, "widest", "()I"⟩
abbrev cX10_runs : ByteArray := prog_1_method_29_code
def yX10_runs : MethodName := ⟨RX10, "runs", "()I"⟩
abbrev cX10_fills : ByteArray := prog_1_method_30_code
def yX10_fills : MethodName := ⟨RX10, "fills", "(II)I"⟩
abbrev cX10_values : ByteArray := prog_1_method_31_code
def yX10_values : MethodName := ⟨RX10, "values", "(I)I"⟩
abbrev cX10_keep : ByteArray := prog_1_method_32_code
def yX10_keep : MethodName := ⟨RX10, "keep", "(I)I"⟩
abbrev cX10_back : ByteArray := prog_1_method_33_code
def yX10_back : MethodName := ⟨RX10, "back", "(I)I"⟩
abbrev cX10_unlike : ByteArray := prog_1_method_34_code
def yX10_unlike : MethodName := ⟨RX10, "unlike", "(II)I"⟩
abbrev cX10_shift : ByteArray := prog_1_method_35_code
def yX10_shift : MethodName := ⟨RX10, "shift", "(II)I"⟩
abbrev cX10_sheet : ByteArray := prog_1_method_36_code
def yX10_sheet : MethodName := ⟨RX10, "sheet", "(III)I"⟩
abbrev cX10_lay : ByteArray := prog_1_method_37_code
def yX10_lay : MethodName := ⟨RX10, "lay", "(III)I"⟩
abbrev cX10_read : ByteArray := prog_1_method_38_code
def yX10_read : MethodName := ⟨RX10, "read", "(IIII)I"⟩
abbrev cX10_torn : ByteArray := prog_1_method_39_code
def yX10_torn : MethodName := ⟨RX10, "torn", "()I"⟩
abbrev cX10_count : ByteArray := prog_1_method_40_code
def yX10_count : MethodName := ⟨RX10, "count", "(I)I"⟩
abbrev cX10_within : ByteArray := prog_1_method_41_code
def yX10_within : MethodName := ⟨RX10, "within", "(III)Z"⟩
abbrev cX10_isWire : ByteArray := prog_1_method_42_code
def yX10_isWire : MethodName := ⟨RX10, "isWire", "(I)Z"⟩
abbrev cX10_isLane : ByteArray := prog_1_method_43_code
def yX10_isLane : MethodName := ⟨RX10, "isLane", "(I)Z"⟩
abbrev cX10_greatestDivisor : ByteArray := prog_1_method_44_code
def yX10_greatestDivisor : MethodName := ⟨RX10, "greatestDivisor", "(II)I"⟩
abbrev cX10_refusalOf : ByteArray := prog_1_method_45_code
def yX10_refusalOf : MethodName := ⟨RX10, "refusalOf", "(III)I"⟩
abbrev cX10_firstRefusal : ByteArray := prog_1_method_46_code
def yX10_firstRefusal : MethodName := ⟨RX10, "firstRefusal", "(LEightWires$Sheet;II)I"⟩
abbrev cX10_turns : ByteArray := prog_1_method_47_code
def yX10_turns : MethodName := ⟨RX10, "turns", "(IZI)Z"⟩
abbrev cX10_firstRise : ByteArray := prog_1_method_48_code
def yX10_firstRise : MethodName := ⟨RX10, "firstRise", "(I)I"⟩
abbrev cX10_lastRise : ByteArray := prog_1_method_49_code
def yX10_lastRise : MethodName := ⟨RX10, "lastRise", "(I)I"⟩
abbrev cX10_imageOf : ByteArray := prog_1_method_50_code
def yX10_imageOf : MethodName := ⟨RX10, "imageOf", "(I)LEightWires$Trace;"⟩
abbrev cX10_sheetOf : ByteArray := prog_1_method_51_code
def yX10_sheetOf : MethodName := ⟨RX10, "sheetOf", "(I)LEightWires$Sheet;"⟩
abbrev cX10_imagesKept : ByteArray := prog_1_method_52_code
def yX10_imagesKept : MethodName := ⟨RX10, "imagesKept", "()I"⟩
abbrev cX10_cellsOfFirst : ByteArray := prog_1_method_53_code
def yX10_cellsOfFirst : MethodName := ⟨RX10, "cellsOfFirst", "()I"⟩
def RX11 : String := "EightWiresModel"
def TX11 : u_T := fun k => match k with
  | 0 => ("EightWiresModel", "pr", "[I", true)
  | 1 => ("EightWiresModel", "draft", "[I", true)
  | 2 => ("EightWiresModel", "trace", "[I", true)
  | 3 => ("EightWiresModel", "many", "I", false)
  | 4 => ("EightWiresModel", "image", "[I", true)
  | 5 => ("EightWiresModel", "imageMany", "[I", true)
  | 6 => ("EightWiresModel", "toldLines", "I", false)
  | 7 => ("EightWiresModel", "tape", "[I", true)
  | 8 => ("EightWiresModel", "taped", "I", false)
  | 9 => ("EightWiresModel", "pos", "I", false)
  | 10 => ("EightWiresModel", "from", "I", false)
  | 11 => ("EightWiresModel", "sort", "I", false)
  | 12 => ("EightWiresModel", "value", "I", false)
  | 13 => ("EightWiresModel", "fault", "I", false)
  | 14 => ("EightWiresModel", "wrongAt", "I", false)
  | 15 => ("EightWiresModel", "stateNow", "I", false)
  | 16 => ("EightWiresModel", "hitAt", "I", false)
  | 17 => ("EightWiresModel", "entered", "I", false)
  | 18 => ("EightWiresModel", "looked", "I", false)
  | 19 => ("EightWiresModel", "since", "I", false)
  | 20 => ("EightWiresModel", "came", "[I", true)
  | 21 => ("EightWiresModel", "pulses", "I", false)
  | 22 => ("EightWiresModel", "shortest", "I", false)
  | 23 => ("EightWiresModel", "shortestAt", "I", false)
  | 24 => ("EightWiresModel", "longest", "I", false)
  | 25 => ("EightWiresModel", "longestAt", "I", false)
  | 26 => ("EightWiresModel", "had", "[I", true)
  | 27 => ("EightWiresModel", "frames", "I", false)
  | 28 => ("EightWiresModel", "broken", "I", false)
  | 29 => ("EightWiresModel", "asked", "I", false)
  | 30 => ("EightWiresModel", "lanes", "[I", true)
  | 31 => ("EightWiresModel", "sizes", "[I", true)
  | 32 => ("EightWiresModel", "cells", "[I", true)
  | _ => ("EightWiresModel", "torn", "I", false)
def tyX11 : Nat → FieldType := fun k => match k with
  | 0 => .array .int
  | 1 => .array .int
  | 2 => .array .int
  | 3 => .int
  | 4 => .array .int
  | 5 => .array .int
  | 6 => .int
  | 7 => .array .int
  | 8 => .int
  | 9 => .int
  | 10 => .int
  | 11 => .int
  | 12 => .int
  | 13 => .int
  | 14 => .int
  | 15 => .int
  | 16 => .int
  | 17 => .int
  | 18 => .int
  | 19 => .int
  | 20 => .array .int
  | 21 => .int
  | 22 => .int
  | 23 => .int
  | 24 => .int
  | 25 => .int
  | 26 => .array .int
  | 27 => .int
  | 28 => .int
  | 29 => .int
  | 30 => .array .int
  | 31 => .array .int
  | 32 => .array .int
  | _ => .int
abbrev wsX110 : List Cond := u_ws RX11 TX11 34
theorem nmX11 : ∀ a, a < 34 → ∀ b, b < 34 → a ≠ b → (TX11 a).2.1 ≠ (TX11 b).2.1 := by decide +kernel
theorem tyX11_ok : ∀ k, k < 34 → parseFieldDescriptor (TX11 k).2.2.1 = some (tyX11 k) := by decide +kernel
abbrev cX11_init : ByteArray := prog_13_method_1_code
def yX11_init : MethodName := ⟨RX11, "<init>", "()V"⟩
abbrev cX11_in : ByteArray := prog_13_method_3_code
def yX11_in : MethodName := ⟨RX11, "in", "(JJJ)Z"⟩
abbrev cX11_flag : ByteArray := prog_13_method_4_code
def yX11_flag : MethodName := ⟨RX11, "flag", "(Z)I"⟩
abbrev cX11_less : ByteArray := prog_13_method_5_code
def yX11_less : MethodName := ⟨RX11, "less", "(II)I"⟩
abbrev cX11_firstDraft : ByteArray := prog_13_method_6_code
def yX11_firstDraft : MethodName := ⟨RX11, "firstDraft", "()V"⟩
abbrev cX11_keepDraft : ByteArray := prog_13_method_7_code
def yX11_keepDraft : MethodName := ⟨RX11, "keepDraft", "()V"⟩
abbrev cX11_feed : ByteArray := prog_13_method_8_code
def yX11_feed : MethodName := ⟨RX11, "feed", "(J)I"⟩
abbrev cX11_end : ByteArray := prog_13_method_9_code
def yX11_end : MethodName := ⟨RX11, "end", "(I)I"⟩
abbrev cX11_needs : ByteArray := prog_13_method_10_code
def yX11_needs : MethodName := ⟨RX11, "needs", "(ZI)V"⟩
abbrev cX11_look : ByteArray := prog_13_method_11_code
def yX11_look : MethodName := ⟨RX11, "look", "(I)I"⟩
abbrev cX11_is : ByteArray := prog_13_method_12_code
def yX11_is : MethodName := ⟨RX11, "is", "(IIIII)Z"⟩
abbrev cX11_termNow : ByteArray := prog_13_method_13_code
def yX11_termNow : MethodName := ⟨RX11, "termNow", "()I"⟩
abbrev cX11_lineNow : ByteArray := prog_13_method_14_code
def yX11_lineNow : MethodName := ⟨RX11, "lineNow", "()I"⟩
abbrev cX11_wordNow : ByteArray := prog_13_method_15_code
def yX11_wordNow : MethodName := ⟨RX11, "wordNow", "()I"⟩
abbrev cX11_token : ByteArray := prog_13_method_16_code
def yX11_token : MethodName := ⟨RX11, "token", "()V"⟩
abbrev cX11_readNumber : ByteArray := prog_13_method_17_code
def yX11_readNumber : MethodName := ⟨RX11, "readNumber", "(II)I"⟩
abbrev cX11_readCond : ByteArray := prog_13_method_18_code
def yX11_readCond : MethodName := ⟨RX11, "readCond", "(I)I"⟩
abbrev cX11_readBranch : ByteArray := prog_13_method_19_code
def yX11_readBranch : MethodName := ⟨RX11, "readBranch", "(I)V"⟩
abbrev cX11_readState : ByteArray := prog_13_method_20_code
def yX11_readState : MethodName := ⟨RX11, "readState", "()V"⟩
abbrev cX11_readLine : ByteArray := prog_13_method_21_code
def yX11_readLine : MethodName := ⟨RX11, "readLine", "()V"⟩
abbrev cX11_isWhole : ByteArray := prog_13_method_22_code
def yX11_isWhole : MethodName := ⟨RX11, "isWhole", "()Z"⟩
abbrev cX11_text : ByteArray := prog_13_method_23_code
def yX11_text : MethodName := ⟨RX11, "text", "()I"⟩
abbrev cX11_fault : ByteArray := prog_13_method_24_code
def yX11_fault : MethodName := ⟨RX11, "fault", "()I"⟩
abbrev cX11_isState : ByteArray := prog_13_method_25_code
def yX11_isState : MethodName := ⟨RX11, "isState", "(I)Z"⟩
abbrev cX11_rule : ByteArray := prog_13_method_26_code
def yX11_rule : MethodName := ⟨RX11, "rule", "(I)I"⟩
abbrev cX11_branch : ByteArray := prog_13_method_27_code
def yX11_branch : MethodName := ⟨RX11, "branch", "(III)I"⟩
abbrev cX11_isValue : ByteArray := prog_13_method_28_code
def yX11_isValue : MethodName := ⟨RX11, "isValue", "(I)Z"⟩
abbrev cX11_isSample : ByteArray := prog_13_method_29_code
def yX11_isSample : MethodName := ⟨RX11, "isSample", "(I)Z"⟩
abbrev cX11_see : ByteArray := prog_13_method_30_code
def yX11_see : MethodName := ⟨RX11, "see", "(II)I"⟩
abbrev cX11_cut : ByteArray := prog_13_method_31_code
def yX11_cut : MethodName := ⟨RX11, "cut", "(I)I"⟩
abbrev cX11_at : ByteArray := prog_13_method_32_code
def yX11_at : MethodName := ⟨RX11, "at", "(I)I"⟩
abbrev cX11_put : ByteArray := prog_13_method_33_code
def yX11_put : MethodName := ⟨RX11, "put", "(II)I"⟩
abbrev cX11_isHigh : ByteArray := prog_13_method_34_code
def yX11_isHigh : MethodName := ⟨RX11, "isHigh", "(II)Z"⟩
abbrev cX11_rises : ByteArray := prog_13_method_35_code
def yX11_rises : MethodName := ⟨RX11, "rises", "(II)Z"⟩
abbrev cX11_falls : ByteArray := prog_13_method_36_code
def yX11_falls : MethodName := ⟨RX11, "falls", "(II)Z"⟩
abbrev cX11_isSo : ByteArray := prog_13_method_37_code
def yX11_isSo : MethodName := ⟨RX11, "isSo", "(IIII)Z"⟩
abbrev cX11_enters : ByteArray := prog_13_method_38_code
def yX11_enters : MethodName := ⟨RX11, "enters", "(II)V"⟩
abbrev cX11_sample : ByteArray := prog_13_method_39_code
def yX11_sample : MethodName := ⟨RX11, "sample", "(I)V"⟩
abbrev cX11_runs0 : ByteArray := prog_13_method_40_code
def yX11_runs0 : MethodName := ⟨RX11, "runs0", "(I)V"⟩
abbrev cX11_run : ByteArray := prog_13_method_41_code
def yX11_run : MethodName := ⟨RX11, "run", "(I)I"⟩
abbrev cX11_state : ByteArray := prog_13_method_42_code
def yX11_state : MethodName := ⟨RX11, "state", "(I)I"⟩
abbrev cX11_isKept : ByteArray := prog_13_method_43_code
def yX11_isKept : MethodName := ⟨RX11, "isKept", "(I)Z"⟩
abbrev cX11_stored : ByteArray := prog_13_method_44_code
def yX11_stored : MethodName := ⟨RX11, "stored", "(I)I"⟩
abbrev cX11_next : ByteArray := prog_13_method_45_code
def yX11_next : MethodName := ⟨RX11, "next", "(I)I"⟩
abbrev cX11_isWire : ByteArray := prog_13_method_46_code
def yX11_isWire : MethodName := ⟨RX11, "isWire", "(I)Z"⟩
abbrev cX11_isEdge : ByteArray := prog_13_method_47_code
def yX11_isEdge : MethodName := ⟨RX11, "isEdge", "(IZI)Z"⟩
abbrev cX11_edges : ByteArray := prog_13_method_48_code
def yX11_edges : MethodName := ⟨RX11, "edges", "(IZ)I"⟩
abbrev cX11_edge : ByteArray := prog_13_method_49_code
def yX11_edge : MethodName := ⟨RX11, "edge", "(IZI)I"⟩
abbrev cX11_endOf : ByteArray := prog_13_method_50_code
def yX11_endOf : MethodName := ⟨RX11, "endOf", "(II)I"⟩
abbrev cX11_noPulses : ByteArray := prog_13_method_51_code
def yX11_noPulses : MethodName := ⟨RX11, "noPulses", "()V"⟩
abbrev cX11_findPulses : ByteArray := prog_13_method_52_code
def yX11_findPulses : MethodName := ⟨RX11, "findPulses", "(II)V"⟩
abbrev cX11_pulse : ByteArray := prog_13_method_53_code
def yX11_pulse : MethodName := ⟨RX11, "pulse", "(III)I"⟩
abbrev cX11_told : ByteArray := prog_13_method_54_code
def yX11_told : MethodName := ⟨RX11, "told", "(III)I"⟩
abbrev cX11_duty : ByteArray := prog_13_method_55_code
def yX11_duty : MethodName := ⟨RX11, "duty", "(II)I"⟩
abbrev cX11_shorter : ByteArray := prog_13_method_56_code
def yX11_shorter : MethodName := ⟨RX11, "shorter", "(II)I"⟩
abbrev cX11_smooths : ByteArray := prog_13_method_57_code
def yX11_smooths : MethodName := ⟨RX11, "smooths", "(II)V"⟩
abbrev cX11_smooth : ByteArray := prog_13_method_58_code
def yX11_smooth : MethodName := ⟨RX11, "smooth", "(I)I"⟩
abbrev cX11_changes : ByteArray := prog_13_method_59_code
def yX11_changes : MethodName := ⟨RX11, "changes", "(II)Z"⟩
abbrev cX11_aheadOf : ByteArray := prog_13_method_60_code
def yX11_aheadOf : MethodName := ⟨RX11, "aheadOf", "(II)I"⟩
abbrev cX11_behindOf : ByteArray := prog_13_method_61_code
def yX11_behindOf : MethodName := ⟨RX11, "behindOf", "(II)I"⟩
abbrev cX11_setup : ByteArray := prog_13_method_62_code
def yX11_setup : MethodName := ⟨RX11, "setup", "(III)I"⟩
abbrev cX11_tight : ByteArray := prog_13_method_63_code
def yX11_tight : MethodName := ⟨RX11, "tight", "(IIII)I"⟩
abbrev cX11_bits : ByteArray := prog_13_method_64_code
def yX11_bits : MethodName := ⟨RX11, "bits", "(IIII)I"⟩
abbrev cX11_layFrames : ByteArray := prog_13_method_65_code
def yX11_layFrames : MethodName := ⟨RX11, "layFrames", "(III)V"⟩
abbrev cX11_isRate : ByteArray := prog_13_method_66_code
def yX11_isRate : MethodName := ⟨RX11, "isRate", "(I)Z"⟩
abbrev cX11_serial : ByteArray := prog_13_method_67_code
def yX11_serial : MethodName := ⟨RX11, "serial", "(III)I"⟩
abbrev cX11_rate : ByteArray := prog_13_method_68_code
def yX11_rate : MethodName := ⟨RX11, "rate", "(II)I"⟩
abbrev cX11_unlikeBits : ByteArray := prog_13_method_69_code
def yX11_unlikeBits : MethodName := ⟨RX11, "unlikeBits", "(II)I"⟩
abbrev cX11_edgesBy : ByteArray := prog_13_method_70_code
def yX11_edgesBy : MethodName := ⟨RX11, "edgesBy", "(II)I"⟩
abbrev cX11_seen : ByteArray := prog_13_method_71_code
def yX11_seen : MethodName := ⟨RX11, "seen", "(III)I"⟩
abbrev cX11_widest : ByteArray := prog_13_method_72_code
def yX11_widest : MethodName := ⟨RX11, "widest", "()I"⟩
abbrev cX11_begins : ByteArray := prog_13_method_73_code
def yX11_begins : MethodName := ⟨RX11, "begins", "(I)Z"⟩
abbrev cX11_runs : ByteArray := prog_13_method_74_code
def yX11_runs : MethodName := ⟨RX11, "runs", "()I"⟩
abbrev cX11_fills : ByteArray := prog_13_method_75_code
def yX11_fills : MethodName := ⟨RX11, "fills", "(II)I"⟩
abbrev cX11_timesOf : ByteArray := prog_13_method_76_code
def yX11_timesOf : MethodName := ⟨RX11, "timesOf", "(I)I"⟩
abbrev cX11_isFresh : ByteArray := prog_13_method_77_code
def yX11_isFresh : MethodName := ⟨RX11, "isFresh", "(I)Z"⟩
abbrev cX11_values : ByteArray := prog_13_method_78_code
def yX11_values : MethodName := ⟨RX11, "values", "(I)I"⟩
abbrev cX11_keep : ByteArray := prog_13_method_79_code
def yX11_keep : MethodName := ⟨RX11, "keep", "(I)I"⟩
abbrev cX11_back : ByteArray := prog_13_method_80_code
def yX11_back : MethodName := ⟨RX11, "back", "(I)I"⟩
abbrev cX11_unlikeBy : ByteArray := prog_13_method_81_code
def yX11_unlikeBy : MethodName := ⟨RX11, "unlikeBy", "(II)I"⟩
abbrev cX11_unlike : ByteArray := prog_13_method_82_code
def yX11_unlike : MethodName := ⟨RX11, "unlike", "(II)I"⟩
abbrev cX11_shift : ByteArray := prog_13_method_83_code
def yX11_shift : MethodName := ⟨RX11, "shift", "(II)I"⟩
abbrev cX11_isSheet : ByteArray := prog_13_method_84_code
def yX11_isSheet : MethodName := ⟨RX11, "isSheet", "(II)Z"⟩
abbrev cX11_sheet : ByteArray := prog_13_method_85_code
def yX11_sheet : MethodName := ⟨RX11, "sheet", "(III)I"⟩
abbrev cX11_lay : ByteArray := prog_13_method_86_code
def yX11_lay : MethodName := ⟨RX11, "lay", "(III)I"⟩
abbrev cX11_read : ByteArray := prog_13_method_87_code
def yX11_read : MethodName := ⟨RX11, "read", "(IIII)I"⟩
abbrev cX11_torn : ByteArray := prog_13_method_88_code
def yX11_torn : MethodName := ⟨RX11, "torn", "()I"⟩
abbrev cX11_count : ByteArray := prog_13_method_89_code
def yX11_count : MethodName := ⟨RX11, "count", "(I)I"⟩
def RJ6 : String := "java/lang/Integer"
def TJ6 : u_T := fun k => match k with
  | _ => ("", "", "", false)
def tyJ6 : Nat → FieldType := fun k => match k with
  | _ => .int
abbrev wsJ60 : List Cond := u_ws RJ6 TJ6 0
theorem nmJ6 : ∀ a, a < 0 → ∀ b, b < 0 → a ≠ b → (TJ6 a).2.1 ≠ (TJ6 b).2.1 := by decide +kernel
theorem tyJ6_ok : ∀ k, k < 0 → parseFieldDescriptor (TJ6 k).2.2.1 = some (tyJ6 k) := by decide +kernel
abbrev cJ6_bitCount_0f7a4 : ByteArray := prog_14_method_49_code
def yJ6_bitCount_0f7a4 : MethodName := ⟨RJ6, "bitCount", "(I)I"⟩
def RJ9 : String := "java/lang/Math"
def TJ9 : u_T := fun k => match k with
  | _ => ("", "", "", false)
def tyJ9 : Nat → FieldType := fun k => match k with
  | _ => .int
abbrev wsJ90 : List Cond := u_ws RJ9 TJ9 0
theorem nmJ9 : ∀ a, a < 0 → ∀ b, b < 0 → a ≠ b → (TJ9 a).2.1 ≠ (TJ9 b).2.1 := by decide +kernel
theorem tyJ9_ok : ∀ k, k < 0 → parseFieldDescriptor (TJ9 k).2.2.1 = some (tyJ9 k) := by decide +kernel
abbrev cJ9_max_7cf53 : ByteArray := prog_15_method_65_code
def yJ9_max_7cf53 : MethodName := ⟨RJ9, "max", "(II)I"⟩
abbrev cJ9_min_7cf53 : ByteArray := prog_15_method_69_code
def yJ9_min_7cf53 : MethodName := ⟨RJ9, "min", "(II)I"⟩
def RJ0 : String := "java/lang/String"
def TJ0 : u_T := fun k => match k with
  | _ => ("", "", "", false)
def tyJ0 : Nat → FieldType := fun k => match k with
  | _ => .int
abbrev wsJ00 : List Cond := u_ws RJ0 TJ0 0
theorem nmJ0 : ∀ a, a < 0 → ∀ b, b < 0 → a ≠ b → (TJ0 a).2.1 ≠ (TJ0 b).2.1 := by decide +kernel
theorem tyJ0_ok : ∀ k, k < 0 → parseFieldDescriptor (TJ0 k).2.2.1 = some (tyJ0 k) := by decide +kernel
abbrev cJ0_length_8abf5 : ByteArray := prog_16_method_54_code
def yJ0_length_8abf5 : MethodName := ⟨RJ0, "length", "()I"⟩
abbrev cJ0_charAt_5068e : ByteArray := prog_16_method_56_code
def yJ0_charAt_5068e : MethodName := ⟨RJ0, "charAt", "(I)C"⟩
abbrev cJ0_coder_7d493 : ByteArray := prog_16_method_152_code
def yJ0_coder_7d493 : MethodName := ⟨RJ0, "coder", "()B"⟩
abbrev cJ0_isLatin1_aae02 : ByteArray := prog_16_method_154_code
def yJ0_isLatin1_aae02 : MethodName := ⟨RJ0, "isLatin1", "()Z"⟩
abbrev cJ0_checkIndex_df160 : ByteArray := prog_16_method_155_code
def yJ0_checkIndex_df160 : MethodName := ⟨RJ0, "checkIndex", "(II)V"⟩
def RJ1 : String := "java/lang/StringLatin1"
def TJ1 : u_T := fun k => match k with
  | _ => ("", "", "", false)
def tyJ1 : Nat → FieldType := fun k => match k with
  | _ => .int
abbrev wsJ10 : List Cond := u_ws RJ1 TJ1 0
theorem nmJ1 : ∀ a, a < 0 → ∀ b, b < 0 → a ≠ b → (TJ1 a).2.1 ≠ (TJ1 b).2.1 := by decide +kernel
theorem tyJ1_ok : ∀ k, k < 0 → parseFieldDescriptor (TJ1 k).2.2.1 = some (tyJ1 k) := by decide +kernel
abbrev cJ1_charAt_3b067 : ByteArray := prog_17_method_2_code
def yJ1_charAt_3b067 : MethodName := ⟨RJ1, "charAt", "([BI)C"⟩
def RJ2 : String := "java/lang/StringUTF16"
def TJ2 : u_T := fun k => match k with
  | _ => ("", "", "", false)
def tyJ2 : Nat → FieldType := fun k => match k with
  | _ => .int
abbrev wsJ20 : List Cond := u_ws RJ2 TJ2 0
theorem nmJ2 : ∀ a, a < 0 → ∀ b, b < 0 → a ≠ b → (TJ2 a).2.1 ≠ (TJ2 b).2.1 := by decide +kernel
theorem tyJ2_ok : ∀ k, k < 0 → parseFieldDescriptor (TJ2 k).2.2.1 = some (tyJ2 k) := by decide +kernel
abbrev cJ2_getChar_3b067 : ByteArray := prog_18_method_5_code
def yJ2_getChar_3b067 : MethodName := ⟨RJ2, "getChar", "([BI)C"⟩
abbrev cJ2_length_9d52b : ByteArray := prog_18_method_6_code
def yJ2_length_9d52b : MethodName := ⟨RJ2, "length", "([B)I"⟩
abbrev cJ2_charAt_3b067 : ByteArray := prog_18_method_83_code
def yJ2_charAt_3b067 : MethodName := ⟨RJ2, "charAt", "([BI)C"⟩
abbrev cJ2_checkIndex_2214a : ByteArray := prog_18_method_91_code
def yJ2_checkIndex_2214a : MethodName := ⟨RJ2, "checkIndex", "(I[B)V"⟩
def RJ7 : String := "java/util/Arrays"
def TJ7 : u_T := fun k => match k with
  | _ => ("", "", "", false)
def tyJ7 : Nat → FieldType := fun k => match k with
  | _ => .int
abbrev wsJ70 : List Cond := u_ws RJ7 TJ7 0
theorem nmJ7 : ∀ a, a < 0 → ∀ b, b < 0 → a ≠ b → (TJ7 a).2.1 ≠ (TJ7 b).2.1 := by decide +kernel
theorem tyJ7_ok : ∀ k, k < 0 → parseFieldDescriptor (TJ7 k).2.2.1 = some (tyJ7 k) := by decide +kernel
abbrev cJ7_fill_d0a16 : ByteArray := prog_19_method_101_code
def yJ7_fill_d0a16 : MethodName := ⟨RJ7, "fill", "([JJ)V"⟩
abbrev cJ7_fill_53178 : ByteArray := prog_19_method_103_code
def yJ7_fill_53178 : MethodName := ⟨RJ7, "fill", "([II)V"⟩
def RJ3 : String := "jdk/internal/util/Preconditions"
def TJ3 : u_T := fun k => match k with
  | _ => ("", "", "", false)
def tyJ3 : Nat → FieldType := fun k => match k with
  | _ => .int
abbrev wsJ30 : List Cond := u_ws RJ3 TJ3 0
theorem nmJ3 : ∀ a, a < 0 → ∀ b, b < 0 → a ≠ b → (TJ3 a).2.1 ≠ (TJ3 b).2.1 := by decide +kernel
theorem tyJ3_ok : ∀ k, k < 0 → parseFieldDescriptor (TJ3 k).2.2.1 = some (tyJ3 k) := by decide +kernel
abbrev cJ3_checkIndex_8e157 : ByteArray := prog_20_method_11_code
def yJ3_checkIndex_8e157 : MethodName := ⟨RJ3, "checkIndex", "(IILjava/util/function/BiFunction;)I"⟩
def RL : String := "EightWiresLaw"
abbrev cL_law : ByteArray := code
def yL_law : MethodName := ⟨RL, "law", "([I)Z"⟩
abbrev vwCl : List vw_C := [(RX0, TX0, 6), (RX1, TX1, 5), (RX2, TX2, 5), (RX3, TX3, 6), (RX4, TX4, 11), (RX5, TX5, 9), (RX6, TX6, 3), (RX7, TX7, 6), (RX8, TX8, 3), (RX9, TX9, 6), (RX10, TX10, 13), (RX11, TX11, 34)]
