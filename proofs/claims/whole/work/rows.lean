section
-- ===== PART A: goes FIRST, ahead of the names: the tables' words, and 'selects' of the private methods out of them =====
/-- a private method of a class that the tables say can be made, by its rows of tables_1 -/
def lw_okq (q : MethodName × Nat) : Prop := (q.1.cls ≠ "java/lang/invoke/MethodHandle" ∧ q.1.cls ≠ "java/lang/invoke/VarHandle") ∧ Cond.instantiable q.1.cls q.2 ∈ tables_1 ∧ Cond.privateMethod q.1 ∈ tables_1 ∧ Cond.instanceMethod q.1 ∈ tables_1
theorem lw_p0 : lw_okq (⟨"WreckCourt", "found", "(I)I"⟩, 12) := ⟨⟨by decide +kernel, by decide +kernel⟩, List.mem_of_getElem? (i := 22) (by decide +kernel), List.mem_of_getElem? (i := 362) (by decide +kernel), List.mem_of_getElem? (i := 363) (by decide +kernel)⟩
theorem lw_p1 : lw_okq (⟨"WreckCourt", "well", "(I)I"⟩, 12) := ⟨⟨by decide +kernel, by decide +kernel⟩, List.mem_of_getElem? (i := 22) (by decide +kernel), List.mem_of_getElem? (i := 372) (by decide +kernel), List.mem_of_getElem? (i := 373) (by decide +kernel)⟩
theorem lw_p2 : lw_okq (⟨"WreckCourt", "isShip", "(I)Z"⟩, 12) := ⟨⟨by decide +kernel, by decide +kernel⟩, List.mem_of_getElem? (i := 22) (by decide +kernel), List.mem_of_getElem? (i := 415) (by decide +kernel), List.mem_of_getElem? (i := 416) (by decide +kernel)⟩
theorem lw_p3 : lw_okq (⟨"WreckCourt$Sea", "walk", "()V"⟩, 10) := ⟨⟨by decide +kernel, by decide +kernel⟩, List.mem_of_getElem? (i := 32) (by decide +kernel), List.mem_of_getElem? (i := 470) (by decide +kernel), List.mem_of_getElem? (i := 471) (by decide +kernel)⟩
theorem lw_p4 : lw_okq (⟨"WreckCourt$Sea", "takeStep", "(II)V"⟩, 10) := ⟨⟨by decide +kernel, by decide +kernel⟩, List.mem_of_getElem? (i := 32) (by decide +kernel), List.mem_of_getElem? (i := 479) (by decide +kernel), List.mem_of_getElem? (i := 480) (by decide +kernel)⟩
theorem lw_p5 : lw_okq (⟨"WreckCourt$Sea", "sightIn", "(I)I"⟩, 10) := ⟨⟨by decide +kernel, by decide +kernel⟩, List.mem_of_getElem? (i := 32) (by decide +kernel), List.mem_of_getElem? (i := 503) (by decide +kernel), List.mem_of_getElem? (i := 504) (by decide +kernel)⟩
theorem lw_p6 : lw_okq (⟨"WreckCourt$Vessel", "fill", "()V"⟩, 13) := ⟨⟨by decide +kernel, by decide +kernel⟩, List.mem_of_getElem? (i := 115) (by decide +kernel), List.mem_of_getElem? (i := 580) (by decide +kernel), List.mem_of_getElem? (i := 581) (by decide +kernel)⟩
theorem lw_p7 : lw_okq (⟨"WreckCourt$Vessel", "letIn", "(II)V"⟩, 13) := ⟨⟨by decide +kernel, by decide +kernel⟩, List.mem_of_getElem? (i := 115) (by decide +kernel), List.mem_of_getElem? (i := 589) (by decide +kernel), List.mem_of_getElem? (i := 590) (by decide +kernel)⟩
theorem lw_p8 : lw_okq (⟨"WreckCourt$Vessel", "levelOut", "()V"⟩, 13) := ⟨⟨by decide +kernel, by decide +kernel⟩, List.mem_of_getElem? (i := 115) (by decide +kernel), List.mem_of_getElem? (i := 596) (by decide +kernel), List.mem_of_getElem? (i := 597) (by decide +kernel)⟩
theorem lw_p9 : lw_okq (⟨"WreckCourt$Vessel", "pumpOut", "(I)V"⟩, 13) := ⟨⟨by decide +kernel, by decide +kernel⟩, List.mem_of_getElem? (i := 115) (by decide +kernel), List.mem_of_getElem? (i := 600) (by decide +kernel), List.mem_of_getElem? (i := 601) (by decide +kernel)⟩
theorem lw_p10 : lw_okq (⟨"WreckCourt$Vessel", "keep", "(I)V"⟩, 13) := ⟨⟨by decide +kernel, by decide +kernel⟩, List.mem_of_getElem? (i := 115) (by decide +kernel), List.mem_of_getElem? (i := 604) (by decide +kernel), List.mem_of_getElem? (i := 605) (by decide +kernel)⟩
theorem lw_p11 : lw_okq (⟨"WreckCourt$Vessel", "held", "()I"⟩, 13) := ⟨⟨by decide +kernel, by decide +kernel⟩, List.mem_of_getElem? (i := 115) (by decide +kernel), List.mem_of_getElem? (i := 608) (by decide +kernel), List.mem_of_getElem? (i := 609) (by decide +kernel)⟩
theorem lw_p12 : lw_okq (⟨"WreckCourt", "isOther", "(II)Z"⟩, 12) := ⟨⟨by decide +kernel, by decide +kernel⟩, List.mem_of_getElem? (i := 22) (by decide +kernel), List.mem_of_getElem? (i := 628) (by decide +kernel), List.mem_of_getElem? (i := 629) (by decide +kernel)⟩
theorem lw_p13 : lw_okq (⟨"WreckCourt", "isFact", "(I)Z"⟩, 12) := ⟨⟨by decide +kernel, by decide +kernel⟩, List.mem_of_getElem? (i := 22) (by decide +kernel), List.mem_of_getElem? (i := 709) (by decide +kernel), List.mem_of_getElem? (i := 710) (by decide +kernel)⟩
theorem lw_p14 : lw_okq (⟨"WreckCourt$Bench", "byClock", "(LWreckCourt$Fact;)I"⟩, 12) := ⟨⟨by decide +kernel, by decide +kernel⟩, List.mem_of_getElem? (i := 170) (by decide +kernel), List.mem_of_getElem? (i := 737) (by decide +kernel), List.mem_of_getElem? (i := 738) (by decide +kernel)⟩
theorem lw_p15 : lw_okq (⟨"WreckCourt$Bench", "findWrongClocks", "()V"⟩, 12) := ⟨⟨by decide +kernel, by decide +kernel⟩, List.mem_of_getElem? (i := 170) (by decide +kernel), List.mem_of_getElem? (i := 763) (by decide +kernel), List.mem_of_getElem? (i := 764) (by decide +kernel)⟩
def lw_privs_1 : List (MethodName × Nat) := [(⟨"WreckCourt", "found", "(I)I"⟩, 12), (⟨"WreckCourt", "well", "(I)I"⟩, 12), (⟨"WreckCourt", "isShip", "(I)Z"⟩, 12), (⟨"WreckCourt$Sea", "walk", "()V"⟩, 10), (⟨"WreckCourt$Sea", "takeStep", "(II)V"⟩, 10), (⟨"WreckCourt$Sea", "sightIn", "(I)I"⟩, 10), (⟨"WreckCourt$Vessel", "fill", "()V"⟩, 13), (⟨"WreckCourt$Vessel", "letIn", "(II)V"⟩, 13), (⟨"WreckCourt$Vessel", "levelOut", "()V"⟩, 13), (⟨"WreckCourt$Vessel", "pumpOut", "(I)V"⟩, 13), (⟨"WreckCourt$Vessel", "keep", "(I)V"⟩, 13), (⟨"WreckCourt$Vessel", "held", "()I"⟩, 13), (⟨"WreckCourt", "isOther", "(II)Z"⟩, 12), (⟨"WreckCourt", "isFact", "(I)Z"⟩, 12), (⟨"WreckCourt$Bench", "byClock", "(LWreckCourt$Fact;)I"⟩, 12), (⟨"WreckCourt$Bench", "findWrongClocks", "()V"⟩, 12)]
theorem lw_r1 : ∀ q ∈ lw_privs_1, lw_okq q := List.forall_mem_cons.mpr ⟨lw_p0, List.forall_mem_cons.mpr ⟨lw_p1, List.forall_mem_cons.mpr ⟨lw_p2, List.forall_mem_cons.mpr ⟨lw_p3, List.forall_mem_cons.mpr ⟨lw_p4, List.forall_mem_cons.mpr ⟨lw_p5, List.forall_mem_cons.mpr ⟨lw_p6, List.forall_mem_cons.mpr ⟨lw_p7, List.forall_mem_cons.mpr ⟨lw_p8, List.forall_mem_cons.mpr ⟨lw_p9, List.forall_mem_cons.mpr ⟨lw_p10, List.forall_mem_cons.mpr ⟨lw_p11, List.forall_mem_cons.mpr ⟨lw_p12, List.forall_mem_cons.mpr ⟨lw_p13, List.forall_mem_cons.mpr ⟨lw_p14, List.forall_mem_cons.mpr ⟨lw_p15, fun _ h => absurd h List.not_mem_nil⟩⟩⟩⟩⟩⟩⟩⟩⟩⟩⟩⟩⟩⟩⟩⟩
theorem lw_p16 : lw_okq (⟨"WreckCourt$Bench", "isJudged", "(I)Z"⟩, 12) := ⟨⟨by decide +kernel, by decide +kernel⟩, List.mem_of_getElem? (i := 170) (by decide +kernel), List.mem_of_getElem? (i := 767) (by decide +kernel), List.mem_of_getElem? (i := 768) (by decide +kernel)⟩
theorem lw_p17 : lw_okq (⟨"WreckCourt$Bench", "findQuarrels", "()V"⟩, 12) := ⟨⟨by decide +kernel, by decide +kernel⟩, List.mem_of_getElem? (i := 170) (by decide +kernel), List.mem_of_getElem? (i := 772) (by decide +kernel), List.mem_of_getElem? (i := 773) (by decide +kernel)⟩
theorem lw_p18 : lw_okq (⟨"WreckCourt$Bench", "gather", "(III)V"⟩, 12) := ⟨⟨by decide +kernel, by decide +kernel⟩, List.mem_of_getElem? (i := 170) (by decide +kernel), List.mem_of_getElem? (i := 777) (by decide +kernel), List.mem_of_getElem? (i := 778) (by decide +kernel)⟩
theorem lw_p19 : lw_okq (⟨"WreckCourt$Bench", "tally", "()V"⟩, 12) := ⟨⟨by decide +kernel, by decide +kernel⟩, List.mem_of_getElem? (i := 170) (by decide +kernel), List.mem_of_getElem? (i := 791) (by decide +kernel), List.mem_of_getElem? (i := 792) (by decide +kernel)⟩
theorem lw_p20 : lw_okq (⟨"WreckCourt$Bench", "tallyFacts", "(I)V"⟩, 12) := ⟨⟨by decide +kernel, by decide +kernel⟩, List.mem_of_getElem? (i := 170) (by decide +kernel), List.mem_of_getElem? (i := 795) (by decide +kernel), List.mem_of_getElem? (i := 796) (by decide +kernel)⟩
theorem lw_p21 : lw_okq (⟨"WreckCourt$Reader", "next", "()V"⟩, 6) := ⟨⟨by decide +kernel, by decide +kernel⟩, List.mem_of_getElem? (i := 237) (by decide +kernel), List.mem_of_getElem? (i := 843) (by decide +kernel), List.mem_of_getElem? (i := 844) (by decide +kernel)⟩
theorem lw_p22 : lw_okq (⟨"WreckCourt$Reader", "takeLetters", "()V"⟩, 6) := ⟨⟨by decide +kernel, by decide +kernel⟩, List.mem_of_getElem? (i := 237) (by decide +kernel), List.mem_of_getElem? (i := 853) (by decide +kernel), List.mem_of_getElem? (i := 854) (by decide +kernel)⟩
theorem lw_p23 : lw_okq (⟨"WreckCourt$Reader", "takeFigures", "()V"⟩, 6) := ⟨⟨by decide +kernel, by decide +kernel⟩, List.mem_of_getElem? (i := 237) (by decide +kernel), List.mem_of_getElem? (i := 860) (by decide +kernel), List.mem_of_getElem? (i := 861) (by decide +kernel)⟩
theorem lw_p24 : lw_okq (⟨"WreckCourt$Reader", "readRule", "(LWreckCourt$Book;)Z"⟩, 6) := ⟨⟨by decide +kernel, by decide +kernel⟩, List.mem_of_getElem? (i := 237) (by decide +kernel), List.mem_of_getElem? (i := 864) (by decide +kernel), List.mem_of_getElem? (i := 865) (by decide +kernel)⟩
theorem lw_p25 : lw_okq (⟨"WreckCourt$Reader", "reads", "(Ljava/lang/String;)Z"⟩, 6) := ⟨⟨by decide +kernel, by decide +kernel⟩, List.mem_of_getElem? (i := 237) (by decide +kernel), List.mem_of_getElem? (i := 869) (by decide +kernel), List.mem_of_getElem? (i := 870) (by decide +kernel)⟩
theorem lw_p26 : lw_okq (⟨"WreckCourt$Reader", "faulty", "(I)Z"⟩, 6) := ⟨⟨by decide +kernel, by decide +kernel⟩, List.mem_of_getElem? (i := 237) (by decide +kernel), List.mem_of_getElem? (i := 921) (by decide +kernel), List.mem_of_getElem? (i := 922) (by decide +kernel)⟩
theorem lw_p27 : lw_okq (⟨"WreckCourt$Reader", "readTest", "(LWreckCourt$Book;)Z"⟩, 6) := ⟨⟨by decide +kernel, by decide +kernel⟩, List.mem_of_getElem? (i := 237) (by decide +kernel), List.mem_of_getElem? (i := 929) (by decide +kernel), List.mem_of_getElem? (i := 930) (by decide +kernel)⟩
theorem lw_p28 : lw_okq (⟨"WreckCourt$Reader", "subjectRead", "()I"⟩, 6) := ⟨⟨by decide +kernel, by decide +kernel⟩, List.mem_of_getElem? (i := 237) (by decide +kernel), List.mem_of_getElem? (i := 933) (by decide +kernel), List.mem_of_getElem? (i := 934) (by decide +kernel)⟩
theorem lw_p29 : lw_okq (⟨"WreckCourt$Reader", "signRead", "()I"⟩, 6) := ⟨⟨by decide +kernel, by decide +kernel⟩, List.mem_of_getElem? (i := 237) (by decide +kernel), List.mem_of_getElem? (i := 943) (by decide +kernel), List.mem_of_getElem? (i := 944) (by decide +kernel)⟩
theorem lw_p30 : lw_okq (⟨"WreckCourt$Reader", "numberRead", "()I"⟩, 6) := ⟨⟨by decide +kernel, by decide +kernel⟩, List.mem_of_getElem? (i := 237) (by decide +kernel), List.mem_of_getElem? (i := 950) (by decide +kernel), List.mem_of_getElem? (i := 951) (by decide +kernel)⟩
theorem lw_p31 : lw_okq (⟨"WreckCourt$Reader", "readMust", "(LWreckCourt$Book;)Z"⟩, 6) := ⟨⟨by decide +kernel, by decide +kernel⟩, List.mem_of_getElem? (i := 237) (by decide +kernel), List.mem_of_getElem? (i := 959) (by decide +kernel), List.mem_of_getElem? (i := 960) (by decide +kernel)⟩
def lw_privs_2 : List (MethodName × Nat) := [(⟨"WreckCourt$Bench", "isJudged", "(I)Z"⟩, 12), (⟨"WreckCourt$Bench", "findQuarrels", "()V"⟩, 12), (⟨"WreckCourt$Bench", "gather", "(III)V"⟩, 12), (⟨"WreckCourt$Bench", "tally", "()V"⟩, 12), (⟨"WreckCourt$Bench", "tallyFacts", "(I)V"⟩, 12), (⟨"WreckCourt$Reader", "next", "()V"⟩, 6), (⟨"WreckCourt$Reader", "takeLetters", "()V"⟩, 6), (⟨"WreckCourt$Reader", "takeFigures", "()V"⟩, 6), (⟨"WreckCourt$Reader", "readRule", "(LWreckCourt$Book;)Z"⟩, 6), (⟨"WreckCourt$Reader", "reads", "(Ljava/lang/String;)Z"⟩, 6), (⟨"WreckCourt$Reader", "faulty", "(I)Z"⟩, 6), (⟨"WreckCourt$Reader", "readTest", "(LWreckCourt$Book;)Z"⟩, 6), (⟨"WreckCourt$Reader", "subjectRead", "()I"⟩, 6), (⟨"WreckCourt$Reader", "signRead", "()I"⟩, 6), (⟨"WreckCourt$Reader", "numberRead", "()I"⟩, 6), (⟨"WreckCourt$Reader", "readMust", "(LWreckCourt$Book;)Z"⟩, 6)]
theorem lw_r2 : ∀ q ∈ lw_privs_2, lw_okq q := List.forall_mem_cons.mpr ⟨lw_p16, List.forall_mem_cons.mpr ⟨lw_p17, List.forall_mem_cons.mpr ⟨lw_p18, List.forall_mem_cons.mpr ⟨lw_p19, List.forall_mem_cons.mpr ⟨lw_p20, List.forall_mem_cons.mpr ⟨lw_p21, List.forall_mem_cons.mpr ⟨lw_p22, List.forall_mem_cons.mpr ⟨lw_p23, List.forall_mem_cons.mpr ⟨lw_p24, List.forall_mem_cons.mpr ⟨lw_p25, List.forall_mem_cons.mpr ⟨lw_p26, List.forall_mem_cons.mpr ⟨lw_p27, List.forall_mem_cons.mpr ⟨lw_p28, List.forall_mem_cons.mpr ⟨lw_p29, List.forall_mem_cons.mpr ⟨lw_p30, List.forall_mem_cons.mpr ⟨lw_p31, fun _ h => absurd h List.not_mem_nil⟩⟩⟩⟩⟩⟩⟩⟩⟩⟩⟩⟩⟩⟩⟩⟩
theorem lw_p32 : lw_okq (⟨"WreckCourt$Reader", "actRead", "()I"⟩, 6) := ⟨⟨by decide +kernel, by decide +kernel⟩, List.mem_of_getElem? (i := 237) (by decide +kernel), List.mem_of_getElem? (i := 964) (by decide +kernel), List.mem_of_getElem? (i := 965) (by decide +kernel)⟩
theorem lw_p33 : lw_okq (⟨"WreckCourt", "lookOut", "(II)V"⟩, 12) := ⟨⟨by decide +kernel, by decide +kernel⟩, List.mem_of_getElem? (i := 22) (by decide +kernel), List.mem_of_getElem? (i := 996) (by decide +kernel), List.mem_of_getElem? (i := 997) (by decide +kernel)⟩
theorem lw_p34 : lw_okq (⟨"WreckCourt$Book", "allHold", "(I[I)Z"⟩, 6) := ⟨⟨by decide +kernel, by decide +kernel⟩, List.mem_of_getElem? (i := 265) (by decide +kernel), List.mem_of_getElem? (i := 1005) (by decide +kernel), List.mem_of_getElem? (i := 1006) (by decide +kernel)⟩
theorem lw_p35 : lw_okq (⟨"WreckCourt", "reckon", "(I)V"⟩, 12) := ⟨⟨by decide +kernel, by decide +kernel⟩, List.mem_of_getElem? (i := 22) (by decide +kernel), List.mem_of_getElem? (i := 1017) (by decide +kernel), List.mem_of_getElem? (i := 1018) (by decide +kernel)⟩
theorem lw_p36 : lw_okq (⟨"WreckCourt", "lay", "(III)V"⟩, 12) := ⟨⟨by decide +kernel, by decide +kernel⟩, List.mem_of_getElem? (i := 22) (by decide +kernel), List.mem_of_getElem? (i := 1022) (by decide +kernel), List.mem_of_getElem? (i := 1023) (by decide +kernel)⟩
theorem lw_p37 : lw_okq (⟨"WreckCourt$Asks", "wordSize", "(LWreckCourt$Fact;)I"⟩, 2) := ⟨⟨by decide +kernel, by decide +kernel⟩, List.mem_of_getElem? (i := 220) (by decide +kernel), List.mem_of_getElem? (i := 1052) (by decide +kernel), List.mem_of_getElem? (i := 1053) (by decide +kernel)⟩
theorem lw_p38 : lw_okq (⟨"WreckCourt$Asks", "begin", "(I)V"⟩, 2) := ⟨⟨by decide +kernel, by decide +kernel⟩, List.mem_of_getElem? (i := 220) (by decide +kernel), List.mem_of_getElem? (i := 1056) (by decide +kernel), List.mem_of_getElem? (i := 1057) (by decide +kernel)⟩
theorem lw_p39 : lw_okq (⟨"WreckCourt$Asks", "lentSize", "(LWreckCourt$Fact;)I"⟩, 2) := ⟨⟨by decide +kernel, by decide +kernel⟩, List.mem_of_getElem? (i := 220) (by decide +kernel), List.mem_of_getElem? (i := 1060) (by decide +kernel), List.mem_of_getElem? (i := 1061) (by decide +kernel)⟩
theorem lw_p40 : lw_okq (⟨"WreckCourt$Asks", "seenSize", "(LWreckCourt$Fact;)I"⟩, 2) := ⟨⟨by decide +kernel, by decide +kernel⟩, List.mem_of_getElem? (i := 220) (by decide +kernel), List.mem_of_getElem? (i := 1064) (by decide +kernel), List.mem_of_getElem? (i := 1065) (by decide +kernel)⟩
theorem lw_p41 : lw_okq (⟨"WreckCourt$Asks", "paperSize", "(LWreckCourt$Fact;)I"⟩, 2) := ⟨⟨by decide +kernel, by decide +kernel⟩, List.mem_of_getElem? (i := 220) (by decide +kernel), List.mem_of_getElem? (i := 1068) (by decide +kernel), List.mem_of_getElem? (i := 1069) (by decide +kernel)⟩
theorem lw_p42 : lw_okq (⟨"WreckCourt$Asks", "goneSize", "(LWreckCourt$Fact;)I"⟩, 2) := ⟨⟨by decide +kernel, by decide +kernel⟩, List.mem_of_getElem? (i := 220) (by decide +kernel), List.mem_of_getElem? (i := 1072) (by decide +kernel), List.mem_of_getElem? (i := 1073) (by decide +kernel)⟩
theorem lw_p43 : lw_okq (⟨"WreckCourt$Asks", "goneMark", "(LWreckCourt$Fact;)I"⟩, 2) := ⟨⟨by decide +kernel, by decide +kernel⟩, List.mem_of_getElem? (i := 220) (by decide +kernel), List.mem_of_getElem? (i := 1076) (by decide +kernel), List.mem_of_getElem? (i := 1077) (by decide +kernel)⟩
theorem lw_p44 : lw_okq (⟨"WreckCourt$Asks", "wordMark", "(LWreckCourt$Fact;)I"⟩, 2) := ⟨⟨by decide +kernel, by decide +kernel⟩, List.mem_of_getElem? (i := 220) (by decide +kernel), List.mem_of_getElem? (i := 1080) (by decide +kernel), List.mem_of_getElem? (i := 1081) (by decide +kernel)⟩
theorem lw_p45 : lw_okq (⟨"WreckCourt$Asks", "lentMark", "(LWreckCourt$Fact;)I"⟩, 2) := ⟨⟨by decide +kernel, by decide +kernel⟩, List.mem_of_getElem? (i := 220) (by decide +kernel), List.mem_of_getElem? (i := 1084) (by decide +kernel), List.mem_of_getElem? (i := 1085) (by decide +kernel)⟩
theorem lw_p46 : lw_okq (⟨"WreckCourt$Asks", "paperMark", "(LWreckCourt$Fact;)I"⟩, 2) := ⟨⟨by decide +kernel, by decide +kernel⟩, List.mem_of_getElem? (i := 220) (by decide +kernel), List.mem_of_getElem? (i := 1092) (by decide +kernel), List.mem_of_getElem? (i := 1093) (by decide +kernel)⟩
theorem lw_p47 : lw_okq (⟨"WreckCourt", "sheetsThere", "()I"⟩, 12) := ⟨⟨by decide +kernel, by decide +kernel⟩, List.mem_of_getElem? (i := 22) (by decide +kernel), List.mem_of_getElem? (i := 1104) (by decide +kernel), List.mem_of_getElem? (i := 1105) (by decide +kernel)⟩
def lw_privs_3 : List (MethodName × Nat) := [(⟨"WreckCourt$Reader", "actRead", "()I"⟩, 6), (⟨"WreckCourt", "lookOut", "(II)V"⟩, 12), (⟨"WreckCourt$Book", "allHold", "(I[I)Z"⟩, 6), (⟨"WreckCourt", "reckon", "(I)V"⟩, 12), (⟨"WreckCourt", "lay", "(III)V"⟩, 12), (⟨"WreckCourt$Asks", "wordSize", "(LWreckCourt$Fact;)I"⟩, 2), (⟨"WreckCourt$Asks", "begin", "(I)V"⟩, 2), (⟨"WreckCourt$Asks", "lentSize", "(LWreckCourt$Fact;)I"⟩, 2), (⟨"WreckCourt$Asks", "seenSize", "(LWreckCourt$Fact;)I"⟩, 2), (⟨"WreckCourt$Asks", "paperSize", "(LWreckCourt$Fact;)I"⟩, 2), (⟨"WreckCourt$Asks", "goneSize", "(LWreckCourt$Fact;)I"⟩, 2), (⟨"WreckCourt$Asks", "goneMark", "(LWreckCourt$Fact;)I"⟩, 2), (⟨"WreckCourt$Asks", "wordMark", "(LWreckCourt$Fact;)I"⟩, 2), (⟨"WreckCourt$Asks", "lentMark", "(LWreckCourt$Fact;)I"⟩, 2), (⟨"WreckCourt$Asks", "paperMark", "(LWreckCourt$Fact;)I"⟩, 2), (⟨"WreckCourt", "sheetsThere", "()I"⟩, 12)]
theorem lw_r3 : ∀ q ∈ lw_privs_3, lw_okq q := List.forall_mem_cons.mpr ⟨lw_p32, List.forall_mem_cons.mpr ⟨lw_p33, List.forall_mem_cons.mpr ⟨lw_p34, List.forall_mem_cons.mpr ⟨lw_p35, List.forall_mem_cons.mpr ⟨lw_p36, List.forall_mem_cons.mpr ⟨lw_p37, List.forall_mem_cons.mpr ⟨lw_p38, List.forall_mem_cons.mpr ⟨lw_p39, List.forall_mem_cons.mpr ⟨lw_p40, List.forall_mem_cons.mpr ⟨lw_p41, List.forall_mem_cons.mpr ⟨lw_p42, List.forall_mem_cons.mpr ⟨lw_p43, List.forall_mem_cons.mpr ⟨lw_p44, List.forall_mem_cons.mpr ⟨lw_p45, List.forall_mem_cons.mpr ⟨lw_p46, List.forall_mem_cons.mpr ⟨lw_p47, fun _ h => absurd h List.not_mem_nil⟩⟩⟩⟩⟩⟩⟩⟩⟩⟩⟩⟩⟩⟩⟩⟩
theorem lw_p48 : lw_okq (⟨"WreckCourtModel", "found", "(I)I"⟩, 80) := ⟨⟨by decide +kernel, by decide +kernel⟩, List.mem_of_getElem? (i := 1117) (by decide +kernel), List.mem_of_getElem? (i := 1378) (by decide +kernel), List.mem_of_getElem? (i := 1379) (by decide +kernel)⟩
theorem lw_p49 : lw_okq (⟨"WreckCourtModel", "isShip", "(I)Z"⟩, 80) := ⟨⟨by decide +kernel, by decide +kernel⟩, List.mem_of_getElem? (i := 1117) (by decide +kernel), List.mem_of_getElem? (i := 1409) (by decide +kernel), List.mem_of_getElem? (i := 1410) (by decide +kernel)⟩
theorem lw_p50 : lw_okq (⟨"WreckCourtModel", "sail", "()V"⟩, 80) := ⟨⟨by decide +kernel, by decide +kernel⟩, List.mem_of_getElem? (i := 1117) (by decide +kernel), List.mem_of_getElem? (i := 1436) (by decide +kernel), List.mem_of_getElem? (i := 1437) (by decide +kernel)⟩
theorem lw_p51 : lw_okq (⟨"WreckCourtModel", "orderOf", "(II)I"⟩, 80) := ⟨⟨by decide +kernel, by decide +kernel⟩, List.mem_of_getElem? (i := 1117) (by decide +kernel), List.mem_of_getElem? (i := 1440) (by decide +kernel), List.mem_of_getElem? (i := 1441) (by decide +kernel)⟩
theorem lw_p52 : lw_okq (⟨"WreckCourtModel", "speedOf", "(II)I"⟩, 80) := ⟨⟨by decide +kernel, by decide +kernel⟩, List.mem_of_getElem? (i := 1117) (by decide +kernel), List.mem_of_getElem? (i := 1445) (by decide +kernel), List.mem_of_getElem? (i := 1446) (by decide +kernel)⟩
theorem lw_p53 : lw_okq (⟨"WreckCourtModel", "nearOf", "(II)I"⟩, 80) := ⟨⟨by decide +kernel, by decide +kernel⟩, List.mem_of_getElem? (i := 1117) (by decide +kernel), List.mem_of_getElem? (i := 1449) (by decide +kernel), List.mem_of_getElem? (i := 1450) (by decide +kernel)⟩
theorem lw_p54 : lw_okq (⟨"WreckCourtModel", "isDark", "(II)Z"⟩, 80) := ⟨⟨by decide +kernel, by decide +kernel⟩, List.mem_of_getElem? (i := 1117) (by decide +kernel), List.mem_of_getElem? (i := 1453) (by decide +kernel), List.mem_of_getElem? (i := 1454) (by decide +kernel)⟩
theorem lw_p55 : lw_okq (⟨"WreckCourtModel", "apart", "(III)I"⟩, 80) := ⟨⟨by decide +kernel, by decide +kernel⟩, List.mem_of_getElem? (i := 1117) (by decide +kernel), List.mem_of_getElem? (i := 1457) (by decide +kernel), List.mem_of_getElem? (i := 1458) (by decide +kernel)⟩
theorem lw_p56 : lw_okq (⟨"WreckCourtModel", "fill", "(II)V"⟩, 80) := ⟨⟨by decide +kernel, by decide +kernel⟩, List.mem_of_getElem? (i := 1117) (by decide +kernel), List.mem_of_getElem? (i := 1492) (by decide +kernel), List.mem_of_getElem? (i := 1493) (by decide +kernel)⟩
theorem lw_p57 : lw_okq (⟨"WreckCourtModel", "isOpen", "(II)Z"⟩, 80) := ⟨⟨by decide +kernel, by decide +kernel⟩, List.mem_of_getElem? (i := 1117) (by decide +kernel), List.mem_of_getElem? (i := 1499) (by decide +kernel), List.mem_of_getElem? (i := 1500) (by decide +kernel)⟩
theorem lw_p58 : lw_okq (⟨"WreckCourtModel", "wetAll", "(I)I"⟩, 80) := ⟨⟨by decide +kernel, by decide +kernel⟩, List.mem_of_getElem? (i := 1117) (by decide +kernel), List.mem_of_getElem? (i := 1503) (by decide +kernel), List.mem_of_getElem? (i := 1504) (by decide +kernel)⟩
theorem lw_p59 : lw_okq (⟨"WreckCourtModel", "sinksBy", "(II)I"⟩, 80) := ⟨⟨by decide +kernel, by decide +kernel⟩, List.mem_of_getElem? (i := 1117) (by decide +kernel), List.mem_of_getElem? (i := 1511) (by decide +kernel), List.mem_of_getElem? (i := 1512) (by decide +kernel)⟩
theorem lw_p60 : lw_okq (⟨"WreckCourtModel", "isFact", "(I)Z"⟩, 80) := ⟨⟨by decide +kernel, by decide +kernel⟩, List.mem_of_getElem? (i := 1117) (by decide +kernel), List.mem_of_getElem? (i := 1533) (by decide +kernel), List.mem_of_getElem? (i := 1534) (by decide +kernel)⟩
theorem lw_p61 : lw_okq (⟨"WreckCourtModel", "isWord", "(I)Z"⟩, 80) := ⟨⟨by decide +kernel, by decide +kernel⟩, List.mem_of_getElem? (i := 1117) (by decide +kernel), List.mem_of_getElem? (i := 1537) (by decide +kernel), List.mem_of_getElem? (i := 1538) (by decide +kernel)⟩
theorem lw_p62 : lw_okq (⟨"WreckCourtModel", "farFacts", "(II)I"⟩, 80) := ⟨⟨by decide +kernel, by decide +kernel⟩, List.mem_of_getElem? (i := 1117) (by decide +kernel), List.mem_of_getElem? (i := 1550) (by decide +kernel), List.mem_of_getElem? (i := 1551) (by decide +kernel)⟩
theorem lw_p63 : lw_okq (⟨"WreckCourtModel", "isQuarrel", "(IIIIII)Z"⟩, 80) := ⟨⟨by decide +kernel, by decide +kernel⟩, List.mem_of_getElem? (i := 1117) (by decide +kernel), List.mem_of_getElem? (i := 1554) (by decide +kernel), List.mem_of_getElem? (i := 1555) (by decide +kernel)⟩
def lw_privs_4 : List (MethodName × Nat) := [(⟨"WreckCourtModel", "found", "(I)I"⟩, 80), (⟨"WreckCourtModel", "isShip", "(I)Z"⟩, 80), (⟨"WreckCourtModel", "sail", "()V"⟩, 80), (⟨"WreckCourtModel", "orderOf", "(II)I"⟩, 80), (⟨"WreckCourtModel", "speedOf", "(II)I"⟩, 80), (⟨"WreckCourtModel", "nearOf", "(II)I"⟩, 80), (⟨"WreckCourtModel", "isDark", "(II)Z"⟩, 80), (⟨"WreckCourtModel", "apart", "(III)I"⟩, 80), (⟨"WreckCourtModel", "fill", "(II)V"⟩, 80), (⟨"WreckCourtModel", "isOpen", "(II)Z"⟩, 80), (⟨"WreckCourtModel", "wetAll", "(I)I"⟩, 80), (⟨"WreckCourtModel", "sinksBy", "(II)I"⟩, 80), (⟨"WreckCourtModel", "isFact", "(I)Z"⟩, 80), (⟨"WreckCourtModel", "isWord", "(I)Z"⟩, 80), (⟨"WreckCourtModel", "farFacts", "(II)I"⟩, 80), (⟨"WreckCourtModel", "isQuarrel", "(IIIIII)Z"⟩, 80)]
theorem lw_r4 : ∀ q ∈ lw_privs_4, lw_okq q := List.forall_mem_cons.mpr ⟨lw_p48, List.forall_mem_cons.mpr ⟨lw_p49, List.forall_mem_cons.mpr ⟨lw_p50, List.forall_mem_cons.mpr ⟨lw_p51, List.forall_mem_cons.mpr ⟨lw_p52, List.forall_mem_cons.mpr ⟨lw_p53, List.forall_mem_cons.mpr ⟨lw_p54, List.forall_mem_cons.mpr ⟨lw_p55, List.forall_mem_cons.mpr ⟨lw_p56, List.forall_mem_cons.mpr ⟨lw_p57, List.forall_mem_cons.mpr ⟨lw_p58, List.forall_mem_cons.mpr ⟨lw_p59, List.forall_mem_cons.mpr ⟨lw_p60, List.forall_mem_cons.mpr ⟨lw_p61, List.forall_mem_cons.mpr ⟨lw_p62, List.forall_mem_cons.mpr ⟨lw_p63, fun _ h => absurd h List.not_mem_nil⟩⟩⟩⟩⟩⟩⟩⟩⟩⟩⟩⟩⟩⟩⟩⟩
theorem lw_p64 : lw_okq (⟨"WreckCourtModel", "timeOf", "(IIII)I"⟩, 80) := ⟨⟨by decide +kernel, by decide +kernel⟩, List.mem_of_getElem? (i := 1117) (by decide +kernel), List.mem_of_getElem? (i := 1558) (by decide +kernel), List.mem_of_getElem? (i := 1559) (by decide +kernel)⟩
theorem lw_p65 : lw_okq (⟨"WreckCourtModel", "judge", "(I)V"⟩, 80) := ⟨⟨by decide +kernel, by decide +kernel⟩, List.mem_of_getElem? (i := 1117) (by decide +kernel), List.mem_of_getElem? (i := 1566) (by decide +kernel), List.mem_of_getElem? (i := 1567) (by decide +kernel)⟩
theorem lw_p66 : lw_okq (⟨"WreckCourtModel", "isHeard", "(II)Z"⟩, 80) := ⟨⟨by decide +kernel, by decide +kernel⟩, List.mem_of_getElem? (i := 1117) (by decide +kernel), List.mem_of_getElem? (i := 1570) (by decide +kernel), List.mem_of_getElem? (i := 1571) (by decide +kernel)⟩
theorem lw_p67 : lw_okq (⟨"WreckCourtModel", "isOpenFact", "(I)Z"⟩, 80) := ⟨⟨by decide +kernel, by decide +kernel⟩, List.mem_of_getElem? (i := 1117) (by decide +kernel), List.mem_of_getElem? (i := 1577) (by decide +kernel), List.mem_of_getElem? (i := 1578) (by decide +kernel)⟩
theorem lw_p68 : lw_okq (⟨"WreckCourtModel", "step", "()V"⟩, 80) := ⟨⟨by decide +kernel, by decide +kernel⟩, List.mem_of_getElem? (i := 1117) (by decide +kernel), List.mem_of_getElem? (i := 1595) (by decide +kernel), List.mem_of_getElem? (i := 1596) (by decide +kernel)⟩
theorem lw_p69 : lw_okq (⟨"WreckCourtModel", "byteAt", "(I)I"⟩, 80) := ⟨⟨by decide +kernel, by decide +kernel⟩, List.mem_of_getElem? (i := 1117) (by decide +kernel), List.mem_of_getElem? (i := 1599) (by decide +kernel), List.mem_of_getElem? (i := 1600) (by decide +kernel)⟩
theorem lw_p70 : lw_okq (⟨"WreckCourtModel", "readRule", "()V"⟩, 80) := ⟨⟨by decide +kernel, by decide +kernel⟩, List.mem_of_getElem? (i := 1117) (by decide +kernel), List.mem_of_getElem? (i := 1609) (by decide +kernel), List.mem_of_getElem? (i := 1610) (by decide +kernel)⟩
theorem lw_p71 : lw_okq (⟨"WreckCourtModel", "word", "()J"⟩, 80) := ⟨⟨by decide +kernel, by decide +kernel⟩, List.mem_of_getElem? (i := 1117) (by decide +kernel), List.mem_of_getElem? (i := 1613) (by decide +kernel), List.mem_of_getElem? (i := 1614) (by decide +kernel)⟩
theorem lw_p72 : lw_okq (⟨"WreckCourtModel", "bad", "(I)V"⟩, 80) := ⟨⟨by decide +kernel, by decide +kernel⟩, List.mem_of_getElem? (i := 1117) (by decide +kernel), List.mem_of_getElem? (i := 1618) (by decide +kernel), List.mem_of_getElem? (i := 1619) (by decide +kernel)⟩
theorem lw_p73 : lw_okq (⟨"WreckCourtModel", "need", "(Z)V"⟩, 80) := ⟨⟨by decide +kernel, by decide +kernel⟩, List.mem_of_getElem? (i := 1117) (by decide +kernel), List.mem_of_getElem? (i := 1622) (by decide +kernel), List.mem_of_getElem? (i := 1623) (by decide +kernel)⟩
theorem lw_p74 : lw_okq (⟨"WreckCourtModel", "readTest", "(I)V"⟩, 80) := ⟨⟨by decide +kernel, by decide +kernel⟩, List.mem_of_getElem? (i := 1117) (by decide +kernel), List.mem_of_getElem? (i := 1626) (by decide +kernel), List.mem_of_getElem? (i := 1627) (by decide +kernel)⟩
theorem lw_p75 : lw_okq (⟨"WreckCourtModel", "is", "(I)Z"⟩, 80) := ⟨⟨by decide +kernel, by decide +kernel⟩, List.mem_of_getElem? (i := 1117) (by decide +kernel), List.mem_of_getElem? (i := 1635) (by decide +kernel), List.mem_of_getElem? (i := 1636) (by decide +kernel)⟩
theorem lw_p76 : lw_okq (⟨"WreckCourtModel", "look", "(II)V"⟩, 80) := ⟨⟨by decide +kernel, by decide +kernel⟩, List.mem_of_getElem? (i := 1117) (by decide +kernel), List.mem_of_getElem? (i := 1658) (by decide +kernel), List.mem_of_getElem? (i := 1659) (by decide +kernel)⟩
theorem lw_p77 : lw_okq (⟨"WreckCourtModel", "ruleFor", "(I)I"⟩, 80) := ⟨⟨by decide +kernel, by decide +kernel⟩, List.mem_of_getElem? (i := 1117) (by decide +kernel), List.mem_of_getElem? (i := 1662) (by decide +kernel), List.mem_of_getElem? (i := 1663) (by decide +kernel)⟩
theorem lw_p78 : lw_okq (⟨"WreckCourtModel", "isDone", "(III)Z"⟩, 80) := ⟨⟨by decide +kernel, by decide +kernel⟩, List.mem_of_getElem? (i := 1117) (by decide +kernel), List.mem_of_getElem? (i := 1670) (by decide +kernel), List.mem_of_getElem? (i := 1671) (by decide +kernel)⟩
theorem lw_p79 : lw_okq (⟨"WreckCourtModel", "kindOf", "(I)I"⟩, 80) := ⟨⟨by decide +kernel, by decide +kernel⟩, List.mem_of_getElem? (i := 1117) (by decide +kernel), List.mem_of_getElem? (i := 1678) (by decide +kernel), List.mem_of_getElem? (i := 1679) (by decide +kernel)⟩
def lw_privs_5 : List (MethodName × Nat) := [(⟨"WreckCourtModel", "timeOf", "(IIII)I"⟩, 80), (⟨"WreckCourtModel", "judge", "(I)V"⟩, 80), (⟨"WreckCourtModel", "isHeard", "(II)Z"⟩, 80), (⟨"WreckCourtModel", "isOpenFact", "(I)Z"⟩, 80), (⟨"WreckCourtModel", "step", "()V"⟩, 80), (⟨"WreckCourtModel", "byteAt", "(I)I"⟩, 80), (⟨"WreckCourtModel", "readRule", "()V"⟩, 80), (⟨"WreckCourtModel", "word", "()J"⟩, 80), (⟨"WreckCourtModel", "bad", "(I)V"⟩, 80), (⟨"WreckCourtModel", "need", "(Z)V"⟩, 80), (⟨"WreckCourtModel", "readTest", "(I)V"⟩, 80), (⟨"WreckCourtModel", "is", "(I)Z"⟩, 80), (⟨"WreckCourtModel", "look", "(II)V"⟩, 80), (⟨"WreckCourtModel", "ruleFor", "(I)I"⟩, 80), (⟨"WreckCourtModel", "isDone", "(III)Z"⟩, 80), (⟨"WreckCourtModel", "kindOf", "(I)I"⟩, 80)]
theorem lw_r5 : ∀ q ∈ lw_privs_5, lw_okq q := List.forall_mem_cons.mpr ⟨lw_p64, List.forall_mem_cons.mpr ⟨lw_p65, List.forall_mem_cons.mpr ⟨lw_p66, List.forall_mem_cons.mpr ⟨lw_p67, List.forall_mem_cons.mpr ⟨lw_p68, List.forall_mem_cons.mpr ⟨lw_p69, List.forall_mem_cons.mpr ⟨lw_p70, List.forall_mem_cons.mpr ⟨lw_p71, List.forall_mem_cons.mpr ⟨lw_p72, List.forall_mem_cons.mpr ⟨lw_p73, List.forall_mem_cons.mpr ⟨lw_p74, List.forall_mem_cons.mpr ⟨lw_p75, List.forall_mem_cons.mpr ⟨lw_p76, List.forall_mem_cons.mpr ⟨lw_p77, List.forall_mem_cons.mpr ⟨lw_p78, List.forall_mem_cons.mpr ⟨lw_p79, fun _ h => absurd h List.not_mem_nil⟩⟩⟩⟩⟩⟩⟩⟩⟩⟩⟩⟩⟩⟩⟩⟩
theorem lw_p80 : lw_okq (⟨"WreckCourtModel", "sizeOf", "(II)I"⟩, 80) := ⟨⟨by decide +kernel, by decide +kernel⟩, List.mem_of_getElem? (i := 1117) (by decide +kernel), List.mem_of_getElem? (i := 1693) (by decide +kernel), List.mem_of_getElem? (i := 1694) (by decide +kernel)⟩
theorem lw_p81 : lw_okq (⟨"WreckCourtModel", "paperSize", "(I)I"⟩, 80) := ⟨⟨by decide +kernel, by decide +kernel⟩, List.mem_of_getElem? (i := 1117) (by decide +kernel), List.mem_of_getElem? (i := 1697) (by decide +kernel), List.mem_of_getElem? (i := 1698) (by decide +kernel)⟩
theorem lw_p82 : lw_okq (⟨"WreckCourtModel", "began", "(I)V"⟩, 80) := ⟨⟨by decide +kernel, by decide +kernel⟩, List.mem_of_getElem? (i := 1117) (by decide +kernel), List.mem_of_getElem? (i := 1701) (by decide +kernel), List.mem_of_getElem? (i := 1702) (by decide +kernel)⟩
theorem lw_p83 : lw_okq (⟨"WreckCourtModel", "markOf", "(II)I"⟩, 80) := ⟨⟨by decide +kernel, by decide +kernel⟩, List.mem_of_getElem? (i := 1117) (by decide +kernel), List.mem_of_getElem? (i := 1705) (by decide +kernel), List.mem_of_getElem? (i := 1706) (by decide +kernel)⟩
def lw_privs_6 : List (MethodName × Nat) := [(⟨"WreckCourtModel", "sizeOf", "(II)I"⟩, 80), (⟨"WreckCourtModel", "paperSize", "(I)I"⟩, 80), (⟨"WreckCourtModel", "began", "(I)V"⟩, 80), (⟨"WreckCourtModel", "markOf", "(II)I"⟩, 80)]
theorem lw_r6 : ∀ q ∈ lw_privs_6, lw_okq q := List.forall_mem_cons.mpr ⟨lw_p80, List.forall_mem_cons.mpr ⟨lw_p81, List.forall_mem_cons.mpr ⟨lw_p82, List.forall_mem_cons.mpr ⟨lw_p83, fun _ h => absurd h List.not_mem_nil⟩⟩⟩⟩
def lw_privs : List (MethodName × Nat) := lw_privs_1 ++ (lw_privs_2 ++ (lw_privs_3 ++ (lw_privs_4 ++ (lw_privs_5 ++ (lw_privs_6)))))
def lw_tbl : List Cond := k2_sels lw_privs ++ tables_1
theorem lw_privs_ok : ∀ q ∈ lw_privs, lw_okq q := by
  show ∀ q ∈ lw_privs_1 ++ (lw_privs_2 ++ (lw_privs_3 ++ (lw_privs_4 ++ (lw_privs_5 ++ (lw_privs_6))))), lw_okq q
  exact List.forall_mem_append.mpr ⟨lw_r1, List.forall_mem_append.mpr ⟨lw_r2, List.forall_mem_append.mpr ⟨lw_r3, List.forall_mem_append.mpr ⟨lw_r4, List.forall_mem_append.mpr ⟨lw_r5, lw_r6⟩⟩⟩⟩⟩
end
section
def RX0 : String := "WreckCourt$Asks"
def TX0 : u_T := fun k => match k with
  | 0 => ("WreckCourt$Asks", "bodies", "[I", true)
  | _ => ("WreckCourt$Asks", "traced", "I", false)
def tyX0 : Nat → FieldType := fun k => match k with
  | 0 => .array .int
  | _ => .int
theorem nmX0 : ∀ a, a < 2 → ∀ b, b < 2 → a ≠ b → (TX0 a).2.1 ≠ (TX0 b).2.1 := by decide +kernel
theorem tyX0_ok : ∀ k, k < 2 → parseFieldDescriptor (TX0 k).2.2.1 = some (tyX0 k) := by decide +kernel
def RX1 : String := "WreckCourt$Bench"
def TX1 : u_T := fun k => match k with
  | 0 => ("WreckCourt$Bench", "facts", "[LWreckCourt$Fact;", true)
  | 1 => ("WreckCourt$Bench", "size", "I", false)
  | 2 => ("WreckCourt$Bench", "most", "I", false)
  | 3 => ("WreckCourt$Bench", "rivals", "I", false)
  | 4 => ("WreckCourt$Bench", "least", "I", false)
  | 5 => ("WreckCourt$Bench", "judged", "I", false)
  | 6 => ("WreckCourt$Bench", "having", "[I", true)
  | 7 => ("WreckCourt$Bench", "clocks", "[I", true)
  | 8 => ("WreckCourt$Bench", "wrongBy", "[I", true)
  | 9 => ("WreckCourt$Bench", "beyond", "[I", true)
  | 10 => ("WreckCourt$Bench", "quarrels", "[I", true)
  | _ => ("WreckCourt$Bench", "fits", "[I", true)
def tyX1 : Nat → FieldType := fun k => match k with
  | 0 => .array (.object "WreckCourt$Fact")
  | 1 => .int
  | 2 => .int
  | 3 => .int
  | 4 => .int
  | 5 => .int
  | 6 => .array .int
  | 7 => .array .int
  | 8 => .array .int
  | 9 => .array .int
  | 10 => .array .int
  | _ => .array .int
theorem nmX1 : ∀ a, a < 12 → ∀ b, b < 12 → a ≠ b → (TX1 a).2.1 ≠ (TX1 b).2.1 := by decide +kernel
theorem tyX1_ok : ∀ k, k < 12 → parseFieldDescriptor (TX1 k).2.2.1 = some (tyX1 k) := by decide +kernel
def RX2 : String := "WreckCourt$Book"
def TX2 : u_T := fun k => match k with
  | 0 => ("WreckCourt$Book", "size", "I", false)
  | 1 => ("WreckCourt$Book", "act", "[I", true)
  | 2 => ("WreckCourt$Book", "tests", "[I", true)
  | 3 => ("WreckCourt$Book", "subject", "[I", true)
  | 4 => ("WreckCourt$Book", "sign", "[I", true)
  | _ => ("WreckCourt$Book", "number", "[I", true)
def tyX2 : Nat → FieldType := fun k => match k with
  | 0 => .int
  | 1 => .array .int
  | 2 => .array .int
  | 3 => .array .int
  | 4 => .array .int
  | _ => .array .int
theorem nmX2 : ∀ a, a < 6 → ∀ b, b < 6 → a ≠ b → (TX2 a).2.1 ≠ (TX2 b).2.1 := by decide +kernel
theorem tyX2_ok : ∀ k, k < 6 → parseFieldDescriptor (TX2 k).2.2.1 = some (tyX2 k) := by decide +kernel
def RX3 : String := "WreckCourt$Fact"
def TX3 : u_T := fun k => match k with
  | 0 => ("WreckCourt$Fact", "sort", "I", true)
  | 1 => ("WreckCourt$Fact", "person", "I", true)
  | 2 => ("WreckCourt$Fact", "told", "I", true)
  | 3 => ("WreckCourt$Fact", "minute", "I", false)
  | 4 => ("WreckCourt$Fact", "about", "I", false)
  | 5 => ("WreckCourt$Fact", "x", "I", false)
  | 6 => ("WreckCourt$Fact", "y", "I", false)
  | 7 => ("WreckCourt$Fact", "doubt", "I", false)
  | _ => ("WreckCourt$Fact", "gone", "I", false)
def tyX3 : Nat → FieldType := fun k => match k with
  | 0 => .int
  | 1 => .int
  | 2 => .int
  | 3 => .int
  | 4 => .int
  | 5 => .int
  | 6 => .int
  | 7 => .int
  | _ => .int
theorem nmX3 : ∀ a, a < 9 → ∀ b, b < 9 → a ≠ b → (TX3 a).2.1 ≠ (TX3 b).2.1 := by decide +kernel
theorem tyX3_ok : ∀ k, k < 9 → parseFieldDescriptor (TX3 k).2.2.1 = some (tyX3 k) := by decide +kernel
def RX4 : String := "WreckCourt$Reader"
def TX4 : u_T := fun k => match k with
  | 0 => ("WreckCourt$Reader", "length", "I", false)
  | 1 => ("WreckCourt$Reader", "latest", "I", false)
  | 2 => ("WreckCourt$Reader", "tape", "[B", true)
  | 3 => ("WreckCourt$Reader", "token", "I", false)
  | 4 => ("WreckCourt$Reader", "start", "I", false)
  | _ => ("WreckCourt$Reader", "behind", "I", false)
def tyX4 : Nat → FieldType := fun k => match k with
  | 0 => .int
  | 1 => .int
  | 2 => .array .byte
  | 3 => .int
  | 4 => .int
  | _ => .int
theorem nmX4 : ∀ a, a < 6 → ∀ b, b < 6 → a ≠ b → (TX4 a).2.1 ≠ (TX4 b).2.1 := by decide +kernel
theorem tyX4_ok : ∀ k, k < 6 → parseFieldDescriptor (TX4 k).2.2.1 = some (tyX4 k) := by decide +kernel
def RX5 : String := "WreckCourt$Sea"
def TX5 : u_T := fun k => match k with
  | 0 => ("WreckCourt$Sea", "orders", "LWreckCourt$Told;", true)
  | 1 => ("WreckCourt$Sea", "darks", "LWreckCourt$Spans;", true)
  | 2 => ("WreckCourt$Sea", "ships", "I", false)
  | 3 => ("WreckCourt$Sea", "x", "[[I", true)
  | 4 => ("WreckCourt$Sea", "y", "[[I", true)
  | 5 => ("WreckCourt$Sea", "held", "[[I", true)
  | 6 => ("WreckCourt$Sea", "tideX", "[I", true)
  | 7 => ("WreckCourt$Sea", "tideY", "[I", true)
  | 8 => ("WreckCourt$Sea", "now", "[I", true)
  | _ => ("WreckCourt$Sea", "stale", "Z", false)
def tyX5 : Nat → FieldType := fun k => match k with
  | 0 => .object "WreckCourt$Told"
  | 1 => .object "WreckCourt$Spans"
  | 2 => .int
  | 3 => .array (.array .int)
  | 4 => .array (.array .int)
  | 5 => .array (.array .int)
  | 6 => .array .int
  | 7 => .array .int
  | 8 => .array .int
  | _ => .boolean
theorem nmX5 : ∀ a, a < 10 → ∀ b, b < 10 → a ≠ b → (TX5 a).2.1 ≠ (TX5 b).2.1 := by decide +kernel
theorem tyX5_ok : ∀ k, k < 10 → parseFieldDescriptor (TX5 k).2.2.1 = some (tyX5 k) := by decide +kernel
def RX6 : String := "WreckCourt$Sheet"
def TX6 : u_T := fun k => match k with
  | 0 => ("WreckCourt$Sheet", "items", "[I", true)
  | 1 => ("WreckCourt$Sheet", "there", "Z", false)
  | 2 => ("WreckCourt$Sheet", "lane", "I", false)
  | _ => ("WreckCourt$Sheet", "size", "I", false)
def tyX6 : Nat → FieldType := fun k => match k with
  | 0 => .array .int
  | 1 => .boolean
  | 2 => .int
  | _ => .int
theorem nmX6 : ∀ a, a < 4 → ∀ b, b < 4 → a ≠ b → (TX6 a).2.1 ≠ (TX6 b).2.1 := by decide +kernel
theorem tyX6_ok : ∀ k, k < 4 → parseFieldDescriptor (TX6 k).2.2.1 = some (tyX6 k) := by decide +kernel
def RX7 : String := "WreckCourt$Spans"
def TX7 : u_T := fun k => match k with
  | 0 => ("WreckCourt$Spans", "sort", "[I", true)
  | 1 => ("WreckCourt$Spans", "from", "[I", true)
  | 2 => ("WreckCourt$Spans", "to", "[I", true)
  | _ => ("WreckCourt$Spans", "size", "I", false)
def tyX7 : Nat → FieldType := fun k => match k with
  | 0 => .array .int
  | 1 => .array .int
  | 2 => .array .int
  | _ => .int
theorem nmX7 : ∀ a, a < 4 → ∀ b, b < 4 → a ≠ b → (TX7 a).2.1 ≠ (TX7 b).2.1 := by decide +kernel
theorem tyX7_ok : ∀ k, k < 4 → parseFieldDescriptor (TX7 k).2.2.1 = some (tyX7 k) := by decide +kernel
def RX8 : String := "WreckCourt$Told"
def TX8 : u_T := fun k => match k with
  | 0 => ("WreckCourt$Told", "whose", "[I", true)
  | 1 => ("WreckCourt$Told", "from", "[I", true)
  | 2 => ("WreckCourt$Told", "value", "[I", true)
  | _ => ("WreckCourt$Told", "size", "I", false)
def tyX8 : Nat → FieldType := fun k => match k with
  | 0 => .array .int
  | 1 => .array .int
  | 2 => .array .int
  | _ => .int
theorem nmX8 : ∀ a, a < 4 → ∀ b, b < 4 → a ≠ b → (TX8 a).2.1 ≠ (TX8 b).2.1 := by decide +kernel
theorem tyX8_ok : ∀ k, k < 4 → parseFieldDescriptor (TX8 k).2.2.1 = some (tyX8 k) := by decide +kernel
def RX9 : String := "WreckCourt$Vessel"
def TX9 : u_T := fun k => match k with
  | 0 => ("WreckCourt$Vessel", "doors", "LWreckCourt$Told;", true)
  | 1 => ("WreckCourt$Vessel", "holes", "I", false)
  | 2 => ("WreckCourt$Vessel", "room", "[I", true)
  | 3 => ("WreckCourt$Vessel", "holeIn", "[I", true)
  | 4 => ("WreckCourt$Vessel", "holeFrom", "[I", true)
  | 5 => ("WreckCourt$Vessel", "holeRate", "[I", true)
  | 6 => ("WreckCourt$Vessel", "open", "[I", true)
  | 7 => ("WreckCourt$Vessel", "level", "[I", true)
  | 8 => ("WreckCourt$Vessel", "kept", "[[I", true)
  | 9 => ("WreckCourt$Vessel", "pump", "I", false)
  | 10 => ("WreckCourt$Vessel", "bears", "I", false)
  | 11 => ("WreckCourt$Vessel", "sunk", "I", false)
  | _ => ("WreckCourt$Vessel", "stale", "Z", false)
def tyX9 : Nat → FieldType := fun k => match k with
  | 0 => .object "WreckCourt$Told"
  | 1 => .int
  | 2 => .array .int
  | 3 => .array .int
  | 4 => .array .int
  | 5 => .array .int
  | 6 => .array .int
  | 7 => .array .int
  | 8 => .array (.array .int)
  | 9 => .int
  | 10 => .int
  | 11 => .int
  | _ => .boolean
theorem nmX9 : ∀ a, a < 13 → ∀ b, b < 13 → a ≠ b → (TX9 a).2.1 ≠ (TX9 b).2.1 := by decide +kernel
theorem tyX9_ok : ∀ k, k < 13 → parseFieldDescriptor (TX9 k).2.2.1 = some (tyX9 k) := by decide +kernel
def RX10 : String := "WreckCourt"
def TX10 : u_T := fun k => match k with
  | 0 => ("WreckCourt", "sheets", "[LWreckCourt$Sheet;", true)
  | 1 => ("WreckCourt", "sea", "LWreckCourt$Sea;", true)
  | 2 => ("WreckCourt", "vessel", "LWreckCourt$Vessel;", true)
  | 3 => ("WreckCourt", "bench", "LWreckCourt$Bench;", true)
  | 4 => ("WreckCourt", "asks", "LWreckCourt$Asks;", true)
  | 5 => ("WreckCourt", "deeds", "LWreckCourt$Spans;", true)
  | 6 => ("WreckCourt", "reader", "LWreckCourt$Reader;", true)
  | 7 => ("WreckCourt", "seen", "[I", true)
  | 8 => ("WreckCourt", "blamed", "[I", true)
  | 9 => ("WreckCourt", "book", "LWreckCourt$Book;", false)
  | 10 => ("WreckCourt", "draft", "LWreckCourt$Book;", false)
  | _ => ("WreckCourt", "finding", "I", false)
def tyX10 : Nat → FieldType := fun k => match k with
  | 0 => .array (.object "WreckCourt$Sheet")
  | 1 => .object "WreckCourt$Sea"
  | 2 => .object "WreckCourt$Vessel"
  | 3 => .object "WreckCourt$Bench"
  | 4 => .object "WreckCourt$Asks"
  | 5 => .object "WreckCourt$Spans"
  | 6 => .object "WreckCourt$Reader"
  | 7 => .array .int
  | 8 => .array .int
  | 9 => .object "WreckCourt$Book"
  | 10 => .object "WreckCourt$Book"
  | _ => .int
theorem nmX10 : ∀ a, a < 12 → ∀ b, b < 12 → a ≠ b → (TX10 a).2.1 ≠ (TX10 b).2.1 := by decide +kernel
theorem tyX10_ok : ∀ k, k < 12 → parseFieldDescriptor (TX10 k).2.2.1 = some (tyX10 k) := by decide +kernel
def RX11 : String := "WreckCourtModel"
def TX11 : u_T := fun k => match k with
  | 0 => ("WreckCourtModel", "thrown", "I", false)
  | 1 => ("WreckCourtModel", "status", "I", false)
  | 2 => ("WreckCourtModel", "lane", "[I", true)
  | 3 => ("WreckCourtModel", "many", "[I", true)
  | 4 => ("WreckCourtModel", "item", "[I", true)
  | 5 => ("WreckCourtModel", "alongX", "[I", true)
  | 6 => ("WreckCourtModel", "alongY", "[I", true)
  | 7 => ("WreckCourtModel", "ships", "I", false)
  | 8 => ("WreckCourtModel", "atX", "[I", true)
  | 9 => ("WreckCourtModel", "atY", "[I", true)
  | 10 => ("WreckCourtModel", "orders", "I", false)
  | 11 => ("WreckCourtModel", "orderShip", "[I", true)
  | 12 => ("WreckCourtModel", "orderMinute", "[I", true)
  | 13 => ("WreckCourtModel", "orderCourse", "[I", true)
  | 14 => ("WreckCourtModel", "orderSpeed", "[I", true)
  | 15 => ("WreckCourtModel", "tideX", "[I", true)
  | 16 => ("WreckCourtModel", "tideY", "[I", true)
  | 17 => ("WreckCourtModel", "wayX", "[I", true)
  | 18 => ("WreckCourtModel", "wayY", "[I", true)
  | 19 => ("WreckCourtModel", "darks", "I", false)
  | 20 => ("WreckCourtModel", "darkWhat", "[I", true)
  | 21 => ("WreckCourtModel", "darkFrom", "[I", true)
  | 22 => ("WreckCourtModel", "darkTo", "[I", true)
  | 23 => ("WreckCourtModel", "rooms", "[I", true)
  | 24 => ("WreckCourtModel", "pump", "I", false)
  | 25 => ("WreckCourtModel", "bears", "I", false)
  | 26 => ("WreckCourtModel", "doors", "I", false)
  | 27 => ("WreckCourtModel", "doorWhich", "[I", true)
  | 28 => ("WreckCourtModel", "doorMinute", "[I", true)
  | 29 => ("WreckCourtModel", "doorOpen", "[I", true)
  | 30 => ("WreckCourtModel", "holes", "I", false)
  | 31 => ("WreckCourtModel", "holeHold", "[I", true)
  | 32 => ("WreckCourtModel", "holeMinute", "[I", true)
  | 33 => ("WreckCourtModel", "holeRate", "[I", true)
  | 34 => ("WreckCourtModel", "wet", "[I", true)
  | 35 => ("WreckCourtModel", "facts", "I", false)
  | 36 => ("WreckCourtModel", "factSort", "[I", true)
  | 37 => ("WreckCourtModel", "factShip", "[I", true)
  | 38 => ("WreckCourtModel", "factMinute", "[I", true)
  | 39 => ("WreckCourtModel", "factX", "[I", true)
  | 40 => ("WreckCourtModel", "factY", "[I", true)
  | 41 => ("WreckCourtModel", "factDoubt", "[I", true)
  | 42 => ("WreckCourtModel", "factPerson", "[I", true)
  | 43 => ("WreckCourtModel", "factDay", "[I", true)
  | 44 => ("WreckCourtModel", "goneDay", "[I", true)
  | 45 => ("WreckCourtModel", "isFit", "[Z", true)
  | 46 => ("WreckCourtModel", "isOne", "[Z", true)
  | 47 => ("WreckCourtModel", "far", "[I", true)
  | 48 => ("WreckCourtModel", "against", "[I", true)
  | 49 => ("WreckCourtModel", "heard", "I", false)
  | 50 => ("WreckCourtModel", "greatest", "I", false)
  | 51 => ("WreckCourtModel", "rivals", "I", false)
  | 52 => ("WreckCourtModel", "leastRival", "I", false)
  | 53 => ("WreckCourtModel", "with", "[I", true)
  | 54 => ("WreckCourtModel", "rules", "I", false)
  | 55 => ("WreckCourtModel", "tests", "[I", true)
  | 56 => ("WreckCourtModel", "test", "[I", true)
  | 57 => ("WreckCourtModel", "acts", "[I", true)
  | 58 => ("WreckCourtModel", "newRules", "I", false)
  | 59 => ("WreckCourtModel", "newTests", "[I", true)
  | 60 => ("WreckCourtModel", "newTest", "[I", true)
  | 61 => ("WreckCourtModel", "newActs", "[I", true)
  | 62 => ("WreckCourtModel", "tape", "[I", true)
  | 63 => ("WreckCourtModel", "taped", "I", false)
  | 64 => ("WreckCourtModel", "latest", "I", false)
  | 65 => ("WreckCourtModel", "size", "I", false)
  | 66 => ("WreckCourtModel", "cursor", "I", false)
  | 67 => ("WreckCourtModel", "token", "I", false)
  | 68 => ("WreckCourtModel", "from", "I", false)
  | 69 => ("WreckCourtModel", "till", "I", false)
  | 70 => ("WreckCourtModel", "fault", "I", false)
  | 71 => ("WreckCourtModel", "faultAt", "I", false)
  | 72 => ("WreckCourtModel", "done", "I", false)
  | 73 => ("WreckCourtModel", "doneShip", "[I", true)
  | 74 => ("WreckCourtModel", "doneAct", "[I", true)
  | 75 => ("WreckCourtModel", "doneFrom", "[I", true)
  | 76 => ("WreckCourtModel", "doneTo", "[I", true)
  | 77 => ("WreckCourtModel", "sees", "[I", true)
  | 78 => ("WreckCourtModel", "trace", "[I", true)
  | _ => ("WreckCourtModel", "traced", "I", false)
def tyX11 : Nat → FieldType := fun k => match k with
  | 0 => .int
  | 1 => .int
  | 2 => .array .int
  | 3 => .array .int
  | 4 => .array .int
  | 5 => .array .int
  | 6 => .array .int
  | 7 => .int
  | 8 => .array .int
  | 9 => .array .int
  | 10 => .int
  | 11 => .array .int
  | 12 => .array .int
  | 13 => .array .int
  | 14 => .array .int
  | 15 => .array .int
  | 16 => .array .int
  | 17 => .array .int
  | 18 => .array .int
  | 19 => .int
  | 20 => .array .int
  | 21 => .array .int
  | 22 => .array .int
  | 23 => .array .int
  | 24 => .int
  | 25 => .int
  | 26 => .int
  | 27 => .array .int
  | 28 => .array .int
  | 29 => .array .int
  | 30 => .int
  | 31 => .array .int
  | 32 => .array .int
  | 33 => .array .int
  | 34 => .array .int
  | 35 => .int
  | 36 => .array .int
  | 37 => .array .int
  | 38 => .array .int
  | 39 => .array .int
  | 40 => .array .int
  | 41 => .array .int
  | 42 => .array .int
  | 43 => .array .int
  | 44 => .array .int
  | 45 => .array .boolean
  | 46 => .array .boolean
  | 47 => .array .int
  | 48 => .array .int
  | 49 => .int
  | 50 => .int
  | 51 => .int
  | 52 => .int
  | 53 => .array .int
  | 54 => .int
  | 55 => .array .int
  | 56 => .array .int
  | 57 => .array .int
  | 58 => .int
  | 59 => .array .int
  | 60 => .array .int
  | 61 => .array .int
  | 62 => .array .int
  | 63 => .int
  | 64 => .int
  | 65 => .int
  | 66 => .int
  | 67 => .int
  | 68 => .int
  | 69 => .int
  | 70 => .int
  | 71 => .int
  | 72 => .int
  | 73 => .array .int
  | 74 => .array .int
  | 75 => .array .int
  | 76 => .array .int
  | 77 => .array .int
  | 78 => .array .int
  | _ => .int
theorem nmX11 : ∀ a, a < 80 → ∀ b, b < 80 → a ≠ b → (TX11 a).2.1 ≠ (TX11 b).2.1 := by decide +kernel
theorem tyX11_ok : ∀ k, k < 80 → parseFieldDescriptor (TX11 k).2.2.1 = some (tyX11 k) := by decide +kernel
abbrev vwCl : List vw_C := [(RX0, TX0, 2), (RX1, TX1, 12), (RX2, TX2, 6), (RX3, TX3, 9), (RX4, TX4, 6), (RX5, TX5, 10), (RX6, TX6, 4), (RX7, TX7, 4), (RX8, TX8, 4), (RX9, TX9, 13), (RX10, TX10, 12), (RX11, TX11, 80)]
end
section
abbrev Ent : Type := Instr × Nat × List Nat × Value
abbrev MR : Type := Nat × List (List Ent) × ByteArray × MethodName × Nat × Option FieldType × Nat
/-- WreckCourt.<init>()V -/
def k_0 : List (List Ent) := [[(.aload_n 0, 0, [], .null), (.invokespecial 1, 1, [5, 0, 1], .null), (.aload_n 0, 4, [], .null), (.bipush 8, 5, [], .int (8)), (.anewarray 9, 7, [23], .null), (.putfield 11, 10, [10, 0], .null), (.aload_n 0, 13, [], .null), (.new 15, 14, [5], .null), (.dup, 17, [], .null), (.invokespecial 17, 18, [4, 1, 1, 5], .null), (.putfield 18, 21, [10, 1], .null), (.aload_n 0, 24, [], .null), (.new 22, 25, [9], .null), (.dup, 28, [], .null), (.invokespecial 24, 29, [2, 4, 1, 9], .null), (.putfield 25, 32, [10, 2], .null)],
  [(.aload_n 0, 35, [], .null), (.new 29, 36, [1], .null), (.dup, 39, [], .null), (.invokespecial 31, 40, [4, 6, 1, 1], .null), (.putfield 32, 43, [10, 3], .null), (.aload_n 0, 46, [], .null), (.new 36, 47, [0], .null), (.dup, 50, [], .null), (.invokespecial 38, 51, [4, 7, 1, 0], .null), (.putfield 39, 54, [10, 4], .null), (.aload_n 0, 57, [], .null), (.new 43, 58, [7], .null), (.dup, 61, [], .null), (.bipush 40, 62, [], .int (40)), (.invokespecial 45, 64, [2, 3, 2, 7], .null), (.putfield 48, 67, [10, 5], .null)],
  [(.aload_n 0, 70, [], .null), (.new 52, 71, [4], .null), (.dup, 74, [], .null), (.invokespecial 54, 75, [4, 8, 1, 4], .null), (.putfield 55, 78, [10, 6], .null), (.aload_n 0, 81, [], .null), (.iconst 5, 82, [], .int (5)), (.newarray .int, 83, [20], .null), (.putfield 59, 85, [10, 7], .null), (.aload_n 0, 88, [], .null), (.iconst 4, 89, [], .int (4)), (.newarray .int, 90, [20], .null), (.putfield 63, 92, [10, 8], .null), (.aload_n 0, 95, [], .null), (.new 66, 96, [2], .null), (.dup, 99, [], .null)],
  [(.invokespecial 68, 100, [4, 9, 1, 2], .null), (.putfield 69, 103, [10, 9], .null), (.aload_n 0, 106, [], .null), (.new 66, 107, [2], .null), (.dup, 110, [], .null), (.invokespecial 68, 111, [4, 9, 1, 2], .null), (.putfield 73, 114, [10, 10], .null), (.aload_n 0, 117, [], .null), (.iconst 0, 118, [], .int (0)), (.putfield 76, 119, [10, 11], .null), (.iconst 0, 122, [], .int (0)), (.istore_n 1, 123, [], .null), (.iload_n 1, 124, [], .null), (.bipush 8, 125, [], .int (8)), (.if_icmp .ge 22, 127, [72], .null), (.aload_n 0, 130, [], .null)],
  [(.getfield 11, 131, [10, 0], .null), (.iload_n 1, 134, [], .null), (.new 9, 135, [6], .null), (.dup, 138, [], .null), (.invokespecial 80, 139, [4, 10, 1, 6], .null), (.aastore, 142, [], .null), (.iinc 1 1, 143, [], .int (1)), (.goto (-22), 146, [60], .null), (.return_, 149, [], .null)]]
def m_0 : MR := (0, k_0, prog_1_method_1_code, ⟨"WreckCourt", "<init>", "()V"⟩, 2, none, 10)
/-- WreckCourt$Sea.<init>()V -/
def k_1 : List (List Ent) := [[(.aload_n 0, 0, [], .null), (.invokespecial 3, 1, [5, 0, 1], .null), (.aload_n 0, 4, [], .null), (.new 9, 5, [8], .null), (.dup, 8, [], .null), (.bipush 60, 9, [], .int (60)), (.invokespecial 11, 11, [2, 2, 2, 8], .null), (.putfield 14, 14, [5, 0], .null), (.aload_n 0, 17, [], .null), (.new 20, 18, [7], .null), (.dup, 21, [], .null), (.bipush 10, 22, [], .int (10)), (.invokespecial 22, 24, [2, 3, 2, 7], .null), (.putfield 23, 27, [5, 1], .null), (.aload_n 0, 30, [], .null), (.iconst 0, 31, [], .int (0))],
  [(.putfield 27, 32, [5, 2], .null), (.aload_n 0, 35, [], .null), (.iconst 4, 36, [], .int (4)), (.sipush 241, 37, [], .int (241)), (.multianewarray 31 2, 40, [25], .null), (.putfield 33, 44, [5, 3], .null), (.aload_n 0, 47, [], .null), (.iconst 4, 48, [], .int (4)), (.sipush 241, 49, [], .int (241)), (.multianewarray 31 2, 52, [25], .null), (.putfield 36, 56, [5, 4], .null), (.aload_n 0, 59, [], .null), (.iconst 4, 60, [], .int (4)), (.sipush 240, 61, [], .int (240)), (.multianewarray 31 2, 64, [25], .null), (.putfield 39, 68, [5, 5], .null)],
  [(.aload_n 0, 71, [], .null), (.sipush 240, 72, [], .int (240)), (.newarray .int, 75, [20], .null), (.putfield 42, 77, [5, 6], .null), (.aload_n 0, 80, [], .null), (.sipush 240, 81, [], .int (240)), (.newarray .int, 84, [20], .null), (.putfield 46, 86, [5, 7], .null), (.aload_n 0, 89, [], .null), (.iconst 4, 90, [], .int (4)), (.newarray .int, 91, [20], .null), (.putfield 49, 93, [5, 8], .null), (.aload_n 0, 96, [], .null), (.iconst 0, 97, [], .int (0)), (.putfield 52, 98, [5, 9], .null), (.return_, 101, [], .null)]]
def m_1 : MR := (1, k_1, prog_7_method_1_code, ⟨"WreckCourt$Sea", "<init>", "()V"⟩, 1, none, 5)
/-- WreckCourt$Told.<init>(I)V -/
def k_2 : List (List Ent) := [[(.aload_n 0, 0, [], .null), (.invokespecial 1, 1, [5, 0, 1], .null), (.aload_n 0, 4, [], .null), (.iconst 0, 5, [], .int (0)), (.putfield 7, 6, [8, 3], .null), (.aload_n 0, 9, [], .null), (.iload_n 1, 10, [], .null), (.newarray .int, 11, [20], .null), (.putfield 13, 13, [8, 0], .null), (.aload_n 0, 16, [], .null), (.iload_n 1, 17, [], .null), (.newarray .int, 18, [20], .null), (.putfield 17, 20, [8, 1], .null), (.aload_n 0, 23, [], .null), (.iload_n 1, 24, [], .null), (.newarray .int, 25, [20], .null)],
  [(.putfield 20, 27, [8, 2], .null), (.return_, 30, [], .null)]]
def m_2 : MR := (2, k_2, prog_10_method_1_code, ⟨"WreckCourt$Told", "<init>", "(I)V"⟩, 2, none, 8)
/-- WreckCourt$Spans.<init>(I)V -/
def k_3 : List (List Ent) := [[(.aload_n 0, 0, [], .null), (.invokespecial 1, 1, [5, 0, 1], .null), (.aload_n 0, 4, [], .null), (.iconst 0, 5, [], .int (0)), (.putfield 7, 6, [7, 3], .null), (.aload_n 0, 9, [], .null), (.iload_n 1, 10, [], .null), (.newarray .int, 11, [20], .null), (.putfield 13, 13, [7, 0], .null), (.aload_n 0, 16, [], .null), (.iload_n 1, 17, [], .null), (.newarray .int, 18, [20], .null), (.putfield 17, 20, [7, 1], .null), (.aload_n 0, 23, [], .null), (.iload_n 1, 24, [], .null), (.newarray .int, 25, [20], .null)],
  [(.putfield 20, 27, [7, 2], .null), (.return_, 30, [], .null)]]
def m_3 : MR := (3, k_3, prog_9_method_1_code, ⟨"WreckCourt$Spans", "<init>", "(I)V"⟩, 2, none, 7)
/-- WreckCourt$Vessel.<init>()V -/
def k_4 : List (List Ent) := [[(.aload_n 0, 0, [], .null), (.invokespecial 3, 1, [5, 0, 1], .null), (.aload_n 0, 4, [], .null), (.new 9, 5, [8], .null), (.dup, 8, [], .null), (.bipush 30, 9, [], .int (30)), (.invokespecial 11, 11, [2, 2, 2, 8], .null), (.putfield 14, 14, [9, 0], .null), (.aload_n 0, 17, [], .null), (.iconst 0, 18, [], .int (0)), (.putfield 20, 19, [9, 1], .null), (.aload_n 0, 22, [], .null), (.bipush 6, 23, [], .int (6)), (.newarray .int, 25, [20], .null), (.putfield 24, 27, [9, 2], .null), (.aload_n 0, 30, [], .null)],
  [(.bipush 10, 31, [], .int (10)), (.newarray .int, 33, [20], .null), (.putfield 28, 35, [9, 3], .null), (.aload_n 0, 38, [], .null), (.bipush 10, 39, [], .int (10)), (.newarray .int, 41, [20], .null), (.putfield 31, 43, [9, 4], .null), (.aload_n 0, 46, [], .null), (.bipush 10, 47, [], .int (10)), (.newarray .int, 49, [20], .null), (.putfield 34, 51, [9, 5], .null), (.aload_n 0, 54, [], .null), (.iconst 5, 55, [], .int (5)), (.newarray .int, 56, [20], .null), (.putfield 37, 58, [9, 6], .null), (.aload_n 0, 61, [], .null)],
  [(.bipush 6, 62, [], .int (6)), (.newarray .int, 64, [20], .null), (.putfield 40, 66, [9, 7], .null), (.aload_n 0, 69, [], .null), (.bipush 6, 70, [], .int (6)), (.sipush 241, 72, [], .int (241)), (.multianewarray 43 2, 75, [25], .null), (.putfield 45, 79, [9, 8], .null), (.aload_n 0, 82, [], .null), (.iconst 0, 83, [], .int (0)), (.putfield 48, 84, [9, 9], .null), (.aload_n 0, 87, [], .null), (.sipush 300, 88, [], .int (300)), (.putfield 51, 91, [9, 10], .null), (.aload_n 0, 94, [], .null), (.ldc 54, 95, [], .int (-1000000))],
  [(.putfield 55, 97, [9, 11], .null), (.aload_n 0, 100, [], .null), (.iconst 0, 101, [], .int (0)), (.putfield 58, 102, [9, 12], .null), (.aload_n 0, 105, [], .null), (.getfield 24, 106, [9, 2], .null), (.bipush 100, 109, [], .int (100)), (.invokestatic 62, 111, [0, 5, 2, 99], .null), (.return_, 114, [], .null)]]
def m_4 : MR := (4, k_4, prog_11_method_1_code, ⟨"WreckCourt$Vessel", "<init>", "()V"⟩, 1, none, 9)
/-- java/util/Arrays.fill([II)V -/
def k_5 : List (List Ent) := [[(.iconst 0, 0, [], .int (0)), (.istore_n 2, 1, [], .null), (.aload_n 0, 2, [], .null), (.arraylength, 3, [], .null), (.istore_n 3, 4, [], .null), (.iload_n 2, 5, [], .null), (.iload_n 3, 6, [], .null), (.if_icmp .ge 13, 7, [14], .null), (.aload_n 0, 10, [], .null), (.iload_n 2, 11, [], .null), (.iload_n 1, 12, [], .null), (.iastore, 13, [], .null), (.iinc 2 1, 14, [], .int (1)), (.goto (-12), 17, [5], .null), (.return_, 20, [], .null)]]
def m_5 : MR := (5, k_5, prog_20_method_103_code, ⟨"java/util/Arrays", "fill", "([II)V"⟩, 4, none, 13)
/-- WreckCourt$Bench.<init>()V -/
def k_6 : List (List Ent) := [[(.aload_n 0, 0, [], .null), (.invokespecial 3, 1, [5, 0, 1], .null), (.aload_n 0, 4, [], .null), (.bipush 12, 5, [], .int (12)), (.anewarray 9, 7, [24], .null), (.putfield 11, 10, [1, 0], .null), (.aload_n 0, 13, [], .null), (.iconst 0, 14, [], .int (0)), (.putfield 17, 15, [1, 1], .null), (.aload_n 0, 18, [], .null), (.iconst 0, 19, [], .int (0)), (.putfield 21, 20, [1, 2], .null), (.aload_n 0, 23, [], .null), (.iconst 1, 24, [], .int (1)), (.putfield 24, 25, [1, 3], .null), (.aload_n 0, 28, [], .null)],
  [(.iconst 0, 29, [], .int (0)), (.putfield 27, 30, [1, 4], .null), (.aload_n 0, 33, [], .null), (.iconst 0, 34, [], .int (0)), (.putfield 30, 35, [1, 5], .null), (.aload_n 0, 38, [], .null), (.bipush 12, 39, [], .int (12)), (.newarray .int, 41, [20], .null), (.putfield 33, 43, [1, 6], .null), (.aload_n 0, 46, [], .null), (.iconst 3, 47, [], .int (3)), (.newarray .int, 48, [20], .null), (.putfield 37, 50, [1, 7], .null), (.aload_n 0, 53, [], .null), (.iconst 3, 54, [], .int (3)), (.newarray .int, 55, [20], .null)],
  [(.putfield 40, 57, [1, 8], .null), (.aload_n 0, 60, [], .null), (.sipush 144, 61, [], .int (144)), (.newarray .int, 64, [20], .null), (.putfield 43, 66, [1, 9], .null), (.aload_n 0, 69, [], .null), (.bipush 12, 70, [], .int (12)), (.newarray .int, 72, [20], .null), (.putfield 46, 74, [1, 10], .null), (.aload_n 0, 77, [], .null), (.sipush 128, 78, [], .int (128)), (.newarray .int, 81, [20], .null), (.putfield 49, 83, [1, 11], .null), (.return_, 86, [], .null)]]
def m_6 : MR := (6, k_6, prog_3_method_1_code, ⟨"WreckCourt$Bench", "<init>", "()V"⟩, 1, none, 1)
/-- WreckCourt$Asks.<init>()V -/
def k_7 : List (List Ent) := [[(.aload_n 0, 0, [], .null), (.invokespecial 3, 1, [5, 0, 1], .null), (.aload_n 0, 4, [], .null), (.bipush 16, 5, [], .int (16)), (.newarray .int, 7, [20], .null), (.putfield 9, 9, [0, 0], .null), (.aload_n 0, 12, [], .null), (.iconst 0, 13, [], .int (0)), (.putfield 15, 14, [0, 1], .null), (.return_, 17, [], .null)]]
def m_7 : MR := (7, k_7, prog_2_method_1_code, ⟨"WreckCourt$Asks", "<init>", "()V"⟩, 1, none, 0)
/-- WreckCourt$Reader.<init>()V -/
def k_8 : List (List Ent) := [[(.aload_n 0, 0, [], .null), (.invokespecial 3, 1, [5, 0, 1], .null), (.aload_n 0, 4, [], .null), (.iconst 0, 5, [], .int (0)), (.putfield 9, 6, [4, 0], .null), (.aload_n 0, 9, [], .null), (.iconst 0, 10, [], .int (0)), (.putfield 15, 11, [4, 1], .null), (.aload_n 0, 14, [], .null), (.sipush 400, 15, [], .int (400)), (.newarray .byte, 18, [21], .null), (.putfield 18, 20, [4, 2], .null), (.aload_n 0, 23, [], .null), (.iconst 0, 24, [], .int (0)), (.putfield 22, 25, [4, 3], .null), (.aload_n 0, 28, [], .null)],
  [(.iconst 0, 29, [], .int (0)), (.putfield 25, 30, [4, 4], .null), (.aload_n 0, 33, [], .null), (.iconst 0, 34, [], .int (0)), (.putfield 28, 35, [4, 5], .null), (.return_, 38, [], .null)]]
def m_8 : MR := (8, k_8, prog_6_method_1_code, ⟨"WreckCourt$Reader", "<init>", "()V"⟩, 1, none, 4)
/-- WreckCourt$Book.<init>()V -/
def k_9 : List (List Ent) := [[(.aload_n 0, 0, [], .null), (.invokespecial 3, 1, [5, 0, 1], .null), (.aload_n 0, 4, [], .null), (.iconst 0, 5, [], .int (0)), (.putfield 9, 6, [2, 0], .null), (.aload_n 0, 9, [], .null), (.bipush 10, 10, [], .int (10)), (.newarray .int, 12, [20], .null), (.putfield 15, 14, [2, 1], .null), (.aload_n 0, 17, [], .null), (.bipush 10, 18, [], .int (10)), (.newarray .int, 20, [20], .null), (.putfield 19, 22, [2, 2], .null), (.aload_n 0, 25, [], .null), (.bipush 30, 26, [], .int (30)), (.newarray .int, 28, [20], .null)],
  [(.putfield 22, 30, [2, 3], .null), (.aload_n 0, 33, [], .null), (.bipush 30, 34, [], .int (30)), (.newarray .int, 36, [20], .null), (.putfield 25, 38, [2, 4], .null), (.aload_n 0, 41, [], .null), (.bipush 30, 42, [], .int (30)), (.newarray .int, 44, [20], .null), (.putfield 28, 46, [2, 5], .null), (.return_, 49, [], .null)]]
def m_9 : MR := (9, k_9, prog_4_method_1_code, ⟨"WreckCourt$Book", "<init>", "()V"⟩, 1, none, 2)
/-- WreckCourt$Sheet.<init>()V -/
def k_10 : List (List Ent) := [[(.aload_n 0, 0, [], .null), (.invokespecial 3, 1, [5, 0, 1], .null), (.aload_n 0, 4, [], .null), (.bipush 120, 5, [], .int (120)), (.newarray .int, 7, [20], .null), (.putfield 9, 9, [6, 0], .null), (.aload_n 0, 12, [], .null), (.iconst 0, 13, [], .int (0)), (.putfield 15, 14, [6, 1], .null), (.aload_n 0, 17, [], .null), (.iconst 0, 18, [], .int (0)), (.putfield 19, 19, [6, 2], .null), (.aload_n 0, 22, [], .null), (.iconst 0, 23, [], .int (0)), (.putfield 23, 24, [6, 3], .null), (.return_, 27, [], .null)]]
def m_10 : MR := (10, k_10, prog_8_method_1_code, ⟨"WreckCourt$Sheet", "<init>", "()V"⟩, 1, none, 6)
/-- WreckCourt.sheet(III)I -/
def k_11 : List (List Ent) := [[(.iload_n 1, 0, [], .null), (.invokestatic 81, 1, [0, 12, 1, 10], .null), (.ifCond .eq 18, 4, [11], .null), (.iload_n 2, 7, [], .null), (.iconst 0, 8, [], .int (0)), (.iconst 2, 9, [], .int (2)), (.invokestatic 85, 10, [0, 13, 3, 10], .null), (.ifCond .eq 9, 13, [11], .null), (.iload_n 3, 16, [], .null), (.bipush 120, 17, [], .int (120)), (.if_icmp .le 6, 19, [13], .null), (.ldc 89, 22, [], .int (-1000001)), (.ireturn, 24, [], .null), (.iload_n 3, 25, [], .null), (.ifCond .ge 9, 26, [19], .null), (.aload_n 0, 29, [], .null)],
  [(.iconst 4, 30, [], .int (4)), (.invokevirtual 90, 31, [1, 14, 2, 10], .null), (.ireturn, 34, [], .null), (.aload_n 0, 35, [], .null), (.getfield 11, 36, [10, 0], .null), (.iload_n 1, 39, [], .null), (.aaload, 40, [], .null), (.iload_n 2, 41, [], .null), (.iload_n 3, 42, [], .null), (.invokevirtual 94, 43, [1, 15, 3, 6], .null), (.aload_n 0, 46, [], .null), (.iload_n 3, 47, [], .null), (.invokevirtual 98, 48, [1, 16, 2, 10], .null), (.ireturn, 51, [], .null)]]
def m_11 : MR := (11, k_11, prog_1_method_2_code, ⟨"WreckCourt", "sheet", "(III)I"⟩, 4, (some .int), 10)
/-- WreckCourt.isSheet(I)Z -/
def k_12 : List (List Ent) := [[(.iload_n 0, 0, [], .null), (.iconst 0, 1, [], .int (0)), (.bipush 7, 2, [], .int (7)), (.invokestatic 85, 4, [0, 13, 3, 10], .null), (.ireturn, 7, [], .null)]]
def m_12 : MR := (12, k_12, prog_1_method_36_code, ⟨"WreckCourt", "isSheet", "(I)Z"⟩, 1, (some .boolean), 10)
/-- WreckCourt.within(III)Z -/
def k_13 : List (List Ent) := [[(.iload_n 0, 0, [], .null), (.iload_n 1, 1, [], .null), (.if_icmp .lt 12, 2, [8], .null), (.iload_n 0, 5, [], .null), (.iload_n 2, 6, [], .null), (.if_icmp .gt 7, 7, [8], .null), (.iconst 1, 10, [], .int (1)), (.goto 4, 11, [9], .null), (.iconst 0, 14, [], .int (0)), (.ireturn, 15, [], .null)]]
def m_13 : MR := (13, k_13, prog_1_method_35_code, ⟨"WreckCourt", "within", "(III)Z"⟩, 3, (some .boolean), 10)
/-- WreckCourt.found(I)I -/
def k_14 : List (List Ent) := [[(.aload_n 0, 0, [], .null), (.iload_n 1, 1, [], .null), (.putfield 76, 2, [10, 11], .null), (.ldc_w 389, 5, [], .int (-1000010)), (.iload_n 1, 8, [], .null), (.isub, 9, [], .null), (.ireturn, 10, [], .null)]]
def m_14 : MR := (14, k_14, prog_1_method_49_code, ⟨"WreckCourt", "found", "(I)I"⟩, 2, (some .int), 10)
/-- WreckCourt$Sheet.lay(II)V -/
def k_15 : List (List Ent) := [[(.aload_n 0, 0, [], .null), (.iconst 1, 1, [], .int (1)), (.putfield 15, 2, [6, 1], .null), (.aload_n 0, 5, [], .null), (.iload_n 1, 6, [], .null), (.putfield 19, 7, [6, 2], .null), (.aload_n 0, 10, [], .null), (.iload_n 2, 11, [], .null), (.putfield 23, 12, [6, 3], .null), (.aload_n 0, 15, [], .null), (.getfield 9, 16, [6, 0], .null), (.iconst 0, 19, [], .int (0)), (.invokestatic 26, 20, [0, 5, 2, 99], .null), (.return_, 23, [], .null)]]
def m_15 : MR := (15, k_15, prog_8_method_2_code, ⟨"WreckCourt$Sheet", "lay", "(II)V"⟩, 3, none, 6)
/-- WreckCourt.well(I)I -/
def k_16 : List (List Ent) := [[(.aload_n 0, 0, [], .null), (.iconst 0, 1, [], .int (0)), (.putfield 76, 2, [10, 11], .null), (.iload_n 1, 5, [], .null), (.ireturn, 6, [], .null)]]
def m_16 : MR := (16, k_16, prog_1_method_48_code, ⟨"WreckCourt", "well", "(I)I"⟩, 2, (some .int), 10)
/-- WreckCourt.set(III)I -/
def k_17 : List (List Ent) := [[(.iload_n 1, 0, [], .null), (.invokestatic 81, 1, [0, 12, 1, 10], .null), (.ifCond .ne 6, 4, [5], .null), (.ldc 89, 7, [], .int (-1000001)), (.ireturn, 9, [], .null), (.aload_n 0, 10, [], .null), (.getfield 11, 11, [10, 0], .null), (.iload_n 1, 14, [], .null), (.aaload, 15, [], .null), (.astore 4, 16, [], .null), (.aload 4, 18, [], .null), (.getfield 101, 20, [6, 1], .null), (.ifCond .ne 9, 23, [17], .null), (.aload_n 0, 26, [], .null), (.iconst 1, 27, [], .int (1)), (.invokevirtual 90, 28, [1, 14, 2, 10], .null)],
  [(.ireturn, 31, [], .null), (.aload 4, 32, [], .null), (.iload_n 2, 34, [], .null), (.iconst 1, 35, [], .int (1)), (.invokevirtual 105, 36, [1, 18, 3, 6], .null), (.ifCond .ne 9, 39, [26], .null), (.aload_n 0, 42, [], .null), (.iconst 2, 43, [], .int (2)), (.invokevirtual 90, 44, [1, 14, 2, 10], .null), (.ireturn, 47, [], .null), (.aload_n 0, 48, [], .null), (.aload 4, 49, [], .null), (.iload_n 2, 51, [], .null), (.iload_n 3, 52, [], .null), (.invokevirtual 109, 53, [1, 19, 3, 6], .null), (.invokevirtual 98, 56, [1, 16, 2, 10], .null)],
  [(.ireturn, 59, [], .null)]]
def m_17 : MR := (17, k_17, prog_1_method_3_code, ⟨"WreckCourt", "set", "(III)I"⟩, 5, (some .int), 10)
/-- WreckCourt$Sheet.has(II)Z -/
def k_18 : List (List Ent) := [[(.iload_n 1, 0, [], .null), (.ifCond .lt 21, 1, [12], .null), (.iload_n 2, 4, [], .null), (.ifCond .lt 17, 5, [12], .null), (.iload_n 2, 8, [], .null), (.aload_n 0, 9, [], .null), (.getfield 23, 10, [6, 3], .null), (.iload_n 1, 13, [], .null), (.isub, 14, [], .null), (.if_icmp .gt 7, 15, [12], .null), (.iconst 1, 18, [], .int (1)), (.goto 4, 19, [13], .null), (.iconst 0, 22, [], .int (0)), (.ireturn, 23, [], .null)]]
def m_18 : MR := (18, k_18, prog_8_method_3_code, ⟨"WreckCourt$Sheet", "has", "(II)Z"⟩, 3, (some .boolean), 6)
/-- WreckCourt$Sheet.put(II)I -/
def k_19 : List (List Ent) := [[(.iload_n 2, 0, [], .null), (.istore_n 3, 1, [], .null), (.aload_n 0, 2, [], .null), (.getfield 19, 3, [6, 2], .null), (.ifCond .ne 9, 6, [9], .null), (.iload_n 2, 9, [], .null), (.i2b, 10, [], .null), (.istore_n 3, 11, [], .null), (.goto 14, 12, [16], .null), (.aload_n 0, 15, [], .null), (.getfield 19, 16, [6, 2], .null), (.iconst 1, 19, [], .int (1)), (.if_icmp .ne 6, 20, [16], .null), (.iload_n 2, 23, [], .null), (.i2s, 24, [], .null), (.istore_n 3, 25, [], .null)],
  [(.aload_n 0, 26, [], .null), (.getfield 9, 27, [6, 0], .null), (.iload_n 1, 30, [], .null), (.iload_n 3, 31, [], .null), (.iastore, 32, [], .null), (.iload_n 3, 33, [], .null), (.ireturn, 34, [], .null)]]
def m_19 : MR := (19, k_19, prog_8_method_5_code, ⟨"WreckCourt$Sheet", "put", "(II)I"⟩, 4, (some .int), 6)
/-- WreckCourt.copy(IIIII)I -/
def k_20 : List (List Ent) := [[(.iload_n 1, 0, [], .null), (.invokestatic 81, 1, [0, 12, 1, 10], .null), (.ifCond .eq 10, 4, [6], .null), (.iload_n 3, 7, [], .null), (.invokestatic 81, 8, [0, 12, 1, 10], .null), (.ifCond .ne 6, 11, [8], .null), (.ldc 89, 14, [], .int (-1000001)), (.ireturn, 16, [], .null), (.aload_n 0, 17, [], .null), (.getfield 11, 18, [10, 0], .null), (.iload_n 1, 21, [], .null), (.aaload, 22, [], .null), (.astore 6, 23, [], .null), (.aload_n 0, 25, [], .null), (.getfield 11, 26, [10, 0], .null), (.iload_n 3, 29, [], .null)],
  [(.aaload, 30, [], .null), (.astore 7, 31, [], .null), (.aload 6, 33, [], .null), (.getfield 101, 35, [6, 1], .null), (.ifCond .eq 11, 38, [24], .null), (.aload 7, 41, [], .null), (.getfield 101, 43, [6, 1], .null), (.ifCond .ne 9, 46, [28], .null), (.aload_n 0, 49, [], .null), (.iconst 1, 50, [], .int (1)), (.invokevirtual 90, 51, [1, 14, 2, 10], .null), (.ireturn, 54, [], .null), (.aload 6, 55, [], .null), (.getfield 113, 57, [6, 2], .null), (.aload 7, 60, [], .null), (.getfield 113, 62, [6, 2], .null)],
  [(.if_icmp .eq 9, 65, [37], .null), (.aload_n 0, 68, [], .null), (.iconst 5, 69, [], .int (5)), (.invokevirtual 90, 70, [1, 14, 2, 10], .null), (.ireturn, 73, [], .null), (.aload 6, 74, [], .null), (.iload_n 2, 76, [], .null), (.iload 5, 77, [], .null), (.invokevirtual 105, 79, [1, 18, 3, 6], .null), (.ifCond .eq 15, 82, [47], .null), (.aload 7, 85, [], .null), (.iload 4, 87, [], .null), (.iload 5, 89, [], .null), (.invokevirtual 105, 91, [1, 18, 3, 6], .null), (.ifCond .ne 9, 94, [51], .null), (.aload_n 0, 97, [], .null)],
  [(.iconst 2, 98, [], .int (2)), (.invokevirtual 90, 99, [1, 14, 2, 10], .null), (.ireturn, 102, [], .null), (.aload 6, 103, [], .null), (.getfield 116, 105, [6, 0], .null), (.iload_n 2, 108, [], .null), (.aload 7, 109, [], .null), (.getfield 116, 111, [6, 0], .null), (.iload 4, 114, [], .null), (.iload 5, 116, [], .null), (.invokestatic 119, 118, [6, 0, 5], .null), (.aload_n 0, 121, [], .null), (.iload 5, 122, [], .null), (.invokevirtual 98, 124, [1, 16, 2, 10], .null), (.ireturn, 127, [], .null)]]
def m_20 : MR := (20, k_20, prog_1_method_4_code, ⟨"WreckCourt", "copy", "(IIIII)I"⟩, 8, (some .int), 10)
/-- WreckCourt.drop(I)I -/
def k_21 : List (List Ent) := [[(.iload_n 1, 0, [], .null), (.invokestatic 81, 1, [0, 12, 1, 10], .null), (.ifCond .ne 6, 4, [5], .null), (.ldc 89, 7, [], .int (-1000001)), (.ireturn, 9, [], .null), (.aload_n 0, 10, [], .null), (.getfield 11, 11, [10, 0], .null), (.iload_n 1, 14, [], .null), (.aaload, 15, [], .null), (.astore_n 2, 16, [], .null), (.aload_n 2, 17, [], .null), (.getfield 101, 18, [6, 1], .null), (.ifCond .ne 9, 21, [17], .null), (.aload_n 0, 24, [], .null), (.iconst 1, 25, [], .int (1)), (.invokevirtual 90, 26, [1, 14, 2, 10], .null)],
  [(.ireturn, 29, [], .null), (.aload_n 2, 30, [], .null), (.iconst 0, 31, [], .int (0)), (.putfield 101, 32, [6, 1], .null), (.aload_n 0, 35, [], .null), (.aload_n 2, 36, [], .null), (.getfield 125, 37, [6, 3], .null), (.invokevirtual 98, 40, [1, 16, 2, 10], .null), (.ireturn, 43, [], .null)]]
def m_21 : MR := (21, k_21, prog_1_method_5_code, ⟨"WreckCourt", "drop", "(I)I"⟩, 3, (some .int), 10)
/-- WreckCourt.ship(II)I -/
def k_22 : List (List Ent) := [[(.iload_n 1, 0, [], .null), (.iload_n 2, 1, [], .null), (.invokestatic 128, 2, [0, 23, 2, 10], .null), (.ifCond .ne 6, 5, [6], .null), (.ldc 89, 8, [], .int (-1000001)), (.ireturn, 10, [], .null), (.aload_n 0, 11, [], .null), (.getfield 18, 12, [10, 1], .null), (.getfield 131, 15, [5, 2], .null), (.iconst 4, 18, [], .int (4)), (.if_icmp .ne 6, 19, [13], .null), (.ldc 134, 22, [], .int (-1000003)), (.ireturn, 24, [], .null), (.aload_n 0, 25, [], .null), (.getfield 18, 26, [10, 1], .null), (.iload_n 1, 29, [], .null)],
  [(.iload_n 2, 30, [], .null), (.invokevirtual 135, 31, [1, 24, 3, 5], .null), (.ireturn, 34, [], .null)]]
def m_22 : MR := (22, k_22, prog_1_method_6_code, ⟨"WreckCourt", "ship", "(II)I"⟩, 3, (some .int), 10)
/-- WreckCourt.isPlace(II)Z -/
def k_23 : List (List Ent) := [[(.iload_n 0, 0, [], .null), (.sipush (-10000), 1, [], .int (-10000)), (.sipush 10000, 4, [], .int (10000)), (.invokestatic 85, 7, [0, 13, 3, 10], .null), (.ifCond .eq 20, 10, [12], .null), (.iload_n 1, 13, [], .null), (.sipush (-10000), 14, [], .int (-10000)), (.sipush 10000, 17, [], .int (10000)), (.invokestatic 85, 20, [0, 13, 3, 10], .null), (.ifCond .eq 7, 23, [12], .null), (.iconst 1, 26, [], .int (1)), (.goto 4, 27, [13], .null), (.iconst 0, 30, [], .int (0)), (.ireturn, 31, [], .null)]]
def m_23 : MR := (23, k_23, prog_1_method_39_code, ⟨"WreckCourt", "isPlace", "(II)Z"⟩, 2, (some .boolean), 10)
/-- WreckCourt$Sea.launch(II)I -/
def k_24 : List (List Ent) := [[(.aload_n 0, 0, [], .null), (.getfield 33, 1, [5, 3], .null), (.aload_n 0, 4, [], .null), (.getfield 27, 5, [5, 2], .null), (.aaload, 8, [], .null), (.iconst 0, 9, [], .int (0)), (.iload_n 1, 10, [], .null), (.iastore, 11, [], .null), (.aload_n 0, 12, [], .null), (.getfield 36, 13, [5, 4], .null), (.aload_n 0, 16, [], .null), (.getfield 27, 17, [5, 2], .null), (.aaload, 20, [], .null), (.iconst 0, 21, [], .int (0)), (.iload_n 2, 22, [], .null), (.iastore, 23, [], .null)],
  [(.aload_n 0, 24, [], .null), (.iconst 1, 25, [], .int (1)), (.putfield 52, 26, [5, 9], .null), (.aload_n 0, 29, [], .null), (.dup, 30, [], .null), (.getfield 27, 31, [5, 2], .null), (.iconst 1, 34, [], .int (1)), (.iadd, 35, [], .null), (.putfield 27, 36, [5, 2], .null), (.aload_n 0, 39, [], .null), (.getfield 27, 40, [5, 2], .null), (.iconst 1, 43, [], .int (1)), (.isub, 44, [], .null), (.ireturn, 45, [], .null)]]
def m_24 : MR := (24, k_24, prog_7_method_2_code, ⟨"WreckCourt$Sea", "launch", "(II)I"⟩, 3, (some .int), 5)
/-- WreckCourt.order(IIII)I -/
def k_25 : List (List Ent) := [[(.aload_n 0, 0, [], .null), (.iload_n 1, 1, [], .null), (.invokevirtual 138, 2, [1, 26, 2, 10], .null), (.ifCond .eq 31, 5, [17], .null), (.iload_n 2, 8, [], .null), (.invokestatic 141, 9, [0, 27, 1, 10], .null), (.ifCond .eq 24, 12, [17], .null), (.iload_n 3, 15, [], .null), (.iconst 0, 16, [], .int (0)), (.bipush 15, 17, [], .int (15)), (.invokestatic 85, 19, [0, 13, 3, 10], .null), (.ifCond .eq 14, 22, [17], .null), (.iload 4, 25, [], .null), (.iconst 0, 27, [], .int (0)), (.bipush 50, 28, [], .int (50)), (.invokestatic 85, 30, [0, 13, 3, 10], .null)],
  [(.ifCond .ne 6, 33, [19], .null), (.ldc 89, 36, [], .int (-1000001)), (.ireturn, 38, [], .null), (.aload_n 0, 39, [], .null), (.getfield 18, 40, [10, 1], .null), (.getfield 144, 43, [5, 0], .null), (.invokevirtual 148, 46, [1, 28, 1, 8], .null), (.ifCond .eq 6, 49, [26], .null), (.ldc 134, 52, [], .int (-1000003)), (.ireturn, 54, [], .null), (.aload_n 0, 55, [], .null), (.getfield 18, 56, [10, 1], .null), (.iload_n 1, 59, [], .null), (.iload_n 2, 60, [], .null), (.iload_n 3, 61, [], .null), (.iload 4, 62, [], .null)],
  [(.invokevirtual 154, 64, [1, 29, 5, 5], .null), (.ireturn, 67, [], .null)]]
def m_25 : MR := (25, k_25, prog_1_method_7_code, ⟨"WreckCourt", "order", "(IIII)I"⟩, 5, (some .int), 10)
/-- WreckCourt.isShip(I)Z -/
def k_26 : List (List Ent) := [[(.iload_n 1, 0, [], .null), (.iconst 0, 1, [], .int (0)), (.aload_n 0, 2, [], .null), (.getfield 18, 3, [10, 1], .null), (.getfield 131, 6, [5, 2], .null), (.iconst 1, 9, [], .int (1)), (.isub, 10, [], .null), (.invokestatic 85, 11, [0, 13, 3, 10], .null), (.ireturn, 14, [], .null)]]
def m_26 : MR := (26, k_26, prog_1_method_45_code, ⟨"WreckCourt", "isShip", "(I)Z"⟩, 2, (some .boolean), 10)
/-- WreckCourt.isMinute(I)Z -/
def k_27 : List (List Ent) := [[(.iload_n 0, 0, [], .null), (.iconst 0, 1, [], .int (0)), (.sipush 239, 2, [], .int (239)), (.invokestatic 85, 5, [0, 13, 3, 10], .null), (.ireturn, 8, [], .null)]]
def m_27 : MR := (27, k_27, prog_1_method_37_code, ⟨"WreckCourt", "isMinute", "(I)Z"⟩, 1, (some .boolean), 10)
/-- WreckCourt$Told.isFull()Z -/
def k_28 : List (List Ent) := [[(.aload_n 0, 0, [], .null), (.getfield 7, 1, [8, 3], .null), (.aload_n 0, 4, [], .null), (.getfield 17, 5, [8, 1], .null), (.arraylength, 8, [], .null), (.if_icmp .ne 7, 9, [8], .null), (.iconst 1, 12, [], .int (1)), (.goto 4, 13, [9], .null), (.iconst 0, 16, [], .int (0)), (.ireturn, 17, [], .null)]]
def m_28 : MR := (28, k_28, prog_10_method_2_code, ⟨"WreckCourt$Told", "isFull", "()Z"⟩, 1, (some .boolean), 8)
/-- WreckCourt$Sea.command(IIII)I -/
def k_29 : List (List Ent) := [[(.aload_n 0, 0, [], .null), (.iconst 1, 1, [], .int (1)), (.putfield 52, 2, [5, 9], .null), (.aload_n 0, 5, [], .null), (.getfield 14, 6, [5, 0], .null), (.iload_n 1, 9, [], .null), (.iload_n 2, 10, [], .null), (.iload_n 3, 11, [], .null), (.bipush 6, 12, [], .int (6)), (.ishl, 14, [], .null), (.iload 4, 15, [], .null), (.ior, 17, [], .null), (.invokevirtual 56, 18, [1, 30, 4, 8], .null), (.ireturn, 21, [], .null)]]
def m_29 : MR := (29, k_29, prog_7_method_3_code, ⟨"WreckCourt$Sea", "command", "(IIII)I"⟩, 5, (some .int), 5)
/-- WreckCourt$Told.tell(III)I -/
def k_30 : List (List Ent) := [[(.aload_n 0, 0, [], .null), (.getfield 7, 1, [8, 3], .null), (.istore 4, 4, [], .null), (.iload 4, 6, [], .null), (.ifCond .le 70, 8, [45], .null), (.aload_n 0, 11, [], .null), (.getfield 17, 12, [8, 1], .null), (.iload 4, 15, [], .null), (.iconst 1, 17, [], .int (1)), (.isub, 18, [], .null), (.iaload, 19, [], .null), (.iload_n 2, 20, [], .null), (.if_icmp .le 57, 21, [45], .null), (.aload_n 0, 24, [], .null), (.getfield 13, 25, [8, 0], .null), (.iload 4, 28, [], .null)],
  [(.aload_n 0, 30, [], .null), (.getfield 13, 31, [8, 0], .null), (.iload 4, 34, [], .null), (.iconst 1, 36, [], .int (1)), (.isub, 37, [], .null), (.iaload, 38, [], .null), (.iastore, 39, [], .null), (.aload_n 0, 40, [], .null), (.getfield 17, 41, [8, 1], .null), (.iload 4, 44, [], .null), (.aload_n 0, 46, [], .null), (.getfield 17, 47, [8, 1], .null), (.iload 4, 50, [], .null), (.iconst 1, 52, [], .int (1)), (.isub, 53, [], .null), (.iaload, 54, [], .null)],
  [(.iastore, 55, [], .null), (.aload_n 0, 56, [], .null), (.getfield 20, 57, [8, 2], .null), (.iload 4, 60, [], .null), (.aload_n 0, 62, [], .null), (.getfield 20, 63, [8, 2], .null), (.iload 4, 66, [], .null), (.iconst 1, 68, [], .int (1)), (.isub, 69, [], .null), (.iaload, 70, [], .null), (.iastore, 71, [], .null), (.iinc 4 (-1), 72, [], .int (-1)), (.goto (-69), 75, [3], .null), (.aload_n 0, 78, [], .null), (.getfield 13, 79, [8, 0], .null), (.iload 4, 82, [], .null)],
  [(.iload_n 1, 84, [], .null), (.iastore, 85, [], .null), (.aload_n 0, 86, [], .null), (.getfield 17, 87, [8, 1], .null), (.iload 4, 90, [], .null), (.iload_n 2, 92, [], .null), (.iastore, 93, [], .null), (.aload_n 0, 94, [], .null), (.getfield 20, 95, [8, 2], .null), (.iload 4, 98, [], .null), (.iload_n 3, 100, [], .null), (.iastore, 101, [], .null), (.aload_n 0, 102, [], .null), (.dup, 103, [], .null), (.getfield 7, 104, [8, 3], .null), (.iconst 1, 107, [], .int (1))],
  [(.iadd, 108, [], .null), (.putfield 7, 109, [8, 3], .null), (.aload_n 0, 112, [], .null), (.getfield 7, 113, [8, 3], .null), (.ireturn, 116, [], .null)]]
def m_30 : MR := (30, k_30, prog_10_method_3_code, ⟨"WreckCourt$Told", "tell", "(III)I"⟩, 5, (some .int), 8)
/-- WreckCourt.tide(IIII)I -/
def k_31 : List (List Ent) := [[(.iload_n 1, 0, [], .null), (.invokestatic 141, 1, [0, 27, 1, 10], .null), (.ifCond .eq 31, 4, [16], .null), (.iload 4, 7, [], .null), (.iconst 1, 9, [], .int (1)), (.bipush 60, 10, [], .int (60)), (.invokestatic 85, 12, [0, 13, 3, 10], .null), (.ifCond .eq 20, 15, [16], .null), (.iload_n 1, 18, [], .null), (.iload 4, 19, [], .null), (.iadd, 21, [], .null), (.sipush 240, 22, [], .int (240)), (.if_icmp .gt 10, 25, [16], .null), (.iload_n 2, 28, [], .null), (.invokestatic 81, 29, [0, 12, 1, 10], .null), (.ifCond .ne 6, 32, [18], .null)],
  [(.ldc 89, 35, [], .int (-1000001)), (.ireturn, 37, [], .null), (.aload_n 0, 38, [], .null), (.getfield 11, 39, [10, 0], .null), (.iload_n 2, 42, [], .null), (.aaload, 43, [], .null), (.astore 5, 44, [], .null), (.aload 5, 46, [], .null), (.getfield 101, 48, [6, 1], .null), (.ifCond .ne 9, 51, [30], .null), (.aload_n 0, 54, [], .null), (.iconst 1, 55, [], .int (1)), (.invokevirtual 90, 56, [1, 14, 2, 10], .null), (.ireturn, 59, [], .null), (.aload 5, 60, [], .null), (.iload_n 3, 62, [], .null)],
  [(.iconst 2, 63, [], .int (2)), (.iload 4, 64, [], .null), (.imul, 66, [], .null), (.invokevirtual 105, 67, [1, 18, 3, 6], .null), (.ifCond .ne 9, 70, [41], .null), (.aload_n 0, 73, [], .null), (.iconst 2, 74, [], .int (2)), (.invokevirtual 90, 75, [1, 14, 2, 10], .null), (.ireturn, 78, [], .null), (.aload 5, 79, [], .null), (.iload_n 3, 81, [], .null), (.iconst 2, 82, [], .int (2)), (.iload 4, 83, [], .null), (.imul, 85, [], .null), (.bipush 20, 86, [], .int (20)), (.invokevirtual 158, 88, [1, 32, 4, 6], .null)],
  [(.ifCond .ne 6, 91, [51], .null), (.ldc 89, 94, [], .int (-1000001)), (.ireturn, 96, [], .null), (.aload_n 0, 97, [], .null), (.getfield 18, 98, [10, 1], .null), (.iload_n 1, 101, [], .null), (.aload 5, 102, [], .null), (.getfield 116, 104, [6, 0], .null), (.iload_n 3, 107, [], .null), (.iload 4, 108, [], .null), (.invokevirtual 161, 110, [1, 33, 5, 5], .null), (.aload_n 0, 113, [], .null), (.iload 4, 114, [], .null), (.invokevirtual 98, 116, [1, 16, 2, 10], .null), (.ireturn, 119, [], .null)]]
def m_31 : MR := (31, k_31, prog_1_method_8_code, ⟨"WreckCourt", "tide", "(IIII)I"⟩, 6, (some .int), 10)
/-- WreckCourt$Sheet.isWithin(III)Z -/
def k_32 : List (List Ent) := [[(.iconst 1, 0, [], .int (1)), (.istore 4, 1, [], .null), (.iload_n 1, 3, [], .null), (.istore 5, 4, [], .null), (.iload 5, 6, [], .null), (.iload_n 1, 8, [], .null), (.iload_n 2, 9, [], .null), (.iadd, 10, [], .null), (.if_icmp .ge 37, 11, [26], .null), (.iload 4, 14, [], .null), (.ifCond .eq 23, 16, [22], .null), (.aload_n 0, 19, [], .null), (.getfield 9, 20, [6, 0], .null), (.iload 5, 23, [], .null), (.iaload, 25, [], .null), (.iload_n 3, 26, [], .null)],
  [(.ineg, 27, [], .null), (.iload_n 3, 28, [], .null), (.invokestatic 32, 29, [3, 13, 3, 10], .null), (.ifCond .eq 7, 32, [22], .null), (.iconst 1, 35, [], .int (1)), (.goto 4, 36, [23], .null), (.iconst 0, 39, [], .int (0)), (.istore 4, 40, [], .null), (.iinc 5 1, 42, [], .int (1)), (.goto (-39), 45, [4], .null), (.iload 4, 48, [], .null), (.ireturn, 50, [], .null)]]
def m_32 : MR := (32, k_32, prog_8_method_4_code, ⟨"WreckCourt$Sheet", "isWithin", "(III)Z"⟩, 6, (some .boolean), 6)
/-- WreckCourt$Sea.flow(I[III)V -/
def k_33 : List (List Ent) := [[(.iconst 0, 0, [], .int (0)), (.istore 5, 1, [], .null), (.iload 5, 3, [], .null), (.iload 4, 5, [], .null), (.if_icmp .ge 45, 7, [35], .null), (.aload_n 0, 10, [], .null), (.getfield 42, 11, [5, 6], .null), (.iload_n 1, 14, [], .null), (.iload 5, 15, [], .null), (.iadd, 17, [], .null), (.aload_n 2, 18, [], .null), (.iload_n 3, 19, [], .null), (.iconst 2, 20, [], .int (2)), (.iload 5, 21, [], .null), (.imul, 23, [], .null), (.iadd, 24, [], .null)],
  [(.iaload, 25, [], .null), (.iastore, 26, [], .null), (.aload_n 0, 27, [], .null), (.getfield 46, 28, [5, 7], .null), (.iload_n 1, 31, [], .null), (.iload 5, 32, [], .null), (.iadd, 34, [], .null), (.aload_n 2, 35, [], .null), (.iload_n 3, 36, [], .null), (.iconst 2, 37, [], .int (2)), (.iload 5, 38, [], .null), (.imul, 40, [], .null), (.iadd, 41, [], .null), (.iconst 1, 42, [], .int (1)), (.iadd, 43, [], .null), (.iaload, 44, [], .null)],
  [(.iastore, 45, [], .null), (.iinc 5 1, 46, [], .int (1)), (.goto (-46), 49, [2], .null), (.aload_n 0, 52, [], .null), (.iconst 1, 53, [], .int (1)), (.putfield 52, 54, [5, 9], .null), (.return_, 57, [], .null)]]
def m_33 : MR := (33, k_33, prog_7_method_4_code, ⟨"WreckCourt$Sea", "flow", "(I[III)V"⟩, 6, none, 5)
/-- WreckCourt.dark(III)I -/
def k_34 : List (List Ent) := [[(.iload_n 1, 0, [], .null), (.iconst 0, 1, [], .int (0)), (.iconst 1, 2, [], .int (1)), (.invokestatic 85, 3, [0, 13, 3, 10], .null), (.ifCond .eq 11, 6, [9], .null), (.iload_n 2, 9, [], .null), (.iload_n 3, 10, [], .null), (.invokestatic 165, 11, [0, 35, 2, 10], .null), (.ifCond .ne 6, 14, [11], .null), (.ldc 89, 17, [], .int (-1000001)), (.ireturn, 19, [], .null), (.aload_n 0, 20, [], .null), (.getfield 18, 21, [10, 1], .null), (.getfield 168, 24, [5, 1], .null), (.invokevirtual 171, 27, [1, 36, 1, 7], .null), (.ifCond .eq 6, 30, [18], .null)],
  [(.ldc 134, 33, [], .int (-1000003)), (.ireturn, 35, [], .null), (.aload_n 0, 36, [], .null), (.getfield 18, 37, [10, 1], .null), (.getfield 168, 40, [5, 1], .null), (.iload_n 1, 43, [], .null), (.iload_n 2, 44, [], .null), (.iload_n 3, 45, [], .null), (.invokevirtual 172, 46, [1, 37, 4, 7], .null), (.ireturn, 49, [], .null)]]
def m_34 : MR := (34, k_34, prog_1_method_9_code, ⟨"WreckCourt", "dark", "(III)I"⟩, 4, (some .int), 10)
/-- WreckCourt.isSpan(II)Z -/
def k_35 : List (List Ent) := [[(.iload_n 0, 0, [], .null), (.invokestatic 141, 1, [0, 27, 1, 10], .null), (.ifCond .eq 19, 4, [11], .null), (.iload_n 1, 7, [], .null), (.sipush 240, 8, [], .int (240)), (.if_icmp .gt 12, 11, [11], .null), (.iload_n 1, 14, [], .null), (.iload_n 0, 15, [], .null), (.if_icmp .le 7, 16, [11], .null), (.iconst 1, 19, [], .int (1)), (.goto 4, 20, [12], .null), (.iconst 0, 23, [], .int (0)), (.ireturn, 24, [], .null)]]
def m_35 : MR := (35, k_35, prog_1_method_38_code, ⟨"WreckCourt", "isSpan", "(II)Z"⟩, 2, (some .boolean), 10)
/-- WreckCourt$Spans.isFull()Z -/
def k_36 : List (List Ent) := [[(.aload_n 0, 0, [], .null), (.getfield 7, 1, [7, 3], .null), (.aload_n 0, 4, [], .null), (.getfield 13, 5, [7, 0], .null), (.arraylength, 8, [], .null), (.if_icmp .ne 7, 9, [8], .null), (.iconst 1, 12, [], .int (1)), (.goto 4, 13, [9], .null), (.iconst 0, 16, [], .int (0)), (.ireturn, 17, [], .null)]]
def m_36 : MR := (36, k_36, prog_9_method_2_code, ⟨"WreckCourt$Spans", "isFull", "()Z"⟩, 1, (some .boolean), 7)
/-- WreckCourt$Spans.add(III)I -/
def k_37 : List (List Ent) := [[(.aload_n 0, 0, [], .null), (.getfield 13, 1, [7, 0], .null), (.aload_n 0, 4, [], .null), (.getfield 7, 5, [7, 3], .null), (.iload_n 1, 8, [], .null), (.iastore, 9, [], .null), (.aload_n 0, 10, [], .null), (.getfield 17, 11, [7, 1], .null), (.aload_n 0, 14, [], .null), (.getfield 7, 15, [7, 3], .null), (.iload_n 2, 18, [], .null), (.iastore, 19, [], .null), (.aload_n 0, 20, [], .null), (.getfield 20, 21, [7, 2], .null), (.aload_n 0, 24, [], .null), (.getfield 7, 25, [7, 3], .null)],
  [(.iload_n 3, 28, [], .null), (.iastore, 29, [], .null), (.aload_n 0, 30, [], .null), (.dup, 31, [], .null), (.getfield 7, 32, [7, 3], .null), (.iconst 1, 35, [], .int (1)), (.iadd, 36, [], .null), (.putfield 7, 37, [7, 3], .null), (.aload_n 0, 40, [], .null), (.getfield 7, 41, [7, 3], .null), (.ireturn, 44, [], .null)]]
def m_37 : MR := (37, k_37, prog_9_method_3_code, ⟨"WreckCourt$Spans", "add", "(III)I"⟩, 4, (some .int), 7)
/-- WreckCourt.where(III)I -/
def k_38 : List (List Ent) := [[(.iload_n 3, 0, [], .null), (.ifCond .eq 8, 1, [5], .null), (.iload_n 3, 4, [], .null), (.iconst 1, 5, [], .int (1)), (.if_icmp .ne 9, 6, [7], .null), (.sipush 240, 9, [], .int (240)), (.goto 6, 12, [8], .null), (.sipush 239, 15, [], .int (239)), (.istore 4, 18, [], .null), (.aload_n 0, 20, [], .null), (.iload_n 1, 21, [], .null), (.invokevirtual 138, 22, [1, 26, 2, 10], .null), (.ifCond .eq 13, 25, [18], .null), (.iload_n 2, 28, [], .null), (.iconst 0, 29, [], .int (0)), (.iload 4, 30, [], .null)],
  [(.invokestatic 85, 32, [0, 13, 3, 10], .null), (.ifCond .ne 6, 35, [20], .null), (.ldc 89, 38, [], .int (-1000001)), (.ireturn, 40, [], .null), (.iload_n 3, 41, [], .null), (.tableswitch 84 0 4 #[34, 44, 54, 64, 74], 42, [52, 22, 28, 34, 40, 46], .null), (.aload_n 0, 76, [], .null), (.getfield 18, 77, [10, 1], .null), (.iload_n 1, 80, [], .null), (.iload_n 2, 81, [], .null), (.invokevirtual 176, 82, [1, 39, 3, 5], .null), (.ireturn, 85, [], .null), (.aload_n 0, 86, [], .null), (.getfield 18, 87, [10, 1], .null), (.iload_n 1, 90, [], .null), (.iload_n 2, 91, [], .null)],
  [(.invokevirtual 179, 92, [1, 43, 3, 5], .null), (.ireturn, 95, [], .null), (.aload_n 0, 96, [], .null), (.getfield 18, 97, [10, 1], .null), (.iload_n 1, 100, [], .null), (.iload_n 2, 101, [], .null), (.invokevirtual 182, 102, [1, 44, 3, 5], .null), (.ireturn, 105, [], .null), (.aload_n 0, 106, [], .null), (.getfield 18, 107, [10, 1], .null), (.iload_n 1, 110, [], .null), (.iload_n 2, 111, [], .null), (.invokevirtual 185, 112, [1, 45, 3, 5], .null), (.ireturn, 115, [], .null), (.aload_n 0, 116, [], .null), (.getfield 18, 117, [10, 1], .null)],
  [(.iload_n 1, 120, [], .null), (.iload_n 2, 121, [], .null), (.invokevirtual 188, 122, [1, 46, 3, 5], .null), (.ireturn, 125, [], .null), (.ldc 89, 126, [], .int (-1000001)), (.ireturn, 128, [], .null)]]
def m_38 : MR := (38, k_38, prog_1_method_10_code, ⟨"WreckCourt", "where", "(III)I"⟩, 5, (some .int), 10)
/-- WreckCourt$Sea.xOf(II)I -/
def k_39 : List (List Ent) := [[(.aload_n 0, 0, [], .null), (.invokevirtual 60, 1, [1, 40, 1, 5], .null), (.aload_n 0, 4, [], .null), (.getfield 33, 5, [5, 3], .null), (.iload_n 1, 8, [], .null), (.aaload, 9, [], .null), (.iload_n 2, 10, [], .null), (.iaload, 11, [], .null), (.ireturn, 12, [], .null)]]
def m_39 : MR := (39, k_39, prog_7_method_5_code, ⟨"WreckCourt$Sea", "xOf", "(II)I"⟩, 3, (some .int), 5)
/-- WreckCourt$Sea.walk()V -/
def k_40 : List (List Ent) := [[(.aload_n 0, 0, [], .null), (.getfield 52, 1, [5, 9], .null), (.ifCond .ne 4, 4, [4], .null), (.return_, 7, [], .null), (.aload_n 0, 8, [], .null), (.getfield 49, 9, [5, 8], .null), (.iconst 0, 12, [], .int (0)), (.invokestatic 83, 13, [0, 5, 2, 99], .null), (.iconst 0, 16, [], .int (0)), (.istore_n 1, 17, [], .null), (.iconst 0, 18, [], .int (0)), (.istore_n 2, 19, [], .null), (.iload_n 2, 20, [], .null), (.sipush 240, 21, [], .int (240)), (.if_icmp .ge 45, 24, [37], .null), (.aload_n 0, 27, [], .null)],
  [(.getfield 14, 28, [5, 0], .null), (.iload_n 2, 31, [], .null), (.iload_n 1, 32, [], .null), (.aload_n 0, 33, [], .null), (.getfield 49, 34, [5, 8], .null), (.invokevirtual 89, 37, [1, 41, 4, 8], .null), (.istore_n 1, 40, [], .null), (.iconst 0, 41, [], .int (0)), (.istore_n 3, 42, [], .null), (.iload_n 3, 43, [], .null), (.aload_n 0, 44, [], .null), (.getfield 27, 45, [5, 2], .null), (.if_icmp .ge 15, 48, [35], .null), (.aload_n 0, 51, [], .null), (.iload_n 3, 52, [], .null), (.iload_n 2, 53, [], .null)],
  [(.invokevirtual 93, 54, [1, 42, 3, 5], .null), (.iinc 3 1, 57, [], .int (1)), (.goto (-17), 60, [25], .null), (.iinc 2 1, 63, [], .int (1)), (.goto (-46), 66, [12], .null), (.aload_n 0, 69, [], .null), (.iconst 0, 70, [], .int (0)), (.putfield 52, 71, [5, 9], .null), (.return_, 74, [], .null)]]
def m_40 : MR := (40, k_40, prog_7_method_13_code, ⟨"WreckCourt$Sea", "walk", "()V"⟩, 4, none, 5)
/-- WreckCourt$Told.play(II[I)I -/
def k_41 : List (List Ent) := [[(.iload_n 2, 0, [], .null), (.istore 4, 1, [], .null), (.iload 4, 3, [], .null), (.aload_n 0, 5, [], .null), (.getfield 7, 6, [8, 3], .null), (.if_icmp .ge 36, 9, [24], .null), (.aload_n 0, 12, [], .null), (.getfield 17, 13, [8, 1], .null), (.iload 4, 16, [], .null), (.iaload, 18, [], .null), (.iload_n 1, 19, [], .null), (.if_icmp .gt 25, 20, [24], .null), (.aload_n 3, 23, [], .null), (.aload_n 0, 24, [], .null), (.getfield 13, 25, [8, 0], .null), (.iload 4, 28, [], .null)],
  [(.iaload, 30, [], .null), (.aload_n 0, 31, [], .null), (.getfield 20, 32, [8, 2], .null), (.iload 4, 35, [], .null), (.iaload, 37, [], .null), (.iastore, 38, [], .null), (.iinc 4 1, 39, [], .int (1)), (.goto (-39), 42, [2], .null), (.iload 4, 45, [], .null), (.ireturn, 47, [], .null)]]
def m_41 : MR := (41, k_41, prog_10_method_4_code, ⟨"WreckCourt$Told", "play", "(II[I)I"⟩, 5, (some .int), 8)
/-- WreckCourt$Sea.takeStep(II)V -/
def k_42 : List (List Ent) := [[(.aload_n 0, 0, [], .null), (.getfield 49, 1, [5, 8], .null), (.iload_n 1, 4, [], .null), (.iaload, 5, [], .null), (.bipush 6, 6, [], .int (6)), (.ishr, 8, [], .null), (.istore_n 3, 9, [], .null), (.aload_n 0, 10, [], .null), (.getfield 49, 11, [5, 8], .null), (.iload_n 1, 14, [], .null), (.iaload, 15, [], .null), (.bipush 63, 16, [], .int (63)), (.iand, 18, [], .null), (.istore 4, 19, [], .null), (.aload_n 0, 21, [], .null), (.getfield 39, 22, [5, 5], .null)],
  [(.iload_n 1, 25, [], .null), (.aaload, 26, [], .null), (.iload_n 2, 27, [], .null), (.aload_n 0, 28, [], .null), (.getfield 49, 29, [5, 8], .null), (.iload_n 1, 32, [], .null), (.iaload, 33, [], .null), (.iastore, 34, [], .null), (.aload_n 0, 35, [], .null), (.getfield 33, 36, [5, 3], .null), (.iload_n 1, 39, [], .null), (.aaload, 40, [], .null), (.iload_n 2, 41, [], .null), (.iconst 1, 42, [], .int (1)), (.iadd, 43, [], .null), (.aload_n 0, 44, [], .null)],
  [(.getfield 33, 45, [5, 3], .null), (.iload_n 1, 48, [], .null), (.aaload, 49, [], .null), (.iload_n 2, 50, [], .null), (.iaload, 51, [], .null), (.getstatic 97, 52, [100100], .ref 100100), (.iload_n 3, 55, [], .null), (.iaload, 56, [], .null), (.iload 4, 57, [], .null), (.imul, 59, [], .null), (.bipush 100, 60, [], .int (100)), (.idiv, 62, [], .null), (.iadd, 63, [], .null), (.aload_n 0, 64, [], .null), (.getfield 42, 65, [5, 6], .null), (.iload_n 2, 68, [], .null)],
  [(.iaload, 69, [], .null), (.iadd, 70, [], .null), (.iastore, 71, [], .null), (.aload_n 0, 72, [], .null), (.getfield 36, 73, [5, 4], .null), (.iload_n 1, 76, [], .null), (.aaload, 77, [], .null), (.iload_n 2, 78, [], .null), (.iconst 1, 79, [], .int (1)), (.iadd, 80, [], .null), (.aload_n 0, 81, [], .null), (.getfield 36, 82, [5, 4], .null), (.iload_n 1, 85, [], .null), (.aaload, 86, [], .null), (.iload_n 2, 87, [], .null), (.iaload, 88, [], .null)],
  [(.getstatic 100, 89, [100101], .ref 100101), (.iload_n 3, 92, [], .null), (.iaload, 93, [], .null), (.iload 4, 94, [], .null), (.imul, 96, [], .null), (.bipush 100, 97, [], .int (100)), (.idiv, 99, [], .null), (.iadd, 100, [], .null), (.aload_n 0, 101, [], .null), (.getfield 46, 102, [5, 7], .null), (.iload_n 2, 105, [], .null), (.iaload, 106, [], .null), (.iadd, 107, [], .null), (.iastore, 108, [], .null), (.return_, 109, [], .null)]]
def m_42 : MR := (42, k_42, prog_7_method_14_code, ⟨"WreckCourt$Sea", "takeStep", "(II)V"⟩, 5, none, 5)
/-- WreckCourt$Sea.yOf(II)I -/
def k_43 : List (List Ent) := [[(.aload_n 0, 0, [], .null), (.invokevirtual 60, 1, [1, 40, 1, 5], .null), (.aload_n 0, 4, [], .null), (.getfield 36, 5, [5, 4], .null), (.iload_n 1, 8, [], .null), (.aaload, 9, [], .null), (.iload_n 2, 10, [], .null), (.iaload, 11, [], .null), (.ireturn, 12, [], .null)]]
def m_43 : MR := (43, k_43, prog_7_method_6_code, ⟨"WreckCourt$Sea", "yOf", "(II)I"⟩, 3, (some .int), 5)
/-- WreckCourt$Sea.courseOf(II)I -/
def k_44 : List (List Ent) := [[(.aload_n 0, 0, [], .null), (.invokevirtual 60, 1, [1, 40, 1, 5], .null), (.aload_n 0, 4, [], .null), (.getfield 39, 5, [5, 5], .null), (.iload_n 1, 8, [], .null), (.aaload, 9, [], .null), (.iload_n 2, 10, [], .null), (.iaload, 11, [], .null), (.bipush 6, 12, [], .int (6)), (.ishr, 14, [], .null), (.ireturn, 15, [], .null)]]
def m_44 : MR := (44, k_44, prog_7_method_7_code, ⟨"WreckCourt$Sea", "courseOf", "(II)I"⟩, 3, (some .int), 5)
/-- WreckCourt$Sea.speedOf(II)I -/
def k_45 : List (List Ent) := [[(.aload_n 0, 0, [], .null), (.invokevirtual 60, 1, [1, 40, 1, 5], .null), (.aload_n 0, 4, [], .null), (.getfield 39, 5, [5, 5], .null), (.iload_n 1, 8, [], .null), (.aaload, 9, [], .null), (.iload_n 2, 10, [], .null), (.iaload, 11, [], .null), (.bipush 63, 12, [], .int (63)), (.iand, 14, [], .null), (.ireturn, 15, [], .null)]]
def m_45 : MR := (45, k_45, prog_7_method_8_code, ⟨"WreckCourt$Sea", "speedOf", "(II)I"⟩, 3, (some .int), 5)
/-- WreckCourt$Sea.nearOf(II)I -/
def k_46 : List (List Ent) := [[(.aload_n 0, 0, [], .null), (.iload_n 2, 1, [], .null), (.invokevirtual 67, 2, [1, 47, 2, 5], .null), (.iconst 1, 5, [], .int (1)), (.iadd, 6, [], .null), (.i2l, 7, [], .null), (.lstore_n 3, 8, [], .null), (.lload_n 3, 9, [], .null), (.lload_n 3, 10, [], .null), (.lmul, 11, [], .null), (.lstore 5, 12, [], .null), (.iconst 0, 14, [], .int (0)), (.istore 7, 15, [], .null), (.iconst 0, 17, [], .int (0)), (.istore 8, 18, [], .null), (.iload 8, 20, [], .null)],
  [(.aload_n 0, 22, [], .null), (.getfield 27, 23, [5, 2], .null), (.if_icmp .ge 42, 26, [40], .null), (.iload 8, 29, [], .null), (.iload_n 1, 31, [], .null), (.if_icmp .eq 30, 32, [38], .null), (.aload_n 0, 35, [], .null), (.iload_n 1, 36, [], .null), (.iload 8, 37, [], .null), (.iload_n 2, 39, [], .null), (.invokevirtual 71, 40, [1, 49, 4, 5], .null), (.lload 5, 43, [], .null), (.lcmp, 45, [], .null), (.ifCond .ge 16, 46, [38], .null), (.aload_n 0, 49, [], .null), (.iload_n 1, 50, [], .null)],
  [(.iload 8, 51, [], .null), (.iload_n 2, 53, [], .null), (.invokevirtual 71, 54, [1, 49, 4, 5], .null), (.lstore 5, 57, [], .null), (.iconst 1, 59, [], .int (1)), (.istore 7, 60, [], .null), (.iinc 8 1, 62, [], .int (1)), (.goto (-45), 65, [15], .null), (.iload 7, 68, [], .null), (.ifCond .eq 11, 70, [45], .null), (.lload 5, 73, [], .null), (.invokestatic 75, 75, [3, 51, 1, 10], .null), (.goto 6, 78, [46], .null), (.sipush 9999, 81, [], .int (9999)), (.ireturn, 84, [], .null)]]
def m_46 : MR := (46, k_46, prog_7_method_10_code, ⟨"WreckCourt$Sea", "nearOf", "(II)I"⟩, 9, (some .int), 5)
/-- WreckCourt$Sea.sightIn(I)I -/
def k_47 : List (List Ent) := [[(.aload_n 0, 0, [], .null), (.getfield 23, 1, [5, 1], .null), (.iconst 0, 4, [], .int (0)), (.iload_n 1, 5, [], .null), (.invokevirtual 79, 6, [1, 48, 3, 7], .null), (.ifCond .eq 6, 9, [8], .null), (.bipush 100, 12, [], .int (100)), (.ireturn, 14, [], .null), (.aload_n 0, 15, [], .null), (.getfield 23, 16, [5, 1], .null), (.iconst 1, 19, [], .int (1)), (.iload_n 1, 20, [], .null), (.invokevirtual 79, 21, [1, 48, 3, 7], .null), (.ifCond .eq 9, 24, [16], .null), (.sipush 500, 27, [], .int (500)), (.goto 6, 30, [17], .null)],
  [(.sipush 1000, 33, [], .int (1000)), (.ireturn, 36, [], .null)]]
def m_47 : MR := (47, k_47, prog_7_method_12_code, ⟨"WreckCourt$Sea", "sightIn", "(I)I"⟩, 2, (some .int), 5)
/-- WreckCourt$Spans.holdsIn(II)Z -/
def k_48 : List (List Ent) := [[(.iconst 0, 0, [], .int (0)), (.istore_n 3, 1, [], .null), (.iload_n 3, 2, [], .null), (.aload_n 0, 3, [], .null), (.getfield 7, 4, [7, 3], .null), (.if_icmp .ge 41, 7, [28], .null), (.aload_n 0, 10, [], .null), (.getfield 13, 11, [7, 0], .null), (.iload_n 3, 14, [], .null), (.iaload, 15, [], .null), (.iload_n 1, 16, [], .null), (.if_icmp .ne 25, 17, [26], .null), (.aload_n 0, 20, [], .null), (.getfield 17, 21, [7, 1], .null), (.iload_n 3, 24, [], .null), (.iaload, 25, [], .null)],
  [(.iload_n 2, 26, [], .null), (.if_icmp .gt 15, 27, [26], .null), (.iload_n 2, 30, [], .null), (.aload_n 0, 31, [], .null), (.getfield 20, 32, [7, 2], .null), (.iload_n 3, 35, [], .null), (.iaload, 36, [], .null), (.if_icmp .ge 5, 37, [26], .null), (.iconst 1, 40, [], .int (1)), (.ireturn, 41, [], .null), (.iinc 3 1, 42, [], .int (1)), (.goto (-43), 45, [2], .null), (.iconst 0, 48, [], .int (0)), (.ireturn, 49, [], .null)]]
def m_48 : MR := (48, k_48, prog_9_method_4_code, ⟨"WreckCourt$Spans", "holdsIn", "(II)Z"⟩, 4, (some .boolean), 7)
/-- WreckCourt$Sea.apart(III)J -/
def k_49 : List (List Ent) := [[(.aload_n 0, 0, [], .null), (.invokevirtual 60, 1, [1, 40, 1, 5], .null), (.aload_n 0, 4, [], .null), (.getfield 33, 5, [5, 3], .null), (.iload_n 1, 8, [], .null), (.aaload, 9, [], .null), (.iload_n 3, 10, [], .null), (.iaload, 11, [], .null), (.aload_n 0, 12, [], .null), (.getfield 33, 13, [5, 3], .null), (.iload_n 2, 16, [], .null), (.aaload, 17, [], .null), (.iload_n 3, 18, [], .null), (.iaload, 19, [], .null), (.isub, 20, [], .null), (.i2l, 21, [], .null)],
  [(.aload_n 0, 22, [], .null), (.getfield 36, 23, [5, 4], .null), (.iload_n 1, 26, [], .null), (.aaload, 27, [], .null), (.iload_n 3, 28, [], .null), (.iaload, 29, [], .null), (.aload_n 0, 30, [], .null), (.getfield 36, 31, [5, 4], .null), (.iload_n 2, 34, [], .null), (.aaload, 35, [], .null), (.iload_n 3, 36, [], .null), (.iaload, 37, [], .null), (.isub, 38, [], .null), (.i2l, 39, [], .null), (.invokestatic 63, 40, [3, 50, 2, 10], .null), (.lreturn, 43, [], .null)]]
def m_49 : MR := (49, k_49, prog_7_method_9_code, ⟨"WreckCourt$Sea", "apart", "(III)J"⟩, 4, (some .long), 5)
/-- WreckCourt.squares(JJ)J -/
def k_50 : List (List Ent) := [[(.lload_n 0, 0, [], .null), (.lload_n 0, 1, [], .null), (.lmul, 2, [], .null), (.lload_n 2, 3, [], .null), (.lload_n 2, 4, [], .null), (.lmul, 5, [], .null), (.ladd, 6, [], .null), (.lreturn, 7, [], .null)]]
def m_50 : MR := (50, k_50, prog_1_method_56_code, ⟨"WreckCourt", "squares", "(JJ)J"⟩, 4, (some .long), 10)
/-- WreckCourt.root(J)I -/
def k_51 : List (List Ent) := [[(.iconst 0, 0, [], .int (0)), (.istore_n 2, 1, [], .null), (.ldc_w 401, 2, [], .int (65536)), (.istore_n 3, 5, [], .null), (.iload_n 3, 6, [], .null), (.ifCond .le 30, 7, [26], .null), (.iload_n 2, 10, [], .null), (.iload_n 3, 11, [], .null), (.iadd, 12, [], .null), (.i2l, 13, [], .null), (.lstore 4, 14, [], .null), (.lload 4, 16, [], .null), (.lload 4, 18, [], .null), (.lmul, 20, [], .null), (.lload_n 0, 21, [], .null), (.lcmp, 22, [], .null)],
  [(.ifCond .gt 7, 23, [21], .null), (.iload_n 2, 26, [], .null), (.iload_n 3, 27, [], .null), (.iadd, 28, [], .null), (.istore_n 2, 29, [], .null), (.iload_n 3, 30, [], .null), (.iconst 1, 31, [], .int (1)), (.ishr, 32, [], .null), (.istore_n 3, 33, [], .null), (.goto (-28), 34, [4], .null), (.iload_n 2, 37, [], .null), (.ireturn, 38, [], .null)]]
def m_51 : MR := (51, k_51, prog_1_method_55_code, ⟨"WreckCourt", "root", "(J)I"⟩, 6, (some .int), 10)
/-- WreckCourt.nearest(III)I -/
def k_52 : List (List Ent) := [[(.aload_n 0, 0, [], .null), (.iload_n 1, 1, [], .null), (.invokevirtual 138, 2, [1, 26, 2, 10], .null), (.ifCond .eq 25, 5, [16], .null), (.aload_n 0, 8, [], .null), (.iload_n 2, 9, [], .null), (.invokevirtual 138, 10, [1, 26, 2, 10], .null), (.ifCond .eq 17, 13, [16], .null), (.iload_n 1, 16, [], .null), (.iload_n 2, 17, [], .null), (.if_icmp .eq 12, 18, [16], .null), (.iload_n 3, 21, [], .null), (.iconst 0, 22, [], .int (0)), (.iconst 1, 23, [], .int (1)), (.invokestatic 85, 24, [0, 13, 3, 10], .null), (.ifCond .ne 6, 27, [18], .null)],
  [(.ldc 89, 30, [], .int (-1000001)), (.ireturn, 32, [], .null), (.aload_n 0, 33, [], .null), (.getfield 18, 34, [10, 1], .null), (.iload_n 1, 37, [], .null), (.iload_n 2, 38, [], .null), (.invokevirtual 191, 39, [1, 53, 3, 5], .null), (.istore 4, 42, [], .null), (.iload_n 3, 44, [], .null), (.ifCond .ne 8, 45, [28], .null), (.iload 4, 48, [], .null), (.goto 17, 50, [35], .null), (.aload_n 0, 53, [], .null), (.getfield 18, 54, [10, 1], .null), (.iload_n 1, 57, [], .null), (.iload_n 2, 58, [], .null)],
  [(.iload 4, 59, [], .null), (.invokevirtual 194, 61, [1, 49, 4, 5], .null), (.invokestatic 198, 64, [0, 51, 1, 10], .null), (.ireturn, 67, [], .null)]]
def m_52 : MR := (52, k_52, prog_1_method_11_code, ⟨"WreckCourt", "nearest", "(III)I"⟩, 5, (some .int), 10)
/-- WreckCourt$Sea.closest(II)I -/
def k_53 : List (List Ent) := [[(.iconst 0, 0, [], .int (0)), (.istore_n 3, 1, [], .null), (.aload_n 0, 2, [], .null), (.iload_n 1, 3, [], .null), (.iload_n 2, 4, [], .null), (.iconst 0, 5, [], .int (0)), (.invokevirtual 71, 6, [1, 49, 4, 5], .null), (.invokestatic 75, 9, [3, 51, 1, 10], .null), (.i2l, 12, [], .null), (.lstore 4, 13, [], .null), (.iconst 1, 15, [], .int (1)), (.istore 6, 16, [], .null), (.iload 6, 18, [], .null), (.sipush 240, 20, [], .int (240)), (.if_icmp .gt 43, 23, [37], .null), (.aload_n 0, 26, [], .null)],
  [(.iload_n 1, 27, [], .null), (.iload_n 2, 28, [], .null), (.iload 6, 29, [], .null), (.invokevirtual 71, 31, [1, 49, 4, 5], .null), (.lload 4, 34, [], .null), (.lload 4, 36, [], .null), (.lmul, 38, [], .null), (.lcmp, 39, [], .null), (.ifCond .ge 20, 40, [35], .null), (.aload_n 0, 43, [], .null), (.iload_n 1, 44, [], .null), (.iload_n 2, 45, [], .null), (.iload 6, 46, [], .null), (.invokevirtual 71, 48, [1, 49, 4, 5], .null), (.invokestatic 75, 51, [3, 51, 1, 10], .null), (.i2l, 54, [], .null)],
  [(.lstore 4, 55, [], .null), (.iload 6, 57, [], .null), (.istore_n 3, 59, [], .null), (.iinc 6 1, 60, [], .int (1)), (.goto (-45), 63, [12], .null), (.iload_n 3, 66, [], .null), (.ireturn, 67, [], .null)]]
def m_53 : MR := (53, k_53, prog_7_method_11_code, ⟨"WreckCourt$Sea", "closest", "(II)I"⟩, 7, (some .int), 5)
/-- WreckCourt.hull(II)I -/
def k_54 : List (List Ent) := [[(.iload_n 1, 0, [], .null), (.lookupswitch 76 #[(6, 27), (7, 51)], 1, [26, 2, 14], .null), (.iload_n 2, 28, [], .null), (.iconst 0, 29, [], .int (0)), (.bipush 100, 30, [], .int (100)), (.invokestatic 85, 32, [0, 13, 3, 10], .null), (.ifCond .eq 14, 35, [12], .null), (.aload_n 0, 38, [], .null), (.getfield 25, 39, [10, 2], .null), (.iload_n 2, 42, [], .null), (.invokevirtual 202, 43, [1, 55, 2, 9], .null), (.goto 5, 46, [13], .null), (.ldc 89, 49, [], .int (-1000001)), (.ireturn, 51, [], .null), (.iload_n 2, 52, [], .null), (.iconst 1, 53, [], .int (1))],
  [(.sipush 6000, 54, [], .int (6000)), (.invokestatic 85, 57, [0, 13, 3, 10], .null), (.ifCond .eq 14, 60, [24], .null), (.aload_n 0, 63, [], .null), (.getfield 25, 64, [10, 2], .null), (.iload_n 2, 67, [], .null), (.invokevirtual 205, 68, [1, 56, 2, 9], .null), (.goto 5, 71, [25], .null), (.ldc 89, 74, [], .int (-1000001)), (.ireturn, 76, [], .null), (.iload_n 1, 77, [], .null), (.invokestatic 208, 78, [0, 57, 1, 10], .null), (.ifCond .eq 26, 81, [40], .null), (.iload_n 2, 84, [], .null), (.iconst 1, 85, [], .int (1)), (.sipush 1000, 86, [], .int (1000))],
  [(.invokestatic 85, 89, [0, 13, 3, 10], .null), (.ifCond .eq 15, 92, [40], .null), (.aload_n 0, 95, [], .null), (.getfield 25, 96, [10, 2], .null), (.iload_n 1, 99, [], .null), (.iload_n 2, 100, [], .null), (.invokevirtual 211, 101, [1, 58, 3, 9], .null), (.goto 5, 104, [41], .null), (.ldc 89, 107, [], .int (-1000001)), (.ireturn, 109, [], .null)]]
def m_54 : MR := (54, k_54, prog_1_method_12_code, ⟨"WreckCourt", "hull", "(II)I"⟩, 3, (some .int), 10)
/-- WreckCourt$Vessel.changePump(I)I -/
def k_55 : List (List Ent) := [[(.aload_n 0, 0, [], .null), (.getfield 48, 1, [9, 9], .null), (.istore_n 2, 4, [], .null), (.aload_n 0, 5, [], .null), (.iload_n 1, 6, [], .null), (.putfield 48, 7, [9, 9], .null), (.aload_n 0, 10, [], .null), (.iconst 1, 11, [], .int (1)), (.putfield 58, 12, [9, 12], .null), (.iload_n 2, 15, [], .null), (.ireturn, 16, [], .null)]]
def m_55 : MR := (55, k_55, prog_11_method_3_code, ⟨"WreckCourt$Vessel", "changePump", "(I)I"⟩, 3, (some .int), 9)
/-- WreckCourt$Vessel.changeBears(I)I -/
def k_56 : List (List Ent) := [[(.aload_n 0, 0, [], .null), (.getfield 51, 1, [9, 10], .null), (.istore_n 2, 4, [], .null), (.aload_n 0, 5, [], .null), (.iload_n 1, 6, [], .null), (.putfield 51, 7, [9, 10], .null), (.aload_n 0, 10, [], .null), (.iconst 1, 11, [], .int (1)), (.putfield 58, 12, [9, 12], .null), (.iload_n 2, 15, [], .null), (.ireturn, 16, [], .null)]]
def m_56 : MR := (56, k_56, prog_11_method_4_code, ⟨"WreckCourt$Vessel", "changeBears", "(I)I"⟩, 3, (some .int), 9)
/-- WreckCourt.isHold(I)Z -/
def k_57 : List (List Ent) := [[(.iload_n 0, 0, [], .null), (.iconst 0, 1, [], .int (0)), (.iconst 5, 2, [], .int (5)), (.invokestatic 85, 3, [0, 13, 3, 10], .null), (.ireturn, 6, [], .null)]]
def m_57 : MR := (57, k_57, prog_1_method_40_code, ⟨"WreckCourt", "isHold", "(I)Z"⟩, 1, (some .boolean), 10)
/-- WreckCourt$Vessel.changeRoom(II)I -/
def k_58 : List (List Ent) := [[(.aload_n 0, 0, [], .null), (.getfield 24, 1, [9, 2], .null), (.iload_n 1, 4, [], .null), (.iaload, 5, [], .null), (.istore_n 3, 6, [], .null), (.aload_n 0, 7, [], .null), (.getfield 24, 8, [9, 2], .null), (.iload_n 1, 11, [], .null), (.iload_n 2, 12, [], .null), (.iastore, 13, [], .null), (.aload_n 0, 14, [], .null), (.iconst 1, 15, [], .int (1)), (.putfield 58, 16, [9, 12], .null), (.iload_n 3, 19, [], .null), (.ireturn, 20, [], .null)]]
def m_58 : MR := (58, k_58, prog_11_method_2_code, ⟨"WreckCourt$Vessel", "changeRoom", "(II)I"⟩, 4, (some .int), 9)
/-- WreckCourt.door(III)I -/
def k_59 : List (List Ent) := [[(.iload_n 1, 0, [], .null), (.invokestatic 214, 1, [0, 60, 1, 10], .null), (.ifCond .eq 19, 4, [11], .null), (.iload_n 2, 7, [], .null), (.invokestatic 141, 8, [0, 27, 1, 10], .null), (.ifCond .eq 12, 11, [11], .null), (.iload_n 3, 14, [], .null), (.iconst 0, 15, [], .int (0)), (.iconst 1, 16, [], .int (1)), (.invokestatic 85, 17, [0, 13, 3, 10], .null), (.ifCond .ne 6, 20, [13], .null), (.ldc 89, 23, [], .int (-1000001)), (.ireturn, 25, [], .null), (.aload_n 0, 26, [], .null), (.getfield 25, 27, [10, 2], .null), (.getfield 217, 30, [9, 0], .null)],
  [(.invokevirtual 148, 33, [1, 28, 1, 8], .null), (.ifCond .eq 6, 36, [20], .null), (.ldc 134, 39, [], .int (-1000003)), (.ireturn, 41, [], .null), (.aload_n 0, 42, [], .null), (.getfield 25, 43, [10, 2], .null), (.iload_n 1, 46, [], .null), (.iload_n 2, 47, [], .null), (.iload_n 3, 48, [], .null), (.invokevirtual 220, 49, [1, 61, 4, 9], .null), (.ireturn, 52, [], .null)]]
def m_59 : MR := (59, k_59, prog_1_method_13_code, ⟨"WreckCourt", "door", "(III)I"⟩, 4, (some .int), 10)
/-- WreckCourt.isDoor(I)Z -/
def k_60 : List (List Ent) := [[(.iload_n 0, 0, [], .null), (.iconst 0, 1, [], .int (0)), (.iconst 4, 2, [], .int (4)), (.invokestatic 85, 3, [0, 13, 3, 10], .null), (.ireturn, 6, [], .null)]]
def m_60 : MR := (60, k_60, prog_1_method_41_code, ⟨"WreckCourt", "isDoor", "(I)Z"⟩, 1, (some .boolean), 10)
/-- WreckCourt$Vessel.turnDoor(III)I -/
def k_61 : List (List Ent) := [[(.aload_n 0, 0, [], .null), (.iconst 1, 1, [], .int (1)), (.putfield 58, 2, [9, 12], .null), (.aload_n 0, 5, [], .null), (.getfield 14, 6, [9, 0], .null), (.iload_n 1, 9, [], .null), (.iload_n 2, 10, [], .null), (.iload_n 3, 11, [], .null), (.invokevirtual 68, 12, [1, 30, 4, 8], .null), (.ireturn, 15, [], .null)]]
def m_61 : MR := (61, k_61, prog_11_method_5_code, ⟨"WreckCourt$Vessel", "turnDoor", "(III)I"⟩, 4, (some .int), 9)
/-- WreckCourt.hole(III)I -/
def k_62 : List (List Ent) := [[(.iload_n 1, 0, [], .null), (.invokestatic 208, 1, [0, 57, 1, 10], .null), (.ifCond .eq 20, 4, [11], .null), (.iload_n 2, 7, [], .null), (.invokestatic 141, 8, [0, 27, 1, 10], .null), (.ifCond .eq 13, 11, [11], .null), (.iload_n 3, 14, [], .null), (.iconst 1, 15, [], .int (1)), (.bipush 100, 16, [], .int (100)), (.invokestatic 85, 18, [0, 13, 3, 10], .null), (.ifCond .ne 6, 21, [13], .null), (.ldc 89, 24, [], .int (-1000001)), (.ireturn, 26, [], .null), (.aload_n 0, 27, [], .null), (.getfield 25, 28, [10, 2], .null), (.getfield 223, 31, [9, 1], .null)],
  [(.bipush 10, 34, [], .int (10)), (.if_icmp .ne 6, 36, [20], .null), (.ldc 134, 39, [], .int (-1000003)), (.ireturn, 41, [], .null), (.aload_n 0, 42, [], .null), (.getfield 25, 43, [10, 2], .null), (.iload_n 1, 46, [], .null), (.iload_n 2, 47, [], .null), (.iload_n 3, 48, [], .null), (.invokevirtual 226, 49, [1, 63, 4, 9], .null), (.ireturn, 52, [], .null)]]
def m_62 : MR := (62, k_62, prog_1_method_14_code, ⟨"WreckCourt", "hole", "(III)I"⟩, 4, (some .int), 10)
/-- WreckCourt$Vessel.tear(III)I -/
def k_63 : List (List Ent) := [[(.aload_n 0, 0, [], .null), (.getfield 28, 1, [9, 3], .null), (.aload_n 0, 4, [], .null), (.getfield 20, 5, [9, 1], .null), (.iload_n 1, 8, [], .null), (.iastore, 9, [], .null), (.aload_n 0, 10, [], .null), (.getfield 31, 11, [9, 4], .null), (.aload_n 0, 14, [], .null), (.getfield 20, 15, [9, 1], .null), (.iload_n 2, 18, [], .null), (.iastore, 19, [], .null), (.aload_n 0, 20, [], .null), (.getfield 34, 21, [9, 5], .null), (.aload_n 0, 24, [], .null), (.getfield 20, 25, [9, 1], .null)],
  [(.iload_n 3, 28, [], .null), (.iastore, 29, [], .null), (.aload_n 0, 30, [], .null), (.iconst 1, 31, [], .int (1)), (.putfield 58, 32, [9, 12], .null), (.aload_n 0, 35, [], .null), (.dup, 36, [], .null), (.getfield 20, 37, [9, 1], .null), (.iconst 1, 40, [], .int (1)), (.iadd, 41, [], .null), (.putfield 20, 42, [9, 1], .null), (.aload_n 0, 45, [], .null), (.getfield 20, 46, [9, 1], .null), (.ireturn, 49, [], .null)]]
def m_63 : MR := (63, k_63, prog_11_method_6_code, ⟨"WreckCourt$Vessel", "tear", "(III)I"⟩, 4, (some .int), 9)
/-- WreckCourt.water(II)I -/
def k_64 : List (List Ent) := [[(.iload_n 1, 0, [], .null), (.ldc 229, 1, [], .int (-1000000)), (.if_icmp .eq 10, 3, [6], .null), (.iload_n 1, 6, [], .null), (.invokestatic 208, 7, [0, 57, 1, 10], .null), (.ifCond .eq 14, 10, [11], .null), (.iload_n 2, 13, [], .null), (.iconst 0, 14, [], .int (0)), (.sipush 240, 15, [], .int (240)), (.invokestatic 85, 18, [0, 13, 3, 10], .null), (.ifCond .ne 6, 21, [13], .null), (.ldc 89, 24, [], .int (-1000001)), (.ireturn, 26, [], .null), (.iload_n 1, 27, [], .null), (.ldc 229, 28, [], .int (-1000000)), (.if_icmp .ne 14, 30, [21], .null)],
  [(.aload_n 0, 33, [], .null), (.getfield 25, 34, [10, 2], .null), (.iload_n 2, 37, [], .null), (.invokevirtual 230, 38, [1, 65, 2, 9], .null), (.goto 12, 41, [26], .null), (.aload_n 0, 44, [], .null), (.getfield 25, 45, [10, 2], .null), (.iload_n 1, 48, [], .null), (.iload_n 2, 49, [], .null), (.invokevirtual 233, 50, [1, 74, 3, 9], .null), (.ireturn, 53, [], .null)]]
def m_64 : MR := (64, k_64, prog_1_method_15_code, ⟨"WreckCourt", "water", "(II)I"⟩, 3, (some .int), 10)
/-- WreckCourt$Vessel.allWater(I)I -/
def k_65 : List (List Ent) := [[(.aload_n 0, 0, [], .null), (.invokevirtual 72, 1, [1, 66, 1, 9], .null), (.iconst 0, 4, [], .int (0)), (.istore_n 2, 5, [], .null), (.iconst 0, 6, [], .int (0)), (.istore_n 3, 7, [], .null), (.iload_n 3, 8, [], .null), (.bipush 6, 9, [], .int (6)), (.if_icmp .ge 20, 11, [20], .null), (.iload_n 2, 14, [], .null), (.aload_n 0, 15, [], .null), (.getfield 45, 16, [9, 8], .null), (.iload_n 3, 19, [], .null), (.aaload, 20, [], .null), (.iload_n 1, 21, [], .null), (.iaload, 22, [], .null)],
  [(.iadd, 23, [], .null), (.istore_n 2, 24, [], .null), (.iinc 3 1, 25, [], .int (1)), (.goto (-20), 28, [6], .null), (.iload_n 2, 31, [], .null), (.ireturn, 32, [], .null)]]
def m_65 : MR := (65, k_65, prog_11_method_8_code, ⟨"WreckCourt$Vessel", "allWater", "(I)I"⟩, 4, (some .int), 9)
/-- WreckCourt$Vessel.fill()V -/
def k_66 : List (List Ent) := [[(.aload_n 0, 0, [], .null), (.getfield 58, 1, [9, 12], .null), (.ifCond .eq 18, 4, [12], .null), (.aload_n 0, 7, [], .null), (.aload_n 0, 8, [], .null), (.iconst (-1), 9, [], .int (-1)), (.iconst 0, 10, [], .int (0)), (.invokevirtual 95, 11, [1, 67, 3, 9], .null), (.putfield 55, 14, [9, 11], .null), (.aload_n 0, 17, [], .null), (.iconst 0, 18, [], .int (0)), (.putfield 58, 19, [9, 12], .null), (.return_, 22, [], .null)]]
def m_66 : MR := (66, k_66, prog_11_method_11_code, ⟨"WreckCourt$Vessel", "fill", "()V"⟩, 1, none, 9)
/-- WreckCourt$Vessel.play(II)I -/
def k_67 : List (List Ent) := [[(.aload_n 0, 0, [], .null), (.getfield 40, 1, [9, 7], .null), (.iconst 0, 4, [], .int (0)), (.invokestatic 62, 5, [0, 5, 2, 99], .null), (.aload_n 0, 8, [], .null), (.getfield 37, 9, [9, 6], .null), (.iconst 1, 12, [], .int (1)), (.invokestatic 62, 13, [0, 5, 2, 99], .null), (.iconst 0, 16, [], .int (0)), (.istore_n 3, 17, [], .null), (.ldc 54, 18, [], .int (-1000000)), (.istore 4, 20, [], .null), (.iconst 0, 22, [], .int (0)), (.istore 5, 23, [], .null), (.iload 5, 25, [], .null), (.sipush 240, 27, [], .int (240))],
  [(.if_icmp .ge 127, 30, [83], .null), (.iload_n 1, 33, [], .null), (.iconst (-1), 34, [], .int (-1)), (.if_icmp .eq 10, 35, [23], .null), (.iload 4, 38, [], .null), (.ldc 54, 40, [], .int (-1000000)), (.if_icmp .ne 115, 42, [83], .null), (.aload_n 0, 45, [], .null), (.getfield 14, 46, [9, 0], .null), (.iload 5, 49, [], .null), (.iload_n 3, 51, [], .null), (.aload_n 0, 52, [], .null), (.getfield 37, 53, [9, 6], .null), (.invokevirtual 74, 56, [1, 41, 4, 8], .null), (.istore_n 3, 59, [], .null), (.iload_n 1, 60, [], .null)],
  [(.ifCond .eq 8, 61, [36], .null), (.iload_n 1, 64, [], .null), (.iconst 1, 65, [], .int (1)), (.if_icmp .ne 10, 66, [41], .null), (.aload_n 0, 69, [], .null), (.getfield 37, 70, [9, 6], .null), (.iload_n 2, 73, [], .null), (.iload_n 1, 74, [], .null), (.iastore, 75, [], .null), (.aload_n 0, 76, [], .null), (.iload 5, 77, [], .null), (.iload_n 1, 79, [], .null), (.iconst 3, 80, [], .int (3)), (.if_icmp .ne 7, 81, [48], .null), (.iload_n 2, 84, [], .null), (.goto 5, 85, [49], .null)],
  [(.ldc 54, 88, [], .int (-1000000)), (.invokevirtual 78, 90, [1, 68, 3, 9], .null), (.aload_n 0, 93, [], .null), (.invokevirtual 82, 94, [1, 70, 1, 9], .null), (.aload_n 0, 97, [], .null), (.iload_n 1, 98, [], .null), (.iconst 2, 99, [], .int (2)), (.if_icmp .ne 7, 100, [58], .null), (.iload_n 2, 103, [], .null), (.goto 7, 104, [60], .null), (.aload_n 0, 107, [], .null), (.getfield 48, 108, [9, 9], .null), (.invokevirtual 85, 111, [1, 71, 2, 9], .null), (.iload_n 1, 114, [], .null), (.iconst (-1), 115, [], .int (-1)), (.if_icmp .ne 11, 116, [69], .null)],
  [(.aload_n 0, 119, [], .null), (.iload 5, 120, [], .null), (.iconst 1, 122, [], .int (1)), (.iadd, 123, [], .null), (.invokevirtual 88, 124, [1, 72, 2, 9], .null), (.iload 4, 127, [], .null), (.ldc 54, 129, [], .int (-1000000)), (.if_icmp .ne 20, 131, [81], .null), (.aload_n 0, 134, [], .null), (.invokevirtual 91, 135, [1, 73, 1, 9], .null), (.aload_n 0, 138, [], .null), (.getfield 51, 139, [9, 10], .null), (.if_icmp .lt 9, 142, [81], .null), (.iload 5, 145, [], .null), (.iconst 1, 147, [], .int (1)), (.iadd, 148, [], .null)],
  [(.istore 4, 149, [], .null), (.iinc 5 1, 151, [], .int (1)), (.goto (-129), 154, [14], .null), (.iload 4, 157, [], .null), (.ireturn, 159, [], .null)]]
def m_67 : MR := (67, k_67, prog_11_method_10_code, ⟨"WreckCourt$Vessel", "play", "(II)I"⟩, 6, (some .int), 9)
/-- WreckCourt$Vessel.letIn(II)V -/
def k_68 : List (List Ent) := [[(.iconst 0, 0, [], .int (0)), (.istore_n 3, 1, [], .null), (.iload_n 3, 2, [], .null), (.aload_n 0, 3, [], .null), (.getfield 20, 4, [9, 1], .null), (.if_icmp .ge 66, 7, [43], .null), (.iload_n 3, 10, [], .null), (.iload_n 2, 11, [], .null), (.if_icmp .eq 55, 12, [41], .null), (.aload_n 0, 15, [], .null), (.getfield 31, 16, [9, 4], .null), (.iload_n 3, 19, [], .null), (.iaload, 20, [], .null), (.iload_n 1, 21, [], .null), (.if_icmp .gt 45, 22, [41], .null), (.aload_n 0, 25, [], .null)],
  [(.getfield 28, 26, [9, 3], .null), (.iload_n 3, 29, [], .null), (.iaload, 30, [], .null), (.istore 4, 31, [], .null), (.aload_n 0, 33, [], .null), (.getfield 40, 34, [9, 7], .null), (.iload 4, 37, [], .null), (.dup2, 39, [], .null), (.iaload, 40, [], .null), (.aload_n 0, 41, [], .null), (.getfield 34, 42, [9, 5], .null), (.iload_n 3, 45, [], .null), (.iaload, 46, [], .null), (.aload_n 0, 47, [], .null), (.getfield 24, 48, [9, 2], .null), (.iload 4, 51, [], .null)],
  [(.iaload, 53, [], .null), (.aload_n 0, 54, [], .null), (.getfield 40, 55, [9, 7], .null), (.iload 4, 58, [], .null), (.iaload, 60, [], .null), (.isub, 61, [], .null), (.invokestatic 98, 62, [9, 69, 2], .null), (.iadd, 65, [], .null), (.iastore, 66, [], .null), (.iinc 3 1, 67, [], .int (1)), (.goto (-68), 70, [2], .null), (.return_, 73, [], .null)]]
def m_68 : MR := (68, k_68, prog_11_method_12_code, ⟨"WreckCourt$Vessel", "letIn", "(II)V"⟩, 5, none, 9)
/-- java/lang/Math.min(II)I -/
def k_69 : List (List Ent) := [[(.iload_n 0, 0, [], .null), (.iload_n 1, 1, [], .null), (.if_icmp .gt 7, 2, [5], .null), (.iload_n 0, 5, [], .null), (.goto 4, 6, [6], .null), (.iload_n 1, 9, [], .null), (.ireturn, 10, [], .null)]]
def m_69 : MR := (69, k_69, prog_15_method_69_code, ⟨"java/lang/Math", "min", "(II)I"⟩, 2, (some .int), 14)
/-- WreckCourt$Vessel.levelOut()V -/
def k_70 : List (List Ent) := [[(.iconst 0, 0, [], .int (0)), (.istore_n 1, 1, [], .null), (.iload_n 1, 2, [], .null), (.iconst 5, 3, [], .int (5)), (.if_icmp .ge 126, 4, [82], .null), (.aload_n 0, 7, [], .null), (.getfield 37, 8, [9, 6], .null), (.iload_n 1, 11, [], .null), (.iaload, 12, [], .null), (.iconst 1, 13, [], .int (1)), (.if_icmp .ne 110, 14, [80], .null), (.aload_n 0, 17, [], .null), (.getfield 40, 18, [9, 7], .null), (.iload_n 1, 21, [], .null), (.iaload, 22, [], .null), (.aload_n 0, 23, [], .null)],
  [(.getfield 40, 24, [9, 7], .null), (.iload_n 1, 27, [], .null), (.iconst 1, 28, [], .int (1)), (.iadd, 29, [], .null), (.iaload, 30, [], .null), (.if_icmp .le 7, 31, [24], .null), (.iconst 1, 34, [], .int (1)), (.goto 4, 35, [25], .null), (.iconst 0, 38, [], .int (0)), (.istore_n 2, 39, [], .null), (.iload_n 2, 40, [], .null), (.ifCond .eq 7, 41, [30], .null), (.iload_n 1, 44, [], .null), (.goto 6, 45, [33], .null), (.iload_n 1, 48, [], .null), (.iconst 1, 49, [], .int (1))],
  [(.iadd, 50, [], .null), (.istore_n 3, 51, [], .null), (.iload_n 2, 52, [], .null), (.ifCond .eq 9, 53, [40], .null), (.iload_n 1, 56, [], .null), (.iconst 1, 57, [], .int (1)), (.iadd, 58, [], .null), (.goto 4, 59, [41], .null), (.iload_n 1, 62, [], .null), (.istore 4, 63, [], .null), (.aload_n 0, 65, [], .null), (.getfield 40, 66, [9, 7], .null), (.iload_n 3, 69, [], .null), (.iaload, 70, [], .null), (.aload_n 0, 71, [], .null), (.getfield 40, 72, [9, 7], .null)],
  [(.iload 4, 75, [], .null), (.iaload, 77, [], .null), (.isub, 78, [], .null), (.iconst 2, 79, [], .int (2)), (.idiv, 80, [], .null), (.aload_n 0, 81, [], .null), (.getfield 24, 82, [9, 2], .null), (.iload 4, 85, [], .null), (.iaload, 87, [], .null), (.aload_n 0, 88, [], .null), (.getfield 40, 89, [9, 7], .null), (.iload 4, 92, [], .null), (.iaload, 94, [], .null), (.isub, 95, [], .null), (.invokestatic 98, 96, [9, 69, 2], .null), (.istore 5, 99, [], .null)],
  [(.aload_n 0, 101, [], .null), (.getfield 40, 102, [9, 7], .null), (.iload_n 3, 105, [], .null), (.dup2, 106, [], .null), (.iaload, 107, [], .null), (.iload 5, 108, [], .null), (.isub, 110, [], .null), (.iastore, 111, [], .null), (.aload_n 0, 112, [], .null), (.getfield 40, 113, [9, 7], .null), (.iload 4, 116, [], .null), (.dup2, 118, [], .null), (.iaload, 119, [], .null), (.iload 5, 120, [], .null), (.iadd, 122, [], .null), (.iastore, 123, [], .null)],
  [(.iinc 1 1, 124, [], .int (1)), (.goto (-125), 127, [2], .null), (.return_, 130, [], .null)]]
def m_70 : MR := (70, k_70, prog_11_method_13_code, ⟨"WreckCourt$Vessel", "levelOut", "()V"⟩, 6, none, 9)
/-- WreckCourt$Vessel.pumpOut(I)V -/
def k_71 : List (List Ent) := [[(.iconst 0, 0, [], .int (0)), (.istore_n 2, 1, [], .null), (.iconst 1, 2, [], .int (1)), (.istore_n 3, 3, [], .null), (.iload_n 3, 4, [], .null), (.bipush 6, 5, [], .int (6)), (.if_icmp .ge 26, 7, [20], .null), (.aload_n 0, 10, [], .null), (.getfield 40, 11, [9, 7], .null), (.iload_n 3, 14, [], .null), (.iaload, 15, [], .null), (.aload_n 0, 16, [], .null), (.getfield 40, 17, [9, 7], .null), (.iload_n 2, 20, [], .null), (.iaload, 21, [], .null), (.if_icmp .le 5, 22, [18], .null)],
  [(.iload_n 3, 25, [], .null), (.istore_n 2, 26, [], .null), (.iinc 3 1, 27, [], .int (1)), (.goto (-26), 30, [4], .null), (.aload_n 0, 33, [], .null), (.getfield 40, 34, [9, 7], .null), (.iload_n 2, 37, [], .null), (.dup2, 38, [], .null), (.iaload, 39, [], .null), (.iload_n 1, 40, [], .null), (.aload_n 0, 41, [], .null), (.getfield 40, 42, [9, 7], .null), (.iload_n 2, 45, [], .null), (.iaload, 46, [], .null), (.invokestatic 98, 47, [9, 69, 2], .null), (.isub, 50, [], .null)],
  [(.iastore, 51, [], .null), (.return_, 52, [], .null)]]
def m_71 : MR := (71, k_71, prog_11_method_14_code, ⟨"WreckCourt$Vessel", "pumpOut", "(I)V"⟩, 4, none, 9)
/-- WreckCourt$Vessel.keep(I)V -/
def k_72 : List (List Ent) := [[(.iconst 0, 0, [], .int (0)), (.istore_n 2, 1, [], .null), (.iload_n 2, 2, [], .null), (.bipush 6, 3, [], .int (6)), (.if_icmp .ge 23, 5, [17], .null), (.aload_n 0, 8, [], .null), (.getfield 45, 9, [9, 8], .null), (.iload_n 2, 12, [], .null), (.aaload, 13, [], .null), (.iload_n 1, 14, [], .null), (.aload_n 0, 15, [], .null), (.getfield 40, 16, [9, 7], .null), (.iload_n 2, 19, [], .null), (.iaload, 20, [], .null), (.iastore, 21, [], .null), (.iinc 2 1, 22, [], .int (1))],
  [(.goto (-23), 25, [2], .null), (.return_, 28, [], .null)]]
def m_72 : MR := (72, k_72, prog_11_method_15_code, ⟨"WreckCourt$Vessel", "keep", "(I)V"⟩, 3, none, 9)
/-- WreckCourt$Vessel.held()I -/
def k_73 : List (List Ent) := [[(.iconst 0, 0, [], .int (0)), (.istore_n 1, 1, [], .null), (.iconst 0, 2, [], .int (0)), (.istore_n 2, 3, [], .null), (.iload_n 2, 4, [], .null), (.bipush 6, 5, [], .int (6)), (.if_icmp .ge 18, 7, [16], .null), (.iload_n 1, 10, [], .null), (.aload_n 0, 11, [], .null), (.getfield 40, 12, [9, 7], .null), (.iload_n 2, 15, [], .null), (.iaload, 16, [], .null), (.iadd, 17, [], .null), (.istore_n 1, 18, [], .null), (.iinc 2 1, 19, [], .int (1)), (.goto (-18), 22, [4], .null)],
  [(.iload_n 1, 25, [], .null), (.ireturn, 26, [], .null)]]
def m_73 : MR := (73, k_73, prog_11_method_16_code, ⟨"WreckCourt$Vessel", "held", "()I"⟩, 3, (some .int), 9)
/-- WreckCourt$Vessel.waterIn(II)I -/
def k_74 : List (List Ent) := [[(.aload_n 0, 0, [], .null), (.invokevirtual 72, 1, [1, 66, 1, 9], .null), (.aload_n 0, 4, [], .null), (.getfield 45, 5, [9, 8], .null), (.iload_n 1, 8, [], .null), (.aaload, 9, [], .null), (.iload_n 2, 10, [], .null), (.iaload, 11, [], .null), (.ireturn, 12, [], .null)]]
def m_74 : MR := (74, k_74, prog_11_method_7_code, ⟨"WreckCourt$Vessel", "waterIn", "(II)I"⟩, 3, (some .int), 9)
/-- WreckCourt.sinks()I -/
def k_75 : List (List Ent) := [[(.aload_n 0, 0, [], .null), (.getfield 25, 1, [10, 2], .null), (.invokevirtual 236, 4, [1, 76, 1, 9], .null), (.ireturn, 7, [], .null)]]
def m_75 : MR := (75, k_75, prog_1_method_16_code, ⟨"WreckCourt", "sinks", "()I"⟩, 1, (some .int), 10)
/-- WreckCourt$Vessel.sinking()I -/
def k_76 : List (List Ent) := [[(.aload_n 0, 0, [], .null), (.invokevirtual 72, 1, [1, 66, 1, 9], .null), (.aload_n 0, 4, [], .null), (.getfield 55, 5, [9, 11], .null), (.ireturn, 8, [], .null)]]
def m_76 : MR := (76, k_76, prog_11_method_9_code, ⟨"WreckCourt$Vessel", "sinking", "()I"⟩, 1, (some .int), 9)
/-- WreckCourt.other(II)I -/
def k_77 : List (List Ent) := [[(.aload_n 0, 0, [], .null), (.iload_n 1, 1, [], .null), (.iload_n 2, 2, [], .null), (.invokevirtual 240, 3, [1, 78, 3, 10], .null), (.ifCond .eq 15, 6, [11], .null), (.aload_n 0, 9, [], .null), (.getfield 25, 10, [10, 2], .null), (.iload_n 1, 13, [], .null), (.iload_n 2, 14, [], .null), (.invokevirtual 243, 15, [1, 67, 3, 9], .null), (.goto 5, 18, [12], .null), (.ldc 89, 21, [], .int (-1000001)), (.ireturn, 23, [], .null)]]
def m_77 : MR := (77, k_77, prog_1_method_17_code, ⟨"WreckCourt", "other", "(II)I"⟩, 3, (some .int), 10)
/-- WreckCourt.isOther(II)Z -/
def k_78 : List (List Ent) := [[(.iload_n 1, 0, [], .null), (.tableswitch 64 0 3 #[31, 36, 41, 49], 1, [22, 2, 5, 8, 13], .null), (.iload_n 2, 32, [], .null), (.invokestatic 214, 33, [0, 60, 1, 10], .null), (.ireturn, 36, [], .null), (.iload_n 2, 37, [], .null), (.invokestatic 214, 38, [0, 60, 1, 10], .null), (.ireturn, 41, [], .null), (.iload_n 2, 42, [], .null), (.iconst 0, 43, [], .int (0)), (.bipush 100, 44, [], .int (100)), (.invokestatic 85, 46, [0, 13, 3, 10], .null), (.ireturn, 49, [], .null), (.iload_n 2, 50, [], .null), (.iconst 0, 51, [], .int (0)), (.aload_n 0, 52, [], .null)],
  [(.getfield 25, 53, [10, 2], .null), (.getfield 223, 56, [9, 1], .null), (.iconst 1, 59, [], .int (1)), (.isub, 60, [], .null), (.invokestatic 85, 61, [0, 13, 3, 10], .null), (.ireturn, 64, [], .null), (.iconst 0, 65, [], .int (0)), (.ireturn, 66, [], .null)]]
def m_78 : MR := (78, k_78, prog_1_method_47_code, ⟨"WreckCourt", "isOther", "(II)Z"⟩, 3, (some .boolean), 10)
/-- WreckCourt.fact(IIIIIIII)I -/
def k_79 : List (List Ent) := [[(.iload_n 1, 0, [], .null), (.iconst 0, 1, [], .int (0)), (.iconst 3, 2, [], .int (3)), (.invokestatic 85, 3, [0, 13, 3, 10], .null), (.ifCond .eq 29, 6, [17], .null), (.iload_n 2, 9, [], .null), (.iconst 0, 10, [], .int (0)), (.iconst 3, 11, [], .int (3)), (.invokestatic 85, 12, [0, 13, 3, 10], .null), (.ifCond .eq 20, 15, [17], .null), (.iload_n 3, 18, [], .null), (.invokestatic 141, 19, [0, 27, 1, 10], .null), (.ifCond .eq 13, 22, [17], .null), (.iload 4, 25, [], .null), (.iload 5, 27, [], .null), (.invokestatic 128, 29, [0, 23, 2, 10], .null)],
  [(.ifCond .ne 6, 32, [19], .null), (.ldc 89, 35, [], .int (-1000001)), (.ireturn, 37, [], .null), (.iload 6, 38, [], .null), (.iconst 0, 40, [], .int (0)), (.sipush 2000, 41, [], .int (2000)), (.invokestatic 85, 44, [0, 13, 3, 10], .null), (.ifCond .eq 21, 47, [32], .null), (.iload 7, 50, [], .null), (.iconst 0, 52, [], .int (0)), (.iconst 2, 53, [], .int (2)), (.invokestatic 85, 54, [0, 13, 3, 10], .null), (.ifCond .eq 11, 57, [32], .null), (.iload 8, 60, [], .null), (.invokestatic 246, 62, [0, 80, 1, 10], .null), (.ifCond .ne 6, 65, [34], .null)],
  [(.ldc 89, 68, [], .int (-1000001)), (.ireturn, 70, [], .null), (.aload_n 0, 71, [], .null), (.getfield 32, 72, [10, 3], .null), (.getfield 249, 75, [1, 1], .null), (.bipush 12, 78, [], .int (12)), (.if_icmp .ne 6, 80, [41], .null), (.ldc 134, 83, [], .int (-1000003)), (.ireturn, 85, [], .null), (.new 250, 86, [3], .null), (.dup, 89, [], .null), (.iload_n 1, 90, [], .null), (.iload 7, 91, [], .null), (.iload 8, 93, [], .null), (.invokespecial 252, 95, [2, 81, 4, 3], .null), (.astore 9, 98, [], .null)],
  [(.aload 9, 100, [], .null), (.iload_n 2, 102, [], .null), (.iload_n 3, 103, [], .null), (.invokevirtual 255, 104, [1, 82, 3, 3], .null), (.aload 9, 107, [], .null), (.iload 4, 109, [], .null), (.iload 5, 111, [], .null), (.iload 6, 113, [], .null), (.invokevirtual 258, 115, [1, 83, 4, 3], .null), (.aload_n 0, 118, [], .null), (.getfield 32, 119, [10, 3], .null), (.aload 9, 122, [], .null), (.invokevirtual 261, 124, [1, 84, 2, 1], .null), (.ireturn, 127, [], .null)]]
def m_79 : MR := (79, k_79, prog_1_method_18_code, ⟨"WreckCourt", "fact", "(IIIIIIII)I"⟩, 10, (some .int), 10)
/-- WreckCourt.isDay(I)Z -/
def k_80 : List (List Ent) := [[(.iload_n 0, 0, [], .null), (.iconst 0, 1, [], .int (0)), (.bipush 99, 2, [], .int (99)), (.invokestatic 85, 4, [0, 13, 3, 10], .null), (.ireturn, 7, [], .null)]]
def m_80 : MR := (80, k_80, prog_1_method_42_code, ⟨"WreckCourt", "isDay", "(I)Z"⟩, 1, (some .boolean), 10)
/-- WreckCourt$Fact.<init>(III)V -/
def k_81 : List (List Ent) := [[(.aload_n 0, 0, [], .null), (.invokespecial 3, 1, [5, 0, 1], .null), (.aload_n 0, 4, [], .null), (.iconst 0, 5, [], .int (0)), (.putfield 9, 6, [3, 3], .null), (.aload_n 0, 9, [], .null), (.iconst 0, 10, [], .int (0)), (.putfield 15, 11, [3, 4], .null), (.aload_n 0, 14, [], .null), (.iconst 0, 15, [], .int (0)), (.putfield 18, 16, [3, 5], .null), (.aload_n 0, 19, [], .null), (.iconst 0, 20, [], .int (0)), (.putfield 21, 21, [3, 6], .null), (.aload_n 0, 24, [], .null), (.iconst 0, 25, [], .int (0))],
  [(.putfield 24, 26, [3, 7], .null), (.aload_n 0, 29, [], .null), (.ldc 27, 30, [], .int (-1000000)), (.putfield 28, 32, [3, 8], .null), (.aload_n 0, 35, [], .null), (.iload_n 1, 36, [], .null), (.putfield 31, 37, [3, 0], .null), (.aload_n 0, 40, [], .null), (.iload_n 2, 41, [], .null), (.putfield 34, 42, [3, 1], .null), (.aload_n 0, 45, [], .null), (.iload_n 3, 46, [], .null), (.putfield 37, 47, [3, 2], .null), (.return_, 50, [], .null)]]
def m_81 : MR := (81, k_81, prog_5_method_1_code, ⟨"WreckCourt$Fact", "<init>", "(III)V"⟩, 4, none, 3)
/-- WreckCourt$Fact.tellsOf(II)V -/
def k_82 : List (List Ent) := [[(.aload_n 0, 0, [], .null), (.iload_n 1, 1, [], .null), (.putfield 15, 2, [3, 4], .null), (.aload_n 0, 5, [], .null), (.iload_n 2, 6, [], .null), (.putfield 9, 7, [3, 3], .null), (.return_, 10, [], .null)]]
def m_82 : MR := (82, k_82, prog_5_method_2_code, ⟨"WreckCourt$Fact", "tellsOf", "(II)V"⟩, 3, none, 3)
/-- WreckCourt$Fact.liesAt(III)V -/
def k_83 : List (List Ent) := [[(.aload_n 0, 0, [], .null), (.iload_n 1, 1, [], .null), (.putfield 18, 2, [3, 5], .null), (.aload_n 0, 5, [], .null), (.iload_n 2, 6, [], .null), (.putfield 21, 7, [3, 6], .null), (.aload_n 0, 10, [], .null), (.iload_n 3, 11, [], .null), (.putfield 24, 12, [3, 7], .null), (.return_, 15, [], .null)]]
def m_83 : MR := (83, k_83, prog_5_method_3_code, ⟨"WreckCourt$Fact", "liesAt", "(III)V"⟩, 4, none, 3)
/-- WreckCourt$Bench.hear(LWreckCourt$Fact;)I -/
def k_84 : List (List Ent) := [[(.aload_n 0, 0, [], .null), (.getfield 11, 1, [1, 0], .null), (.aload_n 0, 4, [], .null), (.getfield 17, 5, [1, 1], .null), (.aload_n 1, 8, [], .null), (.aastore, 9, [], .null), (.iconst 0, 10, [], .int (0)), (.istore_n 2, 11, [], .null), (.iload_n 2, 12, [], .null), (.aload_n 0, 13, [], .null), (.getfield 17, 14, [1, 1], .null), (.if_icmp .ge 50, 17, [41], .null), (.aload_n 0, 20, [], .null), (.getfield 11, 21, [1, 0], .null), (.iload_n 2, 24, [], .null), (.aaload, 25, [], .null)],
  [(.aload_n 1, 26, [], .null), (.invokestatic 52, 27, [0, 85, 2, 1], .null), (.istore_n 3, 30, [], .null), (.aload_n 0, 31, [], .null), (.getfield 43, 32, [1, 9], .null), (.iload_n 2, 35, [], .null), (.bipush 12, 36, [], .int (12)), (.imul, 38, [], .null), (.aload_n 0, 39, [], .null), (.getfield 17, 40, [1, 1], .null), (.iadd, 43, [], .null), (.iload_n 3, 44, [], .null), (.iastore, 45, [], .null), (.aload_n 0, 46, [], .null), (.getfield 43, 47, [1, 9], .null), (.aload_n 0, 50, [], .null)],
  [(.getfield 17, 51, [1, 1], .null), (.bipush 12, 54, [], .int (12)), (.imul, 56, [], .null), (.iload_n 2, 57, [], .null), (.iadd, 58, [], .null), (.iload_n 3, 59, [], .null), (.iastore, 60, [], .null), (.iinc 2 1, 61, [], .int (1)), (.goto (-52), 64, [8], .null), (.aload_n 0, 67, [], .null), (.dup, 68, [], .null), (.getfield 17, 69, [1, 1], .null), (.iconst 1, 72, [], .int (1)), (.iadd, 73, [], .null), (.putfield 17, 74, [1, 1], .null), (.aload_n 0, 77, [], .null)],
  [(.getfield 17, 78, [1, 1], .null), (.iconst 1, 81, [], .int (1)), (.isub, 82, [], .null), (.ireturn, 83, [], .null)]]
def m_84 : MR := (84, k_84, prog_3_method_2_code, ⟨"WreckCourt$Bench", "hear", "(LWreckCourt$Fact;)I"⟩, 4, (some .int), 1)
/-- WreckCourt$Bench.beyondDoubt(LWreckCourt$Fact;LWreckCourt$Fact;)I -/
def k_85 : List (List Ent) := [[(.aload_n 0, 0, [], .null), (.getfield 107, 1, [3, 4], .null), (.aload_n 1, 4, [], .null), (.getfield 107, 5, [3, 4], .null), (.if_icmp .ne 42, 8, [26], .null), (.aload_n 0, 11, [], .null), (.getfield 110, 12, [3, 5], .null), (.aload_n 1, 15, [], .null), (.getfield 110, 16, [3, 5], .null), (.isub, 19, [], .null), (.i2l, 20, [], .null), (.aload_n 0, 21, [], .null), (.getfield 113, 22, [3, 6], .null), (.aload_n 1, 25, [], .null), (.getfield 113, 26, [3, 6], .null), (.isub, 29, [], .null)],
  [(.i2l, 30, [], .null), (.invokestatic 116, 31, [3, 50, 2, 10], .null), (.invokestatic 120, 34, [3, 51, 1, 10], .null), (.aload_n 0, 37, [], .null), (.getfield 124, 38, [3, 7], .null), (.isub, 41, [], .null), (.aload_n 1, 42, [], .null), (.getfield 124, 43, [3, 7], .null), (.isub, 46, [], .null), (.goto 4, 47, [27], .null), (.iconst 0, 50, [], .int (0)), (.ireturn, 51, [], .null)]]
def m_85 : MR := (85, k_85, prog_3_method_12_code, ⟨"WreckCourt$Bench", "beyondDoubt", "(LWreckCourt$Fact;LWreckCourt$Fact;)I"⟩, 2, (some .int), 1)
/-- WreckCourt.withdraw(II)I -/
def k_86 : List (List Ent) := [[(.aload_n 0, 0, [], .null), (.iload_n 1, 1, [], .null), (.invokevirtual 265, 2, [1, 87, 2, 10], .null), (.ifCond .eq 26, 5, [15], .null), (.iload_n 2, 8, [], .null), (.invokestatic 246, 9, [0, 80, 1, 10], .null), (.ifCond .eq 19, 12, [15], .null), (.iload_n 2, 15, [], .null), (.aload_n 0, 16, [], .null), (.getfield 32, 17, [10, 3], .null), (.getfield 268, 20, [1, 0], .null), (.iload_n 1, 23, [], .null), (.aaload, 24, [], .null), (.getfield 272, 25, [3, 2], .null), (.if_icmp .ge 6, 28, [17], .null), (.ldc 89, 31, [], .int (-1000001))],
  [(.ireturn, 33, [], .null), (.aload_n 0, 34, [], .null), (.getfield 32, 35, [10, 3], .null), (.getfield 268, 38, [1, 0], .null), (.iload_n 1, 41, [], .null), (.aaload, 42, [], .null), (.astore_n 3, 43, [], .null), (.aload_n 3, 44, [], .null), (.invokevirtual 275, 45, [1, 88, 1, 3], .null), (.ifCond .eq 10, 48, [29], .null), (.aload_n 3, 51, [], .null), (.invokevirtual 278, 52, [1, 89, 1, 3], .null), (.ifCond .eq 7, 55, [31], .null), (.ldc_w 281, 58, [], .int (-1000002)), (.ireturn, 61, [], .null), (.aload_n 3, 62, [], .null)],
  [(.iload_n 2, 63, [], .null), (.putfield 282, 64, [3, 8], .null), (.iconst 1, 67, [], .int (1)), (.ireturn, 68, [], .null)]]
def m_86 : MR := (86, k_86, prog_1_method_19_code, ⟨"WreckCourt", "withdraw", "(II)I"⟩, 4, (some .int), 10)
/-- WreckCourt.isFact(I)Z -/
def k_87 : List (List Ent) := [[(.iload_n 1, 0, [], .null), (.iconst 0, 1, [], .int (0)), (.aload_n 0, 2, [], .null), (.getfield 32, 3, [10, 3], .null), (.getfield 249, 6, [1, 1], .null), (.iconst 1, 9, [], .int (1)), (.isub, 10, [], .null), (.invokestatic 85, 11, [0, 13, 3, 10], .null), (.ireturn, 14, [], .null)]]
def m_87 : MR := (87, k_87, prog_1_method_46_code, ⟨"WreckCourt", "isFact", "(I)Z"⟩, 2, (some .boolean), 10)
/-- WreckCourt$Fact.isWord()Z -/
def k_88 : List (List Ent) := [[(.aload_n 0, 0, [], .null), (.getfield 31, 1, [3, 0], .null), (.iconst 1, 4, [], .int (1)), (.if_icmp .eq 11, 5, [8], .null), (.aload_n 0, 8, [], .null), (.getfield 31, 9, [3, 0], .null), (.iconst 2, 12, [], .int (2)), (.if_icmp .ne 7, 13, [10], .null), (.iconst 1, 16, [], .int (1)), (.goto 4, 17, [11], .null), (.iconst 0, 20, [], .int (0)), (.ireturn, 21, [], .null)]]
def m_88 : MR := (88, k_88, prog_5_method_4_code, ⟨"WreckCourt$Fact", "isWord", "()Z"⟩, 1, (some .boolean), 3)
/-- WreckCourt$Fact.isGone()Z -/
def k_89 : List (List Ent) := [[(.aload_n 0, 0, [], .null), (.getfield 28, 1, [3, 8], .null), (.ldc 27, 4, [], .int (-1000000)), (.if_icmp .eq 7, 6, [6], .null), (.iconst 1, 9, [], .int (1)), (.goto 4, 10, [7], .null), (.iconst 0, 13, [], .int (0)), (.ireturn, 14, [], .null)]]
def m_89 : MR := (89, k_89, prog_5_method_5_code, ⟨"WreckCourt$Fact", "isGone", "()Z"⟩, 1, (some .boolean), 3)
/-- WreckCourt.quarrel(IIIII)I -/
def k_90 : List (List Ent) := [[(.aload_n 0, 0, [], .null), (.iload_n 1, 1, [], .null), (.invokevirtual 265, 2, [1, 87, 2, 10], .null), (.ifCond .eq 39, 5, [20], .null), (.aload_n 0, 8, [], .null), (.iload_n 2, 9, [], .null), (.invokevirtual 265, 10, [1, 87, 2, 10], .null), (.ifCond .eq 31, 13, [20], .null), (.iload_n 1, 16, [], .null), (.iload_n 2, 17, [], .null), (.if_icmp .eq 26, 18, [20], .null), (.iload_n 3, 21, [], .null), (.invokestatic 285, 22, [0, 91, 1, 10], .null), (.ifCond .eq 19, 25, [20], .null), (.iload 4, 28, [], .null), (.invokestatic 285, 30, [0, 91, 1, 10], .null)],
  [(.ifCond .eq 11, 33, [20], .null), (.iload 5, 36, [], .null), (.invokestatic 285, 38, [0, 91, 1, 10], .null), (.ifCond .ne 6, 41, [22], .null), (.ldc 89, 44, [], .int (-1000001)), (.ireturn, 46, [], .null), (.aload_n 0, 47, [], .null), (.getfield 32, 48, [10, 3], .null), (.iload_n 3, 51, [], .null), (.iload 4, 52, [], .null), (.iload 5, 54, [], .null), (.invokevirtual 288, 56, [1, 92, 4, 1], .null), (.aload_n 0, 59, [], .null), (.getfield 32, 60, [10, 3], .null), (.iload_n 1, 63, [], .null), (.iload_n 2, 64, [], .null)],
  [(.invokevirtual 291, 65, [1, 93, 3, 1], .null), (.ifCond .eq 7, 68, [36], .null), (.iconst 1, 71, [], .int (1)), (.goto 4, 72, [37], .null), (.iconst 0, 75, [], .int (0)), (.ireturn, 76, [], .null)]]
def m_90 : MR := (90, k_90, prog_1_method_20_code, ⟨"WreckCourt", "quarrel", "(IIIII)I"⟩, 6, (some .int), 10)
/-- WreckCourt.isClock(I)Z -/
def k_91 : List (List Ent) := [[(.iload_n 0, 0, [], .null), (.bipush (-3), 1, [], .int (-3)), (.iconst 3, 3, [], .int (3)), (.invokestatic 85, 4, [0, 13, 3, 10], .null), (.ireturn, 7, [], .null)]]
def m_91 : MR := (91, k_91, prog_1_method_43_code, ⟨"WreckCourt", "isClock", "(I)Z"⟩, 1, (some .boolean), 10)
/-- WreckCourt$Bench.wind(III)V -/
def k_92 : List (List Ent) := [[(.aload_n 0, 0, [], .null), (.getfield 37, 1, [1, 7], .null), (.iconst 0, 4, [], .int (0)), (.iload_n 1, 5, [], .null), (.iastore, 6, [], .null), (.aload_n 0, 7, [], .null), (.getfield 37, 8, [1, 7], .null), (.iconst 1, 11, [], .int (1)), (.iload_n 2, 12, [], .null), (.iastore, 13, [], .null), (.aload_n 0, 14, [], .null), (.getfield 37, 15, [1, 7], .null), (.iconst 2, 18, [], .int (2)), (.iload_n 3, 19, [], .null), (.iastore, 20, [], .null), (.return_, 21, [], .null)]]
def m_92 : MR := (92, k_92, prog_3_method_5_code, ⟨"WreckCourt$Bench", "wind", "(III)V"⟩, 4, none, 1)
/-- WreckCourt$Bench.isQuarrel(II)Z -/
def k_93 : List (List Ent) := [[(.aload_n 0, 0, [], .null), (.getfield 43, 1, [1, 9], .null), (.iload_n 1, 4, [], .null), (.bipush 12, 5, [], .int (12)), (.imul, 7, [], .null), (.iload_n 2, 8, [], .null), (.iadd, 9, [], .null), (.iaload, 10, [], .null), (.bipush 50, 11, [], .int (50)), (.aload_n 0, 13, [], .null), (.aload_n 0, 14, [], .null), (.getfield 11, 15, [1, 0], .null), (.iload_n 1, 18, [], .null), (.aaload, 19, [], .null), (.invokevirtual 64, 20, [1, 94, 2, 1], .null), (.aload_n 0, 23, [], .null)],
  [(.aload_n 0, 24, [], .null), (.getfield 11, 25, [1, 0], .null), (.iload_n 2, 28, [], .null), (.aaload, 29, [], .null), (.invokevirtual 64, 30, [1, 94, 2, 1], .null), (.isub, 33, [], .null), (.invokestatic 68, 34, [11, 95, 1], .null), (.imul, 37, [], .null), (.if_icmp .le 7, 38, [27], .null), (.iconst 1, 41, [], .int (1)), (.goto 4, 42, [28], .null), (.iconst 0, 45, [], .int (0)), (.ireturn, 46, [], .null)]]
def m_93 : MR := (93, k_93, prog_3_method_6_code, ⟨"WreckCourt$Bench", "isQuarrel", "(II)Z"⟩, 3, (some .boolean), 1)
/-- WreckCourt$Bench.byClock(LWreckCourt$Fact;)I -/
def k_94 : List (List Ent) := [[(.aload_n 1, 0, [], .null), (.invokevirtual 127, 1, [1, 88, 1, 3], .null), (.ifCond .eq 20, 4, [12], .null), (.aload_n 1, 7, [], .null), (.getfield 130, 8, [3, 3], .null), (.aload_n 0, 11, [], .null), (.getfield 37, 12, [1, 7], .null), (.aload_n 1, 15, [], .null), (.getfield 133, 16, [3, 1], .null), (.iaload, 19, [], .null), (.iadd, 20, [], .null), (.goto 7, 21, [14], .null), (.aload_n 1, 24, [], .null), (.getfield 130, 25, [3, 3], .null), (.ireturn, 28, [], .null)]]
def m_94 : MR := (94, k_94, prog_3_method_13_code, ⟨"WreckCourt$Bench", "byClock", "(LWreckCourt$Fact;)I"⟩, 2, (some .int), 1)
/-- java/lang/Math.abs(I)I -/
def k_95 : List (List Ent) := [[(.iload_n 0, 0, [], .null), (.ifCond .ge 8, 1, [5], .null), (.iload_n 0, 4, [], .null), (.ineg, 5, [], .null), (.goto 4, 6, [6], .null), (.iload_n 0, 9, [], .null), (.ireturn, 10, [], .null)]]
def m_95 : MR := (95, k_95, prog_15_method_59_code, ⟨"java/lang/Math", "abs", "(I)I"⟩, 1, (some .int), 14)
/-- WreckCourt.court(II)I -/
def k_96 : List (List Ent) := [[(.iload_n 1, 0, [], .null), (.invokestatic 246, 1, [0, 80, 1, 10], .null), (.ifCond .eq 13, 4, [8], .null), (.iload_n 2, 7, [], .null), (.iconst 0, 8, [], .int (0)), (.bipush 7, 9, [], .int (7)), (.invokestatic 85, 11, [0, 13, 3, 10], .null), (.ifCond .ne 6, 14, [10], .null), (.ldc 89, 17, [], .int (-1000001)), (.ireturn, 19, [], .null), (.aload_n 0, 20, [], .null), (.getfield 32, 21, [10, 3], .null), (.iload_n 1, 24, [], .null), (.invokevirtual 294, 25, [1, 97, 2, 1], .null), (.istore_n 3, 28, [], .null), (.aload_n 0, 29, [], .null)],
  [(.getfield 32, 30, [10, 3], .null), (.iload_n 3, 33, [], .null), (.invokevirtual 297, 34, [1, 99, 2, 1], .null), (.iload_n 2, 37, [], .null), (.tableswitch 97 0 6 #[42, 50, 58, 63, 71, 80, 89], 38, [50, 21, 25, 29, 32, 36, 41, 46], .null), (.aload_n 0, 80, [], .null), (.getfield 32, 81, [10, 3], .null), (.getfield 300, 84, [1, 2], .null), (.ireturn, 87, [], .null), (.aload_n 0, 88, [], .null), (.getfield 32, 89, [10, 3], .null), (.getfield 303, 92, [1, 3], .null), (.ireturn, 95, [], .null), (.iload_n 3, 96, [], .null), (.invokestatic 306, 97, [0, 104, 1, 99], .null), (.ireturn, 100, [], .null)],
  [(.aload_n 0, 101, [], .null), (.getfield 32, 102, [10, 3], .null), (.getfield 311, 105, [1, 4], .null), (.ireturn, 108, [], .null), (.aload_n 0, 109, [], .null), (.getfield 32, 110, [10, 3], .null), (.iconst 2, 113, [], .int (2)), (.invokevirtual 314, 114, [1, 108, 2, 1], .null), (.ireturn, 117, [], .null), (.aload_n 0, 118, [], .null), (.getfield 32, 119, [10, 3], .null), (.iconst 1, 122, [], .int (1)), (.invokevirtual 314, 123, [1, 108, 2, 1], .null), (.ireturn, 126, [], .null), (.aload_n 0, 127, [], .null), (.getfield 32, 128, [10, 3], .null)],
  [(.invokevirtual 317, 131, [1, 110, 1, 1], .null), (.ireturn, 134, [], .null), (.aload_n 0, 135, [], .null), (.getfield 32, 136, [10, 3], .null), (.invokevirtual 317, 139, [1, 110, 1, 1], .null), (.ldc 229, 142, [], .int (-1000000)), (.if_icmp .ne 8, 144, [57], .null), (.ldc 229, 147, [], .int (-1000000)), (.goto 17, 149, [63], .null), (.aload_n 0, 152, [], .null), (.getfield 32, 153, [10, 3], .null), (.aload_n 0, 156, [], .null), (.getfield 32, 157, [10, 3], .null), (.invokevirtual 317, 160, [1, 110, 1, 1], .null), (.invokevirtual 320, 163, [1, 111, 2, 1], .null), (.ireturn, 166, [], .null)]]
def m_96 : MR := (96, k_96, prog_1_method_21_code, ⟨"WreckCourt", "court", "(II)I"⟩, 4, (some .int), 10)
/-- WreckCourt$Bench.heardOn(I)I -/
def k_97 : List (List Ent) := [[(.iconst 0, 0, [], .int (0)), (.istore_n 2, 1, [], .null), (.iconst 0, 2, [], .int (0)), (.istore_n 3, 3, [], .null), (.iload_n 3, 4, [], .null), (.aload_n 0, 5, [], .null), (.getfield 17, 6, [1, 1], .null), (.if_icmp .ge 28, 9, [23], .null), (.aload_n 0, 12, [], .null), (.getfield 11, 13, [1, 0], .null), (.iload_n 3, 16, [], .null), (.aaload, 17, [], .null), (.iload_n 1, 18, [], .null), (.invokevirtual 60, 19, [1, 98, 2, 3], .null), (.ifCond .eq 9, 22, [21], .null), (.iload_n 2, 25, [], .null)],
  [(.iconst 1, 26, [], .int (1)), (.iload_n 3, 27, [], .null), (.ishl, 28, [], .null), (.ior, 29, [], .null), (.istore_n 2, 30, [], .null), (.iinc 3 1, 31, [], .int (1)), (.goto (-30), 34, [4], .null), (.iload_n 2, 37, [], .null), (.ireturn, 38, [], .null)]]
def m_97 : MR := (97, k_97, prog_3_method_4_code, ⟨"WreckCourt$Bench", "heardOn", "(I)I"⟩, 4, (some .int), 1)
/-- WreckCourt$Fact.isHeard(I)Z -/
def k_98 : List (List Ent) := [[(.aload_n 0, 0, [], .null), (.getfield 37, 1, [3, 2], .null), (.iload_n 1, 4, [], .null), (.if_icmp .gt 22, 5, [13], .null), (.aload_n 0, 8, [], .null), (.invokevirtual 40, 9, [1, 89, 1, 3], .null), (.ifCond .eq 11, 12, [11], .null), (.iload_n 1, 15, [], .null), (.aload_n 0, 16, [], .null), (.getfield 28, 17, [3, 8], .null), (.if_icmp .ge 7, 20, [13], .null), (.iconst 1, 23, [], .int (1)), (.goto 4, 24, [14], .null), (.iconst 0, 27, [], .int (0)), (.ireturn, 28, [], .null)]]
def m_98 : MR := (98, k_98, prog_5_method_6_code, ⟨"WreckCourt$Fact", "isHeard", "(I)Z"⟩, 2, (some .boolean), 3)
/-- WreckCourt$Bench.judge(I)V -/
def k_99 : List (List Ent) := [[(.iload_n 1, 0, [], .null), (.aload_n 0, 1, [], .null), (.getfield 30, 2, [1, 5], .null), (.if_icmp .ne 4, 5, [5], .null), (.return_, 8, [], .null), (.aload_n 0, 9, [], .null), (.iload_n 1, 10, [], .null), (.putfield 30, 11, [1, 5], .null), (.aload_n 0, 14, [], .null), (.iconst 0, 15, [], .int (0)), (.putfield 21, 16, [1, 2], .null), (.aload_n 0, 19, [], .null), (.getfield 49, 20, [1, 11], .null), (.iconst 0, 23, [], .int (0)), (.invokestatic 74, 24, [0, 5, 2, 99], .null), (.aload_n 0, 27, [], .null)],
  [(.invokevirtual 80, 28, [1, 100, 1, 1], .null), (.aload_n 0, 31, [], .null), (.getfield 40, 32, [1, 8], .null), (.iconst 0, 35, [], .int (0)), (.iaload, 36, [], .null), (.ineg, 37, [], .null), (.istore_n 2, 38, [], .null), (.iload_n 2, 39, [], .null), (.aload_n 0, 40, [], .null), (.getfield 40, 41, [1, 8], .null), (.iconst 0, 44, [], .int (0)), (.iaload, 45, [], .null), (.if_icmp .gt 78, 46, [71], .null), (.aload_n 0, 49, [], .null), (.getfield 40, 50, [1, 8], .null), (.iconst 1, 53, [], .int (1))],
  [(.iaload, 54, [], .null), (.ineg, 55, [], .null), (.istore_n 3, 56, [], .null), (.iload_n 3, 57, [], .null), (.aload_n 0, 58, [], .null), (.getfield 40, 59, [1, 8], .null), (.iconst 1, 62, [], .int (1)), (.iaload, 63, [], .null), (.if_icmp .gt 54, 64, [69], .null), (.aload_n 0, 67, [], .null), (.getfield 40, 68, [1, 8], .null), (.iconst 2, 71, [], .int (2)), (.iaload, 72, [], .null), (.ineg, 73, [], .null), (.istore 4, 74, [], .null), (.iload 4, 76, [], .null)],
  [(.aload_n 0, 78, [], .null), (.getfield 40, 79, [1, 8], .null), (.iconst 2, 82, [], .int (2)), (.iaload, 83, [], .null), (.if_icmp .gt 28, 84, [67], .null), (.aload_n 0, 87, [], .null), (.iload_n 2, 88, [], .null), (.iload_n 3, 89, [], .null), (.iload 4, 90, [], .null), (.invokevirtual 83, 92, [1, 92, 4, 1], .null), (.aload_n 0, 95, [], .null), (.invokevirtual 87, 96, [1, 102, 1, 1], .null), (.aload_n 0, 99, [], .null), (.iload_n 1, 100, [], .null), (.iconst 0, 101, [], .int (0)), (.iconst 0, 102, [], .int (0))],
  [(.invokevirtual 90, 103, [1, 103, 4, 1], .null), (.iinc 4 1, 106, [], .int (1)), (.goto (-33), 109, [47], .null), (.iinc 3 1, 112, [], .int (1)), (.goto (-58), 115, [35], .null), (.iinc 2 1, 118, [], .int (1)), (.goto (-82), 121, [23], .null), (.aload_n 0, 124, [], .null), (.invokevirtual 93, 125, [1, 106, 1, 1], .null), (.return_, 128, [], .null)]]
def m_99 : MR := (99, k_99, prog_3_method_7_code, ⟨"WreckCourt$Bench", "judge", "(I)V"⟩, 5, none, 1)
/-- WreckCourt$Bench.findWrongClocks()V -/
def k_100 : List (List Ent) := [[(.aload_n 0, 0, [], .null), (.getfield 40, 1, [1, 8], .null), (.iconst 0, 4, [], .int (0)), (.invokestatic 74, 5, [0, 5, 2, 99], .null), (.iconst 0, 8, [], .int (0)), (.istore_n 1, 9, [], .null), (.iload_n 1, 10, [], .null), (.aload_n 0, 11, [], .null), (.getfield 17, 12, [1, 1], .null), (.if_icmp .ge 44, 15, [31], .null), (.aload_n 0, 18, [], .null), (.iload_n 1, 19, [], .null), (.invokevirtual 136, 20, [1, 101, 2, 1], .null), (.ifCond .eq 30, 23, [29], .null), (.aload_n 0, 26, [], .null), (.getfield 11, 27, [1, 0], .null)],
  [(.iload_n 1, 30, [], .null), (.aaload, 31, [], .null), (.invokevirtual 127, 32, [1, 88, 1, 3], .null), (.ifCond .eq 18, 35, [29], .null), (.aload_n 0, 38, [], .null), (.getfield 40, 39, [1, 8], .null), (.aload_n 0, 42, [], .null), (.getfield 11, 43, [1, 0], .null), (.iload_n 1, 46, [], .null), (.aaload, 47, [], .null), (.getfield 133, 48, [3, 1], .null), (.iconst 3, 51, [], .int (3)), (.iastore, 52, [], .null), (.iinc 1 1, 53, [], .int (1)), (.goto (-46), 56, [6], .null), (.return_, 59, [], .null)]]
def m_100 : MR := (100, k_100, prog_3_method_15_code, ⟨"WreckCourt$Bench", "findWrongClocks", "()V"⟩, 2, none, 1)
/-- WreckCourt$Bench.isJudged(I)Z -/
def k_101 : List (List Ent) := [[(.aload_n 0, 0, [], .null), (.getfield 30, 1, [1, 5], .null), (.iload_n 1, 4, [], .null), (.ishr, 5, [], .null), (.iconst 1, 6, [], .int (1)), (.iand, 7, [], .null), (.iconst 1, 8, [], .int (1)), (.if_icmp .ne 7, 9, [10], .null), (.iconst 1, 12, [], .int (1)), (.goto 4, 13, [11], .null), (.iconst 0, 16, [], .int (0)), (.ireturn, 17, [], .null)]]
def m_101 : MR := (101, k_101, prog_3_method_14_code, ⟨"WreckCourt$Bench", "isJudged", "(I)Z"⟩, 2, (some .boolean), 1)
/-- WreckCourt$Bench.findQuarrels()V -/
def k_102 : List (List Ent) := [[(.aload_n 0, 0, [], .null), (.getfield 46, 1, [1, 10], .null), (.iconst 0, 4, [], .int (0)), (.invokestatic 74, 5, [0, 5, 2, 99], .null), (.iconst 0, 8, [], .int (0)), (.istore_n 1, 9, [], .null), (.iload_n 1, 10, [], .null), (.aload_n 0, 11, [], .null), (.getfield 17, 12, [1, 1], .null), (.if_icmp .ge 64, 15, [45], .null), (.iload_n 1, 18, [], .null), (.iconst 1, 19, [], .int (1)), (.iadd, 20, [], .null), (.istore_n 2, 21, [], .null), (.iload_n 2, 22, [], .null), (.aload_n 0, 23, [], .null)],
  [(.getfield 17, 24, [1, 1], .null), (.if_icmp .ge 46, 27, [43], .null), (.aload_n 0, 30, [], .null), (.iload_n 1, 31, [], .null), (.invokevirtual 136, 32, [1, 101, 2, 1], .null), (.ifCond .eq 38, 35, [43], .null), (.aload_n 0, 38, [], .null), (.iload_n 2, 39, [], .null), (.invokevirtual 136, 40, [1, 101, 2, 1], .null), (.ifCond .eq 24, 43, [41], .null), (.aload_n 0, 46, [], .null), (.iload_n 1, 47, [], .null), (.iload_n 2, 48, [], .null), (.invokevirtual 139, 49, [1, 93, 3, 1], .null), (.ifCond .eq 15, 52, [41], .null), (.aload_n 0, 55, [], .null)],
  [(.getfield 46, 56, [1, 10], .null), (.iload_n 1, 59, [], .null), (.dup2, 60, [], .null), (.iaload, 61, [], .null), (.iconst 1, 62, [], .int (1)), (.iload_n 2, 63, [], .null), (.ishl, 64, [], .null), (.ior, 65, [], .null), (.iastore, 66, [], .null), (.iinc 2 1, 67, [], .int (1)), (.goto (-48), 70, [14], .null), (.iinc 1 1, 73, [], .int (1)), (.goto (-66), 76, [6], .null), (.return_, 79, [], .null)]]
def m_102 : MR := (102, k_102, prog_3_method_16_code, ⟨"WreckCourt$Bench", "findQuarrels", "()V"⟩, 3, none, 1)
/-- WreckCourt$Bench.gather(III)V -/
def k_103 : List (List Ent) := [[(.iload_n 3, 0, [], .null), (.bipush 12, 1, [], .int (12)), (.if_icmp .gt 19, 3, [11], .null), (.iload_n 1, 6, [], .null), (.invokestatic 143, 7, [0, 104, 1, 99], .null), (.iload_n 2, 10, [], .null), (.invokestatic 143, 11, [0, 104, 1, 99], .null), (.iadd, 14, [], .null), (.aload_n 0, 15, [], .null), (.getfield 21, 16, [1, 2], .null), (.if_icmp .ge 4, 19, [12], .null), (.return_, 22, [], .null), (.iload_n 1, 23, [], .null), (.ifCond .ne 29, 24, [33], .null), (.aload_n 0, 27, [], .null), (.iload_n 2, 28, [], .null)],
  [(.invokestatic 143, 29, [0, 104, 1, 99], .null), (.putfield 21, 32, [1, 2], .null), (.aload_n 0, 35, [], .null), (.getfield 49, 36, [1, 11], .null), (.iload_n 2, 39, [], .null), (.iconst 5, 40, [], .int (5)), (.ishr, 41, [], .null), (.dup2, 42, [], .null), (.iaload, 43, [], .null), (.iconst 1, 44, [], .int (1)), (.iload_n 2, 45, [], .null), (.bipush 31, 46, [], .int (31)), (.iand, 48, [], .null), (.ishl, 49, [], .null), (.ior, 50, [], .null), (.iastore, 51, [], .null)],
  [(.return_, 52, [], .null), (.iload_n 1, 53, [], .null), (.invokestatic 148, 54, [0, 105, 1, 99], .null), (.istore 4, 57, [], .null), (.iload_n 1, 59, [], .null), (.iconst 1, 60, [], .int (1)), (.iload 4, 61, [], .null), (.ishl, 63, [], .null), (.iconst (-1), 64, [], .int (-1)), (.ixor, 65, [], .null), (.iand, 66, [], .null), (.istore 5, 67, [], .null), (.iload 5, 69, [], .null), (.aload_n 0, 71, [], .null), (.getfield 46, 72, [1, 10], .null), (.iload 4, 75, [], .null)],
  [(.iaload, 77, [], .null), (.iand, 78, [], .null), (.istore 6, 79, [], .null), (.aload_n 0, 81, [], .null), (.iload 5, 82, [], .null), (.iload 6, 84, [], .null), (.iconst (-1), 86, [], .int (-1)), (.ixor, 87, [], .null), (.iand, 88, [], .null), (.iload_n 2, 89, [], .null), (.iconst 1, 90, [], .int (1)), (.iload 4, 91, [], .null), (.ishl, 93, [], .null), (.ior, 94, [], .null), (.iload_n 3, 95, [], .null), (.iconst 1, 96, [], .int (1))],
  [(.iadd, 97, [], .null), (.invokevirtual 90, 98, [1, 103, 4, 1], .null), (.iload 6, 101, [], .null), (.ifCond .eq 13, 103, [75], .null), (.aload_n 0, 106, [], .null), (.iload 5, 107, [], .null), (.iload_n 2, 109, [], .null), (.iload_n 3, 110, [], .null), (.iconst 1, 111, [], .int (1)), (.iadd, 112, [], .null), (.invokevirtual 90, 113, [1, 103, 4, 1], .null), (.return_, 116, [], .null)]]
def m_103 : MR := (103, k_103, prog_3_method_17_code, ⟨"WreckCourt$Bench", "gather", "(III)V"⟩, 7, none, 1)
/-- java/lang/Integer.bitCount(I)I -/
def k_104 : List (List Ent) := [[(.iload_n 0, 0, [], .null), (.iload_n 0, 1, [], .null), (.iconst 1, 2, [], .int (1)), (.iushr, 3, [], .null), (.ldc_w 265, 4, [], .int (1431655765)), (.iand, 7, [], .null), (.isub, 8, [], .null), (.istore_n 0, 9, [], .null), (.iload_n 0, 10, [], .null), (.ldc_w 266, 11, [], .int (858993459)), (.iand, 14, [], .null), (.iload_n 0, 15, [], .null), (.iconst 2, 16, [], .int (2)), (.iushr, 17, [], .null), (.ldc_w 266, 18, [], .int (858993459)), (.iand, 21, [], .null)],
  [(.iadd, 22, [], .null), (.istore_n 0, 23, [], .null), (.iload_n 0, 24, [], .null), (.iload_n 0, 25, [], .null), (.iconst 4, 26, [], .int (4)), (.iushr, 27, [], .null), (.iadd, 28, [], .null), (.ldc_w 267, 29, [], .int (252645135)), (.iand, 32, [], .null), (.istore_n 0, 33, [], .null), (.iload_n 0, 34, [], .null), (.iload_n 0, 35, [], .null), (.bipush 8, 36, [], .int (8)), (.iushr, 38, [], .null), (.iadd, 39, [], .null), (.istore_n 0, 40, [], .null)],
  [(.iload_n 0, 41, [], .null), (.iload_n 0, 42, [], .null), (.bipush 16, 43, [], .int (16)), (.iushr, 45, [], .null), (.iadd, 46, [], .null), (.istore_n 0, 47, [], .null), (.iload_n 0, 48, [], .null), (.bipush 63, 49, [], .int (63)), (.iand, 51, [], .null), (.ireturn, 52, [], .null)]]
def m_104 : MR := (104, k_104, prog_14_method_49_code, ⟨"java/lang/Integer", "bitCount", "(I)I"⟩, 1, (some .int), 15)
/-- java/lang/Integer.numberOfTrailingZeros(I)I -/
def k_105 : List (List Ent) := [[(.iload_n 0, 0, [], .null), (.iconst (-1), 1, [], .int (-1)), (.ixor, 2, [], .null), (.iload_n 0, 3, [], .null), (.iconst 1, 4, [], .int (1)), (.isub, 5, [], .null), (.iand, 6, [], .null), (.istore_n 0, 7, [], .null), (.iload_n 0, 8, [], .null), (.ifCond .gt 8, 9, [14], .null), (.iload_n 0, 12, [], .null), (.bipush 32, 13, [], .int (32)), (.iand, 15, [], .null), (.ireturn, 16, [], .null), (.iconst 1, 17, [], .int (1)), (.istore_n 1, 18, [], .null)],
  [(.iload_n 0, 19, [], .null), (.ldc_w 264, 20, [], .int (65536)), (.if_icmp .le 11, 23, [24], .null), (.iinc 1 16, 26, [], .int (16)), (.iload_n 0, 29, [], .null), (.bipush 16, 30, [], .int (16)), (.iushr, 32, [], .null), (.istore_n 0, 33, [], .null), (.iload_n 0, 34, [], .null), (.sipush 256, 35, [], .int (256)), (.if_icmp .le 11, 38, [32], .null), (.iinc 1 8, 41, [], .int (8)), (.iload_n 0, 44, [], .null), (.bipush 8, 45, [], .int (8)), (.iushr, 47, [], .null), (.istore_n 0, 48, [], .null)],
  [(.iload_n 0, 49, [], .null), (.bipush 16, 50, [], .int (16)), (.if_icmp .le 10, 52, [40], .null), (.iinc 1 4, 55, [], .int (4)), (.iload_n 0, 58, [], .null), (.iconst 4, 59, [], .int (4)), (.iushr, 60, [], .null), (.istore_n 0, 61, [], .null), (.iload_n 0, 62, [], .null), (.iconst 4, 63, [], .int (4)), (.if_icmp .le 10, 64, [48], .null), (.iinc 1 2, 67, [], .int (2)), (.iload_n 0, 70, [], .null), (.iconst 2, 71, [], .int (2)), (.iushr, 72, [], .null), (.istore_n 0, 73, [], .null)],
  [(.iload_n 1, 74, [], .null), (.iload_n 0, 75, [], .null), (.iconst 1, 76, [], .int (1)), (.iushr, 77, [], .null), (.iadd, 78, [], .null), (.ireturn, 79, [], .null)]]
def m_105 : MR := (105, k_105, prog_14_method_48_code, ⟨"java/lang/Integer", "numberOfTrailingZeros", "(I)I"⟩, 2, (some .int), 15)
/-- WreckCourt$Bench.tally()V -/
def k_106 : List (List Ent) := [[(.aload_n 0, 0, [], .null), (.iconst 0, 1, [], .int (0)), (.putfield 24, 2, [1, 3], .null), (.aload_n 0, 5, [], .null), (.iconst 0, 6, [], .int (0)), (.putfield 27, 7, [1, 4], .null), (.aload_n 0, 10, [], .null), (.getfield 33, 11, [1, 6], .null), (.iconst 0, 14, [], .int (0)), (.invokestatic 74, 15, [0, 5, 2, 99], .null), (.iconst 0, 18, [], .int (0)), (.istore_n 1, 19, [], .null), (.iload_n 1, 20, [], .null), (.sipush 4096, 21, [], .int (4096)), (.if_icmp .ge 73, 24, [54], .null), (.aload_n 0, 27, [], .null)],
  [(.getfield 49, 28, [1, 11], .null), (.iload_n 1, 31, [], .null), (.iconst 5, 32, [], .int (5)), (.ishr, 33, [], .null), (.iaload, 34, [], .null), (.iload_n 1, 35, [], .null), (.bipush 31, 36, [], .int (31)), (.iand, 38, [], .null), (.ishr, 39, [], .null), (.iconst 1, 40, [], .int (1)), (.iand, 41, [], .null), (.iconst 1, 42, [], .int (1)), (.if_icmp .ne 48, 43, [52], .null), (.iload_n 1, 46, [], .null), (.invokestatic 143, 47, [0, 104, 1, 99], .null), (.aload_n 0, 50, [], .null)],
  [(.getfield 21, 51, [1, 2], .null), (.if_icmp .ne 37, 54, [52], .null), (.aload_n 0, 57, [], .null), (.aload_n 0, 58, [], .null), (.getfield 24, 59, [1, 3], .null), (.ifCond .ne 7, 62, [40], .null), (.iload_n 1, 65, [], .null), (.goto 7, 66, [42], .null), (.aload_n 0, 69, [], .null), (.getfield 27, 70, [1, 4], .null), (.putfield 27, 73, [1, 4], .null), (.aload_n 0, 76, [], .null), (.dup, 77, [], .null), (.getfield 24, 78, [1, 3], .null), (.iconst 1, 81, [], .int (1)), (.iadd, 82, [], .null)],
  [(.putfield 24, 83, [1, 3], .null), (.aload_n 0, 86, [], .null), (.iload_n 1, 87, [], .null), (.invokevirtual 151, 88, [1, 107, 2, 1], .null), (.iinc 1 1, 91, [], .int (1)), (.goto (-74), 94, [12], .null), (.return_, 97, [], .null)]]
def m_106 : MR := (106, k_106, prog_3_method_18_code, ⟨"WreckCourt$Bench", "tally", "()V"⟩, 2, none, 1)
/-- WreckCourt$Bench.tallyFacts(I)V -/
def k_107 : List (List Ent) := [[(.iconst 0, 0, [], .int (0)), (.istore_n 2, 1, [], .null), (.iload_n 2, 2, [], .null), (.bipush 12, 3, [], .int (12)), (.if_icmp .ge 23, 5, [19], .null), (.aload_n 0, 8, [], .null), (.getfield 33, 9, [1, 6], .null), (.iload_n 2, 12, [], .null), (.dup2, 13, [], .null), (.iaload, 14, [], .null), (.iload_n 1, 15, [], .null), (.iload_n 2, 16, [], .null), (.ishr, 17, [], .null), (.iconst 1, 18, [], .int (1)), (.iand, 19, [], .null), (.iadd, 20, [], .null)],
  [(.iastore, 21, [], .null), (.iinc 2 1, 22, [], .int (1)), (.goto (-23), 25, [2], .null), (.return_, 28, [], .null)]]
def m_107 : MR := (107, k_107, prog_3_method_19_code, ⟨"WreckCourt$Bench", "tallyFacts", "(I)V"⟩, 3, none, 1)
/-- WreckCourt$Bench.howMany(I)I -/
def k_108 : List (List Ent) := [[(.iconst 0, 0, [], .int (0)), (.istore_n 2, 1, [], .null), (.iconst 0, 2, [], .int (0)), (.istore_n 3, 3, [], .null), (.iload_n 3, 4, [], .null), (.aload_n 0, 5, [], .null), (.getfield 17, 6, [1, 1], .null), (.if_icmp .ge 21, 9, [16], .null), (.aload_n 0, 12, [], .null), (.iload_n 3, 13, [], .null), (.invokevirtual 96, 14, [1, 109, 2, 1], .null), (.iload_n 1, 17, [], .null), (.if_icmp .ne 6, 18, [14], .null), (.iinc 2 1, 21, [], .int (1)), (.iinc 3 1, 24, [], .int (1)), (.goto (-23), 27, [4], .null)],
  [(.iload_n 2, 30, [], .null), (.ireturn, 31, [], .null)]]
def m_108 : MR := (108, k_108, prog_3_method_9_code, ⟨"WreckCourt$Bench", "howMany", "(I)I"⟩, 4, (some .int), 1)
/-- WreckCourt$Bench.sureness(I)I -/
def k_109 : List (List Ent) := [[(.aload_n 0, 0, [], .null), (.getfield 33, 1, [1, 6], .null), (.iload_n 1, 4, [], .null), (.iaload, 5, [], .null), (.aload_n 0, 6, [], .null), (.getfield 24, 7, [1, 3], .null), (.if_icmp .ne 5, 10, [9], .null), (.iconst 2, 13, [], .int (2)), (.ireturn, 14, [], .null), (.aload_n 0, 15, [], .null), (.getfield 33, 16, [1, 6], .null), (.iload_n 1, 19, [], .null), (.iaload, 20, [], .null), (.ifCond .le 7, 21, [16], .null), (.iconst 1, 24, [], .int (1)), (.goto 4, 25, [17], .null)],
  [(.iconst 0, 28, [], .int (0)), (.ireturn, 29, [], .null)]]
def m_109 : MR := (109, k_109, prog_3_method_8_code, ⟨"WreckCourt$Bench", "sureness", "(I)I"⟩, 2, (some .int), 1)
/-- WreckCourt$Bench.look()I -/
def k_110 : List (List Ent) := [[(.ldc 99, 0, [], .int (-1000000)), (.istore_n 1, 2, [], .null), (.iconst 0, 3, [], .int (0)), (.istore_n 2, 4, [], .null), (.iload_n 2, 5, [], .null), (.aload_n 0, 6, [], .null), (.getfield 17, 7, [1, 1], .null), (.if_icmp .ge 39, 10, [27], .null), (.aload_n 0, 13, [], .null), (.iload_n 2, 14, [], .null), (.invokevirtual 96, 15, [1, 109, 2, 1], .null), (.iconst 1, 18, [], .int (1)), (.if_icmp .ne 24, 19, [25], .null), (.iload_n 1, 22, [], .null), (.ldc 99, 23, [], .int (-1000000)), (.if_icmp .eq 16, 25, [23], .null)],
  [(.aload_n 0, 28, [], .null), (.iload_n 2, 29, [], .null), (.invokevirtual 100, 30, [1, 111, 2, 1], .null), (.aload_n 0, 33, [], .null), (.iload_n 1, 34, [], .null), (.invokevirtual 100, 35, [1, 111, 2, 1], .null), (.if_icmp .ge 5, 38, [25], .null), (.iload_n 2, 41, [], .null), (.istore_n 1, 42, [], .null), (.iinc 2 1, 43, [], .int (1)), (.goto (-41), 46, [4], .null), (.iload_n 1, 49, [], .null), (.ireturn, 50, [], .null)]]
def m_110 : MR := (110, k_110, prog_3_method_10_code, ⟨"WreckCourt$Bench", "look", "()I"⟩, 3, (some .int), 1)
/-- WreckCourt$Bench.leftBy(I)I -/
def k_111 : List (List Ent) := [[(.aload_n 0, 0, [], .null), (.getfield 33, 1, [1, 6], .null), (.iload_n 1, 4, [], .null), (.iaload, 5, [], .null), (.aload_n 0, 6, [], .null), (.getfield 24, 7, [1, 3], .null), (.aload_n 0, 10, [], .null), (.getfield 33, 11, [1, 6], .null), (.iload_n 1, 14, [], .null), (.iaload, 15, [], .null), (.isub, 16, [], .null), (.invokestatic 103, 17, [10, 112, 2], .null), (.ireturn, 20, [], .null)]]
def m_111 : MR := (111, k_111, prog_3_method_11_code, ⟨"WreckCourt$Bench", "leftBy", "(I)I"⟩, 2, (some .int), 1)
/-- java/lang/Math.max(II)I -/
def k_112 : List (List Ent) := [[(.iload_n 0, 0, [], .null), (.iload_n 1, 1, [], .null), (.if_icmp .lt 7, 2, [5], .null), (.iload_n 0, 5, [], .null), (.goto 4, 6, [6], .null), (.iload_n 1, 9, [], .null), (.ireturn, 10, [], .null)]]
def m_112 : MR := (112, k_112, prog_15_method_65_code, ⟨"java/lang/Math", "max", "(II)I"⟩, 2, (some .int), 14)
/-- WreckCourt.sure(II)I -/
def k_113 : List (List Ent) := [[(.aload_n 0, 0, [], .null), (.iload_n 1, 1, [], .null), (.invokevirtual 265, 2, [1, 87, 2, 10], .null), (.ifCond .eq 10, 5, [7], .null), (.iload_n 2, 8, [], .null), (.invokestatic 246, 9, [0, 80, 1, 10], .null), (.ifCond .ne 6, 12, [9], .null), (.ldc 89, 15, [], .int (-1000001)), (.ireturn, 17, [], .null), (.aload_n 0, 18, [], .null), (.getfield 32, 19, [10, 3], .null), (.getfield 268, 22, [1, 0], .null), (.iload_n 1, 25, [], .null), (.aaload, 26, [], .null), (.iload_n 2, 27, [], .null), (.invokevirtual 323, 28, [1, 98, 2, 3], .null)],
  [(.ifCond .ne 6, 31, [19], .null), (.ldc 229, 34, [], .int (-1000000)), (.ireturn, 36, [], .null), (.aload_n 0, 37, [], .null), (.getfield 32, 38, [10, 3], .null), (.aload_n 0, 41, [], .null), (.getfield 32, 42, [10, 3], .null), (.iload_n 2, 45, [], .null), (.invokevirtual 294, 46, [1, 97, 2, 1], .null), (.invokevirtual 297, 49, [1, 99, 2, 1], .null), (.aload_n 0, 52, [], .null), (.getfield 32, 53, [10, 3], .null), (.iload_n 1, 56, [], .null), (.invokevirtual 326, 57, [1, 109, 2, 1], .null), (.ireturn, 60, [], .null)]]
def m_113 : MR := (113, k_113, prog_1_method_22_code, ⟨"WreckCourt", "sure", "(II)I"⟩, 3, (some .int), 10)
/-- WreckCourt.feed(JI)I -/
def k_114 : List (List Ent) := [[(.iload_n 3, 0, [], .null), (.iconst 1, 1, [], .int (1)), (.bipush 8, 2, [], .int (8)), (.invokestatic 85, 4, [0, 13, 3, 10], .null), (.ifCond .ne 6, 7, [7], .null), (.ldc 89, 10, [], .int (-1000001)), (.ireturn, 12, [], .null), (.aload_n 0, 13, [], .null), (.getfield 55, 14, [10, 6], .null), (.getfield 329, 17, [4, 0], .null), (.iload_n 3, 20, [], .null), (.iadd, 21, [], .null), (.sipush 400, 22, [], .int (400)), (.if_icmp .le 6, 25, [16], .null), (.ldc 134, 28, [], .int (-1000003)), (.ireturn, 30, [], .null)],
  [(.aload_n 0, 31, [], .null), (.getfield 55, 32, [10, 6], .null), (.lload_n 1, 35, [], .null), (.iload_n 3, 36, [], .null), (.invokevirtual 332, 37, [1, 115, 3, 4], .null), (.ireturn, 40, [], .null)]]
def m_114 : MR := (114, k_114, prog_1_method_23_code, ⟨"WreckCourt", "feed", "(JI)I"⟩, 4, (some .int), 10)
/-- WreckCourt$Reader.append(JI)I -/
def k_115 : List (List Ent) := [[(.iload_n 3, 0, [], .null), (.iconst 1, 1, [], .int (1)), (.isub, 2, [], .null), (.istore 4, 3, [], .null), (.iload 4, 5, [], .null), (.ifCond .lt 37, 7, [26], .null), (.aload_n 0, 10, [], .null), (.getfield 18, 11, [4, 2], .null), (.aload_n 0, 14, [], .null), (.getfield 9, 15, [4, 0], .null), (.lload_n 1, 18, [], .null), (.bipush 8, 19, [], .int (8)), (.iload 4, 21, [], .null), (.imul, 23, [], .null), (.lshr, 24, [], .null), (.l2i, 25, [], .null)],
  [(.i2b, 26, [], .null), (.bastore, 27, [], .null), (.aload_n 0, 28, [], .null), (.dup, 29, [], .null), (.getfield 9, 30, [4, 0], .null), (.iconst 1, 33, [], .int (1)), (.iadd, 34, [], .null), (.putfield 9, 35, [4, 0], .null), (.iinc 4 (-1), 38, [], .int (-1)), (.goto (-36), 41, [4], .null), (.aload_n 0, 44, [], .null), (.getfield 9, 45, [4, 0], .null), (.ireturn, 48, [], .null)]]
def m_115 : MR := (115, k_115, prog_6_method_2_code, ⟨"WreckCourt$Reader", "append", "(JI)I"⟩, 5, (some .int), 4)
/-- WreckCourt.rules()I -/
def k_116 : List (List Ent) := [[(.aload_n 0, 0, [], .null), (.getfield 55, 1, [10, 6], .null), (.aload_n 0, 4, [], .null), (.getfield 73, 5, [10, 10], .null), (.invokevirtual 336, 8, [1, 117, 2, 4], .null), (.istore_n 1, 11, [], .null), (.iload_n 1, 12, [], .null), (.ifCond .lt 21, 13, [18], .null), (.aload_n 0, 16, [], .null), (.getfield 69, 17, [10, 9], .null), (.astore_n 2, 20, [], .null), (.aload_n 0, 21, [], .null), (.aload_n 0, 22, [], .null), (.getfield 73, 23, [10, 10], .null), (.putfield 69, 26, [10, 9], .null), (.aload_n 0, 29, [], .null)],
  [(.aload_n 2, 30, [], .null), (.putfield 73, 31, [10, 10], .null), (.iload_n 1, 34, [], .null), (.ireturn, 35, [], .null)]]
def m_116 : MR := (116, k_116, prog_1_method_24_code, ⟨"WreckCourt", "rules", "()I"⟩, 3, (some .int), 10)
/-- WreckCourt$Reader.readTape(LWreckCourt$Book;)I -/
def k_117 : List (List Ent) := [[(.aload_n 1, 0, [], .null), (.iconst 0, 1, [], .int (0)), (.putfield 31, 2, [2, 0], .null), (.aload_n 0, 5, [], .null), (.iconst 0, 6, [], .int (0)), (.putfield 28, 7, [4, 5], .null), (.aload_n 0, 10, [], .null), (.invokevirtual 36, 11, [1, 118, 1, 4], .null), (.iconst 1, 14, [], .int (1)), (.istore_n 2, 15, [], .null), (.iconst 0, 16, [], .int (0)), (.istore_n 3, 17, [], .null), (.iload_n 3, 18, [], .null), (.bipush 10, 19, [], .int (10)), (.if_icmp .gt 26, 21, [26], .null), (.iload_n 2, 24, [], .null)],
  [(.ifCond .eq 22, 25, [26], .null), (.aload_n 0, 28, [], .null), (.getfield 22, 29, [4, 3], .null), (.ifCond .eq 15, 32, [26], .null), (.aload_n 0, 35, [], .null), (.aload_n 1, 36, [], .null), (.invokevirtual 39, 37, [1, 124, 2, 4], .null), (.istore_n 2, 40, [], .null), (.iinc 3 1, 41, [], .int (1)), (.goto (-26), 44, [12], .null), (.aload_n 0, 47, [], .null), (.iconst 0, 48, [], .int (0)), (.putfield 9, 49, [4, 0], .null), (.iload_n 2, 52, [], .null), (.ifCond .eq 10, 53, [34], .null), (.aload_n 1, 56, [], .null)],
  [(.getfield 31, 57, [2, 0], .null), (.goto 10, 60, [38], .null), (.ldc 43, 63, [], .int (-1000100)), (.aload_n 0, 65, [], .null), (.getfield 25, 66, [4, 4], .null), (.isub, 69, [], .null), (.ireturn, 70, [], .null)]]
def m_117 : MR := (117, k_117, prog_6_method_3_code, ⟨"WreckCourt$Reader", "readTape", "(LWreckCourt$Book;)I"⟩, 4, (some .int), 4)
/-- WreckCourt$Reader.next()V -/
def k_118 : List (List Ent) := [[(.aload_n 0, 0, [], .null), (.aload_n 0, 1, [], .null), (.getfield 28, 2, [4, 5], .null), (.putfield 25, 5, [4, 4], .null), (.aload_n 0, 8, [], .null), (.getfield 25, 9, [4, 4], .null), (.aload_n 0, 12, [], .null), (.getfield 9, 13, [4, 0], .null), (.if_icmp .ge 31, 16, [23], .null), (.aload_n 0, 19, [], .null), (.getfield 18, 20, [4, 2], .null), (.aload_n 0, 23, [], .null), (.getfield 25, 24, [4, 4], .null), (.baload, 27, [], .null), (.invokestatic 123, 28, [0, 119, 1, 4], .null), (.ifCond .eq 16, 31, [23], .null)],
  [(.aload_n 0, 34, [], .null), (.dup, 35, [], .null), (.getfield 25, 36, [4, 4], .null), (.iconst 1, 39, [], .int (1)), (.iadd, 40, [], .null), (.putfield 25, 41, [4, 4], .null), (.goto (-36), 44, [4], .null), (.aload_n 0, 47, [], .null), (.aload_n 0, 48, [], .null), (.getfield 25, 49, [4, 4], .null), (.putfield 28, 52, [4, 5], .null), (.aload_n 0, 55, [], .null), (.getfield 25, 56, [4, 4], .null), (.aload_n 0, 59, [], .null), (.getfield 9, 60, [4, 0], .null), (.if_icmp .ne 11, 63, [36], .null)],
  [(.aload_n 0, 66, [], .null), (.iconst 0, 67, [], .int (0)), (.putfield 22, 68, [4, 3], .null), (.goto 62, 71, [65], .null), (.aload_n 0, 74, [], .null), (.getfield 18, 75, [4, 2], .null), (.aload_n 0, 78, [], .null), (.getfield 25, 79, [4, 4], .null), (.baload, 82, [], .null), (.invokestatic 126, 83, [0, 120, 1, 4], .null), (.ifCond .eq 10, 86, [46], .null), (.aload_n 0, 89, [], .null), (.invokevirtual 129, 90, [1, 121, 1, 4], .null), (.goto 40, 93, [65], .null), (.aload_n 0, 96, [], .null), (.getfield 18, 97, [4, 2], .null)],
  [(.aload_n 0, 100, [], .null), (.getfield 25, 101, [4, 4], .null), (.baload, 104, [], .null), (.invokestatic 132, 105, [0, 122, 1, 4], .null), (.ifCond .eq 10, 108, [56], .null), (.aload_n 0, 111, [], .null), (.invokevirtual 135, 112, [1, 123, 1, 4], .null), (.goto 18, 115, [65], .null), (.aload_n 0, 118, [], .null), (.iconst 2, 119, [], .int (2)), (.putfield 22, 120, [4, 3], .null), (.aload_n 0, 123, [], .null), (.dup, 124, [], .null), (.getfield 28, 125, [4, 5], .null), (.iconst 1, 128, [], .int (1)), (.iadd, 129, [], .null)],
  [(.putfield 28, 130, [4, 5], .null), (.return_, 133, [], .null)]]
def m_118 : MR := (118, k_118, prog_6_method_13_code, ⟨"WreckCourt$Reader", "next", "()V"⟩, 1, none, 4)
/-- WreckCourt$Reader.isGap(I)Z -/
def k_119 : List (List Ent) := [[(.iload_n 0, 0, [], .null), (.bipush 32, 1, [], .int (32)), (.if_icmp .eq 9, 3, [6], .null), (.iload_n 0, 6, [], .null), (.bipush 10, 7, [], .int (10)), (.if_icmp .ne 7, 9, [8], .null), (.iconst 1, 12, [], .int (1)), (.goto 4, 13, [9], .null), (.iconst 0, 16, [], .int (0)), (.ireturn, 17, [], .null)]]
def m_119 : MR := (119, k_119, prog_6_method_16_code, ⟨"WreckCourt$Reader", "isGap", "(I)Z"⟩, 1, (some .boolean), 4)
/-- WreckCourt$Reader.isLetter(I)Z -/
def k_120 : List (List Ent) := [[(.iload_n 0, 0, [], .null), (.bipush 97, 1, [], .int (97)), (.if_icmp .lt 13, 3, [8], .null), (.iload_n 0, 6, [], .null), (.bipush 122, 7, [], .int (122)), (.if_icmp .gt 7, 9, [8], .null), (.iconst 1, 12, [], .int (1)), (.goto 4, 13, [9], .null), (.iconst 0, 16, [], .int (0)), (.ireturn, 17, [], .null)]]
def m_120 : MR := (120, k_120, prog_6_method_17_code, ⟨"WreckCourt$Reader", "isLetter", "(I)Z"⟩, 1, (some .boolean), 4)
/-- WreckCourt$Reader.takeLetters()V -/
def k_121 : List (List Ent) := [[(.aload_n 0, 0, [], .null), (.getfield 28, 1, [4, 5], .null), (.aload_n 0, 4, [], .null), (.getfield 9, 5, [4, 0], .null), (.if_icmp .ge 31, 8, [19], .null), (.aload_n 0, 11, [], .null), (.getfield 18, 12, [4, 2], .null), (.aload_n 0, 15, [], .null), (.getfield 28, 16, [4, 5], .null), (.baload, 19, [], .null), (.invokestatic 126, 20, [0, 120, 1, 4], .null), (.ifCond .eq 16, 23, [19], .null), (.aload_n 0, 26, [], .null), (.dup, 27, [], .null), (.getfield 28, 28, [4, 5], .null), (.iconst 1, 31, [], .int (1))],
  [(.iadd, 32, [], .null), (.putfield 28, 33, [4, 5], .null), (.goto (-36), 36, [0], .null), (.aload_n 0, 39, [], .null), (.iconst 2, 40, [], .int (2)), (.putfield 22, 41, [4, 3], .null), (.return_, 44, [], .null)]]
def m_121 : MR := (121, k_121, prog_6_method_14_code, ⟨"WreckCourt$Reader", "takeLetters", "()V"⟩, 1, none, 4)
/-- WreckCourt$Reader.isFigure(I)Z -/
def k_122 : List (List Ent) := [[(.iload_n 0, 0, [], .null), (.bipush 48, 1, [], .int (48)), (.if_icmp .lt 13, 3, [8], .null), (.iload_n 0, 6, [], .null), (.bipush 57, 7, [], .int (57)), (.if_icmp .gt 7, 9, [8], .null), (.iconst 1, 12, [], .int (1)), (.goto 4, 13, [9], .null), (.iconst 0, 16, [], .int (0)), (.ireturn, 17, [], .null)]]
def m_122 : MR := (122, k_122, prog_6_method_18_code, ⟨"WreckCourt$Reader", "isFigure", "(I)Z"⟩, 1, (some .boolean), 4)
/-- WreckCourt$Reader.takeFigures()V -/
def k_123 : List (List Ent) := [[(.aload_n 0, 0, [], .null), (.getfield 28, 1, [4, 5], .null), (.aload_n 0, 4, [], .null), (.getfield 9, 5, [4, 0], .null), (.if_icmp .ge 31, 8, [19], .null), (.aload_n 0, 11, [], .null), (.getfield 18, 12, [4, 2], .null), (.aload_n 0, 15, [], .null), (.getfield 28, 16, [4, 5], .null), (.baload, 19, [], .null), (.invokestatic 132, 20, [0, 122, 1, 4], .null), (.ifCond .eq 16, 23, [19], .null), (.aload_n 0, 26, [], .null), (.dup, 27, [], .null), (.getfield 28, 28, [4, 5], .null), (.iconst 1, 31, [], .int (1))],
  [(.iadd, 32, [], .null), (.putfield 28, 33, [4, 5], .null), (.goto (-36), 36, [0], .null), (.aload_n 0, 39, [], .null), (.aload_n 0, 40, [], .null), (.getfield 28, 41, [4, 5], .null), (.aload_n 0, 44, [], .null), (.getfield 25, 45, [4, 4], .null), (.isub, 48, [], .null), (.iconst 4, 49, [], .int (4)), (.if_icmp .gt 7, 50, [29], .null), (.iconst 1, 53, [], .int (1)), (.goto 4, 54, [30], .null), (.iconst 2, 57, [], .int (2)), (.putfield 22, 58, [4, 3], .null), (.return_, 61, [], .null)]]
def m_123 : MR := (123, k_123, prog_6_method_15_code, ⟨"WreckCourt$Reader", "takeFigures", "()V"⟩, 1, none, 4)
/-- WreckCourt$Reader.readRule(LWreckCourt$Book;)Z -/
def k_124 : List (List Ent) := [[(.aload_n 0, 0, [], .null), (.ldc 44, 1, [], .ref 100000), (.invokevirtual 46, 3, [1, 125, 2, 4], .null), (.ifCond .ne 9, 6, [8], .null), (.aload_n 0, 9, [], .null), (.iconst 1, 10, [], .int (1)), (.invokevirtual 50, 11, [1, 137, 2, 4], .null), (.ireturn, 14, [], .null), (.aload_n 1, 15, [], .null), (.getfield 31, 16, [2, 0], .null), (.bipush 10, 19, [], .int (10)), (.if_icmp .ne 9, 21, [16], .null), (.aload_n 0, 24, [], .null), (.iconst 3, 25, [], .int (3)), (.invokevirtual 50, 26, [1, 137, 2, 4], .null), (.ireturn, 29, [], .null)],
  [(.aload_n 1, 30, [], .null), (.invokevirtual 54, 31, [1, 138, 1, 2], .null), (.aload_n 0, 34, [], .null), (.invokevirtual 36, 35, [1, 118, 1, 4], .null), (.aload_n 0, 38, [], .null), (.aload_n 1, 39, [], .null), (.invokevirtual 57, 40, [1, 139, 2, 4], .null), (.istore_n 2, 43, [], .null), (.iconst 1, 44, [], .int (1)), (.istore_n 3, 45, [], .null), (.iload_n 3, 46, [], .null), (.iconst 3, 47, [], .int (3)), (.if_icmp .gt 43, 48, [50], .null), (.iload_n 2, 51, [], .null), (.ifCond .eq 39, 52, [50], .null), (.aload_n 0, 55, [], .null)],
  [(.ldc 60, 56, [], .ref 100009), (.invokevirtual 46, 58, [1, 125, 2, 4], .null), (.ifCond .eq 30, 61, [50], .null), (.iload_n 3, 64, [], .null), (.iconst 3, 65, [], .int (3)), (.if_icmp .ne 9, 66, [42], .null), (.aload_n 0, 69, [], .null), (.iconst 2, 70, [], .int (2)), (.invokevirtual 50, 71, [1, 137, 2, 4], .null), (.ireturn, 74, [], .null), (.aload_n 0, 75, [], .null), (.invokevirtual 36, 76, [1, 118, 1, 4], .null), (.aload_n 0, 79, [], .null), (.aload_n 1, 80, [], .null), (.invokevirtual 57, 81, [1, 139, 2, 4], .null), (.istore_n 2, 84, [], .null)],
  [(.iinc 3 1, 85, [], .int (1)), (.goto (-42), 88, [26], .null), (.iload_n 2, 91, [], .null), (.ifCond .eq 15, 92, [58], .null), (.aload_n 0, 95, [], .null), (.aload_n 1, 96, [], .null), (.invokevirtual 62, 97, [1, 144, 2, 4], .null), (.ifCond .eq 7, 100, [58], .null), (.iconst 1, 103, [], .int (1)), (.goto 4, 104, [59], .null), (.iconst 0, 107, [], .int (0)), (.ireturn, 108, [], .null)]]
def m_124 : MR := (124, k_124, prog_6_method_4_code, ⟨"WreckCourt$Reader", "readRule", "(LWreckCourt$Book;)Z"⟩, 4, (some .boolean), 4)
/-- WreckCourt$Reader.reads(Ljava/lang/String;)Z -/
def k_125 : List (List Ent) := [[(.aload_n 0, 0, [], .null), (.getfield 28, 1, [4, 5], .null), (.aload_n 0, 4, [], .null), (.getfield 25, 5, [4, 4], .null), (.isub, 8, [], .null), (.aload_n 1, 9, [], .null), (.invokevirtual 115, 10, [7, 0, 1], .null), (.if_icmp .eq 5, 13, [10], .null), (.iconst 0, 16, [], .int (0)), (.ireturn, 17, [], .null), (.iconst 1, 18, [], .int (1)), (.istore_n 2, 19, [], .null), (.aload_n 0, 20, [], .null), (.getfield 25, 21, [4, 4], .null), (.istore_n 3, 24, [], .null), (.iload_n 3, 25, [], .null)],
  [(.aload_n 0, 26, [], .null), (.getfield 28, 27, [4, 5], .null), (.if_icmp .ge 38, 30, [38], .null), (.iload_n 2, 33, [], .null), (.ifCond .eq 26, 34, [34], .null), (.aload_n 0, 37, [], .null), (.getfield 18, 38, [4, 2], .null), (.iload_n 3, 41, [], .null), (.baload, 42, [], .null), (.aload_n 1, 43, [], .null), (.iload_n 3, 44, [], .null), (.aload_n 0, 45, [], .null), (.getfield 25, 46, [4, 4], .null), (.isub, 49, [], .null), (.invokevirtual 119, 50, [8, 0, 2], .null), (.if_icmp .ne 7, 53, [34], .null)],
  [(.iconst 1, 56, [], .int (1)), (.goto 4, 57, [35], .null), (.iconst 0, 60, [], .int (0)), (.istore_n 2, 61, [], .null), (.iinc 3 1, 62, [], .int (1)), (.goto (-40), 65, [15], .null), (.iload_n 2, 68, [], .null), (.ireturn, 69, [], .null)]]
def m_125 : MR := (125, k_125, prog_6_method_12_code, ⟨"WreckCourt$Reader", "reads", "(Ljava/lang/String;)Z"⟩, 4, (some .boolean), 4)
/-- java/lang/String.length()I -/
def k_126 : List (List Ent) := []
def m_126 : MR := (126, k_126, prog_16_method_54_code, ⟨"java/lang/String", "length", "()I"⟩, 1, (some .int), 16)
/-- java/lang/String.coder()B -/
def k_127 : List (List Ent) := []
def m_127 : MR := (127, k_127, prog_16_method_152_code, ⟨"java/lang/String", "coder", "()B"⟩, 1, (some .byte), 16)
/-- java/lang/String.charAt(I)C -/
def k_128 : List (List Ent) := []
def m_128 : MR := (128, k_128, prog_16_method_56_code, ⟨"java/lang/String", "charAt", "(I)C"⟩, 2, (some .char), 16)
/-- java/lang/String.isLatin1()Z -/
def k_129 : List (List Ent) := []
def m_129 : MR := (129, k_129, prog_16_method_154_code, ⟨"java/lang/String", "isLatin1", "()Z"⟩, 1, (some .boolean), 16)
/-- java/lang/StringLatin1.charAt([BI)C -/
def k_130 : List (List Ent) := []
def m_130 : MR := (130, k_130, prog_17_method_2_code, ⟨"java/lang/StringLatin1", "charAt", "([BI)C"⟩, 2, (some .char), 17)
/-- java/lang/String.checkIndex(II)V -/
def k_131 : List (List Ent) := []
def m_131 : MR := (131, k_131, prog_16_method_155_code, ⟨"java/lang/String", "checkIndex", "(II)V"⟩, 2, none, 16)
/-- jdk/internal/util/Preconditions.checkIndex(IILjava/util/function/BiFunction;)I -/
def k_132 : List (List Ent) := []
def m_132 : MR := (132, k_132, prog_21_method_11_code, ⟨"jdk/internal/util/Preconditions", "checkIndex", "(IILjava/util/function/BiFunction;)I"⟩, 3, (some .int), 18)
/-- java/lang/StringUTF16.charAt([BI)C -/
def k_133 : List (List Ent) := []
def m_133 : MR := (133, k_133, prog_18_method_83_code, ⟨"java/lang/StringUTF16", "charAt", "([BI)C"⟩, 2, (some .char), 19)
/-- java/lang/StringUTF16.checkIndex(I[B)V -/
def k_134 : List (List Ent) := []
def m_134 : MR := (134, k_134, prog_18_method_91_code, ⟨"java/lang/StringUTF16", "checkIndex", "(I[B)V"⟩, 2, none, 19)
/-- java/lang/StringUTF16.length([B)I -/
def k_135 : List (List Ent) := []
def m_135 : MR := (135, k_135, prog_18_method_6_code, ⟨"java/lang/StringUTF16", "length", "([B)I"⟩, 1, (some .int), 19)
/-- java/lang/StringUTF16.getChar([BI)C -/
def k_136 : List (List Ent) := []
def m_136 : MR := (136, k_136, prog_18_method_5_code, ⟨"java/lang/StringUTF16", "getChar", "([BI)C"⟩, 2, (some .char), 19)
/-- WreckCourt$Reader.faulty(I)Z -/
def k_137 : List (List Ent) := [[(.aload_n 0, 0, [], .null), (.iload_n 1, 1, [], .null), (.putfield 15, 2, [4, 1], .null), (.iconst 0, 5, [], .int (0)), (.ireturn, 6, [], .null)]]
def m_137 : MR := (137, k_137, prog_6_method_7_code, ⟨"WreckCourt$Reader", "faulty", "(I)Z"⟩, 2, (some .boolean), 4)
/-- WreckCourt$Book.begin()V -/
def k_138 : List (List Ent) := [[(.aload_n 0, 0, [], .null), (.getfield 19, 1, [2, 2], .null), (.aload_n 0, 4, [], .null), (.getfield 9, 5, [2, 0], .null), (.iconst 0, 8, [], .int (0)), (.iastore, 9, [], .null), (.return_, 10, [], .null)]]
def m_138 : MR := (138, k_138, prog_4_method_2_code, ⟨"WreckCourt$Book", "begin", "()V"⟩, 1, none, 2)
/-- WreckCourt$Reader.readTest(LWreckCourt$Book;)Z -/
def k_139 : List (List Ent) := [[(.aload_n 0, 0, [], .null), (.invokevirtual 65, 1, [1, 140, 1, 4], .null), (.istore_n 2, 4, [], .null), (.iload_n 2, 5, [], .null), (.ldc 69, 6, [], .int (-1000000)), (.if_icmp .ne 9, 8, [10], .null), (.aload_n 0, 11, [], .null), (.iconst 1, 12, [], .int (1)), (.invokevirtual 50, 13, [1, 137, 2, 4], .null), (.ireturn, 16, [], .null), (.aload_n 0, 17, [], .null), (.invokevirtual 36, 18, [1, 118, 1, 4], .null), (.aload_n 0, 21, [], .null), (.invokevirtual 70, 22, [1, 141, 1, 4], .null), (.istore_n 3, 25, [], .null), (.iload_n 3, 26, [], .null)],
  [(.ldc 69, 27, [], .int (-1000000)), (.if_icmp .ne 9, 29, [22], .null), (.aload_n 0, 32, [], .null), (.iconst 1, 33, [], .int (1)), (.invokevirtual 50, 34, [1, 137, 2, 4], .null), (.ireturn, 37, [], .null), (.aload_n 0, 38, [], .null), (.invokevirtual 36, 39, [1, 118, 1, 4], .null), (.aload_n 0, 42, [], .null), (.getfield 22, 43, [4, 3], .null), (.iconst 1, 46, [], .int (1)), (.if_icmp .eq 9, 47, [32], .null), (.aload_n 0, 50, [], .null), (.iconst 1, 51, [], .int (1)), (.invokevirtual 50, 52, [1, 137, 2, 4], .null), (.ireturn, 55, [], .null)],
  [(.aload_n 1, 56, [], .null), (.iload_n 2, 57, [], .null), (.iload_n 3, 58, [], .null), (.aload_n 0, 59, [], .null), (.invokevirtual 73, 60, [1, 142, 1, 4], .null), (.invokevirtual 76, 63, [1, 143, 4, 2], .null), (.aload_n 0, 66, [], .null), (.invokevirtual 36, 67, [1, 118, 1, 4], .null), (.iconst 1, 70, [], .int (1)), (.ireturn, 71, [], .null)]]
def m_139 : MR := (139, k_139, prog_6_method_5_code, ⟨"WreckCourt$Reader", "readTest", "(LWreckCourt$Book;)Z"⟩, 4, (some .boolean), 4)
/-- WreckCourt$Reader.subjectRead()I -/
def k_140 : List (List Ent) := [[(.aload_n 0, 0, [], .null), (.ldc 91, 1, [], .ref 100001), (.invokevirtual 46, 3, [1, 125, 2, 4], .null), (.ifCond .eq 5, 6, [6], .null), (.iconst 0, 9, [], .int (0)), (.ireturn, 10, [], .null), (.aload_n 0, 11, [], .null), (.ldc 93, 12, [], .ref 100002), (.invokevirtual 46, 14, [1, 125, 2, 4], .null), (.ifCond .eq 5, 17, [12], .null), (.iconst 1, 20, [], .int (1)), (.ireturn, 21, [], .null), (.aload_n 0, 22, [], .null), (.ldc 95, 23, [], .ref 100003), (.invokevirtual 46, 25, [1, 125, 2, 4], .null), (.ifCond .eq 5, 28, [18], .null)],
  [(.iconst 2, 31, [], .int (2)), (.ireturn, 32, [], .null), (.aload_n 0, 33, [], .null), (.ldc 97, 34, [], .ref 100004), (.invokevirtual 46, 36, [1, 125, 2, 4], .null), (.ifCond .eq 5, 39, [24], .null), (.iconst 3, 42, [], .int (3)), (.ireturn, 43, [], .null), (.aload_n 0, 44, [], .null), (.ldc 99, 45, [], .ref 100005), (.invokevirtual 46, 47, [1, 125, 2, 4], .null), (.ifCond .eq 7, 50, [30], .null), (.iconst 4, 53, [], .int (4)), (.goto 5, 54, [31], .null), (.ldc 69, 57, [], .int (-1000000)), (.ireturn, 59, [], .null)]]
def m_140 : MR := (140, k_140, prog_6_method_8_code, ⟨"WreckCourt$Reader", "subjectRead", "()I"⟩, 1, (some .int), 4)
/-- WreckCourt$Reader.signRead()I -/
def k_141 : List (List Ent) := [[(.aload_n 0, 0, [], .null), (.ldc 101, 1, [], .ref 100006), (.invokevirtual 46, 3, [1, 125, 2, 4], .null), (.ifCond .eq 5, 6, [6], .null), (.iconst 0, 9, [], .int (0)), (.ireturn, 10, [], .null), (.aload_n 0, 11, [], .null), (.ldc 103, 12, [], .ref 100007), (.invokevirtual 46, 14, [1, 125, 2, 4], .null), (.ifCond .eq 5, 17, [12], .null), (.iconst 1, 20, [], .int (1)), (.ireturn, 21, [], .null), (.aload_n 0, 22, [], .null), (.ldc 105, 23, [], .ref 100008), (.invokevirtual 46, 25, [1, 125, 2, 4], .null), (.ifCond .eq 7, 28, [18], .null)],
  [(.iconst 2, 31, [], .int (2)), (.goto 5, 32, [19], .null), (.ldc 69, 35, [], .int (-1000000)), (.ireturn, 37, [], .null)]]
def m_141 : MR := (141, k_141, prog_6_method_9_code, ⟨"WreckCourt$Reader", "signRead", "()I"⟩, 1, (some .int), 4)
/-- WreckCourt$Reader.numberRead()I -/
def k_142 : List (List Ent) := [[(.iconst 0, 0, [], .int (0)), (.istore_n 1, 1, [], .null), (.aload_n 0, 2, [], .null), (.getfield 25, 3, [4, 4], .null), (.istore_n 2, 6, [], .null), (.iload_n 2, 7, [], .null), (.aload_n 0, 8, [], .null), (.getfield 28, 9, [4, 5], .null), (.if_icmp .ge 24, 12, [22], .null), (.iload_n 1, 15, [], .null), (.bipush 10, 16, [], .int (10)), (.imul, 18, [], .null), (.aload_n 0, 19, [], .null), (.getfield 18, 20, [4, 2], .null), (.iload_n 2, 23, [], .null), (.baload, 24, [], .null)],
  [(.bipush 48, 25, [], .int (48)), (.isub, 27, [], .null), (.iadd, 28, [], .null), (.istore_n 1, 29, [], .null), (.iinc 2 1, 30, [], .int (1)), (.goto (-26), 33, [5], .null), (.iload_n 1, 36, [], .null), (.ireturn, 37, [], .null)]]
def m_142 : MR := (142, k_142, prog_6_method_11_code, ⟨"WreckCourt$Reader", "numberRead", "()I"⟩, 3, (some .int), 4)
/-- WreckCourt$Book.addTest(III)V -/
def k_143 : List (List Ent) := [[(.aload_n 0, 0, [], .null), (.getfield 9, 1, [2, 0], .null), (.iconst 3, 4, [], .int (3)), (.imul, 5, [], .null), (.aload_n 0, 6, [], .null), (.getfield 19, 7, [2, 2], .null), (.aload_n 0, 10, [], .null), (.getfield 9, 11, [2, 0], .null), (.iaload, 14, [], .null), (.iadd, 15, [], .null), (.istore 4, 16, [], .null), (.aload_n 0, 18, [], .null), (.getfield 22, 19, [2, 3], .null), (.iload 4, 22, [], .null), (.iload_n 1, 24, [], .null), (.iastore, 25, [], .null)],
  [(.aload_n 0, 26, [], .null), (.getfield 25, 27, [2, 4], .null), (.iload 4, 30, [], .null), (.iload_n 2, 32, [], .null), (.iastore, 33, [], .null), (.aload_n 0, 34, [], .null), (.getfield 28, 35, [2, 5], .null), (.iload 4, 38, [], .null), (.iload_n 3, 40, [], .null), (.iastore, 41, [], .null), (.aload_n 0, 42, [], .null), (.getfield 19, 43, [2, 2], .null), (.aload_n 0, 46, [], .null), (.getfield 9, 47, [2, 0], .null), (.dup2, 50, [], .null), (.iaload, 51, [], .null)],
  [(.iconst 1, 52, [], .int (1)), (.iadd, 53, [], .null), (.iastore, 54, [], .null), (.return_, 55, [], .null)]]
def m_143 : MR := (143, k_143, prog_4_method_3_code, ⟨"WreckCourt$Book", "addTest", "(III)V"⟩, 5, none, 2)
/-- WreckCourt$Reader.readMust(LWreckCourt$Book;)Z -/
def k_144 : List (List Ent) := [[(.aload_n 0, 0, [], .null), (.ldc 80, 1, [], .ref 100010), (.invokevirtual 46, 3, [1, 125, 2, 4], .null), (.ifCond .ne 9, 6, [8], .null), (.aload_n 0, 9, [], .null), (.iconst 1, 10, [], .int (1)), (.invokevirtual 50, 11, [1, 137, 2, 4], .null), (.ireturn, 14, [], .null), (.aload_n 0, 15, [], .null), (.invokevirtual 36, 16, [1, 118, 1, 4], .null), (.aload_n 0, 19, [], .null), (.invokevirtual 82, 20, [1, 145, 1, 4], .null), (.istore_n 2, 23, [], .null), (.iload_n 2, 24, [], .null), (.ldc 69, 25, [], .int (-1000000)), (.if_icmp .ne 9, 27, [20], .null)],
  [(.aload_n 0, 30, [], .null), (.iconst 1, 31, [], .int (1)), (.invokevirtual 50, 32, [1, 137, 2, 4], .null), (.ireturn, 35, [], .null), (.aload_n 0, 36, [], .null), (.invokevirtual 36, 37, [1, 118, 1, 4], .null), (.aload_n 0, 40, [], .null), (.ldc 85, 41, [], .ref 100015), (.invokevirtual 46, 43, [1, 125, 2, 4], .null), (.ifCond .ne 9, 46, [30], .null), (.aload_n 0, 49, [], .null), (.iconst 1, 50, [], .int (1)), (.invokevirtual 50, 51, [1, 137, 2, 4], .null), (.ireturn, 54, [], .null), (.aload_n 1, 55, [], .null), (.iload_n 2, 56, [], .null)],
  [(.invokevirtual 87, 57, [1, 146, 2, 2], .null), (.aload_n 0, 60, [], .null), (.invokevirtual 36, 61, [1, 118, 1, 4], .null), (.iconst 1, 64, [], .int (1)), (.ireturn, 65, [], .null)]]
def m_144 : MR := (144, k_144, prog_6_method_6_code, ⟨"WreckCourt$Reader", "readMust", "(LWreckCourt$Book;)Z"⟩, 3, (some .boolean), 4)
/-- WreckCourt$Reader.actRead()I -/
def k_145 : List (List Ent) := [[(.aload_n 0, 0, [], .null), (.ldc 107, 1, [], .ref 100011), (.invokevirtual 46, 3, [1, 125, 2, 4], .null), (.ifCond .eq 5, 6, [6], .null), (.iconst 0, 9, [], .int (0)), (.ireturn, 10, [], .null), (.aload_n 0, 11, [], .null), (.ldc 109, 12, [], .ref 100012), (.invokevirtual 46, 14, [1, 125, 2, 4], .null), (.ifCond .eq 5, 17, [12], .null), (.iconst 1, 20, [], .int (1)), (.ireturn, 21, [], .null), (.aload_n 0, 22, [], .null), (.ldc 111, 23, [], .ref 100013), (.invokevirtual 46, 25, [1, 125, 2, 4], .null), (.ifCond .eq 5, 28, [18], .null)],
  [(.iconst 2, 31, [], .int (2)), (.ireturn, 32, [], .null), (.aload_n 0, 33, [], .null), (.ldc 113, 34, [], .ref 100014), (.invokevirtual 46, 36, [1, 125, 2, 4], .null), (.ifCond .eq 7, 39, [24], .null), (.iconst 3, 42, [], .int (3)), (.goto 5, 43, [25], .null), (.ldc 69, 46, [], .int (-1000000)), (.ireturn, 48, [], .null)]]
def m_145 : MR := (145, k_145, prog_6_method_10_code, ⟨"WreckCourt$Reader", "actRead", "()I"⟩, 1, (some .int), 4)
/-- WreckCourt$Book.end(I)V -/
def k_146 : List (List Ent) := [[(.aload_n 0, 0, [], .null), (.getfield 15, 1, [2, 1], .null), (.aload_n 0, 4, [], .null), (.getfield 9, 5, [2, 0], .null), (.iload_n 1, 8, [], .null), (.iastore, 9, [], .null), (.aload_n 0, 10, [], .null), (.dup, 11, [], .null), (.getfield 9, 12, [2, 0], .null), (.iconst 1, 15, [], .int (1)), (.iadd, 16, [], .null), (.putfield 9, 17, [2, 0], .null), (.return_, 20, [], .null)]]
def m_146 : MR := (146, k_146, prog_4_method_4_code, ⟨"WreckCourt$Book", "end", "(I)V"⟩, 2, none, 2)
/-- WreckCourt.fault()I -/
def k_147 : List (List Ent) := [[(.aload_n 0, 0, [], .null), (.getfield 55, 1, [10, 6], .null), (.getfield 340, 4, [4, 1], .null), (.ireturn, 7, [], .null)]]
def m_147 : MR := (147, k_147, prog_1_method_25_code, ⟨"WreckCourt", "fault", "()I"⟩, 1, (some .int), 10)
/-- WreckCourt.done(IIII)I -/
def k_148 : List (List Ent) := [[(.aload_n 0, 0, [], .null), (.iload_n 1, 1, [], .null), (.invokevirtual 138, 2, [1, 26, 2, 10], .null), (.ifCond .eq 19, 5, [11], .null), (.iload_n 2, 8, [], .null), (.invokestatic 343, 9, [0, 149, 1, 10], .null), (.ifCond .eq 12, 12, [11], .null), (.iload_n 3, 15, [], .null), (.iload 4, 16, [], .null), (.invokestatic 165, 18, [0, 35, 2, 10], .null), (.ifCond .ne 6, 21, [13], .null), (.ldc 89, 24, [], .int (-1000001)), (.ireturn, 26, [], .null), (.aload_n 0, 27, [], .null), (.getfield 48, 28, [10, 5], .null), (.invokevirtual 171, 31, [1, 36, 1, 7], .null)],
  [(.ifCond .eq 6, 34, [19], .null), (.ldc 134, 37, [], .int (-1000003)), (.ireturn, 39, [], .null), (.aload_n 0, 40, [], .null), (.getfield 48, 41, [10, 5], .null), (.iload_n 1, 44, [], .null), (.iload_n 2, 45, [], .null), (.invokestatic 346, 46, [0, 150, 2, 10], .null), (.iload_n 3, 49, [], .null), (.iload 4, 50, [], .null), (.invokevirtual 172, 52, [1, 37, 4, 7], .null), (.ireturn, 55, [], .null)]]
def m_148 : MR := (148, k_148, prog_1_method_26_code, ⟨"WreckCourt", "done", "(IIII)I"⟩, 5, (some .int), 10)
/-- WreckCourt.isAct(I)Z -/
def k_149 : List (List Ent) := [[(.iload_n 0, 0, [], .null), (.iconst 0, 1, [], .int (0)), (.iconst 3, 2, [], .int (3)), (.invokestatic 85, 3, [0, 13, 3, 10], .null), (.ireturn, 6, [], .null)]]
def m_149 : MR := (149, k_149, prog_1_method_44_code, ⟨"WreckCourt", "isAct", "(I)Z"⟩, 1, (some .boolean), 10)
/-- WreckCourt.deed(II)I -/
def k_150 : List (List Ent) := [[(.iload_n 0, 0, [], .null), (.iconst 4, 1, [], .int (4)), (.imul, 2, [], .null), (.iload_n 1, 3, [], .null), (.iadd, 4, [], .null), (.ireturn, 5, [], .null)]]
def m_150 : MR := (150, k_150, prog_1_method_51_code, ⟨"WreckCourt", "deed", "(II)I"⟩, 2, (some .int), 10)
/-- WreckCourt.owes(III)I -/
def k_151 : List (List Ent) := [[(.aload_n 0, 0, [], .null), (.iload_n 1, 1, [], .null), (.invokevirtual 138, 2, [1, 26, 2, 10], .null), (.ifCond .eq 17, 5, [10], .null), (.iload_n 2, 8, [], .null), (.invokestatic 141, 9, [0, 27, 1, 10], .null), (.ifCond .eq 10, 12, [10], .null), (.iload_n 3, 15, [], .null), (.invokestatic 343, 16, [0, 149, 1, 10], .null), (.ifCond .ne 6, 19, [12], .null), (.ldc 89, 22, [], .int (-1000001)), (.ireturn, 24, [], .null), (.aload_n 0, 25, [], .null), (.iload_n 1, 26, [], .null), (.iload_n 2, 27, [], .null), (.invokevirtual 349, 28, [1, 152, 3, 10], .null)],
  [(.aload_n 0, 31, [], .null), (.getfield 69, 32, [10, 9], .null), (.iload_n 3, 35, [], .null), (.aload_n 0, 36, [], .null), (.getfield 59, 37, [10, 7], .null), (.invokevirtual 352, 40, [1, 153, 3, 2], .null), (.ireturn, 43, [], .null)]]
def m_151 : MR := (151, k_151, prog_1_method_27_code, ⟨"WreckCourt", "owes", "(III)I"⟩, 4, (some .int), 10)
/-- WreckCourt.lookOut(II)V -/
def k_152 : List (List Ent) := [[(.aload_n 0, 0, [], .null), (.getfield 59, 1, [10, 7], .null), (.iconst 0, 4, [], .int (0)), (.aload_n 0, 5, [], .null), (.getfield 18, 6, [10, 1], .null), (.iload_n 1, 9, [], .null), (.iload_n 2, 10, [], .null), (.invokevirtual 185, 11, [1, 45, 3, 5], .null), (.iastore, 14, [], .null), (.aload_n 0, 15, [], .null), (.getfield 59, 16, [10, 7], .null), (.iconst 1, 19, [], .int (1)), (.aload_n 0, 20, [], .null), (.getfield 18, 21, [10, 1], .null), (.iload_n 1, 24, [], .null), (.iload_n 2, 25, [], .null)],
  [(.invokevirtual 188, 26, [1, 46, 3, 5], .null), (.iastore, 29, [], .null), (.aload_n 0, 30, [], .null), (.getfield 59, 31, [10, 7], .null), (.iconst 2, 34, [], .int (2)), (.aload_n 0, 35, [], .null), (.getfield 18, 36, [10, 1], .null), (.getfield 168, 39, [5, 1], .null), (.iconst 0, 42, [], .int (0)), (.iload_n 2, 43, [], .null), (.invokevirtual 390, 44, [1, 48, 3, 7], .null), (.ifCond .eq 7, 47, [30], .null), (.iconst 1, 50, [], .int (1)), (.goto 4, 51, [31], .null), (.iconst 0, 54, [], .int (0)), (.iastore, 55, [], .null)],
  [(.aload_n 0, 56, [], .null), (.getfield 59, 57, [10, 7], .null), (.iconst 3, 60, [], .int (3)), (.aload_n 0, 61, [], .null), (.getfield 18, 62, [10, 1], .null), (.getfield 168, 65, [5, 1], .null), (.iconst 1, 68, [], .int (1)), (.iload_n 2, 69, [], .null), (.invokevirtual 390, 70, [1, 48, 3, 7], .null), (.ifCond .eq 7, 73, [44], .null), (.iconst 1, 76, [], .int (1)), (.goto 4, 77, [45], .null), (.iconst 0, 80, [], .int (0)), (.iastore, 81, [], .null), (.aload_n 0, 82, [], .null), (.getfield 59, 83, [10, 7], .null)],
  [(.iconst 4, 86, [], .int (4)), (.iload_n 1, 87, [], .null), (.ifCond .ne 14, 88, [56], .null), (.aload_n 0, 91, [], .null), (.getfield 25, 92, [10, 2], .null), (.iload_n 2, 95, [], .null), (.invokevirtual 230, 96, [1, 65, 2, 9], .null), (.goto 4, 99, [57], .null), (.iconst 0, 102, [], .int (0)), (.iastore, 103, [], .null), (.return_, 104, [], .null)]]
def m_152 : MR := (152, k_152, prog_1_method_52_code, ⟨"WreckCourt", "lookOut", "(II)V"⟩, 3, none, 10)
/-- WreckCourt$Book.firstOwed(I[I)I -/
def k_153 : List (List Ent) := [[(.iconst 0, 0, [], .int (0)), (.istore_n 3, 1, [], .null), (.iload_n 3, 2, [], .null), (.aload_n 0, 3, [], .null), (.getfield 9, 4, [2, 0], .null), (.if_icmp .ge 30, 7, [21], .null), (.aload_n 0, 10, [], .null), (.getfield 15, 11, [2, 1], .null), (.iload_n 3, 14, [], .null), (.iaload, 15, [], .null), (.iload_n 1, 16, [], .null), (.if_icmp .ne 14, 17, [19], .null), (.aload_n 0, 20, [], .null), (.iload_n 3, 21, [], .null), (.aload_n 2, 22, [], .null), (.invokevirtual 31, 23, [1, 154, 3, 2], .null)],
  [(.ifCond .eq 5, 26, [19], .null), (.iload_n 3, 29, [], .null), (.ireturn, 30, [], .null), (.iinc 3 1, 31, [], .int (1)), (.goto (-32), 34, [2], .null), (.ldc 35, 37, [], .int (-1000000)), (.ireturn, 39, [], .null)]]
def m_153 : MR := (153, k_153, prog_4_method_5_code, ⟨"WreckCourt$Book", "firstOwed", "(I[I)I"⟩, 4, (some .int), 2)
/-- WreckCourt$Book.allHold(I[I)Z -/
def k_154 : List (List Ent) := [[(.iconst 1, 0, [], .int (1)), (.istore_n 3, 1, [], .null), (.iconst 0, 2, [], .int (0)), (.istore 4, 3, [], .null), (.iload 4, 5, [], .null), (.aload_n 0, 7, [], .null), (.getfield 19, 8, [2, 2], .null), (.iload_n 1, 11, [], .null), (.iaload, 12, [], .null), (.if_icmp .ge 56, 13, [40], .null), (.iload_n 1, 16, [], .null), (.iconst 3, 17, [], .int (3)), (.imul, 18, [], .null), (.iload 4, 19, [], .null), (.iadd, 21, [], .null), (.istore 5, 22, [], .null)],
  [(.iload_n 3, 24, [], .null), (.ifCond .eq 36, 25, [36], .null), (.aload_n 2, 28, [], .null), (.aload_n 0, 29, [], .null), (.getfield 22, 30, [2, 3], .null), (.iload 5, 33, [], .null), (.iaload, 35, [], .null), (.iaload, 36, [], .null), (.aload_n 0, 37, [], .null), (.getfield 25, 38, [2, 4], .null), (.iload 5, 41, [], .null), (.iaload, 43, [], .null), (.aload_n 0, 44, [], .null), (.getfield 28, 45, [2, 5], .null), (.iload 5, 48, [], .null), (.iaload, 50, [], .null)],
  [(.invokestatic 36, 51, [0, 155, 3, 2], .null), (.ifCond .eq 7, 54, [36], .null), (.iconst 1, 57, [], .int (1)), (.goto 4, 58, [37], .null), (.iconst 0, 61, [], .int (0)), (.istore_n 3, 62, [], .null), (.iinc 4 1, 63, [], .int (1)), (.goto (-61), 66, [4], .null), (.iload_n 3, 69, [], .null), (.ireturn, 70, [], .null)]]
def m_154 : MR := (154, k_154, prog_4_method_6_code, ⟨"WreckCourt$Book", "allHold", "(I[I)Z"⟩, 6, (some .boolean), 2)
/-- WreckCourt$Book.isSo(III)Z -/
def k_155 : List (List Ent) := [[(.iload_n 1, 0, [], .null), (.ifCond .ne 14, 1, [9], .null), (.iload_n 0, 4, [], .null), (.iload_n 2, 5, [], .null), (.if_icmp .ge 7, 6, [7], .null), (.iconst 1, 9, [], .int (1)), (.goto 4, 10, [8], .null), (.iconst 0, 13, [], .int (0)), (.ireturn, 14, [], .null), (.iload_n 1, 15, [], .null), (.iconst 1, 16, [], .int (1)), (.if_icmp .ne 16, 17, [19], .null), (.iload_n 0, 20, [], .null), (.iload_n 2, 21, [], .null), (.if_icmp .le 7, 22, [17], .null), (.iconst 1, 25, [], .int (1))],
  [(.goto 17, 26, [25], .null), (.iconst 0, 29, [], .int (0)), (.goto 13, 30, [25], .null), (.iload_n 0, 33, [], .null), (.iload_n 2, 34, [], .null), (.if_icmp .ne 7, 35, [24], .null), (.iconst 1, 38, [], .int (1)), (.goto 4, 39, [25], .null), (.iconst 0, 42, [], .int (0)), (.ireturn, 43, [], .null)]]
def m_155 : MR := (155, k_155, prog_4_method_7_code, ⟨"WreckCourt$Book", "isSo", "(III)Z"⟩, 3, (some .boolean), 2)
/-- WreckCourt.blame(II)I -/
def k_156 : List (List Ent) := [[(.aload_n 0, 0, [], .null), (.iload_n 1, 1, [], .null), (.invokevirtual 138, 2, [1, 26, 2, 10], .null), (.ifCond .eq 12, 5, [9], .null), (.iload_n 2, 8, [], .null), (.iconst 0, 9, [], .int (0)), (.iconst 3, 10, [], .int (3)), (.invokestatic 85, 11, [0, 13, 3, 10], .null), (.ifCond .ne 6, 14, [11], .null), (.ldc 89, 17, [], .int (-1000001)), (.ireturn, 19, [], .null), (.aload_n 0, 20, [], .null), (.iload_n 1, 21, [], .null), (.invokevirtual 356, 22, [1, 157, 2, 10], .null), (.aload_n 0, 25, [], .null), (.getfield 63, 26, [10, 8], .null)],
  [(.iload_n 2, 29, [], .null), (.iaload, 30, [], .null), (.ireturn, 31, [], .null)]]
def m_156 : MR := (156, k_156, prog_1_method_28_code, ⟨"WreckCourt", "blame", "(II)I"⟩, 3, (some .int), 10)
/-- WreckCourt.reckon(I)V -/
def k_157 : List (List Ent) := [[(.aload_n 0, 0, [], .null), (.getfield 63, 1, [10, 8], .null), (.ldc 229, 4, [], .int (-1000000)), (.invokestatic 393, 6, [0, 5, 2, 99], .null), (.aload_n 0, 9, [], .null), (.getfield 63, 10, [10, 8], .null), (.iconst 0, 13, [], .int (0)), (.iconst 0, 14, [], .int (0)), (.iastore, 15, [], .null), (.iconst 0, 16, [], .int (0)), (.istore_n 2, 17, [], .null), (.iload_n 2, 18, [], .null), (.sipush 240, 19, [], .int (240)), (.if_icmp .ge 83, 22, [54], .null), (.aload_n 0, 25, [], .null), (.getfield 69, 26, [10, 9], .null)],
  [(.getfield 387, 29, [2, 0], .null), (.ifCond .le 73, 32, [54], .null), (.aload_n 0, 35, [], .null), (.iload_n 1, 36, [], .null), (.iload_n 2, 37, [], .null), (.invokevirtual 349, 38, [1, 152, 3, 10], .null), (.iconst 0, 41, [], .int (0)), (.istore_n 3, 42, [], .null), (.iload_n 3, 43, [], .null), (.iconst 4, 44, [], .int (4)), (.if_icmp .ge 54, 45, [52], .null), (.aload_n 0, 48, [], .null), (.getfield 69, 49, [10, 9], .null), (.iload_n 3, 52, [], .null), (.aload_n 0, 53, [], .null), (.getfield 59, 54, [10, 7], .null)],
  [(.invokevirtual 352, 57, [1, 153, 3, 2], .null), (.istore 4, 60, [], .null), (.iload 4, 62, [], .null), (.ldc 229, 64, [], .int (-1000000)), (.if_icmp .eq 27, 66, [50], .null), (.aload_n 0, 69, [], .null), (.getfield 48, 70, [10, 5], .null), (.iload_n 1, 73, [], .null), (.iload_n 3, 74, [], .null), (.invokestatic 346, 75, [0, 150, 2, 10], .null), (.iload_n 2, 78, [], .null), (.invokevirtual 390, 79, [1, 48, 3, 7], .null), (.ifCond .ne 11, 82, [50], .null), (.aload_n 0, 85, [], .null), (.iload_n 2, 86, [], .null), (.iload_n 3, 87, [], .null)],
  [(.iload 4, 88, [], .null), (.invokevirtual 399, 90, [1, 158, 4, 10], .null), (.iinc 3 1, 93, [], .int (1)), (.goto (-53), 96, [24], .null), (.iinc 2 1, 99, [], .int (1)), (.goto (-84), 102, [11], .null), (.return_, 105, [], .null)]]
def m_157 : MR := (157, k_157, prog_1_method_53_code, ⟨"WreckCourt", "reckon", "(I)V"⟩, 5, none, 10)
/-- WreckCourt.lay(III)V -/
def k_158 : List (List Ent) := [[(.aload_n 0, 0, [], .null), (.getfield 63, 1, [10, 8], .null), (.iconst 0, 4, [], .int (0)), (.iaload, 5, [], .null), (.ifCond .ne 24, 6, [20], .null), (.aload_n 0, 9, [], .null), (.getfield 63, 10, [10, 8], .null), (.iconst 1, 13, [], .int (1)), (.iload_n 1, 14, [], .null), (.iastore, 15, [], .null), (.aload_n 0, 16, [], .null), (.getfield 63, 17, [10, 8], .null), (.iconst 2, 20, [], .int (2)), (.iload_n 2, 21, [], .null), (.iastore, 22, [], .null), (.aload_n 0, 23, [], .null)],
  [(.getfield 63, 24, [10, 8], .null), (.iconst 3, 27, [], .int (3)), (.iload_n 3, 28, [], .null), (.iastore, 29, [], .null), (.aload_n 0, 30, [], .null), (.getfield 63, 31, [10, 8], .null), (.iconst 0, 34, [], .int (0)), (.dup2, 35, [], .null), (.iaload, 36, [], .null), (.iconst 1, 37, [], .int (1)), (.iadd, 38, [], .null), (.iastore, 39, [], .null), (.return_, 40, [], .null)]]
def m_158 : MR := (158, k_158, prog_1_method_54_code, ⟨"WreckCourt", "lay", "(III)V"⟩, 4, none, 10)
/-- WreckCourt.kind(I)I -/
def k_159 : List (List Ent) := [[(.aload_n 0, 0, [], .null), (.iload_n 1, 1, [], .null), (.invokevirtual 265, 2, [1, 87, 2, 10], .null), (.ifCond .eq 18, 5, [11], .null), (.aload_n 0, 8, [], .null), (.getfield 32, 9, [10, 3], .null), (.getfield 268, 12, [1, 0], .null), (.iload_n 1, 15, [], .null), (.aaload, 16, [], .null), (.invokevirtual 359, 17, [1, 160, 1, 3], .null), (.goto 5, 20, [12], .null), (.ldc 89, 23, [], .int (-1000001)), (.ireturn, 25, [], .null)]]
def m_159 : MR := (159, k_159, prog_1_method_29_code, ⟨"WreckCourt", "kind", "(I)I"⟩, 2, (some .int), 10)
/-- WreckCourt$Fact.kindTold()I -/
def k_160 : List (List Ent) := [[(.aload_n 0, 0, [], .null), (.invokevirtual 40, 1, [1, 89, 1, 3], .null), (.ifCond .eq 7, 4, [5], .null), (.iconst 4, 7, [], .int (4)), (.goto 7, 8, [7], .null), (.aload_n 0, 11, [], .null), (.getfield 31, 12, [3, 0], .null), (.ireturn, 15, [], .null)]]
def m_160 : MR := (160, k_160, prog_5_method_7_code, ⟨"WreckCourt$Fact", "kindTold", "()I"⟩, 1, (some .int), 3)
/-- WreckCourt.as(II)I -/
def k_161 : List (List Ent) := [[(.aload_n 0, 0, [], .null), (.iload_n 1, 1, [], .null), (.invokevirtual 265, 2, [1, 87, 2, 10], .null), (.ifCond .eq 12, 5, [9], .null), (.iload_n 2, 8, [], .null), (.iconst 0, 9, [], .int (0)), (.iconst 4, 10, [], .int (4)), (.invokestatic 85, 11, [0, 13, 3, 10], .null), (.ifCond .ne 6, 14, [11], .null), (.ldc 89, 17, [], .int (-1000001)), (.ireturn, 19, [], .null), (.aload_n 0, 20, [], .null), (.getfield 32, 21, [10, 3], .null), (.getfield 268, 24, [1, 0], .null), (.iload_n 1, 27, [], .null), (.aaload, 28, [], .null)],
  [(.astore_n 3, 29, [], .null), (.aload_n 3, 30, [], .null), (.iload_n 2, 31, [], .null), (.invokevirtual 362, 32, [1, 162, 2, 3], .null), (.ifCond .eq 14, 35, [26], .null), (.aload_n 0, 38, [], .null), (.aload_n 3, 39, [], .null), (.getfield 365, 40, [3, 3], .null), (.invokevirtual 98, 43, [1, 16, 2, 10], .null), (.goto 8, 46, [29], .null), (.aload_n 0, 49, [], .null), (.iconst 3, 50, [], .int (3)), (.invokevirtual 90, 51, [1, 14, 2, 10], .null), (.ireturn, 54, [], .null)]]
def m_161 : MR := (161, k_161, prog_1_method_30_code, ⟨"WreckCourt", "as", "(II)I"⟩, 4, (some .int), 10)
/-- WreckCourt$Fact.isOf(I)Z -/
def k_162 : List (List Ent) := [[(.aload_n 0, 0, [], .null), (.invokevirtual 44, 1, [1, 160, 1, 3], .null), (.istore_n 2, 4, [], .null), (.iload_n 1, 5, [], .null), (.ifCond .eq 23, 6, [17], .null), (.iload_n 1, 9, [], .null), (.iload_n 2, 10, [], .null), (.if_icmp .eq 18, 11, [17], .null), (.iload_n 1, 14, [], .null), (.iconst 1, 15, [], .int (1)), (.if_icmp .ne 17, 16, [19], .null), (.iload_n 2, 19, [], .null), (.iconst 2, 20, [], .int (2)), (.if_icmp .eq 8, 21, [17], .null), (.iload_n 2, 24, [], .null), (.iconst 4, 25, [], .int (4))],
  [(.if_icmp .ne 7, 26, [19], .null), (.iconst 1, 29, [], .int (1)), (.goto 4, 30, [20], .null), (.iconst 0, 33, [], .int (0)), (.ireturn, 34, [], .null)]]
def m_162 : MR := (162, k_162, prog_5_method_8_code, ⟨"WreckCourt$Fact", "isOf", "(I)Z"⟩, 3, (some .boolean), 3)
/-- WreckCourt.ask(II)I -/
def k_163 : List (List Ent) := [[(.aload_n 0, 0, [], .null), (.iload_n 1, 1, [], .null), (.invokevirtual 265, 2, [1, 87, 2, 10], .null), (.ifCond .eq 12, 5, [9], .null), (.iload_n 2, 8, [], .null), (.iconst 0, 9, [], .int (0)), (.iconst 1, 10, [], .int (1)), (.invokestatic 85, 11, [0, 13, 3, 10], .null), (.ifCond .ne 6, 14, [11], .null), (.ldc 89, 17, [], .int (-1000001)), (.ireturn, 19, [], .null), (.aload_n 0, 20, [], .null), (.getfield 39, 21, [10, 4], .null), (.iconst 0, 24, [], .int (0)), (.putfield 368, 25, [0, 1], .null), (.aload_n 0, 28, [], .null)],
  [(.getfield 32, 29, [10, 3], .null), (.getfield 268, 32, [1, 0], .null), (.iload_n 1, 35, [], .null), (.aaload, 36, [], .null), (.astore_n 3, 37, [], .null), (.iload_n 2, 38, [], .null), (.ifCond .ne 14, 39, [28], .null), (.aload_n 0, 42, [], .null), (.getfield 39, 43, [10, 4], .null), (.aload_n 3, 46, [], .null), (.invokevirtual 371, 47, [1, 164, 2, 0], .null), (.goto 11, 50, [32], .null), (.aload_n 0, 53, [], .null), (.getfield 39, 54, [10, 4], .null), (.aload_n 3, 57, [], .null), (.invokevirtual 374, 58, [1, 174, 2, 0], .null)],
  [(.ireturn, 61, [], .null)]]
def m_163 : MR := (163, k_163, prog_1_method_31_code, ⟨"WreckCourt", "ask", "(II)I"⟩, 4, (some .int), 10)
/-- WreckCourt$Asks.sizeOf(LWreckCourt$Fact;)I -/
def k_164 : List (List Ent) := [[(.aload_n 1, 0, [], .null), (.invokevirtual 19, 1, [1, 160, 1, 3], .null), (.tableswitch 56 1 4 #[32, 38, 44, 50], 4, [19, 3, 7, 11, 15], .null), (.aload_n 0, 36, [], .null), (.aload_n 1, 37, [], .null), (.invokevirtual 25, 38, [1, 165, 2, 0], .null), (.ireturn, 41, [], .null), (.aload_n 0, 42, [], .null), (.aload_n 1, 43, [], .null), (.invokevirtual 29, 44, [1, 168, 2, 0], .null), (.ireturn, 47, [], .null), (.aload_n 0, 48, [], .null), (.aload_n 1, 49, [], .null), (.invokevirtual 32, 50, [1, 169, 2, 0], .null), (.ireturn, 53, [], .null), (.aload_n 0, 54, [], .null)],
  [(.aload_n 1, 55, [], .null), (.invokevirtual 35, 56, [1, 170, 2, 0], .null), (.ireturn, 59, [], .null), (.aload_n 0, 60, [], .null), (.aload_n 1, 61, [], .null), (.invokevirtual 38, 62, [1, 167, 2, 0], .null), (.ireturn, 65, [], .null)]]
def m_164 : MR := (164, k_164, prog_2_method_2_code, ⟨"WreckCourt$Asks", "sizeOf", "(LWreckCourt$Fact;)I"⟩, 2, (some .int), 0)
/-- WreckCourt$Asks.wordSize(LWreckCourt$Fact;)I -/
def k_165 : List (List Ent) := [[(.aload_n 0, 0, [], .null), (.bipush 11, 1, [], .int (11)), (.invokevirtual 53, 3, [1, 166, 2, 0], .null), (.aload_n 0, 6, [], .null), (.aload_n 1, 7, [], .null), (.invokevirtual 38, 8, [1, 167, 2, 0], .null), (.aload_n 1, 11, [], .null), (.getfield 60, 12, [3, 3], .null), (.iadd, 15, [], .null), (.ireturn, 16, [], .null)]]
def m_165 : MR := (165, k_165, prog_2_method_6_code, ⟨"WreckCourt$Asks", "wordSize", "(LWreckCourt$Fact;)I"⟩, 2, (some .int), 0)
/-- WreckCourt$Asks.begin(I)V -/
def k_166 : List (List Ent) := [[(.aload_n 0, 0, [], .null), (.getfield 15, 1, [0, 1], .null), (.bipush 16, 4, [], .int (16)), (.if_icmp .ge 23, 6, [16], .null), (.aload_n 0, 9, [], .null), (.getfield 9, 10, [0, 0], .null), (.aload_n 0, 13, [], .null), (.getfield 15, 14, [0, 1], .null), (.iload_n 1, 17, [], .null), (.iastore, 18, [], .null), (.aload_n 0, 19, [], .null), (.dup, 20, [], .null), (.getfield 15, 21, [0, 1], .null), (.iconst 1, 24, [], .int (1)), (.iadd, 25, [], .null), (.putfield 15, 26, [0, 1], .null)],
  [(.return_, 29, [], .null)]]
def m_166 : MR := (166, k_166, prog_2_method_4_code, ⟨"WreckCourt$Asks", "begin", "(I)V"⟩, 2, none, 0)
/-- WreckCourt$Asks.lentSize(LWreckCourt$Fact;)I -/
def k_167 : List (List Ent) := [[(.aload_n 0, 0, [], .null), (.bipush 10, 1, [], .int (10)), (.invokevirtual 53, 3, [1, 166, 2, 0], .null), (.aload_n 1, 6, [], .null), (.getfield 57, 7, [3, 7], .null), (.ireturn, 10, [], .null)]]
def m_167 : MR := (167, k_167, prog_2_method_5_code, ⟨"WreckCourt$Asks", "lentSize", "(LWreckCourt$Fact;)I"⟩, 2, (some .int), 0)
/-- WreckCourt$Asks.seenSize(LWreckCourt$Fact;)I -/
def k_168 : List (List Ent) := [[(.aload_n 0, 0, [], .null), (.bipush 12, 1, [], .int (12)), (.invokevirtual 53, 3, [1, 166, 2, 0], .null), (.aload_n 0, 6, [], .null), (.aload_n 1, 7, [], .null), (.invokevirtual 25, 8, [1, 165, 2, 0], .null), (.iconst 2, 11, [], .int (2)), (.imul, 12, [], .null), (.ireturn, 13, [], .null)]]
def m_168 : MR := (168, k_168, prog_2_method_7_code, ⟨"WreckCourt$Asks", "seenSize", "(LWreckCourt$Fact;)I"⟩, 2, (some .int), 0)
/-- WreckCourt$Asks.paperSize(LWreckCourt$Fact;)I -/
def k_169 : List (List Ent) := [[(.aload_n 0, 0, [], .null), (.bipush 14, 1, [], .int (14)), (.invokevirtual 53, 3, [1, 166, 2, 0], .null), (.aload_n 0, 6, [], .null), (.aload_n 1, 7, [], .null), (.invokevirtual 38, 8, [1, 167, 2, 0], .null), (.iconst 2, 11, [], .int (2)), (.idiv, 12, [], .null), (.ireturn, 13, [], .null)]]
def m_169 : MR := (169, k_169, prog_2_method_9_code, ⟨"WreckCourt$Asks", "paperSize", "(LWreckCourt$Fact;)I"⟩, 2, (some .int), 0)
/-- WreckCourt$Asks.goneSize(LWreckCourt$Fact;)I -/
def k_170 : List (List Ent) := [[(.aload_n 0, 0, [], .null), (.bipush 13, 1, [], .int (13)), (.invokevirtual 53, 3, [1, 166, 2, 0], .null), (.aload_n 0, 6, [], .null), (.aload_n 1, 7, [], .null), (.invokevirtual 25, 8, [1, 165, 2, 0], .null), (.istore_n 2, 11, [], .null), (.iload_n 2, 12, [], .null), (.aload_n 0, 13, [], .null), (.aload_n 1, 14, [], .null), (.invokevirtual 47, 15, [1, 171, 2, 0], .null), (.isub, 18, [], .null), (.ireturn, 19, [], .null)]]
def m_170 : MR := (170, k_170, prog_2_method_8_code, ⟨"WreckCourt$Asks", "goneSize", "(LWreckCourt$Fact;)I"⟩, 3, (some .int), 0)
/-- WreckCourt$Asks.goneMark(LWreckCourt$Fact;)I -/
def k_171 : List (List Ent) := [[(.aload_n 0, 0, [], .null), (.bipush 22, 1, [], .int (22)), (.invokevirtual 53, 3, [1, 166, 2, 0], .null), (.aload_n 0, 6, [], .null), (.aload_n 1, 7, [], .null), (.invokevirtual 41, 8, [1, 172, 2, 0], .null), (.bipush 100, 11, [], .int (100)), (.iadd, 13, [], .null), (.ireturn, 14, [], .null)]]
def m_171 : MR := (171, k_171, prog_2_method_12_code, ⟨"WreckCourt$Asks", "goneMark", "(LWreckCourt$Fact;)I"⟩, 2, (some .int), 0)
/-- WreckCourt$Asks.wordMark(LWreckCourt$Fact;)I -/
def k_172 : List (List Ent) := [[(.aload_n 0, 0, [], .null), (.bipush 21, 1, [], .int (21)), (.invokevirtual 53, 3, [1, 166, 2, 0], .null), (.aload_n 0, 6, [], .null), (.aload_n 1, 7, [], .null), (.invokevirtual 50, 8, [1, 173, 2, 0], .null), (.aload_n 1, 11, [], .null), (.getfield 66, 12, [3, 1], .null), (.iadd, 15, [], .null), (.ireturn, 16, [], .null)]]
def m_172 : MR := (172, k_172, prog_2_method_11_code, ⟨"WreckCourt$Asks", "wordMark", "(LWreckCourt$Fact;)I"⟩, 2, (some .int), 0)
/-- WreckCourt$Asks.lentMark(LWreckCourt$Fact;)I -/
def k_173 : List (List Ent) := [[(.aload_n 0, 0, [], .null), (.bipush 20, 1, [], .int (20)), (.invokevirtual 53, 3, [1, 166, 2, 0], .null), (.aload_n 1, 6, [], .null), (.getfield 63, 7, [3, 4], .null), (.ireturn, 10, [], .null)]]
def m_173 : MR := (173, k_173, prog_2_method_10_code, ⟨"WreckCourt$Asks", "lentMark", "(LWreckCourt$Fact;)I"⟩, 2, (some .int), 0)
/-- WreckCourt$Asks.markOf(LWreckCourt$Fact;)I -/
def k_174 : List (List Ent) := [[(.aload_n 1, 0, [], .null), (.invokevirtual 19, 1, [1, 160, 1, 3], .null), (.tableswitch 56 1 4 #[32, 38, 44, 50], 4, [19, 3, 7, 11, 15], .null), (.aload_n 0, 36, [], .null), (.aload_n 1, 37, [], .null), (.invokevirtual 41, 38, [1, 172, 2, 0], .null), (.ireturn, 41, [], .null), (.aload_n 0, 42, [], .null), (.aload_n 1, 43, [], .null), (.invokevirtual 41, 44, [1, 172, 2, 0], .null), (.ireturn, 47, [], .null), (.aload_n 0, 48, [], .null), (.aload_n 1, 49, [], .null), (.invokevirtual 44, 50, [1, 175, 2, 0], .null), (.ireturn, 53, [], .null), (.aload_n 0, 54, [], .null)],
  [(.aload_n 1, 55, [], .null), (.invokevirtual 47, 56, [1, 171, 2, 0], .null), (.ireturn, 59, [], .null), (.aload_n 0, 60, [], .null), (.aload_n 1, 61, [], .null), (.invokevirtual 50, 62, [1, 173, 2, 0], .null), (.ireturn, 65, [], .null)]]
def m_174 : MR := (174, k_174, prog_2_method_3_code, ⟨"WreckCourt$Asks", "markOf", "(LWreckCourt$Fact;)I"⟩, 2, (some .int), 0)
/-- WreckCourt$Asks.paperMark(LWreckCourt$Fact;)I -/
def k_175 : List (List Ent) := [[(.aload_n 0, 0, [], .null), (.bipush 23, 1, [], .int (23)), (.invokevirtual 53, 3, [1, 166, 2, 0], .null), (.aload_n 0, 6, [], .null), (.aload_n 1, 7, [], .null), (.invokevirtual 50, 8, [1, 173, 2, 0], .null), (.istore_n 2, 11, [], .null), (.iload_n 2, 12, [], .null), (.aload_n 0, 13, [], .null), (.aload_n 1, 14, [], .null), (.invokevirtual 32, 15, [1, 169, 2, 0], .null), (.iadd, 18, [], .null), (.ireturn, 19, [], .null)]]
def m_175 : MR := (175, k_175, prog_2_method_13_code, ⟨"WreckCourt$Asks", "paperMark", "(LWreckCourt$Fact;)I"⟩, 3, (some .int), 0)
/-- WreckCourt.trace(I)I -/
def k_176 : List (List Ent) := [[(.iload_n 1, 0, [], .null), (.iconst 0, 1, [], .int (0)), (.aload_n 0, 2, [], .null), (.getfield 39, 3, [10, 4], .null), (.getfield 368, 6, [0, 1], .null), (.iconst 1, 9, [], .int (1)), (.isub, 10, [], .null), (.invokestatic 85, 11, [0, 13, 3, 10], .null), (.ifCond .eq 15, 14, [15], .null), (.aload_n 0, 17, [], .null), (.getfield 39, 18, [10, 4], .null), (.getfield 377, 21, [0, 0], .null), (.iload_n 1, 24, [], .null), (.iaload, 25, [], .null), (.goto 5, 26, [16], .null), (.ldc 229, 29, [], .int (-1000000))],
  [(.ireturn, 31, [], .null)]]
def m_176 : MR := (176, k_176, prog_1_method_32_code, ⟨"WreckCourt", "trace", "(I)I"⟩, 2, (some .int), 10)
/-- WreckCourt.count(I)I -/
def k_177 : List (List Ent) := [[(.iload_n 1, 0, [], .null), (.tableswitch 123 0 8 #[51, 56, 64, 75, 83, 91, 99, 107, 115], 1, [38, 2, 5, 9, 14, 18, 22, 26, 30, 34], .null), (.aload_n 0, 52, [], .null), (.invokevirtual 380, 53, [1, 178, 1, 10], .null), (.ireturn, 56, [], .null), (.aload_n 0, 57, [], .null), (.getfield 18, 58, [10, 1], .null), (.getfield 131, 61, [5, 2], .null), (.ireturn, 64, [], .null), (.aload_n 0, 65, [], .null), (.getfield 18, 66, [10, 1], .null), (.getfield 144, 69, [5, 0], .null), (.getfield 383, 72, [8, 3], .null), (.ireturn, 75, [], .null), (.aload_n 0, 76, [], .null), (.getfield 32, 77, [10, 3], .null)],
  [(.getfield 249, 80, [1, 1], .null), (.ireturn, 83, [], .null), (.aload_n 0, 84, [], .null), (.getfield 32, 85, [10, 3], .null), (.invokevirtual 384, 88, [1, 179, 1, 1], .null), (.ireturn, 91, [], .null), (.aload_n 0, 92, [], .null), (.getfield 69, 93, [10, 9], .null), (.getfield 387, 96, [2, 0], .null), (.ireturn, 99, [], .null), (.aload_n 0, 100, [], .null), (.getfield 25, 101, [10, 2], .null), (.getfield 223, 104, [9, 1], .null), (.ireturn, 107, [], .null), (.aload_n 0, 108, [], .null), (.getfield 48, 109, [10, 5], .null)],
  [(.getfield 388, 112, [7, 3], .null), (.ireturn, 115, [], .null), (.aload_n 0, 116, [], .null), (.getfield 55, 117, [10, 6], .null), (.getfield 329, 120, [4, 0], .null), (.ireturn, 123, [], .null), (.ldc 89, 124, [], .int (-1000001)), (.ireturn, 126, [], .null)]]
def m_177 : MR := (177, k_177, prog_1_method_33_code, ⟨"WreckCourt", "count", "(I)I"⟩, 2, (some .int), 10)
/-- WreckCourt.sheetsThere()I -/
def k_178 : List (List Ent) := [[(.iconst 0, 0, [], .int (0)), (.istore_n 1, 1, [], .null), (.iconst 0, 2, [], .int (0)), (.istore_n 2, 3, [], .null), (.iload_n 2, 4, [], .null), (.bipush 8, 5, [], .int (8)), (.if_icmp .ge 24, 7, [16], .null), (.aload_n 0, 10, [], .null), (.getfield 11, 11, [10, 0], .null), (.iload_n 2, 14, [], .null), (.aaload, 15, [], .null), (.getfield 101, 16, [6, 1], .null), (.ifCond .eq 6, 19, [14], .null), (.iinc 1 1, 22, [], .int (1)), (.iinc 2 1, 25, [], .int (1)), (.goto (-24), 28, [4], .null)],
  [(.iload_n 1, 31, [], .null), (.ireturn, 32, [], .null)]]
def m_178 : MR := (178, k_178, prog_1_method_50_code, ⟨"WreckCourt", "sheetsThere", "()I"⟩, 3, (some .int), 10)
/-- WreckCourt$Bench.goneOnes()I -/
def k_179 : List (List Ent) := [[(.iconst 0, 0, [], .int (0)), (.istore_n 1, 1, [], .null), (.iconst 0, 2, [], .int (0)), (.istore_n 2, 3, [], .null), (.iload_n 2, 4, [], .null), (.aload_n 0, 5, [], .null), (.getfield 17, 6, [1, 1], .null), (.if_icmp .ge 24, 9, [17], .null), (.aload_n 0, 12, [], .null), (.getfield 11, 13, [1, 0], .null), (.iload_n 2, 16, [], .null), (.aaload, 17, [], .null), (.invokevirtual 56, 18, [1, 89, 1, 3], .null), (.ifCond .eq 6, 21, [15], .null), (.iinc 1 1, 24, [], .int (1)), (.iinc 2 1, 27, [], .int (1))],
  [(.goto (-26), 30, [4], .null), (.iload_n 1, 33, [], .null), (.ireturn, 34, [], .null)]]
def m_179 : MR := (179, k_179, prog_3_method_3_code, ⟨"WreckCourt$Bench", "goneOnes", "()I"⟩, 3, (some .int), 1)
/-- WreckCourt.status()I -/
def k_180 : List (List Ent) := [[(.aload_n 0, 0, [], .null), (.getfield 76, 1, [10, 11], .null), (.ireturn, 4, [], .null)]]
def m_180 : MR := (180, k_180, prog_1_method_34_code, ⟨"WreckCourt", "status", "()I"⟩, 1, (some .int), 10)
/-- WreckCourtModel.<init>()V -/
def k_181 : List (List Ent) := [[(.aload_n 0, 0, [], .null), (.invokespecial 1, 1, [5, 0, 1], .null), (.aload_n 0, 4, [], .null), (.bipush 8, 5, [], .int (8)), (.newarray .int, 7, [20], .null), (.dup, 9, [], .null), (.iconst 0, 10, [], .int (0)), (.iconst (-1), 11, [], .int (-1)), (.iastore, 12, [], .null), (.dup, 13, [], .null), (.iconst 1, 14, [], .int (1)), (.iconst (-1), 15, [], .int (-1)), (.iastore, 16, [], .null), (.dup, 17, [], .null), (.iconst 2, 18, [], .int (2)), (.iconst (-1), 19, [], .int (-1))],
  [(.iastore, 20, [], .null), (.dup, 21, [], .null), (.iconst 3, 22, [], .int (3)), (.iconst (-1), 23, [], .int (-1)), (.iastore, 24, [], .null), (.dup, 25, [], .null), (.iconst 4, 26, [], .int (4)), (.iconst (-1), 27, [], .int (-1)), (.iastore, 28, [], .null), (.dup, 29, [], .null), (.iconst 5, 30, [], .int (5)), (.iconst (-1), 31, [], .int (-1)), (.iastore, 32, [], .null), (.dup, 33, [], .null), (.bipush 6, 34, [], .int (6)), (.iconst (-1), 36, [], .int (-1))],
  [(.iastore, 37, [], .null), (.dup, 38, [], .null), (.bipush 7, 39, [], .int (7)), (.iconst (-1), 41, [], .int (-1)), (.iastore, 42, [], .null), (.putfield 7, 43, [11, 2], .null), (.aload_n 0, 46, [], .null), (.bipush 8, 47, [], .int (8)), (.newarray .int, 49, [20], .null), (.putfield 13, 51, [11, 3], .null), (.aload_n 0, 54, [], .null), (.sipush 960, 55, [], .int (960)), (.newarray .int, 58, [20], .null), (.putfield 16, 60, [11, 4], .null), (.aload_n 0, 63, [], .null), (.bipush 16, 64, [], .int (16))],
  [(.newarray .int, 66, [20], .null), (.dup, 68, [], .null), (.iconst 0, 69, [], .int (0)), (.iconst 0, 70, [], .int (0)), (.iastore, 71, [], .null), (.dup, 72, [], .null), (.iconst 1, 73, [], .int (1)), (.bipush 38, 74, [], .int (38)), (.iastore, 76, [], .null), (.dup, 77, [], .null), (.iconst 2, 78, [], .int (2)), (.bipush 71, 79, [], .int (71)), (.iastore, 81, [], .null), (.dup, 82, [], .null), (.iconst 3, 83, [], .int (3)), (.bipush 92, 84, [], .int (92))],
  [(.iastore, 86, [], .null), (.dup, 87, [], .null), (.iconst 4, 88, [], .int (4)), (.bipush 100, 89, [], .int (100)), (.iastore, 91, [], .null), (.dup, 92, [], .null), (.iconst 5, 93, [], .int (5)), (.bipush 92, 94, [], .int (92)), (.iastore, 96, [], .null), (.dup, 97, [], .null), (.bipush 6, 98, [], .int (6)), (.bipush 71, 100, [], .int (71)), (.iastore, 102, [], .null), (.dup, 103, [], .null), (.bipush 7, 104, [], .int (7)), (.bipush 38, 106, [], .int (38))],
  [(.iastore, 108, [], .null), (.dup, 109, [], .null), (.bipush 8, 110, [], .int (8)), (.iconst 0, 112, [], .int (0)), (.iastore, 113, [], .null), (.dup, 114, [], .null), (.bipush 9, 115, [], .int (9)), (.bipush (-38), 117, [], .int (-38)), (.iastore, 119, [], .null), (.dup, 120, [], .null), (.bipush 10, 121, [], .int (10)), (.bipush (-71), 123, [], .int (-71)), (.iastore, 125, [], .null), (.dup, 126, [], .null), (.bipush 11, 127, [], .int (11)), (.bipush (-92), 129, [], .int (-92))],
  [(.iastore, 131, [], .null), (.dup, 132, [], .null), (.bipush 12, 133, [], .int (12)), (.bipush (-100), 135, [], .int (-100)), (.iastore, 137, [], .null), (.dup, 138, [], .null), (.bipush 13, 139, [], .int (13)), (.bipush (-92), 141, [], .int (-92)), (.iastore, 143, [], .null), (.dup, 144, [], .null), (.bipush 14, 145, [], .int (14)), (.bipush (-71), 147, [], .int (-71)), (.iastore, 149, [], .null), (.dup, 150, [], .null), (.bipush 15, 151, [], .int (15)), (.bipush (-38), 153, [], .int (-38))],
  [(.iastore, 155, [], .null), (.putfield 19, 156, [11, 5], .null), (.aload_n 0, 159, [], .null), (.bipush 16, 160, [], .int (16)), (.newarray .int, 162, [20], .null), (.dup, 164, [], .null), (.iconst 0, 165, [], .int (0)), (.bipush (-100), 166, [], .int (-100)), (.iastore, 168, [], .null), (.dup, 169, [], .null), (.iconst 1, 170, [], .int (1)), (.bipush (-92), 171, [], .int (-92)), (.iastore, 173, [], .null), (.dup, 174, [], .null), (.iconst 2, 175, [], .int (2)), (.bipush (-71), 176, [], .int (-71))],
  [(.iastore, 178, [], .null), (.dup, 179, [], .null), (.iconst 3, 180, [], .int (3)), (.bipush (-38), 181, [], .int (-38)), (.iastore, 183, [], .null), (.dup, 184, [], .null), (.iconst 4, 185, [], .int (4)), (.iconst 0, 186, [], .int (0)), (.iastore, 187, [], .null), (.dup, 188, [], .null), (.iconst 5, 189, [], .int (5)), (.bipush 38, 190, [], .int (38)), (.iastore, 192, [], .null), (.dup, 193, [], .null), (.bipush 6, 194, [], .int (6)), (.bipush 71, 196, [], .int (71))],
  [(.iastore, 198, [], .null), (.dup, 199, [], .null), (.bipush 7, 200, [], .int (7)), (.bipush 92, 202, [], .int (92)), (.iastore, 204, [], .null), (.dup, 205, [], .null), (.bipush 8, 206, [], .int (8)), (.bipush 100, 208, [], .int (100)), (.iastore, 210, [], .null), (.dup, 211, [], .null), (.bipush 9, 212, [], .int (9)), (.bipush 92, 214, [], .int (92)), (.iastore, 216, [], .null), (.dup, 217, [], .null), (.bipush 10, 218, [], .int (10)), (.bipush 71, 220, [], .int (71))],
  [(.iastore, 222, [], .null), (.dup, 223, [], .null), (.bipush 11, 224, [], .int (11)), (.bipush 38, 226, [], .int (38)), (.iastore, 228, [], .null), (.dup, 229, [], .null), (.bipush 12, 230, [], .int (12)), (.iconst 0, 232, [], .int (0)), (.iastore, 233, [], .null), (.dup, 234, [], .null), (.bipush 13, 235, [], .int (13)), (.bipush (-38), 237, [], .int (-38)), (.iastore, 239, [], .null), (.dup, 240, [], .null), (.bipush 14, 241, [], .int (14)), (.bipush (-71), 243, [], .int (-71))],
  [(.iastore, 245, [], .null), (.dup, 246, [], .null), (.bipush 15, 247, [], .int (15)), (.bipush (-92), 249, [], .int (-92)), (.iastore, 251, [], .null), (.putfield 22, 252, [11, 6], .null), (.aload_n 0, 255, [], .null), (.iconst 4, 256, [], .int (4)), (.newarray .int, 257, [20], .null), (.putfield 25, 259, [11, 8], .null), (.aload_n 0, 262, [], .null), (.iconst 4, 263, [], .int (4)), (.newarray .int, 264, [20], .null), (.putfield 28, 266, [11, 9], .null), (.aload_n 0, 269, [], .null), (.bipush 60, 270, [], .int (60))],
  [(.newarray .int, 272, [20], .null), (.putfield 31, 274, [11, 11], .null), (.aload_n 0, 277, [], .null), (.bipush 60, 278, [], .int (60)), (.newarray .int, 280, [20], .null), (.putfield 34, 282, [11, 12], .null), (.aload_n 0, 285, [], .null), (.bipush 60, 286, [], .int (60)), (.newarray .int, 288, [20], .null), (.putfield 37, 290, [11, 13], .null), (.aload_n 0, 293, [], .null), (.bipush 60, 294, [], .int (60)), (.newarray .int, 296, [20], .null), (.putfield 40, 298, [11, 14], .null), (.aload_n 0, 301, [], .null), (.sipush 240, 302, [], .int (240))],
  [(.newarray .int, 305, [20], .null), (.putfield 43, 307, [11, 15], .null), (.aload_n 0, 310, [], .null), (.sipush 240, 311, [], .int (240)), (.newarray .int, 314, [20], .null), (.putfield 46, 316, [11, 16], .null), (.aload_n 0, 319, [], .null), (.sipush 964, 320, [], .int (964)), (.newarray .int, 323, [20], .null), (.putfield 49, 325, [11, 17], .null), (.aload_n 0, 328, [], .null), (.sipush 964, 329, [], .int (964)), (.newarray .int, 332, [20], .null), (.putfield 52, 334, [11, 18], .null), (.aload_n 0, 337, [], .null), (.bipush 10, 338, [], .int (10))],
  [(.newarray .int, 340, [20], .null), (.putfield 55, 342, [11, 20], .null), (.aload_n 0, 345, [], .null), (.bipush 10, 346, [], .int (10)), (.newarray .int, 348, [20], .null), (.putfield 58, 350, [11, 21], .null), (.aload_n 0, 353, [], .null), (.bipush 10, 354, [], .int (10)), (.newarray .int, 356, [20], .null), (.putfield 61, 358, [11, 22], .null), (.aload_n 0, 361, [], .null), (.bipush 6, 362, [], .int (6)), (.newarray .int, 364, [20], .null), (.dup, 366, [], .null), (.iconst 0, 367, [], .int (0)), (.bipush 100, 368, [], .int (100))],
  [(.iastore, 370, [], .null), (.dup, 371, [], .null), (.iconst 1, 372, [], .int (1)), (.bipush 100, 373, [], .int (100)), (.iastore, 375, [], .null), (.dup, 376, [], .null), (.iconst 2, 377, [], .int (2)), (.bipush 100, 378, [], .int (100)), (.iastore, 380, [], .null), (.dup, 381, [], .null), (.iconst 3, 382, [], .int (3)), (.bipush 100, 383, [], .int (100)), (.iastore, 385, [], .null), (.dup, 386, [], .null), (.iconst 4, 387, [], .int (4)), (.bipush 100, 388, [], .int (100))],
  [(.iastore, 390, [], .null), (.dup, 391, [], .null), (.iconst 5, 392, [], .int (5)), (.bipush 100, 393, [], .int (100)), (.iastore, 395, [], .null), (.putfield 64, 396, [11, 23], .null), (.aload_n 0, 399, [], .null), (.sipush 300, 400, [], .int (300)), (.putfield 67, 403, [11, 25], .null), (.aload_n 0, 406, [], .null), (.bipush 30, 407, [], .int (30)), (.newarray .int, 409, [20], .null), (.putfield 71, 411, [11, 27], .null), (.aload_n 0, 414, [], .null), (.bipush 30, 415, [], .int (30)), (.newarray .int, 417, [20], .null)],
  [(.putfield 74, 419, [11, 28], .null), (.aload_n 0, 422, [], .null), (.bipush 30, 423, [], .int (30)), (.newarray .int, 425, [20], .null), (.putfield 77, 427, [11, 29], .null), (.aload_n 0, 430, [], .null), (.bipush 10, 431, [], .int (10)), (.newarray .int, 433, [20], .null), (.putfield 80, 435, [11, 31], .null), (.aload_n 0, 438, [], .null), (.bipush 10, 439, [], .int (10)), (.newarray .int, 441, [20], .null), (.putfield 83, 443, [11, 32], .null), (.aload_n 0, 446, [], .null), (.bipush 10, 447, [], .int (10)), (.newarray .int, 449, [20], .null)],
  [(.putfield 86, 451, [11, 33], .null), (.aload_n 0, 454, [], .null), (.sipush 1446, 455, [], .int (1446)), (.newarray .int, 458, [20], .null), (.putfield 89, 460, [11, 34], .null), (.aload_n 0, 463, [], .null), (.bipush 12, 464, [], .int (12)), (.newarray .int, 466, [20], .null), (.putfield 92, 468, [11, 36], .null), (.aload_n 0, 471, [], .null), (.bipush 12, 472, [], .int (12)), (.newarray .int, 474, [20], .null), (.putfield 95, 476, [11, 37], .null), (.aload_n 0, 479, [], .null), (.bipush 12, 480, [], .int (12)), (.newarray .int, 482, [20], .null)],
  [(.putfield 98, 484, [11, 38], .null), (.aload_n 0, 487, [], .null), (.bipush 12, 488, [], .int (12)), (.newarray .int, 490, [20], .null), (.putfield 101, 492, [11, 39], .null), (.aload_n 0, 495, [], .null), (.bipush 12, 496, [], .int (12)), (.newarray .int, 498, [20], .null), (.putfield 104, 500, [11, 40], .null), (.aload_n 0, 503, [], .null), (.bipush 12, 504, [], .int (12)), (.newarray .int, 506, [20], .null), (.putfield 107, 508, [11, 41], .null), (.aload_n 0, 511, [], .null), (.bipush 12, 512, [], .int (12)), (.newarray .int, 514, [20], .null)],
  [(.putfield 110, 516, [11, 42], .null), (.aload_n 0, 519, [], .null), (.bipush 12, 520, [], .int (12)), (.newarray .int, 522, [20], .null), (.putfield 113, 524, [11, 43], .null), (.aload_n 0, 527, [], .null), (.bipush 12, 528, [], .int (12)), (.newarray .int, 530, [20], .null), (.putfield 116, 532, [11, 44], .null), (.aload_n 0, 535, [], .null), (.sipush 4096, 536, [], .int (4096)), (.newarray .boolean, 539, [22], .null), (.putfield 119, 541, [11, 45], .null), (.aload_n 0, 544, [], .null), (.sipush 4096, 545, [], .int (4096)), (.newarray .boolean, 548, [22], .null)],
  [(.putfield 123, 550, [11, 46], .null), (.aload_n 0, 553, [], .null), (.sipush 144, 554, [], .int (144)), (.newarray .int, 557, [20], .null), (.putfield 126, 559, [11, 47], .null), (.aload_n 0, 562, [], .null), (.bipush 12, 563, [], .int (12)), (.newarray .int, 565, [20], .null), (.putfield 129, 567, [11, 48], .null), (.aload_n 0, 570, [], .null), (.bipush 12, 571, [], .int (12)), (.newarray .int, 573, [20], .null), (.putfield 132, 575, [11, 53], .null), (.aload_n 0, 578, [], .null), (.bipush 10, 579, [], .int (10)), (.newarray .int, 581, [20], .null)],
  [(.putfield 135, 583, [11, 55], .null), (.aload_n 0, 586, [], .null), (.bipush 90, 587, [], .int (90)), (.newarray .int, 589, [20], .null), (.putfield 138, 591, [11, 56], .null), (.aload_n 0, 594, [], .null), (.bipush 10, 595, [], .int (10)), (.newarray .int, 597, [20], .null), (.putfield 141, 599, [11, 57], .null), (.aload_n 0, 602, [], .null), (.bipush 10, 603, [], .int (10)), (.newarray .int, 605, [20], .null), (.putfield 144, 607, [11, 59], .null), (.aload_n 0, 610, [], .null), (.bipush 90, 611, [], .int (90)), (.newarray .int, 613, [20], .null)],
  [(.putfield 147, 615, [11, 60], .null), (.aload_n 0, 618, [], .null), (.bipush 10, 619, [], .int (10)), (.newarray .int, 621, [20], .null), (.putfield 150, 623, [11, 61], .null), (.aload_n 0, 626, [], .null), (.sipush 400, 627, [], .int (400)), (.newarray .int, 630, [20], .null), (.putfield 153, 632, [11, 62], .null), (.aload_n 0, 635, [], .null), (.bipush 40, 636, [], .int (40)), (.newarray .int, 638, [20], .null), (.putfield 156, 640, [11, 73], .null), (.aload_n 0, 643, [], .null), (.bipush 40, 644, [], .int (40)), (.newarray .int, 646, [20], .null)],
  [(.putfield 159, 648, [11, 74], .null), (.aload_n 0, 651, [], .null), (.bipush 40, 652, [], .int (40)), (.newarray .int, 654, [20], .null), (.putfield 162, 656, [11, 75], .null), (.aload_n 0, 659, [], .null), (.bipush 40, 660, [], .int (40)), (.newarray .int, 662, [20], .null), (.putfield 165, 664, [11, 76], .null), (.aload_n 0, 667, [], .null), (.iconst 5, 668, [], .int (5)), (.newarray .int, 669, [20], .null), (.putfield 168, 671, [11, 77], .null), (.aload_n 0, 674, [], .null), (.bipush 16, 675, [], .int (16)), (.newarray .int, 677, [20], .null)],
  [(.putfield 171, 679, [11, 78], .null), (.return_, 682, [], .null)]]
def m_181 : MR := (181, k_181, prog_13_method_1_code, ⟨"WreckCourtModel", "<init>", "()V"⟩, 1, none, 11)
/-- WreckCourtModel.sheet(III)I -/
def k_182 : List (List Ent) := [[(.aload_n 0, 0, [], .null), (.iconst 0, 1, [], .int (0)), (.putfield 174, 2, [11, 0], .null), (.iload_n 1, 5, [], .null), (.invokestatic 187, 6, [0, 183, 1, 11], .null), (.ifCond .eq 21, 9, [15], .null), (.iload_n 2, 12, [], .null), (.i2l, 13, [], .null), (.lconst 0, 14, [], .long (0)), (.ldc2_w 191, 15, [], .long (2)), (.invokestatic 183, 18, [0, 184, 3, 11], .null), (.ifCond .eq 9, 21, [15], .null), (.iload_n 3, 24, [], .null), (.bipush 120, 25, [], .int (120)), (.if_icmp .le 6, 27, [17], .null), (.ldc 193, 30, [], .int (-1000001))],
  [(.ireturn, 32, [], .null), (.aload_n 0, 33, [], .null), (.iconst 0, 34, [], .int (0)), (.putfield 177, 35, [11, 1], .null), (.iload_n 3, 38, [], .null), (.ifCond .ge 9, 39, [26], .null), (.aload_n 0, 42, [], .null), (.iconst 4, 43, [], .int (4)), (.invokevirtual 194, 44, [1, 185, 2, 11], .null), (.ireturn, 47, [], .null), (.aload_n 0, 48, [], .null), (.getfield 7, 49, [11, 2], .null), (.iload_n 1, 52, [], .null), (.iload_n 2, 53, [], .null), (.iastore, 54, [], .null), (.aload_n 0, 55, [], .null)],
  [(.getfield 13, 56, [11, 3], .null), (.iload_n 1, 59, [], .null), (.iload_n 3, 60, [], .null), (.iastore, 61, [], .null), (.iconst 0, 62, [], .int (0)), (.istore 4, 63, [], .null), (.iload 4, 65, [], .null), (.bipush 120, 67, [], .int (120)), (.if_icmp .ge 22, 69, [52], .null), (.aload_n 0, 72, [], .null), (.getfield 16, 73, [11, 4], .null), (.bipush 120, 76, [], .int (120)), (.iload_n 1, 78, [], .null), (.imul, 79, [], .null), (.iload 4, 80, [], .null), (.iadd, 82, [], .null)],
  [(.iconst 0, 83, [], .int (0)), (.iastore, 84, [], .null), (.iinc 4 1, 85, [], .int (1)), (.goto (-23), 88, [38], .null), (.iload_n 3, 91, [], .null), (.ireturn, 92, [], .null)]]
def m_182 : MR := (182, k_182, prog_13_method_6_code, ⟨"WreckCourtModel", "sheet", "(III)I"⟩, 5, (some .int), 11)
/-- WreckCourtModel.isSheet(I)Z -/
def k_183 : List (List Ent) := [[(.iload_n 0, 0, [], .null), (.i2l, 1, [], .null), (.lconst 0, 2, [], .long (0)), (.ldc2_w 181, 3, [], .long (7)), (.invokestatic 183, 6, [0, 184, 3, 11], .null), (.ireturn, 9, [], .null)]]
def m_183 : MR := (183, k_183, prog_13_method_5_code, ⟨"WreckCourtModel", "isSheet", "(I)Z"⟩, 1, (some .boolean), 11)
/-- WreckCourtModel.in(JJJ)Z -/
def k_184 : List (List Ent) := [[(.lload_n 0, 0, [], .null), (.lload_n 2, 1, [], .null), (.lcmp, 2, [], .null), (.ifCond .lt 14, 3, [10], .null), (.lload_n 0, 6, [], .null), (.lload 4, 7, [], .null), (.lcmp, 9, [], .null), (.ifCond .gt 7, 10, [10], .null), (.iconst 1, 13, [], .int (1)), (.goto 4, 14, [11], .null), (.iconst 0, 17, [], .int (0)), (.ireturn, 18, [], .null)]]
def m_184 : MR := (184, k_184, prog_13_method_3_code, ⟨"WreckCourtModel", "in", "(JJJ)Z"⟩, 6, (some .boolean), 11)
/-- WreckCourtModel.found(I)I -/
def k_185 : List (List Ent) := [[(.aload_n 0, 0, [], .null), (.iload_n 1, 1, [], .null), (.putfield 177, 2, [11, 1], .null), (.ldc 180, 5, [], .int (-1000010)), (.iload_n 1, 7, [], .null), (.isub, 8, [], .null), (.ireturn, 9, [], .null)]]
def m_185 : MR := (185, k_185, prog_13_method_4_code, ⟨"WreckCourtModel", "found", "(I)I"⟩, 2, (some .int), 11)
/-- WreckCourtModel.set(III)I -/
def k_186 : List (List Ent) := [[(.aload_n 0, 0, [], .null), (.iconst 0, 1, [], .int (0)), (.putfield 174, 2, [11, 0], .null), (.iload_n 1, 5, [], .null), (.invokestatic 187, 6, [0, 183, 1, 11], .null), (.ifCond .ne 6, 9, [8], .null), (.ldc 193, 12, [], .int (-1000001)), (.ireturn, 14, [], .null), (.aload_n 0, 15, [], .null), (.iconst 0, 16, [], .int (0)), (.putfield 177, 17, [11, 1], .null), (.aload_n 0, 20, [], .null), (.getfield 7, 21, [11, 2], .null), (.iload_n 1, 24, [], .null), (.iaload, 25, [], .null), (.ifCond .ge 9, 26, [20], .null)],
  [(.aload_n 0, 29, [], .null), (.iconst 1, 30, [], .int (1)), (.invokevirtual 194, 31, [1, 185, 2, 11], .null), (.ireturn, 34, [], .null), (.iload_n 2, 35, [], .null), (.i2l, 36, [], .null), (.lconst 0, 37, [], .long (0)), (.aload_n 0, 38, [], .null), (.getfield 13, 39, [11, 3], .null), (.iload_n 1, 42, [], .null), (.iaload, 43, [], .null), (.iconst 1, 44, [], .int (1)), (.isub, 45, [], .null), (.i2l, 46, [], .null), (.invokestatic 183, 47, [0, 184, 3, 11], .null), (.ifCond .ne 9, 50, [36], .null)],
  [(.aload_n 0, 53, [], .null), (.iconst 2, 54, [], .int (2)), (.invokevirtual 194, 55, [1, 185, 2, 11], .null), (.ireturn, 58, [], .null), (.aload_n 0, 59, [], .null), (.getfield 16, 60, [11, 4], .null), (.bipush 120, 63, [], .int (120)), (.iload_n 1, 65, [], .null), (.imul, 66, [], .null), (.iload_n 2, 67, [], .null), (.iadd, 68, [], .null), (.aload_n 0, 69, [], .null), (.getfield 7, 70, [11, 2], .null), (.iload_n 1, 73, [], .null), (.iaload, 74, [], .null), (.ifCond .ne 8, 75, [51], .null)],
  [(.iload_n 3, 78, [], .null), (.i2b, 79, [], .null), (.goto 19, 80, [61], .null), (.aload_n 0, 83, [], .null), (.getfield 7, 84, [11, 2], .null), (.iload_n 1, 87, [], .null), (.iaload, 88, [], .null), (.iconst 1, 89, [], .int (1)), (.if_icmp .ne 8, 90, [60], .null), (.iload_n 3, 93, [], .null), (.i2s, 94, [], .null), (.goto 4, 95, [61], .null), (.iload_n 3, 98, [], .null), (.iastore, 99, [], .null), (.aload_n 0, 100, [], .null), (.getfield 16, 101, [11, 4], .null)],
  [(.bipush 120, 104, [], .int (120)), (.iload_n 1, 106, [], .null), (.imul, 107, [], .null), (.iload_n 2, 108, [], .null), (.iadd, 109, [], .null), (.iaload, 110, [], .null), (.ireturn, 111, [], .null)]]
def m_186 : MR := (186, k_186, prog_13_method_7_code, ⟨"WreckCourtModel", "set", "(III)I"⟩, 4, (some .int), 11)
/-- WreckCourtModel.copy(IIIII)I -/
def k_187 : List (List Ent) := [[(.aload_n 0, 0, [], .null), (.iconst 0, 1, [], .int (0)), (.putfield 174, 2, [11, 0], .null), (.iload_n 1, 5, [], .null), (.invokestatic 187, 6, [0, 183, 1, 11], .null), (.ifCond .eq 10, 9, [9], .null), (.iload_n 3, 12, [], .null), (.invokestatic 187, 13, [0, 183, 1, 11], .null), (.ifCond .ne 6, 16, [11], .null), (.ldc 193, 19, [], .int (-1000001)), (.ireturn, 21, [], .null), (.aload_n 0, 22, [], .null), (.iconst 0, 23, [], .int (0)), (.putfield 177, 24, [11, 1], .null), (.aload_n 0, 27, [], .null), (.getfield 7, 28, [11, 2], .null)],
  [(.iload_n 1, 31, [], .null), (.iaload, 32, [], .null), (.ifCond .lt 12, 33, [24], .null), (.aload_n 0, 36, [], .null), (.getfield 7, 37, [11, 2], .null), (.iload_n 3, 40, [], .null), (.iaload, 41, [], .null), (.ifCond .ge 9, 42, [28], .null), (.aload_n 0, 45, [], .null), (.iconst 1, 46, [], .int (1)), (.invokevirtual 194, 47, [1, 185, 2, 11], .null), (.ireturn, 50, [], .null), (.aload_n 0, 51, [], .null), (.getfield 7, 52, [11, 2], .null), (.iload_n 1, 55, [], .null), (.iaload, 56, [], .null)],
  [(.aload_n 0, 57, [], .null), (.getfield 7, 58, [11, 2], .null), (.iload_n 3, 61, [], .null), (.iaload, 62, [], .null), (.if_icmp .eq 9, 63, [41], .null), (.aload_n 0, 66, [], .null), (.iconst 5, 67, [], .int (5)), (.invokevirtual 194, 68, [1, 185, 2, 11], .null), (.ireturn, 71, [], .null), (.iload_n 2, 72, [], .null), (.ifCond .lt 48, 73, [71], .null), (.iload 4, 76, [], .null), (.ifCond .lt 43, 78, [71], .null), (.iload 5, 81, [], .null), (.ifCond .lt 38, 83, [71], .null), (.iload_n 2, 86, [], .null)],
  [(.i2l, 87, [], .null), (.iload 5, 88, [], .null), (.i2l, 90, [], .null), (.ladd, 91, [], .null), (.aload_n 0, 92, [], .null), (.getfield 13, 93, [11, 3], .null), (.iload_n 1, 96, [], .null), (.iaload, 97, [], .null), (.i2l, 98, [], .null), (.lcmp, 99, [], .null), (.ifCond .gt 21, 100, [71], .null), (.iload 4, 103, [], .null), (.i2l, 105, [], .null), (.iload 5, 106, [], .null), (.i2l, 108, [], .null), (.ladd, 109, [], .null)],
  [(.aload_n 0, 110, [], .null), (.getfield 13, 111, [11, 3], .null), (.iload_n 3, 114, [], .null), (.iaload, 115, [], .null), (.i2l, 116, [], .null), (.lcmp, 117, [], .null), (.ifCond .le 9, 118, [75], .null), (.aload_n 0, 121, [], .null), (.iconst 2, 122, [], .int (2)), (.invokevirtual 194, 123, [1, 185, 2, 11], .null), (.ireturn, 126, [], .null), (.iload_n 2, 127, [], .null), (.iload 4, 128, [], .null), (.if_icmp .lt 7, 130, [80], .null), (.iconst 1, 133, [], .int (1)), (.goto 4, 134, [81], .null)],
  [(.iconst 0, 137, [], .int (0)), (.istore 6, 138, [], .null), (.iconst 0, 140, [], .int (0)), (.istore 7, 141, [], .null), (.iload 7, 143, [], .null), (.iload 5, 145, [], .null), (.if_icmp .ge 57, 147, [119], .null), (.iload 6, 150, [], .null), (.ifCond .eq 8, 152, [91], .null), (.iload 7, 155, [], .null), (.goto 10, 157, [96], .null), (.iload 5, 160, [], .null), (.iconst 1, 162, [], .int (1)), (.isub, 163, [], .null), (.iload 7, 164, [], .null), (.isub, 166, [], .null)],
  [(.istore 8, 167, [], .null), (.aload_n 0, 169, [], .null), (.getfield 16, 170, [11, 4], .null), (.bipush 120, 173, [], .int (120)), (.iload_n 3, 175, [], .null), (.imul, 176, [], .null), (.iload 4, 177, [], .null), (.iadd, 179, [], .null), (.iload 8, 180, [], .null), (.iadd, 182, [], .null), (.aload_n 0, 183, [], .null), (.getfield 16, 184, [11, 4], .null), (.bipush 120, 187, [], .int (120)), (.iload_n 1, 189, [], .null), (.imul, 190, [], .null), (.iload_n 2, 191, [], .null)],
  [(.iadd, 192, [], .null), (.iload 8, 193, [], .null), (.iadd, 195, [], .null), (.iaload, 196, [], .null), (.iastore, 197, [], .null), (.iinc 7 1, 198, [], .int (1)), (.goto (-58), 201, [84], .null), (.iload 5, 204, [], .null), (.ireturn, 206, [], .null)]]
def m_187 : MR := (187, k_187, prog_13_method_8_code, ⟨"WreckCourtModel", "copy", "(IIIII)I"⟩, 9, (some .int), 11)
/-- WreckCourtModel.drop(I)I -/
def k_188 : List (List Ent) := [[(.aload_n 0, 0, [], .null), (.iconst 0, 1, [], .int (0)), (.putfield 174, 2, [11, 0], .null), (.iload_n 1, 5, [], .null), (.invokestatic 187, 6, [0, 183, 1, 11], .null), (.ifCond .ne 6, 9, [8], .null), (.ldc 193, 12, [], .int (-1000001)), (.ireturn, 14, [], .null), (.aload_n 0, 15, [], .null), (.iconst 0, 16, [], .int (0)), (.putfield 177, 17, [11, 1], .null), (.aload_n 0, 20, [], .null), (.getfield 7, 21, [11, 2], .null), (.iload_n 1, 24, [], .null), (.iaload, 25, [], .null), (.ifCond .ge 9, 26, [20], .null)],
  [(.aload_n 0, 29, [], .null), (.iconst 1, 30, [], .int (1)), (.invokevirtual 194, 31, [1, 185, 2, 11], .null), (.ireturn, 34, [], .null), (.aload_n 0, 35, [], .null), (.getfield 7, 36, [11, 2], .null), (.iload_n 1, 39, [], .null), (.iconst (-1), 40, [], .int (-1)), (.iastore, 41, [], .null), (.aload_n 0, 42, [], .null), (.getfield 13, 43, [11, 3], .null), (.iload_n 1, 46, [], .null), (.iaload, 47, [], .null), (.ireturn, 48, [], .null)]]
def m_188 : MR := (188, k_188, prog_13_method_9_code, ⟨"WreckCourtModel", "drop", "(I)I"⟩, 2, (some .int), 11)
/-- WreckCourtModel.ship(II)I -/
def k_189 : List (List Ent) := [[(.aload_n 0, 0, [], .null), (.iconst 0, 1, [], .int (0)), (.putfield 174, 2, [11, 0], .null), (.iload_n 1, 5, [], .null), (.invokestatic 207, 6, [0, 190, 1, 11], .null), (.ifCond .eq 10, 9, [9], .null), (.iload_n 2, 12, [], .null), (.invokestatic 207, 13, [0, 190, 1, 11], .null), (.ifCond .ne 6, 16, [11], .null), (.ldc 193, 19, [], .int (-1000001)), (.ireturn, 21, [], .null), (.aload_n 0, 22, [], .null), (.getfield 198, 23, [11, 7], .null), (.iconst 4, 26, [], .int (4)), (.if_icmp .ne 6, 27, [17], .null), (.ldc 210, 30, [], .int (-1000003))],
  [(.ireturn, 32, [], .null), (.aload_n 0, 33, [], .null), (.getfield 25, 34, [11, 8], .null), (.aload_n 0, 37, [], .null), (.getfield 198, 38, [11, 7], .null), (.iload_n 1, 41, [], .null), (.iastore, 42, [], .null), (.aload_n 0, 43, [], .null), (.getfield 28, 44, [11, 9], .null), (.aload_n 0, 47, [], .null), (.getfield 198, 48, [11, 7], .null), (.iload_n 2, 51, [], .null), (.iastore, 52, [], .null), (.aload_n 0, 53, [], .null), (.dup, 54, [], .null), (.getfield 198, 55, [11, 7], .null)],
  [(.iconst 1, 58, [], .int (1)), (.iadd, 59, [], .null), (.putfield 198, 60, [11, 7], .null), (.aload_n 0, 63, [], .null), (.getfield 198, 64, [11, 7], .null), (.iconst 1, 67, [], .int (1)), (.isub, 68, [], .null), (.ireturn, 69, [], .null)]]
def m_189 : MR := (189, k_189, prog_13_method_13_code, ⟨"WreckCourtModel", "ship", "(II)I"⟩, 3, (some .int), 11)
/-- WreckCourtModel.isFar(I)Z -/
def k_190 : List (List Ent) := [[(.iload_n 0, 0, [], .null), (.i2l, 1, [], .null), (.ldc2_w 203, 2, [], .long (-10000)), (.ldc2_w 205, 5, [], .long (10000)), (.invokestatic 183, 8, [0, 184, 3, 11], .null), (.ireturn, 11, [], .null)]]
def m_190 : MR := (190, k_190, prog_13_method_12_code, ⟨"WreckCourtModel", "isFar", "(I)Z"⟩, 1, (some .boolean), 11)
/-- WreckCourtModel.order(IIII)I -/
def k_191 : List (List Ent) := [[(.aload_n 0, 0, [], .null), (.iconst 0, 1, [], .int (0)), (.putfield 174, 2, [11, 0], .null), (.aload_n 0, 5, [], .null), (.iload_n 1, 6, [], .null), (.invokevirtual 211, 7, [1, 192, 2, 11], .null), (.ifCond .eq 35, 10, [22], .null), (.iload_n 2, 13, [], .null), (.invokestatic 214, 14, [0, 193, 1, 11], .null), (.ifCond .eq 28, 17, [22], .null), (.iload_n 3, 20, [], .null), (.i2l, 21, [], .null), (.lconst 0, 22, [], .long (0)), (.ldc2_w 217, 23, [], .long (15)), (.invokestatic 183, 26, [0, 184, 3, 11], .null), (.ifCond .eq 16, 29, [22], .null)],
  [(.iload 4, 32, [], .null), (.i2l, 34, [], .null), (.lconst 0, 35, [], .long (0)), (.ldc2_w 219, 36, [], .long (50)), (.invokestatic 183, 39, [0, 184, 3, 11], .null), (.ifCond .ne 6, 42, [24], .null), (.ldc 193, 45, [], .int (-1000001)), (.ireturn, 47, [], .null), (.aload_n 0, 48, [], .null), (.getfield 221, 49, [11, 10], .null), (.bipush 60, 52, [], .int (60)), (.if_icmp .ne 6, 54, [30], .null), (.ldc 210, 57, [], .int (-1000003)), (.ireturn, 59, [], .null), (.aload_n 0, 60, [], .null), (.getfield 31, 61, [11, 11], .null)],
  [(.aload_n 0, 64, [], .null), (.getfield 221, 65, [11, 10], .null), (.iload_n 1, 68, [], .null), (.iastore, 69, [], .null), (.aload_n 0, 70, [], .null), (.getfield 34, 71, [11, 12], .null), (.aload_n 0, 74, [], .null), (.getfield 221, 75, [11, 10], .null), (.iload_n 2, 78, [], .null), (.iastore, 79, [], .null), (.aload_n 0, 80, [], .null), (.getfield 37, 81, [11, 13], .null), (.aload_n 0, 84, [], .null), (.getfield 221, 85, [11, 10], .null), (.iload_n 3, 88, [], .null), (.iastore, 89, [], .null)],
  [(.aload_n 0, 90, [], .null), (.getfield 40, 91, [11, 14], .null), (.aload_n 0, 94, [], .null), (.getfield 221, 95, [11, 10], .null), (.iload 4, 98, [], .null), (.iastore, 100, [], .null), (.aload_n 0, 101, [], .null), (.dup, 102, [], .null), (.getfield 221, 103, [11, 10], .null), (.iconst 1, 106, [], .int (1)), (.iadd, 107, [], .null), (.putfield 221, 108, [11, 10], .null), (.aload_n 0, 111, [], .null), (.getfield 221, 112, [11, 10], .null), (.ireturn, 115, [], .null)]]
def m_191 : MR := (191, k_191, prog_13_method_14_code, ⟨"WreckCourtModel", "order", "(IIII)I"⟩, 5, (some .int), 11)
/-- WreckCourtModel.isShip(I)Z -/
def k_192 : List (List Ent) := [[(.iload_n 1, 0, [], .null), (.i2l, 1, [], .null), (.lconst 0, 2, [], .long (0)), (.aload_n 0, 3, [], .null), (.getfield 198, 4, [11, 7], .null), (.iconst 1, 7, [], .int (1)), (.isub, 8, [], .null), (.i2l, 9, [], .null), (.invokestatic 183, 10, [0, 184, 3, 11], .null), (.ireturn, 13, [], .null)]]
def m_192 : MR := (192, k_192, prog_13_method_10_code, ⟨"WreckCourtModel", "isShip", "(I)Z"⟩, 2, (some .boolean), 11)
/-- WreckCourtModel.isMinute(I)Z -/
def k_193 : List (List Ent) := [[(.iload_n 0, 0, [], .null), (.i2l, 1, [], .null), (.lconst 0, 2, [], .long (0)), (.ldc2_w 201, 3, [], .long (239)), (.invokestatic 183, 6, [0, 184, 3, 11], .null), (.ireturn, 9, [], .null)]]
def m_193 : MR := (193, k_193, prog_13_method_11_code, ⟨"WreckCourtModel", "isMinute", "(I)Z"⟩, 1, (some .boolean), 11)
/-- WreckCourtModel.tide(IIII)I -/
def k_194 : List (List Ent) := [[(.aload_n 0, 0, [], .null), (.iconst 0, 1, [], .int (0)), (.putfield 174, 2, [11, 0], .null), (.iload_n 1, 5, [], .null), (.invokestatic 214, 6, [0, 193, 1, 11], .null), (.ifCond .eq 33, 9, [20], .null), (.iload 4, 12, [], .null), (.i2l, 14, [], .null), (.lconst 1, 15, [], .long (1)), (.ldc2_w 224, 16, [], .long (60)), (.invokestatic 183, 19, [0, 184, 3, 11], .null), (.ifCond .eq 20, 22, [20], .null), (.iload_n 1, 25, [], .null), (.iload 4, 26, [], .null), (.iadd, 28, [], .null), (.sipush 240, 29, [], .int (240))],
  [(.if_icmp .gt 10, 32, [20], .null), (.iload_n 2, 35, [], .null), (.invokestatic 187, 36, [0, 183, 1, 11], .null), (.ifCond .ne 6, 39, [22], .null), (.ldc 193, 42, [], .int (-1000001)), (.ireturn, 44, [], .null), (.aload_n 0, 45, [], .null), (.getfield 7, 46, [11, 2], .null), (.iload_n 2, 49, [], .null), (.iaload, 50, [], .null), (.ifCond .ge 9, 51, [31], .null), (.aload_n 0, 54, [], .null), (.iconst 1, 55, [], .int (1)), (.invokevirtual 194, 56, [1, 185, 2, 11], .null), (.ireturn, 59, [], .null), (.iload_n 3, 60, [], .null)],
  [(.ifCond .lt 22, 61, [47], .null), (.iload_n 3, 64, [], .null), (.i2l, 65, [], .null), (.iconst 2, 66, [], .int (2)), (.iload 4, 67, [], .null), (.imul, 69, [], .null), (.i2l, 70, [], .null), (.ladd, 71, [], .null), (.aload_n 0, 72, [], .null), (.getfield 13, 73, [11, 3], .null), (.iload_n 2, 76, [], .null), (.iaload, 77, [], .null), (.i2l, 78, [], .null), (.lcmp, 79, [], .null), (.ifCond .le 9, 80, [51], .null), (.aload_n 0, 83, [], .null)],
  [(.iconst 2, 84, [], .int (2)), (.invokevirtual 194, 85, [1, 185, 2, 11], .null), (.ireturn, 88, [], .null), (.iconst 0, 89, [], .int (0)), (.istore 5, 90, [], .null), (.iload 5, 92, [], .null), (.iconst 2, 94, [], .int (2)), (.iload 4, 95, [], .null), (.imul, 97, [], .null), (.if_icmp .ge 39, 98, [77], .null), (.aload_n 0, 101, [], .null), (.getfield 16, 102, [11, 4], .null), (.bipush 120, 105, [], .int (120)), (.iload_n 2, 107, [], .null), (.imul, 108, [], .null), (.iload_n 3, 109, [], .null)],
  [(.iadd, 110, [], .null), (.iload 5, 111, [], .null), (.iadd, 113, [], .null), (.iaload, 114, [], .null), (.i2l, 115, [], .null), (.ldc2_w 226, 116, [], .long (-20)), (.ldc2_w 228, 119, [], .long (20)), (.invokestatic 183, 122, [0, 184, 3, 11], .null), (.ifCond .ne 6, 125, [75], .null), (.ldc 193, 128, [], .int (-1000001)), (.ireturn, 130, [], .null), (.iinc 5 1, 131, [], .int (1)), (.goto (-42), 134, [53], .null), (.aload_n 0, 137, [], .null), (.iconst 0, 138, [], .int (0)), (.putfield 177, 139, [11, 1], .null)],
  [(.iconst 0, 142, [], .int (0)), (.istore 5, 143, [], .null), (.iload 5, 145, [], .null), (.iload 4, 147, [], .null), (.if_icmp .ge 61, 149, [125], .null), (.aload_n 0, 152, [], .null), (.getfield 43, 153, [11, 15], .null), (.iload_n 1, 156, [], .null), (.iload 5, 157, [], .null), (.iadd, 159, [], .null), (.aload_n 0, 160, [], .null), (.getfield 16, 161, [11, 4], .null), (.bipush 120, 164, [], .int (120)), (.iload_n 2, 166, [], .null), (.imul, 167, [], .null), (.iload_n 3, 168, [], .null)],
  [(.iadd, 169, [], .null), (.iconst 2, 170, [], .int (2)), (.iload 5, 171, [], .null), (.imul, 173, [], .null), (.iadd, 174, [], .null), (.iaload, 175, [], .null), (.iastore, 176, [], .null), (.aload_n 0, 177, [], .null), (.getfield 46, 178, [11, 16], .null), (.iload_n 1, 181, [], .null), (.iload 5, 182, [], .null), (.iadd, 184, [], .null), (.aload_n 0, 185, [], .null), (.getfield 16, 186, [11, 4], .null), (.bipush 120, 189, [], .int (120)), (.iload_n 2, 191, [], .null)],
  [(.imul, 192, [], .null), (.iload_n 3, 193, [], .null), (.iadd, 194, [], .null), (.iconst 2, 195, [], .int (2)), (.iload 5, 196, [], .null), (.imul, 198, [], .null), (.iadd, 199, [], .null), (.iconst 1, 200, [], .int (1)), (.iadd, 201, [], .null), (.iaload, 202, [], .null), (.iastore, 203, [], .null), (.iinc 5 1, 204, [], .int (1)), (.goto (-62), 207, [82], .null), (.iload 4, 210, [], .null), (.ireturn, 212, [], .null)]]
def m_194 : MR := (194, k_194, prog_13_method_15_code, ⟨"WreckCourtModel", "tide", "(IIII)I"⟩, 6, (some .int), 11)
/-- WreckCourtModel.dark(III)I -/
def k_195 : List (List Ent) := [[(.aload_n 0, 0, [], .null), (.iconst 0, 1, [], .int (0)), (.putfield 174, 2, [11, 0], .null), (.iload_n 1, 5, [], .null), (.i2l, 6, [], .null), (.lconst 0, 7, [], .long (0)), (.lconst 1, 8, [], .long (1)), (.invokestatic 183, 9, [0, 184, 3, 11], .null), (.ifCond .eq 25, 12, [21], .null), (.iload_n 2, 15, [], .null), (.invokestatic 214, 16, [0, 193, 1, 11], .null), (.ifCond .eq 18, 19, [21], .null), (.iload_n 3, 22, [], .null), (.i2l, 23, [], .null), (.iload_n 2, 24, [], .null), (.iconst 1, 25, [], .int (1))],
  [(.iadd, 26, [], .null), (.i2l, 27, [], .null), (.ldc2_w 244, 28, [], .long (240)), (.invokestatic 183, 31, [0, 184, 3, 11], .null), (.ifCond .ne 6, 34, [23], .null), (.ldc 193, 37, [], .int (-1000001)), (.ireturn, 39, [], .null), (.aload_n 0, 40, [], .null), (.getfield 246, 41, [11, 19], .null), (.bipush 10, 44, [], .int (10)), (.if_icmp .ne 6, 46, [29], .null), (.ldc 210, 49, [], .int (-1000003)), (.ireturn, 51, [], .null), (.aload_n 0, 52, [], .null), (.getfield 55, 53, [11, 20], .null), (.aload_n 0, 56, [], .null)],
  [(.getfield 246, 57, [11, 19], .null), (.iload_n 1, 60, [], .null), (.iastore, 61, [], .null), (.aload_n 0, 62, [], .null), (.getfield 58, 63, [11, 21], .null), (.aload_n 0, 66, [], .null), (.getfield 246, 67, [11, 19], .null), (.iload_n 2, 70, [], .null), (.iastore, 71, [], .null), (.aload_n 0, 72, [], .null), (.getfield 61, 73, [11, 22], .null), (.aload_n 0, 76, [], .null), (.getfield 246, 77, [11, 19], .null), (.iload_n 3, 80, [], .null), (.iastore, 81, [], .null), (.aload_n 0, 82, [], .null)],
  [(.dup, 83, [], .null), (.getfield 246, 84, [11, 19], .null), (.iconst 1, 87, [], .int (1)), (.iadd, 88, [], .null), (.putfield 246, 89, [11, 19], .null), (.aload_n 0, 92, [], .null), (.getfield 246, 93, [11, 19], .null), (.ireturn, 96, [], .null)]]
def m_195 : MR := (195, k_195, prog_13_method_21_code, ⟨"WreckCourtModel", "dark", "(III)I"⟩, 4, (some .int), 11)
/-- WreckCourtModel.where(III)I -/
def k_196 : List (List Ent) := [[(.aload_n 0, 0, [], .null), (.iconst 0, 1, [], .int (0)), (.putfield 174, 2, [11, 0], .null), (.aload_n 0, 5, [], .null), (.iload_n 1, 6, [], .null), (.invokevirtual 211, 7, [1, 192, 2, 11], .null), (.ifCond .eq 38, 10, [24], .null), (.iload_n 3, 13, [], .null), (.i2l, 14, [], .null), (.lconst 0, 15, [], .long (0)), (.ldc2_w 257, 16, [], .long (4)), (.invokestatic 183, 19, [0, 184, 3, 11], .null), (.ifCond .eq 26, 22, [24], .null), (.iload_n 2, 25, [], .null), (.i2l, 26, [], .null), (.lconst 0, 27, [], .long (0))],
  [(.iload_n 3, 28, [], .null), (.iconst 2, 29, [], .int (2)), (.if_icmp .ge 9, 30, [21], .null), (.ldc2_w 244, 33, [], .long (240)), (.goto 6, 36, [22], .null), (.ldc2_w 201, 39, [], .long (239)), (.invokestatic 183, 42, [0, 184, 3, 11], .null), (.ifCond .ne 6, 45, [26], .null), (.ldc 193, 48, [], .int (-1000001)), (.ireturn, 50, [], .null), (.aload_n 0, 51, [], .null), (.invokevirtual 259, 52, [1, 197, 1, 11], .null), (.aload_n 0, 55, [], .null), (.iload_n 1, 56, [], .null), (.iload_n 2, 57, [], .null), (.invokevirtual 231, 58, [1, 198, 3, 11], .null)],
  [(.istore 4, 61, [], .null), (.iload_n 3, 63, [], .null), (.ifCond .ne 18, 64, [44], .null), (.aload_n 0, 67, [], .null), (.getfield 49, 68, [11, 17], .null), (.sipush 241, 71, [], .int (241)), (.iload_n 1, 74, [], .null), (.imul, 75, [], .null), (.iload_n 2, 76, [], .null), (.iadd, 77, [], .null), (.iaload, 78, [], .null), (.goto 69, 79, [81], .null), (.iload_n 3, 82, [], .null), (.iconst 1, 83, [], .int (1)), (.if_icmp .ne 18, 84, [56], .null), (.aload_n 0, 87, [], .null)],
  [(.getfield 52, 88, [11, 18], .null), (.sipush 241, 91, [], .int (241)), (.iload_n 1, 94, [], .null), (.imul, 95, [], .null), (.iload_n 2, 96, [], .null), (.iadd, 97, [], .null), (.iaload, 98, [], .null), (.goto 49, 99, [81], .null), (.iload_n 3, 102, [], .null), (.iconst 2, 103, [], .int (2)), (.if_icmp .ne 24, 104, [69], .null), (.iload 4, 107, [], .null), (.ldc 230, 109, [], .int (-1000000)), (.if_icmp .ne 7, 111, [64], .null), (.iconst 0, 114, [], .int (0)), (.goto 33, 115, [81], .null)],
  [(.aload_n 0, 118, [], .null), (.getfield 37, 119, [11, 13], .null), (.iload 4, 122, [], .null), (.iaload, 124, [], .null), (.goto 23, 125, [81], .null), (.iload_n 3, 128, [], .null), (.iconst 3, 129, [], .int (3)), (.if_icmp .ne 12, 130, [77], .null), (.aload_n 0, 133, [], .null), (.iload_n 1, 134, [], .null), (.iload_n 2, 135, [], .null), (.invokevirtual 262, 136, [1, 199, 3, 11], .null), (.goto 9, 139, [81], .null), (.aload_n 0, 142, [], .null), (.iload_n 1, 143, [], .null), (.iload_n 2, 144, [], .null)],
  [(.invokevirtual 265, 145, [1, 200, 3, 11], .null), (.ireturn, 148, [], .null)]]
def m_196 : MR := (196, k_196, prog_13_method_25_code, ⟨"WreckCourtModel", "where", "(III)I"⟩, 5, (some .int), 11)
/-- WreckCourtModel.sail()V -/
def k_197 : List (List Ent) := [[(.iconst 0, 0, [], .int (0)), (.istore_n 1, 1, [], .null), (.iload_n 1, 2, [], .null), (.aload_n 0, 3, [], .null), (.getfield 198, 4, [11, 7], .null), (.if_icmp .ge 193, 7, [124], .null), (.aload_n 0, 10, [], .null), (.getfield 49, 11, [11, 17], .null), (.sipush 241, 14, [], .int (241)), (.iload_n 1, 17, [], .null), (.imul, 18, [], .null), (.aload_n 0, 19, [], .null), (.getfield 25, 20, [11, 8], .null), (.iload_n 1, 23, [], .null), (.iaload, 24, [], .null), (.iastore, 25, [], .null)],
  [(.aload_n 0, 26, [], .null), (.getfield 52, 27, [11, 18], .null), (.sipush 241, 30, [], .int (241)), (.iload_n 1, 33, [], .null), (.imul, 34, [], .null), (.aload_n 0, 35, [], .null), (.getfield 28, 36, [11, 9], .null), (.iload_n 1, 39, [], .null), (.iaload, 40, [], .null), (.iastore, 41, [], .null), (.iconst 0, 42, [], .int (0)), (.istore_n 2, 43, [], .null), (.iload_n 2, 44, [], .null), (.sipush 240, 45, [], .int (240)), (.if_icmp .ge 146, 48, [122], .null), (.aload_n 0, 51, [], .null)],
  [(.iload_n 1, 52, [], .null), (.iload_n 2, 53, [], .null), (.invokevirtual 231, 54, [1, 198, 3, 11], .null), (.istore_n 3, 57, [], .null), (.iload_n 3, 58, [], .null), (.ldc 230, 59, [], .int (-1000000)), (.if_icmp .ne 7, 61, [41], .null), (.iconst 0, 64, [], .int (0)), (.goto 9, 65, [45], .null), (.aload_n 0, 68, [], .null), (.getfield 40, 69, [11, 14], .null), (.iload_n 3, 72, [], .null), (.iaload, 73, [], .null), (.istore 4, 74, [], .null), (.iload_n 3, 76, [], .null), (.ldc 230, 77, [], .int (-1000000))],
  [(.if_icmp .ne 7, 79, [51], .null), (.iconst 0, 82, [], .int (0)), (.goto 9, 83, [55], .null), (.aload_n 0, 86, [], .null), (.getfield 37, 87, [11, 13], .null), (.iload_n 3, 90, [], .null), (.iaload, 91, [], .null), (.istore 5, 92, [], .null), (.aload_n 0, 94, [], .null), (.getfield 49, 95, [11, 17], .null), (.sipush 241, 98, [], .int (241)), (.iload_n 1, 101, [], .null), (.imul, 102, [], .null), (.iload_n 2, 103, [], .null), (.iadd, 104, [], .null), (.iconst 1, 105, [], .int (1))],
  [(.iadd, 106, [], .null), (.aload_n 0, 107, [], .null), (.getfield 49, 108, [11, 17], .null), (.sipush 241, 111, [], .int (241)), (.iload_n 1, 114, [], .null), (.imul, 115, [], .null), (.iload_n 2, 116, [], .null), (.iadd, 117, [], .null), (.iaload, 118, [], .null), (.aload_n 0, 119, [], .null), (.getfield 19, 120, [11, 5], .null), (.iload 5, 123, [], .null), (.iaload, 125, [], .null), (.iload 4, 126, [], .null), (.imul, 128, [], .null), (.bipush 100, 129, [], .int (100))],
  [(.idiv, 131, [], .null), (.iadd, 132, [], .null), (.aload_n 0, 133, [], .null), (.getfield 43, 134, [11, 15], .null), (.iload_n 2, 137, [], .null), (.iaload, 138, [], .null), (.iadd, 139, [], .null), (.iastore, 140, [], .null), (.aload_n 0, 141, [], .null), (.getfield 52, 142, [11, 18], .null), (.sipush 241, 145, [], .int (241)), (.iload_n 1, 148, [], .null), (.imul, 149, [], .null), (.iload_n 2, 150, [], .null), (.iadd, 151, [], .null), (.iconst 1, 152, [], .int (1))],
  [(.iadd, 153, [], .null), (.aload_n 0, 154, [], .null), (.getfield 52, 155, [11, 18], .null), (.sipush 241, 158, [], .int (241)), (.iload_n 1, 161, [], .null), (.imul, 162, [], .null), (.iload_n 2, 163, [], .null), (.iadd, 164, [], .null), (.iaload, 165, [], .null), (.aload_n 0, 166, [], .null), (.getfield 22, 167, [11, 6], .null), (.iload 5, 170, [], .null), (.iaload, 172, [], .null), (.iload 4, 173, [], .null), (.imul, 175, [], .null), (.bipush 100, 176, [], .int (100))],
  [(.idiv, 178, [], .null), (.iadd, 179, [], .null), (.aload_n 0, 180, [], .null), (.getfield 46, 181, [11, 16], .null), (.iload_n 2, 184, [], .null), (.iaload, 185, [], .null), (.iadd, 186, [], .null), (.iastore, 187, [], .null), (.iinc 2 1, 188, [], .int (1)), (.goto (-147), 191, [28], .null), (.iinc 1 1, 194, [], .int (1)), (.goto (-195), 197, [2], .null), (.return_, 200, [], .null)]]
def m_197 : MR := (197, k_197, prog_13_method_17_code, ⟨"WreckCourtModel", "sail", "()V"⟩, 6, none, 11)
/-- WreckCourtModel.orderOf(II)I -/
def k_198 : List (List Ent) := [[(.ldc 230, 0, [], .int (-1000000)), (.istore_n 3, 2, [], .null), (.iconst 0, 3, [], .int (0)), (.istore 4, 4, [], .null), (.iload 4, 6, [], .null), (.aload_n 0, 8, [], .null), (.getfield 221, 9, [11, 10], .null), (.if_icmp .ge 60, 12, [38], .null), (.aload_n 0, 15, [], .null), (.getfield 31, 16, [11, 11], .null), (.iload 4, 19, [], .null), (.iaload, 21, [], .null), (.iload_n 1, 22, [], .null), (.if_icmp .ne 43, 23, [36], .null), (.aload_n 0, 26, [], .null), (.getfield 34, 27, [11, 12], .null)],
  [(.iload 4, 30, [], .null), (.iaload, 32, [], .null), (.iload_n 2, 33, [], .null), (.if_icmp .gt 32, 34, [36], .null), (.iload_n 3, 37, [], .null), (.ldc 230, 38, [], .int (-1000000)), (.if_icmp .eq 19, 40, [32], .null), (.aload_n 0, 43, [], .null), (.getfield 34, 44, [11, 12], .null), (.iload 4, 47, [], .null), (.iaload, 49, [], .null), (.aload_n 0, 50, [], .null), (.getfield 34, 51, [11, 12], .null), (.iload_n 3, 54, [], .null), (.iaload, 55, [], .null), (.if_icmp .lt 8, 56, [34], .null)],
  [(.iload 4, 59, [], .null), (.goto 4, 61, [35], .null), (.iload_n 3, 64, [], .null), (.istore_n 3, 65, [], .null), (.iinc 4 1, 66, [], .int (1)), (.goto (-63), 69, [4], .null), (.iload_n 3, 72, [], .null), (.ireturn, 73, [], .null)]]
def m_198 : MR := (198, k_198, prog_13_method_16_code, ⟨"WreckCourtModel", "orderOf", "(II)I"⟩, 5, (some .int), 11)
/-- WreckCourtModel.speedOf(II)I -/
def k_199 : List (List Ent) := [[(.aload_n 0, 0, [], .null), (.iload_n 1, 1, [], .null), (.iload_n 2, 2, [], .null), (.invokevirtual 231, 3, [1, 198, 3, 11], .null), (.istore_n 3, 6, [], .null), (.iload_n 3, 7, [], .null), (.ldc 230, 8, [], .int (-1000000)), (.if_icmp .ne 7, 10, [10], .null), (.iconst 0, 13, [], .int (0)), (.goto 9, 14, [14], .null), (.aload_n 0, 17, [], .null), (.getfield 40, 18, [11, 14], .null), (.iload_n 3, 21, [], .null), (.iaload, 22, [], .null), (.ireturn, 23, [], .null)]]
def m_199 : MR := (199, k_199, prog_13_method_24_code, ⟨"WreckCourtModel", "speedOf", "(II)I"⟩, 4, (some .int), 11)
/-- WreckCourtModel.nearOf(II)I -/
def k_200 : List (List Ent) := [[(.aload_n 0, 0, [], .null), (.iconst 0, 1, [], .int (0)), (.iload_n 2, 2, [], .null), (.invokevirtual 249, 3, [1, 201, 3, 11], .null), (.ifCond .eq 8, 6, [7], .null), (.bipush 100, 9, [], .int (100)), (.goto 21, 11, [15], .null), (.aload_n 0, 14, [], .null), (.iconst 1, 15, [], .int (1)), (.iload_n 2, 16, [], .null), (.invokevirtual 249, 17, [1, 201, 3, 11], .null), (.ifCond .eq 9, 20, [14], .null), (.sipush 500, 23, [], .int (500)), (.goto 6, 26, [15], .null), (.sipush 1000, 29, [], .int (1000)), (.istore_n 3, 32, [], .null)],
  [(.sipush 9999, 33, [], .int (9999)), (.istore 4, 36, [], .null), (.iconst 0, 38, [], .int (0)), (.istore 5, 39, [], .null), (.iload 5, 41, [], .null), (.aload_n 0, 43, [], .null), (.getfield 198, 44, [11, 7], .null), (.if_icmp .ge 47, 47, [45], .null), (.iload 5, 50, [], .null), (.iload_n 1, 52, [], .null), (.if_icmp .eq 35, 53, [43], .null), (.aload_n 0, 56, [], .null), (.iload_n 1, 57, [], .null), (.iload 5, 58, [], .null), (.iload_n 2, 60, [], .null), (.invokevirtual 253, 61, [1, 202, 4, 11], .null)],
  [(.istore 6, 64, [], .null), (.iload 6, 66, [], .null), (.iload_n 3, 68, [], .null), (.if_icmp .gt 15, 69, [41], .null), (.iload 6, 72, [], .null), (.iload 4, 74, [], .null), (.if_icmp .ge 8, 76, [41], .null), (.iload 6, 79, [], .null), (.goto 5, 81, [42], .null), (.iload 4, 84, [], .null), (.istore 4, 86, [], .null), (.iinc 5 1, 88, [], .int (1)), (.goto (-50), 91, [20], .null), (.iload 4, 94, [], .null), (.ireturn, 96, [], .null)]]
def m_200 : MR := (200, k_200, prog_13_method_23_code, ⟨"WreckCourtModel", "nearOf", "(II)I"⟩, 7, (some .int), 11)
/-- WreckCourtModel.isDark(II)Z -/
def k_201 : List (List Ent) := [[(.iconst 0, 0, [], .int (0)), (.istore_n 3, 1, [], .null), (.iconst 0, 2, [], .int (0)), (.istore 4, 3, [], .null), (.iload 4, 5, [], .null), (.aload_n 0, 7, [], .null), (.getfield 246, 8, [11, 19], .null), (.if_icmp .ge 52, 11, [34], .null), (.iload_n 3, 14, [], .null), (.ifCond .ne 36, 15, [28], .null), (.aload_n 0, 18, [], .null), (.getfield 55, 19, [11, 20], .null), (.iload 4, 22, [], .null), (.iaload, 24, [], .null), (.iload_n 1, 25, [], .null), (.if_icmp .ne 29, 26, [30], .null)],
  [(.iload_n 2, 29, [], .null), (.aload_n 0, 30, [], .null), (.getfield 58, 31, [11, 21], .null), (.iload 4, 34, [], .null), (.iaload, 36, [], .null), (.if_icmp .lt 18, 37, [30], .null), (.iload_n 2, 40, [], .null), (.aload_n 0, 41, [], .null), (.getfield 61, 42, [11, 22], .null), (.iload 4, 45, [], .null), (.iaload, 47, [], .null), (.if_icmp .ge 7, 48, [30], .null), (.iconst 1, 51, [], .int (1)), (.goto 4, 52, [31], .null), (.iconst 0, 55, [], .int (0)), (.istore_n 3, 56, [], .null)],
  [(.iinc 4 1, 57, [], .int (1)), (.goto (-55), 60, [4], .null), (.iload_n 3, 63, [], .null), (.ireturn, 64, [], .null)]]
def m_201 : MR := (201, k_201, prog_13_method_22_code, ⟨"WreckCourtModel", "isDark", "(II)Z"⟩, 5, (some .boolean), 11)
/-- WreckCourtModel.apart(III)I -/
def k_202 : List (List Ent) := [[(.aload_n 0, 0, [], .null), (.getfield 49, 1, [11, 17], .null), (.sipush 241, 4, [], .int (241)), (.iload_n 1, 7, [], .null), (.imul, 8, [], .null), (.iload_n 3, 9, [], .null), (.iadd, 10, [], .null), (.iaload, 11, [], .null), (.aload_n 0, 12, [], .null), (.getfield 52, 13, [11, 18], .null), (.sipush 241, 16, [], .int (241)), (.iload_n 1, 19, [], .null), (.imul, 20, [], .null), (.iload_n 3, 21, [], .null), (.iadd, 22, [], .null), (.iaload, 23, [], .null)],
  [(.aload_n 0, 24, [], .null), (.getfield 49, 25, [11, 17], .null), (.sipush 241, 28, [], .int (241)), (.iload_n 2, 31, [], .null), (.imul, 32, [], .null), (.iload_n 3, 33, [], .null), (.iadd, 34, [], .null), (.iaload, 35, [], .null), (.aload_n 0, 36, [], .null), (.getfield 52, 37, [11, 18], .null), (.sipush 241, 40, [], .int (241)), (.iload_n 2, 43, [], .null), (.imul, 44, [], .null), (.iload_n 3, 45, [], .null), (.iadd, 46, [], .null), (.iaload, 47, [], .null)],
  [(.invokestatic 240, 48, [0, 203, 4, 11], .null), (.ireturn, 51, [], .null)]]
def m_202 : MR := (202, k_202, prog_13_method_20_code, ⟨"WreckCourtModel", "apart", "(III)I"⟩, 4, (some .int), 11)
/-- WreckCourtModel.farOf(IIII)I -/
def k_203 : List (List Ent) := [[(.iload_n 0, 0, [], .null), (.iload_n 2, 1, [], .null), (.isub, 2, [], .null), (.i2l, 3, [], .null), (.lstore 4, 4, [], .null), (.iload_n 1, 6, [], .null), (.iload_n 3, 7, [], .null), (.isub, 8, [], .null), (.i2l, 9, [], .null), (.lstore 6, 10, [], .null), (.lload 4, 12, [], .null), (.lload 4, 14, [], .null), (.lmul, 16, [], .null), (.lload 6, 17, [], .null), (.lload 6, 19, [], .null), (.lmul, 21, [], .null)],
  [(.ladd, 22, [], .null), (.invokestatic 236, 23, [0, 204, 1, 11], .null), (.ireturn, 26, [], .null)]]
def m_203 : MR := (203, k_203, prog_13_method_19_code, ⟨"WreckCourtModel", "farOf", "(IIII)I"⟩, 8, (some .int), 11)
/-- WreckCourtModel.root(J)I -/
def k_204 : List (List Ent) := [[(.iconst 0, 0, [], .int (0)), (.istore_n 2, 1, [], .null), (.ldc 235, 2, [], .int (131072)), (.istore_n 3, 4, [], .null), (.iload_n 3, 5, [], .null), (.ifCond .le 34, 6, [28], .null), (.iload_n 2, 9, [], .null), (.iload_n 3, 10, [], .null), (.iadd, 11, [], .null), (.i2l, 12, [], .null), (.lstore 4, 13, [], .null), (.iload_n 2, 15, [], .null), (.lload 4, 16, [], .null), (.lload 4, 18, [], .null), (.lmul, 20, [], .null), (.lload_n 0, 21, [], .null)],
  [(.lcmp, 22, [], .null), (.ifCond .gt 7, 23, [20], .null), (.iload_n 3, 26, [], .null), (.goto 4, 27, [21], .null), (.iconst 0, 30, [], .int (0)), (.iadd, 31, [], .null), (.istore_n 2, 32, [], .null), (.iload_n 3, 33, [], .null), (.iconst 2, 34, [], .int (2)), (.idiv, 35, [], .null), (.istore_n 3, 36, [], .null), (.goto (-32), 37, [4], .null), (.iload_n 2, 40, [], .null), (.ireturn, 41, [], .null)]]
def m_204 : MR := (204, k_204, prog_13_method_18_code, ⟨"WreckCourtModel", "root", "(J)I"⟩, 6, (some .int), 11)
/-- WreckCourtModel.nearest(III)I -/
def k_205 : List (List Ent) := [[(.aload_n 0, 0, [], .null), (.iconst 0, 1, [], .int (0)), (.putfield 174, 2, [11, 0], .null), (.aload_n 0, 5, [], .null), (.iload_n 1, 6, [], .null), (.invokevirtual 211, 7, [1, 192, 2, 11], .null), (.ifCond .eq 26, 10, [20], .null), (.aload_n 0, 13, [], .null), (.iload_n 2, 14, [], .null), (.invokevirtual 211, 15, [1, 192, 2, 11], .null), (.ifCond .eq 18, 18, [20], .null), (.iload_n 1, 21, [], .null), (.iload_n 2, 22, [], .null), (.if_icmp .eq 13, 23, [20], .null), (.iload_n 3, 26, [], .null), (.i2l, 27, [], .null)],
  [(.lconst 0, 28, [], .long (0)), (.lconst 1, 29, [], .long (1)), (.invokestatic 183, 30, [0, 184, 3, 11], .null), (.ifCond .ne 6, 33, [22], .null), (.ldc 193, 36, [], .int (-1000001)), (.ireturn, 38, [], .null), (.aload_n 0, 39, [], .null), (.invokevirtual 259, 40, [1, 197, 1, 11], .null), (.iconst 0, 43, [], .int (0)), (.istore 4, 44, [], .null), (.iconst 1, 46, [], .int (1)), (.istore 5, 47, [], .null), (.iload 5, 49, [], .null), (.sipush 241, 51, [], .int (241)), (.if_icmp .ge 37, 54, [48], .null), (.aload_n 0, 57, [], .null)],
  [(.iload_n 1, 58, [], .null), (.iload_n 2, 59, [], .null), (.iload 5, 60, [], .null), (.invokevirtual 253, 62, [1, 202, 4, 11], .null), (.aload_n 0, 65, [], .null), (.iload_n 1, 66, [], .null), (.iload_n 2, 67, [], .null), (.iload 4, 68, [], .null), (.invokevirtual 253, 70, [1, 202, 4, 11], .null), (.if_icmp .ge 8, 73, [44], .null), (.iload 5, 76, [], .null), (.goto 5, 78, [45], .null), (.iload 4, 81, [], .null), (.istore 4, 83, [], .null), (.iinc 5 1, 85, [], .int (1)), (.goto (-39), 88, [28], .null)],
  [(.iload_n 3, 91, [], .null), (.ifCond .ne 8, 92, [52], .null), (.iload 4, 95, [], .null), (.goto 11, 97, [57], .null), (.aload_n 0, 100, [], .null), (.iload_n 1, 101, [], .null), (.iload_n 2, 102, [], .null), (.iload 4, 103, [], .null), (.invokevirtual 253, 105, [1, 202, 4, 11], .null), (.ireturn, 108, [], .null)]]
def m_205 : MR := (205, k_205, prog_13_method_26_code, ⟨"WreckCourtModel", "nearest", "(III)I"⟩, 6, (some .int), 11)
/-- WreckCourtModel.hull(II)I -/
def k_206 : List (List Ent) := [[(.aload_n 0, 0, [], .null), (.iconst 0, 1, [], .int (0)), (.putfield 174, 2, [11, 0], .null), (.iload_n 1, 5, [], .null), (.i2l, 6, [], .null), (.lconst 0, 7, [], .long (0)), (.ldc2_w 181, 8, [], .long (7)), (.invokestatic 183, 11, [0, 184, 3, 11], .null), (.ifCond .eq 49, 14, [30], .null), (.iload_n 2, 17, [], .null), (.i2l, 18, [], .null), (.iload_n 1, 19, [], .null), (.bipush 6, 20, [], .int (6)), (.if_icmp .ne 7, 22, [16], .null), (.lconst 0, 25, [], .long (0)), (.goto 4, 26, [17], .null)],
  [(.lconst 1, 29, [], .long (1)), (.iload_n 1, 30, [], .null), (.bipush 6, 31, [], .int (6)), (.if_icmp .ne 9, 33, [22], .null), (.ldc2_w 268, 36, [], .long (100)), (.goto 18, 39, [28], .null), (.iload_n 1, 42, [], .null), (.bipush 7, 43, [], .int (7)), (.if_icmp .ne 9, 45, [27], .null), (.ldc2_w 270, 48, [], .long (6000)), (.goto 6, 51, [28], .null), (.ldc2_w 272, 54, [], .long (1000)), (.invokestatic 183, 57, [0, 184, 3, 11], .null), (.ifCond .ne 6, 60, [32], .null), (.ldc 193, 63, [], .int (-1000001)), (.ireturn, 65, [], .null)],
  [(.iload_n 1, 66, [], .null), (.bipush 6, 67, [], .int (6)), (.if_icmp .ne 10, 69, [38], .null), (.aload_n 0, 72, [], .null), (.getfield 274, 73, [11, 24], .null), (.goto 22, 76, [48], .null), (.iload_n 1, 79, [], .null), (.bipush 7, 80, [], .int (7)), (.if_icmp .ne 10, 82, [44], .null), (.aload_n 0, 85, [], .null), (.getfield 67, 86, [11, 25], .null), (.goto 9, 89, [48], .null), (.aload_n 0, 92, [], .null), (.getfield 64, 93, [11, 23], .null), (.iload_n 1, 96, [], .null), (.iaload, 97, [], .null)],
  [(.istore_n 3, 98, [], .null), (.iload_n 1, 99, [], .null), (.bipush 6, 100, [], .int (6)), (.if_icmp .ne 11, 102, [56], .null), (.aload_n 0, 105, [], .null), (.iload_n 2, 106, [], .null), (.putfield 274, 107, [11, 24], .null), (.goto 24, 110, [68], .null), (.iload_n 1, 113, [], .null), (.bipush 7, 114, [], .int (7)), (.if_icmp .ne 11, 116, [63], .null), (.aload_n 0, 119, [], .null), (.iload_n 2, 120, [], .null), (.putfield 67, 121, [11, 25], .null), (.goto 10, 124, [68], .null), (.aload_n 0, 127, [], .null)],
  [(.getfield 64, 128, [11, 23], .null), (.iload_n 1, 131, [], .null), (.iload_n 2, 132, [], .null), (.iastore, 133, [], .null), (.iload_n 3, 134, [], .null), (.ireturn, 135, [], .null)]]
def m_206 : MR := (206, k_206, prog_13_method_27_code, ⟨"WreckCourtModel", "hull", "(II)I"⟩, 4, (some .int), 11)
/-- WreckCourtModel.door(III)I -/
def k_207 : List (List Ent) := [[(.aload_n 0, 0, [], .null), (.iconst 0, 1, [], .int (0)), (.putfield 174, 2, [11, 0], .null), (.iload_n 1, 5, [], .null), (.i2l, 6, [], .null), (.lconst 0, 7, [], .long (0)), (.ldc2_w 257, 8, [], .long (4)), (.invokestatic 183, 11, [0, 184, 3, 11], .null), (.ifCond .eq 20, 14, [18], .null), (.iload_n 2, 17, [], .null), (.invokestatic 214, 18, [0, 193, 1, 11], .null), (.ifCond .eq 13, 21, [18], .null), (.iload_n 3, 24, [], .null), (.i2l, 25, [], .null), (.lconst 0, 26, [], .long (0)), (.lconst 1, 27, [], .long (1))],
  [(.invokestatic 183, 28, [0, 184, 3, 11], .null), (.ifCond .ne 6, 31, [20], .null), (.ldc 193, 34, [], .int (-1000001)), (.ireturn, 36, [], .null), (.aload_n 0, 37, [], .null), (.getfield 277, 38, [11, 26], .null), (.bipush 30, 41, [], .int (30)), (.if_icmp .ne 6, 43, [26], .null), (.ldc 210, 46, [], .int (-1000003)), (.ireturn, 48, [], .null), (.aload_n 0, 49, [], .null), (.getfield 71, 50, [11, 27], .null), (.aload_n 0, 53, [], .null), (.getfield 277, 54, [11, 26], .null), (.iload_n 1, 57, [], .null), (.iastore, 58, [], .null)],
  [(.aload_n 0, 59, [], .null), (.getfield 74, 60, [11, 28], .null), (.aload_n 0, 63, [], .null), (.getfield 277, 64, [11, 26], .null), (.iload_n 2, 67, [], .null), (.iastore, 68, [], .null), (.aload_n 0, 69, [], .null), (.getfield 77, 70, [11, 29], .null), (.aload_n 0, 73, [], .null), (.getfield 277, 74, [11, 26], .null), (.iload_n 3, 77, [], .null), (.iastore, 78, [], .null), (.aload_n 0, 79, [], .null), (.dup, 80, [], .null), (.getfield 277, 81, [11, 26], .null), (.iconst 1, 84, [], .int (1))],
  [(.iadd, 85, [], .null), (.putfield 277, 86, [11, 26], .null), (.aload_n 0, 89, [], .null), (.getfield 277, 90, [11, 26], .null), (.ireturn, 93, [], .null)]]
def m_207 : MR := (207, k_207, prog_13_method_28_code, ⟨"WreckCourtModel", "door", "(III)I"⟩, 4, (some .int), 11)
/-- WreckCourtModel.hole(III)I -/
def k_208 : List (List Ent) := [[(.aload_n 0, 0, [], .null), (.iconst 0, 1, [], .int (0)), (.putfield 174, 2, [11, 0], .null), (.iload_n 1, 5, [], .null), (.i2l, 6, [], .null), (.lconst 0, 7, [], .long (0)), (.ldc2_w 280, 8, [], .long (5)), (.invokestatic 183, 11, [0, 184, 3, 11], .null), (.ifCond .eq 22, 14, [18], .null), (.iload_n 2, 17, [], .null), (.invokestatic 214, 18, [0, 193, 1, 11], .null), (.ifCond .eq 15, 21, [18], .null), (.iload_n 3, 24, [], .null), (.i2l, 25, [], .null), (.lconst 1, 26, [], .long (1)), (.ldc2_w 268, 27, [], .long (100))],
  [(.invokestatic 183, 30, [0, 184, 3, 11], .null), (.ifCond .ne 6, 33, [20], .null), (.ldc 193, 36, [], .int (-1000001)), (.ireturn, 38, [], .null), (.aload_n 0, 39, [], .null), (.getfield 282, 40, [11, 30], .null), (.bipush 10, 43, [], .int (10)), (.if_icmp .ne 6, 45, [26], .null), (.ldc 210, 48, [], .int (-1000003)), (.ireturn, 50, [], .null), (.aload_n 0, 51, [], .null), (.getfield 80, 52, [11, 31], .null), (.aload_n 0, 55, [], .null), (.getfield 282, 56, [11, 30], .null), (.iload_n 1, 59, [], .null), (.iastore, 60, [], .null)],
  [(.aload_n 0, 61, [], .null), (.getfield 83, 62, [11, 32], .null), (.aload_n 0, 65, [], .null), (.getfield 282, 66, [11, 30], .null), (.iload_n 2, 69, [], .null), (.iastore, 70, [], .null), (.aload_n 0, 71, [], .null), (.getfield 86, 72, [11, 33], .null), (.aload_n 0, 75, [], .null), (.getfield 282, 76, [11, 30], .null), (.iload_n 3, 79, [], .null), (.iastore, 80, [], .null), (.aload_n 0, 81, [], .null), (.dup, 82, [], .null), (.getfield 282, 83, [11, 30], .null), (.iconst 1, 86, [], .int (1))],
  [(.iadd, 87, [], .null), (.putfield 282, 88, [11, 30], .null), (.aload_n 0, 91, [], .null), (.getfield 282, 92, [11, 30], .null), (.ireturn, 95, [], .null)]]
def m_208 : MR := (208, k_208, prog_13_method_29_code, ⟨"WreckCourtModel", "hole", "(III)I"⟩, 4, (some .int), 11)
/-- WreckCourtModel.water(II)I -/
def k_209 : List (List Ent) := [[(.aload_n 0, 0, [], .null), (.iconst 0, 1, [], .int (0)), (.putfield 174, 2, [11, 0], .null), (.iload_n 1, 5, [], .null), (.ldc 230, 6, [], .int (-1000000)), (.if_icmp .eq 15, 8, [12], .null), (.iload_n 1, 11, [], .null), (.i2l, 12, [], .null), (.lconst 0, 13, [], .long (0)), (.ldc2_w 280, 14, [], .long (5)), (.invokestatic 183, 17, [0, 184, 3, 11], .null), (.ifCond .eq 15, 20, [18], .null), (.iload_n 2, 23, [], .null), (.i2l, 24, [], .null), (.lconst 0, 25, [], .long (0)), (.ldc2_w 244, 26, [], .long (240))],
  [(.invokestatic 183, 29, [0, 184, 3, 11], .null), (.ifCond .ne 6, 32, [20], .null), (.ldc 193, 35, [], .int (-1000001)), (.ireturn, 37, [], .null), (.aload_n 0, 38, [], .null), (.bipush 9, 39, [], .int (9)), (.iconst 0, 41, [], .int (0)), (.invokevirtual 291, 42, [1, 210, 3, 11], .null), (.iload_n 1, 45, [], .null), (.ldc 230, 46, [], .int (-1000000)), (.if_icmp .ne 11, 48, [31], .null), (.aload_n 0, 51, [], .null), (.iload_n 2, 52, [], .null), (.invokevirtual 295, 53, [1, 213, 2, 11], .null), (.goto 14, 56, [39], .null), (.aload_n 0, 59, [], .null)],
  [(.getfield 89, 60, [11, 34], .null), (.bipush 6, 63, [], .int (6)), (.iload_n 2, 65, [], .null), (.imul, 66, [], .null), (.iload_n 1, 67, [], .null), (.iadd, 68, [], .null), (.iaload, 69, [], .null), (.ireturn, 70, [], .null)]]
def m_209 : MR := (209, k_209, prog_13_method_34_code, ⟨"WreckCourtModel", "water", "(II)I"⟩, 3, (some .int), 11)
/-- WreckCourtModel.fill(II)V -/
def k_210 : List (List Ent) := [[(.iload_n 1, 0, [], .null), (.iconst 2, 1, [], .int (2)), (.if_icmp .ne 7, 2, [5], .null), (.iload_n 2, 5, [], .null), (.goto 7, 6, [7], .null), (.aload_n 0, 9, [], .null), (.getfield 274, 10, [11, 24], .null), (.istore_n 3, 13, [], .null), (.iconst 0, 14, [], .int (0)), (.istore 4, 15, [], .null), (.iload 4, 17, [], .null), (.bipush 6, 19, [], .int (6)), (.if_icmp .ge 17, 21, [20], .null), (.aload_n 0, 24, [], .null), (.getfield 89, 25, [11, 34], .null), (.iload 4, 28, [], .null)],
  [(.iconst 0, 30, [], .int (0)), (.iastore, 31, [], .null), (.iinc 4 1, 32, [], .int (1)), (.goto (-18), 35, [10], .null), (.iconst 0, 38, [], .int (0)), (.istore 4, 39, [], .null), (.iload 4, 41, [], .null), (.sipush 240, 43, [], .int (240)), (.if_icmp .ge 440, 46, [263], .null), (.bipush 6, 49, [], .int (6)), (.iload 4, 51, [], .null), (.imul, 53, [], .null), (.bipush 6, 54, [], .int (6)), (.iadd, 56, [], .null), (.istore 5, 57, [], .null), (.iconst 0, 59, [], .int (0))],
  [(.istore 6, 60, [], .null), (.iload 6, 62, [], .null), (.bipush 6, 64, [], .int (6)), (.if_icmp .ge 32, 66, [52], .null), (.aload_n 0, 69, [], .null), (.getfield 89, 70, [11, 34], .null), (.iload 5, 73, [], .null), (.iload 6, 75, [], .null), (.iadd, 77, [], .null), (.aload_n 0, 78, [], .null), (.getfield 89, 79, [11, 34], .null), (.iload 5, 82, [], .null), (.iload 6, 84, [], .null), (.iadd, 86, [], .null), (.bipush 6, 87, [], .int (6)), (.isub, 89, [], .null)],
  [(.iaload, 90, [], .null), (.iastore, 91, [], .null), (.iinc 6 1, 92, [], .int (1)), (.goto (-33), 95, [33], .null), (.iconst 0, 98, [], .int (0)), (.istore 6, 99, [], .null), (.iload 6, 101, [], .null), (.aload_n 0, 103, [], .null), (.getfield 282, 104, [11, 30], .null), (.if_icmp .ge 95, 107, [108], .null), (.aload_n 0, 110, [], .null), (.getfield 83, 111, [11, 32], .null), (.iload 6, 114, [], .null), (.iaload, 116, [], .null), (.iload 4, 117, [], .null), (.if_icmp .gt 77, 119, [106], .null)],
  [(.iload_n 1, 122, [], .null), (.iconst 3, 123, [], .int (3)), (.if_icmp .ne 9, 124, [70], .null), (.iload_n 2, 127, [], .null), (.iload 6, 128, [], .null), (.if_icmp .eq 66, 130, [106], .null), (.aload_n 0, 133, [], .null), (.getfield 80, 134, [11, 31], .null), (.iload 6, 137, [], .null), (.iaload, 139, [], .null), (.istore 7, 140, [], .null), (.aload_n 0, 142, [], .null), (.getfield 64, 143, [11, 23], .null), (.iload 7, 146, [], .null), (.iaload, 148, [], .null), (.aload_n 0, 149, [], .null)],
  [(.getfield 89, 150, [11, 34], .null), (.iload 5, 153, [], .null), (.iload 7, 155, [], .null), (.iadd, 157, [], .null), (.iaload, 158, [], .null), (.isub, 159, [], .null), (.istore 8, 160, [], .null), (.aload_n 0, 162, [], .null), (.getfield 89, 163, [11, 34], .null), (.iload 5, 166, [], .null), (.iload 7, 168, [], .null), (.iadd, 170, [], .null), (.dup2, 171, [], .null), (.iaload, 172, [], .null), (.iload 8, 173, [], .null), (.ifCond .gt 7, 175, [98], .null)],
  [(.iconst 0, 178, [], .int (0)), (.goto 15, 179, [104], .null), (.aload_n 0, 182, [], .null), (.getfield 86, 183, [11, 33], .null), (.iload 6, 186, [], .null), (.iaload, 188, [], .null), (.iload 8, 189, [], .null), (.invokestatic 285, 191, [0, 211, 2, 11], .null), (.iadd, 194, [], .null), (.iastore, 195, [], .null), (.iinc 6 1, 196, [], .int (1)), (.goto (-98), 199, [54], .null), (.iconst 0, 202, [], .int (0)), (.istore 6, 203, [], .null), (.iload 6, 205, [], .null), (.iconst 5, 207, [], .int (5))],
  [(.if_icmp .ge 194, 208, [218], .null), (.iload_n 1, 211, [], .null), (.iconst 2, 212, [], .int (2)), (.if_icmp .ge 22, 213, [126], .null), (.iload_n 2, 216, [], .null), (.iload 6, 217, [], .null), (.if_icmp .ne 16, 219, [126], .null), (.iload_n 1, 222, [], .null), (.iconst 1, 223, [], .int (1)), (.if_icmp .ne 7, 224, [124], .null), (.iconst 1, 227, [], .int (1)), (.goto 15, 228, [130], .null), (.iconst 0, 231, [], .int (0)), (.goto 11, 232, [130], .null), (.aload_n 0, 235, [], .null), (.iload 6, 236, [], .null)],
  [(.iload 4, 238, [], .null), (.invokevirtual 288, 240, [1, 212, 3, 11], .null), (.istore 7, 243, [], .null), (.aload_n 0, 245, [], .null), (.getfield 89, 246, [11, 34], .null), (.iload 5, 249, [], .null), (.iload 6, 251, [], .null), (.iadd, 253, [], .null), (.iaload, 254, [], .null), (.aload_n 0, 255, [], .null), (.getfield 89, 256, [11, 34], .null), (.iload 5, 259, [], .null), (.iload 6, 261, [], .null), (.iadd, 263, [], .null), (.iconst 1, 264, [], .int (1)), (.iadd, 265, [], .null)],
  [(.iaload, 266, [], .null), (.isub, 267, [], .null), (.istore 8, 268, [], .null), (.iload 8, 270, [], .null), (.ifCond .le 10, 272, [153], .null), (.iload 6, 275, [], .null), (.iconst 1, 277, [], .int (1)), (.iadd, 278, [], .null), (.goto 5, 279, [154], .null), (.iload 6, 282, [], .null), (.istore 9, 284, [], .null), (.iload 8, 286, [], .null), (.ifCond .le 8, 288, [159], .null), (.iload 6, 291, [], .null), (.goto 7, 293, [162], .null), (.iload 6, 296, [], .null)],
  [(.iconst 1, 298, [], .int (1)), (.iadd, 299, [], .null), (.istore 10, 300, [], .null), (.iload 8, 302, [], .null), (.ifCond .ge 9, 304, [168], .null), (.iload 8, 307, [], .null), (.ineg, 309, [], .null), (.goto 5, 310, [169], .null), (.iload 8, 313, [], .null), (.iconst 2, 315, [], .int (2)), (.idiv, 316, [], .null), (.istore 11, 317, [], .null), (.aload_n 0, 319, [], .null), (.getfield 64, 320, [11, 23], .null), (.iload 9, 323, [], .null), (.iaload, 325, [], .null)],
  [(.aload_n 0, 326, [], .null), (.getfield 89, 327, [11, 34], .null), (.iload 5, 330, [], .null), (.iload 9, 332, [], .null), (.iadd, 334, [], .null), (.iaload, 335, [], .null), (.isub, 336, [], .null), (.istore 12, 337, [], .null), (.iload 7, 339, [], .null), (.ifCond .eq 22, 341, [194], .null), (.iload 11, 344, [], .null), (.iload 12, 346, [], .null), (.ifCond .ge 7, 348, [191], .null), (.iconst 0, 351, [], .int (0)), (.goto 5, 352, [192], .null), (.iload 12, 355, [], .null)],
  [(.invokestatic 285, 357, [0, 211, 2, 11], .null), (.goto 4, 360, [195], .null), (.iconst 0, 363, [], .int (0)), (.istore 11, 364, [], .null), (.aload_n 0, 366, [], .null), (.getfield 89, 367, [11, 34], .null), (.iload 5, 370, [], .null), (.iload 9, 372, [], .null), (.iadd, 374, [], .null), (.dup2, 375, [], .null), (.iaload, 376, [], .null), (.iload 11, 377, [], .null), (.iadd, 379, [], .null), (.iastore, 380, [], .null), (.aload_n 0, 381, [], .null), (.getfield 89, 382, [11, 34], .null)],
  [(.iload 5, 385, [], .null), (.iload 10, 387, [], .null), (.iadd, 389, [], .null), (.dup2, 390, [], .null), (.iaload, 391, [], .null), (.iload 11, 392, [], .null), (.isub, 394, [], .null), (.iastore, 395, [], .null), (.iinc 6 1, 396, [], .int (1)), (.goto (-194), 399, [110], .null), (.iconst 0, 402, [], .int (0)), (.istore 6, 403, [], .null), (.iconst 1, 405, [], .int (1)), (.istore 7, 406, [], .null), (.iload 7, 408, [], .null), (.bipush 6, 410, [], .int (6))],
  [(.if_icmp .ge 41, 412, [244], .null), (.aload_n 0, 415, [], .null), (.getfield 89, 416, [11, 34], .null), (.iload 5, 419, [], .null), (.iload 7, 421, [], .null), (.iadd, 423, [], .null), (.iaload, 424, [], .null), (.aload_n 0, 425, [], .null), (.getfield 89, 426, [11, 34], .null), (.iload 5, 429, [], .null), (.iload 6, 431, [], .null), (.iadd, 433, [], .null), (.iaload, 434, [], .null), (.if_icmp .le 8, 435, [240], .null), (.iload 7, 438, [], .null), (.goto 5, 440, [241], .null)],
  [(.iload 6, 443, [], .null), (.istore 6, 445, [], .null), (.iinc 7 1, 447, [], .int (1)), (.goto (-42), 450, [222], .null), (.aload_n 0, 453, [], .null), (.getfield 89, 454, [11, 34], .null), (.iload 5, 457, [], .null), (.iload 6, 459, [], .null), (.iadd, 461, [], .null), (.dup2, 462, [], .null), (.iaload, 463, [], .null), (.iload_n 3, 464, [], .null), (.aload_n 0, 465, [], .null), (.getfield 89, 466, [11, 34], .null), (.iload 5, 469, [], .null), (.iload 6, 471, [], .null)],
  [(.iadd, 473, [], .null), (.iaload, 474, [], .null), (.invokestatic 285, 475, [0, 211, 2, 11], .null), (.isub, 478, [], .null), (.iastore, 479, [], .null), (.iinc 4 1, 480, [], .int (1)), (.goto (-442), 483, [22], .null), (.return_, 486, [], .null)]]
def m_210 : MR := (210, k_210, prog_13_method_32_code, ⟨"WreckCourtModel", "fill", "(II)V"⟩, 13, none, 11)
/-- WreckCourtModel.least(II)I -/
def k_211 : List (List Ent) := [[(.iload_n 0, 0, [], .null), (.iload_n 1, 1, [], .null), (.if_icmp .ge 7, 2, [5], .null), (.iload_n 0, 5, [], .null), (.goto 4, 6, [6], .null), (.iload_n 1, 9, [], .null), (.ireturn, 10, [], .null)]]
def m_211 : MR := (211, k_211, prog_13_method_31_code, ⟨"WreckCourtModel", "least", "(II)I"⟩, 2, (some .int), 11)
/-- WreckCourtModel.isOpen(II)Z -/
def k_212 : List (List Ent) := [[(.ldc 230, 0, [], .int (-1000000)), (.istore_n 3, 2, [], .null), (.iconst 0, 3, [], .int (0)), (.istore 4, 4, [], .null), (.iload 4, 6, [], .null), (.aload_n 0, 8, [], .null), (.getfield 277, 9, [11, 26], .null), (.if_icmp .ge 60, 12, [38], .null), (.aload_n 0, 15, [], .null), (.getfield 71, 16, [11, 27], .null), (.iload 4, 19, [], .null), (.iaload, 21, [], .null), (.iload_n 1, 22, [], .null), (.if_icmp .ne 43, 23, [36], .null), (.aload_n 0, 26, [], .null), (.getfield 74, 27, [11, 28], .null)],
  [(.iload 4, 30, [], .null), (.iaload, 32, [], .null), (.iload_n 2, 33, [], .null), (.if_icmp .gt 32, 34, [36], .null), (.iload_n 3, 37, [], .null), (.ldc 230, 38, [], .int (-1000000)), (.if_icmp .eq 19, 40, [32], .null), (.aload_n 0, 43, [], .null), (.getfield 74, 44, [11, 28], .null), (.iload 4, 47, [], .null), (.iaload, 49, [], .null), (.aload_n 0, 50, [], .null), (.getfield 74, 51, [11, 28], .null), (.iload_n 3, 54, [], .null), (.iaload, 55, [], .null), (.if_icmp .lt 8, 56, [34], .null)],
  [(.iload 4, 59, [], .null), (.goto 4, 61, [35], .null), (.iload_n 3, 64, [], .null), (.istore_n 3, 65, [], .null), (.iinc 4 1, 66, [], .int (1)), (.goto (-63), 69, [4], .null), (.iload_n 3, 72, [], .null), (.ldc 230, 73, [], .int (-1000000)), (.if_icmp .eq 13, 75, [47], .null), (.aload_n 0, 78, [], .null), (.getfield 77, 79, [11, 29], .null), (.iload_n 3, 82, [], .null), (.iaload, 83, [], .null), (.iconst 1, 84, [], .int (1)), (.if_icmp .ne 7, 85, [49], .null), (.iconst 1, 88, [], .int (1))],
  [(.goto 4, 89, [50], .null), (.iconst 0, 92, [], .int (0)), (.ireturn, 93, [], .null)]]
def m_212 : MR := (212, k_212, prog_13_method_30_code, ⟨"WreckCourtModel", "isOpen", "(II)Z"⟩, 5, (some .boolean), 11)
/-- WreckCourtModel.wetAll(I)I -/
def k_213 : List (List Ent) := [[(.iconst 0, 0, [], .int (0)), (.istore_n 2, 1, [], .null), (.iconst 0, 2, [], .int (0)), (.istore_n 3, 3, [], .null), (.iload_n 3, 4, [], .null), (.bipush 6, 5, [], .int (6)), (.if_icmp .ge 23, 7, [20], .null), (.iload_n 2, 10, [], .null), (.aload_n 0, 11, [], .null), (.getfield 89, 12, [11, 34], .null), (.bipush 6, 15, [], .int (6)), (.iload_n 1, 17, [], .null), (.imul, 18, [], .null), (.iload_n 3, 19, [], .null), (.iadd, 20, [], .null), (.iaload, 21, [], .null)],
  [(.iadd, 22, [], .null), (.istore_n 2, 23, [], .null), (.iinc 3 1, 24, [], .int (1)), (.goto (-23), 27, [4], .null), (.iload_n 2, 30, [], .null), (.ireturn, 31, [], .null)]]
def m_213 : MR := (213, k_213, prog_13_method_33_code, ⟨"WreckCourtModel", "wetAll", "(I)I"⟩, 4, (some .int), 11)
/-- WreckCourtModel.sinks()I -/
def k_214 : List (List Ent) := [[(.aload_n 0, 0, [], .null), (.iconst 0, 1, [], .int (0)), (.putfield 174, 2, [11, 0], .null), (.aload_n 0, 5, [], .null), (.bipush 9, 6, [], .int (9)), (.iconst 0, 8, [], .int (0)), (.invokevirtual 298, 9, [1, 215, 3, 11], .null), (.ireturn, 12, [], .null)]]
def m_214 : MR := (214, k_214, prog_13_method_36_code, ⟨"WreckCourtModel", "sinks", "()I"⟩, 1, (some .int), 11)
/-- WreckCourtModel.sinksBy(II)I -/
def k_215 : List (List Ent) := [[(.aload_n 0, 0, [], .null), (.iload_n 1, 1, [], .null), (.iload_n 2, 2, [], .null), (.invokevirtual 291, 3, [1, 210, 3, 11], .null), (.iconst 1, 6, [], .int (1)), (.istore_n 3, 7, [], .null), (.iload_n 3, 8, [], .null), (.sipush 241, 9, [], .int (241)), (.if_icmp .ge 23, 12, [19], .null), (.aload_n 0, 15, [], .null), (.iload_n 3, 16, [], .null), (.invokevirtual 295, 17, [1, 213, 2, 11], .null), (.aload_n 0, 20, [], .null), (.getfield 67, 21, [11, 25], .null), (.if_icmp .lt 5, 24, [17], .null), (.iload_n 3, 27, [], .null)],
  [(.ireturn, 28, [], .null), (.iinc 3 1, 29, [], .int (1)), (.goto (-24), 32, [6], .null), (.ldc 230, 35, [], .int (-1000000)), (.ireturn, 37, [], .null)]]
def m_215 : MR := (215, k_215, prog_13_method_35_code, ⟨"WreckCourtModel", "sinksBy", "(II)I"⟩, 4, (some .int), 11)
/-- WreckCourtModel.other(II)I -/
def k_216 : List (List Ent) := [[(.aload_n 0, 0, [], .null), (.iconst 0, 1, [], .int (0)), (.putfield 174, 2, [11, 0], .null), (.iload_n 1, 5, [], .null), (.i2l, 6, [], .null), (.lconst 0, 7, [], .long (0)), (.ldc2_w 301, 8, [], .long (3)), (.invokestatic 183, 11, [0, 184, 3, 11], .null), (.ifCond .eq 41, 14, [29], .null), (.iload_n 2, 17, [], .null), (.i2l, 18, [], .null), (.lconst 0, 19, [], .long (0)), (.iload_n 1, 20, [], .null), (.iconst 2, 21, [], .int (2)), (.if_icmp .ge 9, 22, [17], .null), (.ldc2_w 257, 25, [], .long (4))],
  [(.goto 21, 28, [27], .null), (.iload_n 1, 31, [], .null), (.iconst 2, 32, [], .int (2)), (.if_icmp .ne 9, 33, [22], .null), (.ldc2_w 268, 36, [], .long (100)), (.goto 10, 39, [27], .null), (.aload_n 0, 42, [], .null), (.getfield 282, 43, [11, 30], .null), (.iconst 1, 46, [], .int (1)), (.isub, 47, [], .null), (.i2l, 48, [], .null), (.invokestatic 183, 49, [0, 184, 3, 11], .null), (.ifCond .ne 6, 52, [31], .null), (.ldc 193, 55, [], .int (-1000001)), (.ireturn, 57, [], .null), (.aload_n 0, 58, [], .null)],
  [(.iload_n 1, 59, [], .null), (.iload_n 2, 60, [], .null), (.invokevirtual 298, 61, [1, 215, 3, 11], .null), (.ireturn, 64, [], .null)]]
def m_216 : MR := (216, k_216, prog_13_method_37_code, ⟨"WreckCourtModel", "other", "(II)I"⟩, 3, (some .int), 11)
/-- WreckCourtModel.fact(IIIIIIII)I -/
def k_217 : List (List Ent) := [[(.aload_n 0, 0, [], .null), (.iconst 0, 1, [], .int (0)), (.putfield 174, 2, [11, 0], .null), (.iload_n 1, 5, [], .null), (.i2l, 6, [], .null), (.lconst 0, 7, [], .long (0)), (.ldc2_w 301, 8, [], .long (3)), (.invokestatic 183, 11, [0, 184, 3, 11], .null), (.ifCond .eq 72, 14, [39], .null), (.iload_n 2, 17, [], .null), (.i2l, 18, [], .null), (.lconst 0, 19, [], .long (0)), (.ldc2_w 301, 20, [], .long (3)), (.invokestatic 183, 23, [0, 184, 3, 11], .null), (.ifCond .eq 60, 26, [39], .null), (.iload_n 3, 29, [], .null)],
  [(.invokestatic 214, 30, [0, 193, 1, 11], .null), (.ifCond .eq 53, 33, [39], .null), (.iload 4, 36, [], .null), (.invokestatic 207, 38, [0, 190, 1, 11], .null), (.ifCond .eq 45, 41, [39], .null), (.iload 5, 44, [], .null), (.invokestatic 207, 46, [0, 190, 1, 11], .null), (.ifCond .eq 37, 49, [39], .null), (.iload 6, 52, [], .null), (.i2l, 54, [], .null), (.lconst 0, 55, [], .long (0)), (.ldc2_w 308, 56, [], .long (2000)), (.invokestatic 183, 59, [0, 184, 3, 11], .null), (.ifCond .eq 24, 62, [39], .null), (.iload 7, 65, [], .null), (.i2l, 67, [], .null)],
  [(.lconst 0, 68, [], .long (0)), (.ldc2_w 191, 69, [], .long (2)), (.invokestatic 183, 72, [0, 184, 3, 11], .null), (.ifCond .eq 11, 75, [39], .null), (.iload 8, 78, [], .null), (.invokestatic 310, 80, [0, 218, 1, 11], .null), (.ifCond .ne 6, 83, [41], .null), (.ldc 193, 86, [], .int (-1000001)), (.ireturn, 88, [], .null), (.aload_n 0, 89, [], .null), (.getfield 305, 90, [11, 35], .null), (.bipush 12, 93, [], .int (12)), (.if_icmp .ne 6, 95, [47], .null), (.ldc 210, 98, [], .int (-1000003)), (.ireturn, 100, [], .null), (.aload_n 0, 101, [], .null)],
  [(.getfield 92, 102, [11, 36], .null), (.aload_n 0, 105, [], .null), (.getfield 305, 106, [11, 35], .null), (.iload_n 1, 109, [], .null), (.iastore, 110, [], .null), (.aload_n 0, 111, [], .null), (.getfield 95, 112, [11, 37], .null), (.aload_n 0, 115, [], .null), (.getfield 305, 116, [11, 35], .null), (.iload_n 2, 119, [], .null), (.iastore, 120, [], .null), (.aload_n 0, 121, [], .null), (.getfield 98, 122, [11, 38], .null), (.aload_n 0, 125, [], .null), (.getfield 305, 126, [11, 35], .null), (.iload_n 3, 129, [], .null)],
  [(.iastore, 130, [], .null), (.aload_n 0, 131, [], .null), (.getfield 101, 132, [11, 39], .null), (.aload_n 0, 135, [], .null), (.getfield 305, 136, [11, 35], .null), (.iload 4, 139, [], .null), (.iastore, 141, [], .null), (.aload_n 0, 142, [], .null), (.getfield 104, 143, [11, 40], .null), (.aload_n 0, 146, [], .null), (.getfield 305, 147, [11, 35], .null), (.iload 5, 150, [], .null), (.iastore, 152, [], .null), (.aload_n 0, 153, [], .null), (.getfield 107, 154, [11, 41], .null), (.aload_n 0, 157, [], .null)],
  [(.getfield 305, 158, [11, 35], .null), (.iload 6, 161, [], .null), (.iastore, 163, [], .null), (.aload_n 0, 164, [], .null), (.getfield 110, 165, [11, 42], .null), (.aload_n 0, 168, [], .null), (.getfield 305, 169, [11, 35], .null), (.iload 7, 172, [], .null), (.iastore, 174, [], .null), (.aload_n 0, 175, [], .null), (.getfield 113, 176, [11, 43], .null), (.aload_n 0, 179, [], .null), (.getfield 305, 180, [11, 35], .null), (.iload 8, 183, [], .null), (.iastore, 185, [], .null), (.aload_n 0, 186, [], .null)],
  [(.getfield 116, 187, [11, 44], .null), (.aload_n 0, 190, [], .null), (.getfield 305, 191, [11, 35], .null), (.ldc 230, 194, [], .int (-1000000)), (.iastore, 196, [], .null), (.aload_n 0, 197, [], .null), (.dup, 198, [], .null), (.getfield 305, 199, [11, 35], .null), (.iconst 1, 202, [], .int (1)), (.iadd, 203, [], .null), (.putfield 305, 204, [11, 35], .null), (.aload_n 0, 207, [], .null), (.getfield 305, 208, [11, 35], .null), (.iconst 1, 211, [], .int (1)), (.isub, 212, [], .null), (.ireturn, 213, [], .null)]]
def m_217 : MR := (217, k_217, prog_13_method_40_code, ⟨"WreckCourtModel", "fact", "(IIIIIIII)I"⟩, 9, (some .int), 11)
/-- WreckCourtModel.isDay(I)Z -/
def k_218 : List (List Ent) := [[(.iload_n 0, 0, [], .null), (.i2l, 1, [], .null), (.lconst 0, 2, [], .long (0)), (.ldc2_w 303, 3, [], .long (99)), (.invokestatic 183, 6, [0, 184, 3, 11], .null), (.ireturn, 9, [], .null)]]
def m_218 : MR := (218, k_218, prog_13_method_38_code, ⟨"WreckCourtModel", "isDay", "(I)Z"⟩, 1, (some .boolean), 11)
/-- WreckCourtModel.withdraw(II)I -/
def k_219 : List (List Ent) := [[(.aload_n 0, 0, [], .null), (.iconst 0, 1, [], .int (0)), (.putfield 174, 2, [11, 0], .null), (.aload_n 0, 5, [], .null), (.iload_n 1, 6, [], .null), (.invokevirtual 313, 7, [1, 220, 2, 11], .null), (.ifCond .eq 20, 10, [16], .null), (.iload_n 2, 13, [], .null), (.invokestatic 310, 14, [0, 218, 1, 11], .null), (.ifCond .eq 13, 17, [16], .null), (.iload_n 2, 20, [], .null), (.aload_n 0, 21, [], .null), (.getfield 113, 22, [11, 43], .null), (.iload_n 1, 25, [], .null), (.iaload, 26, [], .null), (.if_icmp .ge 6, 27, [18], .null)],
  [(.ldc 193, 30, [], .int (-1000001)), (.ireturn, 32, [], .null), (.aload_n 0, 33, [], .null), (.iload_n 1, 34, [], .null), (.invokevirtual 316, 35, [1, 221, 2, 11], .null), (.ifCond .eq 14, 38, [28], .null), (.aload_n 0, 41, [], .null), (.getfield 116, 42, [11, 44], .null), (.iload_n 1, 45, [], .null), (.iaload, 46, [], .null), (.ldc 230, 47, [], .int (-1000000)), (.if_icmp .eq 7, 49, [30], .null), (.ldc_w 319, 52, [], .int (-1000002)), (.ireturn, 55, [], .null), (.aload_n 0, 56, [], .null), (.getfield 116, 57, [11, 44], .null)],
  [(.iload_n 1, 60, [], .null), (.iload_n 2, 61, [], .null), (.iastore, 62, [], .null), (.iconst 1, 63, [], .int (1)), (.ireturn, 64, [], .null)]]
def m_219 : MR := (219, k_219, prog_13_method_42_code, ⟨"WreckCourtModel", "withdraw", "(II)I"⟩, 3, (some .int), 11)
/-- WreckCourtModel.isFact(I)Z -/
def k_220 : List (List Ent) := [[(.iload_n 1, 0, [], .null), (.i2l, 1, [], .null), (.lconst 0, 2, [], .long (0)), (.aload_n 0, 3, [], .null), (.getfield 305, 4, [11, 35], .null), (.iconst 1, 7, [], .int (1)), (.isub, 8, [], .null), (.i2l, 9, [], .null), (.invokestatic 183, 10, [0, 184, 3, 11], .null), (.ireturn, 13, [], .null)]]
def m_220 : MR := (220, k_220, prog_13_method_39_code, ⟨"WreckCourtModel", "isFact", "(I)Z"⟩, 2, (some .boolean), 11)
/-- WreckCourtModel.isWord(I)Z -/
def k_221 : List (List Ent) := [[(.aload_n 0, 0, [], .null), (.getfield 92, 1, [11, 36], .null), (.iload_n 1, 4, [], .null), (.iaload, 5, [], .null), (.iconst 1, 6, [], .int (1)), (.if_icmp .eq 13, 7, [12], .null), (.aload_n 0, 10, [], .null), (.getfield 92, 11, [11, 36], .null), (.iload_n 1, 14, [], .null), (.iaload, 15, [], .null), (.iconst 2, 16, [], .int (2)), (.if_icmp .ne 7, 17, [14], .null), (.iconst 1, 20, [], .int (1)), (.goto 4, 21, [15], .null), (.iconst 0, 24, [], .int (0)), (.ireturn, 25, [], .null)]]
def m_221 : MR := (221, k_221, prog_13_method_41_code, ⟨"WreckCourtModel", "isWord", "(I)Z"⟩, 2, (some .boolean), 11)
/-- WreckCourtModel.quarrel(IIIII)I -/
def k_222 : List (List Ent) := [[(.aload_n 0, 0, [], .null), (.iconst 0, 1, [], .int (0)), (.putfield 174, 2, [11, 0], .null), (.aload_n 0, 5, [], .null), (.iload_n 1, 6, [], .null), (.invokevirtual 313, 7, [1, 220, 2, 11], .null), (.ifCond .eq 39, 10, [23], .null), (.aload_n 0, 13, [], .null), (.iload_n 2, 14, [], .null), (.invokevirtual 313, 15, [1, 220, 2, 11], .null), (.ifCond .eq 31, 18, [23], .null), (.iload_n 1, 21, [], .null), (.iload_n 2, 22, [], .null), (.if_icmp .eq 26, 23, [23], .null), (.iload_n 3, 26, [], .null), (.invokestatic 325, 27, [0, 223, 1, 11], .null)],
  [(.ifCond .eq 19, 30, [23], .null), (.iload 4, 33, [], .null), (.invokestatic 325, 35, [0, 223, 1, 11], .null), (.ifCond .eq 11, 38, [23], .null), (.iload 5, 41, [], .null), (.invokestatic 325, 43, [0, 223, 1, 11], .null), (.ifCond .ne 6, 46, [25], .null), (.ldc 193, 49, [], .int (-1000001)), (.ireturn, 51, [], .null), (.aload_n 0, 52, [], .null), (.iload_n 1, 53, [], .null), (.iload_n 2, 54, [], .null), (.aload_n 0, 55, [], .null), (.iload_n 1, 56, [], .null), (.iload_n 2, 57, [], .null), (.invokevirtual 328, 58, [1, 224, 3, 11], .null)],
  [(.iload_n 3, 61, [], .null), (.iload 4, 62, [], .null), (.iload 5, 64, [], .null), (.invokevirtual 331, 66, [1, 225, 7, 11], .null), (.ifCond .eq 7, 69, [39], .null), (.iconst 1, 72, [], .int (1)), (.goto 4, 73, [40], .null), (.iconst 0, 76, [], .int (0)), (.ireturn, 77, [], .null)]]
def m_222 : MR := (222, k_222, prog_13_method_47_code, ⟨"WreckCourtModel", "quarrel", "(IIIII)I"⟩, 6, (some .int), 11)
/-- WreckCourtModel.isClock(I)Z -/
def k_223 : List (List Ent) := [[(.iload_n 0, 0, [], .null), (.i2l, 1, [], .null), (.ldc2_w 323, 2, [], .long (-3)), (.ldc2_w 301, 5, [], .long (3)), (.invokestatic 183, 8, [0, 184, 3, 11], .null), (.ireturn, 11, [], .null)]]
def m_223 : MR := (223, k_223, prog_13_method_46_code, ⟨"WreckCourtModel", "isClock", "(I)Z"⟩, 1, (some .boolean), 11)
/-- WreckCourtModel.farFacts(II)I -/
def k_224 : List (List Ent) := [[(.aload_n 0, 0, [], .null), (.getfield 101, 1, [11, 39], .null), (.iload_n 1, 4, [], .null), (.iaload, 5, [], .null), (.aload_n 0, 6, [], .null), (.getfield 104, 7, [11, 40], .null), (.iload_n 1, 10, [], .null), (.iaload, 11, [], .null), (.aload_n 0, 12, [], .null), (.getfield 101, 13, [11, 39], .null), (.iload_n 2, 16, [], .null), (.iaload, 17, [], .null), (.aload_n 0, 18, [], .null), (.getfield 104, 19, [11, 40], .null), (.iload_n 2, 22, [], .null), (.iaload, 23, [], .null)],
  [(.invokestatic 240, 24, [0, 203, 4, 11], .null), (.ireturn, 27, [], .null)]]
def m_224 : MR := (224, k_224, prog_13_method_44_code, ⟨"WreckCourtModel", "farFacts", "(II)I"⟩, 3, (some .int), 11)
/-- WreckCourtModel.isQuarrel(IIIIII)Z -/
def k_225 : List (List Ent) := [[(.aload_n 0, 0, [], .null), (.iload_n 1, 1, [], .null), (.iload 4, 2, [], .null), (.iload 5, 4, [], .null), (.iload 6, 6, [], .null), (.invokevirtual 320, 8, [1, 226, 5, 11], .null), (.aload_n 0, 11, [], .null), (.iload_n 2, 12, [], .null), (.iload 4, 13, [], .null), (.iload 5, 15, [], .null), (.iload 6, 17, [], .null), (.invokevirtual 320, 19, [1, 226, 5, 11], .null), (.isub, 22, [], .null), (.istore 7, 23, [], .null), (.aload_n 0, 25, [], .null), (.getfield 95, 26, [11, 37], .null)],
  [(.iload_n 1, 29, [], .null), (.iaload, 30, [], .null), (.aload_n 0, 31, [], .null), (.getfield 95, 32, [11, 37], .null), (.iload_n 2, 35, [], .null), (.iaload, 36, [], .null), (.if_icmp .ne 41, 37, [45], .null), (.iload_n 3, 40, [], .null), (.aload_n 0, 41, [], .null), (.getfield 107, 42, [11, 41], .null), (.iload_n 1, 45, [], .null), (.iaload, 46, [], .null), (.aload_n 0, 47, [], .null), (.getfield 107, 48, [11, 41], .null), (.iload_n 2, 51, [], .null), (.iaload, 52, [], .null)],
  [(.iadd, 53, [], .null), (.bipush 50, 54, [], .int (50)), (.iload 7, 56, [], .null), (.ifCond .ge 9, 58, [39], .null), (.iload 7, 61, [], .null), (.ineg, 63, [], .null), (.goto 5, 64, [40], .null), (.iload 7, 67, [], .null), (.imul, 69, [], .null), (.iadd, 70, [], .null), (.if_icmp .le 7, 71, [45], .null), (.iconst 1, 74, [], .int (1)), (.goto 4, 75, [46], .null), (.iconst 0, 78, [], .int (0)), (.ireturn, 79, [], .null)]]
def m_225 : MR := (225, k_225, prog_13_method_45_code, ⟨"WreckCourtModel", "isQuarrel", "(IIIIII)Z"⟩, 8, (some .boolean), 11)
/-- WreckCourtModel.timeOf(IIII)I -/
def k_226 : List (List Ent) := [[(.aload_n 0, 0, [], .null), (.getfield 110, 1, [11, 42], .null), (.iload_n 1, 4, [], .null), (.iaload, 5, [], .null), (.ifCond .ne 7, 6, [7], .null), (.iload_n 2, 9, [], .null), (.goto 19, 10, [16], .null), (.aload_n 0, 13, [], .null), (.getfield 110, 14, [11, 42], .null), (.iload_n 1, 17, [], .null), (.iaload, 18, [], .null), (.iconst 1, 19, [], .int (1)), (.if_icmp .ne 7, 20, [15], .null), (.iload_n 3, 23, [], .null), (.goto 5, 24, [16], .null), (.iload 4, 27, [], .null)],
  [(.istore 5, 29, [], .null), (.aload_n 0, 31, [], .null), (.getfield 98, 32, [11, 38], .null), (.iload_n 1, 35, [], .null), (.iaload, 36, [], .null), (.aload_n 0, 37, [], .null), (.iload_n 1, 38, [], .null), (.invokevirtual 316, 39, [1, 221, 2, 11], .null), (.ifCond .eq 8, 42, [27], .null), (.iload 5, 45, [], .null), (.goto 4, 47, [28], .null), (.iconst 0, 50, [], .int (0)), (.iadd, 51, [], .null), (.ireturn, 52, [], .null)]]
def m_226 : MR := (226, k_226, prog_13_method_43_code, ⟨"WreckCourtModel", "timeOf", "(IIII)I"⟩, 6, (some .int), 11)
/-- WreckCourtModel.court(II)I -/
def k_227 : List (List Ent) := [[(.aload_n 0, 0, [], .null), (.iconst 0, 1, [], .int (0)), (.putfield 174, 2, [11, 0], .null), (.iload_n 1, 5, [], .null), (.invokestatic 310, 6, [0, 218, 1, 11], .null), (.ifCond .eq 15, 9, [12], .null), (.iload_n 2, 12, [], .null), (.i2l, 13, [], .null), (.lconst 0, 14, [], .long (0)), (.ldc2_w 181, 15, [], .long (7)), (.invokestatic 183, 18, [0, 184, 3, 11], .null), (.ifCond .ne 6, 21, [14], .null), (.ldc 193, 24, [], .int (-1000001)), (.ireturn, 26, [], .null), (.aload_n 0, 27, [], .null), (.iload_n 1, 28, [], .null)],
  [(.invokevirtual 353, 29, [1, 228, 2, 11], .null), (.iconst 0, 32, [], .int (0)), (.istore_n 3, 33, [], .null), (.iconst 0, 34, [], .int (0)), (.istore 4, 35, [], .null), (.ldc 230, 37, [], .int (-1000000)), (.istore 5, 39, [], .null), (.ldc 230, 41, [], .int (-1000000)), (.istore 6, 43, [], .null), (.iconst 0, 45, [], .int (0)), (.istore 7, 46, [], .null), (.iload 7, 48, [], .null), (.aload_n 0, 50, [], .null), (.getfield 305, 51, [11, 35], .null), (.if_icmp .ge 148, 54, [104], .null), (.iload_n 3, 57, [], .null)],
  [(.aload_n 0, 58, [], .null), (.getfield 335, 59, [11, 49], .null), (.iload 7, 62, [], .null), (.ishr, 64, [], .null), (.iconst 1, 65, [], .int (1)), (.iand, 66, [], .null), (.iconst 1, 67, [], .int (1)), (.if_icmp .ne 21, 68, [49], .null), (.aload_n 0, 71, [], .null), (.getfield 132, 72, [11, 53], .null), (.iload 7, 75, [], .null), (.iaload, 77, [], .null), (.aload_n 0, 78, [], .null), (.getfield 347, 79, [11, 51], .null), (.if_icmp .ne 7, 82, [49], .null), (.iconst 1, 85, [], .int (1))],
  [(.goto 4, 86, [50], .null), (.iconst 0, 89, [], .int (0)), (.iadd, 90, [], .null), (.istore_n 3, 91, [], .null), (.aload_n 0, 92, [], .null), (.iload 7, 93, [], .null), (.invokevirtual 357, 95, [1, 231, 2, 11], .null), (.ifCond .eq 98, 98, [102], .null), (.iinc 4 1, 101, [], .int (1)), (.aload_n 0, 104, [], .null), (.getfield 132, 105, [11, 53], .null), (.iload 7, 108, [], .null), (.iaload, 110, [], .null), (.aload_n 0, 111, [], .null), (.getfield 347, 112, [11, 51], .null), (.aload_n 0, 115, [], .null)],
  [(.getfield 132, 116, [11, 53], .null), (.iload 7, 119, [], .null), (.iaload, 121, [], .null), (.isub, 122, [], .null), (.if_icmp .le 13, 123, [74], .null), (.aload_n 0, 126, [], .null), (.getfield 132, 127, [11, 53], .null), (.iload 7, 130, [], .null), (.iaload, 132, [], .null), (.goto 15, 133, [81], .null), (.aload_n 0, 136, [], .null), (.getfield 347, 137, [11, 51], .null), (.aload_n 0, 140, [], .null), (.getfield 132, 141, [11, 53], .null), (.iload 7, 144, [], .null), (.iaload, 146, [], .null)],
  [(.isub, 147, [], .null), (.istore 8, 148, [], .null), (.iload 6, 150, [], .null), (.ldc 230, 152, [], .int (-1000000)), (.if_icmp .eq 10, 154, [88], .null), (.iload 8, 157, [], .null), (.iload 6, 159, [], .null), (.if_icmp .ge 8, 161, [90], .null), (.iload 7, 164, [], .null), (.goto 5, 166, [91], .null), (.iload 5, 169, [], .null), (.istore 5, 171, [], .null), (.iload 6, 173, [], .null), (.ldc 230, 175, [], .int (-1000000)), (.if_icmp .eq 10, 177, [98], .null), (.iload 8, 180, [], .null)],
  [(.iload 6, 182, [], .null), (.if_icmp .ge 8, 184, [100], .null), (.iload 8, 187, [], .null), (.goto 5, 189, [101], .null), (.iload 6, 192, [], .null), (.istore 6, 194, [], .null), (.iinc 7 1, 196, [], .int (1)), (.goto (-151), 199, [27], .null), (.iload_n 2, 202, [], .null), (.ifCond .ne 10, 203, [109], .null), (.aload_n 0, 206, [], .null), (.getfield 341, 207, [11, 50], .null), (.goto 74, 210, [144], .null), (.iload_n 2, 213, [], .null), (.iconst 1, 214, [], .int (1)), (.if_icmp .ne 10, 215, [115], .null)],
  [(.aload_n 0, 218, [], .null), (.getfield 347, 219, [11, 51], .null), (.goto 62, 222, [144], .null), (.iload_n 2, 225, [], .null), (.iconst 2, 226, [], .int (2)), (.if_icmp .ne 13, 227, [122], .null), (.aload_n 0, 230, [], .null), (.getfield 335, 231, [11, 49], .null), (.invokestatic 344, 234, [0, 230, 1, 11], .null), (.goto 47, 237, [144], .null), (.iload_n 2, 240, [], .null), (.iconst 3, 241, [], .int (3)), (.if_icmp .ne 10, 242, [128], .null), (.aload_n 0, 245, [], .null), (.getfield 350, 246, [11, 52], .null), (.goto 35, 249, [144], .null)],
  [(.iload_n 2, 252, [], .null), (.iconst 4, 253, [], .int (4)), (.if_icmp .ne 7, 254, [133], .null), (.iload_n 3, 257, [], .null), (.goto 26, 258, [144], .null), (.iload_n 2, 261, [], .null), (.iconst 5, 262, [], .int (5)), (.if_icmp .ne 8, 263, [138], .null), (.iload 4, 266, [], .null), (.goto 16, 268, [144], .null), (.iload_n 2, 271, [], .null), (.bipush 6, 272, [], .int (6)), (.if_icmp .ne 8, 274, [143], .null), (.iload 5, 277, [], .null), (.goto 5, 279, [144], .null), (.iload 6, 282, [], .null)],
  [(.ireturn, 284, [], .null)]]
def m_227 : MR := (227, k_227, prog_13_method_52_code, ⟨"WreckCourtModel", "court", "(II)I"⟩, 9, (some .int), 11)
/-- WreckCourtModel.judge(I)V -/
def k_228 : List (List Ent) := [[(.aload_n 0, 0, [], .null), (.iconst 0, 1, [], .int (0)), (.putfield 335, 2, [11, 49], .null), (.iconst 0, 5, [], .int (0)), (.istore_n 2, 6, [], .null), (.iload_n 2, 7, [], .null), (.aload_n 0, 8, [], .null), (.getfield 305, 9, [11, 35], .null), (.if_icmp .ge 64, 12, [45], .null), (.aload_n 0, 15, [], .null), (.dup, 16, [], .null), (.getfield 335, 17, [11, 49], .null), (.aload_n 0, 20, [], .null), (.iload_n 2, 21, [], .null), (.iload_n 1, 22, [], .null), (.invokevirtual 338, 23, [1, 229, 3, 11], .null)],
  [(.ifCond .eq 9, 26, [21], .null), (.iconst 1, 29, [], .int (1)), (.iload_n 2, 30, [], .null), (.ishl, 31, [], .null), (.goto 4, 32, [22], .null), (.iconst 0, 35, [], .int (0)), (.ior, 36, [], .null), (.putfield 335, 37, [11, 49], .null), (.iconst 0, 40, [], .int (0)), (.istore_n 3, 41, [], .null), (.iload_n 3, 42, [], .null), (.iload_n 2, 43, [], .null), (.if_icmp .ge 26, 44, [43], .null), (.aload_n 0, 47, [], .null), (.getfield 126, 48, [11, 47], .null), (.bipush 12, 51, [], .int (12))],
  [(.iload_n 2, 53, [], .null), (.imul, 54, [], .null), (.iload_n 3, 55, [], .null), (.iadd, 56, [], .null), (.aload_n 0, 57, [], .null), (.iload_n 2, 58, [], .null), (.iload_n 3, 59, [], .null), (.invokevirtual 328, 60, [1, 224, 3, 11], .null), (.iastore, 63, [], .null), (.iinc 3 1, 64, [], .int (1)), (.goto (-25), 67, [26], .null), (.iinc 2 1, 70, [], .int (1)), (.goto (-66), 73, [5], .null), (.iconst 0, 76, [], .int (0)), (.istore_n 2, 77, [], .null), (.iload_n 2, 78, [], .null)],
  [(.sipush 4096, 79, [], .int (4096)), (.if_icmp .ge 16, 82, [57], .null), (.aload_n 0, 85, [], .null), (.getfield 119, 86, [11, 45], .null), (.iload_n 2, 89, [], .null), (.iconst 0, 90, [], .int (0)), (.bastore, 91, [], .null), (.iinc 2 1, 92, [], .int (1)), (.goto (-17), 95, [47], .null), (.iconst 0, 98, [], .int (0)), (.istore_n 2, 99, [], .null), (.iload_n 2, 100, [], .null), (.sipush 343, 101, [], .int (343)), (.if_icmp .ge 271, 104, [217], .null), (.iload_n 2, 107, [], .null), (.bipush 49, 108, [], .int (49))],
  [(.idiv, 110, [], .null), (.iconst 3, 111, [], .int (3)), (.isub, 112, [], .null), (.istore_n 3, 113, [], .null), (.iload_n 2, 114, [], .null), (.bipush 7, 115, [], .int (7)), (.idiv, 117, [], .null), (.bipush 7, 118, [], .int (7)), (.irem, 120, [], .null), (.iconst 3, 121, [], .int (3)), (.isub, 122, [], .null), (.istore 4, 123, [], .null), (.iload_n 2, 125, [], .null), (.bipush 7, 126, [], .int (7)), (.irem, 128, [], .null), (.iconst 3, 129, [], .int (3))],
  [(.isub, 130, [], .null), (.istore 5, 131, [], .null), (.iconst 0, 133, [], .int (0)), (.istore 6, 134, [], .null), (.iload 6, 136, [], .null), (.aload_n 0, 138, [], .null), (.getfield 305, 139, [11, 35], .null), (.if_icmp .ge 80, 142, [130], .null), (.aload_n 0, 145, [], .null), (.getfield 129, 146, [11, 48], .null), (.iload 6, 149, [], .null), (.iconst 0, 151, [], .int (0)), (.iastore, 152, [], .null), (.iconst 0, 153, [], .int (0)), (.istore 7, 154, [], .null), (.iload 7, 156, [], .null)],
  [(.iload 6, 158, [], .null), (.if_icmp .ge 56, 160, [128], .null), (.aload_n 0, 163, [], .null), (.getfield 129, 164, [11, 48], .null), (.iload 6, 167, [], .null), (.dup2, 169, [], .null), (.iaload, 170, [], .null), (.aload_n 0, 171, [], .null), (.iload 6, 172, [], .null), (.iload 7, 174, [], .null), (.aload_n 0, 176, [], .null), (.getfield 126, 177, [11, 47], .null), (.bipush 12, 180, [], .int (12)), (.iload 6, 182, [], .null), (.imul, 184, [], .null), (.iload 7, 185, [], .null)],
  [(.iadd, 187, [], .null), (.iaload, 188, [], .null), (.iload_n 3, 189, [], .null), (.iload 4, 190, [], .null), (.iload 5, 192, [], .null), (.invokevirtual 331, 194, [1, 225, 7, 11], .null), (.ifCond .eq 10, 197, [123], .null), (.iconst 1, 200, [], .int (1)), (.iload 7, 201, [], .null), (.ishl, 203, [], .null), (.goto 4, 204, [124], .null), (.iconst 0, 207, [], .int (0)), (.ior, 208, [], .null), (.iastore, 209, [], .null), (.iinc 7 1, 210, [], .int (1)), (.goto (-57), 213, [95], .null)],
  [(.iinc 6 1, 216, [], .int (1)), (.goto (-83), 219, [84], .null), (.aload_n 0, 222, [], .null), (.getfield 123, 223, [11, 46], .null), (.iconst 0, 226, [], .int (0)), (.iconst 1, 227, [], .int (1)), (.bastore, 228, [], .null), (.aload_n 0, 229, [], .null), (.getfield 119, 230, [11, 45], .null), (.iconst 0, 233, [], .int (0)), (.iconst 1, 234, [], .int (1)), (.bastore, 235, [], .null), (.iconst 0, 236, [], .int (0)), (.istore 6, 237, [], .null), (.iconst 1, 239, [], .int (1)), (.istore 7, 240, [], .null)],
  [(.iload 7, 242, [], .null), (.iconst 1, 244, [], .int (1)), (.aload_n 0, 245, [], .null), (.getfield 305, 246, [11, 35], .null), (.ishl, 249, [], .null), (.if_icmp .ge 119, 250, [215], .null), (.iload 6, 253, [], .null), (.iload 7, 255, [], .null), (.iload 6, 257, [], .null), (.iconst 1, 259, [], .int (1)), (.iadd, 260, [], .null), (.ishr, 261, [], .null), (.ifCond .le 7, 262, [159], .null), (.iconst 1, 265, [], .int (1)), (.goto 4, 266, [160], .null), (.iconst 0, 269, [], .int (0))],
  [(.iadd, 270, [], .null), (.istore 6, 271, [], .null), (.iload 7, 273, [], .null), (.iconst 1, 275, [], .int (1)), (.iload 6, 276, [], .null), (.ishl, 278, [], .null), (.iconst (-1), 279, [], .int (-1)), (.ixor, 280, [], .null), (.iand, 281, [], .null), (.istore 8, 282, [], .null), (.aload_n 0, 284, [], .null), (.getfield 123, 285, [11, 46], .null), (.iload 7, 288, [], .null), (.aload_n 0, 290, [], .null), (.getfield 123, 291, [11, 46], .null), (.iload 8, 294, [], .null)],
  [(.baload, 296, [], .null), (.ifCond .eq 20, 297, [187], .null), (.aload_n 0, 300, [], .null), (.getfield 129, 301, [11, 48], .null), (.iload 6, 304, [], .null), (.iaload, 306, [], .null), (.iload 8, 307, [], .null), (.iand, 309, [], .null), (.ifCond .ne 7, 310, [187], .null), (.iconst 1, 313, [], .int (1)), (.goto 4, 314, [188], .null), (.iconst 0, 317, [], .int (0)), (.bastore, 318, [], .null), (.aload_n 0, 319, [], .null), (.getfield 119, 320, [11, 45], .null), (.iload 7, 323, [], .null)],
  [(.aload_n 0, 325, [], .null), (.getfield 119, 326, [11, 45], .null), (.iload 7, 329, [], .null), (.baload, 331, [], .null), (.ifCond .ne 25, 332, [209], .null), (.aload_n 0, 335, [], .null), (.getfield 123, 336, [11, 46], .null), (.iload 7, 339, [], .null), (.baload, 341, [], .null), (.ifCond .eq 19, 342, [211], .null), (.iload 7, 345, [], .null), (.aload_n 0, 347, [], .null), (.getfield 335, 348, [11, 49], .null), (.iconst (-1), 351, [], .int (-1)), (.ixor, 352, [], .null), (.iand, 353, [], .null)],
  [(.ifCond .ne 7, 354, [211], .null), (.iconst 1, 357, [], .int (1)), (.goto 4, 358, [212], .null), (.iconst 0, 361, [], .int (0)), (.bastore, 362, [], .null), (.iinc 7 1, 363, [], .int (1)), (.goto (-124), 366, [144], .null), (.iinc 2 1, 369, [], .int (1)), (.goto (-272), 372, [59], .null), (.aload_n 0, 375, [], .null), (.iconst 0, 376, [], .int (0)), (.putfield 341, 377, [11, 50], .null), (.iconst 0, 380, [], .int (0)), (.istore_n 2, 381, [], .null), (.iload_n 2, 382, [], .null), (.iconst 1, 383, [], .int (1))],
  [(.aload_n 0, 384, [], .null), (.getfield 305, 385, [11, 35], .null), (.ishl, 388, [], .null), (.if_icmp .ge 44, 389, [247], .null), (.aload_n 0, 392, [], .null), (.aload_n 0, 393, [], .null), (.getfield 119, 394, [11, 45], .null), (.iload_n 2, 397, [], .null), (.baload, 398, [], .null), (.ifCond .eq 21, 399, [242], .null), (.iload_n 2, 402, [], .null), (.invokestatic 344, 403, [0, 230, 1, 11], .null), (.aload_n 0, 406, [], .null), (.getfield 341, 407, [11, 50], .null), (.if_icmp .le 10, 410, [242], .null), (.iload_n 2, 413, [], .null)],
  [(.invokestatic 344, 414, [0, 230, 1, 11], .null), (.goto 7, 417, [244], .null), (.aload_n 0, 420, [], .null), (.getfield 341, 421, [11, 50], .null), (.putfield 341, 424, [11, 50], .null), (.iinc 2 1, 427, [], .int (1)), (.goto (-48), 430, [222], .null), (.aload_n 0, 433, [], .null), (.iconst 0, 434, [], .int (0)), (.putfield 347, 435, [11, 51], .null), (.aload_n 0, 438, [], .null), (.ldc 230, 439, [], .int (-1000000)), (.putfield 350, 441, [11, 52], .null), (.iconst 0, 444, [], .int (0)), (.istore_n 2, 445, [], .null), (.iload_n 2, 446, [], .null)],
  [(.bipush 12, 447, [], .int (12)), (.if_icmp .ge 16, 449, [265], .null), (.aload_n 0, 452, [], .null), (.getfield 132, 453, [11, 53], .null), (.iload_n 2, 456, [], .null), (.iconst 0, 457, [], .int (0)), (.iastore, 458, [], .null), (.iinc 2 1, 459, [], .int (1)), (.goto (-16), 462, [255], .null), (.iconst 0, 465, [], .int (0)), (.istore_n 2, 466, [], .null), (.iload_n 2, 467, [], .null), (.iconst 1, 468, [], .int (1)), (.aload_n 0, 469, [], .null), (.getfield 305, 470, [11, 35], .null), (.ishl, 473, [], .null)],
  [(.if_icmp .ge 90, 474, [321], .null), (.aload_n 0, 477, [], .null), (.getfield 119, 478, [11, 45], .null), (.iload_n 2, 481, [], .null), (.baload, 482, [], .null), (.ifCond .eq 75, 483, [319], .null), (.iload_n 2, 486, [], .null), (.invokestatic 344, 487, [0, 230, 1, 11], .null), (.aload_n 0, 490, [], .null), (.getfield 341, 491, [11, 50], .null), (.if_icmp .ne 64, 494, [319], .null), (.aload_n 0, 497, [], .null), (.dup, 498, [], .null), (.getfield 347, 499, [11, 51], .null), (.iconst 1, 502, [], .int (1)), (.iadd, 503, [], .null)],
  [(.putfield 347, 504, [11, 51], .null), (.aload_n 0, 507, [], .null), (.aload_n 0, 508, [], .null), (.getfield 350, 509, [11, 52], .null), (.ldc 230, 512, [], .int (-1000000)), (.if_icmp .ne 7, 514, [296], .null), (.iload_n 2, 517, [], .null), (.goto 7, 518, [298], .null), (.aload_n 0, 521, [], .null), (.getfield 350, 522, [11, 52], .null), (.putfield 350, 525, [11, 52], .null), (.iconst 0, 528, [], .int (0)), (.istore_n 3, 529, [], .null), (.iload_n 3, 530, [], .null), (.aload_n 0, 531, [], .null), (.getfield 305, 532, [11, 35], .null)],
  [(.if_icmp .ge 23, 535, [319], .null), (.aload_n 0, 538, [], .null), (.getfield 132, 539, [11, 53], .null), (.iload_n 3, 542, [], .null), (.dup2, 543, [], .null), (.iaload, 544, [], .null), (.iload_n 2, 545, [], .null), (.iload_n 3, 546, [], .null), (.ishr, 547, [], .null), (.iconst 1, 548, [], .int (1)), (.iand, 549, [], .null), (.iadd, 550, [], .null), (.iastore, 551, [], .null), (.iinc 3 1, 552, [], .int (1)), (.goto (-25), 555, [301], .null), (.iinc 2 1, 558, [], .int (1))],
  [(.goto (-94), 561, [267], .null), (.return_, 564, [], .null)]]
def m_228 : MR := (228, k_228, prog_13_method_50_code, ⟨"WreckCourtModel", "judge", "(I)V"⟩, 9, none, 11)
/-- WreckCourtModel.isHeard(II)Z -/
def k_229 : List (List Ent) := [[(.aload_n 0, 0, [], .null), (.getfield 113, 1, [11, 43], .null), (.iload_n 1, 4, [], .null), (.iaload, 5, [], .null), (.iload_n 2, 6, [], .null), (.if_icmp .gt 28, 7, [20], .null), (.aload_n 0, 10, [], .null), (.getfield 116, 11, [11, 44], .null), (.iload_n 1, 14, [], .null), (.iaload, 15, [], .null), (.ldc 230, 16, [], .int (-1000000)), (.if_icmp .eq 13, 18, [18], .null), (.aload_n 0, 21, [], .null), (.getfield 116, 22, [11, 44], .null), (.iload_n 1, 25, [], .null), (.iaload, 26, [], .null)],
  [(.iload_n 2, 27, [], .null), (.if_icmp .le 7, 28, [20], .null), (.iconst 1, 31, [], .int (1)), (.goto 4, 32, [21], .null), (.iconst 0, 35, [], .int (0)), (.ireturn, 36, [], .null)]]
def m_229 : MR := (229, k_229, prog_13_method_48_code, ⟨"WreckCourtModel", "isHeard", "(II)Z"⟩, 3, (some .boolean), 11)
/-- WreckCourtModel.bits(I)I -/
def k_230 : List (List Ent) := [[(.iconst 0, 0, [], .int (0)), (.istore_n 1, 1, [], .null), (.iconst 0, 2, [], .int (0)), (.istore_n 2, 3, [], .null), (.iload_n 2, 4, [], .null), (.bipush 12, 5, [], .int (12)), (.if_icmp .ge 17, 7, [17], .null), (.iload_n 1, 10, [], .null), (.iload_n 0, 11, [], .null), (.iload_n 2, 12, [], .null), (.ishr, 13, [], .null), (.iconst 1, 14, [], .int (1)), (.iand, 15, [], .null), (.iadd, 16, [], .null), (.istore_n 1, 17, [], .null), (.iinc 2 1, 18, [], .int (1))],
  [(.goto (-17), 21, [4], .null), (.iload_n 1, 24, [], .null), (.ireturn, 25, [], .null)]]
def m_230 : MR := (230, k_230, prog_13_method_49_code, ⟨"WreckCourtModel", "bits", "(I)I"⟩, 3, (some .int), 11)
/-- WreckCourtModel.isOpenFact(I)Z -/
def k_231 : List (List Ent) := [[(.aload_n 0, 0, [], .null), (.getfield 335, 1, [11, 49], .null), (.iload_n 1, 4, [], .null), (.ishr, 5, [], .null), (.iconst 1, 6, [], .int (1)), (.iand, 7, [], .null), (.iconst 1, 8, [], .int (1)), (.if_icmp .ne 29, 9, [22], .null), (.aload_n 0, 12, [], .null), (.getfield 132, 13, [11, 53], .null), (.iload_n 1, 16, [], .null), (.iaload, 17, [], .null), (.ifCond .le 20, 18, [22], .null), (.aload_n 0, 21, [], .null), (.getfield 132, 22, [11, 53], .null), (.iload_n 1, 25, [], .null)],
  [(.iaload, 26, [], .null), (.aload_n 0, 27, [], .null), (.getfield 347, 28, [11, 51], .null), (.if_icmp .ge 7, 31, [22], .null), (.iconst 1, 34, [], .int (1)), (.goto 4, 35, [23], .null), (.iconst 0, 38, [], .int (0)), (.ireturn, 39, [], .null)]]
def m_231 : MR := (231, k_231, prog_13_method_51_code, ⟨"WreckCourtModel", "isOpenFact", "(I)Z"⟩, 2, (some .boolean), 11)
/-- WreckCourtModel.sure(II)I -/
def k_232 : List (List Ent) := [[(.aload_n 0, 0, [], .null), (.iconst 0, 1, [], .int (0)), (.putfield 174, 2, [11, 0], .null), (.aload_n 0, 5, [], .null), (.iload_n 1, 6, [], .null), (.invokevirtual 313, 7, [1, 220, 2, 11], .null), (.ifCond .eq 10, 10, [10], .null), (.iload_n 2, 13, [], .null), (.invokestatic 310, 14, [0, 218, 1, 11], .null), (.ifCond .ne 6, 17, [12], .null), (.ldc 193, 20, [], .int (-1000001)), (.ireturn, 22, [], .null), (.aload_n 0, 23, [], .null), (.iload_n 2, 24, [], .null), (.invokevirtual 353, 25, [1, 228, 2, 11], .null), (.aload_n 0, 28, [], .null)],
  [(.getfield 335, 29, [11, 49], .null), (.iload_n 1, 32, [], .null), (.ishr, 33, [], .null), (.iconst 1, 34, [], .int (1)), (.iand, 35, [], .null), (.ifCond .ne 8, 36, [24], .null), (.ldc 230, 39, [], .int (-1000000)), (.goto 34, 41, [41], .null), (.aload_n 0, 44, [], .null), (.getfield 132, 45, [11, 53], .null), (.iload_n 1, 48, [], .null), (.iaload, 49, [], .null), (.aload_n 0, 50, [], .null), (.getfield 347, 51, [11, 51], .null), (.if_icmp .ne 7, 54, [33], .null), (.iconst 2, 57, [], .int (2))],
  [(.goto 17, 58, [41], .null), (.aload_n 0, 61, [], .null), (.getfield 132, 62, [11, 53], .null), (.iload_n 1, 65, [], .null), (.iaload, 66, [], .null), (.ifCond .le 7, 67, [40], .null), (.iconst 1, 70, [], .int (1)), (.goto 4, 71, [41], .null), (.iconst 0, 74, [], .int (0)), (.ireturn, 75, [], .null)]]
def m_232 : MR := (232, k_232, prog_13_method_53_code, ⟨"WreckCourtModel", "sure", "(II)I"⟩, 3, (some .int), 11)
/-- WreckCourtModel.feed(JI)I -/
def k_233 : List (List Ent) := [[(.aload_n 0, 0, [], .null), (.iconst 0, 1, [], .int (0)), (.putfield 174, 2, [11, 0], .null), (.iload_n 3, 5, [], .null), (.i2l, 6, [], .null), (.lconst 1, 7, [], .long (1)), (.ldc2_w 360, 8, [], .long (8)), (.invokestatic 183, 11, [0, 184, 3, 11], .null), (.ifCond .ne 6, 14, [11], .null), (.ldc 193, 17, [], .int (-1000001)), (.ireturn, 19, [], .null), (.aload_n 0, 20, [], .null), (.getfield 362, 21, [11, 63], .null), (.iload_n 3, 24, [], .null), (.iadd, 25, [], .null), (.sipush 400, 26, [], .int (400))],
  [(.if_icmp .le 6, 29, [19], .null), (.ldc 210, 32, [], .int (-1000003)), (.ireturn, 34, [], .null), (.iload_n 3, 35, [], .null), (.iconst 1, 36, [], .int (1)), (.isub, 37, [], .null), (.istore 4, 38, [], .null), (.iload 4, 40, [], .null), (.ifCond .lt 40, 42, [46], .null), (.aload_n 0, 45, [], .null), (.getfield 153, 46, [11, 62], .null), (.aload_n 0, 49, [], .null), (.getfield 362, 50, [11, 63], .null), (.lload_n 1, 53, [], .null), (.bipush 8, 54, [], .int (8)), (.iload 4, 56, [], .null)],
  [(.imul, 58, [], .null), (.lshr, 59, [], .null), (.ldc2_w 365, 60, [], .long (255)), (.land, 63, [], .null), (.l2i, 64, [], .null), (.iastore, 65, [], .null), (.aload_n 0, 66, [], .null), (.dup, 67, [], .null), (.getfield 362, 68, [11, 63], .null), (.iconst 1, 71, [], .int (1)), (.iadd, 72, [], .null), (.putfield 362, 73, [11, 63], .null), (.iinc 4 (-1), 76, [], .int (-1)), (.goto (-39), 79, [23], .null), (.aload_n 0, 82, [], .null), (.getfield 362, 83, [11, 63], .null)],
  [(.ireturn, 86, [], .null)]]
def m_233 : MR := (233, k_233, prog_13_method_54_code, ⟨"WreckCourtModel", "feed", "(JI)I"⟩, 5, (some .int), 11)
/-- WreckCourtModel.rules()I -/
def k_234 : List (List Ent) := [[(.aload_n 0, 0, [], .null), (.iconst 0, 1, [], .int (0)), (.putfield 174, 2, [11, 0], .null), (.aload_n 0, 5, [], .null), (.aload_n 0, 6, [], .null), (.getfield 362, 7, [11, 63], .null), (.putfield 367, 10, [11, 65], .null), (.aload_n 0, 13, [], .null), (.iconst 0, 14, [], .int (0)), (.putfield 362, 15, [11, 63], .null), (.aload_n 0, 18, [], .null), (.iconst 0, 19, [], .int (0)), (.putfield 370, 20, [11, 66], .null), (.aload_n 0, 23, [], .null), (.iconst 0, 24, [], .int (0)), (.putfield 391, 25, [11, 70], .null)],
  [(.aload_n 0, 28, [], .null), (.iconst 0, 29, [], .int (0)), (.putfield 403, 30, [11, 58], .null), (.aload_n 0, 33, [], .null), (.invokevirtual 400, 34, [1, 235, 1, 11], .null), (.aload_n 0, 37, [], .null), (.getfield 391, 38, [11, 70], .null), (.ifCond .ne 18, 41, [31], .null), (.aload_n 0, 44, [], .null), (.getfield 379, 45, [11, 67], .null), (.iconst 1, 48, [], .int (1)), (.if_icmp .eq 10, 49, [31], .null), (.aload_n 0, 52, [], .null), (.invokevirtual 444, 53, [1, 239, 1, 11], .null), (.goto (-19), 56, [21], .null), (.aload_n 0, 59, [], .null)],
  [(.getfield 391, 60, [11, 70], .null), (.ifCond .le 20, 63, [43], .null), (.aload_n 0, 66, [], .null), (.aload_n 0, 67, [], .null), (.getfield 391, 68, [11, 70], .null), (.putfield 447, 71, [11, 64], .null), (.ldc_w 450, 74, [], .int (-1000100)), (.aload_n 0, 77, [], .null), (.getfield 394, 78, [11, 71], .null), (.isub, 81, [], .null), (.ireturn, 82, [], .null), (.aload_n 0, 83, [], .null), (.aload_n 0, 84, [], .null), (.getfield 403, 85, [11, 58], .null), (.putfield 451, 88, [11, 54], .null), (.iconst 0, 91, [], .int (0))],
  [(.istore_n 1, 92, [], .null), (.iload_n 1, 93, [], .null), (.bipush 10, 94, [], .int (10)), (.if_icmp .ge 69, 96, [93], .null), (.aload_n 0, 99, [], .null), (.getfield 135, 100, [11, 55], .null), (.iload_n 1, 103, [], .null), (.aload_n 0, 104, [], .null), (.getfield 144, 105, [11, 59], .null), (.iload_n 1, 108, [], .null), (.iaload, 109, [], .null), (.iastore, 110, [], .null), (.aload_n 0, 111, [], .null), (.getfield 141, 112, [11, 57], .null), (.iload_n 1, 115, [], .null), (.aload_n 0, 116, [], .null)],
  [(.getfield 150, 117, [11, 61], .null), (.iload_n 1, 120, [], .null), (.iaload, 121, [], .null), (.iastore, 122, [], .null), (.iconst 0, 123, [], .int (0)), (.istore_n 2, 124, [], .null), (.iload_n 2, 125, [], .null), (.bipush 9, 126, [], .int (9)), (.if_icmp .ge 31, 128, [91], .null), (.aload_n 0, 131, [], .null), (.getfield 138, 132, [11, 56], .null), (.bipush 9, 135, [], .int (9)), (.iload_n 1, 137, [], .null), (.imul, 138, [], .null), (.iload_n 2, 139, [], .null), (.iadd, 140, [], .null)],
  [(.aload_n 0, 141, [], .null), (.getfield 147, 142, [11, 60], .null), (.bipush 9, 145, [], .int (9)), (.iload_n 1, 147, [], .null), (.imul, 148, [], .null), (.iload_n 2, 149, [], .null), (.iadd, 150, [], .null), (.iaload, 151, [], .null), (.iastore, 152, [], .null), (.iinc 2 1, 153, [], .int (1)), (.goto (-31), 156, [70], .null), (.iinc 1 1, 159, [], .int (1)), (.goto (-69), 162, [49], .null), (.aload_n 0, 165, [], .null), (.getfield 451, 166, [11, 54], .null), (.ireturn, 169, [], .null)]]
def m_234 : MR := (234, k_234, prog_13_method_65_code, ⟨"WreckCourtModel", "rules", "()I"⟩, 3, (some .int), 11)
/-- WreckCourtModel.step()V -/
def k_235 : List (List Ent) := [[(.aload_n 0, 0, [], .null), (.aload_n 0, 1, [], .null), (.getfield 370, 2, [11, 66], .null), (.invokevirtual 373, 5, [1, 236, 2, 11], .null), (.bipush 32, 8, [], .int (32)), (.if_icmp .eq 16, 10, [12], .null), (.aload_n 0, 13, [], .null), (.aload_n 0, 14, [], .null), (.getfield 370, 15, [11, 66], .null), (.invokevirtual 373, 18, [1, 236, 2, 11], .null), (.bipush 10, 21, [], .int (10)), (.if_icmp .ne 16, 23, [19], .null), (.aload_n 0, 26, [], .null), (.dup, 27, [], .null), (.getfield 370, 28, [11, 66], .null), (.iconst 1, 31, [], .int (1))],
  [(.iadd, 32, [], .null), (.putfield 370, 33, [11, 66], .null), (.goto (-36), 36, [0], .null), (.aload_n 0, 39, [], .null), (.aload_n 0, 40, [], .null), (.getfield 370, 41, [11, 66], .null), (.putfield 376, 44, [11, 68], .null), (.aload_n 0, 47, [], .null), (.aload_n 0, 48, [], .null), (.getfield 370, 49, [11, 66], .null), (.invokevirtual 373, 52, [1, 236, 2, 11], .null), (.istore_n 1, 55, [], .null), (.iload_n 1, 56, [], .null), (.ldc 230, 57, [], .int (-1000000)), (.if_icmp .ne 11, 59, [35], .null), (.aload_n 0, 62, [], .null)],
  [(.iconst 1, 63, [], .int (1)), (.putfield 379, 64, [11, 67], .null), (.goto 165, 67, [116], .null), (.iload_n 1, 70, [], .null), (.invokestatic 382, 71, [0, 237, 1, 11], .null), (.ifCond .eq 56, 74, [64], .null), (.aload_n 0, 77, [], .null), (.aload_n 0, 78, [], .null), (.getfield 370, 79, [11, 66], .null), (.invokevirtual 373, 82, [1, 236, 2, 11], .null), (.invokestatic 382, 85, [0, 237, 1, 11], .null), (.ifCond .eq 16, 88, [51], .null), (.aload_n 0, 91, [], .null), (.dup, 92, [], .null), (.getfield 370, 93, [11, 66], .null), (.iconst 1, 96, [], .int (1))],
  [(.iadd, 97, [], .null), (.putfield 370, 98, [11, 66], .null), (.goto (-24), 101, [38], .null), (.aload_n 0, 104, [], .null), (.aload_n 0, 105, [], .null), (.getfield 370, 106, [11, 66], .null), (.aload_n 0, 109, [], .null), (.getfield 376, 110, [11, 68], .null), (.isub, 113, [], .null), (.bipush 6, 114, [], .int (6)), (.if_icmp .le 7, 116, [61], .null), (.iconst 0, 119, [], .int (0)), (.goto 4, 120, [62], .null), (.iconst 2, 123, [], .int (2)), (.putfield 379, 124, [11, 67], .null), (.goto 105, 127, [116], .null)],
  [(.iload_n 1, 130, [], .null), (.invokestatic 385, 131, [0, 238, 1, 11], .null), (.ifCond .eq 55, 134, [93], .null), (.aload_n 0, 137, [], .null), (.aload_n 0, 138, [], .null), (.getfield 370, 139, [11, 66], .null), (.invokevirtual 373, 142, [1, 236, 2, 11], .null), (.invokestatic 385, 145, [0, 238, 1, 11], .null), (.ifCond .eq 16, 148, [80], .null), (.aload_n 0, 151, [], .null), (.dup, 152, [], .null), (.getfield 370, 153, [11, 66], .null), (.iconst 1, 156, [], .int (1)), (.iadd, 157, [], .null), (.putfield 370, 158, [11, 66], .null), (.goto (-24), 161, [67], .null)],
  [(.aload_n 0, 164, [], .null), (.aload_n 0, 165, [], .null), (.getfield 370, 166, [11, 66], .null), (.aload_n 0, 169, [], .null), (.getfield 376, 170, [11, 68], .null), (.isub, 173, [], .null), (.iconst 4, 174, [], .int (4)), (.if_icmp .le 7, 175, [90], .null), (.iconst 0, 178, [], .int (0)), (.goto 4, 179, [91], .null), (.iconst 3, 182, [], .int (3)), (.putfield 379, 183, [11, 67], .null), (.goto 46, 186, [116], .null), (.aload_n 0, 189, [], .null), (.dup, 190, [], .null), (.getfield 370, 191, [11, 66], .null)],
  [(.iconst 1, 194, [], .int (1)), (.iadd, 195, [], .null), (.putfield 370, 196, [11, 66], .null), (.aload_n 0, 199, [], .null), (.iload_n 1, 200, [], .null), (.bipush 59, 201, [], .int (59)), (.if_icmp .eq 21, 203, [112], .null), (.iload_n 1, 206, [], .null), (.bipush 60, 207, [], .int (60)), (.if_icmp .eq 15, 209, [112], .null), (.iload_n 1, 212, [], .null), (.bipush 62, 213, [], .int (62)), (.if_icmp .eq 9, 215, [112], .null), (.iload_n 1, 218, [], .null), (.bipush 61, 219, [], .int (61)), (.if_icmp .ne 7, 221, [114], .null)],
  [(.iconst 4, 224, [], .int (4)), (.goto 4, 225, [115], .null), (.iconst 0, 228, [], .int (0)), (.putfield 379, 229, [11, 67], .null), (.aload_n 0, 232, [], .null), (.aload_n 0, 233, [], .null), (.getfield 370, 234, [11, 66], .null), (.putfield 388, 237, [11, 69], .null), (.return_, 240, [], .null)]]
def m_235 : MR := (235, k_235, prog_13_method_58_code, ⟨"WreckCourtModel", "step", "()V"⟩, 2, none, 11)
/-- WreckCourtModel.byteAt(I)I -/
def k_236 : List (List Ent) := [[(.iload_n 1, 0, [], .null), (.aload_n 0, 1, [], .null), (.getfield 367, 2, [11, 65], .null), (.if_icmp .ge 12, 5, [9], .null), (.aload_n 0, 8, [], .null), (.getfield 153, 9, [11, 62], .null), (.iload_n 1, 12, [], .null), (.iaload, 13, [], .null), (.goto 5, 14, [10], .null), (.ldc 230, 17, [], .int (-1000000)), (.ireturn, 19, [], .null)]]
def m_236 : MR := (236, k_236, prog_13_method_55_code, ⟨"WreckCourtModel", "byteAt", "(I)I"⟩, 2, (some .int), 11)
/-- WreckCourtModel.isLetter(I)Z -/
def k_237 : List (List Ent) := [[(.iload_n 0, 0, [], .null), (.bipush 97, 1, [], .int (97)), (.if_icmp .lt 13, 3, [8], .null), (.iload_n 0, 6, [], .null), (.bipush 122, 7, [], .int (122)), (.if_icmp .gt 7, 9, [8], .null), (.iconst 1, 12, [], .int (1)), (.goto 4, 13, [9], .null), (.iconst 0, 16, [], .int (0)), (.ireturn, 17, [], .null)]]
def m_237 : MR := (237, k_237, prog_13_method_56_code, ⟨"WreckCourtModel", "isLetter", "(I)Z"⟩, 1, (some .boolean), 11)
/-- WreckCourtModel.isFigure(I)Z -/
def k_238 : List (List Ent) := [[(.iload_n 0, 0, [], .null), (.bipush 48, 1, [], .int (48)), (.if_icmp .lt 13, 3, [8], .null), (.iload_n 0, 6, [], .null), (.bipush 57, 7, [], .int (57)), (.if_icmp .gt 7, 9, [8], .null), (.iconst 1, 12, [], .int (1)), (.goto 4, 13, [9], .null), (.iconst 0, 16, [], .int (0)), (.ireturn, 17, [], .null)]]
def m_238 : MR := (238, k_238, prog_13_method_57_code, ⟨"WreckCourtModel", "isFigure", "(I)Z"⟩, 1, (some .boolean), 11)
/-- WreckCourtModel.readRule()V -/
def k_239 : List (List Ent) := [[(.aload_n 0, 0, [], .null), (.invokevirtual 406, 1, [1, 240, 1, 11], .null), (.ldc2_w 427, 4, [], .long (26982)), (.lcmp, 7, [], .null), (.ifCond .ne 17, 8, [12], .null), (.aload_n 0, 11, [], .null), (.getfield 403, 12, [11, 58], .null), (.bipush 10, 15, [], .int (10)), (.if_icmp .ne 8, 17, [12], .null), (.aload_n 0, 20, [], .null), (.iconst 3, 21, [], .int (3)), (.invokevirtual 397, 22, [1, 241, 2, 11], .null), (.aload_n 0, 25, [], .null), (.aload_n 0, 26, [], .null), (.invokevirtual 406, 27, [1, 240, 1, 11], .null), (.ldc2_w 427, 30, [], .long (26982))],
  [(.lcmp, 33, [], .null), (.ifCond .ne 7, 34, [20], .null), (.iconst 1, 37, [], .int (1)), (.goto 4, 38, [21], .null), (.iconst 0, 41, [], .int (0)), (.invokevirtual 420, 42, [1, 242, 2, 11], .null), (.iconst 0, 45, [], .int (0)), (.istore_n 1, 46, [], .null), (.aload_n 0, 47, [], .null), (.getfield 391, 48, [11, 70], .null), (.ifCond .ne 10, 51, [32], .null), (.aload_n 0, 54, [], .null), (.iconst 0, 55, [], .int (0)), (.invokevirtual 429, 56, [1, 243, 2, 11], .null), (.iconst 1, 59, [], .int (1)), (.istore_n 1, 60, [], .null)],
  [(.aload_n 0, 61, [], .null), (.getfield 391, 62, [11, 70], .null), (.ifCond .ne 42, 65, [54], .null), (.aload_n 0, 68, [], .null), (.invokevirtual 406, 69, [1, 240, 1, 11], .null), (.ldc2_w 432, 72, [], .long (6385252)), (.lcmp, 75, [], .null), (.ifCond .ne 31, 76, [54], .null), (.iload_n 1, 79, [], .null), (.iconst 3, 80, [], .int (3)), (.if_icmp .ne 11, 81, [47], .null), (.aload_n 0, 84, [], .null), (.iconst 2, 85, [], .int (2)), (.invokevirtual 397, 86, [1, 241, 2, 11], .null), (.goto (-28), 89, [32], .null), (.aload_n 0, 92, [], .null)],
  [(.invokevirtual 400, 93, [1, 235, 1, 11], .null), (.aload_n 0, 96, [], .null), (.iload_n 1, 97, [], .null), (.invokevirtual 429, 98, [1, 243, 2, 11], .null), (.iinc 1 1, 101, [], .int (1)), (.goto (-43), 104, [32], .null), (.aload_n 0, 107, [], .null), (.getfield 391, 108, [11, 70], .null), (.ifCond .ne 23, 111, [67], .null), (.aload_n 0, 114, [], .null), (.aload_n 0, 115, [], .null), (.invokevirtual 406, 116, [1, 240, 1, 11], .null), (.ldc2_w 434, 119, [], .long (1836413812)), (.lcmp, 122, [], .null), (.ifCond .ne 7, 123, [65], .null), (.iconst 1, 126, [], .int (1))],
  [(.goto 4, 127, [66], .null), (.iconst 0, 130, [], .int (0)), (.invokevirtual 420, 131, [1, 242, 2, 11], .null), (.aload_n 0, 134, [], .null), (.getfield 391, 135, [11, 70], .null), (.ifCond .ne 97, 138, [119], .null), (.aload_n 0, 141, [], .null), (.invokevirtual 406, 142, [1, 240, 1, 11], .null), (.lstore_n 2, 145, [], .null), (.lload_n 2, 146, [], .null), (.ldc2_w 436, 147, [], .long (1936486263)), (.lcmp, 150, [], .null), (.ifCond .ne 7, 151, [79], .null), (.iconst 0, 154, [], .int (0)), (.goto 41, 155, [98], .null), (.lload_n 2, 158, [], .null)],
  [(.ldc2_w 438, 159, [], .long (495791205988)), (.lcmp, 162, [], .null), (.ifCond .ne 7, 163, [85], .null), (.iconst 1, 166, [], .int (1)), (.goto 29, 167, [98], .null), (.lload_n 2, 170, [], .null), (.ldc2_w 440, 171, [], .long (465624852596)), (.lcmp, 174, [], .null), (.ifCond .ne 7, 175, [91], .null), (.iconst 2, 178, [], .int (2)), (.goto 17, 179, [98], .null), (.lload_n 2, 182, [], .null), (.ldc2_w 442, 183, [], .long (1953854062)), (.lcmp, 186, [], .null), (.ifCond .ne 7, 187, [97], .null), (.iconst 3, 190, [], .int (3))],
  [(.goto 5, 191, [98], .null), (.ldc 230, 194, [], .int (-1000000)), (.istore 4, 196, [], .null), (.aload_n 0, 198, [], .null), (.getfield 150, 199, [11, 61], .null), (.aload_n 0, 202, [], .null), (.getfield 403, 203, [11, 58], .null), (.iload 4, 206, [], .null), (.iastore, 208, [], .null), (.aload_n 0, 209, [], .null), (.getfield 144, 210, [11, 59], .null), (.aload_n 0, 213, [], .null), (.getfield 403, 214, [11, 58], .null), (.iload_n 1, 217, [], .null), (.iastore, 218, [], .null), (.aload_n 0, 219, [], .null)],
  [(.iload 4, 220, [], .null), (.ldc 230, 222, [], .int (-1000000)), (.if_icmp .eq 7, 224, [117], .null), (.iconst 1, 227, [], .int (1)), (.goto 4, 228, [118], .null), (.iconst 0, 231, [], .int (0)), (.invokevirtual 420, 232, [1, 242, 2, 11], .null), (.aload_n 0, 235, [], .null), (.getfield 391, 236, [11, 70], .null), (.ifCond .ne 23, 239, [133], .null), (.aload_n 0, 242, [], .null), (.aload_n 0, 243, [], .null), (.bipush 59, 244, [], .int (59)), (.invokevirtual 424, 246, [1, 244, 2, 11], .null), (.invokevirtual 420, 249, [1, 242, 2, 11], .null), (.aload_n 0, 252, [], .null)],
  [(.dup, 253, [], .null), (.getfield 403, 254, [11, 58], .null), (.iconst 1, 257, [], .int (1)), (.iadd, 258, [], .null), (.putfield 403, 259, [11, 58], .null), (.return_, 262, [], .null)]]
def m_239 : MR := (239, k_239, prog_13_method_64_code, ⟨"WreckCourtModel", "readRule", "()V"⟩, 5, none, 11)
/-- WreckCourtModel.word()J -/
def k_240 : List (List Ent) := [[(.lconst 0, 0, [], .long (0)), (.lstore_n 1, 1, [], .null), (.aload_n 0, 2, [], .null), (.getfield 376, 3, [11, 68], .null), (.istore_n 3, 6, [], .null), (.iload_n 3, 7, [], .null), (.aload_n 0, 8, [], .null), (.getfield 388, 9, [11, 69], .null), (.if_icmp .ge 30, 12, [25], .null), (.aload_n 0, 15, [], .null), (.getfield 379, 16, [11, 67], .null), (.iconst 2, 19, [], .int (2)), (.if_icmp .ne 22, 20, [25], .null), (.lload_n 1, 23, [], .null), (.bipush 8, 24, [], .int (8)), (.lshl, 26, [], .null)],
  [(.aload_n 0, 27, [], .null), (.getfield 153, 28, [11, 62], .null), (.iload_n 3, 31, [], .null), (.iaload, 32, [], .null), (.i2l, 33, [], .null), (.lor, 34, [], .null), (.lstore_n 1, 35, [], .null), (.iinc 3 1, 36, [], .int (1)), (.goto (-32), 39, [5], .null), (.lload_n 1, 42, [], .null), (.lreturn, 43, [], .null)]]
def m_240 : MR := (240, k_240, prog_13_method_62_code, ⟨"WreckCourtModel", "word", "()J"⟩, 4, (some .long), 11)
/-- WreckCourtModel.bad(I)V -/
def k_241 : List (List Ent) := [[(.aload_n 0, 0, [], .null), (.getfield 391, 1, [11, 70], .null), (.ifCond .ne 16, 4, [10], .null), (.aload_n 0, 7, [], .null), (.iload_n 1, 8, [], .null), (.putfield 391, 9, [11, 70], .null), (.aload_n 0, 12, [], .null), (.aload_n 0, 13, [], .null), (.getfield 376, 14, [11, 68], .null), (.putfield 394, 17, [11, 71], .null), (.return_, 20, [], .null)]]
def m_241 : MR := (241, k_241, prog_13_method_59_code, ⟨"WreckCourtModel", "bad", "(I)V"⟩, 2, none, 11)
/-- WreckCourtModel.need(Z)V -/
def k_242 : List (List Ent) := [[(.iload_n 1, 0, [], .null), (.ifCond .ne 8, 1, [5], .null), (.aload_n 0, 4, [], .null), (.iconst 1, 5, [], .int (1)), (.invokevirtual 397, 6, [1, 241, 2, 11], .null), (.aload_n 0, 9, [], .null), (.getfield 391, 10, [11, 70], .null), (.ifCond .ne 7, 13, [10], .null), (.aload_n 0, 16, [], .null), (.invokevirtual 400, 17, [1, 235, 1, 11], .null), (.return_, 20, [], .null)]]
def m_242 : MR := (242, k_242, prog_13_method_60_code, ⟨"WreckCourtModel", "need", "(Z)V"⟩, 2, none, 11)
/-- WreckCourtModel.readTest(I)V -/
def k_243 : List (List Ent) := [[(.bipush 9, 0, [], .int (9)), (.aload_n 0, 2, [], .null), (.getfield 403, 3, [11, 58], .null), (.imul, 6, [], .null), (.iconst 3, 7, [], .int (3)), (.iload_n 1, 8, [], .null), (.imul, 9, [], .null), (.iadd, 10, [], .null), (.istore_n 2, 11, [], .null), (.aload_n 0, 12, [], .null), (.invokevirtual 406, 13, [1, 240, 1, 11], .null), (.lstore_n 3, 16, [], .null), (.lload_n 3, 17, [], .null), (.ldc2_w 410, 18, [], .long (495806932324)), (.lcmp, 21, [], .null), (.ifCond .ne 7, 22, [18], .null)],
  [(.iconst 0, 25, [], .int (0)), (.goto 53, 26, [43], .null), (.lload_n 3, 29, [], .null), (.ldc2_w 412, 30, [], .long (1852137842)), (.lcmp, 33, [], .null), (.ifCond .ne 7, 34, [24], .null), (.iconst 1, 37, [], .int (1)), (.goto 41, 38, [43], .null), (.lload_n 3, 41, [], .null), (.ldc2_w 414, 42, [], .long (6713191)), (.lcmp, 45, [], .null), (.ifCond .ne 7, 46, [30], .null), (.iconst 2, 49, [], .int (2)), (.goto 29, 50, [43], .null), (.lload_n 3, 53, [], .null), (.ldc2_w 416, 54, [], .long (474214787188))],
  [(.lcmp, 57, [], .null), (.ifCond .ne 7, 58, [36], .null), (.iconst 3, 61, [], .int (3)), (.goto 17, 62, [43], .null), (.lload_n 3, 65, [], .null), (.ldc2_w 418, 66, [], .long (512736126322)), (.lcmp, 69, [], .null), (.ifCond .ne 7, 70, [42], .null), (.iconst 4, 73, [], .int (4)), (.goto 5, 74, [43], .null), (.ldc 230, 77, [], .int (-1000000)), (.istore 5, 79, [], .null), (.aload_n 0, 81, [], .null), (.getfield 147, 82, [11, 60], .null), (.iload_n 2, 85, [], .null), (.iload 5, 86, [], .null)],
  [(.iastore, 88, [], .null), (.aload_n 0, 89, [], .null), (.iload 5, 90, [], .null), (.ldc 230, 92, [], .int (-1000000)), (.if_icmp .eq 7, 94, [55], .null), (.iconst 1, 97, [], .int (1)), (.goto 4, 98, [56], .null), (.iconst 0, 101, [], .int (0)), (.invokevirtual 420, 102, [1, 242, 2, 11], .null), (.aload_n 0, 105, [], .null), (.getfield 391, 106, [11, 70], .null), (.ifCond .ne 69, 109, [94], .null), (.aload_n 0, 112, [], .null), (.bipush 60, 113, [], .int (60)), (.invokevirtual 424, 115, [1, 244, 2, 11], .null), (.ifCond .ne 21, 118, [72], .null)],
  [(.aload_n 0, 121, [], .null), (.bipush 62, 122, [], .int (62)), (.invokevirtual 424, 124, [1, 244, 2, 11], .null), (.ifCond .ne 12, 127, [72], .null), (.aload_n 0, 130, [], .null), (.bipush 61, 131, [], .int (61)), (.invokevirtual 424, 133, [1, 244, 2, 11], .null), (.ifCond .eq 7, 136, [74], .null), (.iconst 1, 139, [], .int (1)), (.goto 4, 140, [75], .null), (.iconst 0, 143, [], .int (0)), (.istore 6, 144, [], .null), (.aload_n 0, 146, [], .null), (.getfield 147, 147, [11, 60], .null), (.iload_n 2, 150, [], .null), (.iconst 1, 151, [], .int (1))],
  [(.iadd, 152, [], .null), (.iload 6, 153, [], .null), (.ifCond .eq 15, 155, [89], .null), (.aload_n 0, 158, [], .null), (.getfield 153, 159, [11, 62], .null), (.aload_n 0, 162, [], .null), (.getfield 376, 163, [11, 68], .null), (.iaload, 166, [], .null), (.goto 4, 167, [90], .null), (.iconst 0, 170, [], .int (0)), (.iastore, 171, [], .null), (.aload_n 0, 172, [], .null), (.iload 6, 173, [], .null), (.invokevirtual 420, 175, [1, 242, 2, 11], .null), (.iconst 0, 178, [], .int (0)), (.istore 6, 179, [], .null)],
  [(.aload_n 0, 181, [], .null), (.getfield 376, 182, [11, 68], .null), (.istore 7, 185, [], .null), (.iload 7, 187, [], .null), (.aload_n 0, 189, [], .null), (.getfield 388, 190, [11, 69], .null), (.if_icmp .ge 35, 193, [120], .null), (.aload_n 0, 196, [], .null), (.getfield 379, 197, [11, 67], .null), (.iconst 3, 200, [], .int (3)), (.if_icmp .ne 27, 201, [120], .null), (.bipush 10, 204, [], .int (10)), (.iload 6, 206, [], .null), (.imul, 208, [], .null), (.aload_n 0, 209, [], .null), (.getfield 153, 210, [11, 62], .null)],
  [(.iload 7, 213, [], .null), (.iaload, 215, [], .null), (.iadd, 216, [], .null), (.bipush 48, 217, [], .int (48)), (.isub, 219, [], .null), (.istore 6, 220, [], .null), (.iinc 7 1, 222, [], .int (1)), (.goto (-38), 225, [99], .null), (.aload_n 0, 228, [], .null), (.getfield 147, 229, [11, 60], .null), (.iload_n 2, 232, [], .null), (.iconst 2, 233, [], .int (2)), (.iadd, 234, [], .null), (.iload 6, 235, [], .null), (.iastore, 237, [], .null), (.aload_n 0, 238, [], .null)],
  [(.getfield 391, 239, [11, 70], .null), (.ifCond .ne 20, 242, [139], .null), (.aload_n 0, 245, [], .null), (.aload_n 0, 246, [], .null), (.getfield 379, 247, [11, 67], .null), (.iconst 3, 250, [], .int (3)), (.if_icmp .ne 7, 251, [137], .null), (.iconst 1, 254, [], .int (1)), (.goto 4, 255, [138], .null), (.iconst 0, 258, [], .int (0)), (.invokevirtual 420, 259, [1, 242, 2, 11], .null), (.return_, 262, [], .null)]]
def m_243 : MR := (243, k_243, prog_13_method_63_code, ⟨"WreckCourtModel", "readTest", "(I)V"⟩, 8, none, 11)
/-- WreckCourtModel.is(I)Z -/
def k_244 : List (List Ent) := [[(.aload_n 0, 0, [], .null), (.getfield 379, 1, [11, 67], .null), (.iconst 4, 4, [], .int (4)), (.if_icmp .ne 20, 5, [13], .null), (.aload_n 0, 8, [], .null), (.getfield 153, 9, [11, 62], .null), (.aload_n 0, 12, [], .null), (.getfield 376, 13, [11, 68], .null), (.iaload, 16, [], .null), (.iload_n 1, 17, [], .null), (.if_icmp .ne 7, 18, [13], .null), (.iconst 1, 21, [], .int (1)), (.goto 4, 22, [14], .null), (.iconst 0, 25, [], .int (0)), (.ireturn, 26, [], .null)]]
def m_244 : MR := (244, k_244, prog_13_method_61_code, ⟨"WreckCourtModel", "is", "(I)Z"⟩, 2, (some .boolean), 11)
/-- WreckCourtModel.fault()I -/
def k_245 : List (List Ent) := [[(.aload_n 0, 0, [], .null), (.iconst 0, 1, [], .int (0)), (.putfield 174, 2, [11, 0], .null), (.aload_n 0, 5, [], .null), (.getfield 447, 6, [11, 64], .null), (.ireturn, 9, [], .null)]]
def m_245 : MR := (245, k_245, prog_13_method_66_code, ⟨"WreckCourtModel", "fault", "()I"⟩, 1, (some .int), 11)
/-- WreckCourtModel.done(IIII)I -/
def k_246 : List (List Ent) := [[(.aload_n 0, 0, [], .null), (.iconst 0, 1, [], .int (0)), (.putfield 174, 2, [11, 0], .null), (.aload_n 0, 5, [], .null), (.iload_n 1, 6, [], .null), (.invokevirtual 211, 7, [1, 192, 2, 11], .null), (.ifCond .eq 38, 10, [25], .null), (.iload_n 2, 13, [], .null), (.i2l, 14, [], .null), (.lconst 0, 15, [], .long (0)), (.ldc2_w 301, 16, [], .long (3)), (.invokestatic 183, 19, [0, 184, 3, 11], .null), (.ifCond .eq 26, 22, [25], .null), (.iload_n 3, 25, [], .null), (.invokestatic 214, 26, [0, 193, 1, 11], .null), (.ifCond .eq 19, 29, [25], .null)],
  [(.iload 4, 32, [], .null), (.i2l, 34, [], .null), (.iload_n 3, 35, [], .null), (.iconst 1, 36, [], .int (1)), (.iadd, 37, [], .null), (.i2l, 38, [], .null), (.ldc2_w 244, 39, [], .long (240)), (.invokestatic 183, 42, [0, 184, 3, 11], .null), (.ifCond .ne 6, 45, [27], .null), (.ldc 193, 48, [], .int (-1000001)), (.ireturn, 50, [], .null), (.aload_n 0, 51, [], .null), (.getfield 454, 52, [11, 72], .null), (.bipush 40, 55, [], .int (40)), (.if_icmp .ne 6, 57, [33], .null), (.ldc 210, 60, [], .int (-1000003))],
  [(.ireturn, 62, [], .null), (.aload_n 0, 63, [], .null), (.getfield 156, 64, [11, 73], .null), (.aload_n 0, 67, [], .null), (.getfield 454, 68, [11, 72], .null), (.iload_n 1, 71, [], .null), (.iastore, 72, [], .null), (.aload_n 0, 73, [], .null), (.getfield 159, 74, [11, 74], .null), (.aload_n 0, 77, [], .null), (.getfield 454, 78, [11, 72], .null), (.iload_n 2, 81, [], .null), (.iastore, 82, [], .null), (.aload_n 0, 83, [], .null), (.getfield 162, 84, [11, 75], .null), (.aload_n 0, 87, [], .null)],
  [(.getfield 454, 88, [11, 72], .null), (.iload_n 3, 91, [], .null), (.iastore, 92, [], .null), (.aload_n 0, 93, [], .null), (.getfield 165, 94, [11, 76], .null), (.aload_n 0, 97, [], .null), (.getfield 454, 98, [11, 72], .null), (.iload 4, 101, [], .null), (.iastore, 103, [], .null), (.aload_n 0, 104, [], .null), (.dup, 105, [], .null), (.getfield 454, 106, [11, 72], .null), (.iconst 1, 109, [], .int (1)), (.iadd, 110, [], .null), (.putfield 454, 111, [11, 72], .null), (.aload_n 0, 114, [], .null)],
  [(.getfield 454, 115, [11, 72], .null), (.ireturn, 118, [], .null)]]
def m_246 : MR := (246, k_246, prog_13_method_67_code, ⟨"WreckCourtModel", "done", "(IIII)I"⟩, 5, (some .int), 11)
/-- WreckCourtModel.owes(III)I -/
def k_247 : List (List Ent) := [[(.aload_n 0, 0, [], .null), (.iconst 0, 1, [], .int (0)), (.putfield 174, 2, [11, 0], .null), (.aload_n 0, 5, [], .null), (.iload_n 1, 6, [], .null), (.invokevirtual 211, 7, [1, 192, 2, 11], .null), (.ifCond .eq 22, 10, [16], .null), (.iload_n 2, 13, [], .null), (.invokestatic 214, 14, [0, 193, 1, 11], .null), (.ifCond .eq 15, 17, [16], .null), (.iload_n 3, 20, [], .null), (.i2l, 21, [], .null), (.lconst 0, 22, [], .long (0)), (.ldc2_w 301, 23, [], .long (3)), (.invokestatic 183, 26, [0, 184, 3, 11], .null), (.ifCond .ne 6, 29, [18], .null)],
  [(.ldc 193, 32, [], .int (-1000001)), (.ireturn, 34, [], .null), (.aload_n 0, 35, [], .null), (.invokevirtual 259, 36, [1, 197, 1, 11], .null), (.aload_n 0, 39, [], .null), (.bipush 9, 40, [], .int (9)), (.iconst 0, 42, [], .int (0)), (.invokevirtual 291, 43, [1, 210, 3, 11], .null), (.aload_n 0, 46, [], .null), (.iload_n 1, 47, [], .null), (.iload_n 2, 48, [], .null), (.invokevirtual 457, 49, [1, 248, 3, 11], .null), (.aload_n 0, 52, [], .null), (.iload_n 3, 53, [], .null), (.invokevirtual 460, 54, [1, 249, 2, 11], .null), (.ireturn, 57, [], .null)]]
def m_247 : MR := (247, k_247, prog_13_method_70_code, ⟨"WreckCourtModel", "owes", "(III)I"⟩, 4, (some .int), 11)
/-- WreckCourtModel.look(II)V -/
def k_248 : List (List Ent) := [[(.aload_n 0, 0, [], .null), (.getfield 168, 1, [11, 77], .null), (.iconst 0, 4, [], .int (0)), (.aload_n 0, 5, [], .null), (.iload_n 1, 6, [], .null), (.iload_n 2, 7, [], .null), (.invokevirtual 262, 8, [1, 199, 3, 11], .null), (.iastore, 11, [], .null), (.aload_n 0, 12, [], .null), (.getfield 168, 13, [11, 77], .null), (.iconst 1, 16, [], .int (1)), (.aload_n 0, 17, [], .null), (.iload_n 1, 18, [], .null), (.iload_n 2, 19, [], .null), (.invokevirtual 265, 20, [1, 200, 3, 11], .null), (.iastore, 23, [], .null)],
  [(.aload_n 0, 24, [], .null), (.getfield 168, 25, [11, 77], .null), (.iconst 2, 28, [], .int (2)), (.aload_n 0, 29, [], .null), (.iconst 0, 30, [], .int (0)), (.iload_n 2, 31, [], .null), (.invokevirtual 249, 32, [1, 201, 3, 11], .null), (.ifCond .eq 7, 35, [26], .null), (.iconst 1, 38, [], .int (1)), (.goto 4, 39, [27], .null), (.iconst 0, 42, [], .int (0)), (.iastore, 43, [], .null), (.aload_n 0, 44, [], .null), (.getfield 168, 45, [11, 77], .null), (.iconst 3, 48, [], .int (3)), (.aload_n 0, 49, [], .null)],
  [(.iconst 1, 50, [], .int (1)), (.iload_n 2, 51, [], .null), (.invokevirtual 249, 52, [1, 201, 3, 11], .null), (.ifCond .eq 7, 55, [38], .null), (.iconst 1, 58, [], .int (1)), (.goto 4, 59, [39], .null), (.iconst 0, 62, [], .int (0)), (.iastore, 63, [], .null), (.aload_n 0, 64, [], .null), (.getfield 168, 65, [11, 77], .null), (.iconst 4, 68, [], .int (4)), (.iload_n 1, 69, [], .null), (.ifCond .ne 11, 70, [49], .null), (.aload_n 0, 73, [], .null), (.iload_n 2, 74, [], .null), (.invokevirtual 295, 75, [1, 213, 2, 11], .null)],
  [(.goto 4, 78, [50], .null), (.iconst 0, 81, [], .int (0)), (.iastore, 82, [], .null), (.return_, 83, [], .null)]]
def m_248 : MR := (248, k_248, prog_13_method_68_code, ⟨"WreckCourtModel", "look", "(II)V"⟩, 3, none, 11)
/-- WreckCourtModel.ruleFor(I)I -/
def k_249 : List (List Ent) := [[(.iconst 0, 0, [], .int (0)), (.istore_n 2, 1, [], .null), (.iload_n 2, 2, [], .null), (.aload_n 0, 3, [], .null), (.getfield 451, 4, [11, 54], .null), (.if_icmp .ge 152, 7, [88], .null), (.aload_n 0, 10, [], .null), (.getfield 141, 11, [11, 57], .null), (.iload_n 2, 14, [], .null), (.iaload, 15, [], .null), (.iload_n 1, 16, [], .null), (.if_icmp .ne 7, 17, [14], .null), (.iconst 1, 20, [], .int (1)), (.goto 4, 21, [15], .null), (.iconst 0, 24, [], .int (0)), (.istore_n 3, 25, [], .null)],
  [(.iconst 0, 26, [], .int (0)), (.istore 4, 27, [], .null), (.iload 4, 29, [], .null), (.aload_n 0, 31, [], .null), (.getfield 135, 32, [11, 55], .null), (.iload_n 2, 35, [], .null), (.iaload, 36, [], .null), (.if_icmp .ge 110, 37, [82], .null), (.bipush 9, 40, [], .int (9)), (.iload_n 2, 42, [], .null), (.imul, 43, [], .null), (.iconst 3, 44, [], .int (3)), (.iload 4, 45, [], .null), (.imul, 47, [], .null), (.iadd, 48, [], .null), (.istore 5, 49, [], .null)],
  [(.aload_n 0, 51, [], .null), (.getfield 168, 52, [11, 77], .null), (.aload_n 0, 55, [], .null), (.getfield 138, 56, [11, 56], .null), (.iload 5, 59, [], .null), (.iaload, 61, [], .null), (.iaload, 62, [], .null), (.istore 6, 63, [], .null), (.aload_n 0, 65, [], .null), (.getfield 138, 66, [11, 56], .null), (.iload 5, 69, [], .null), (.iconst 2, 71, [], .int (2)), (.iadd, 72, [], .null), (.iaload, 73, [], .null), (.istore 7, 74, [], .null), (.iload_n 3, 76, [], .null)],
  [(.ifCond .eq 62, 77, [78], .null), (.aload_n 0, 80, [], .null), (.getfield 138, 81, [11, 56], .null), (.iload 5, 84, [], .null), (.iconst 1, 86, [], .int (1)), (.iadd, 87, [], .null), (.iaload, 88, [], .null), (.bipush 60, 89, [], .int (60)), (.if_icmp .ne 13, 91, [61], .null), (.iload 6, 94, [], .null), (.iload 7, 96, [], .null), (.if_icmp .ge 41, 98, [78], .null), (.goto 34, 101, [76], .null), (.aload_n 0, 104, [], .null), (.getfield 138, 105, [11, 56], .null), (.iload 5, 108, [], .null)],
  [(.iconst 1, 110, [], .int (1)), (.iadd, 111, [], .null), (.iaload, 112, [], .null), (.bipush 62, 113, [], .int (62)), (.if_icmp .ne 13, 115, [73], .null), (.iload 6, 118, [], .null), (.iload 7, 120, [], .null), (.if_icmp .le 17, 122, [78], .null), (.goto 10, 125, [76], .null), (.iload 6, 128, [], .null), (.iload 7, 130, [], .null), (.if_icmp .ne 7, 132, [78], .null), (.iconst 1, 135, [], .int (1)), (.goto 4, 136, [79], .null), (.iconst 0, 139, [], .int (0)), (.istore_n 3, 140, [], .null)],
  [(.iinc 4 1, 141, [], .int (1)), (.goto (-115), 144, [18], .null), (.iload_n 3, 147, [], .null), (.ifCond .eq 5, 148, [86], .null), (.iload_n 2, 151, [], .null), (.ireturn, 152, [], .null), (.iinc 2 1, 153, [], .int (1)), (.goto (-154), 156, [2], .null), (.ldc 230, 159, [], .int (-1000000)), (.ireturn, 161, [], .null)]]
def m_249 : MR := (249, k_249, prog_13_method_69_code, ⟨"WreckCourtModel", "ruleFor", "(I)I"⟩, 8, (some .int), 11)
/-- WreckCourtModel.blame(II)I -/
def k_250 : List (List Ent) := [[(.aload_n 0, 0, [], .null), (.iconst 0, 1, [], .int (0)), (.putfield 174, 2, [11, 0], .null), (.aload_n 0, 5, [], .null), (.iload_n 1, 6, [], .null), (.invokevirtual 211, 7, [1, 192, 2, 11], .null), (.ifCond .eq 15, 10, [13], .null), (.iload_n 2, 13, [], .null), (.i2l, 14, [], .null), (.lconst 0, 15, [], .long (0)), (.ldc2_w 301, 16, [], .long (3)), (.invokestatic 183, 19, [0, 184, 3, 11], .null), (.ifCond .ne 6, 22, [15], .null), (.ldc 193, 25, [], .int (-1000001)), (.ireturn, 27, [], .null), (.aload_n 0, 28, [], .null)],
  [(.invokevirtual 259, 29, [1, 197, 1, 11], .null), (.aload_n 0, 32, [], .null), (.bipush 9, 33, [], .int (9)), (.iconst 0, 35, [], .int (0)), (.invokevirtual 291, 36, [1, 210, 3, 11], .null), (.iconst 0, 39, [], .int (0)), (.istore_n 3, 40, [], .null), (.ldc 230, 41, [], .int (-1000000)), (.istore 4, 43, [], .null), (.ldc 230, 45, [], .int (-1000000)), (.istore 5, 47, [], .null), (.ldc 230, 49, [], .int (-1000000)), (.istore 6, 51, [], .null), (.iconst 0, 53, [], .int (0)), (.istore 7, 54, [], .null), (.iload 7, 56, [], .null)],
  [(.sipush 240, 58, [], .int (240)), (.if_icmp .ge 77, 61, [69], .null), (.aload_n 0, 64, [], .null), (.iload_n 1, 65, [], .null), (.iload 7, 66, [], .null), (.invokevirtual 457, 68, [1, 248, 3, 11], .null), (.iconst 0, 71, [], .int (0)), (.istore 8, 72, [], .null), (.iload 8, 74, [], .null), (.iconst 4, 76, [], .int (4)), (.if_icmp .ge 55, 77, [67], .null), (.aload_n 0, 80, [], .null), (.iload 8, 81, [], .null), (.invokevirtual 460, 83, [1, 249, 2, 11], .null), (.istore 9, 86, [], .null), (.iload 9, 88, [], .null)],
  [(.ldc 230, 90, [], .int (-1000000)), (.if_icmp .eq 34, 92, [65], .null), (.aload_n 0, 95, [], .null), (.iload_n 1, 96, [], .null), (.iload 7, 97, [], .null), (.iload 8, 99, [], .null), (.invokevirtual 463, 101, [1, 251, 4, 11], .null), (.ifCond .ne 22, 104, [65], .null), (.iload_n 3, 107, [], .null), (.ifCond .ne 15, 108, [64], .null), (.iload 7, 111, [], .null), (.istore 4, 113, [], .null), (.iload 8, 115, [], .null), (.istore 5, 117, [], .null), (.iload 9, 119, [], .null), (.istore 6, 121, [], .null)],
  [(.iinc 3 1, 123, [], .int (1)), (.iinc 8 1, 126, [], .int (1)), (.goto (-55), 129, [40], .null), (.iinc 7 1, 132, [], .int (1)), (.goto (-79), 135, [31], .null), (.iload_n 2, 138, [], .null), (.ifCond .ne 7, 139, [73], .null), (.iload_n 3, 142, [], .null), (.goto 25, 143, [84], .null), (.iload_n 2, 146, [], .null), (.iconst 1, 147, [], .int (1)), (.if_icmp .ne 8, 148, [78], .null), (.iload 4, 151, [], .null), (.goto 15, 153, [84], .null), (.iload_n 2, 156, [], .null), (.iconst 2, 157, [], .int (2))],
  [(.if_icmp .ne 8, 158, [83], .null), (.iload 5, 161, [], .null), (.goto 5, 163, [84], .null), (.iload 6, 166, [], .null), (.ireturn, 168, [], .null)]]
def m_250 : MR := (250, k_250, prog_13_method_72_code, ⟨"WreckCourtModel", "blame", "(II)I"⟩, 10, (some .int), 11)
/-- WreckCourtModel.isDone(III)Z -/
def k_251 : List (List Ent) := [[(.iconst 0, 0, [], .int (0)), (.istore 4, 1, [], .null), (.iconst 0, 3, [], .int (0)), (.istore 5, 4, [], .null), (.iload 5, 6, [], .null), (.aload_n 0, 8, [], .null), (.getfield 454, 9, [11, 72], .null), (.if_icmp .ge 65, 12, [40], .null), (.iload 4, 15, [], .null), (.ifCond .ne 47, 17, [34], .null), (.aload_n 0, 20, [], .null), (.getfield 156, 21, [11, 73], .null), (.iload 5, 24, [], .null), (.iaload, 26, [], .null), (.iload_n 1, 27, [], .null), (.if_icmp .ne 40, 28, [36], .null)],
  [(.aload_n 0, 31, [], .null), (.getfield 159, 32, [11, 74], .null), (.iload 5, 35, [], .null), (.iaload, 37, [], .null), (.iload_n 3, 38, [], .null), (.if_icmp .ne 29, 39, [36], .null), (.iload_n 2, 42, [], .null), (.aload_n 0, 43, [], .null), (.getfield 162, 44, [11, 75], .null), (.iload 5, 47, [], .null), (.iaload, 49, [], .null), (.if_icmp .lt 18, 50, [36], .null), (.iload_n 2, 53, [], .null), (.aload_n 0, 54, [], .null), (.getfield 165, 55, [11, 76], .null), (.iload 5, 58, [], .null)],
  [(.iaload, 60, [], .null), (.if_icmp .ge 7, 61, [36], .null), (.iconst 1, 64, [], .int (1)), (.goto 4, 65, [37], .null), (.iconst 0, 68, [], .int (0)), (.istore 4, 69, [], .null), (.iinc 5 1, 71, [], .int (1)), (.goto (-68), 74, [4], .null), (.iload 4, 77, [], .null), (.ireturn, 79, [], .null)]]
def m_251 : MR := (251, k_251, prog_13_method_71_code, ⟨"WreckCourtModel", "isDone", "(III)Z"⟩, 6, (some .boolean), 11)
/-- WreckCourtModel.kind(I)I -/
def k_252 : List (List Ent) := [[(.aload_n 0, 0, [], .null), (.iconst 0, 1, [], .int (0)), (.putfield 174, 2, [11, 0], .null), (.aload_n 0, 5, [], .null), (.iload_n 1, 6, [], .null), (.invokevirtual 313, 7, [1, 220, 2, 11], .null), (.ifCond .eq 11, 10, [11], .null), (.aload_n 0, 13, [], .null), (.iload_n 1, 14, [], .null), (.invokevirtual 467, 15, [1, 253, 2, 11], .null), (.goto 5, 18, [12], .null), (.ldc 193, 21, [], .int (-1000001)), (.ireturn, 23, [], .null)]]
def m_252 : MR := (252, k_252, prog_13_method_75_code, ⟨"WreckCourtModel", "kind", "(I)I"⟩, 2, (some .int), 11)
/-- WreckCourtModel.kindOf(I)I -/
def k_253 : List (List Ent) := [[(.aload_n 0, 0, [], .null), (.getfield 116, 1, [11, 44], .null), (.iload_n 1, 4, [], .null), (.iaload, 5, [], .null), (.ldc 230, 6, [], .int (-1000000)), (.if_icmp .eq 7, 8, [8], .null), (.iconst 4, 11, [], .int (4)), (.goto 9, 12, [12], .null), (.aload_n 0, 15, [], .null), (.getfield 92, 16, [11, 36], .null), (.iload_n 1, 19, [], .null), (.iaload, 20, [], .null), (.ireturn, 21, [], .null)]]
def m_253 : MR := (253, k_253, prog_13_method_73_code, ⟨"WreckCourtModel", "kindOf", "(I)I"⟩, 2, (some .int), 11)
/-- WreckCourtModel.as(II)I -/
def k_254 : List (List Ent) := [[(.aload_n 0, 0, [], .null), (.iconst 0, 1, [], .int (0)), (.putfield 174, 2, [11, 0], .null), (.aload_n 0, 5, [], .null), (.iload_n 1, 6, [], .null), (.invokevirtual 313, 7, [1, 220, 2, 11], .null), (.ifCond .eq 15, 10, [13], .null), (.iload_n 2, 13, [], .null), (.i2l, 14, [], .null), (.lconst 0, 15, [], .long (0)), (.ldc2_w 257, 16, [], .long (4)), (.invokestatic 183, 19, [0, 184, 3, 11], .null), (.ifCond .ne 6, 22, [15], .null), (.ldc 193, 25, [], .int (-1000001)), (.ireturn, 27, [], .null), (.aload_n 0, 28, [], .null)],
  [(.iconst 0, 29, [], .int (0)), (.putfield 177, 30, [11, 1], .null), (.aload_n 0, 33, [], .null), (.iload_n 1, 34, [], .null), (.invokevirtual 467, 35, [1, 253, 2, 11], .null), (.iload_n 2, 38, [], .null), (.invokestatic 470, 39, [0, 255, 2, 11], .null), (.ifCond .eq 12, 42, [29], .null), (.aload_n 0, 45, [], .null), (.getfield 98, 46, [11, 38], .null), (.iload_n 1, 49, [], .null), (.iaload, 50, [], .null), (.goto 8, 51, [32], .null), (.aload_n 0, 54, [], .null), (.iconst 3, 55, [], .int (3)), (.invokevirtual 194, 56, [1, 185, 2, 11], .null)],
  [(.ireturn, 59, [], .null)]]
def m_254 : MR := (254, k_254, prog_13_method_76_code, ⟨"WreckCourtModel", "as", "(II)I"⟩, 3, (some .int), 11)
/-- WreckCourtModel.isOf(II)Z -/
def k_255 : List (List Ent) := [[(.iload_n 1, 0, [], .null), (.ifCond .eq 23, 1, [14], .null), (.iload_n 0, 4, [], .null), (.iload_n 1, 5, [], .null), (.if_icmp .eq 18, 6, [14], .null), (.iload_n 1, 9, [], .null), (.iconst 1, 10, [], .int (1)), (.if_icmp .ne 17, 11, [16], .null), (.iload_n 0, 14, [], .null), (.iconst 2, 15, [], .int (2)), (.if_icmp .eq 8, 16, [14], .null), (.iload_n 0, 19, [], .null), (.iconst 4, 20, [], .int (4)), (.if_icmp .ne 7, 21, [16], .null), (.iconst 1, 24, [], .int (1)), (.goto 4, 25, [17], .null)],
  [(.iconst 0, 28, [], .int (0)), (.ireturn, 29, [], .null)]]
def m_255 : MR := (255, k_255, prog_13_method_74_code, ⟨"WreckCourtModel", "isOf", "(II)Z"⟩, 2, (some .boolean), 11)
/-- WreckCourtModel.ask(II)I -/
def k_256 : List (List Ent) := [[(.aload_n 0, 0, [], .null), (.iconst 0, 1, [], .int (0)), (.putfield 174, 2, [11, 0], .null), (.aload_n 0, 5, [], .null), (.iload_n 1, 6, [], .null), (.invokevirtual 313, 7, [1, 220, 2, 11], .null), (.ifCond .eq 13, 10, [13], .null), (.iload_n 2, 13, [], .null), (.i2l, 14, [], .null), (.lconst 0, 15, [], .long (0)), (.lconst 1, 16, [], .long (1)), (.invokestatic 183, 17, [0, 184, 3, 11], .null), (.ifCond .ne 6, 20, [15], .null), (.ldc 193, 23, [], .int (-1000001)), (.ireturn, 25, [], .null), (.aload_n 0, 26, [], .null)],
  [(.iconst 0, 27, [], .int (0)), (.putfield 473, 28, [11, 79], .null), (.iload_n 2, 31, [], .null), (.ifCond .ne 16, 32, [27], .null), (.aload_n 0, 35, [], .null), (.iload_n 1, 36, [], .null), (.aload_n 0, 37, [], .null), (.iload_n 1, 38, [], .null), (.invokevirtual 467, 39, [1, 253, 2, 11], .null), (.invokevirtual 485, 42, [1, 257, 3, 11], .null), (.goto 13, 45, [33], .null), (.aload_n 0, 48, [], .null), (.iload_n 1, 49, [], .null), (.aload_n 0, 50, [], .null), (.iload_n 1, 51, [], .null), (.invokevirtual 467, 52, [1, 253, 2, 11], .null)],
  [(.invokevirtual 482, 55, [1, 260, 3, 11], .null), (.ireturn, 58, [], .null)]]
def m_256 : MR := (256, k_256, prog_13_method_81_code, ⟨"WreckCourtModel", "ask", "(II)I"⟩, 3, (some .int), 11)
/-- WreckCourtModel.sizeOf(II)I -/
def k_257 : List (List Ent) := [[(.iload_n 2, 0, [], .null), (.iconst 3, 1, [], .int (3)), (.if_icmp .ne 9, 2, [7], .null), (.aload_n 0, 5, [], .null), (.iload_n 1, 6, [], .null), (.invokevirtual 479, 7, [1, 258, 2, 11], .null), (.ireturn, 10, [], .null), (.iload_n 2, 11, [], .null), (.iconst 2, 12, [], .int (2)), (.if_icmp .ne 9, 13, [13], .null), (.aload_n 0, 16, [], .null), (.bipush 12, 17, [], .int (12)), (.invokevirtual 476, 19, [1, 259, 2, 11], .null), (.iload_n 2, 22, [], .null), (.iconst 4, 23, [], .int (4)), (.if_icmp .ne 9, 24, [19], .null)],
  [(.aload_n 0, 27, [], .null), (.bipush 13, 28, [], .int (13)), (.invokevirtual 476, 30, [1, 259, 2, 11], .null), (.iload_n 2, 33, [], .null), (.iconst 1, 34, [], .int (1)), (.invokestatic 470, 35, [0, 255, 2, 11], .null), (.ifCond .eq 9, 38, [26], .null), (.aload_n 0, 41, [], .null), (.bipush 11, 42, [], .int (11)), (.invokevirtual 476, 44, [1, 259, 2, 11], .null), (.aload_n 0, 47, [], .null), (.bipush 10, 48, [], .int (10)), (.invokevirtual 476, 50, [1, 259, 2, 11], .null), (.aload_n 0, 53, [], .null), (.getfield 107, 54, [11, 41], .null), (.iload_n 1, 57, [], .null)],
  [(.iaload, 58, [], .null), (.iload_n 2, 59, [], .null), (.iconst 1, 60, [], .int (1)), (.invokestatic 470, 61, [0, 255, 2, 11], .null), (.ifCond .eq 12, 64, [42], .null), (.aload_n 0, 67, [], .null), (.getfield 98, 68, [11, 38], .null), (.iload_n 1, 71, [], .null), (.iaload, 72, [], .null), (.goto 4, 73, [43], .null), (.iconst 0, 76, [], .int (0)), (.iadd, 77, [], .null), (.istore_n 3, 78, [], .null), (.iload_n 2, 79, [], .null), (.iconst 2, 80, [], .int (2)), (.if_icmp .ne 9, 81, [52], .null)],
  [(.iconst 2, 84, [], .int (2)), (.iload_n 3, 85, [], .null), (.imul, 86, [], .null), (.goto 20, 87, [63], .null), (.iload_n 2, 90, [], .null), (.iconst 4, 91, [], .int (4)), (.if_icmp .ne 14, 92, [62], .null), (.iload_n 3, 95, [], .null), (.aload_n 0, 96, [], .null), (.iload_n 1, 97, [], .null), (.iload_n 2, 98, [], .null), (.invokevirtual 482, 99, [1, 260, 3, 11], .null), (.isub, 102, [], .null), (.goto 4, 103, [63], .null), (.iload_n 3, 106, [], .null), (.ireturn, 107, [], .null)]]
def m_257 : MR := (257, k_257, prog_13_method_80_code, ⟨"WreckCourtModel", "sizeOf", "(II)I"⟩, 4, (some .int), 11)
/-- WreckCourtModel.paperSize(I)I -/
def k_258 : List (List Ent) := [[(.aload_n 0, 0, [], .null), (.bipush 14, 1, [], .int (14)), (.invokevirtual 476, 3, [1, 259, 2, 11], .null), (.aload_n 0, 6, [], .null), (.bipush 10, 7, [], .int (10)), (.invokevirtual 476, 9, [1, 259, 2, 11], .null), (.aload_n 0, 12, [], .null), (.getfield 107, 13, [11, 41], .null), (.iload_n 1, 16, [], .null), (.iaload, 17, [], .null), (.iconst 2, 18, [], .int (2)), (.idiv, 19, [], .null), (.ireturn, 20, [], .null)]]
def m_258 : MR := (258, k_258, prog_13_method_78_code, ⟨"WreckCourtModel", "paperSize", "(I)I"⟩, 2, (some .int), 11)
/-- WreckCourtModel.began(I)V -/
def k_259 : List (List Ent) := [[(.aload_n 0, 0, [], .null), (.getfield 473, 1, [11, 79], .null), (.bipush 16, 4, [], .int (16)), (.if_icmp .ge 23, 6, [16], .null), (.aload_n 0, 9, [], .null), (.getfield 171, 10, [11, 78], .null), (.aload_n 0, 13, [], .null), (.getfield 473, 14, [11, 79], .null), (.iload_n 1, 17, [], .null), (.iastore, 18, [], .null), (.aload_n 0, 19, [], .null), (.dup, 20, [], .null), (.getfield 473, 21, [11, 79], .null), (.iconst 1, 24, [], .int (1)), (.iadd, 25, [], .null), (.putfield 473, 26, [11, 79], .null)],
  [(.return_, 29, [], .null)]]
def m_259 : MR := (259, k_259, prog_13_method_77_code, ⟨"WreckCourtModel", "began", "(I)V"⟩, 2, none, 11)
/-- WreckCourtModel.markOf(II)I -/
def k_260 : List (List Ent) := [[(.iload_n 2, 0, [], .null), (.iconst 4, 1, [], .int (4)), (.if_icmp .ne 9, 2, [6], .null), (.aload_n 0, 5, [], .null), (.bipush 22, 6, [], .int (22)), (.invokevirtual 476, 8, [1, 259, 2, 11], .null), (.iload_n 2, 11, [], .null), (.iconst 1, 12, [], .int (1)), (.invokestatic 470, 13, [0, 255, 2, 11], .null), (.ifCond .eq 9, 16, [13], .null), (.aload_n 0, 19, [], .null), (.bipush 21, 20, [], .int (21)), (.invokevirtual 476, 22, [1, 259, 2, 11], .null), (.iload_n 2, 25, [], .null), (.iconst 3, 26, [], .int (3)), (.if_icmp .ne 9, 27, [19], .null)],
  [(.aload_n 0, 30, [], .null), (.bipush 23, 31, [], .int (23)), (.invokevirtual 476, 33, [1, 259, 2, 11], .null), (.aload_n 0, 36, [], .null), (.bipush 20, 37, [], .int (20)), (.invokevirtual 476, 39, [1, 259, 2, 11], .null), (.aload_n 0, 42, [], .null), (.getfield 95, 43, [11, 37], .null), (.iload_n 1, 46, [], .null), (.iaload, 47, [], .null), (.istore_n 3, 48, [], .null), (.iload_n 3, 49, [], .null), (.iload_n 2, 50, [], .null), (.iconst 1, 51, [], .int (1)), (.invokestatic 470, 52, [0, 255, 2, 11], .null), (.ifCond .eq 12, 55, [37], .null)],
  [(.aload_n 0, 58, [], .null), (.getfield 110, 59, [11, 42], .null), (.iload_n 1, 62, [], .null), (.iaload, 63, [], .null), (.goto 17, 64, [45], .null), (.iload_n 2, 67, [], .null), (.iconst 3, 68, [], .int (3)), (.if_icmp .ne 11, 69, [44], .null), (.aload_n 0, 72, [], .null), (.iload_n 1, 73, [], .null), (.invokevirtual 479, 74, [1, 258, 2, 11], .null), (.goto 4, 77, [45], .null), (.iconst 0, 80, [], .int (0)), (.iadd, 81, [], .null), (.istore_n 3, 82, [], .null), (.iload_n 2, 83, [], .null)],
  [(.iconst 4, 84, [], .int (4)), (.if_icmp .ne 10, 85, [54], .null), (.iload_n 3, 88, [], .null), (.bipush 100, 89, [], .int (100)), (.iadd, 91, [], .null), (.goto 4, 92, [55], .null), (.iload_n 3, 95, [], .null), (.ireturn, 96, [], .null)]]
def m_260 : MR := (260, k_260, prog_13_method_79_code, ⟨"WreckCourtModel", "markOf", "(II)I"⟩, 4, (some .int), 11)
/-- WreckCourtModel.trace(I)I -/
def k_261 : List (List Ent) := [[(.aload_n 0, 0, [], .null), (.iconst 0, 1, [], .int (0)), (.putfield 174, 2, [11, 0], .null), (.iload_n 1, 5, [], .null), (.i2l, 6, [], .null), (.lconst 0, 7, [], .long (0)), (.aload_n 0, 8, [], .null), (.getfield 473, 9, [11, 79], .null), (.iconst 1, 12, [], .int (1)), (.isub, 13, [], .null), (.i2l, 14, [], .null), (.invokestatic 183, 15, [0, 184, 3, 11], .null), (.ifCond .eq 12, 18, [18], .null), (.aload_n 0, 21, [], .null), (.getfield 171, 22, [11, 78], .null), (.iload_n 1, 25, [], .null)],
  [(.iaload, 26, [], .null), (.goto 5, 27, [19], .null), (.ldc 230, 30, [], .int (-1000000)), (.ireturn, 32, [], .null)]]
def m_261 : MR := (261, k_261, prog_13_method_82_code, ⟨"WreckCourtModel", "trace", "(I)I"⟩, 2, (some .int), 11)
/-- WreckCourtModel.count(I)I -/
def k_262 : List (List Ent) := [[(.aload_n 0, 0, [], .null), (.iconst 0, 1, [], .int (0)), (.putfield 174, 2, [11, 0], .null), (.iconst 0, 5, [], .int (0)), (.istore_n 2, 6, [], .null), (.iload_n 1, 7, [], .null), (.tableswitch 157 0 8 #[52, 85, 90, 95, 100, 137, 142, 147, 152], 8, [70, 7, 27, 30, 33, 36, 58, 61, 64, 67], .null), (.iconst 0, 60, [], .int (0)), (.istore_n 3, 61, [], .null), (.iload_n 3, 62, [], .null), (.bipush 8, 63, [], .int (8)), (.if_icmp .ge 26, 65, [25], .null), (.iload_n 2, 68, [], .null), (.aload_n 0, 69, [], .null), (.getfield 7, 70, [11, 2], .null), (.iload_n 3, 73, [], .null)],
  [(.iaload, 74, [], .null), (.ifCond .lt 7, 75, [20], .null), (.iconst 1, 78, [], .int (1)), (.goto 4, 79, [21], .null), (.iconst 0, 82, [], .int (0)), (.iadd, 83, [], .null), (.istore_n 2, 84, [], .null), (.iinc 3 1, 85, [], .int (1)), (.goto (-26), 88, [9], .null), (.iload_n 2, 91, [], .null), (.ireturn, 92, [], .null), (.aload_n 0, 93, [], .null), (.getfield 198, 94, [11, 7], .null), (.ireturn, 97, [], .null), (.aload_n 0, 98, [], .null), (.getfield 221, 99, [11, 10], .null)],
  [(.ireturn, 102, [], .null), (.aload_n 0, 103, [], .null), (.getfield 305, 104, [11, 35], .null), (.ireturn, 107, [], .null), (.iconst 0, 108, [], .int (0)), (.istore_n 3, 109, [], .null), (.iload_n 3, 110, [], .null), (.aload_n 0, 111, [], .null), (.getfield 305, 112, [11, 35], .null), (.if_icmp .ge 28, 115, [56], .null), (.iload_n 2, 118, [], .null), (.aload_n 0, 119, [], .null), (.getfield 116, 120, [11, 44], .null), (.iload_n 3, 123, [], .null), (.iaload, 124, [], .null), (.ldc 230, 125, [], .int (-1000000))],
  [(.if_icmp .eq 7, 127, [51], .null), (.iconst 1, 130, [], .int (1)), (.goto 4, 131, [52], .null), (.iconst 0, 134, [], .int (0)), (.iadd, 135, [], .null), (.istore_n 2, 136, [], .null), (.iinc 3 1, 137, [], .int (1)), (.goto (-30), 140, [38], .null), (.iload_n 2, 143, [], .null), (.ireturn, 144, [], .null), (.aload_n 0, 145, [], .null), (.getfield 451, 146, [11, 54], .null), (.ireturn, 149, [], .null), (.aload_n 0, 150, [], .null), (.getfield 282, 151, [11, 30], .null), (.ireturn, 154, [], .null)],
  [(.aload_n 0, 155, [], .null), (.getfield 454, 156, [11, 72], .null), (.ireturn, 159, [], .null), (.aload_n 0, 160, [], .null), (.getfield 362, 161, [11, 63], .null), (.ireturn, 164, [], .null), (.ldc 193, 165, [], .int (-1000001)), (.ireturn, 167, [], .null)]]
def m_262 : MR := (262, k_262, prog_13_method_83_code, ⟨"WreckCourtModel", "count", "(I)I"⟩, 4, (some .int), 11)
/-- WreckCourtModel.status()I -/
def k_263 : List (List Ent) := [[(.aload_n 0, 0, [], .null), (.iconst 0, 1, [], .int (0)), (.putfield 174, 2, [11, 0], .null), (.aload_n 0, 5, [], .null), (.getfield 177, 6, [11, 1], .null), (.ireturn, 9, [], .null)]]
def m_263 : MR := (263, k_263, prog_13_method_84_code, ⟨"WreckCourtModel", "status", "()I"⟩, 1, (some .int), 11)
/-- WreckCourtLaw.law([I)Z -/
def k_264 : List (List Ent) := [[(.new 7, 0, [10], .null), (.dup, 3, [], .null), (.invokespecial 9, 4, [2, 0, 1, 10], .null), (.astore_n 1, 7, [], .null), (.new 10, 8, [11], .null), (.dup, 11, [], .null), (.invokespecial 12, 12, [2, 181, 1, 11], .null), (.astore_n 2, 15, [], .null), (.iconst 0, 16, [], .int (0)), (.istore_n 3, 17, [], .null), (.iload_n 3, 18, [], .null), (.aload_n 0, 19, [], .null), (.arraylength, 20, [], .null), (.bipush 9, 21, [], .int (9)), (.isub, 23, [], .null), (.if_icmp .gt 1427, 24, [1079], .null)],
  [(.aload_n 0, 27, [], .null), (.iload_n 3, 28, [], .null), (.iaload, 29, [], .null), (.bipush 63, 30, [], .int (63)), (.iand, 32, [], .null), (.tableswitch 1412 0 32 #[147, 190, 233, 296, 319, 352, 405, 458, 501, 544, 587, 620, 663, 706, 739, 752, 785, 884, 917, 980, 1013, 1046, 1109, 1122, 1135, 1188, 1231, 1264, 1287, 1320, 1353, 1376, 1399], 33, [1077, 22, 59, 96, 153, 170, 197, 244, 291, 328, 365, 402, 429, 466, 503, 530, 537, 564, 651, 678, 735, 762, 789, 840, 847, 854, 901, 938, 965, 982, 1009, 1036, 1053, 1070], .null), (.aload_n 1, 180, [], .null), (.aload_n 0, 181, [], .null), (.iload_n 3, 182, [], .null), (.iconst 1, 183, [], .int (1)), (.iadd, 184, [], .null), (.iaload, 185, [], .null), (.aload_n 0, 186, [], .null), (.iload_n 3, 187, [], .null), (.iconst 2, 188, [], .int (2)), (.iadd, 189, [], .null)],
  [(.iaload, 190, [], .null), (.aload_n 0, 191, [], .null), (.iload_n 3, 192, [], .null), (.iconst 3, 193, [], .int (3)), (.iadd, 194, [], .null), (.iaload, 195, [], .null), (.invokevirtual 13, 196, [1, 11, 4, 10], .null), (.aload_n 2, 199, [], .null), (.aload_n 0, 200, [], .null), (.iload_n 3, 201, [], .null), (.iconst 1, 202, [], .int (1)), (.iadd, 203, [], .null), (.iaload, 204, [], .null), (.aload_n 0, 205, [], .null), (.iload_n 3, 206, [], .null), (.iconst 2, 207, [], .int (2))],
  [(.iadd, 208, [], .null), (.iaload, 209, [], .null), (.aload_n 0, 210, [], .null), (.iload_n 3, 211, [], .null), (.iconst 3, 212, [], .int (3)), (.iadd, 213, [], .null), (.iaload, 214, [], .null), (.invokevirtual 17, 215, [1, 182, 4, 11], .null), (.if_icmp .eq 1227, 218, [1077], .null), (.iconst 0, 221, [], .int (0)), (.ireturn, 222, [], .null), (.aload_n 1, 223, [], .null), (.aload_n 0, 224, [], .null), (.iload_n 3, 225, [], .null), (.iconst 1, 226, [], .int (1)), (.iadd, 227, [], .null)],
  [(.iaload, 228, [], .null), (.aload_n 0, 229, [], .null), (.iload_n 3, 230, [], .null), (.iconst 2, 231, [], .int (2)), (.iadd, 232, [], .null), (.iaload, 233, [], .null), (.aload_n 0, 234, [], .null), (.iload_n 3, 235, [], .null), (.iconst 3, 236, [], .int (3)), (.iadd, 237, [], .null), (.iaload, 238, [], .null), (.invokevirtual 18, 239, [1, 17, 4, 10], .null), (.aload_n 2, 242, [], .null), (.aload_n 0, 243, [], .null), (.iload_n 3, 244, [], .null), (.iconst 1, 245, [], .int (1))],
  [(.iadd, 246, [], .null), (.iaload, 247, [], .null), (.aload_n 0, 248, [], .null), (.iload_n 3, 249, [], .null), (.iconst 2, 250, [], .int (2)), (.iadd, 251, [], .null), (.iaload, 252, [], .null), (.aload_n 0, 253, [], .null), (.iload_n 3, 254, [], .null), (.iconst 3, 255, [], .int (3)), (.iadd, 256, [], .null), (.iaload, 257, [], .null), (.invokevirtual 21, 258, [1, 186, 4, 11], .null), (.if_icmp .eq 1184, 261, [1077], .null), (.iconst 0, 264, [], .int (0)), (.ireturn, 265, [], .null)],
  [(.aload_n 1, 266, [], .null), (.aload_n 0, 267, [], .null), (.iload_n 3, 268, [], .null), (.iconst 1, 269, [], .int (1)), (.iadd, 270, [], .null), (.iaload, 271, [], .null), (.aload_n 0, 272, [], .null), (.iload_n 3, 273, [], .null), (.iconst 2, 274, [], .int (2)), (.iadd, 275, [], .null), (.iaload, 276, [], .null), (.aload_n 0, 277, [], .null), (.iload_n 3, 278, [], .null), (.iconst 3, 279, [], .int (3)), (.iadd, 280, [], .null), (.iaload, 281, [], .null)],
  [(.aload_n 0, 282, [], .null), (.iload_n 3, 283, [], .null), (.iconst 4, 284, [], .int (4)), (.iadd, 285, [], .null), (.iaload, 286, [], .null), (.aload_n 0, 287, [], .null), (.iload_n 3, 288, [], .null), (.iconst 5, 289, [], .int (5)), (.iadd, 290, [], .null), (.iaload, 291, [], .null), (.invokevirtual 22, 292, [1, 20, 6, 10], .null), (.aload_n 2, 295, [], .null), (.aload_n 0, 296, [], .null), (.iload_n 3, 297, [], .null), (.iconst 1, 298, [], .int (1)), (.iadd, 299, [], .null)],
  [(.iaload, 300, [], .null), (.aload_n 0, 301, [], .null), (.iload_n 3, 302, [], .null), (.iconst 2, 303, [], .int (2)), (.iadd, 304, [], .null), (.iaload, 305, [], .null), (.aload_n 0, 306, [], .null), (.iload_n 3, 307, [], .null), (.iconst 3, 308, [], .int (3)), (.iadd, 309, [], .null), (.iaload, 310, [], .null), (.aload_n 0, 311, [], .null), (.iload_n 3, 312, [], .null), (.iconst 4, 313, [], .int (4)), (.iadd, 314, [], .null), (.iaload, 315, [], .null)],
  [(.aload_n 0, 316, [], .null), (.iload_n 3, 317, [], .null), (.iconst 5, 318, [], .int (5)), (.iadd, 319, [], .null), (.iaload, 320, [], .null), (.invokevirtual 26, 321, [1, 187, 6, 11], .null), (.if_icmp .eq 1121, 324, [1077], .null), (.iconst 0, 327, [], .int (0)), (.ireturn, 328, [], .null), (.aload_n 1, 329, [], .null), (.aload_n 0, 330, [], .null), (.iload_n 3, 331, [], .null), (.iconst 1, 332, [], .int (1)), (.iadd, 333, [], .null), (.iaload, 334, [], .null), (.invokevirtual 27, 335, [1, 21, 2, 10], .null)],
  [(.aload_n 2, 338, [], .null), (.aload_n 0, 339, [], .null), (.iload_n 3, 340, [], .null), (.iconst 1, 341, [], .int (1)), (.iadd, 342, [], .null), (.iaload, 343, [], .null), (.invokevirtual 31, 344, [1, 188, 2, 11], .null), (.if_icmp .eq 1098, 347, [1077], .null), (.iconst 0, 350, [], .int (0)), (.ireturn, 351, [], .null), (.aload_n 1, 352, [], .null), (.aload_n 0, 353, [], .null), (.iload_n 3, 354, [], .null), (.iconst 1, 355, [], .int (1)), (.iadd, 356, [], .null), (.iaload, 357, [], .null)],
  [(.aload_n 0, 358, [], .null), (.iload_n 3, 359, [], .null), (.iconst 2, 360, [], .int (2)), (.iadd, 361, [], .null), (.iaload, 362, [], .null), (.invokevirtual 32, 363, [1, 22, 3, 10], .null), (.aload_n 2, 366, [], .null), (.aload_n 0, 367, [], .null), (.iload_n 3, 368, [], .null), (.iconst 1, 369, [], .int (1)), (.iadd, 370, [], .null), (.iaload, 371, [], .null), (.aload_n 0, 372, [], .null), (.iload_n 3, 373, [], .null), (.iconst 2, 374, [], .int (2)), (.iadd, 375, [], .null)],
  [(.iaload, 376, [], .null), (.invokevirtual 36, 377, [1, 189, 3, 11], .null), (.if_icmp .eq 1065, 380, [1077], .null), (.iconst 0, 383, [], .int (0)), (.ireturn, 384, [], .null), (.aload_n 1, 385, [], .null), (.aload_n 0, 386, [], .null), (.iload_n 3, 387, [], .null), (.iconst 1, 388, [], .int (1)), (.iadd, 389, [], .null), (.iaload, 390, [], .null), (.aload_n 0, 391, [], .null), (.iload_n 3, 392, [], .null), (.iconst 2, 393, [], .int (2)), (.iadd, 394, [], .null), (.iaload, 395, [], .null)],
  [(.aload_n 0, 396, [], .null), (.iload_n 3, 397, [], .null), (.iconst 3, 398, [], .int (3)), (.iadd, 399, [], .null), (.iaload, 400, [], .null), (.aload_n 0, 401, [], .null), (.iload_n 3, 402, [], .null), (.iconst 4, 403, [], .int (4)), (.iadd, 404, [], .null), (.iaload, 405, [], .null), (.invokevirtual 37, 406, [1, 25, 5, 10], .null), (.aload_n 2, 409, [], .null), (.aload_n 0, 410, [], .null), (.iload_n 3, 411, [], .null), (.iconst 1, 412, [], .int (1)), (.iadd, 413, [], .null)],
  [(.iaload, 414, [], .null), (.aload_n 0, 415, [], .null), (.iload_n 3, 416, [], .null), (.iconst 2, 417, [], .int (2)), (.iadd, 418, [], .null), (.iaload, 419, [], .null), (.aload_n 0, 420, [], .null), (.iload_n 3, 421, [], .null), (.iconst 3, 422, [], .int (3)), (.iadd, 423, [], .null), (.iaload, 424, [], .null), (.aload_n 0, 425, [], .null), (.iload_n 3, 426, [], .null), (.iconst 4, 427, [], .int (4)), (.iadd, 428, [], .null), (.iaload, 429, [], .null)],
  [(.invokevirtual 41, 430, [1, 191, 5, 11], .null), (.if_icmp .eq 1012, 433, [1077], .null), (.iconst 0, 436, [], .int (0)), (.ireturn, 437, [], .null), (.aload_n 1, 438, [], .null), (.aload_n 0, 439, [], .null), (.iload_n 3, 440, [], .null), (.iconst 1, 441, [], .int (1)), (.iadd, 442, [], .null), (.iaload, 443, [], .null), (.aload_n 0, 444, [], .null), (.iload_n 3, 445, [], .null), (.iconst 2, 446, [], .int (2)), (.iadd, 447, [], .null), (.iaload, 448, [], .null), (.aload_n 0, 449, [], .null)],
  [(.iload_n 3, 450, [], .null), (.iconst 3, 451, [], .int (3)), (.iadd, 452, [], .null), (.iaload, 453, [], .null), (.aload_n 0, 454, [], .null), (.iload_n 3, 455, [], .null), (.iconst 4, 456, [], .int (4)), (.iadd, 457, [], .null), (.iaload, 458, [], .null), (.invokevirtual 42, 459, [1, 31, 5, 10], .null), (.aload_n 2, 462, [], .null), (.aload_n 0, 463, [], .null), (.iload_n 3, 464, [], .null), (.iconst 1, 465, [], .int (1)), (.iadd, 466, [], .null), (.iaload, 467, [], .null)],
  [(.aload_n 0, 468, [], .null), (.iload_n 3, 469, [], .null), (.iconst 2, 470, [], .int (2)), (.iadd, 471, [], .null), (.iaload, 472, [], .null), (.aload_n 0, 473, [], .null), (.iload_n 3, 474, [], .null), (.iconst 3, 475, [], .int (3)), (.iadd, 476, [], .null), (.iaload, 477, [], .null), (.aload_n 0, 478, [], .null), (.iload_n 3, 479, [], .null), (.iconst 4, 480, [], .int (4)), (.iadd, 481, [], .null), (.iaload, 482, [], .null), (.invokevirtual 45, 483, [1, 194, 5, 11], .null)],
  [(.if_icmp .eq 959, 486, [1077], .null), (.iconst 0, 489, [], .int (0)), (.ireturn, 490, [], .null), (.aload_n 1, 491, [], .null), (.aload_n 0, 492, [], .null), (.iload_n 3, 493, [], .null), (.iconst 1, 494, [], .int (1)), (.iadd, 495, [], .null), (.iaload, 496, [], .null), (.aload_n 0, 497, [], .null), (.iload_n 3, 498, [], .null), (.iconst 2, 499, [], .int (2)), (.iadd, 500, [], .null), (.iaload, 501, [], .null), (.aload_n 0, 502, [], .null), (.iload_n 3, 503, [], .null)],
  [(.iconst 3, 504, [], .int (3)), (.iadd, 505, [], .null), (.iaload, 506, [], .null), (.invokevirtual 46, 507, [1, 34, 4, 10], .null), (.aload_n 2, 510, [], .null), (.aload_n 0, 511, [], .null), (.iload_n 3, 512, [], .null), (.iconst 1, 513, [], .int (1)), (.iadd, 514, [], .null), (.iaload, 515, [], .null), (.aload_n 0, 516, [], .null), (.iload_n 3, 517, [], .null), (.iconst 2, 518, [], .int (2)), (.iadd, 519, [], .null), (.iaload, 520, [], .null), (.aload_n 0, 521, [], .null)],
  [(.iload_n 3, 522, [], .null), (.iconst 3, 523, [], .int (3)), (.iadd, 524, [], .null), (.iaload, 525, [], .null), (.invokevirtual 49, 526, [1, 195, 4, 11], .null), (.if_icmp .eq 916, 529, [1077], .null), (.iconst 0, 532, [], .int (0)), (.ireturn, 533, [], .null), (.aload_n 1, 534, [], .null), (.aload_n 0, 535, [], .null), (.iload_n 3, 536, [], .null), (.iconst 1, 537, [], .int (1)), (.iadd, 538, [], .null), (.iaload, 539, [], .null), (.aload_n 0, 540, [], .null), (.iload_n 3, 541, [], .null)],
  [(.iconst 2, 542, [], .int (2)), (.iadd, 543, [], .null), (.iaload, 544, [], .null), (.aload_n 0, 545, [], .null), (.iload_n 3, 546, [], .null), (.iconst 3, 547, [], .int (3)), (.iadd, 548, [], .null), (.iaload, 549, [], .null), (.invokevirtual 50, 550, [1, 38, 4, 10], .null), (.aload_n 2, 553, [], .null), (.aload_n 0, 554, [], .null), (.iload_n 3, 555, [], .null), (.iconst 1, 556, [], .int (1)), (.iadd, 557, [], .null), (.iaload, 558, [], .null), (.aload_n 0, 559, [], .null)],
  [(.iload_n 3, 560, [], .null), (.iconst 2, 561, [], .int (2)), (.iadd, 562, [], .null), (.iaload, 563, [], .null), (.aload_n 0, 564, [], .null), (.iload_n 3, 565, [], .null), (.iconst 3, 566, [], .int (3)), (.iadd, 567, [], .null), (.iaload, 568, [], .null), (.invokevirtual 53, 569, [1, 196, 4, 11], .null), (.if_icmp .eq 873, 572, [1077], .null), (.iconst 0, 575, [], .int (0)), (.ireturn, 576, [], .null), (.aload_n 1, 577, [], .null), (.aload_n 0, 578, [], .null), (.iload_n 3, 579, [], .null)],
  [(.iconst 1, 580, [], .int (1)), (.iadd, 581, [], .null), (.iaload, 582, [], .null), (.aload_n 0, 583, [], .null), (.iload_n 3, 584, [], .null), (.iconst 2, 585, [], .int (2)), (.iadd, 586, [], .null), (.iaload, 587, [], .null), (.aload_n 0, 588, [], .null), (.iload_n 3, 589, [], .null), (.iconst 3, 590, [], .int (3)), (.iadd, 591, [], .null), (.iaload, 592, [], .null), (.invokevirtual 54, 593, [1, 52, 4, 10], .null), (.aload_n 2, 596, [], .null), (.aload_n 0, 597, [], .null)],
  [(.iload_n 3, 598, [], .null), (.iconst 1, 599, [], .int (1)), (.iadd, 600, [], .null), (.iaload, 601, [], .null), (.aload_n 0, 602, [], .null), (.iload_n 3, 603, [], .null), (.iconst 2, 604, [], .int (2)), (.iadd, 605, [], .null), (.iaload, 606, [], .null), (.aload_n 0, 607, [], .null), (.iload_n 3, 608, [], .null), (.iconst 3, 609, [], .int (3)), (.iadd, 610, [], .null), (.iaload, 611, [], .null), (.invokevirtual 57, 612, [1, 205, 4, 11], .null), (.if_icmp .eq 830, 615, [1077], .null)],
  [(.iconst 0, 618, [], .int (0)), (.ireturn, 619, [], .null), (.aload_n 1, 620, [], .null), (.aload_n 0, 621, [], .null), (.iload_n 3, 622, [], .null), (.iconst 1, 623, [], .int (1)), (.iadd, 624, [], .null), (.iaload, 625, [], .null), (.aload_n 0, 626, [], .null), (.iload_n 3, 627, [], .null), (.iconst 2, 628, [], .int (2)), (.iadd, 629, [], .null), (.iaload, 630, [], .null), (.invokevirtual 58, 631, [1, 54, 3, 10], .null), (.aload_n 2, 634, [], .null), (.aload_n 0, 635, [], .null)],
  [(.iload_n 3, 636, [], .null), (.iconst 1, 637, [], .int (1)), (.iadd, 638, [], .null), (.iaload, 639, [], .null), (.aload_n 0, 640, [], .null), (.iload_n 3, 641, [], .null), (.iconst 2, 642, [], .int (2)), (.iadd, 643, [], .null), (.iaload, 644, [], .null), (.invokevirtual 61, 645, [1, 206, 3, 11], .null), (.if_icmp .eq 797, 648, [1077], .null), (.iconst 0, 651, [], .int (0)), (.ireturn, 652, [], .null), (.aload_n 1, 653, [], .null), (.aload_n 0, 654, [], .null), (.iload_n 3, 655, [], .null)],
  [(.iconst 1, 656, [], .int (1)), (.iadd, 657, [], .null), (.iaload, 658, [], .null), (.aload_n 0, 659, [], .null), (.iload_n 3, 660, [], .null), (.iconst 2, 661, [], .int (2)), (.iadd, 662, [], .null), (.iaload, 663, [], .null), (.aload_n 0, 664, [], .null), (.iload_n 3, 665, [], .null), (.iconst 3, 666, [], .int (3)), (.iadd, 667, [], .null), (.iaload, 668, [], .null), (.invokevirtual 62, 669, [1, 59, 4, 10], .null), (.aload_n 2, 672, [], .null), (.aload_n 0, 673, [], .null)],
  [(.iload_n 3, 674, [], .null), (.iconst 1, 675, [], .int (1)), (.iadd, 676, [], .null), (.iaload, 677, [], .null), (.aload_n 0, 678, [], .null), (.iload_n 3, 679, [], .null), (.iconst 2, 680, [], .int (2)), (.iadd, 681, [], .null), (.iaload, 682, [], .null), (.aload_n 0, 683, [], .null), (.iload_n 3, 684, [], .null), (.iconst 3, 685, [], .int (3)), (.iadd, 686, [], .null), (.iaload, 687, [], .null), (.invokevirtual 65, 688, [1, 207, 4, 11], .null), (.if_icmp .eq 754, 691, [1077], .null)],
  [(.iconst 0, 694, [], .int (0)), (.ireturn, 695, [], .null), (.aload_n 1, 696, [], .null), (.aload_n 0, 697, [], .null), (.iload_n 3, 698, [], .null), (.iconst 1, 699, [], .int (1)), (.iadd, 700, [], .null), (.iaload, 701, [], .null), (.aload_n 0, 702, [], .null), (.iload_n 3, 703, [], .null), (.iconst 2, 704, [], .int (2)), (.iadd, 705, [], .null), (.iaload, 706, [], .null), (.aload_n 0, 707, [], .null), (.iload_n 3, 708, [], .null), (.iconst 3, 709, [], .int (3))],
  [(.iadd, 710, [], .null), (.iaload, 711, [], .null), (.invokevirtual 66, 712, [1, 62, 4, 10], .null), (.aload_n 2, 715, [], .null), (.aload_n 0, 716, [], .null), (.iload_n 3, 717, [], .null), (.iconst 1, 718, [], .int (1)), (.iadd, 719, [], .null), (.iaload, 720, [], .null), (.aload_n 0, 721, [], .null), (.iload_n 3, 722, [], .null), (.iconst 2, 723, [], .int (2)), (.iadd, 724, [], .null), (.iaload, 725, [], .null), (.aload_n 0, 726, [], .null), (.iload_n 3, 727, [], .null)],
  [(.iconst 3, 728, [], .int (3)), (.iadd, 729, [], .null), (.iaload, 730, [], .null), (.invokevirtual 69, 731, [1, 208, 4, 11], .null), (.if_icmp .eq 711, 734, [1077], .null), (.iconst 0, 737, [], .int (0)), (.ireturn, 738, [], .null), (.aload_n 1, 739, [], .null), (.aload_n 0, 740, [], .null), (.iload_n 3, 741, [], .null), (.iconst 1, 742, [], .int (1)), (.iadd, 743, [], .null), (.iaload, 744, [], .null), (.aload_n 0, 745, [], .null), (.iload_n 3, 746, [], .null), (.iconst 2, 747, [], .int (2))],
  [(.iadd, 748, [], .null), (.iaload, 749, [], .null), (.invokevirtual 70, 750, [1, 64, 3, 10], .null), (.aload_n 2, 753, [], .null), (.aload_n 0, 754, [], .null), (.iload_n 3, 755, [], .null), (.iconst 1, 756, [], .int (1)), (.iadd, 757, [], .null), (.iaload, 758, [], .null), (.aload_n 0, 759, [], .null), (.iload_n 3, 760, [], .null), (.iconst 2, 761, [], .int (2)), (.iadd, 762, [], .null), (.iaload, 763, [], .null), (.invokevirtual 73, 764, [1, 209, 3, 11], .null), (.if_icmp .eq 678, 767, [1077], .null)],
  [(.iconst 0, 770, [], .int (0)), (.ireturn, 771, [], .null), (.aload_n 1, 772, [], .null), (.invokevirtual 74, 773, [1, 75, 1, 10], .null), (.aload_n 2, 776, [], .null), (.invokevirtual 78, 777, [1, 214, 1, 11], .null), (.if_icmp .eq 665, 780, [1077], .null), (.iconst 0, 783, [], .int (0)), (.ireturn, 784, [], .null), (.aload_n 1, 785, [], .null), (.aload_n 0, 786, [], .null), (.iload_n 3, 787, [], .null), (.iconst 1, 788, [], .int (1)), (.iadd, 789, [], .null), (.iaload, 790, [], .null), (.aload_n 0, 791, [], .null)],
  [(.iload_n 3, 792, [], .null), (.iconst 2, 793, [], .int (2)), (.iadd, 794, [], .null), (.iaload, 795, [], .null), (.invokevirtual 79, 796, [1, 77, 3, 10], .null), (.aload_n 2, 799, [], .null), (.aload_n 0, 800, [], .null), (.iload_n 3, 801, [], .null), (.iconst 1, 802, [], .int (1)), (.iadd, 803, [], .null), (.iaload, 804, [], .null), (.aload_n 0, 805, [], .null), (.iload_n 3, 806, [], .null), (.iconst 2, 807, [], .int (2)), (.iadd, 808, [], .null), (.iaload, 809, [], .null)],
  [(.invokevirtual 82, 810, [1, 216, 3, 11], .null), (.if_icmp .eq 632, 813, [1077], .null), (.iconst 0, 816, [], .int (0)), (.ireturn, 817, [], .null), (.aload_n 1, 818, [], .null), (.aload_n 0, 819, [], .null), (.iload_n 3, 820, [], .null), (.iconst 1, 821, [], .int (1)), (.iadd, 822, [], .null), (.iaload, 823, [], .null), (.aload_n 0, 824, [], .null), (.iload_n 3, 825, [], .null), (.iconst 2, 826, [], .int (2)), (.iadd, 827, [], .null), (.iaload, 828, [], .null), (.aload_n 0, 829, [], .null)],
  [(.iload_n 3, 830, [], .null), (.iconst 3, 831, [], .int (3)), (.iadd, 832, [], .null), (.iaload, 833, [], .null), (.aload_n 0, 834, [], .null), (.iload_n 3, 835, [], .null), (.iconst 4, 836, [], .int (4)), (.iadd, 837, [], .null), (.iaload, 838, [], .null), (.aload_n 0, 839, [], .null), (.iload_n 3, 840, [], .null), (.iconst 5, 841, [], .int (5)), (.iadd, 842, [], .null), (.iaload, 843, [], .null), (.aload_n 0, 844, [], .null), (.iload_n 3, 845, [], .null)],
  [(.bipush 6, 846, [], .int (6)), (.iadd, 848, [], .null), (.iaload, 849, [], .null), (.aload_n 0, 850, [], .null), (.iload_n 3, 851, [], .null), (.bipush 7, 852, [], .int (7)), (.iadd, 854, [], .null), (.iaload, 855, [], .null), (.aload_n 0, 856, [], .null), (.iload_n 3, 857, [], .null), (.bipush 8, 858, [], .int (8)), (.iadd, 860, [], .null), (.iaload, 861, [], .null), (.invokevirtual 83, 862, [1, 79, 9, 10], .null), (.aload_n 2, 865, [], .null), (.aload_n 0, 866, [], .null)],
  [(.iload_n 3, 867, [], .null), (.iconst 1, 868, [], .int (1)), (.iadd, 869, [], .null), (.iaload, 870, [], .null), (.aload_n 0, 871, [], .null), (.iload_n 3, 872, [], .null), (.iconst 2, 873, [], .int (2)), (.iadd, 874, [], .null), (.iaload, 875, [], .null), (.aload_n 0, 876, [], .null), (.iload_n 3, 877, [], .null), (.iconst 3, 878, [], .int (3)), (.iadd, 879, [], .null), (.iaload, 880, [], .null), (.aload_n 0, 881, [], .null), (.iload_n 3, 882, [], .null)],
  [(.iconst 4, 883, [], .int (4)), (.iadd, 884, [], .null), (.iaload, 885, [], .null), (.aload_n 0, 886, [], .null), (.iload_n 3, 887, [], .null), (.iconst 5, 888, [], .int (5)), (.iadd, 889, [], .null), (.iaload, 890, [], .null), (.aload_n 0, 891, [], .null), (.iload_n 3, 892, [], .null), (.bipush 6, 893, [], .int (6)), (.iadd, 895, [], .null), (.iaload, 896, [], .null), (.aload_n 0, 897, [], .null), (.iload_n 3, 898, [], .null), (.bipush 7, 899, [], .int (7))],
  [(.iadd, 901, [], .null), (.iaload, 902, [], .null), (.aload_n 0, 903, [], .null), (.iload_n 3, 904, [], .null), (.bipush 8, 905, [], .int (8)), (.iadd, 907, [], .null), (.iaload, 908, [], .null), (.invokevirtual 87, 909, [1, 217, 9, 11], .null), (.if_icmp .eq 533, 912, [1077], .null), (.iconst 0, 915, [], .int (0)), (.ireturn, 916, [], .null), (.aload_n 1, 917, [], .null), (.aload_n 0, 918, [], .null), (.iload_n 3, 919, [], .null), (.iconst 1, 920, [], .int (1)), (.iadd, 921, [], .null)],
  [(.iaload, 922, [], .null), (.aload_n 0, 923, [], .null), (.iload_n 3, 924, [], .null), (.iconst 2, 925, [], .int (2)), (.iadd, 926, [], .null), (.iaload, 927, [], .null), (.invokevirtual 88, 928, [1, 86, 3, 10], .null), (.aload_n 2, 931, [], .null), (.aload_n 0, 932, [], .null), (.iload_n 3, 933, [], .null), (.iconst 1, 934, [], .int (1)), (.iadd, 935, [], .null), (.iaload, 936, [], .null), (.aload_n 0, 937, [], .null), (.iload_n 3, 938, [], .null), (.iconst 2, 939, [], .int (2))],
  [(.iadd, 940, [], .null), (.iaload, 941, [], .null), (.invokevirtual 91, 942, [1, 219, 3, 11], .null), (.if_icmp .eq 500, 945, [1077], .null), (.iconst 0, 948, [], .int (0)), (.ireturn, 949, [], .null), (.aload_n 1, 950, [], .null), (.aload_n 0, 951, [], .null), (.iload_n 3, 952, [], .null), (.iconst 1, 953, [], .int (1)), (.iadd, 954, [], .null), (.iaload, 955, [], .null), (.aload_n 0, 956, [], .null), (.iload_n 3, 957, [], .null), (.iconst 2, 958, [], .int (2)), (.iadd, 959, [], .null)],
  [(.iaload, 960, [], .null), (.aload_n 0, 961, [], .null), (.iload_n 3, 962, [], .null), (.iconst 3, 963, [], .int (3)), (.iadd, 964, [], .null), (.iaload, 965, [], .null), (.aload_n 0, 966, [], .null), (.iload_n 3, 967, [], .null), (.iconst 4, 968, [], .int (4)), (.iadd, 969, [], .null), (.iaload, 970, [], .null), (.aload_n 0, 971, [], .null), (.iload_n 3, 972, [], .null), (.iconst 5, 973, [], .int (5)), (.iadd, 974, [], .null), (.iaload, 975, [], .null)],
  [(.invokevirtual 92, 976, [1, 90, 6, 10], .null), (.aload_n 2, 979, [], .null), (.aload_n 0, 980, [], .null), (.iload_n 3, 981, [], .null), (.iconst 1, 982, [], .int (1)), (.iadd, 983, [], .null), (.iaload, 984, [], .null), (.aload_n 0, 985, [], .null), (.iload_n 3, 986, [], .null), (.iconst 2, 987, [], .int (2)), (.iadd, 988, [], .null), (.iaload, 989, [], .null), (.aload_n 0, 990, [], .null), (.iload_n 3, 991, [], .null), (.iconst 3, 992, [], .int (3)), (.iadd, 993, [], .null)],
  [(.iaload, 994, [], .null), (.aload_n 0, 995, [], .null), (.iload_n 3, 996, [], .null), (.iconst 4, 997, [], .int (4)), (.iadd, 998, [], .null), (.iaload, 999, [], .null), (.aload_n 0, 1000, [], .null), (.iload_n 3, 1001, [], .null), (.iconst 5, 1002, [], .int (5)), (.iadd, 1003, [], .null), (.iaload, 1004, [], .null), (.invokevirtual 95, 1005, [1, 222, 6, 11], .null), (.if_icmp .eq 437, 1008, [1077], .null), (.iconst 0, 1011, [], .int (0)), (.ireturn, 1012, [], .null), (.aload_n 1, 1013, [], .null)],
  [(.aload_n 0, 1014, [], .null), (.iload_n 3, 1015, [], .null), (.iconst 1, 1016, [], .int (1)), (.iadd, 1017, [], .null), (.iaload, 1018, [], .null), (.aload_n 0, 1019, [], .null), (.iload_n 3, 1020, [], .null), (.iconst 2, 1021, [], .int (2)), (.iadd, 1022, [], .null), (.iaload, 1023, [], .null), (.invokevirtual 96, 1024, [1, 96, 3, 10], .null), (.aload_n 2, 1027, [], .null), (.aload_n 0, 1028, [], .null), (.iload_n 3, 1029, [], .null), (.iconst 1, 1030, [], .int (1)), (.iadd, 1031, [], .null)],
  [(.iaload, 1032, [], .null), (.aload_n 0, 1033, [], .null), (.iload_n 3, 1034, [], .null), (.iconst 2, 1035, [], .int (2)), (.iadd, 1036, [], .null), (.iaload, 1037, [], .null), (.invokevirtual 99, 1038, [1, 227, 3, 11], .null), (.if_icmp .eq 404, 1041, [1077], .null), (.iconst 0, 1044, [], .int (0)), (.ireturn, 1045, [], .null), (.aload_n 1, 1046, [], .null), (.aload_n 0, 1047, [], .null), (.iload_n 3, 1048, [], .null), (.iconst 1, 1049, [], .int (1)), (.iadd, 1050, [], .null), (.iaload, 1051, [], .null)],
  [(.aload_n 0, 1052, [], .null), (.iload_n 3, 1053, [], .null), (.iconst 2, 1054, [], .int (2)), (.iadd, 1055, [], .null), (.iaload, 1056, [], .null), (.invokevirtual 100, 1057, [1, 113, 3, 10], .null), (.aload_n 2, 1060, [], .null), (.aload_n 0, 1061, [], .null), (.iload_n 3, 1062, [], .null), (.iconst 1, 1063, [], .int (1)), (.iadd, 1064, [], .null), (.iaload, 1065, [], .null), (.aload_n 0, 1066, [], .null), (.iload_n 3, 1067, [], .null), (.iconst 2, 1068, [], .int (2)), (.iadd, 1069, [], .null)],
  [(.iaload, 1070, [], .null), (.invokevirtual 103, 1071, [1, 232, 3, 11], .null), (.if_icmp .eq 371, 1074, [1077], .null), (.iconst 0, 1077, [], .int (0)), (.ireturn, 1078, [], .null), (.aload_n 1, 1079, [], .null), (.aload_n 0, 1080, [], .null), (.iload_n 3, 1081, [], .null), (.iconst 1, 1082, [], .int (1)), (.iadd, 1083, [], .null), (.iaload, 1084, [], .null), (.i2l, 1085, [], .null), (.bipush 32, 1086, [], .int (32)), (.lshl, 1088, [], .null), (.aload_n 0, 1089, [], .null), (.iload_n 3, 1090, [], .null)],
  [(.iconst 2, 1091, [], .int (2)), (.iadd, 1092, [], .null), (.iaload, 1093, [], .null), (.i2l, 1094, [], .null), (.ldc2_w 104, 1095, [], .long (4294967295)), (.land, 1098, [], .null), (.lor, 1099, [], .null), (.aload_n 0, 1100, [], .null), (.iload_n 3, 1101, [], .null), (.iconst 3, 1102, [], .int (3)), (.iadd, 1103, [], .null), (.iaload, 1104, [], .null), (.invokevirtual 106, 1105, [1, 114, 3, 10], .null), (.aload_n 2, 1108, [], .null), (.aload_n 0, 1109, [], .null), (.iload_n 3, 1110, [], .null)],
  [(.iconst 1, 1111, [], .int (1)), (.iadd, 1112, [], .null), (.iaload, 1113, [], .null), (.i2l, 1114, [], .null), (.bipush 32, 1115, [], .int (32)), (.lshl, 1117, [], .null), (.aload_n 0, 1118, [], .null), (.iload_n 3, 1119, [], .null), (.iconst 2, 1120, [], .int (2)), (.iadd, 1121, [], .null), (.iaload, 1122, [], .null), (.i2l, 1123, [], .null), (.ldc2_w 104, 1124, [], .long (4294967295)), (.land, 1127, [], .null), (.lor, 1128, [], .null), (.aload_n 0, 1129, [], .null)],
  [(.iload_n 3, 1130, [], .null), (.iconst 3, 1131, [], .int (3)), (.iadd, 1132, [], .null), (.iaload, 1133, [], .null), (.invokevirtual 110, 1134, [1, 233, 3, 11], .null), (.if_icmp .eq 308, 1137, [1077], .null), (.iconst 0, 1140, [], .int (0)), (.ireturn, 1141, [], .null), (.aload_n 1, 1142, [], .null), (.invokevirtual 111, 1143, [1, 116, 1, 10], .null), (.aload_n 2, 1146, [], .null), (.invokevirtual 114, 1147, [1, 234, 1, 11], .null), (.if_icmp .eq 295, 1150, [1077], .null), (.iconst 0, 1153, [], .int (0)), (.ireturn, 1154, [], .null), (.aload_n 1, 1155, [], .null)],
  [(.invokevirtual 115, 1156, [1, 147, 1, 10], .null), (.aload_n 2, 1159, [], .null), (.invokevirtual 118, 1160, [1, 245, 1, 11], .null), (.if_icmp .eq 282, 1163, [1077], .null), (.iconst 0, 1166, [], .int (0)), (.ireturn, 1167, [], .null), (.aload_n 1, 1168, [], .null), (.aload_n 0, 1169, [], .null), (.iload_n 3, 1170, [], .null), (.iconst 1, 1171, [], .int (1)), (.iadd, 1172, [], .null), (.iaload, 1173, [], .null), (.aload_n 0, 1174, [], .null), (.iload_n 3, 1175, [], .null), (.iconst 2, 1176, [], .int (2)), (.iadd, 1177, [], .null)],
  [(.iaload, 1178, [], .null), (.aload_n 0, 1179, [], .null), (.iload_n 3, 1180, [], .null), (.iconst 3, 1181, [], .int (3)), (.iadd, 1182, [], .null), (.iaload, 1183, [], .null), (.aload_n 0, 1184, [], .null), (.iload_n 3, 1185, [], .null), (.iconst 4, 1186, [], .int (4)), (.iadd, 1187, [], .null), (.iaload, 1188, [], .null), (.invokevirtual 119, 1189, [1, 148, 5, 10], .null), (.aload_n 2, 1192, [], .null), (.aload_n 0, 1193, [], .null), (.iload_n 3, 1194, [], .null), (.iconst 1, 1195, [], .int (1))],
  [(.iadd, 1196, [], .null), (.iaload, 1197, [], .null), (.aload_n 0, 1198, [], .null), (.iload_n 3, 1199, [], .null), (.iconst 2, 1200, [], .int (2)), (.iadd, 1201, [], .null), (.iaload, 1202, [], .null), (.aload_n 0, 1203, [], .null), (.iload_n 3, 1204, [], .null), (.iconst 3, 1205, [], .int (3)), (.iadd, 1206, [], .null), (.iaload, 1207, [], .null), (.aload_n 0, 1208, [], .null), (.iload_n 3, 1209, [], .null), (.iconst 4, 1210, [], .int (4)), (.iadd, 1211, [], .null)],
  [(.iaload, 1212, [], .null), (.invokevirtual 122, 1213, [1, 246, 5, 11], .null), (.if_icmp .eq 229, 1216, [1077], .null), (.iconst 0, 1219, [], .int (0)), (.ireturn, 1220, [], .null), (.aload_n 1, 1221, [], .null), (.aload_n 0, 1222, [], .null), (.iload_n 3, 1223, [], .null), (.iconst 1, 1224, [], .int (1)), (.iadd, 1225, [], .null), (.iaload, 1226, [], .null), (.aload_n 0, 1227, [], .null), (.iload_n 3, 1228, [], .null), (.iconst 2, 1229, [], .int (2)), (.iadd, 1230, [], .null), (.iaload, 1231, [], .null)],
  [(.aload_n 0, 1232, [], .null), (.iload_n 3, 1233, [], .null), (.iconst 3, 1234, [], .int (3)), (.iadd, 1235, [], .null), (.iaload, 1236, [], .null), (.invokevirtual 123, 1237, [1, 151, 4, 10], .null), (.aload_n 2, 1240, [], .null), (.aload_n 0, 1241, [], .null), (.iload_n 3, 1242, [], .null), (.iconst 1, 1243, [], .int (1)), (.iadd, 1244, [], .null), (.iaload, 1245, [], .null), (.aload_n 0, 1246, [], .null), (.iload_n 3, 1247, [], .null), (.iconst 2, 1248, [], .int (2)), (.iadd, 1249, [], .null)],
  [(.iaload, 1250, [], .null), (.aload_n 0, 1251, [], .null), (.iload_n 3, 1252, [], .null), (.iconst 3, 1253, [], .int (3)), (.iadd, 1254, [], .null), (.iaload, 1255, [], .null), (.invokevirtual 126, 1256, [1, 247, 4, 11], .null), (.if_icmp .eq 186, 1259, [1077], .null), (.iconst 0, 1262, [], .int (0)), (.ireturn, 1263, [], .null), (.aload_n 1, 1264, [], .null), (.aload_n 0, 1265, [], .null), (.iload_n 3, 1266, [], .null), (.iconst 1, 1267, [], .int (1)), (.iadd, 1268, [], .null), (.iaload, 1269, [], .null)],
  [(.aload_n 0, 1270, [], .null), (.iload_n 3, 1271, [], .null), (.iconst 2, 1272, [], .int (2)), (.iadd, 1273, [], .null), (.iaload, 1274, [], .null), (.invokevirtual 127, 1275, [1, 156, 3, 10], .null), (.aload_n 2, 1278, [], .null), (.aload_n 0, 1279, [], .null), (.iload_n 3, 1280, [], .null), (.iconst 1, 1281, [], .int (1)), (.iadd, 1282, [], .null), (.iaload, 1283, [], .null), (.aload_n 0, 1284, [], .null), (.iload_n 3, 1285, [], .null), (.iconst 2, 1286, [], .int (2)), (.iadd, 1287, [], .null)],
  [(.iaload, 1288, [], .null), (.invokevirtual 130, 1289, [1, 250, 3, 11], .null), (.if_icmp .eq 153, 1292, [1077], .null), (.iconst 0, 1295, [], .int (0)), (.ireturn, 1296, [], .null), (.aload_n 1, 1297, [], .null), (.aload_n 0, 1298, [], .null), (.iload_n 3, 1299, [], .null), (.iconst 1, 1300, [], .int (1)), (.iadd, 1301, [], .null), (.iaload, 1302, [], .null), (.invokevirtual 131, 1303, [1, 159, 2, 10], .null), (.aload_n 2, 1306, [], .null), (.aload_n 0, 1307, [], .null), (.iload_n 3, 1308, [], .null), (.iconst 1, 1309, [], .int (1))],
  [(.iadd, 1310, [], .null), (.iaload, 1311, [], .null), (.invokevirtual 134, 1312, [1, 252, 2, 11], .null), (.if_icmp .eq 130, 1315, [1077], .null), (.iconst 0, 1318, [], .int (0)), (.ireturn, 1319, [], .null), (.aload_n 1, 1320, [], .null), (.aload_n 0, 1321, [], .null), (.iload_n 3, 1322, [], .null), (.iconst 1, 1323, [], .int (1)), (.iadd, 1324, [], .null), (.iaload, 1325, [], .null), (.aload_n 0, 1326, [], .null), (.iload_n 3, 1327, [], .null), (.iconst 2, 1328, [], .int (2)), (.iadd, 1329, [], .null)],
  [(.iaload, 1330, [], .null), (.invokevirtual 135, 1331, [1, 161, 3, 10], .null), (.aload_n 2, 1334, [], .null), (.aload_n 0, 1335, [], .null), (.iload_n 3, 1336, [], .null), (.iconst 1, 1337, [], .int (1)), (.iadd, 1338, [], .null), (.iaload, 1339, [], .null), (.aload_n 0, 1340, [], .null), (.iload_n 3, 1341, [], .null), (.iconst 2, 1342, [], .int (2)), (.iadd, 1343, [], .null), (.iaload, 1344, [], .null), (.invokevirtual 138, 1345, [1, 254, 3, 11], .null), (.if_icmp .eq 97, 1348, [1077], .null), (.iconst 0, 1351, [], .int (0))],
  [(.ireturn, 1352, [], .null), (.aload_n 1, 1353, [], .null), (.aload_n 0, 1354, [], .null), (.iload_n 3, 1355, [], .null), (.iconst 1, 1356, [], .int (1)), (.iadd, 1357, [], .null), (.iaload, 1358, [], .null), (.aload_n 0, 1359, [], .null), (.iload_n 3, 1360, [], .null), (.iconst 2, 1361, [], .int (2)), (.iadd, 1362, [], .null), (.iaload, 1363, [], .null), (.invokevirtual 139, 1364, [1, 163, 3, 10], .null), (.aload_n 2, 1367, [], .null), (.aload_n 0, 1368, [], .null), (.iload_n 3, 1369, [], .null)],
  [(.iconst 1, 1370, [], .int (1)), (.iadd, 1371, [], .null), (.iaload, 1372, [], .null), (.aload_n 0, 1373, [], .null), (.iload_n 3, 1374, [], .null), (.iconst 2, 1375, [], .int (2)), (.iadd, 1376, [], .null), (.iaload, 1377, [], .null), (.invokevirtual 142, 1378, [1, 256, 3, 11], .null), (.if_icmp .eq 64, 1381, [1077], .null), (.iconst 0, 1384, [], .int (0)), (.ireturn, 1385, [], .null), (.aload_n 1, 1386, [], .null), (.aload_n 0, 1387, [], .null), (.iload_n 3, 1388, [], .null), (.iconst 1, 1389, [], .int (1))],
  [(.iadd, 1390, [], .null), (.iaload, 1391, [], .null), (.invokevirtual 143, 1392, [1, 176, 2, 10], .null), (.aload_n 2, 1395, [], .null), (.aload_n 0, 1396, [], .null), (.iload_n 3, 1397, [], .null), (.iconst 1, 1398, [], .int (1)), (.iadd, 1399, [], .null), (.iaload, 1400, [], .null), (.invokevirtual 146, 1401, [1, 261, 2, 11], .null), (.if_icmp .eq 41, 1404, [1077], .null), (.iconst 0, 1407, [], .int (0)), (.ireturn, 1408, [], .null), (.aload_n 1, 1409, [], .null), (.aload_n 0, 1410, [], .null), (.iload_n 3, 1411, [], .null)],
  [(.iconst 1, 1412, [], .int (1)), (.iadd, 1413, [], .null), (.iaload, 1414, [], .null), (.invokevirtual 147, 1415, [1, 177, 2, 10], .null), (.aload_n 2, 1418, [], .null), (.aload_n 0, 1419, [], .null), (.iload_n 3, 1420, [], .null), (.iconst 1, 1421, [], .int (1)), (.iadd, 1422, [], .null), (.iaload, 1423, [], .null), (.invokevirtual 150, 1424, [1, 262, 2, 11], .null), (.if_icmp .eq 18, 1427, [1077], .null), (.iconst 0, 1430, [], .int (0)), (.ireturn, 1431, [], .null), (.aload_n 1, 1432, [], .null), (.invokevirtual 151, 1433, [1, 180, 1, 10], .null)],
  [(.aload_n 2, 1436, [], .null), (.invokevirtual 154, 1437, [1, 263, 1, 11], .null), (.if_icmp .eq 5, 1440, [1077], .null), (.iconst 0, 1443, [], .int (0)), (.ireturn, 1444, [], .null), (.iinc 3 9, 1445, [], .int (9)), (.goto (-1430), 1448, [10], .null), (.iconst 1, 1451, [], .int (1)), (.ireturn, 1452, [], .null)]]
def m_264 : MR := (264, k_264, code, ⟨"WreckCourtLaw", "law", "([I)Z"⟩, 4, (some .boolean), 12)
def MTL : List (List MR) := [[m_0, m_1, m_2, m_3, m_4, m_5, m_6, m_7, m_8, m_9, m_10, m_11, m_12, m_13, m_14, m_15],
  [m_16, m_17, m_18, m_19, m_20, m_21, m_22, m_23, m_24, m_25, m_26, m_27, m_28, m_29, m_30, m_31],
  [m_32, m_33, m_34, m_35, m_36, m_37, m_38, m_39, m_40, m_41, m_42, m_43, m_44, m_45, m_46, m_47],
  [m_48, m_49, m_50, m_51, m_52, m_53, m_54, m_55, m_56, m_57, m_58, m_59, m_60, m_61, m_62, m_63],
  [m_64, m_65, m_66, m_67, m_68, m_69, m_70, m_71, m_72, m_73, m_74, m_75, m_76, m_77, m_78, m_79],
  [m_80, m_81, m_82, m_83, m_84, m_85, m_86, m_87, m_88, m_89, m_90, m_91, m_92, m_93, m_94, m_95],
  [m_96, m_97, m_98, m_99, m_100, m_101, m_102, m_103, m_104, m_105, m_106, m_107, m_108, m_109, m_110, m_111],
  [m_112, m_113, m_114, m_115, m_116, m_117, m_118, m_119, m_120, m_121, m_122, m_123, m_124, m_125, m_126, m_127],
  [m_128, m_129, m_130, m_131, m_132, m_133, m_134, m_135, m_136, m_137, m_138, m_139, m_140, m_141, m_142, m_143],
  [m_144, m_145, m_146, m_147, m_148, m_149, m_150, m_151, m_152, m_153, m_154, m_155, m_156, m_157, m_158, m_159],
  [m_160, m_161, m_162, m_163, m_164, m_165, m_166, m_167, m_168, m_169, m_170, m_171, m_172, m_173, m_174, m_175],
  [m_176, m_177, m_178, m_179, m_180, m_181, m_182, m_183, m_184, m_185, m_186, m_187, m_188, m_189, m_190, m_191],
  [m_192, m_193, m_194, m_195, m_196, m_197, m_198, m_199, m_200, m_201, m_202, m_203, m_204, m_205, m_206, m_207],
  [m_208, m_209, m_210, m_211, m_212, m_213, m_214, m_215, m_216, m_217, m_218, m_219, m_220, m_221, m_222, m_223],
  [m_224, m_225, m_226, m_227, m_228, m_229, m_230, m_231, m_232, m_233, m_234, m_235, m_236, m_237, m_238, m_239],
  [m_240, m_241, m_242, m_243, m_244, m_245, m_246, m_247, m_248, m_249, m_250, m_251, m_252, m_253, m_254, m_255],
  [m_256, m_257, m_258, m_259, m_260, m_261, m_262, m_263, m_264]]
def RPL : List (List (Option Nat)) := [[some 1, some 2, some 29, some 47, some 55, some 57, some 61, some 63, some 64, some 65, some 71, none],
  [some 77, some 79, some 81, some 83, some 85, some 87, some 89, some 91],
  [some 3, some 7, none, some 11, some 16, some 21, some 26, some 27, some 28, none],
  [some 4, some 5, some 6, none],
  [],
  [],
  [],
  [some 8, some 9, some 10, none],
  [],
  [],
  [],
  [some 12, some 13, some 14, some 15],
  [],
  [],
  [],
  [],
  [some 17, some 18, some 19, some 20],
  [],
  [],
  [],
  [],
  [some 22, some 23, some 24, some 25],
  [],
  [],
  [],
  [],
  [],
  [],
  [],
  [some 30, none, some 34, some 35, some 36, some 37, some 38, some 39, some 40, none, none, none, none],
  [some 31, some 32, some 33, none],
  [],
  [],
  [],
  [],
  [],
  [],
  [],
  [],
  [],
  [some 41, some 42, some 43, some 44, some 45, some 46],
  [],
  [],
  [],
  [],
  [],
  [],
  [some 48, none, none, none, none, none, some 49, some 50, some 51, some 52, some 53, some 54],
  [none, none, none, none, none, none, none, none, none, none, none, none],
  [],
  [],
  [],
  [],
  [],
  [],
  [some 56, none],
  [],
  [some 58, some 59, some 60, none],
  [],
  [],
  [],
  [none, none, some 62, none, none, none],
  [],
  [],
  [],
  [none, some 66, some 67, some 68, some 69, some 70],
  [],
  [],
  [],
  [],
  [],
  [none, some 72, some 73, some 74, some 75, some 76],
  [],
  [],
  [],
  [],
  [],
  [some 78, none, none, none],
  [],
  [some 80, none, none, none],
  [],
  [some 82, none, none, none],
  [],
  [some 84, none, none, none],
  [],
  [some 86, none, none, none],
  [],
  [some 88, none, none, none],
  [],
  [some 90, none, none, none],
  [],
  [some 92, none, none, none],
  [],
  [none, none, some 94, some 95, some 96, some 97, some 98, none, some 99, some 100, none, some 101, some 102, some 103, some 104, some 105, some 106, some 107, some 108, none, some 109, some 110, some 111, some 112, none, none, none, some 113, some 114, some 115, none, some 116, some 117, some 118, some 119, none, some 120, some 121, some 122, some 123, some 124, some 125, some 126, some 127, some 128, some 129, some 130, some 131, some 132, none, none, none, none, some 133, none, some 134, some 135, some 136, none, some 137, some 138, some 139, some 140, none, none, none, none, none, none, none, none, none, none, some 141, some 142, some 143, some 144, some 145, some 146, none],
  [],
  [],
  [],
  [],
  [],
  [],
  [],
  [],
  [],
  [],
  [],
  [],
  [],
  [],
  [],
  [],
  [],
  [],
  [],
  [],
  [],
  [],
  [],
  [],
  [],
  [],
  [],
  [],
  [],
  [],
  [],
  [],
  [],
  [],
  [],
  [],
  [],
  [],
  [],
  [],
  [],
  [],
  [],
  [],
  [],
  [],
  [],
  [],
  [],
  [],
  [],
  [],
  []]
def SHL : List (Nat × Nat) := [(10, 12), (23, 8), (5, 10), (8, 4), (20, 60), (20, 60), (20, 60), (7, 4), (20, 10), (20, 10), (20, 10), (25, 4), (20, 241), (20, 241), (20, 241), (20, 241), (25, 4), (20, 241), (20, 241), (20, 241), (20, 241), (25, 4), (20, 240), (20, 240), (20, 240), (20, 240), (20, 240), (20, 240), (20, 4), (9, 13), (8, 4), (20, 30), (20, 30), (20, 30), (20, 6), (20, 10), (20, 10), (20, 10), (20, 5), (20, 6), (25, 6), (20, 241), (20, 241), (20, 241), (20, 241), (20, 241), (20, 241), (1, 12), (24, 12), (20, 12), (20, 3), (20, 3), (20, 144), (20, 12), (20, 128), (0, 2), (20, 16), (7, 4), (20, 40), (20, 40), (20, 40), (4, 6), (21, 400), (20, 5), (20, 4), (2, 6), (20, 10), (20, 10), (20, 30), (20, 30), (20, 30), (2, 6), (20, 10), (20, 10), (20, 30), (20, 30), (20, 30), (6, 4), (20, 120), (6, 4), (20, 120), (6, 4), (20, 120), (6, 4), (20, 120), (6, 4), (20, 120), (6, 4), (20, 120), (6, 4), (20, 120), (6, 4), (20, 120), (11, 80), (20, 8), (20, 8), (20, 960), (20, 16), (20, 16), (20, 4), (20, 4), (20, 60), (20, 60), (20, 60), (20, 60), (20, 240), (20, 240), (20, 964), (20, 964), (20, 10), (20, 10), (20, 10), (20, 6), (20, 30), (20, 30), (20, 30), (20, 10), (20, 10), (20, 10), (20, 1446), (20, 12), (20, 12), (20, 12), (20, 12), (20, 12), (20, 12), (20, 12), (20, 12), (20, 12), (22, 4096), (22, 4096), (20, 144), (20, 12), (20, 12), (20, 10), (20, 90), (20, 10), (20, 10), (20, 90), (20, 10), (20, 400), (20, 40), (20, 40), (20, 40), (20, 40), (20, 5), (20, 16)]
def KRL : List (List Bool) := [[true, false],
  [true, false, false, false, false, false, true, true, true, true, true, true],
  [false, true, true, true, true, true],
  [false, false, false, false, false, false, false, false, false],
  [false, false, true, false, false, false],
  [true, true, false, true, true, true, true, true, true, false],
  [true, false, false, false],
  [true, true, true, false],
  [true, true, true, false],
  [true, false, true, true, true, true, true, true, true, false, false, false, false],
  [true, true, true, true, true, true, true, true, true, true, true, false],
  [false, false, true, true, true, true, true, false, true, true, false, true, true, true, true, true, true, true, true, false, true, true, true, true, false, false, false, true, true, true, false, true, true, true, true, false, true, true, true, true, true, true, true, true, true, true, true, true, true, false, false, false, false, true, false, true, true, true, false, true, true, true, true, false, false, false, false, false, false, false, false, false, false, true, true, true, true, true, true, false]]
def ONL : List String := ["WreckCourt$Asks", "WreckCourt$Bench", "WreckCourt$Book", "WreckCourt$Fact", "WreckCourt$Reader", "WreckCourt$Sea", "WreckCourt$Sheet", "WreckCourt$Spans", "WreckCourt$Told", "WreckCourt$Vessel", "WreckCourt", "WreckCourtModel", "WreckCourtLaw", "java/util/Arrays", "java/lang/Math", "java/lang/Integer", "java/lang/String", "java/lang/StringLatin1", "jdk/internal/util/Preconditions", "java/lang/StringUTF16"]
def FLF : List (Nat × Nat × Nat × Nat) := [(8, 13, 8, 0), (8, 17, 8, 1), (8, 20, 8, 2), (8, 7, 8, 3), (10, 383, 8, 3), (7, 13, 7, 0), (7, 17, 7, 1), (7, 20, 7, 2), (7, 7, 7, 3), (10, 388, 7, 3), (5, 14, 5, 0), (10, 144, 5, 0), (5, 23, 5, 1), (10, 168, 5, 1), (5, 27, 5, 2), (10, 131, 5, 2), (5, 33, 5, 3), (5, 36, 5, 4), (5, 39, 5, 5), (5, 42, 5, 6), (5, 46, 5, 7), (5, 49, 5, 8), (5, 52, 5, 9), (9, 14, 9, 0), (10, 217, 9, 0), (9, 20, 9, 1), (10, 223, 9, 1), (9, 24, 9, 2), (9, 28, 9, 3), (9, 31, 9, 4), (9, 34, 9, 5), (9, 37, 9, 6), (9, 40, 9, 7), (9, 45, 9, 8), (9, 48, 9, 9), (9, 51, 9, 10), (9, 55, 9, 11), (9, 58, 9, 12), (1, 11, 1, 0), (10, 268, 1, 0), (1, 17, 1, 1), (10, 249, 1, 1), (1, 21, 1, 2), (10, 300, 1, 2), (1, 24, 1, 3), (10, 303, 1, 3), (1, 27, 1, 4), (10, 311, 1, 4), (1, 30, 1, 5), (1, 33, 1, 6), (1, 37, 1, 7), (1, 40, 1, 8), (1, 43, 1, 9), (1, 46, 1, 10), (1, 49, 1, 11), (0, 9, 0, 0), (10, 377, 0, 0), (0, 15, 0, 1), (10, 368, 0, 1), (4, 9, 4, 0), (10, 329, 4, 0), (4, 15, 4, 1), (10, 340, 4, 1), (4, 18, 4, 2), (4, 22, 4, 3), (4, 25, 4, 4), (4, 28, 4, 5), (2, 9, 2, 0), (4, 31, 2, 0), (10, 387, 2, 0), (2, 15, 2, 1), (2, 19, 2, 2), (2, 22, 2, 3), (2, 25, 2, 4), (2, 28, 2, 5), (6, 9, 6, 0), (10, 116, 6, 0), (6, 15, 6, 1), (10, 101, 6, 1), (6, 19, 6, 2), (10, 113, 6, 2), (6, 23, 6, 3), (10, 125, 6, 3), (10, 11, 10, 0), (10, 18, 10, 1), (10, 25, 10, 2), (10, 32, 10, 3), (10, 39, 10, 4), (10, 48, 10, 5), (10, 55, 10, 6), (10, 59, 10, 7), (10, 63, 10, 8), (10, 69, 10, 9), (10, 73, 10, 10), (10, 76, 10, 11), (3, 31, 3, 0), (3, 34, 3, 1), (0, 66, 3, 1), (1, 133, 3, 1), (3, 37, 3, 2), (10, 272, 3, 2), (3, 9, 3, 3), (0, 60, 3, 3), (1, 130, 3, 3), (10, 365, 3, 3), (3, 15, 3, 4), (0, 63, 3, 4), (1, 107, 3, 4), (3, 18, 3, 5), (1, 110, 3, 5), (3, 21, 3, 6), (1, 113, 3, 6), (3, 24, 3, 7), (0, 57, 3, 7), (1, 124, 3, 7), (3, 28, 3, 8), (10, 282, 3, 8), (11, 174, 11, 0), (11, 177, 11, 1), (11, 7, 11, 2), (11, 13, 11, 3), (11, 16, 11, 4), (11, 19, 11, 5), (11, 22, 11, 6), (11, 198, 11, 7), (11, 25, 11, 8), (11, 28, 11, 9), (11, 221, 11, 10), (11, 31, 11, 11), (11, 34, 11, 12), (11, 37, 11, 13), (11, 40, 11, 14), (11, 43, 11, 15), (11, 46, 11, 16), (11, 49, 11, 17), (11, 52, 11, 18), (11, 246, 11, 19), (11, 55, 11, 20), (11, 58, 11, 21), (11, 61, 11, 22), (11, 64, 11, 23), (11, 274, 11, 24), (11, 67, 11, 25), (11, 277, 11, 26), (11, 71, 11, 27), (11, 74, 11, 28), (11, 77, 11, 29), (11, 282, 11, 30), (11, 80, 11, 31), (11, 83, 11, 32), (11, 86, 11, 33), (11, 89, 11, 34), (11, 305, 11, 35), (11, 92, 11, 36), (11, 95, 11, 37), (11, 98, 11, 38), (11, 101, 11, 39), (11, 104, 11, 40), (11, 107, 11, 41), (11, 110, 11, 42), (11, 113, 11, 43), (11, 116, 11, 44), (11, 119, 11, 45), (11, 123, 11, 46), (11, 126, 11, 47), (11, 129, 11, 48), (11, 335, 11, 49), (11, 341, 11, 50), (11, 347, 11, 51), (11, 350, 11, 52), (11, 132, 11, 53), (11, 451, 11, 54), (11, 135, 11, 55), (11, 138, 11, 56), (11, 141, 11, 57), (11, 403, 11, 58), (11, 144, 11, 59), (11, 147, 11, 60), (11, 150, 11, 61), (11, 153, 11, 62), (11, 362, 11, 63), (11, 447, 11, 64), (11, 367, 11, 65), (11, 370, 11, 66), (11, 379, 11, 67), (11, 376, 11, 68), (11, 388, 11, 69), (11, 391, 11, 70), (11, 394, 11, 71), (11, 454, 11, 72), (11, 156, 11, 73), (11, 159, 11, 74), (11, 162, 11, 75), (11, 165, 11, 76), (11, 168, 11, 77), (11, 171, 11, 78), (11, 473, 11, 79)]
def MLF : List (Nat × Nat × Nat) := [(12, 9, 0), (5, 11, 2), (5, 22, 3), (10, 24, 4), (9, 11, 2), (9, 62, 5), (10, 45, 3), (12, 13, 11), (10, 81, 12), (10, 85, 13), (10, 90, 14), (10, 94, 15), (6, 26, 5), (10, 98, 16), (12, 18, 17), (10, 105, 18), (10, 109, 19), (12, 22, 20), (12, 27, 21), (12, 32, 22), (10, 128, 23), (10, 135, 24), (12, 37, 25), (10, 138, 26), (10, 141, 27), (10, 148, 28), (10, 154, 29), (5, 56, 30), (12, 42, 31), (10, 158, 32), (10, 161, 33), (12, 46, 34), (10, 165, 35), (10, 171, 36), (10, 172, 37), (12, 50, 38), (10, 176, 39), (5, 60, 40), (5, 83, 5), (5, 89, 41), (5, 93, 42), (10, 179, 43), (10, 182, 44), (10, 185, 45), (10, 188, 46), (5, 67, 47), (5, 79, 48), (5, 71, 49), (12, 54, 52), (10, 191, 53), (10, 194, 49), (10, 198, 51), (12, 58, 54), (10, 202, 55), (10, 205, 56), (10, 208, 57), (10, 211, 58), (12, 62, 59), (10, 214, 60), (10, 220, 61), (9, 68, 30), (12, 66, 62), (10, 226, 63), (12, 70, 64), (10, 230, 65), (9, 72, 66), (9, 95, 67), (9, 74, 41), (9, 78, 68), (9, 98, 69), (9, 82, 70), (9, 85, 71), (9, 88, 72), (9, 91, 73), (10, 233, 74), (12, 74, 75), (10, 236, 76), (12, 79, 77), (10, 240, 78), (10, 243, 67), (12, 83, 79), (10, 246, 80), (10, 252, 81), (10, 255, 82), (10, 258, 83), (10, 261, 84), (1, 52, 85), (12, 88, 86), (10, 265, 87), (10, 275, 88), (10, 278, 89), (12, 92, 90), (10, 285, 91), (10, 288, 92), (10, 291, 93), (1, 64, 94), (1, 127, 88), (1, 68, 95), (12, 96, 96), (10, 294, 97), (1, 60, 98), (3, 40, 89), (10, 297, 99), (1, 74, 5), (1, 80, 100), (1, 136, 101), (1, 83, 92), (1, 87, 102), (1, 139, 93), (1, 90, 103), (1, 143, 104), (1, 148, 105), (1, 93, 106), (1, 151, 107), (10, 306, 104), (10, 314, 108), (1, 96, 109), (10, 317, 110), (1, 100, 111), (1, 103, 112), (10, 320, 111), (12, 100, 113), (10, 323, 98), (10, 326, 109), (12, 106, 114), (10, 332, 115), (12, 111, 116), (10, 336, 117), (4, 36, 118), (4, 123, 119), (4, 126, 120), (4, 129, 121), (4, 132, 122), (4, 135, 123), (4, 39, 124), (4, 46, 125), (4, 115, 126), (16, 335, 127), (4, 119, 128), (16, 492, 129), (16, 495, 130), (17, 9, 131), (16, 1059, 132), (16, 498, 133), (19, 67, 134), (19, 48, 135), (19, 414, 131), (19, 71, 136), (4, 50, 137), (4, 54, 138), (4, 57, 139), (4, 65, 140), (4, 70, 141), (4, 73, 142), (4, 76, 143), (4, 62, 144), (4, 82, 145), (4, 87, 146), (12, 115, 147), (12, 119, 148), (10, 343, 149), (10, 346, 150), (12, 123, 151), (10, 349, 152), (10, 390, 48), (10, 352, 153), (2, 31, 154), (2, 36, 155), (12, 127, 156), (10, 356, 157), (10, 393, 5), (10, 399, 158), (12, 131, 159), (10, 359, 160), (12, 135, 161), (10, 362, 162), (3, 44, 160), (12, 139, 163), (10, 371, 164), (0, 19, 160), (0, 25, 165), (0, 53, 166), (0, 38, 167), (0, 29, 168), (0, 32, 169), (0, 35, 170), (0, 47, 171), (0, 41, 172), (0, 50, 173), (10, 374, 174), (0, 44, 175), (12, 143, 176), (12, 147, 177), (10, 380, 178), (10, 384, 179), (1, 56, 89), (12, 151, 180), (12, 12, 181), (12, 17, 182), (11, 187, 183), (11, 183, 184), (11, 194, 185), (12, 21, 186), (12, 26, 187), (12, 31, 188), (12, 36, 189), (11, 207, 190), (12, 41, 191), (11, 211, 192), (11, 214, 193), (12, 45, 194), (12, 49, 195), (12, 53, 196), (11, 259, 197), (11, 231, 198), (11, 262, 199), (11, 265, 200), (11, 249, 201), (11, 253, 202), (11, 240, 203), (11, 236, 204), (12, 57, 205), (12, 61, 206), (12, 65, 207), (12, 69, 208), (12, 73, 209), (11, 291, 210), (11, 285, 211), (11, 288, 212), (11, 295, 213), (12, 78, 214), (11, 298, 215), (12, 82, 216), (12, 87, 217), (11, 310, 218), (12, 91, 219), (11, 313, 220), (11, 316, 221), (12, 95, 222), (11, 325, 223), (11, 328, 224), (11, 331, 225), (11, 320, 226), (12, 99, 227), (11, 353, 228), (11, 338, 229), (11, 344, 230), (11, 357, 231), (12, 103, 232), (12, 110, 233), (12, 114, 234), (11, 400, 235), (11, 373, 236), (11, 382, 237), (11, 385, 238), (11, 444, 239), (11, 406, 240), (11, 397, 241), (11, 420, 242), (11, 429, 243), (11, 424, 244), (12, 118, 245), (12, 122, 246), (12, 126, 247), (11, 457, 248), (11, 460, 249), (12, 130, 250), (11, 463, 251), (12, 134, 252), (11, 467, 253), (12, 138, 254), (11, 470, 255), (12, 142, 256), (11, 485, 257), (11, 479, 258), (11, 476, 259), (11, 482, 260), (12, 146, 261), (12, 150, 262), (12, 154, 263)]
def MNF : List (Nat × Nat × Nat) := [(10, 17, 1), (10, 31, 6), (10, 38, 7), (10, 54, 8), (10, 68, 9), (10, 80, 10), (6, 32, 13), (5, 63, 50), (5, 75, 51), (1, 116, 50), (1, 120, 51)]
def KCF : List (Nat × Nat × Int32) := [(9, 54, -1000000), (10, 89, -1000001), (10, 389, -1000010), (10, 134, -1000003), (10, 401, 65536), (10, 229, -1000000), (3, 27, -1000000), (10, 281, -1000002), (15, 265, 1431655765), (15, 266, 858993459), (15, 267, 252645135), (15, 264, 65536), (1, 99, -1000000), (4, 69, -1000000), (4, 43, -1000100), (2, 35, -1000000), (11, 193, -1000001), (11, 180, -1000010), (11, 210, -1000003), (11, 230, -1000000), (11, 235, 131072), (11, 319, -1000002), (11, 450, -1000100)]
def KLF : List (Nat × Nat × Int64) := [(11, 181, 7), (11, 191, 2), (11, 203, -10000), (11, 205, 10000), (11, 201, 239), (11, 217, 15), (11, 219, 50), (11, 224, 60), (11, 226, -20), (11, 228, 20), (11, 244, 240), (11, 257, 4), (11, 268, 100), (11, 270, 6000), (11, 272, 1000), (11, 280, 5), (11, 301, 3), (11, 308, 2000), (11, 303, 99), (11, 323, -3), (11, 360, 8), (11, 365, 255), (11, 427, 26982), (11, 410, 495806932324), (11, 412, 1852137842), (11, 414, 6713191), (11, 416, 474214787188), (11, 418, 512736126322), (11, 432, 6385252), (11, 434, 1836413812), (11, 436, 1936486263), (11, 438, 495791205988), (11, 440, 465624852596), (11, 442, 1953854062), (12, 104, 4294967295)]
def NCF : List (Nat × Nat × Nat) := [(12, 7, 10), (10, 9, 6), (10, 15, 5), (5, 9, 8), (5, 20, 7), (10, 22, 9), (9, 9, 8), (10, 29, 1), (1, 9, 3), (10, 36, 0), (10, 43, 7), (10, 52, 4), (10, 66, 2), (10, 250, 3), (12, 10, 11)]
def SMF : List Nat := [5, 12, 13, 23, 27, 35, 50, 51, 57, 60, 69, 80, 85, 91, 95, 104, 105, 112, 119, 120, 122, 130, 131, 132, 133, 134, 135, 136, 149, 150, 155, 183, 184, 190, 193, 203, 204, 211, 218, 223, 230, 237, 238, 255]
def IMF : List Nat := [0, 1, 2, 3, 4, 6, 7, 8, 9, 10, 11, 14, 15, 16, 17, 18, 19, 20, 21, 22, 24, 25, 26, 28, 29, 30, 31, 32, 33, 34, 36, 37, 38, 39, 40, 41, 42, 43, 44, 45, 46, 47, 48, 49, 52, 53, 54, 55, 56, 58, 59, 61, 62, 63, 64, 65, 66, 67, 68, 70, 71, 72, 73, 74, 75, 76, 77, 78, 79, 81, 82, 83, 84, 86, 87, 88, 89, 90, 92, 93, 94, 96, 97, 98, 99, 100, 101, 102, 103, 106, 107, 108, 109, 110, 111, 113, 114, 115, 116, 117, 118, 121, 123, 124, 125, 126, 127, 128, 129, 137, 138, 139, 140, 141, 142, 143, 144, 145, 146, 147, 148, 151, 152, 153, 154, 156, 157, 158, 159, 160, 161, 162, 163, 164, 165, 166, 167, 168, 169, 170, 171, 172, 173, 174, 175, 176, 177, 178, 179, 180, 181, 182, 185, 186, 187, 188, 189, 191, 192, 194, 195, 196, 197, 198, 199, 200, 201, 202, 205, 206, 207, 208, 209, 210, 212, 213, 214, 215, 216, 217, 219, 220, 221, 222, 224, 225, 226, 227, 228, 229, 231, 232, 233, 234, 235, 236, 239, 240, 241, 242, 243, 244, 245, 246, 247, 248, 249, 250, 251, 252, 253, 254, 256, 257, 258, 259, 260, 261, 262, 263]
def KZL : List (List Bool) := [[false, false],
  [false, false, false, false, false, false, false, false, false, false, false, false],
  [false, false, false, false, false, false],
  [false, false, false, false, false, false, false, false, false],
  [false, false, false, false, false, false],
  [false, false, false, false, false, false, false, false, false, true],
  [false, true, false, false],
  [false, false, false, false],
  [false, false, false, false],
  [false, false, false, false, false, false, false, false, false, false, false, false, true],
  [false, false, false, false, false, false, false, false, false, false, false, false],
  [false, false, false, false, false, false, false, false, false, false, false, false, false, false, false, false, false, false, false, false, false, false, false, false, false, false, false, false, false, false, false, false, false, false, false, false, false, false, false, false, false, false, false, false, false, false, false, false, false, false, false, false, false, false, false, false, false, false, false, false, false, false, false, false, false, false, false, false, false, false, false, false, false, false, false, false, false, false, false, false]]
end
section
/-! WHAT THE TABLES SAY, by their places in them -/
def mt (i : Nat) : MR := (MTL.getD (i / 16) []).getD (i % 16) (0, [], ⟨#[]⟩, ⟨"", "", ""⟩, 0, none, 0)
def LG : List Cond := lw_tbl.filter goodWord
theorem LG_in {w : Cond} (h : w ∈ lw_tbl) (g : goodWord w = true) : w ∈ LG := List.mem_filter.mpr ⟨h, g⟩
theorem LG_good {w : Cond} (h : w ∈ LG) : (w.onTables && w.keeps) = true ∨ ∃ ty, w = .arrayClass ty := good_of_word (List.mem_filter.mp h).2
theorem in_tab (ws : List Cond) (ps : List Nat) (h : ws = ps.filterMap (fun i => lw_tbl[i]?)) (g : ws.all goodWord = true) : ∀ w ∈ ws, w ∈ LG := by
  intro w hw
  have h1 := List.all_eq_true.mp g w hw
  rw [h] at hw
  obtain ⟨i, -, hi⟩ := List.mem_filterMap.mp hw
  exact LG_in (List.mem_of_getElem? hi) h1
set_option maxRecDepth 100000 in
theorem tb_lay0 : ∀ w ∈ u_ws RX0 TX0 2, w ∈ LG := in_tab _ [313, 315] (by decide +kernel) (by decide +kernel)
set_option maxRecDepth 100000 in
theorem tb_lay1 : ∀ w ∈ u_ws RX1 TX1 12, w ∈ LG := in_tab _ [278, 280, 282, 284, 286, 288, 290, 292, 294, 296, 298, 300] (by decide +kernel) (by decide +kernel)
set_option maxRecDepth 100000 in
theorem tb_lay2 : ∀ w ∈ u_ws RX2 TX2 6, w ∈ LG := in_tab _ [362, 364, 366, 368, 370, 372] (by decide +kernel) (by decide +kernel)
set_option maxRecDepth 100000 in
theorem tb_lay3 : ∀ w ∈ u_ws RX3 TX3 9, w ∈ LG := in_tab _ [752, 754, 756, 758, 760, 762, 764, 766, 768] (by decide +kernel) (by decide +kernel)
set_option maxRecDepth 100000 in
theorem tb_lay4 : ∀ w ∈ u_ws RX4 TX4 6, w ∈ LG := in_tab _ [334, 336, 338, 340, 342, 344] (by decide +kernel) (by decide +kernel)
set_option maxRecDepth 100000 in
theorem tb_lay5 : ∀ w ∈ u_ws RX5 TX5 10, w ∈ LG := in_tab _ [177, 179, 181, 183, 185, 187, 189, 191, 193, 195] (by decide +kernel) (by decide +kernel)
set_option maxRecDepth 100000 in
theorem tb_lay6 : ∀ w ∈ u_ws RX6 TX6 4, w ∈ LG := in_tab _ [388, 390, 392, 394] (by decide +kernel) (by decide +kernel)
set_option maxRecDepth 100000 in
theorem tb_lay7 : ∀ w ∈ u_ws RX7 TX7 4, w ∈ LG := in_tab _ [153, 155, 157, 159] (by decide +kernel) (by decide +kernel)
set_option maxRecDepth 100000 in
theorem tb_lay8 : ∀ w ∈ u_ws RX8 TX8 4, w ∈ LG := in_tab _ [132, 134, 136, 138] (by decide +kernel) (by decide +kernel)
set_option maxRecDepth 100000 in
theorem tb_lay9 : ∀ w ∈ u_ws RX9 TX9 13, w ∈ LG := in_tab _ [226, 228, 230, 232, 234, 236, 238, 240, 242, 244, 246, 248, 250] (by decide +kernel) (by decide +kernel)
set_option maxRecDepth 100000 in
theorem tb_lay10 : ∀ w ∈ u_ws RX10 TX10 12, w ∈ LG := in_tab _ [409, 411, 413, 415, 417, 419, 421, 423, 425, 427, 429, 431] (by decide +kernel) (by decide +kernel)
set_option maxRecDepth 100000 in
theorem tb_lay11 : ∀ w ∈ u_ws RX11 TX11 80, w ∈ LG := in_tab _ [1286, 1288, 1290, 1292, 1294, 1296, 1298, 1300, 1302, 1304, 1306, 1308, 1310, 1312, 1314, 1316, 1318, 1320, 1322, 1324, 1326, 1328, 1330, 1332, 1334, 1336, 1338, 1340, 1342, 1344, 1346, 1348, 1350, 1352, 1354, 1356, 1358, 1360, 1362, 1364, 1366, 1368, 1370, 1372, 1374, 1376, 1378, 1380, 1382, 1384, 1386, 1388, 1390, 1392, 1394, 1396, 1398, 1400, 1402, 1404, 1406, 1408, 1410, 1412, 1414, 1416, 1418, 1420, 1422, 1424, 1426, 1428, 1430, 1432, 1434, 1436, 1438, 1440, 1442, 1444] (by decide +kernel) (by decide +kernel)
def tT (ci k : Nat) : String × String × String × Bool := (vwCl.getD ci ("", fun _ => ("", "", "", false), 0)).2.1 k
def flc (q : Nat × Nat × Nat × Nat) : Cond := .fieldLink (ONL.getD q.1 "") q.2.1 (tT q.2.2.1 q.2.2.2).1 (tT q.2.2.1 q.2.2.2).2.1 (tT q.2.2.1 q.2.2.2).2.2.1
set_option maxRecDepth 100000 in
theorem tb_fl : ∀ w ∈ FLF.map flc, w ∈ LG := in_tab _ [127, 128, 129, 130, 131, 148, 149, 150, 151, 152, 164, 165, 166, 167, 168, 169, 170, 171, 172, 173, 174, 175, 176, 211, 212, 213, 214, 215, 216, 217, 218, 219, 220, 221, 222, 223, 224, 225, 261, 262, 263, 264, 265, 266, 267, 268, 269, 270, 271, 272, 273, 274, 275, 276, 277, 309, 310, 311, 312, 326, 327, 328, 329, 330, 331, 332, 333, 354, 355, 356, 357, 358, 359, 360, 361, 380, 381, 382, 383, 384, 385, 386, 387, 397, 398, 399, 400, 401, 402, 403, 404, 405, 406, 407, 408, 730, 731, 732, 733, 734, 735, 736, 737, 738, 739, 740, 741, 742, 743, 744, 745, 746, 747, 748, 749, 750, 751, 1206, 1207, 1208, 1209, 1210, 1211, 1212, 1213, 1214, 1215, 1216, 1217, 1218, 1219, 1220, 1221, 1222, 1223, 1224, 1225, 1226, 1227, 1228, 1229, 1230, 1231, 1232, 1233, 1234, 1235, 1236, 1237, 1238, 1239, 1240, 1241, 1242, 1243, 1244, 1245, 1246, 1247, 1248, 1249, 1250, 1251, 1252, 1253, 1254, 1255, 1256, 1257, 1258, 1259, 1260, 1261, 1262, 1263, 1264, 1265, 1266, 1267, 1268, 1269, 1270, 1271, 1272, 1273, 1274, 1275, 1276, 1277, 1278, 1279, 1280, 1281, 1282, 1283, 1284, 1285] (by decide +kernel) (by decide +kernel)
def yM (i : Nat) : MethodName := (mt i).2.2.2.1
def mlc (q : Nat × Nat × Nat) : Cond := .methodLink (ONL.getD q.1 "") q.2.1 (yM q.2.2)
set_option maxRecDepth 100000 in
theorem tb_ml : ∀ w ∈ MLF.map mlc, w ∈ LG := in_tab _ [107, 123, 144, 200, 205, 208, 319, 434, 438, 441, 445, 450, 454, 455, 459, 463, 467, 471, 478, 482, 486, 490, 494, 498, 502, 505, 509, 513, 517, 521, 526, 530, 534, 537, 541, 545, 549, 553, 557, 558, 562, 570, 574, 578, 582, 586, 590, 594, 605, 609, 613, 614, 615, 619, 623, 627, 630, 634, 638, 641, 645, 646, 650, 654, 659, 663, 667, 671, 672, 676, 679, 683, 687, 691, 695, 699, 703, 707, 711, 715, 716, 720, 725, 771, 775, 779, 783, 788, 792, 796, 800, 805, 809, 812, 816, 820, 824, 825, 828, 832, 836, 840, 841, 845, 846, 850, 854, 855, 859, 860, 864, 870, 874, 878, 882, 883, 887, 891, 896, 900, 903, 904, 908, 909, 910, 914, 918, 922, 926, 930, 933, 936, 940, 943, 947, 952, 956, 960, 966, 970, 974, 977, 982, 985, 988, 991, 994, 995, 1004, 1008, 1012, 1016, 1026, 1033, 1037, 1042, 1047, 1056, 1061, 1065, 1069, 1072, 1075, 1079, 1083, 1084, 1088, 1092, 1096, 1100, 1104, 1105, 1109, 1113, 1117, 1121, 1125, 1126, 1130, 1134, 1135, 1139, 1143, 1147, 1151, 1155, 1159, 1163, 1167, 1171, 1175, 1179, 1183, 1187, 1191, 1195, 1196, 1202, 1448, 1452, 1456, 1461, 1466, 1470, 1474, 1478, 1482, 1488, 1492, 1496, 1502, 1509, 1514, 1519, 1523, 1528, 1532, 1536, 1540, 1544, 1547, 1551, 1555, 1562, 1566, 1571, 1575, 1579, 1582, 1586, 1590, 1594, 1598, 1603, 1608, 1612, 1616, 1620, 1625, 1629, 1633, 1637, 1641, 1645, 1649, 1653, 1657, 1660, 1664, 1668, 1674, 1678, 1682, 1686, 1689, 1692, 1696, 1701, 1705, 1709, 1718, 1729, 1733, 1737, 1741, 1745, 1749, 1753, 1757, 1761, 1765, 1769, 1772, 1776, 1780, 1784, 1788, 1792, 1796, 1800] (by decide +kernel) (by decide +kernel)
def kcc (q : Nat × Nat × Int32) : Cond := .constant (ONL.getD q.1 "") q.2.1 q.2.2
set_option maxRecDepth 100000 in
theorem tb_kc : ∀ w ∈ KCF.map kcc, w ∈ LG := in_tab _ [207, 444, 449, 489, 604, 658, 729, 804, 867, 868, 869, 873, 895, 1025, 1060, 1095, 1460, 1465, 1487, 1527, 1550, 1624, 1728] (by decide +kernel) (by decide +kernel)
def klc (q : Nat × Nat × Int64) : Cond := .constantLong (ONL.getD q.1 "") q.2.1 q.2.2
set_option maxRecDepth 100000 in
theorem tb_kl : ∀ w ∈ KLF.map klc, w ∈ LG := in_tab _ [1455, 1459, 1485, 1486, 1499, 1500, 1501, 1506, 1507, 1508, 1513, 1518, 1559, 1560, 1561, 1570, 1602, 1607, 1611, 1632, 1672, 1673, 1700, 1713, 1714, 1715, 1716, 1717, 1722, 1723, 1724, 1725, 1726, 1727, 1804] (by decide +kernel) (by decide +kernel)
def ncc (q : Nat × Nat × Nat) : Cond := .classLink (ONL.getD q.1 "") q.2.1 (vwCl.getD q.2.2 ("", fun _ => ("", "", "", false), 0)).1
set_option maxRecDepth 100000 in
theorem tb_nc : ∀ w ∈ NCF.map ncc, w ∈ LG := in_tab _ [105, 113, 115, 121, 142, 198, 204, 253, 259, 303, 318, 320, 348, 723, 1200] (by decide +kernel) (by decide +kernel)
set_option maxRecDepth 100000 in
theorem tb_sm : ∀ w ∈ SMF.map (fun i => Cond.static (yM i)), w ∈ LG := in_tab _ [209, 439, 442, 487, 503, 535, 599, 602, 628, 639, 677, 721, 784, 810, 826, 865, 871, 901, 931, 934, 941, 975, 978, 983, 986, 989, 992, 996, 1070, 1073, 1093, 1453, 1457, 1483, 1497, 1545, 1548, 1580, 1609, 1630, 1658, 1687, 1690, 1770] (by decide +kernel) (by decide +kernel)
set_option maxRecDepth 100000 in
theorem tb_im : ∀ w ∈ IMF.map (fun i => Cond.instanceMethod (yM i)), w ∈ LG := in_tab _ [108, 118, 124, 145, 201, 256, 306, 323, 351, 377, 435, 447, 451, 457, 460, 464, 468, 472, 479, 483, 491, 495, 500, 506, 510, 514, 518, 522, 527, 531, 538, 542, 546, 550, 555, 559, 564, 571, 575, 579, 583, 588, 591, 595, 606, 610, 616, 620, 624, 631, 635, 642, 647, 651, 655, 660, 665, 668, 674, 681, 685, 689, 693, 696, 700, 704, 708, 713, 717, 726, 772, 776, 780, 789, 794, 797, 801, 806, 813, 817, 822, 829, 833, 837, 842, 848, 852, 857, 862, 876, 880, 884, 888, 892, 897, 905, 911, 915, 919, 923, 928, 938, 945, 949, 954, 957, 961, 967, 971, 1006, 1009, 1014, 1018, 1028, 1035, 1038, 1044, 1049, 1057, 1062, 1066, 1076, 1081, 1085, 1090, 1097, 1102, 1107, 1110, 1114, 1118, 1122, 1127, 1131, 1137, 1141, 1145, 1149, 1153, 1157, 1161, 1165, 1169, 1172, 1177, 1180, 1184, 1189, 1192, 1197, 1203, 1449, 1463, 1467, 1471, 1475, 1479, 1489, 1494, 1503, 1510, 1515, 1521, 1525, 1530, 1534, 1538, 1542, 1552, 1556, 1563, 1567, 1572, 1577, 1584, 1588, 1591, 1596, 1599, 1604, 1613, 1618, 1622, 1626, 1635, 1639, 1643, 1646, 1651, 1655, 1662, 1665, 1669, 1675, 1680, 1684, 1694, 1698, 1703, 1707, 1711, 1720, 1730, 1734, 1738, 1743, 1747, 1750, 1755, 1758, 1763, 1766, 1773, 1778, 1782, 1786, 1790, 1793, 1797, 1801] (by decide +kernel) (by decide +kernel)
def INF : List Nat := [12, 10, 5, 8, 7, 9, 13, 1, 0, 4, 2, 6, 11, 14, 3, 15, 16, 17, 18, 19]
set_option maxRecDepth 100000 in
theorem tb_in : ∀ w ∈ INF.map (fun i => Cond.initialized (ONL.getD i "")), w ∈ LG := in_tab _ [84, 85, 86, 87, 88, 89, 90, 91, 92, 93, 94, 95, 96, 98, 99, 100, 101, 102, 103, 104] (by decide +kernel) (by decide +kernel)
set_option maxRecDepth 100000 in
theorem tb_it : ∀ w ∈ vwCl.map (fun q => Cond.instantiable q.1 q.2.2), w ∈ LG := in_tab _ [304, 254, 349, 724, 321, 116, 375, 143, 122, 199, 106, 1201] (by decide +kernel) (by decide +kernel)
def SLF : List Nat := [14, 16, 26, 40, 42, 47, 66, 68, 70, 71, 72, 73, 78, 87, 94, 100, 101, 102, 103, 106, 107, 118, 121, 123, 124, 125, 137, 139, 140, 141, 142, 144, 145, 152, 154, 157, 158, 165, 166, 167, 168, 169, 170, 171, 172, 173, 175, 178, 185, 192, 197, 198, 199, 200, 201, 202, 210, 212, 213, 215, 220, 221, 224, 225, 226, 228, 229, 231, 235, 236, 239, 240, 241, 242, 243, 244, 248, 249, 251, 253, 257, 258, 259, 260, 11, 15, 17, 18, 19, 20, 21, 22, 24, 25, 28, 29, 30, 31, 32, 33, 34, 36, 37, 38, 39, 41, 43, 44, 45, 46, 48, 49, 52, 53, 54, 55, 56, 58, 59, 61, 62, 63, 64, 65, 67, 74, 75, 76, 77, 79, 82, 83, 84, 86, 88, 89, 90, 92, 93, 96, 97, 98, 99, 108, 109, 110, 111, 113, 114, 115, 116, 117, 126, 127, 128, 129, 138, 143, 146, 147, 148, 151, 153, 156, 159, 160, 161, 162, 163, 164, 174, 176, 177, 179, 180, 182, 186, 187, 188, 189, 191, 194, 195, 196, 205, 206, 207, 208, 209, 214, 216, 217, 219, 222, 227, 232, 233, 234, 245, 246, 247, 250, 252, 254, 256, 261, 262, 263]
set_option maxRecDepth 100000 in
theorem tb_sl : ∀ w ∈ SLF.map (fun i => Cond.selects (yM i).cls (yM i) (yM i)), w ∈ LG := in_tab _ [0, 1, 2, 3, 4, 5, 6, 7, 8, 9, 10, 11, 12, 13, 14, 15, 16, 17, 18, 19, 20, 21, 22, 23, 24, 25, 26, 27, 28, 29, 30, 31, 32, 33, 34, 35, 36, 37, 38, 39, 40, 41, 42, 43, 44, 45, 46, 47, 48, 49, 50, 51, 52, 53, 54, 55, 56, 57, 58, 59, 60, 61, 62, 63, 64, 65, 66, 67, 68, 69, 70, 71, 72, 73, 74, 75, 76, 77, 78, 79, 80, 81, 82, 83, 436, 452, 461, 465, 469, 473, 480, 484, 492, 496, 507, 511, 515, 519, 523, 528, 532, 539, 543, 547, 551, 560, 572, 576, 580, 584, 592, 596, 607, 611, 617, 621, 625, 632, 636, 643, 648, 652, 656, 661, 669, 697, 701, 705, 709, 718, 773, 777, 781, 790, 798, 802, 807, 814, 818, 830, 834, 838, 843, 885, 889, 893, 898, 906, 912, 916, 920, 924, 958, 962, 968, 972, 1010, 1039, 1058, 1063, 1067, 1077, 1086, 1098, 1111, 1115, 1119, 1123, 1128, 1132, 1173, 1181, 1185, 1193, 1198, 1450, 1468, 1472, 1476, 1480, 1490, 1504, 1511, 1516, 1553, 1557, 1564, 1568, 1573, 1592, 1600, 1605, 1614, 1627, 1647, 1666, 1670, 1676, 1731, 1735, 1739, 1751, 1759, 1767, 1774, 1794, 1798, 1802] (by decide +kernel) (by decide +kernel)
set_option maxRecDepth 100000 in
theorem tb_cd0 : ∀ w ∈ (List.range 40).map (fun i => Cond.code (yM (0 + i)) (mt (0 + i)).2.2.1 (mt (0 + i)).2.2.2.2.1 (mt (0 + i)).2.2.2.2.2.1), w ∈ LG := in_tab _ [109, 119, 125, 146, 202, 210, 257, 307, 324, 352, 378, 437, 440, 443, 448, 453, 458, 462, 466, 470, 474, 481, 485, 488, 493, 497, 501, 504, 508, 512, 516, 520, 524, 529, 533, 536, 540, 544, 548, 552] (by rfl) (by decide +kernel)
set_option maxRecDepth 100000 in
theorem tb_cd1 : ∀ w ∈ (List.range 40).map (fun i => Cond.code (yM (40 + i)) (mt (40 + i)).2.2.1 (mt (40 + i)).2.2.2.2.1 (mt (40 + i)).2.2.2.2.2.1), w ∈ LG := in_tab _ [556, 561, 565, 573, 577, 581, 585, 589, 593, 597, 600, 603, 608, 612, 618, 622, 626, 629, 633, 637, 640, 644, 649, 653, 657, 662, 666, 670, 675, 678, 682, 686, 690, 694, 698, 702, 706, 710, 714, 719] (by rfl) (by decide +kernel)
set_option maxRecDepth 100000 in
theorem tb_cd2 : ∀ w ∈ (List.range 40).map (fun i => Cond.code (yM (80 + i)) (mt (80 + i)).2.2.1 (mt (80 + i)).2.2.2.2.1 (mt (80 + i)).2.2.2.2.2.1), w ∈ LG := in_tab _ [722, 727, 774, 778, 782, 785, 791, 795, 799, 803, 808, 811, 815, 819, 823, 827, 831, 835, 839, 844, 849, 853, 858, 863, 866, 872, 877, 881, 886, 890, 894, 899, 902, 907, 913, 917, 921, 925, 929, 932] (by rfl) (by decide +kernel)
set_option maxRecDepth 100000 in
theorem tb_cd3 : ∀ w ∈ (List.range 40).map (fun i => Cond.code (yM (120 + i)) (mt (120 + i)).2.2.1 (mt (120 + i)).2.2.2.2.1 (mt (120 + i)).2.2.2.2.2.1), w ∈ LG := in_tab _ [935, 939, 942, 946, 950, 955, 959, 963, 969, 973, 976, 979, 984, 987, 990, 993, 997, 1007, 1011, 1015, 1019, 1029, 1036, 1040, 1045, 1050, 1059, 1064, 1068, 1071, 1074, 1078, 1082, 1087, 1091, 1094, 1099, 1103, 1108, 1112] (by rfl) (by decide +kernel)
set_option maxRecDepth 100000 in
theorem tb_cd4 : ∀ w ∈ (List.range 40).map (fun i => Cond.code (yM (160 + i)) (mt (160 + i)).2.2.1 (mt (160 + i)).2.2.2.2.1 (mt (160 + i)).2.2.2.2.2.1), w ∈ LG := in_tab _ [1116, 1120, 1124, 1129, 1133, 1138, 1142, 1146, 1150, 1154, 1158, 1162, 1166, 1170, 1174, 1178, 1182, 1186, 1190, 1194, 1199, 1204, 1451, 1454, 1458, 1464, 1469, 1473, 1477, 1481, 1484, 1491, 1495, 1498, 1505, 1512, 1517, 1522, 1526, 1531] (by rfl) (by decide +kernel)
set_option maxRecDepth 100000 in
theorem tb_cd5 : ∀ w ∈ (List.range 40).map (fun i => Cond.code (yM (200 + i)) (mt (200 + i)).2.2.1 (mt (200 + i)).2.2.2.2.1 (mt (200 + i)).2.2.2.2.2.1), w ∈ LG := in_tab _ [1535, 1539, 1543, 1546, 1549, 1554, 1558, 1565, 1569, 1574, 1578, 1581, 1585, 1589, 1593, 1597, 1601, 1606, 1610, 1615, 1619, 1623, 1628, 1631, 1636, 1640, 1644, 1648, 1652, 1656, 1659, 1663, 1667, 1671, 1677, 1681, 1685, 1688, 1691, 1695] (by rfl) (by decide +kernel)
set_option maxRecDepth 100000 in
theorem tb_cd6 : ∀ w ∈ (List.range 24).map (fun i => Cond.code (yM (240 + i)) (mt (240 + i)).2.2.1 (mt (240 + i)).2.2.2.2.1 (mt (240 + i)).2.2.2.2.2.1), w ∈ LG := in_tab _ [1699, 1704, 1708, 1712, 1721, 1732, 1736, 1740, 1744, 1748, 1752, 1756, 1760, 1764, 1768, 1771, 1775, 1779, 1783, 1787, 1791, 1795, 1799, 1803] (by rfl) (by decide +kernel)
theorem tb_oi : ∀ w ∈ [Cond.instanceMethod objectInit, Cond.code objectInit ⟨#[0xb1]⟩ 1 none], w ∈ LG := in_tab _ [111, 112] (by decide +kernel) (by decide +kernel)
def OIF : List (Nat × Nat) := [(10, 1), (5, 3), (8, 1), (7, 1), (9, 3), (1, 3), (0, 3), (4, 3), (2, 3), (6, 3), (3, 3), (11, 1)]
set_option maxRecDepth 100000 in
theorem tb_ol : ∀ w ∈ OIF.map (fun q => Cond.methodLink (ONL.getD q.1 "") q.2 objectInit), w ∈ LG := in_tab _ [110, 120, 126, 147, 203, 258, 308, 325, 353, 379, 728, 1205] (by decide +kernel) (by decide +kernel)
set_option maxRecDepth 100000 in
theorem tb_ac : ∀ w ∈ [Cond.arrayClass .int, Cond.arrayClass .byte, Cond.arrayClass .boolean], w ∈ LG := in_tab _ [141, 347, 1447] (by decide +kernel) (by decide +kernel)
end
section
/-! EVERY ENTRY against the bytes and the tables: the check, as a program -/
def ft (M : MR) (j : Nat) : Option Ent := (M.2.1.getD (j / 16) [])[j % 16]?
def pcj (M : MR) (j : Nat) : Nat := match ft M j with
  | some e => e.2.1
  | none => 0
def stI : List (Nat × String × Nat) := [(44, "if", 0), (91, "speed", 1), (93, "near", 2), (95, "fog", 3), (97, "night", 4), (99, "water", 5), (101, "<", 6), (103, ">", 7), (105, "=", 8), (60, "and", 9), (80, "must", 10), (107, "slow", 11), (109, "sound", 12), (111, "light", 13), (113, "turn", 14), (85, ";", 15)]
/-- the methods that may be run (not Math's: the machine has its own way there) -/
def useB (i : Nat) : Bool := decide (i < 264) && !([69, 95, 112].contains i)
def lenI : Instr → Nat
  | .iload _ | .aload _ | .lload _ | .istore _ | .lstore _ | .astore _ | .bipush _ | .ldc _ | .newarray _ => 2
  | .sipush _ | .ldc_w _ | .ldc2_w _ | .iinc _ _ | .goto _ | .ifCond _ _ | .if_icmp _ _ | .getfield _ | .putfield _ | .getstatic _ | .new _ | .anewarray _ | .invokestatic _ | .invokevirtual _ | .invokespecial _ => 3
  | .multianewarray _ _ => 4
  | _ => 1
def swB : Instr → Bool
  | .tableswitch _ _ _ _ | .lookupswitch _ _ => true
  | _ => false
def nfB : Instr → Bool
  | .tableswitch _ _ _ _ | .lookupswitch _ _ | .goto _ | .ireturn | .lreturn | .return_ | .athrow => true
  | _ => false
/-- a method that is called: its number, how many it takes beside the receiver -/
def calB (i n : Nat) : Bool := useB i && (INF.contains (mt i).2.2.2.2.2.2 && (decide (ONL.getD (mt i).2.2.2.2.2.2 "" = (yM i).cls) && (decide ((yM i).cls ≠ "java/lang/invoke/MethodHandle") && (decide ((yM i).cls ≠ "java/lang/invoke/VarHandle") && (decide ((parseMethodDescriptor (yM i).desc).map (fun d => d.parameters.length) = some n) && decide ((mt i).2.2.2.2.1 ≤ 21))))))
def tgB (M : MR) (pc t : Nat) (off : Int) : Bool := decide ((pc : Int) + off = (pcj M t : Int))
def argB (M : MR) (e : Ent) : Bool := match e.1 with
  | .iconst n => decide (e.2.2.2 = .int (Int32.ofInt n))
  | .bipush n => decide (e.2.2.2 = .int (Int8.ofInt n).toInt32)
  | .sipush n => decide (e.2.2.2 = .int (Int16.ofInt n).toInt32)
  | .lconst n => decide (e.2.2.2 = .long (Int64.ofNat (n : Nat)))
  | .ldc ix => match e.2.2.2 with
    | .int x => KCF.contains (M.2.2.2.2.2.2, ix, x)
    | .ref p => decide (M.2.2.2.1.cls = "WreckCourt$Reader") && stI.any (fun q => q.1 == ix && p == 100000 + q.2.2)
    | _ => false
  | .ldc_w ix => match e.2.2.2 with
    | .int x => KCF.contains (M.2.2.2.2.2.2, ix, x)
    | _ => false
  | .ldc2_w ix => match e.2.2.2 with
    | .long x => KLF.contains (M.2.2.2.2.2.2, ix, x)
    | _ => false
  | .istore_n k => decide (k.val < M.2.2.2.2.1)
  | .istore k => decide (k < M.2.2.2.2.1)
  | .astore_n k => decide (k.val < M.2.2.2.2.1)
  | .astore k => decide (k < M.2.2.2.2.1)
  | .lstore_n k => decide (k.val + 1 < M.2.2.2.2.1)
  | .lstore k => decide (k + 1 < M.2.2.2.2.1)
  | .iinc k _ => decide (k < M.2.2.2.2.1)
  | .goto off => tgB M e.2.1 (e.2.2.1.getD 0 0) off
  | .ifCond _ off => tgB M e.2.1 (e.2.2.1.getD 0 0) off
  | .if_icmp _ off => tgB M e.2.1 (e.2.2.1.getD 0 0) off
  | .tableswitch df lo hi offs => tgB M e.2.1 (e.2.2.1.getD 0 0) df && (decide (0 ≤ lo) && (decide (hi = lo + offs.size - 1) && (decide (lo + offs.size < 1000) && (decide ((e.2.2.1.drop 1).length = offs.size) && (List.range offs.size).all (fun i => tgB M e.2.1 ((e.2.2.1.drop 1).getD i 0) (offs.getD i 0))))))
  | .lookupswitch df ps => tgB M e.2.1 (e.2.2.1.getD 0 0) df && ((ps.toList.zip (ps.toList.drop 1)).all (fun (a, next) => a.1 < next.1) && (decide ((e.2.2.1.drop 1).length = ps.toList.length) && (List.range ps.toList.length).all (fun i => tgB M e.2.1 ((e.2.2.1.drop 1).getD i 0) (ps.toList.getD i (0, 0)).2 && decide ((Int32.ofInt (ps.toList.getD i (0, 0)).1).toInt = (ps.toList.getD i (0, 0)).1))))
  | .getfield ix => FLF.contains (M.2.2.2.2.2.2, ix, e.2.2.1.getD 0 0, e.2.2.1.getD 1 0) && (decide (e.2.2.1.getD 0 0 < 12) && decide (e.2.2.1.getD 1 0 < (vwCl.getD (e.2.2.1.getD 0 0) ("", fun _ => ("", "", "", false), 0)).2.2))
  | .putfield ix => FLF.contains (M.2.2.2.2.2.2, ix, e.2.2.1.getD 0 0, e.2.2.1.getD 1 0) && (decide (e.2.2.1.getD 0 0 < 12) && (decide (e.2.2.1.getD 1 0 < (vwCl.getD (e.2.2.1.getD 0 0) ("", fun _ => ("", "", "", false), 0)).2.2) && (decide ((tT (e.2.2.1.getD 0 0) (e.2.2.1.getD 1 0)).2.2.2 = false) || (decide ((tT (e.2.2.1.getD 0 0) (e.2.2.1.getD 1 0)).1 = M.2.2.2.1.cls) && decide (M.2.2.2.1.name = "<init>")))))
  | .getstatic ix => decide (M.2.2.2.1.cls = "WreckCourt$Sea") && (decide (e.2.2.2 = .ref 100100 ∧ ix = 97) || decide (e.2.2.2 = .ref 100101 ∧ ix = 100))
  | .new ix => decide (e.2.2.1.getD 0 0 < 12) && NCF.contains (M.2.2.2.2.2.2, ix, e.2.2.1.getD 0 0)
  | .newarray ty => decide (e.2.2.1.getD 0 0 = 20 ∧ ty = .int) || (decide (e.2.2.1.getD 0 0 = 21 ∧ ty = .byte) || decide (e.2.2.1.getD 0 0 = 22 ∧ ty = .boolean))
  | .anewarray ix => (decide (e.2.2.1.getD 0 0 = 23) && NCF.contains (M.2.2.2.2.2.2, ix, 6)) || (decide (e.2.2.1.getD 0 0 = 24) && NCF.contains (M.2.2.2.2.2.2, ix, 3))
  | .multianewarray ix dm => decide (dm = 2) && (decide (M.2.2.2.1.cls = "WreckCourt$Sea" ∧ ix = 31) || decide (M.2.2.2.1.cls = "WreckCourt$Vessel" ∧ ix = 43))
  | .invokestatic ix => match e.2.2.1.getD 0 0 with
    | 0 => MLF.contains (M.2.2.2.2.2.2, ix, e.2.2.1.getD 1 0) && (SMF.contains (e.2.2.1.getD 1 0) && calB (e.2.2.1.getD 1 0) (e.2.2.1.getD 2 0))
    | 3 => MNF.contains (M.2.2.2.2.2.2, ix, e.2.2.1.getD 1 0) && (SMF.contains (e.2.2.1.getD 1 0) && calB (e.2.2.1.getD 1 0) (e.2.2.1.getD 2 0))
    | 6 => decide (M.2.2.2.1.cls = "WreckCourt") && decide (ix = 119)
    | 9 => MLF.contains (M.2.2.2.2.2.2, ix, 69)
    | 10 => MLF.contains (M.2.2.2.2.2.2, ix, 112)
    | 11 => MLF.contains (M.2.2.2.2.2.2, ix, 95)
    | _ => false
  | .invokevirtual ix => match e.2.2.1.getD 0 0 with
    | 1 => MLF.contains (M.2.2.2.2.2.2, ix, e.2.2.1.getD 1 0) && (IMF.contains (e.2.2.1.getD 1 0) && (SLF.contains (e.2.2.1.getD 1 0) && (decide (1 ≤ e.2.2.1.getD 2 0) && (calB (e.2.2.1.getD 1 0) (e.2.2.1.getD 2 0 - 1) && (decide (e.2.2.1.getD 3 0 < 12) && decide ((vwCl.getD (e.2.2.1.getD 3 0) ("", fun _ => ("", "", "", false), 0)).1 = (yM (e.2.2.1.getD 1 0)).cls))))))
    | 7 => decide (M.2.2.2.1.cls = "WreckCourt$Reader") && decide (ix = 115)
    | 8 => decide (M.2.2.2.1.cls = "WreckCourt$Reader") && decide (ix = 119)
    | _ => false
  | .invokespecial ix => match e.2.2.1.getD 0 0 with
    | 2 => MLF.contains (M.2.2.2.2.2.2, ix, e.2.2.1.getD 1 0) && (IMF.contains (e.2.2.1.getD 1 0) && (decide (1 ≤ e.2.2.1.getD 2 0) && (calB (e.2.2.1.getD 1 0) (e.2.2.1.getD 2 0 - 1) && (decide ((yM (e.2.2.1.getD 1 0)).name = "<init>") && decide ((mt (e.2.2.1.getD 1 0)).2.2.2.2.2.1 = none)))))
    | 4 => MNF.contains (M.2.2.2.2.2.2, ix, e.2.2.1.getD 1 0) && (IMF.contains (e.2.2.1.getD 1 0) && (decide (1 ≤ e.2.2.1.getD 2 0) && (calB (e.2.2.1.getD 1 0) (e.2.2.1.getD 2 0 - 1) && (decide ((yM (e.2.2.1.getD 1 0)).name = "<init>") && decide ((mt (e.2.2.1.getD 1 0)).2.2.2.2.2.1 = none)))))
    | 5 => OIF.contains (M.2.2.2.2.2.2, ix)
    | _ => false
  | _ => true
def decB (b : ByteArray) (e : Ent) : Bool := match decode b e.2.1 with
  | .ok (i, n) => decide (i = e.1) && (swB e.1 || decide (n = lenI e.1))
  | .error _ => false
def chkE (M : MR) (j : Nat) : Bool := match ft M j with
  | none => true
  | some e => decB M.2.2.1 e && ((nfB e.1 || decide (pcj M (j + 1) = e.2.1 + lenI e.1)) && argB M e)
def chkM (M : MR) : Bool := plainName M.2.2.2.1.cls && (decide (pcj M 0 = 0) && (decide (ONL.getD M.2.2.2.2.2.2 "" = M.2.2.2.1.cls) && (List.range (M.2.1.length * 16)).all (chkE M)))
theorem use_lt {i : Nat} (h : useB i = true) : i < 264 := by
  unfold useB at h
  simp only [Bool.and_eq_true, decide_eq_true_eq] at h
  exact h.1
end
section
theorem al_ext {P : Nat → Bool} {a m : Nat} (h : ∀ i, i < a → P i = true) (h2 : (List.range m).all (fun i => P (a + i)) = true) : ∀ i, i < a + m → P i = true := fun i hi => by
  rcases Nat.lt_or_ge i a with z | z
  · exact h i z
  · have := List.all_eq_true.mp h2 (i - a) (List.mem_range.mpr (by omega))
    rw [show a + (i - a) = i by omega] at this
    exact this
theorem al_0 {P : Nat → Bool} : ∀ i, i < 0 → P i = true := fun i h => absurd h (Nat.not_lt_zero i)
def hdM (M : MR) : Bool := plainName M.2.2.2.1.cls && (decide (pcj M 0 = 0) && decide (ONL.getD M.2.2.2.2.2.2 "" = M.2.2.2.1.cls))
theorem chkM_of {M : MR} {n : Nat} (h1 : hdM M = true) (hn : M.2.1.length * 16 = n) (h2 : ∀ j, j < n → chkE M j = true) : chkM M = true := by
  unfold hdM at h1
  unfold chkM
  simp only [Bool.and_eq_true] at h1 ⊢
  exact ⟨h1.1, h1.2.1, h1.2.2, List.all_eq_true.mpr (fun j hj => h2 j (by rw [← hn]; exact List.mem_range.mp hj))⟩
def ckI (i : Nat) : Bool := !(useB i) || chkM (mt i)
set_option maxRecDepth 100000 in
theorem ckg_0 : (List.range 1).all (fun i => ckI (0 + i)) = true := by decide +kernel
set_option maxRecDepth 100000 in
theorem ckg_1 : (List.range 3).all (fun i => ckI (1 + i)) = true := by decide +kernel
set_option maxRecDepth 100000 in
theorem ckg_4 : (List.range 2).all (fun i => ckI (4 + i)) = true := by decide +kernel
set_option maxRecDepth 100000 in
theorem ckg_6 : (List.range 3).all (fun i => ckI (6 + i)) = true := by decide +kernel
set_option maxRecDepth 100000 in
theorem ckg_9 : (List.range 6).all (fun i => ckI (9 + i)) = true := by decide +kernel
set_option maxRecDepth 100000 in
theorem ckg_15 : (List.range 5).all (fun i => ckI (15 + i)) = true := by decide +kernel
set_option maxRecDepth 100000 in
theorem ckg_20 : (List.range 2).all (fun i => ckI (20 + i)) = true := by decide +kernel
set_option maxRecDepth 100000 in
theorem ckg_22 : (List.range 4).all (fun i => ckI (22 + i)) = true := by decide +kernel
set_option maxRecDepth 100000 in
theorem ckg_26 : (List.range 4).all (fun i => ckI (26 + i)) = true := by decide +kernel
set_option maxRecDepth 100000 in
theorem ckg_30 : (List.range 1).all (fun i => ckI (30 + i)) = true := by decide +kernel
set_option maxRecDepth 100000 in
theorem ckg_31 : (List.range 2).all (fun i => ckI (31 + i)) = true := by decide +kernel
set_option maxRecDepth 100000 in
theorem ckg_33 : (List.range 4).all (fun i => ckI (33 + i)) = true := by decide +kernel
set_option maxRecDepth 100000 in
theorem ckg_37 : (List.range 3).all (fun i => ckI (37 + i)) = true := by decide +kernel
set_option maxRecDepth 100000 in
theorem ckg_40 : (List.range 2).all (fun i => ckI (40 + i)) = true := by decide +kernel
set_option maxRecDepth 100000 in
theorem ckg_42 : (List.range 3).all (fun i => ckI (42 + i)) = true := by decide +kernel
set_option maxRecDepth 100000 in
theorem ckg_45 : (List.range 3).all (fun i => ckI (45 + i)) = true := by decide +kernel
set_option maxRecDepth 100000 in
theorem ckg_48 : (List.range 4).all (fun i => ckI (48 + i)) = true := by decide +kernel
set_option maxRecDepth 100000 in
theorem ckg_52 : (List.range 2).all (fun i => ckI (52 + i)) = true := by decide +kernel
end
section
set_option maxRecDepth 100000 in
theorem ckg_54 : (List.range 5).all (fun i => ckI (54 + i)) = true := by decide +kernel
set_option maxRecDepth 100000 in
theorem ckg_59 : (List.range 5).all (fun i => ckI (59 + i)) = true := by decide +kernel
set_option maxRecDepth 100000 in
theorem ckg_64 : (List.range 3).all (fun i => ckI (64 + i)) = true := by decide +kernel
set_option maxRecDepth 100000 in
theorem ckg_67 : (List.range 1).all (fun i => ckI (67 + i)) = true := by decide +kernel
set_option maxRecDepth 100000 in
theorem ckg_68 : (List.range 2).all (fun i => ckI (68 + i)) = true := by decide +kernel
set_option maxRecDepth 100000 in
theorem ckg_70 : (List.range 1).all (fun i => ckI (70 + i)) = true := by decide +kernel
set_option maxRecDepth 100000 in
theorem ckg_71 : (List.range 6).all (fun i => ckI (71 + i)) = true := by decide +kernel
set_option maxRecDepth 100000 in
theorem ckg_77 : (List.range 3).all (fun i => ckI (77 + i)) = true := by decide +kernel
set_option maxRecDepth 100000 in
theorem ckg_80 : (List.range 4).all (fun i => ckI (80 + i)) = true := by decide +kernel
set_option maxRecDepth 100000 in
theorem ckg_84 : (List.range 2).all (fun i => ckI (84 + i)) = true := by decide +kernel
set_option maxRecDepth 100000 in
theorem ckg_86 : (List.range 4).all (fun i => ckI (86 + i)) = true := by decide +kernel
set_option maxRecDepth 100000 in
theorem ckg_90 : (List.range 4).all (fun i => ckI (90 + i)) = true := by decide +kernel
set_option maxRecDepth 100000 in
theorem ckg_94 : (List.range 3).all (fun i => ckI (94 + i)) = true := by decide +kernel
set_option maxRecDepth 100000 in
theorem ckg_97 : (List.range 2).all (fun i => ckI (97 + i)) = true := by decide +kernel
set_option maxRecDepth 100000 in
theorem ckg_99 : (List.range 1).all (fun i => ckI (99 + i)) = true := by decide +kernel
set_option maxRecDepth 100000 in
theorem ckg_100 : (List.range 3).all (fun i => ckI (100 + i)) = true := by decide +kernel
set_option maxRecDepth 100000 in
theorem ckg_103 : (List.range 1).all (fun i => ckI (103 + i)) = true := by decide +kernel
set_option maxRecDepth 100000 in
theorem ckg_104 : (List.range 2).all (fun i => ckI (104 + i)) = true := by decide +kernel
set_option maxRecDepth 100000 in
theorem ckg_106 : (List.range 3).all (fun i => ckI (106 + i)) = true := by decide +kernel
end
section
set_option maxRecDepth 100000 in
theorem ckg_109 : (List.range 5).all (fun i => ckI (109 + i)) = true := by decide +kernel
set_option maxRecDepth 100000 in
theorem ckg_114 : (List.range 3).all (fun i => ckI (114 + i)) = true := by decide +kernel
set_option maxRecDepth 100000 in
theorem ckg_117 : (List.range 1).all (fun i => ckI (117 + i)) = true := by decide +kernel
set_option maxRecDepth 100000 in
theorem ckg_118 : (List.range 3).all (fun i => ckI (118 + i)) = true := by decide +kernel
set_option maxRecDepth 100000 in
theorem ckg_121 : (List.range 3).all (fun i => ckI (121 + i)) = true := by decide +kernel
set_option maxRecDepth 100000 in
theorem ckg_124 : (List.range 13).all (fun i => ckI (124 + i)) = true := by decide +kernel
set_option maxRecDepth 100000 in
theorem ckg_137 : (List.range 4).all (fun i => ckI (137 + i)) = true := by decide +kernel
set_option maxRecDepth 100000 in
theorem ckg_141 : (List.range 3).all (fun i => ckI (141 + i)) = true := by decide +kernel
set_option maxRecDepth 100000 in
theorem ckg_144 : (List.range 4).all (fun i => ckI (144 + i)) = true := by decide +kernel
set_option maxRecDepth 100000 in
theorem ckg_148 : (List.range 4).all (fun i => ckI (148 + i)) = true := by decide +kernel
set_option maxRecDepth 100000 in
theorem ckg_152 : (List.range 2).all (fun i => ckI (152 + i)) = true := by decide +kernel
set_option maxRecDepth 100000 in
theorem ckg_154 : (List.range 3).all (fun i => ckI (154 + i)) = true := by decide +kernel
set_option maxRecDepth 100000 in
theorem ckg_157 : (List.range 3).all (fun i => ckI (157 + i)) = true := by decide +kernel
set_option maxRecDepth 100000 in
theorem ckg_160 : (List.range 4).all (fun i => ckI (160 + i)) = true := by decide +kernel
set_option maxRecDepth 100000 in
theorem ckg_164 : (List.range 8).all (fun i => ckI (164 + i)) = true := by decide +kernel
set_option maxRecDepth 100000 in
theorem ckg_172 : (List.range 5).all (fun i => ckI (172 + i)) = true := by decide +kernel
set_option maxRecDepth 100000 in
theorem ckg_177 : (List.range 4).all (fun i => ckI (177 + i)) = true := by decide +kernel
set_option maxRecDepth 100000 in
theorem ckb_181_0 : (List.range 48).all (fun i => chkE (mt 181) (0 + i)) = true := by decide +kernel
set_option maxRecDepth 100000 in
theorem ckb_181_48 : (List.range 48).all (fun i => chkE (mt 181) (48 + i)) = true := by decide +kernel
end
section
set_option maxRecDepth 100000 in
theorem ckb_181_96 : (List.range 48).all (fun i => chkE (mt 181) (96 + i)) = true := by decide +kernel
set_option maxRecDepth 100000 in
theorem ckb_181_144 : (List.range 48).all (fun i => chkE (mt 181) (144 + i)) = true := by decide +kernel
set_option maxRecDepth 100000 in
theorem ckb_181_192 : (List.range 48).all (fun i => chkE (mt 181) (192 + i)) = true := by decide +kernel
set_option maxRecDepth 100000 in
theorem ckb_181_240 : (List.range 48).all (fun i => chkE (mt 181) (240 + i)) = true := by decide +kernel
set_option maxRecDepth 100000 in
theorem ckb_181_288 : (List.range 48).all (fun i => chkE (mt 181) (288 + i)) = true := by decide +kernel
set_option maxRecDepth 100000 in
theorem ckb_181_336 : (List.range 48).all (fun i => chkE (mt 181) (336 + i)) = true := by decide +kernel
set_option maxRecDepth 100000 in
theorem ckb_181_384 : (List.range 32).all (fun i => chkE (mt 181) (384 + i)) = true := by decide +kernel
theorem ckm_181 : chkM (mt 181) = true := chkM_of (n := 416) (by decide +kernel) (by decide +kernel) (al_ext (a := 384) (al_ext (a := 336) (al_ext (a := 288) (al_ext (a := 240) (al_ext (a := 192) (al_ext (a := 144) (al_ext (a := 96) (al_ext (a := 48) (al_ext (a := 0) al_0 ckb_181_0) ckb_181_48) ckb_181_96) ckb_181_144) ckb_181_192) ckb_181_240) ckb_181_288) ckb_181_336) ckb_181_384)
theorem ckg_181 : (List.range 1).all (fun i => ckI (181 + i)) = true := by simp [ckI, ckm_181]
set_option maxRecDepth 100000 in
theorem ckg_182 : (List.range 4).all (fun i => ckI (182 + i)) = true := by decide +kernel
set_option maxRecDepth 100000 in
theorem ckg_186 : (List.range 1).all (fun i => ckI (186 + i)) = true := by decide +kernel
set_option maxRecDepth 100000 in
theorem ckb_187_0 : (List.range 96).all (fun i => chkE (mt 187) (0 + i)) = true := by decide +kernel
set_option maxRecDepth 100000 in
theorem ckb_187_96 : (List.range 32).all (fun i => chkE (mt 187) (96 + i)) = true := by decide +kernel
theorem ckm_187 : chkM (mt 187) = true := chkM_of (n := 128) (by decide +kernel) (by decide +kernel) (al_ext (a := 96) (al_ext (a := 0) al_0 ckb_187_0) ckb_187_96)
theorem ckg_187 : (List.range 1).all (fun i => ckI (187 + i)) = true := by simp [ckI, ckm_187]
set_option maxRecDepth 100000 in
theorem ckg_188 : (List.range 3).all (fun i => ckI (188 + i)) = true := by decide +kernel
set_option maxRecDepth 100000 in
theorem ckg_191 : (List.range 3).all (fun i => ckI (191 + i)) = true := by decide +kernel
set_option maxRecDepth 100000 in
theorem ckb_194_0 : (List.range 96).all (fun i => chkE (mt 194) (0 + i)) = true := by decide +kernel
set_option maxRecDepth 100000 in
theorem ckb_194_96 : (List.range 32).all (fun i => chkE (mt 194) (96 + i)) = true := by decide +kernel
theorem ckm_194 : chkM (mt 194) = true := chkM_of (n := 128) (by decide +kernel) (by decide +kernel) (al_ext (a := 96) (al_ext (a := 0) al_0 ckb_194_0) ckb_194_96)
theorem ckg_194 : (List.range 1).all (fun i => ckI (194 + i)) = true := by simp [ckI, ckm_194]
set_option maxRecDepth 100000 in
theorem ckg_195 : (List.range 1).all (fun i => ckI (195 + i)) = true := by decide +kernel
set_option maxRecDepth 100000 in
theorem ckg_196 : (List.range 1).all (fun i => ckI (196 + i)) = true := by decide +kernel
set_option maxRecDepth 100000 in
theorem ckb_197_0 : (List.range 96).all (fun i => chkE (mt 197) (0 + i)) = true := by decide +kernel
set_option maxRecDepth 100000 in
theorem ckb_197_96 : (List.range 32).all (fun i => chkE (mt 197) (96 + i)) = true := by decide +kernel
theorem ckm_197 : chkM (mt 197) = true := chkM_of (n := 128) (by decide +kernel) (by decide +kernel) (al_ext (a := 96) (al_ext (a := 0) al_0 ckb_197_0) ckb_197_96)
theorem ckg_197 : (List.range 1).all (fun i => ckI (197 + i)) = true := by simp [ckI, ckm_197]
set_option maxRecDepth 100000 in
theorem ckg_198 : (List.range 2).all (fun i => ckI (198 + i)) = true := by decide +kernel
end
section
set_option maxRecDepth 100000 in
theorem ckg_200 : (List.range 2).all (fun i => ckI (200 + i)) = true := by decide +kernel
set_option maxRecDepth 100000 in
theorem ckg_202 : (List.range 3).all (fun i => ckI (202 + i)) = true := by decide +kernel
set_option maxRecDepth 100000 in
theorem ckg_205 : (List.range 1).all (fun i => ckI (205 + i)) = true := by decide +kernel
set_option maxRecDepth 100000 in
theorem ckg_206 : (List.range 1).all (fun i => ckI (206 + i)) = true := by decide +kernel
set_option maxRecDepth 100000 in
theorem ckg_207 : (List.range 1).all (fun i => ckI (207 + i)) = true := by decide +kernel
set_option maxRecDepth 100000 in
theorem ckg_208 : (List.range 2).all (fun i => ckI (208 + i)) = true := by decide +kernel
set_option maxRecDepth 100000 in
theorem ckb_210_0 : (List.range 96).all (fun i => chkE (mt 210) (0 + i)) = true := by decide +kernel
set_option maxRecDepth 100000 in
theorem ckb_210_96 : (List.range 96).all (fun i => chkE (mt 210) (96 + i)) = true := by decide +kernel
set_option maxRecDepth 100000 in
theorem ckb_210_192 : (List.range 80).all (fun i => chkE (mt 210) (192 + i)) = true := by decide +kernel
theorem ckm_210 : chkM (mt 210) = true := chkM_of (n := 272) (by decide +kernel) (by decide +kernel) (al_ext (a := 192) (al_ext (a := 96) (al_ext (a := 0) al_0 ckb_210_0) ckb_210_96) ckb_210_192)
theorem ckg_210 : (List.range 1).all (fun i => ckI (210 + i)) = true := by simp [ckI, ckm_210]
set_option maxRecDepth 100000 in
theorem ckg_211 : (List.range 4).all (fun i => ckI (211 + i)) = true := by decide +kernel
set_option maxRecDepth 100000 in
theorem ckg_215 : (List.range 2).all (fun i => ckI (215 + i)) = true := by decide +kernel
set_option maxRecDepth 100000 in
theorem ckb_217_0 : (List.range 96).all (fun i => chkE (mt 217) (0 + i)) = true := by decide +kernel
set_option maxRecDepth 100000 in
theorem ckb_217_96 : (List.range 16).all (fun i => chkE (mt 217) (96 + i)) = true := by decide +kernel
theorem ckm_217 : chkM (mt 217) = true := chkM_of (n := 112) (by decide +kernel) (by decide +kernel) (al_ext (a := 96) (al_ext (a := 0) al_0 ckb_217_0) ckb_217_96)
theorem ckg_217 : (List.range 1).all (fun i => ckI (217 + i)) = true := by simp [ckI, ckm_217]
set_option maxRecDepth 100000 in
theorem ckg_218 : (List.range 4).all (fun i => ckI (218 + i)) = true := by decide +kernel
set_option maxRecDepth 100000 in
theorem ckg_222 : (List.range 3).all (fun i => ckI (222 + i)) = true := by decide +kernel
set_option maxRecDepth 100000 in
theorem ckg_225 : (List.range 2).all (fun i => ckI (225 + i)) = true := by decide +kernel
set_option maxRecDepth 100000 in
theorem ckb_227_0 : (List.range 96).all (fun i => chkE (mt 227) (0 + i)) = true := by decide +kernel
set_option maxRecDepth 100000 in
theorem ckb_227_96 : (List.range 64).all (fun i => chkE (mt 227) (96 + i)) = true := by decide +kernel
theorem ckm_227 : chkM (mt 227) = true := chkM_of (n := 160) (by decide +kernel) (by decide +kernel) (al_ext (a := 96) (al_ext (a := 0) al_0 ckb_227_0) ckb_227_96)
theorem ckg_227 : (List.range 1).all (fun i => ckI (227 + i)) = true := by simp [ckI, ckm_227]
set_option maxRecDepth 100000 in
theorem ckb_228_0 : (List.range 48).all (fun i => chkE (mt 228) (0 + i)) = true := by decide +kernel
end
section
set_option maxRecDepth 100000 in
theorem ckb_228_48 : (List.range 48).all (fun i => chkE (mt 228) (48 + i)) = true := by decide +kernel
set_option maxRecDepth 100000 in
theorem ckb_228_96 : (List.range 48).all (fun i => chkE (mt 228) (96 + i)) = true := by decide +kernel
set_option maxRecDepth 100000 in
theorem ckb_228_144 : (List.range 48).all (fun i => chkE (mt 228) (144 + i)) = true := by decide +kernel
set_option maxRecDepth 100000 in
theorem ckb_228_192 : (List.range 48).all (fun i => chkE (mt 228) (192 + i)) = true := by decide +kernel
set_option maxRecDepth 100000 in
theorem ckb_228_240 : (List.range 48).all (fun i => chkE (mt 228) (240 + i)) = true := by decide +kernel
set_option maxRecDepth 100000 in
theorem ckb_228_288 : (List.range 48).all (fun i => chkE (mt 228) (288 + i)) = true := by decide +kernel
theorem ckm_228 : chkM (mt 228) = true := chkM_of (n := 336) (by decide +kernel) (by decide +kernel) (al_ext (a := 288) (al_ext (a := 240) (al_ext (a := 192) (al_ext (a := 144) (al_ext (a := 96) (al_ext (a := 48) (al_ext (a := 0) al_0 ckb_228_0) ckb_228_48) ckb_228_96) ckb_228_144) ckb_228_192) ckb_228_240) ckb_228_288)
theorem ckg_228 : (List.range 1).all (fun i => ckI (228 + i)) = true := by simp [ckI, ckm_228]
set_option maxRecDepth 100000 in
theorem ckg_229 : (List.range 3).all (fun i => ckI (229 + i)) = true := by decide +kernel
set_option maxRecDepth 100000 in
theorem ckg_232 : (List.range 2).all (fun i => ckI (232 + i)) = true := by decide +kernel
set_option maxRecDepth 100000 in
theorem ckg_234 : (List.range 1).all (fun i => ckI (234 + i)) = true := by decide +kernel
set_option maxRecDepth 100000 in
theorem ckb_235_0 : (List.range 96).all (fun i => chkE (mt 235) (0 + i)) = true := by decide +kernel
set_option maxRecDepth 100000 in
theorem ckb_235_96 : (List.range 32).all (fun i => chkE (mt 235) (96 + i)) = true := by decide +kernel
theorem ckm_235 : chkM (mt 235) = true := chkM_of (n := 128) (by decide +kernel) (by decide +kernel) (al_ext (a := 96) (al_ext (a := 0) al_0 ckb_235_0) ckb_235_96)
theorem ckg_235 : (List.range 1).all (fun i => ckI (235 + i)) = true := by simp [ckI, ckm_235]
set_option maxRecDepth 100000 in
theorem ckg_236 : (List.range 3).all (fun i => ckI (236 + i)) = true := by decide +kernel
set_option maxRecDepth 100000 in
theorem ckb_239_0 : (List.range 96).all (fun i => chkE (mt 239) (0 + i)) = true := by decide +kernel
set_option maxRecDepth 100000 in
theorem ckb_239_96 : (List.range 48).all (fun i => chkE (mt 239) (96 + i)) = true := by decide +kernel
theorem ckm_239 : chkM (mt 239) = true := chkM_of (n := 144) (by decide +kernel) (by decide +kernel) (al_ext (a := 96) (al_ext (a := 0) al_0 ckb_239_0) ckb_239_96)
theorem ckg_239 : (List.range 1).all (fun i => ckI (239 + i)) = true := by simp [ckI, ckm_239]
set_option maxRecDepth 100000 in
theorem ckg_240 : (List.range 3).all (fun i => ckI (240 + i)) = true := by decide +kernel
set_option maxRecDepth 100000 in
theorem ckb_243_0 : (List.range 96).all (fun i => chkE (mt 243) (0 + i)) = true := by decide +kernel
set_option maxRecDepth 100000 in
theorem ckb_243_96 : (List.range 48).all (fun i => chkE (mt 243) (96 + i)) = true := by decide +kernel
theorem ckm_243 : chkM (mt 243) = true := chkM_of (n := 144) (by decide +kernel) (by decide +kernel) (al_ext (a := 96) (al_ext (a := 0) al_0 ckb_243_0) ckb_243_96)
theorem ckg_243 : (List.range 1).all (fun i => ckI (243 + i)) = true := by simp [ckI, ckm_243]
set_option maxRecDepth 100000 in
theorem ckg_244 : (List.range 3).all (fun i => ckI (244 + i)) = true := by decide +kernel
set_option maxRecDepth 100000 in
theorem ckg_247 : (List.range 2).all (fun i => ckI (247 + i)) = true := by decide +kernel
set_option maxRecDepth 100000 in
theorem ckg_249 : (List.range 1).all (fun i => ckI (249 + i)) = true := by decide +kernel
end
section
set_option maxRecDepth 100000 in
theorem ckg_250 : (List.range 1).all (fun i => ckI (250 + i)) = true := by decide +kernel
set_option maxRecDepth 100000 in
theorem ckg_251 : (List.range 3).all (fun i => ckI (251 + i)) = true := by decide +kernel
set_option maxRecDepth 100000 in
theorem ckg_254 : (List.range 3).all (fun i => ckI (254 + i)) = true := by decide +kernel
set_option maxRecDepth 100000 in
theorem ckg_257 : (List.range 3).all (fun i => ckI (257 + i)) = true := by decide +kernel
set_option maxRecDepth 100000 in
theorem ckg_260 : (List.range 2).all (fun i => ckI (260 + i)) = true := by decide +kernel
set_option maxRecDepth 100000 in
theorem ckg_262 : (List.range 2).all (fun i => ckI (262 + i)) = true := by decide +kernel
set_option maxRecDepth 100000 in
theorem ckb_264_0 : (List.range 48).all (fun i => chkE (mt 264) (0 + i)) = true := by decide +kernel
set_option maxRecDepth 100000 in
theorem ckb_264_48 : (List.range 48).all (fun i => chkE (mt 264) (48 + i)) = true := by decide +kernel
set_option maxRecDepth 100000 in
theorem ckb_264_96 : (List.range 48).all (fun i => chkE (mt 264) (96 + i)) = true := by decide +kernel
set_option maxRecDepth 100000 in
theorem ckb_264_144 : (List.range 48).all (fun i => chkE (mt 264) (144 + i)) = true := by decide +kernel
set_option maxRecDepth 100000 in
theorem ckb_264_192 : (List.range 48).all (fun i => chkE (mt 264) (192 + i)) = true := by decide +kernel
set_option maxRecDepth 100000 in
theorem ckb_264_240 : (List.range 48).all (fun i => chkE (mt 264) (240 + i)) = true := by decide +kernel
set_option maxRecDepth 100000 in
theorem ckb_264_288 : (List.range 48).all (fun i => chkE (mt 264) (288 + i)) = true := by decide +kernel
set_option maxRecDepth 100000 in
theorem ckb_264_336 : (List.range 48).all (fun i => chkE (mt 264) (336 + i)) = true := by decide +kernel
set_option maxRecDepth 100000 in
theorem ckb_264_384 : (List.range 48).all (fun i => chkE (mt 264) (384 + i)) = true := by decide +kernel
set_option maxRecDepth 100000 in
theorem ckb_264_432 : (List.range 48).all (fun i => chkE (mt 264) (432 + i)) = true := by decide +kernel
set_option maxRecDepth 100000 in
theorem ckb_264_480 : (List.range 48).all (fun i => chkE (mt 264) (480 + i)) = true := by decide +kernel
set_option maxRecDepth 100000 in
theorem ckb_264_528 : (List.range 48).all (fun i => chkE (mt 264) (528 + i)) = true := by decide +kernel
end
section
set_option maxRecDepth 100000 in
theorem ckb_264_576 : (List.range 48).all (fun i => chkE (mt 264) (576 + i)) = true := by decide +kernel
set_option maxRecDepth 100000 in
theorem ckb_264_624 : (List.range 48).all (fun i => chkE (mt 264) (624 + i)) = true := by decide +kernel
set_option maxRecDepth 100000 in
theorem ckb_264_672 : (List.range 48).all (fun i => chkE (mt 264) (672 + i)) = true := by decide +kernel
set_option maxRecDepth 100000 in
theorem ckb_264_720 : (List.range 48).all (fun i => chkE (mt 264) (720 + i)) = true := by decide +kernel
set_option maxRecDepth 100000 in
theorem ckb_264_768 : (List.range 48).all (fun i => chkE (mt 264) (768 + i)) = true := by decide +kernel
set_option maxRecDepth 100000 in
theorem ckb_264_816 : (List.range 48).all (fun i => chkE (mt 264) (816 + i)) = true := by decide +kernel
set_option maxRecDepth 100000 in
theorem ckb_264_864 : (List.range 48).all (fun i => chkE (mt 264) (864 + i)) = true := by decide +kernel
set_option maxRecDepth 100000 in
theorem ckb_264_912 : (List.range 48).all (fun i => chkE (mt 264) (912 + i)) = true := by decide +kernel
set_option maxRecDepth 100000 in
theorem ckb_264_960 : (List.range 48).all (fun i => chkE (mt 264) (960 + i)) = true := by decide +kernel
set_option maxRecDepth 100000 in
theorem ckb_264_1008 : (List.range 48).all (fun i => chkE (mt 264) (1008 + i)) = true := by decide +kernel
end
section
set_option maxRecDepth 100000 in
theorem ckb_264_1056 : (List.range 32).all (fun i => chkE (mt 264) (1056 + i)) = true := by decide +kernel
theorem ckm_264 : chkM (mt 264) = true := chkM_of (n := 1088) (by decide +kernel) (by decide +kernel) (al_ext (a := 1056) (al_ext (a := 1008) (al_ext (a := 960) (al_ext (a := 912) (al_ext (a := 864) (al_ext (a := 816) (al_ext (a := 768) (al_ext (a := 720) (al_ext (a := 672) (al_ext (a := 624) (al_ext (a := 576) (al_ext (a := 528) (al_ext (a := 480) (al_ext (a := 432) (al_ext (a := 384) (al_ext (a := 336) (al_ext (a := 288) (al_ext (a := 240) (al_ext (a := 192) (al_ext (a := 144) (al_ext (a := 96) (al_ext (a := 48) (al_ext (a := 0) al_0 ckb_264_0) ckb_264_48) ckb_264_96) ckb_264_144) ckb_264_192) ckb_264_240) ckb_264_288) ckb_264_336) ckb_264_384) ckb_264_432) ckb_264_480) ckb_264_528) ckb_264_576) ckb_264_624) ckb_264_672) ckb_264_720) ckb_264_768) ckb_264_816) ckb_264_864) ckb_264_912) ckb_264_960) ckb_264_1008) ckb_264_1056)
theorem ck_all : ∀ i, useB i = true → chkM (mt i) = true := fun i h => by
  have h1 : ckI i = true := (al_ext (P := ckI) (a := 262) (al_ext (P := ckI) (a := 260) (al_ext (P := ckI) (a := 257) (al_ext (P := ckI) (a := 254) (al_ext (P := ckI) (a := 251) (al_ext (P := ckI) (a := 250) (al_ext (P := ckI) (a := 249) (al_ext (P := ckI) (a := 247) (al_ext (P := ckI) (a := 244) (al_ext (P := ckI) (a := 243) (al_ext (P := ckI) (a := 240) (al_ext (P := ckI) (a := 239) (al_ext (P := ckI) (a := 236) (al_ext (P := ckI) (a := 235) (al_ext (P := ckI) (a := 234) (al_ext (P := ckI) (a := 232) (al_ext (P := ckI) (a := 229) (al_ext (P := ckI) (a := 228) (al_ext (P := ckI) (a := 227) (al_ext (P := ckI) (a := 225) (al_ext (P := ckI) (a := 222) (al_ext (P := ckI) (a := 218) (al_ext (P := ckI) (a := 217) (al_ext (P := ckI) (a := 215) (al_ext (P := ckI) (a := 211) (al_ext (P := ckI) (a := 210) (al_ext (P := ckI) (a := 208) (al_ext (P := ckI) (a := 207) (al_ext (P := ckI) (a := 206) (al_ext (P := ckI) (a := 205) (al_ext (P := ckI) (a := 202) (al_ext (P := ckI) (a := 200) (al_ext (P := ckI) (a := 198) (al_ext (P := ckI) (a := 197) (al_ext (P := ckI) (a := 196) (al_ext (P := ckI) (a := 195) (al_ext (P := ckI) (a := 194) (al_ext (P := ckI) (a := 191) (al_ext (P := ckI) (a := 188) (al_ext (P := ckI) (a := 187) (al_ext (P := ckI) (a := 186) (al_ext (P := ckI) (a := 182) (al_ext (P := ckI) (a := 181) (al_ext (P := ckI) (a := 177) (al_ext (P := ckI) (a := 172) (al_ext (P := ckI) (a := 164) (al_ext (P := ckI) (a := 160) (al_ext (P := ckI) (a := 157) (al_ext (P := ckI) (a := 154) (al_ext (P := ckI) (a := 152) (al_ext (P := ckI) (a := 148) (al_ext (P := ckI) (a := 144) (al_ext (P := ckI) (a := 141) (al_ext (P := ckI) (a := 137) (al_ext (P := ckI) (a := 124) (al_ext (P := ckI) (a := 121) (al_ext (P := ckI) (a := 118) (al_ext (P := ckI) (a := 117) (al_ext (P := ckI) (a := 114) (al_ext (P := ckI) (a := 109) (al_ext (P := ckI) (a := 106) (al_ext (P := ckI) (a := 104) (al_ext (P := ckI) (a := 103) (al_ext (P := ckI) (a := 100) (al_ext (P := ckI) (a := 99) (al_ext (P := ckI) (a := 97) (al_ext (P := ckI) (a := 94) (al_ext (P := ckI) (a := 90) (al_ext (P := ckI) (a := 86) (al_ext (P := ckI) (a := 84) (al_ext (P := ckI) (a := 80) (al_ext (P := ckI) (a := 77) (al_ext (P := ckI) (a := 71) (al_ext (P := ckI) (a := 70) (al_ext (P := ckI) (a := 68) (al_ext (P := ckI) (a := 67) (al_ext (P := ckI) (a := 64) (al_ext (P := ckI) (a := 59) (al_ext (P := ckI) (a := 54) (al_ext (P := ckI) (a := 52) (al_ext (P := ckI) (a := 48) (al_ext (P := ckI) (a := 45) (al_ext (P := ckI) (a := 42) (al_ext (P := ckI) (a := 40) (al_ext (P := ckI) (a := 37) (al_ext (P := ckI) (a := 33) (al_ext (P := ckI) (a := 31) (al_ext (P := ckI) (a := 30) (al_ext (P := ckI) (a := 26) (al_ext (P := ckI) (a := 22) (al_ext (P := ckI) (a := 20) (al_ext (P := ckI) (a := 15) (al_ext (P := ckI) (a := 9) (al_ext (P := ckI) (a := 6) (al_ext (P := ckI) (a := 4) (al_ext (P := ckI) (a := 1) (al_ext (P := ckI) (a := 0) al_0 ckg_0) ckg_1) ckg_4) ckg_6) ckg_9) ckg_15) ckg_20) ckg_22) ckg_26) ckg_30) ckg_31) ckg_33) ckg_37) ckg_40) ckg_42) ckg_45) ckg_48) ckg_52) ckg_54) ckg_59) ckg_64) ckg_67) ckg_68) ckg_70) ckg_71) ckg_77) ckg_80) ckg_84) ckg_86) ckg_90) ckg_94) ckg_97) ckg_99) ckg_100) ckg_103) ckg_104) ckg_106) ckg_109) ckg_114) ckg_117) ckg_118) ckg_121) ckg_124) ckg_137) ckg_141) ckg_144) ckg_148) ckg_152) ckg_154) ckg_157) ckg_160) ckg_164) ckg_172) ckg_177) ckg_181) ckg_182) ckg_186) ckg_187) ckg_188) ckg_191) ckg_194) ckg_195) ckg_196) ckg_197) ckg_198) ckg_200) ckg_202) ckg_205) ckg_206) ckg_207) ckg_208) ckg_210) ckg_211) ckg_215) ckg_217) ckg_218) ckg_222) ckg_225) ckg_227) ckg_228) ckg_229) ckg_232) ckg_234) ckg_235) ckg_236) ckg_239) ckg_240) ckg_243) ckg_244) ckg_247) ckg_249) ckg_250) ckg_251) ckg_254) ckg_257) ckg_260) ckg_262) i (use_lt h)
  unfold ckI at h1
  rw [h] at h1
  simpa using h1
end
section
/-! THE ABSTRACT MACHINE: a state is places (numbers), what each holds; a step gives a proposition (what must hold for the rest) -/
/-- how many base places are made, how many of the later kind, the ints by place and slot, the references by place and slot -/
abbrev Hp : Type := Nat × Nat × (Nat → Nat → Int32) × (Nat → Nat → Option Nat)
abbrev Lc : Type := List (Option Value)
/-- the launch; classes' numbers and slots; the array kinds' class numbers; a place's address; the script's length, the script -/
abbrev GX : Type := Launch × va_G × (Nat → ClassId) × (Nat → Nat) × Nat × (Nat → Int32)
def SH (p : Nat) : Nat × Nat := SHL.getD p (3, 9)
def kr (ci k : Nat) : Bool := (KRL.getD ci []).getD k false
/-- a truth value is 0 or 1 -/
def kz (ci k : Nat) (x : Int32) : Bool := match (KZL.getD ci []).getD k false with
  | true => decide (x = 0) || decide (x = 1)
  | false => true
def oV (o : Option Nat) (f : Nat → Prop) : Prop := match o with
  | none => False
  | some q => f q
def okB (h : Hp) (p ci : Nat) : Bool := if p < 1000 then (decide (p < h.1) && (SH p).1 == ci) else (ci == 3 && decide (p < 1000 + h.2.1))
def ixB (i : Int32) (n : Nat) : Bool := decide (0 ≤ i) && decide (i.toNatClampNeg < n)
def ck (b : Bool) (A : Prop) : Prop := match b with
  | true => A
  | false => False
def upI (f : Nat → Nat → Int32) (p k : Nat) (x : Int32) : Nat → Nat → Int32 := fun q i => if q = p then (if i = k then x else f q i) else f q i
def upR (f : Nat → Nat → Option Nat) (p k : Nat) (x : Option Nat) : Nat → Nat → Option Nat := fun q i => if q = p then (if i = k then x else f q i) else f q i
def hI (h : Hp) (p k : Nat) (x : Int32) : Hp := (h.1, h.2.1, upI h.2.2.1 p k x, h.2.2.2)
def hR (h : Hp) (p k : Nat) (x : Option Nat) : Hp := (h.1, h.2.1, h.2.2.1, upR h.2.2.2 p k x)
/-- constants: two arrays of 16 -/
def cxL : List Int32 := [0, 38, 71, 92, 100, 92, 71, 38, 0, -38, -71, -92, -100, -92, -71, -38]
def cyL : List Int32 := [-100, -92, -71, -38, 0, 38, 71, 92, 100, 92, 71, 38, 0, -38, -71, -92]
def stL : List (List Int32) := [[105, 102], [115, 112, 101, 101, 100], [110, 101, 97, 114], [102, 111, 103], [110, 105, 103, 104, 116], [119, 97, 116, 101, 114], [60], [62], [61], [97, 110, 100], [109, 117, 115, 116], [115, 108, 111, 119], [115, 111, 117, 110, 100], [108, 105, 103, 104, 116], [116, 117, 114, 110], [59]]
def kA (p : Nat) (i : Nat) : Int32 := if p = 100100 then cxL.getD i 0 else cyL.getD i 0
def clr (lv : Lc) (i : Nat) : Lc := match i with
  | 0 => lv
  | i + 1 => match lv[i]? with
    | some (some v) => if v.category = 2 then lv.set i none else lv
    | _ => lv
def st1 (lv : Lc) (i : Nat) (v : Value) : Lc := (clr lv i).set i (some v)
def st2 (lv : Lc) (i : Nat) (v : Value) : Lc := ((clr lv i).set i (some v)).set (i + 1) none
def msk (live : List Nat) : Nat → Lc → Lc
  | _, [] => []
  | i, o :: lv => (if live.contains i then o else none) :: msk live (i + 1) lv
/-- the start of a method: the arguments in their places -/
def la : List Value → Lc
  | [] => []
  | .long x :: vs => some (.long x) :: none :: la vs
  | .double x :: vs => some (.double x) :: none :: la vs
  | v :: vs => some v :: la vs
def en (M : MR) (vs : List Value) : Lc := la vs ++ List.replicate (M.2.2.2.2.1 - (la vs).length) none
def o1 (st : List Value) (f : Int32 → List Value → Prop) : Prop := match st with
  | .int x :: r => f x r
  | _ => False
def o2 (st : List Value) (f : Int32 → Int32 → List Value → Prop) : Prop := match st with
  | .int y :: .int x :: r => f x y r
  | _ => False
def o3 (st : List Value) (f : Int64 → List Value → Prop) : Prop := match st with
  | .long x :: r => f x r
  | _ => False
def o4 (st : List Value) (f : Int64 → Int64 → List Value → Prop) : Prop := match st with
  | .long y :: .long x :: r => f x y r
  | _ => False
def o5 (st : List Value) (f : Int64 → Int32 → List Value → Prop) : Prop := match st with
  | .int y :: .long x :: r => f x y r
  | _ => False
def oI (lv : Lc) (i : Nat) (f : Int32 → Prop) : Prop := match lv[i]? with
  | some (some (.int x)) => f x
  | _ => False
def oL (lv : Lc) (i : Nat) (f : Int64 → Prop) : Prop := match lv[i]? with
  | some (some (.long x)) => f x
  | _ => False
def oA (lv : Lc) (i : Nat) (f : Nat → Prop) : Prop := match lv[i]? with
  | some (some (.ref x)) => f x
  | _ => False
def oR (st : List Value) (f : Nat → List Value → Prop) : Prop := match st with
  | .ref p :: r => f p r
  | _ => False
def oX (st : List Value) (f : Int32 → Nat → List Value → Prop) : Prop := match st with
  | .int i :: .ref p :: r => f i p r
  | _ => False
def oS (st : List Value) (f : Int32 → Int32 → Nat → List Value → Prop) : Prop := match st with
  | .int x :: .int i :: .ref p :: r => f x i p r
  | _ => False
def oT (st : List Value) (f : Nat → Int32 → Nat → List Value → Prop) : Prop := match st with
  | .ref x :: .int i :: .ref p :: r => f x i p r
  | _ => False
def tk (n : Nat) (st : List Value) (f : List Value → List Value → Prop) : Prop := ck (decide (n ≤ st.length) && decide (((st.drop n).map Value.category).sum ≤ 8)) (f (st.take n).reverse (st.drop n))
def rcv (h : Hp) (vs : List Value) (ci : Nat) : Bool := match vs with
  | .ref p :: _ => okB h p ci
  | _ => false
def rcI (vs : List Value) : Bool := match vs with
  | .ref _ :: _ => true
  | _ => false
def cnd (c : ClassFile.Cond) (x y : Int32) (A B : Prop) : Prop := match c with
  | .eq => if x = y then A else B
  | .ne => if x = y then B else A
  | .lt => if x < y then A else B
  | .ge => if y ≤ x then A else B
  | .gt => if y < x then A else B
  | .le => if x ≤ y then A else B
def swt (x : Int32) (f : Nat → Prop) (df : Nat) : Int32 → List Nat → Prop
  | _, [] => f df
  | lo, t :: ts => if x = lo then f t else swt x f df (lo + 1) ts
def swl (x : Int32) (f : Nat → Prop) (df : Nat) : List (Int × Int) → List Nat → Prop
  | q :: qs, t :: ts => if x = Int32.ofInt q.1 then f t else swl x f df qs ts
  | _, _ => f df
/-- what one entry asks for: nx the next entry, rt a return, cl a call (of a method, its arguments, what comes behind) -/
def sp (dn : Nat) (e : Ent) (j : Nat) (lv : Lc) (st : List Value) (h : Hp) (nx : Nat → Lc → List Value → Hp → Prop) (rt : Option Value → Prop) (cl : Nat → List Value → (Option Value → Hp → Prop) → Prop) : Prop :=
  match e.1 with
  | .iload_n i => oI lv i.val fun x => nx (j + 1) lv (.int x :: st) h
  | .iload i => oI lv i fun x => nx (j + 1) lv (.int x :: st) h
  | .aload_n i => oA lv i.val fun x => nx (j + 1) lv (.ref x :: st) h
  | .aload i => oA lv i fun x => nx (j + 1) lv (.ref x :: st) h
  | .lload_n i => oL lv i.val fun x => nx (j + 1) lv (.long x :: st) h
  | .lload i => oL lv i fun x => nx (j + 1) lv (.long x :: st) h
  | .istore_n i => o1 st fun x r => nx (j + 1) (st1 lv i.val (.int x)) r h
  | .istore i => o1 st fun x r => nx (j + 1) (st1 lv i (.int x)) r h
  | .astore_n i => oR st fun x r => nx (j + 1) (st1 lv i.val (.ref x)) r h
  | .astore i => oR st fun x r => nx (j + 1) (st1 lv i (.ref x)) r h
  | .lstore_n i => o3 st fun x r => nx (j + 1) (st2 lv i.val (.long x)) r h
  | .lstore i => o3 st fun x r => nx (j + 1) (st2 lv i (.long x)) r h
  | .iconst _ => nx (j + 1) lv (e.2.2.2 :: st) h
  | .bipush _ => nx (j + 1) lv (e.2.2.2 :: st) h
  | .sipush _ => nx (j + 1) lv (e.2.2.2 :: st) h
  | .ldc _ => nx (j + 1) lv (e.2.2.2 :: st) h
  | .ldc_w _ => nx (j + 1) lv (e.2.2.2 :: st) h
  | .lconst _ => nx (j + 1) lv (e.2.2.2 :: st) h
  | .ldc2_w _ => nx (j + 1) lv (e.2.2.2 :: st) h
  | .iinc i n => oI lv i fun x => nx (j + 1) (st1 lv i (.int (x + Int32.ofInt n))) st h
  | .iadd => o2 st fun x y r => nx (j + 1) lv (.int (x + y) :: r) h
  | .isub => o2 st fun x y r => nx (j + 1) lv (.int (x - y) :: r) h
  | .imul => o2 st fun x y r => nx (j + 1) lv (.int (x * y) :: r) h
  | .iand => o2 st fun x y r => nx (j + 1) lv (.int (x &&& y) :: r) h
  | .ior => o2 st fun x y r => nx (j + 1) lv (.int (x ||| y) :: r) h
  | .ixor => o2 st fun x y r => nx (j + 1) lv (.int (x ^^^ y) :: r) h
  | .ishl => o2 st fun x y r => nx (j + 1) lv (.int (x <<< (y &&& 31)) :: r) h
  | .ishr => o2 st fun x y r => nx (j + 1) lv (.int (x >>> (y &&& 31)) :: r) h
  | .iushr => o2 st fun x y r => nx (j + 1) lv (.int ((x.toUInt32 >>> (y.toUInt32 &&& Int32.toUInt32 31)).toInt32) :: r) h
  | .idiv => o2 st fun x y r => ck (decide (y ≠ 0)) (nx (j + 1) lv (.int (x / y) :: r) h)
  | .irem => o2 st fun x y r => ck (decide (y ≠ 0)) (nx (j + 1) lv (.int (x - x / y * y) :: r) h)
  | .ineg => o1 st fun x r => nx (j + 1) lv (.int (-x) :: r) h
  | .i2l => o1 st fun x r => nx (j + 1) lv (.long x.toInt64 :: r) h
  | .l2i => o3 st fun x r => nx (j + 1) lv (.int x.toInt32 :: r) h
  | .i2b => o1 st fun x r => nx (j + 1) lv (.int x.toInt8.toInt32 :: r) h
  | .i2s => o1 st fun x r => nx (j + 1) lv (.int x.toInt16.toInt32 :: r) h
  | .ladd => o4 st fun x y r => nx (j + 1) lv (.long (x + y) :: r) h
  | .lmul => o4 st fun x y r => nx (j + 1) lv (.long (x * y) :: r) h
  | .land => o4 st fun x y r => nx (j + 1) lv (.long (x &&& y) :: r) h
  | .lor => o4 st fun x y r => nx (j + 1) lv (.long (x ||| y) :: r) h
  | .lshl => o5 st fun x y r => nx (j + 1) lv (.long (x <<< (y.toInt64 &&& 63)) :: r) h
  | .lshr => o5 st fun x y r => nx (j + 1) lv (.long (x >>> (y.toInt64 &&& 63)) :: r) h
  | .lcmp => o4 st fun x y r => nx (j + 1) lv (.int (lg_cmp x y) :: r) h
  | .dup => match st with
    | .int x :: r => nx (j + 1) lv (.int x :: .int x :: r) h
    | .ref x :: r => nx (j + 1) lv (.ref x :: .ref x :: r) h
    | _ => False
  | .dup2 => match st with
    | .int y :: .ref x :: r => nx (j + 1) lv (.int y :: .ref x :: .int y :: .ref x :: r) h
    | _ => False
  | .goto _ => nx (e.2.2.1.getD 0 0) lv st h
  | .ifCond c _ => o1 st fun x r => cnd c x 0 (nx (e.2.2.1.getD 0 0) lv r h) (nx (j + 1) lv r h)
  | .if_icmp c _ => o2 st fun x y r => cnd c x y (nx (e.2.2.1.getD 0 0) lv r h) (nx (j + 1) lv r h)
  | .tableswitch _ lo _ _ => o1 st fun x r => swt x (fun t => nx t lv r h) (e.2.2.1.getD 0 0) (Int32.ofInt lo) (e.2.2.1.drop 1)
  | .lookupswitch _ ps => o1 st fun x r => swl x (fun t => nx t lv r h) (e.2.2.1.getD 0 0) ps.toList (e.2.2.1.drop 1)
  | .getfield _ => oR st fun p r => ck (okB h p (e.2.2.1.getD 0 0)) (match kr (e.2.2.1.getD 0 0) (e.2.2.1.getD 1 0) with
    | true => oV (h.2.2.2 p (e.2.2.1.getD 1 0)) fun q => nx (j + 1) lv (.ref q :: r) h
    | false => nx (j + 1) lv (.int (h.2.2.1 p (e.2.2.1.getD 1 0)) :: r) h)
  | .putfield _ => match kr (e.2.2.1.getD 0 0) (e.2.2.1.getD 1 0), st with
    | true, .ref x :: .ref p :: r => ck (okB h p (e.2.2.1.getD 0 0)) (nx (j + 1) lv r (hR h p (e.2.2.1.getD 1 0) (some x)))
    | false, .int x :: .ref p :: r => ck (okB h p (e.2.2.1.getD 0 0) && kz (e.2.2.1.getD 0 0) (e.2.2.1.getD 1 0) x) (nx (j + 1) lv r (hI h p (e.2.2.1.getD 1 0) x))
    | _, _ => False
  | .getstatic _ => nx (j + 1) lv (e.2.2.2 :: st) h
  | .iaload => oX st fun i p r => if p < 100000 then ck (okB h p 20) (ck (ixB i (SH p).2) (nx (j + 1) lv (.int (h.2.2.1 p i.toNatClampNeg) :: r) h)) else if p = 100300 then ck (ixB i (h.2.2.1 100301 0).toNatClampNeg) (nx (j + 1) lv (.int (h.2.2.1 100300 i.toNatClampNeg) :: r) h) else ck (decide (p = 100100 ∨ p = 100101)) (ck (ixB i 16) (nx (j + 1) lv (.int (kA p i.toNatClampNeg) :: r) h))
  | .baload => oX st fun i p r => ck (okB h p 21 || okB h p 22) (ck (ixB i (SH p).2) (nx (j + 1) lv (.int (h.2.2.1 p i.toNatClampNeg) :: r) h))
  | .aaload => oX st fun i p r => ck (okB h p 23 || (okB h p 24 || okB h p 25)) (ck (ixB i (SH p).2) (oV (h.2.2.2 p i.toNatClampNeg) fun q => nx (j + 1) lv (.ref q :: r) h))
  | .iastore => oS st fun x i p r => ck (okB h p 20) (ck (ixB i (SH p).2) (nx (j + 1) lv r (hI h p i.toNatClampNeg x)))
  | .bastore => oS st fun x i p r => ck (ixB i (SH p).2) (match okB h p 21, okB h p 22 with
    | true, _ => nx (j + 1) lv r (hI h p i.toNatClampNeg x.toInt8.toInt32)
    | false, true => nx (j + 1) lv r (hI h p i.toNatClampNeg (x &&& 1))
    | false, false => False)
  | .aastore => oT st fun x i p r => ck (okB h p 23 && okB h x 6 || okB h p 24 && okB h x 3) (ck (ixB i (SH p).2) (nx (j + 1) lv r (hR h p i.toNatClampNeg (some x))))
  | .arraylength => oR st fun p r => if p = 100300 then nx (j + 1) lv (.int (h.2.2.1 100301 0) :: r) h else ck (okB h p 20) (nx (j + 1) lv (.int (Int32.ofNat (SH p).2) :: r) h)
  | .new _ => match decide (e.2.2.1.getD 0 0 = 3) with
    | true => ck (decide (h.1 = 147) && decide (h.2.1 < 2000)) (nx (j + 1) lv (.ref (1000 + h.2.1) :: st) (h.1, h.2.1 + 1, h.2.2.1, h.2.2.2))
    | false => ck (decide (h.2.1 = 0) && (decide (h.1 < 147) && decide (SH h.1 = (e.2.2.1.getD 0 0, (vwCl.getD (e.2.2.1.getD 0 0) ("", fun _ => ("", "", "", false), 0)).2.2)))) (nx (j + 1) lv (.ref h.1 :: st) (h.1 + 1, h.2.1, h.2.2.1, h.2.2.2))
  | .newarray _ => o1 st fun x r => ck (decide (0 ≤ x) && (decide (h.2.1 = 0) && (decide (h.1 < 147) && decide (SH h.1 = (e.2.2.1.getD 0 0, x.toNatClampNeg))))) (nx (j + 1) lv (.ref h.1 :: r) (h.1 + 1, h.2.1, h.2.2.1, h.2.2.2))
  | .anewarray _ => o1 st fun x r => ck (decide (0 ≤ x) && (decide (h.2.1 = 0) && (decide (h.1 < 147) && decide (SH h.1 = (e.2.2.1.getD 0 0, x.toNatClampNeg))))) (nx (j + 1) lv (.ref h.1 :: r) (h.1 + 1, h.2.1, h.2.2.1, h.2.2.2))
  | .multianewarray _ _ => o2 st fun n k r => ck (decide (0 ≤ n) && (decide (0 ≤ k) && (decide (h.2.1 = 0) && (decide (h.1 + n.toNatClampNeg < 147) && (decide (SH h.1 = (25, n.toNatClampNeg)) && (List.range n.toNatClampNeg).all (fun i => decide (SH (h.1 + 1 + i) = (20, k.toNatClampNeg)))))))) (nx (j + 1) lv (.ref h.1 :: r) (h.1 + 1 + n.toNatClampNeg, h.2.1, h.2.2.1, fun q i => if q = h.1 then (if i < n.toNatClampNeg then some (h.1 + 1 + i) else none) else h.2.2.2 q i))
  | .invokestatic _ => match e.2.2.1.getD 0 0 with
    | 6 => match st with
      | .int n :: .int dp :: .ref b :: .int sq :: .ref a :: r => ck (decide (1 ≤ dn) && (decide ((r.map Value.category).sum ≤ 8) && (okB h a 20 && (okB h b 20 && (decide (0 ≤ sq) && (decide (0 ≤ dp) && (decide (0 ≤ n) && (decide (sq.toNatClampNeg + n.toNatClampNeg ≤ (SH a).2) && decide (dp.toNatClampNeg + n.toNatClampNeg ≤ (SH b).2))))))))) (nx (j + 1) lv r (h.1, h.2.1, (fun q => if q = b then va_cpy (h.2.2.1 a) (h.2.2.1 b) sq.toNatClampNeg dp.toNatClampNeg n.toNatClampNeg else h.2.2.1 q), h.2.2.2))
      | _ => False
    | 9 => o2 st fun x y r => ck (decide (1 ≤ dn) && decide ((r.map Value.category).sum ≤ 8)) (nx (j + 1) lv (.int (if y < x then y else x) :: r) h)
    | 10 => o2 st fun x y r => ck (decide (1 ≤ dn) && decide ((r.map Value.category).sum ≤ 8)) (nx (j + 1) lv (.int (if x < y then y else x) :: r) h)
    | 11 => o1 st fun x r => ck (decide (1 ≤ dn) && decide ((r.map Value.category).sum ≤ 8)) (nx (j + 1) lv (.int (if 0 ≤ x then x else 0 - x) :: r) h)
    | _ => tk (e.2.2.1.getD 2 0) st fun vs r => cl (e.2.2.1.getD 1 0) vs (fun v h1 => nx (j + 1) lv (v.toList ++ r) h1)
  | .invokespecial _ => match e.2.2.1.getD 0 0 with
    | 5 => oR st fun p r => ck (decide (1 ≤ dn) && decide ((r.map Value.category).sum ≤ 8)) (nx (j + 1) lv r h)
    | _ => tk (e.2.2.1.getD 2 0) st fun vs r => ck (rcI vs) (cl (e.2.2.1.getD 1 0) vs (fun v h1 => nx (j + 1) lv (v.toList ++ r) h1))
  | .invokevirtual _ => match e.2.2.1.getD 0 0 with
    | 7 => oR st fun p r => ck (decide (4 ≤ dn) && (decide ((r.map Value.category).sum ≤ 8) && (decide (100000 ≤ p) && decide (p < 100016)))) (nx (j + 1) lv (.int (Int32.ofNat (stL.getD (p - 100000) []).length) :: r) h)
    | 8 => oX st fun i p r => ck (decide (4 ≤ dn) && (decide ((r.map Value.category).sum ≤ 8) && (decide (100000 ≤ p) && decide (p < 100016)))) (ck (ixB i (stL.getD (p - 100000) []).length) (nx (j + 1) lv (.int ((stL.getD (p - 100000) []).getD i.toNatClampNeg 0) :: r) h))
    | _ => tk (e.2.2.1.getD 2 0) st fun vs r => ck (rcv h vs (e.2.2.1.getD 3 0)) (cl (e.2.2.1.getD 1 0) vs (fun v h1 => nx (j + 1) lv (v.toList ++ r) h1))
  | .ireturn => match st with
    | [.int x] => rt (some (.int x))
    | _ => False
  | .lreturn => match st with
    | [.long x] => rt (some (.long x))
    | _ => False
  | .return_ => match st with
    | [] => rt none
    | _ => False
  | _ => False
end
section
/-! HOW A STATE OF THE ABSTRACT MACHINE STANDS IN THE HEAP; what it is that a run goes from one to another -/
def trv (G : GX) : Value → Value
  | .ref p => .ref (G.2.2.2.1 p)
  | v => v
def GA (G : GX) : Nat → Prop := fun q => G.2.2.2.1 0 ≤ q
def al (h : Hp) (p : Nat) : Prop := p < h.1 ∨ (1000 ≤ p ∧ p < 1000 + h.2.1)
def fsO (G : GX) (h : Hp) (p ci n : Nat) : List Value := (List.range n).map (fun k => if kr ci k = true then va_rf ((h.2.2.2 p k).map G.2.2.2.1) else .int (h.2.2.1 p k))
def cellO (G : GX) (h : Hp) (p : Nat) : va_E :=
  if (SH p).1 < 20 then .inr ((SH p).1, fsO G h p (SH p).1 (SH p).2)
  else if (SH p).1 < 23 then .inl (G.2.2.1 (SH p).1, (SH p).2, .inl (h.2.2.1 p))
  else .inl (G.2.2.1 (SH p).1, (SH p).2, .inr (.inr (.inr (.inr (fun k => (h.2.2.2 p k).map G.2.2.2.1)))))
def pls (h : Hp) : List Nat := List.range h.1 ++ (List.range h.2.1).map (fun i => 1000 + i)
def wsO (G : GX) (h : Hp) : va_W := (pls h).map (fun p => (G.2.2.2.1 p, cellO G h p))
def pix (h : Hp) (p : Nat) : Nat := if p < 1000 then p else h.1 + (p - 1000)
/-- the addresses of places -/
def adO (G : GX) : Prop := ∀ p, (p < 1000 → G.2.2.2.1 p = G.2.2.2.1 0 + p) ∧ (1000 ≤ p → p < 100000 → G.2.2.2.1 p = G.2.2.2.1 0 + 147 + (p - 1000))
def shO (h : Hp) : Prop := h.1 ≤ 147 ∧ (h.2.1 = 0 ∨ h.1 = 147) ∧ h.2.1 ≤ 2000
/-- what is not made holds nothing; the script -/
def zS (G : GX) (h : Hp) : Prop := (∀ p k, ¬ al h p → p < 100000 → h.2.2.1 p k = 0 ∧ h.2.2.2 p k = none) ∧ (∀ k, h.2.2.1 100300 k = G.2.2.2.2.2 k) ∧ h.2.2.1 100301 0 = Int32.ofNat G.2.2.2.2.1
def hrH (G : GX) (h : Hp) (H : Heap) : Prop := shO h ∧ va_P G.2.1 vwCl (wsO G h) H ∧ zS G h
def tyO (G : GX) : List (ClassId × FieldType) := [(G.2.2.1 20, .int), (G.2.2.1 21, .byte), (G.2.2.1 22, .boolean), (G.2.2.1 23, .object "WreckCourt$Sheet"), (G.2.2.1 24, .object "WreckCourt$Fact"), (G.2.2.1 25, .array .int)]
theorem pls_len (h : Hp) : (pls h).length = h.1 + h.2.1 := by simp [pls]
theorem pix_at {h : Hp} {p : Nat} (hs : shO h) (ha : al h p) : (pls h)[pix h p]? = some p := by
  unfold pls pix
  rcases ha with ha | ⟨ha, hb⟩
  · have h1 : p < 1000 := by have := hs.1; omega
    rw [if_pos h1, List.getElem?_append_left (by simpa using ha)]
    simp [ha]
  · rw [if_neg (by omega), List.getElem?_append_right (by simp)]
    simp only [List.length_range]
    rw [show h.1 + (p - 1000) - h.1 = p - 1000 by omega]
    simp [show p - 1000 < h.2.1 by omega]
    omega
theorem pls_al {h : Hp} {i p : Nat} (hi : (pls h)[i]? = some p) : al h p ∧ ∀ (_ : shO h), i = pix h p := by
  unfold pls at hi
  rcases Nat.lt_or_ge i h.1 with q | q
  · rw [List.getElem?_append_left (by simpa using q)] at hi
    simp [q] at hi
    subst hi
    exact ⟨Or.inl q, fun hs => by unfold pix; rw [if_pos (by have := hs.1; omega)]⟩
  · rw [List.getElem?_append_right (by simpa using q)] at hi
    simp only [List.length_range, List.getElem?_map] at hi
    rcases Nat.lt_or_ge (i - h.1) h.2.1 with z | z
    · simp [z] at hi
      subst hi
      exact ⟨Or.inr ⟨by omega, by omega⟩, fun hs => by unfold pix; rw [if_neg (by omega)]; omega⟩
    · rw [List.getElem?_eq_none (by simpa using z)] at hi
      simp at hi
theorem wsO_at {G : GX} {h : Hp} {p : Nat} (hs : shO h) (ha : al h p) : (wsO G h)[pix h p]? = some (G.2.2.2.1 p, cellO G h p) := by
  unfold wsO
  rw [List.getElem?_map, pix_at hs ha]
  rfl
theorem wsO_of {G : GX} {h : Hp} {i : Nat} {q : Nat × va_E} (hi : (wsO G h)[i]? = some q) : ∃ p, (pls h)[i]? = some p ∧ q = (G.2.2.2.1 p, cellO G h p) := by
  unfold wsO at hi
  rw [List.getElem?_map] at hi
  cases hp : (pls h)[i]? with
  | none => rw [hp] at hi; cases hi
  | some p => rw [hp] at hi; exact ⟨p, rfl, (Option.some.inj hi).symm⟩
/-- places that are made lie apart -/
theorem ad_inj {G : GX} {h : Hp} {p q : Nat} (hg : adO G) (hs : shO h) (hp : al h p) (hq : al h q) (e : G.2.2.2.1 p = G.2.2.2.1 q) : p = q := by
  obtain ⟨s1, s2, s3⟩ := hs
  rcases hp with hp | ⟨hp, hp2⟩ <;> rcases hq with hq | ⟨hq, hq2⟩
  · have a1 := (hg p).1 (by omega)
    have a2 := (hg q).1 (by omega)
    omega
  · have a1 := (hg p).1 (by omega)
    have a2 := (hg q).2 (by omega) (by omega)
    omega
  · have a1 := (hg p).2 (by omega) (by omega)
    have a2 := (hg q).1 (by omega)
    omega
  · have a1 := (hg p).2 (by omega) (by omega)
    have a2 := (hg q).2 (by omega) (by omega)
    omega
theorem ad_ge {G : GX} {h : Hp} {p : Nat} (hg : adO G) (hs : shO h) (hp : al h p) : GA G (G.2.2.2.1 p) := by
  obtain ⟨s1, s2, s3⟩ := hs
  show G.2.2.2.1 0 ≤ G.2.2.2.1 p
  rcases hp with hp | ⟨hp, hp2⟩
  · have a1 := (hg p).1 (by omega)
    omega
  · have a1 := (hg p).2 (by omega) (by omega)
    omega
theorem wsO_D {G : GX} {h : Hp} (hg : adO G) (hs : shO h) : va_D (GA G) (wsO G h) := by
  refine ⟨fun i j p q hi hj e => ?_, fun k q hk => ?_⟩
  · obtain ⟨a, ha, rfl⟩ := wsO_of hi
    obtain ⟨b, hb, rfl⟩ := wsO_of hj
    have h1 := ad_inj hg hs (pls_al ha).1 (pls_al hb).1 e
    subst h1
    rw [(pls_al ha).2 hs, (pls_al hb).2 hs]
  · obtain ⟨a, ha, rfl⟩ := wsO_of hk
    exact ad_ge hg hs (pls_al ha).1
theorem wsO_set {G : GX} {h h' : Hp} {p : Nat} (hs : shO h) (ha : al h p) (e1 : h'.1 = h.1) (e2 : h'.2.1 = h.2.1) (hc : ∀ q, q ≠ p → cellO G h' q = cellO G h q) : (wsO G h).set (pix h p) (G.2.2.2.1 p, cellO G h' p) = wsO G h' := by
  have hpl : pls h' = pls h := by unfold pls; rw [e1, e2]
  apply List.ext_getElem?
  intro i
  rw [List.getElem?_set]
  by_cases hi : pix h p = i
  · subst hi
    have := wsO_at (G := G) hs ha
    have hlt : pix h p < (wsO G h).length := (List.getElem?_eq_some_iff.mp this).1
    rw [if_pos rfl, if_pos hlt]
    unfold wsO
    rw [List.getElem?_map, hpl, pix_at hs ha]
    rfl
  · rw [if_neg hi]
    unfold wsO
    rw [List.getElem?_map, List.getElem?_map, hpl]
    cases hq : (pls h)[i]? with
    | none => rfl
    | some q =>
      have hne : q ≠ p := fun e => hi (by rw [← e]; exact ((pls_al hq).2 hs).symm)
      simp only [Option.map_some]
      rw [hc q hne]
theorem okB_al {h : Hp} {p ci : Nat} (hs : shO h) (h1 : okB h p ci = true) : al h p ∧ (SH p).1 = ci := by
  unfold okB at h1
  split at h1
  · simp only [Bool.and_eq_true, decide_eq_true_eq, beq_iff_eq] at h1
    exact ⟨Or.inl h1.1, h1.2⟩
  · rename_i hp
    simp only [Bool.and_eq_true, decide_eq_true_eq, beq_iff_eq] at h1
    refine ⟨Or.inr ⟨by omega, h1.2⟩, ?_⟩
    rw [h1.1]
    unfold SH
    rw [List.getD_eq_getElem?_getD, List.getElem?_eq_none (by have : SHL.length = 147 := by decide +kernel
                                                              omega)]
    rfl
theorem SHlen : SHL.length = 147 := by decide +kernel
theorem SH_hi {p : Nat} (hp : 147 ≤ p) : SH p = (3, 9) := by
  unfold SH
  rw [List.getD_eq_getElem?_getD, List.getElem?_eq_none (by rw [SHlen]; exact hp)]
  rfl
theorem ixB_in {i : Int32} {n : Nat} (h : ixB i n = true) : vp_in i n := by
  unfold ixB at h
  simp only [Bool.and_eq_true, decide_eq_true_eq] at h
  rintro (z | z)
  · exact absurd z (Int32.not_lt.mpr h.1)
  · omega
theorem ck_d {b : Bool} {A : Prop} (h : ck b A) : b = true ∧ A := by
  cases b with
  | false => cases h
  | true => exact ⟨rfl, h⟩
theorem ck_i {b : Bool} {A : Prop} (h : b = true) (a : A) : ck b A := by
  subst h
  exact a
end
section
/-! A RUN: from an entry of a method to a return of it, from a heap to a heap, at every state of the machine that holds the first -/
def wsM (M : MR) : List Cond := Cond.code M.2.2.2.1 M.2.2.1 M.2.2.2.2.1 M.2.2.2.2.2.1 :: LG
def va_AOA (t : FieldType) (U : State) : Prop := (Cond.arrayOver (.array t)).before #[] U = true
/-- what stays as it was at the law's start: the classes, the arrays' classes, the two constant arrays -/
def SK (G : GX) (s : State) : Prop :=
  va_K G.2.1 vwCl (tyO G) s ∧ adO G ∧ G.2.2.2.1 0 ≤ s.heap.size ∧ (va_AO "WreckCourt$Sheet" s ∧ va_AO "WreckCourt$Fact" s ∧ va_AOA .int s) ∧
  (va_Z "WreckCourt" "COURSE_X" "[I" (.ref (G.2.2.2.1 100100)) (GA G) s s.heap ∧ va_T .int (G.2.2.2.1 100100) 16 (fun i => .int (kA 100100 i)) (GA G) s s.heap) ∧
  (va_Z "WreckCourt" "COURSE_Y" "[I" (.ref (G.2.2.2.1 100101)) (GA G) s s.heap ∧ va_T .int (G.2.2.2.1 100101) 16 (fun i => .int (kA 100101 i)) (GA G) s s.heap) ∧
  (∀ q ∈ MNF, va_Nw (.methodLinkNest (ONL.getD q.1 "") q.2.1 (mt q.2.2).2.2.2.1 "WreckCourt") s) ∧
  (va_Nw (.fieldLinkNest "WreckCourt$Sea" 97 "WreckCourt" "COURSE_X" "[I" "WreckCourt") s ∧ va_Nw (.fieldLinkNest "WreckCourt$Sea" 100 "WreckCourt" "COURSE_Y" "[I" "WreckCourt") s) ∧
  (vk_S 16 (stL.map List.length) stL (fun i => G.2.2.2.1 (100000 + i)) (fun i => G.2.2.2.1 (100200 + i)) (GA G) s s.heap ∧ ∀ q ∈ stI, vk_R "WreckCourt$Reader" q.1 q.2.1 (G.2.2.2.1 (100000 + q.2.2)) s) ∧
  (va_Z "java/lang/String" "COMPACT_STRINGS" "Z" (.int 1) (GA G) s s.heap ∧ va_Zq "jdk/internal/util/Preconditions" "SIOOBE_FORMATTER" "Ljava/util/function/BiFunction;" (GA G) s s.heap) ∧
  (va_X (G.2.2.2.1 100300) G.2.2.2.2.1 G.2.2.2.2.2 s s.heap ∧ G.2.2.2.1 100300 < s.heap.size ∧ ¬ GA G (G.2.2.2.1 100300) ∧ G.2.2.2.2.1 < 2 ^ 31)
def Cx (G : GX) (d : Nat) (M : MR) (p : Program) (R : Room) (s : State) (m : MethodId) (args : Array Value) (meth : Method) (c : Code) : Prop :=
  p.tables.exec = Jvm.exec ∧ c.code = M.2.2.1 ∧ c.maxLocals = M.2.2.2.2.1 ∧ s.vm.findClass M.2.2.2.1.cls = some m.cls ∧ (∀ w ∈ LG, w.before args s = true) ∧ (M.2.2.2.1.name = "<init>" → meth.name = "<init>") ∧ meth.sig.returnType = M.2.2.2.2.2.1 ∧ meth.locks = false ∧ (d ≤ R.frames ∧ 40 * d ≤ R.locals) ∧ SK G s
def lvr (G : GX) (nL : Nat) (lv : Lc) (ls : Array Slot) : Prop := ls.size = nL ∧ lv_wf ls ∧ ∀ (i : Nat) (v : Value), lv[i]? = some (some v) → ls[i]? = some (.val (trv G v))
def nc (h : Hp) : Nat := h.1 + h.2.1
def slN : Nat → Nat
  | 0 => 0
  | n + 1 => slN n + (SH n).2
def ns (h : Hp) : Nat := slN h.1 + 9 * h.2.1
/-- what a method may give back, by its head -/
def rtB (M : MR) (v : Option Value) : Bool := match M.2.2.2.2.2.1, v with
  | some .int, some (.int _) => true
  | some .boolean, some (.int x) => decide (x = 0) || decide (x = 1)
  | some .long, some (.long _) => true
  | none, none => true
  | _, _ => false
def rtA (M : MR) (j : Nat) (r : Option Value) : Prop := ∃ e, ft M j = some e ∧ rtB M r = true ∧ ((e.1 = .ireturn ∧ ∃ x, r = some (.int x)) ∨ (e.1 = .lreturn ∧ ∃ x, r = some (.long x)) ∨ (e.1 = .return_ ∧ r = none))
def Go (G : GX) (d : Nat) (M : MR) (j : Nat) (lv : Lc) (st : List Value) (h : Hp) (r : Option Value) (h' : Hp) : Prop :=
  (nc h ≤ nc h' ∧ ns h ≤ ns h') ∧
  ∀ (p : Program) (e : Env) (R : Room) (s : State) (m : MethodId) (args : Array Value) (below : List Frame) (meth : Method) (c : Code) (H : Heap) (locs : List Loc) (cells slots : Nat) (ls : Array Slot) (Z : State → Prop),
    Cx G d M p R s m args meth c → lvr G M.2.2.2.2.1 lv ls → hrH G h H → va_S (GA G) s.heap H locs → s.heap.size + cells = G.2.2.2.1 0 + nc h → cells + nc h' ≤ R.cells + nc h → slots + ns h' ≤ R.slots + ns h →
    (∀ (H1 : Heap) (locs1 : List Loc) (cells1 slots1 : Nat) (ls1 : Array Slot) (j1 : Nat), rtA M j1 r → hrH G h' H1 → va_S (GA G) s.heap H1 locs1 → cells1 + nc h = cells + nc h' → slots1 + ns h = slots + ns h' →
      W p G.1 e R s m args below meth c H1 locs1 cells1 slots1 Z (F0 m (pcj M j1) ls1 (r.map (trv G)).toList)) →
    W p G.1 e R s m args below meth c H locs cells slots Z (F0 m (pcj M j) ls (st.map (trv G)))
def wp (G : GX) (d : Nat) (M : MR) (j : Nat) (lv : Lc) (st : List Value) (h : Hp) (Q : Option Value → Hp → Prop) : Prop := ∃ r h', Go G d M j lv st h r h' ∧ Q r h'
def vc (G : GX) (sl : List (Nat × Nat × List Nat)) (il : List Nat) : Nat → Nat → MR → Nat → Lc → List Value → Hp → (Option Value → Hp → Prop) → Prop
  | 0, d, M, j, lv, st, h, Q => wp G d M j lv st h Q
  | k + 1, d, M, j, lv, st, h, Q => match ft M j with
    | none => False
    | some e => sp d e j lv st h
        (fun j' lv' st' h' => match sl.find? (fun q => q.1 == M.1 && q.2.1 == j') with
          | some q => wp G d M j' (msk q.2.2 0 lv') st' h' Q
          | none => vc G sl il k d M j' lv' st' h' Q)
        (fun v => ck (rtB M v) (Q v h))
        (fun i vs K => match d with
          | 0 => False
          | d' + 1 => ck (useB i && decide ((la vs).length ≤ (mt i).2.2.2.2.1)) (match il.contains i with
            | true => vc G sl il k d' (mt i) 0 (en (mt i) vs) [] h K
            | false => match il.contains (1000 + i), (mt i).2.2.2.2.2.1 with
              | true, _ => wp G d' (mt i) 0 (en (mt i) vs) [] h K
              | false, none => wp G d' (mt i) 0 (en (mt i) vs) [] h (fun v h1 => ∃ I' : Nat → Nat → Int32, v = none ∧ h1 = (h.1, h.2.1, I', h.2.2.2) ∧ K none (h.1, h.2.1, I', h.2.2.2))
              | false, some .long => wp G d' (mt i) 0 (en (mt i) vs) [] h (fun v h1 => ∃ (x : Int64) (I' : Nat → Nat → Int32), v = some (.long x) ∧ h1 = (h.1, h.2.1, I', h.2.2.2) ∧ K (some (.long x)) (h.1, h.2.1, I', h.2.2.2))
              | false, some _ => wp G d' (mt i) 0 (en (mt i) vs) [] h (fun v h1 => ∃ (x : Int32) (I' : Nat → Nat → Int32), v = some (.int x) ∧ h1 = (h.1, h.2.1, I', h.2.2.2) ∧ K (some (.int x)) (h.1, h.2.1, I', h.2.2.2))))
/-- a step that leaves the heap as it is -/
def StepR (G : GX) (d : Nat) (M : MR) (j : Nat) (lv : Lc) (st : List Value) (j' : Nat) (lv' : Lc) (st' : List Value) : Prop :=
  ∀ (p : Program) (e : Env) (R : Room) (s : State) (m : MethodId) (args : Array Value) (below : List Frame) (meth : Method) (c : Code) (H : Heap) (locs : List Loc) (cells slots : Nat) (ls : Array Slot) (Z : State → Prop),
    Cx G d M p R s m args meth c → lvr G M.2.2.2.2.1 lv ls →
    (∀ ls' : Array Slot, lvr G M.2.2.2.2.1 lv' ls' → W p G.1 e R s m args below meth c H locs cells slots Z (F0 m (pcj M j') ls' (st'.map (trv G)))) →
    W p G.1 e R s m args below meth c H locs cells slots Z (F0 m (pcj M j) ls (st.map (trv G)))
theorem Go.step {G : GX} {d : Nat} {M : MR} {j j' : Nat} {lv lv' : Lc} {st st' : List Value} {h h' : Hp} {r : Option Value} (row : StepR G d M j lv st j' lv' st') (k : Go G d M j' lv' st' h r h') : Go G d M j lv st h r h' :=
  ⟨k.1, fun p e R s m args below meth c H locs cells slots ls Z cx hl hh hS hc0 hc1 hc2 K => row p e R s m args below meth c H locs cells slots ls Z cx hl (fun ls' hl' => k.2 p e R s m args below meth c H locs cells slots ls' Z cx hl' hh hS hc0 hc1 hc2 K)⟩
theorem trv_cat (G : GX) (v : Value) : (trv G v).category = v.category := by cases v <;> rfl
def lst (G : GX) (lv : Lc) : List (Nat × Value) := (List.range lv.length).filterMap (fun i => match lv[i]? with
  | some (some v) => some (i, trv G v)
  | _ => none)
theorem lst_in {G : GX} {lv : Lc} {i : Nat} {v : Value} (h : lv[i]? = some (some v)) : (i, trv G v) ∈ lst G lv := by
  refine List.mem_filterMap.mpr ⟨i, List.mem_range.mpr (List.getElem?_eq_some_iff.mp h).1, ?_⟩
  rw [h]
theorem lst_of {G : GX} {lv : Lc} {q : Nat × Value} (h : q ∈ lst G lv) : ∃ v, lv[q.1]? = some (some v) ∧ q.2 = trv G v := by
  obtain ⟨i, -, hi⟩ := List.mem_filterMap.mp h
  cases hv : lv[i]? with
  | none => rw [hv] at hi; cases hi
  | some o =>
    cases o with
    | none => rw [hv] at hi; cases hi
    | some v =>
      rw [hv] at hi
      have := Option.some.inj hi
      subst this
      exact ⟨v, hv, rfl⟩
theorem lvr.has {G : GX} {nL : Nat} {lv : Lc} {ls : Array Slot} (h : lvr G nL lv ls) : lv_has ls nL (lst G lv) := by
  refine ⟨h.1, h.2.1, fun q hq => ?_⟩
  obtain ⟨v, h1, h2⟩ := lst_of hq
  rw [h2]
  exact h.2.2 _ _ h1
theorem clr_of {lv : Lc} {i k : Nat} {v : Value} (h : (clr lv i)[k]? = some (some v)) : lv[k]? = some (some v) ∧ ¬ (k + 1 = i ∧ v.category = 2) := by
  cases i with
  | zero => exact ⟨h, fun z => by omega⟩
  | succ i =>
    unfold clr at h
    simp only at h
    cases hv : lv[i]? with
    | none =>
      rw [hv] at h
      refine ⟨h, fun z => ?_⟩
      have : k = i := by omega
      subst this
      rw [hv] at h
      cases h
    | some o =>
      cases o with
      | none =>
        rw [hv] at h
        refine ⟨h, fun z => ?_⟩
        have : k = i := by omega
        subst this
        rw [hv] at h
        cases h
      | some w =>
        rw [hv] at h
        simp only at h
        split at h
        · rw [List.getElem?_set] at h
          by_cases e : i = k
          · rw [if_pos e] at h
            split at h <;> cases h
          · rw [if_neg e] at h
            exact ⟨h, fun z => e (by omega)⟩
        · rename_i hc
          refine ⟨h, fun z => ?_⟩
          have : k = i := by omega
          subst this
          rw [hv] at h
          cases h
          exact hc z.2
theorem lvr.st1 {G : GX} {nL : Nat} {lv : Lc} {ls' : Array Slot} {i : Nat} {v : Value} (h : lv_has ls' nL ((i, trv G v) :: (lst G lv).filter (fun q => !(q.1 == i) && !(q.1 + 1 == i && q.2.category == 2)))) : lvr G nL (st1 lv i v) ls' := by
  refine ⟨h.1, h.2.1, fun k w hk => ?_⟩
  unfold _root_.Jvm.Pilot.CWreckCourtLaw_law_r7990_4df1d7.st1 at hk
  rw [List.getElem?_set] at hk
  by_cases e : i = k
  · rw [if_pos e] at hk
    split at hk
    · cases hk
      subst e
      exact h.2.2 (i, trv G v) List.mem_cons_self
    · cases hk
  · rw [if_neg e] at hk
    obtain ⟨h1, h2⟩ := clr_of hk
    refine h.2.2 (k, trv G w) (List.mem_cons_of_mem _ (List.mem_filter.mpr ⟨lst_in h1, ?_⟩))
    simp only [Bool.and_eq_true, Bool.not_eq_true', beq_eq_false_iff_ne, ne_eq, Bool.and_eq_false_iff, trv_cat]
    refine ⟨fun z => e z.symm, ?_⟩
    by_cases z : k + 1 = i
    · exact Or.inr (fun y => h2 ⟨z, y⟩)
    · exact Or.inl z
theorem lvr.st2 {G : GX} {nL : Nat} {lv : Lc} {ls' : Array Slot} {i : Nat} {v : Value} (h : lv_has ls' nL ((i, trv G v) :: (lst G lv).filter (fun q => !(q.1 == i) && (!(q.1 == i + 1) && !(q.1 + 1 == i && q.2.category == 2))))) : lvr G nL (st2 lv i v) ls' := by
  refine ⟨h.1, h.2.1, fun k w hk => ?_⟩
  unfold _root_.Jvm.Pilot.CWreckCourtLaw_law_r7990_4df1d7.st2 at hk
  rw [List.getElem?_set] at hk
  by_cases e2 : i + 1 = k
  · rw [if_pos e2] at hk
    split at hk <;> cases hk
  · rw [if_neg e2, List.getElem?_set] at hk
    by_cases e : i = k
    · rw [if_pos e] at hk
      split at hk
      · cases hk
        subst e
        exact h.2.2 (i, trv G v) List.mem_cons_self
      · cases hk
    · rw [if_neg e] at hk
      obtain ⟨h1, h2⟩ := clr_of hk
      refine h.2.2 (k, trv G w) (List.mem_cons_of_mem _ (List.mem_filter.mpr ⟨lst_in h1, ?_⟩))
      simp only [Bool.and_eq_true, Bool.not_eq_true', beq_eq_false_iff_ne, ne_eq, Bool.and_eq_false_iff, trv_cat]
      refine ⟨fun z => e z.symm, fun z => e2 z.symm, ?_⟩
      by_cases z : k + 1 = i
      · exact Or.inr (fun y => h2 ⟨z, y⟩)
      · exact Or.inl z
theorem msk_of {live : List Nat} : ∀ (lv : Lc) (i k : Nat) (v : Value), (msk live i lv)[k]? = some (some v) → lv[k]? = some (some v)
  | [], i, k, v, h => by simp [msk] at h
  | o :: lv, i, 0, v, h => by
    simp only [msk, List.getElem?_cons_zero, Option.some.injEq] at h ⊢
    split at h
    · exact h
    · cases h
  | o :: lv, i, k + 1, v, h => by
    simp only [msk, List.getElem?_cons_succ] at h ⊢
    exact msk_of lv (i + 1) k v h
theorem Go.msk {G : GX} {d : Nat} {M : MR} {j i : Nat} {live : List Nat} {lv : Lc} {st : List Value} {h h' : Hp} {r : Option Value} (k : Go G d M j (msk live i lv) st h r h') : Go G d M j lv st h r h' :=
  ⟨k.1, fun p e R s m args below meth c H locs cells slots ls Z cx hl hh hS hc0 hc1 hc2 K => k.2 p e R s m args below meth c H locs cells slots ls Z cx ⟨hl.1, hl.2.1, fun i v hv => hl.2.2 i v (msk_of _ _ _ _ hv)⟩ hh hS hc0 hc1 hc2 K⟩
end
section
/-! ROWS: one for each kind of entry that leaves the heap as it is -/
theorem wp.step {G : GX} {d : Nat} {M : MR} {j j' : Nat} {lv lv' : Lc} {st st' : List Value} {h : Hp} {Q : Option Value → Hp → Prop} (row : StepR G d M j lv st j' lv' st') (k : wp G d M j' lv' st' h Q) : wp G d M j lv st h Q := by
  obtain ⟨r, h', g, q⟩ := k
  exact ⟨r, h', g.step row, q⟩
section ROWS
variable {G : GX} {d : Nat} {M : MR} {j : Nat} {lv : Lc} {r0 : List Value}
theorem g_iadd {x y : Int32} (hd : decode M.2.2.1 (pcj M j) = .ok (.iadd, 1)) (hn : pcj M (j + 1) = pcj M j + 1)  : StepR G d M j lv (.int y :: .int x :: r0) (j + 1) lv (.int (x + y) :: r0) := fun p e R s m args below meth c H locs cells slots ls Z cx hl K => lv_iadd cx.1 cx.2.1 hd (by have q := K ls hl; rw [hn] at q; exact q)
theorem g_isub {x y : Int32} (hd : decode M.2.2.1 (pcj M j) = .ok (.isub, 1)) (hn : pcj M (j + 1) = pcj M j + 1)  : StepR G d M j lv (.int y :: .int x :: r0) (j + 1) lv (.int (x - y) :: r0) := fun p e R s m args below meth c H locs cells slots ls Z cx hl K => lv_isub cx.1 cx.2.1 hd (by have q := K ls hl; rw [hn] at q; exact q)
theorem g_imul {x y : Int32} (hd : decode M.2.2.1 (pcj M j) = .ok (.imul, 1)) (hn : pcj M (j + 1) = pcj M j + 1)  : StepR G d M j lv (.int y :: .int x :: r0) (j + 1) lv (.int (x * y) :: r0) := fun p e R s m args below meth c H locs cells slots ls Z cx hl K => lv_imul cx.1 cx.2.1 hd (by have q := K ls hl; rw [hn] at q; exact q)
theorem g_iand {x y : Int32} (hd : decode M.2.2.1 (pcj M j) = .ok (.iand, 1)) (hn : pcj M (j + 1) = pcj M j + 1)  : StepR G d M j lv (.int y :: .int x :: r0) (j + 1) lv (.int (x &&& y) :: r0) := fun p e R s m args below meth c H locs cells slots ls Z cx hl K => lv_iand cx.1 cx.2.1 hd (by have q := K ls hl; rw [hn] at q; exact q)
theorem g_ior {x y : Int32} (hd : decode M.2.2.1 (pcj M j) = .ok (.ior, 1)) (hn : pcj M (j + 1) = pcj M j + 1)  : StepR G d M j lv (.int y :: .int x :: r0) (j + 1) lv (.int (x ||| y) :: r0) := fun p e R s m args below meth c H locs cells slots ls Z cx hl K => lv_ior cx.1 cx.2.1 hd (by have q := K ls hl; rw [hn] at q; exact q)
theorem g_ixor {x y : Int32} (hd : decode M.2.2.1 (pcj M j) = .ok (.ixor, 1)) (hn : pcj M (j + 1) = pcj M j + 1)  : StepR G d M j lv (.int y :: .int x :: r0) (j + 1) lv (.int (x ^^^ y) :: r0) := fun p e R s m args below meth c H locs cells slots ls Z cx hl K => lv_ixor cx.1 cx.2.1 hd (by have q := K ls hl; rw [hn] at q; exact q)
theorem g_ishl {x y : Int32} (hd : decode M.2.2.1 (pcj M j) = .ok (.ishl, 1)) (hn : pcj M (j + 1) = pcj M j + 1)  : StepR G d M j lv (.int y :: .int x :: r0) (j + 1) lv (.int (x <<< (y &&& 31)) :: r0) := fun p e R s m args below meth c H locs cells slots ls Z cx hl K => lv_ishl cx.1 cx.2.1 hd (by have q := K ls hl; rw [hn] at q; exact q)
theorem g_ishr {x y : Int32} (hd : decode M.2.2.1 (pcj M j) = .ok (.ishr, 1)) (hn : pcj M (j + 1) = pcj M j + 1)  : StepR G d M j lv (.int y :: .int x :: r0) (j + 1) lv (.int (x >>> (y &&& 31)) :: r0) := fun p e R s m args below meth c H locs cells slots ls Z cx hl K => lv_ishr cx.1 cx.2.1 hd (by have q := K ls hl; rw [hn] at q; exact q)
theorem g_iushr {x y : Int32} (hd : decode M.2.2.1 (pcj M j) = .ok (.iushr, 1)) (hn : pcj M (j + 1) = pcj M j + 1)  : StepR G d M j lv (.int y :: .int x :: r0) (j + 1) lv (.int ((x.toUInt32 >>> (y.toUInt32 &&& Int32.toUInt32 31)).toInt32) :: r0) := fun p e R s m args below meth c H locs cells slots ls Z cx hl K => lv_iushr cx.1 cx.2.1 hd rfl (by have q := K ls hl; rw [hn] at q; exact q)
theorem g_idiv {x y : Int32} (hd : decode M.2.2.1 (pcj M j) = .ok (.idiv, 1)) (hn : pcj M (j + 1) = pcj M j + 1) (hne : ¬ y = 0) : StepR G d M j lv (.int y :: .int x :: r0) (j + 1) lv (.int (x / y) :: r0) := fun p e R s m args below meth c H locs cells slots ls Z cx hl K => lv_idiv cx.1 cx.2.1 hd hne (by have q := K ls hl; rw [hn] at q; exact q)
theorem g_irem {x y : Int32} (hd : decode M.2.2.1 (pcj M j) = .ok (.irem, 1)) (hn : pcj M (j + 1) = pcj M j + 1) (hne : ¬ y = 0) : StepR G d M j lv (.int y :: .int x :: r0) (j + 1) lv (.int (x - x / y * y) :: r0) := fun p e R s m args below meth c H locs cells slots ls Z cx hl K => lv_irem cx.1 cx.2.1 hd hne (by have q := K ls hl; rw [hn] at q; exact q)
theorem g_ineg {x : Int32} (hd : decode M.2.2.1 (pcj M j) = .ok (.ineg, 1)) (hn : pcj M (j + 1) = pcj M j + 1)  : StepR G d M j lv (.int x :: r0) (j + 1) lv (.int (-x) :: r0) := fun p e R s m args below meth c H locs cells slots ls Z cx hl K => lv_ineg cx.1 cx.2.1 hd (by have q := K ls hl; rw [hn] at q; exact q)
theorem g_i2l {x : Int32} (hd : decode M.2.2.1 (pcj M j) = .ok (.i2l, 1)) (hn : pcj M (j + 1) = pcj M j + 1)  : StepR G d M j lv (.int x :: r0) (j + 1) lv (.long x.toInt64 :: r0) := fun p e R s m args below meth c H locs cells slots ls Z cx hl K => lv_i2l cx.1 cx.2.1 hd rfl (by have q := K ls hl; rw [hn] at q; exact q)
theorem g_l2i {x : Int64} (hd : decode M.2.2.1 (pcj M j) = .ok (.l2i, 1)) (hn : pcj M (j + 1) = pcj M j + 1)  : StepR G d M j lv (.long x :: r0) (j + 1) lv (.int x.toInt32 :: r0) := fun p e R s m args below meth c H locs cells slots ls Z cx hl K => lv_l2i cx.1 cx.2.1 hd rfl (by have q := K ls hl; rw [hn] at q; exact q)
theorem g_i2b {x : Int32} (hd : decode M.2.2.1 (pcj M j) = .ok (.i2b, 1)) (hn : pcj M (j + 1) = pcj M j + 1)  : StepR G d M j lv (.int x :: r0) (j + 1) lv (.int x.toInt8.toInt32 :: r0) := fun p e R s m args below meth c H locs cells slots ls Z cx hl K => lv_i2b cx.1 cx.2.1 hd rfl (by have q := K ls hl; rw [hn] at q; exact q)
theorem g_i2s {x : Int32} (hd : decode M.2.2.1 (pcj M j) = .ok (.i2s, 1)) (hn : pcj M (j + 1) = pcj M j + 1)  : StepR G d M j lv (.int x :: r0) (j + 1) lv (.int x.toInt16.toInt32 :: r0) := fun p e R s m args below meth c H locs cells slots ls Z cx hl K => lv_i2s cx.1 cx.2.1 hd rfl (by have q := K ls hl; rw [hn] at q; exact q)
theorem g_ladd {x y : Int64} (hd : decode M.2.2.1 (pcj M j) = .ok (.ladd, 1)) (hn : pcj M (j + 1) = pcj M j + 1)  : StepR G d M j lv (.long y :: .long x :: r0) (j + 1) lv (.long (x + y) :: r0) := fun p e R s m args below meth c H locs cells slots ls Z cx hl K => lv_ladd cx.1 cx.2.1 hd (by have q := K ls hl; rw [hn] at q; exact q)
theorem g_lmul {x y : Int64} (hd : decode M.2.2.1 (pcj M j) = .ok (.lmul, 1)) (hn : pcj M (j + 1) = pcj M j + 1)  : StepR G d M j lv (.long y :: .long x :: r0) (j + 1) lv (.long (x * y) :: r0) := fun p e R s m args below meth c H locs cells slots ls Z cx hl K => lv_lmul cx.1 cx.2.1 hd (by have q := K ls hl; rw [hn] at q; exact q)
theorem g_land {x y : Int64} (hd : decode M.2.2.1 (pcj M j) = .ok (.land, 1)) (hn : pcj M (j + 1) = pcj M j + 1)  : StepR G d M j lv (.long y :: .long x :: r0) (j + 1) lv (.long (x &&& y) :: r0) := fun p e R s m args below meth c H locs cells slots ls Z cx hl K => lv_land cx.1 cx.2.1 hd (by have q := K ls hl; rw [hn] at q; exact q)
theorem g_lor {x y : Int64} (hd : decode M.2.2.1 (pcj M j) = .ok (.lor, 1)) (hn : pcj M (j + 1) = pcj M j + 1)  : StepR G d M j lv (.long y :: .long x :: r0) (j + 1) lv (.long (x ||| y) :: r0) := fun p e R s m args below meth c H locs cells slots ls Z cx hl K => lv_lor cx.1 cx.2.1 hd (by have q := K ls hl; rw [hn] at q; exact q)
theorem g_lshl {x : Int64} {y : Int32} (hd : decode M.2.2.1 (pcj M j) = .ok (.lshl, 1)) (hn : pcj M (j + 1) = pcj M j + 1)  : StepR G d M j lv (.int y :: .long x :: r0) (j + 1) lv (.long (x <<< (y.toInt64 &&& 63)) :: r0) := fun p e R s m args below meth c H locs cells slots ls Z cx hl K => lv_lshl cx.1 cx.2.1 hd rfl (by have q := K ls hl; rw [hn] at q; exact q)
theorem g_lshr {x : Int64} {y : Int32} (hd : decode M.2.2.1 (pcj M j) = .ok (.lshr, 1)) (hn : pcj M (j + 1) = pcj M j + 1)  : StepR G d M j lv (.int y :: .long x :: r0) (j + 1) lv (.long (x >>> (y.toInt64 &&& 63)) :: r0) := fun p e R s m args below meth c H locs cells slots ls Z cx hl K => lv_lshr cx.1 cx.2.1 hd rfl (by have q := K ls hl; rw [hn] at q; exact q)
theorem g_lcmp {x y : Int64} (hd : decode M.2.2.1 (pcj M j) = .ok (.lcmp, 1)) (hn : pcj M (j + 1) = pcj M j + 1)  : StepR G d M j lv (.long y :: .long x :: r0) (j + 1) lv (.int (lg_cmp x y) :: r0) := fun p e R s m args below meth c H locs cells slots ls Z cx hl K => W.lcmp cx.1 cx.2.1 hd (by have q := K ls hl; rw [hn] at q; exact q)
theorem g_dupi {x : Int32} (hd : decode M.2.2.1 (pcj M j) = .ok (.dup, 1)) (hn : pcj M (j + 1) = pcj M j + 1)  : StepR G d M j lv (.int x :: r0) (j + 1) lv (.int x :: .int x :: r0) := fun p e R s m args below meth c H locs cells slots ls Z cx hl K => lv_dup (va := .int x) cx.1 cx.2.1 hd rfl (by have q := K ls hl; rw [hn] at q; exact q)
theorem g_dupr {x : Nat} (hd : decode M.2.2.1 (pcj M j) = .ok (.dup, 1)) (hn : pcj M (j + 1) = pcj M j + 1)  : StepR G d M j lv (.ref x :: r0) (j + 1) lv (.ref x :: .ref x :: r0) := fun p e R s m args below meth c H locs cells slots ls Z cx hl K => lv_dup (va := .ref (G.2.2.2.1 x)) cx.1 cx.2.1 hd rfl (by have q := K ls hl; rw [hn] at q; exact q)
theorem g_dup2 {y : Int32} {x : Nat} (hd : decode M.2.2.1 (pcj M j) = .ok (.dup2, 1)) (hn : pcj M (j + 1) = pcj M j + 1)  : StepR G d M j lv (.int y :: .ref x :: r0) (j + 1) lv (.int y :: .ref x :: .int y :: .ref x :: r0) := fun p e R s m args below meth c H locs cells slots ls Z cx hl K => lv_dup2_11 (va := .int y) (vb := .ref (G.2.2.2.1 x)) cx.1 cx.2.1 hd rfl rfl (by have q := K ls hl; rw [hn] at q; exact q)
theorem g_iload_n {k : Fin 4} {x : Int32} (hd : decode M.2.2.1 (pcj M j) = .ok (.iload_n k, 1)) (hn : pcj M (j + 1) = pcj M j + 1) (hv : lv[k.val]? = some (some (.int x))) : StepR G d M j lv (r0) (j + 1) lv (.int x :: r0) := fun p e R s m args below meth c H locs cells slots ls Z cx hl K => lv_iload_n cx.1 cx.2.1 hd rfl (hl.2.2 _ _ hv) (by have q := K ls hl; rw [hn] at q; exact q)
theorem g_iload {k : Nat} {x : Int32} (hd : decode M.2.2.1 (pcj M j) = .ok (.iload k, 2)) (hn : pcj M (j + 1) = pcj M j + 2) (hv : lv[k]? = some (some (.int x))) : StepR G d M j lv (r0) (j + 1) lv (.int x :: r0) := fun p e R s m args below meth c H locs cells slots ls Z cx hl K => lv_iload cx.1 cx.2.1 hd (hl.2.2 _ _ hv) (by have q := K ls hl; rw [hn] at q; exact q)
theorem g_istore_n {k : Fin 4} {x : Int32} (hd : decode M.2.2.1 (pcj M j) = .ok (.istore_n k, 1)) (hn : pcj M (j + 1) = pcj M j + 1) (hi : k.val < M.2.2.2.2.1) : StepR G d M j lv (.int x :: r0) (j + 1) (st1 lv k.val (.int x)) r0 := fun p e R s m args below meth c H locs cells slots ls Z cx hl K => lv_istore_n cx.1 cx.2.1 hd rfl hl.has hi rfl (fun ls2 h2 => by have q := K ls2 (lvr.st1 h2); rw [hn] at q; exact q)
theorem g_istore {k : Nat} {x : Int32} (hd : decode M.2.2.1 (pcj M j) = .ok (.istore k, 2)) (hn : pcj M (j + 1) = pcj M j + 2) (hi : k < M.2.2.2.2.1) : StepR G d M j lv (.int x :: r0) (j + 1) (st1 lv k (.int x)) r0 := fun p e R s m args below meth c H locs cells slots ls Z cx hl K => lv_istore cx.1 cx.2.1 hd hl.has hi rfl (fun ls2 h2 => by have q := K ls2 (lvr.st1 h2); rw [hn] at q; exact q)
theorem g_lload_n {k : Fin 4} {x : Int64} (hd : decode M.2.2.1 (pcj M j) = .ok (.lload_n k, 1)) (hn : pcj M (j + 1) = pcj M j + 1) (hv : lv[k.val]? = some (some (.long x))) : StepR G d M j lv (r0) (j + 1) lv (.long x :: r0) := fun p e R s m args below meth c H locs cells slots ls Z cx hl K => lv_lload_n cx.1 cx.2.1 hd rfl (hl.2.2 _ _ hv) (by have q := K ls hl; rw [hn] at q; exact q)
theorem g_lload {k : Nat} {x : Int64} (hd : decode M.2.2.1 (pcj M j) = .ok (.lload k, 2)) (hn : pcj M (j + 1) = pcj M j + 2) (hv : lv[k]? = some (some (.long x))) : StepR G d M j lv (r0) (j + 1) lv (.long x :: r0) := fun p e R s m args below meth c H locs cells slots ls Z cx hl K => lv_lload cx.1 cx.2.1 hd (hl.2.2 _ _ hv) (by have q := K ls hl; rw [hn] at q; exact q)
theorem g_lstore_n {k : Fin 4} {x : Int64} (hd : decode M.2.2.1 (pcj M j) = .ok (.lstore_n k, 1)) (hn : pcj M (j + 1) = pcj M j + 1) (hi : k.val + 1 < M.2.2.2.2.1) : StepR G d M j lv (.long x :: r0) (j + 1) (st2 lv k.val (.long x)) r0 := fun p e R s m args below meth c H locs cells slots ls Z cx hl K => lv_lstore_n cx.1 cx.2.1 hd rfl hl.has hi rfl (fun ls2 h2 => by have q := K ls2 (lvr.st2 h2); rw [hn] at q; exact q)
theorem g_lstore {k : Nat} {x : Int64} (hd : decode M.2.2.1 (pcj M j) = .ok (.lstore k, 2)) (hn : pcj M (j + 1) = pcj M j + 2) (hi : k + 1 < M.2.2.2.2.1) : StepR G d M j lv (.long x :: r0) (j + 1) (st2 lv k (.long x)) r0 := fun p e R s m args below meth c H locs cells slots ls Z cx hl K => lv_lstore cx.1 cx.2.1 hd hl.has hi rfl (fun ls2 h2 => by have q := K ls2 (lvr.st2 h2); rw [hn] at q; exact q)
theorem g_aload_n {k : Fin 4} {x : Nat} (hd : decode M.2.2.1 (pcj M j) = .ok (.aload_n k, 1)) (hn : pcj M (j + 1) = pcj M j + 1) (hv : lv[k.val]? = some (some (.ref x))) : StepR G d M j lv (r0) (j + 1) lv (.ref x :: r0) := fun p e R s m args below meth c H locs cells slots ls Z cx hl K => lv_aload_n cx.1 cx.2.1 hd rfl (hl.2.2 _ _ hv) (by have q := K ls hl; rw [hn] at q; exact q)
theorem g_aload {k : Nat} {x : Nat} (hd : decode M.2.2.1 (pcj M j) = .ok (.aload k, 2)) (hn : pcj M (j + 1) = pcj M j + 2) (hv : lv[k]? = some (some (.ref x))) : StepR G d M j lv (r0) (j + 1) lv (.ref x :: r0) := fun p e R s m args below meth c H locs cells slots ls Z cx hl K => lv_aload cx.1 cx.2.1 hd (hl.2.2 _ _ hv) (by have q := K ls hl; rw [hn] at q; exact q)
theorem g_astore_n {k : Fin 4} {x : Nat} (hd : decode M.2.2.1 (pcj M j) = .ok (.astore_n k, 1)) (hn : pcj M (j + 1) = pcj M j + 1) (hi : k.val < M.2.2.2.2.1) : StepR G d M j lv (.ref x :: r0) (j + 1) (st1 lv k.val (.ref x)) r0 := fun p e R s m args below meth c H locs cells slots ls Z cx hl K => lv_astore_n cx.1 cx.2.1 hd rfl hl.has hi rfl (fun ls2 h2 => by have q := K ls2 (lvr.st1 h2); rw [hn] at q; exact q)
theorem g_astore {k : Nat} {x : Nat} (hd : decode M.2.2.1 (pcj M j) = .ok (.astore k, 2)) (hn : pcj M (j + 1) = pcj M j + 2) (hi : k < M.2.2.2.2.1) : StepR G d M j lv (.ref x :: r0) (j + 1) (st1 lv k (.ref x)) r0 := fun p e R s m args below meth c H locs cells slots ls Z cx hl K => lv_astore cx.1 cx.2.1 hd hl.has hi rfl (fun ls2 h2 => by have q := K ls2 (lvr.st1 h2); rw [hn] at q; exact q)
theorem g_iinc {k : Nat} {n : Int} {x : Int32} (hd : decode M.2.2.1 (pcj M j) = .ok (.iinc k n, 3)) (hn : pcj M (j + 1) = pcj M j + 3) (hv : lv[k]? = some (some (.int x))) (hi : k < M.2.2.2.2.1) : StepR G d M j lv r0 (j + 1) (st1 lv k (.int (x + Int32.ofInt n))) r0 := fun p e R s m args below meth c H locs cells slots ls Z cx hl K => by
  obtain ⟨q, hq⟩ := List.getElem?_of_mem (lst_in (G := G) hv)
  exact lv_iinc cx.1 cx.2.1 hd hl.has (k := q) hq rfl hi rfl (fun ls2 h2 => by have q := K ls2 (lvr.st1 h2); rw [hn] at q; exact q)
theorem g_iconst {n : Int} {x : Int32} (hd : decode M.2.2.1 (pcj M j) = .ok (.iconst n, 1)) (hn : pcj M (j + 1) = pcj M j + 1) (hv : Int32.ofInt n = x) : StepR G d M j lv (r0) (j + 1) lv (.int x :: r0) := fun p e R s m args below meth c H locs cells slots ls Z cx hl K => lv_iconst cx.1 cx.2.1 hd hv (by have q := K ls hl; rw [hn] at q; exact q)
theorem g_bipush {n : Int} {x : Int32} (hd : decode M.2.2.1 (pcj M j) = .ok (.bipush n, 2)) (hn : pcj M (j + 1) = pcj M j + 2) (hv : (Int8.ofInt n).toInt32 = x) : StepR G d M j lv (r0) (j + 1) lv (.int x :: r0) := fun p e R s m args below meth c H locs cells slots ls Z cx hl K => lv_bipush cx.1 cx.2.1 hd hv (by have q := K ls hl; rw [hn] at q; exact q)
theorem g_sipush {n : Int} {x : Int32} (hd : decode M.2.2.1 (pcj M j) = .ok (.sipush n, 3)) (hn : pcj M (j + 1) = pcj M j + 3) (hv : (Int16.ofInt n).toInt32 = x) : StepR G d M j lv (r0) (j + 1) lv (.int x :: r0) := fun p e R s m args below meth c H locs cells slots ls Z cx hl K => lv_sipush cx.1 cx.2.1 hd hv (by have q := K ls hl; rw [hn] at q; exact q)
theorem g_lconst {n : Fin 2} {x : Int64} (hd : decode M.2.2.1 (pcj M j) = .ok (.lconst n, 1)) (hn : pcj M (j + 1) = pcj M j + 1) (hv : Int64.ofNat (n : Nat) = x) : StepR G d M j lv (r0) (j + 1) lv (.long x :: r0) := fun p e R s m args below meth c H locs cells slots ls Z cx hl K => lv_lconst cx.1 cx.2.1 hd hv (by have q := K ls hl; rw [hn] at q; exact q)
theorem g_ldc {n : Nat} {x : Int32} (hd : decode M.2.2.1 (pcj M j) = .ok (.ldc n, 2)) (hn : pcj M (j + 1) = pcj M j + 2) (hw : Cond.constant M.2.2.2.1.cls n x ∈ LG) : StepR G d M j lv (r0) (j + 1) lv (.int x :: r0) := fun p e R s m args below meth c H locs cells slots ls Z cx hl K => lv_ldc cx.1 cx.2.1 cx.2.2.2.1 (cx.2.2.2.2.1 _ hw) hd (by have q := K ls hl; rw [hn] at q; exact q)
theorem g_ldcw {n : Nat} {x : Int32} (hd : decode M.2.2.1 (pcj M j) = .ok (.ldc_w n, 3)) (hn : pcj M (j + 1) = pcj M j + 3) (hw : Cond.constant M.2.2.2.1.cls n x ∈ LG) : StepR G d M j lv (r0) (j + 1) lv (.int x :: r0) := fun p e R s m args below meth c H locs cells slots ls Z cx hl K => lv_ldcw cx.1 cx.2.1 cx.2.2.2.1 (cx.2.2.2.2.1 _ hw) hd (by have q := K ls hl; rw [hn] at q; exact q)
theorem g_ldc2 {n : Nat} {x : Int64} (hd : decode M.2.2.1 (pcj M j) = .ok (.ldc2_w n, 3)) (hn : pcj M (j + 1) = pcj M j + 3) (hw : Cond.constantLong M.2.2.2.1.cls n x ∈ LG) : StepR G d M j lv (r0) (j + 1) lv (.long x :: r0) := fun p e R s m args below meth c H locs cells slots ls Z cx hl K => lv_ldc2 cx.1 cx.2.1 cx.2.2.2.1 (cx.2.2.2.2.1 _ hw) hd (by have q := K ls hl; rw [hn] at q; exact q)
theorem g_goto {t : Nat} {off : Int} (hd : decode M.2.2.1 (pcj M j) = .ok (.goto off, 3)) (ht : (pcj M j : Int) + off = (pcj M t : Int)) : StepR G d M j lv r0 t lv r0 := fun p e R s m args below meth c H locs cells slots ls Z cx hl K => lv_goto cx.1 cx.2.1 hd ht (K ls hl)
theorem g_if_eqT {x : Int32} {t : Nat} {off : Int} (hd : decode M.2.2.1 (pcj M j) = .ok (.ifCond .eq off, 3)) (ht : (pcj M j : Int) + off = (pcj M t : Int)) (hc : x = 0) : StepR G d M j lv (.int x :: r0) t lv r0 := fun p e R s m args below meth c H locs cells slots ls Z cx hl K => lv_if_eq cx.1 cx.2.1 hd ht (fun _ => K ls hl) (fun z => absurd hc z)
theorem g_if_eqF {x : Int32} {t : Nat} {off : Int} (hd : decode M.2.2.1 (pcj M j) = .ok (.ifCond .eq off, 3)) (ht : (pcj M j : Int) + off = (pcj M t : Int)) (hn : pcj M (j + 1) = pcj M j + 3) (hc : ¬ x = 0) : StepR G d M j lv (.int x :: r0) (j + 1) lv r0 := fun p e R s m args below meth c H locs cells slots ls Z cx hl K => lv_if_eq cx.1 cx.2.1 hd ht (fun z => absurd z hc) (fun _ => by have q := K ls hl; rw [hn] at q; exact q)
theorem g_icmp_eqT {x y : Int32} {t : Nat} {off : Int} (hd : decode M.2.2.1 (pcj M j) = .ok (.if_icmp .eq off, 3)) (ht : (pcj M j : Int) + off = (pcj M t : Int)) (hc : x = y) : StepR G d M j lv (.int y :: .int x :: r0) t lv r0 := fun p e R s m args below meth c H locs cells slots ls Z cx hl K => lv_icmp_eq cx.1 cx.2.1 hd ht (fun _ => K ls hl) (fun z => absurd hc z)
theorem g_icmp_eqF {x y : Int32} {t : Nat} {off : Int} (hd : decode M.2.2.1 (pcj M j) = .ok (.if_icmp .eq off, 3)) (ht : (pcj M j : Int) + off = (pcj M t : Int)) (hn : pcj M (j + 1) = pcj M j + 3) (hc : ¬ x = y) : StepR G d M j lv (.int y :: .int x :: r0) (j + 1) lv r0 := fun p e R s m args below meth c H locs cells slots ls Z cx hl K => lv_icmp_eq cx.1 cx.2.1 hd ht (fun z => absurd z hc) (fun _ => by have q := K ls hl; rw [hn] at q; exact q)
theorem g_if_neT {x : Int32} {t : Nat} {off : Int} (hd : decode M.2.2.1 (pcj M j) = .ok (.ifCond .ne off, 3)) (ht : (pcj M j : Int) + off = (pcj M t : Int)) (hc : ¬ x = 0) : StepR G d M j lv (.int x :: r0) t lv r0 := fun p e R s m args below meth c H locs cells slots ls Z cx hl K => lv_if_ne cx.1 cx.2.1 hd ht (fun _ => K ls hl) (fun z => absurd z hc)
theorem g_if_neF {x : Int32} {t : Nat} {off : Int} (hd : decode M.2.2.1 (pcj M j) = .ok (.ifCond .ne off, 3)) (ht : (pcj M j : Int) + off = (pcj M t : Int)) (hn : pcj M (j + 1) = pcj M j + 3) (hc : x = 0) : StepR G d M j lv (.int x :: r0) (j + 1) lv r0 := fun p e R s m args below meth c H locs cells slots ls Z cx hl K => lv_if_ne cx.1 cx.2.1 hd ht (fun z => absurd hc z) (fun _ => by have q := K ls hl; rw [hn] at q; exact q)
theorem g_icmp_neT {x y : Int32} {t : Nat} {off : Int} (hd : decode M.2.2.1 (pcj M j) = .ok (.if_icmp .ne off, 3)) (ht : (pcj M j : Int) + off = (pcj M t : Int)) (hc : ¬ x = y) : StepR G d M j lv (.int y :: .int x :: r0) t lv r0 := fun p e R s m args below meth c H locs cells slots ls Z cx hl K => lv_icmp_ne cx.1 cx.2.1 hd ht (fun _ => K ls hl) (fun z => absurd z hc)
theorem g_icmp_neF {x y : Int32} {t : Nat} {off : Int} (hd : decode M.2.2.1 (pcj M j) = .ok (.if_icmp .ne off, 3)) (ht : (pcj M j : Int) + off = (pcj M t : Int)) (hn : pcj M (j + 1) = pcj M j + 3) (hc : x = y) : StepR G d M j lv (.int y :: .int x :: r0) (j + 1) lv r0 := fun p e R s m args below meth c H locs cells slots ls Z cx hl K => lv_icmp_ne cx.1 cx.2.1 hd ht (fun z => absurd hc z) (fun _ => by have q := K ls hl; rw [hn] at q; exact q)
theorem g_if_ltT {x : Int32} {t : Nat} {off : Int} (hd : decode M.2.2.1 (pcj M j) = .ok (.ifCond .lt off, 3)) (ht : (pcj M j : Int) + off = (pcj M t : Int)) (hc : x < 0) : StepR G d M j lv (.int x :: r0) t lv r0 := fun p e R s m args below meth c H locs cells slots ls Z cx hl K => lv_if_lt cx.1 cx.2.1 hd ht (fun _ => K ls hl) (fun z => absurd hc z)
theorem g_if_ltF {x : Int32} {t : Nat} {off : Int} (hd : decode M.2.2.1 (pcj M j) = .ok (.ifCond .lt off, 3)) (ht : (pcj M j : Int) + off = (pcj M t : Int)) (hn : pcj M (j + 1) = pcj M j + 3) (hc : ¬ x < 0) : StepR G d M j lv (.int x :: r0) (j + 1) lv r0 := fun p e R s m args below meth c H locs cells slots ls Z cx hl K => lv_if_lt cx.1 cx.2.1 hd ht (fun z => absurd z hc) (fun _ => by have q := K ls hl; rw [hn] at q; exact q)
theorem g_icmp_ltT {x y : Int32} {t : Nat} {off : Int} (hd : decode M.2.2.1 (pcj M j) = .ok (.if_icmp .lt off, 3)) (ht : (pcj M j : Int) + off = (pcj M t : Int)) (hc : x < y) : StepR G d M j lv (.int y :: .int x :: r0) t lv r0 := fun p e R s m args below meth c H locs cells slots ls Z cx hl K => lv_icmp_lt cx.1 cx.2.1 hd ht (fun _ => K ls hl) (fun z => absurd hc z)
theorem g_icmp_ltF {x y : Int32} {t : Nat} {off : Int} (hd : decode M.2.2.1 (pcj M j) = .ok (.if_icmp .lt off, 3)) (ht : (pcj M j : Int) + off = (pcj M t : Int)) (hn : pcj M (j + 1) = pcj M j + 3) (hc : ¬ x < y) : StepR G d M j lv (.int y :: .int x :: r0) (j + 1) lv r0 := fun p e R s m args below meth c H locs cells slots ls Z cx hl K => lv_icmp_lt cx.1 cx.2.1 hd ht (fun z => absurd z hc) (fun _ => by have q := K ls hl; rw [hn] at q; exact q)
theorem g_if_geT {x : Int32} {t : Nat} {off : Int} (hd : decode M.2.2.1 (pcj M j) = .ok (.ifCond .ge off, 3)) (ht : (pcj M j : Int) + off = (pcj M t : Int)) (hc : 0 ≤ x) : StepR G d M j lv (.int x :: r0) t lv r0 := fun p e R s m args below meth c H locs cells slots ls Z cx hl K => lv_if_ge cx.1 cx.2.1 hd ht (fun _ => K ls hl) (fun z => absurd hc z)
theorem g_if_geF {x : Int32} {t : Nat} {off : Int} (hd : decode M.2.2.1 (pcj M j) = .ok (.ifCond .ge off, 3)) (ht : (pcj M j : Int) + off = (pcj M t : Int)) (hn : pcj M (j + 1) = pcj M j + 3) (hc : ¬ 0 ≤ x) : StepR G d M j lv (.int x :: r0) (j + 1) lv r0 := fun p e R s m args below meth c H locs cells slots ls Z cx hl K => lv_if_ge cx.1 cx.2.1 hd ht (fun z => absurd z hc) (fun _ => by have q := K ls hl; rw [hn] at q; exact q)
theorem g_icmp_geT {x y : Int32} {t : Nat} {off : Int} (hd : decode M.2.2.1 (pcj M j) = .ok (.if_icmp .ge off, 3)) (ht : (pcj M j : Int) + off = (pcj M t : Int)) (hc : y ≤ x) : StepR G d M j lv (.int y :: .int x :: r0) t lv r0 := fun p e R s m args below meth c H locs cells slots ls Z cx hl K => lv_icmp_ge cx.1 cx.2.1 hd ht (fun _ => K ls hl) (fun z => absurd hc z)
theorem g_icmp_geF {x y : Int32} {t : Nat} {off : Int} (hd : decode M.2.2.1 (pcj M j) = .ok (.if_icmp .ge off, 3)) (ht : (pcj M j : Int) + off = (pcj M t : Int)) (hn : pcj M (j + 1) = pcj M j + 3) (hc : ¬ y ≤ x) : StepR G d M j lv (.int y :: .int x :: r0) (j + 1) lv r0 := fun p e R s m args below meth c H locs cells slots ls Z cx hl K => lv_icmp_ge cx.1 cx.2.1 hd ht (fun z => absurd z hc) (fun _ => by have q := K ls hl; rw [hn] at q; exact q)
theorem g_if_gtT {x : Int32} {t : Nat} {off : Int} (hd : decode M.2.2.1 (pcj M j) = .ok (.ifCond .gt off, 3)) (ht : (pcj M j : Int) + off = (pcj M t : Int)) (hc : 0 < x) : StepR G d M j lv (.int x :: r0) t lv r0 := fun p e R s m args below meth c H locs cells slots ls Z cx hl K => lv_if_gt cx.1 cx.2.1 hd ht (fun _ => K ls hl) (fun z => absurd hc z)
theorem g_if_gtF {x : Int32} {t : Nat} {off : Int} (hd : decode M.2.2.1 (pcj M j) = .ok (.ifCond .gt off, 3)) (ht : (pcj M j : Int) + off = (pcj M t : Int)) (hn : pcj M (j + 1) = pcj M j + 3) (hc : ¬ 0 < x) : StepR G d M j lv (.int x :: r0) (j + 1) lv r0 := fun p e R s m args below meth c H locs cells slots ls Z cx hl K => lv_if_gt cx.1 cx.2.1 hd ht (fun z => absurd z hc) (fun _ => by have q := K ls hl; rw [hn] at q; exact q)
theorem g_icmp_gtT {x y : Int32} {t : Nat} {off : Int} (hd : decode M.2.2.1 (pcj M j) = .ok (.if_icmp .gt off, 3)) (ht : (pcj M j : Int) + off = (pcj M t : Int)) (hc : y < x) : StepR G d M j lv (.int y :: .int x :: r0) t lv r0 := fun p e R s m args below meth c H locs cells slots ls Z cx hl K => lv_icmp_gt cx.1 cx.2.1 hd ht (fun _ => K ls hl) (fun z => absurd hc z)
theorem g_icmp_gtF {x y : Int32} {t : Nat} {off : Int} (hd : decode M.2.2.1 (pcj M j) = .ok (.if_icmp .gt off, 3)) (ht : (pcj M j : Int) + off = (pcj M t : Int)) (hn : pcj M (j + 1) = pcj M j + 3) (hc : ¬ y < x) : StepR G d M j lv (.int y :: .int x :: r0) (j + 1) lv r0 := fun p e R s m args below meth c H locs cells slots ls Z cx hl K => lv_icmp_gt cx.1 cx.2.1 hd ht (fun z => absurd z hc) (fun _ => by have q := K ls hl; rw [hn] at q; exact q)
theorem g_if_leT {x : Int32} {t : Nat} {off : Int} (hd : decode M.2.2.1 (pcj M j) = .ok (.ifCond .le off, 3)) (ht : (pcj M j : Int) + off = (pcj M t : Int)) (hc : x ≤ 0) : StepR G d M j lv (.int x :: r0) t lv r0 := fun p e R s m args below meth c H locs cells slots ls Z cx hl K => lv_if_le cx.1 cx.2.1 hd ht (fun _ => K ls hl) (fun z => absurd hc z)
theorem g_if_leF {x : Int32} {t : Nat} {off : Int} (hd : decode M.2.2.1 (pcj M j) = .ok (.ifCond .le off, 3)) (ht : (pcj M j : Int) + off = (pcj M t : Int)) (hn : pcj M (j + 1) = pcj M j + 3) (hc : ¬ x ≤ 0) : StepR G d M j lv (.int x :: r0) (j + 1) lv r0 := fun p e R s m args below meth c H locs cells slots ls Z cx hl K => lv_if_le cx.1 cx.2.1 hd ht (fun z => absurd z hc) (fun _ => by have q := K ls hl; rw [hn] at q; exact q)
theorem g_icmp_leT {x y : Int32} {t : Nat} {off : Int} (hd : decode M.2.2.1 (pcj M j) = .ok (.if_icmp .le off, 3)) (ht : (pcj M j : Int) + off = (pcj M t : Int)) (hc : x ≤ y) : StepR G d M j lv (.int y :: .int x :: r0) t lv r0 := fun p e R s m args below meth c H locs cells slots ls Z cx hl K => lv_icmp_le cx.1 cx.2.1 hd ht (fun _ => K ls hl) (fun z => absurd hc z)
theorem g_icmp_leF {x y : Int32} {t : Nat} {off : Int} (hd : decode M.2.2.1 (pcj M j) = .ok (.if_icmp .le off, 3)) (ht : (pcj M j : Int) + off = (pcj M t : Int)) (hn : pcj M (j + 1) = pcj M j + 3) (hc : ¬ x ≤ y) : StepR G d M j lv (.int y :: .int x :: r0) (j + 1) lv r0 := fun p e R s m args below meth c H locs cells slots ls Z cx hl K => lv_icmp_le cx.1 cx.2.1 hd ht (fun z => absurd z hc) (fun _ => by have q := K ls hl; rw [hn] at q; exact q)
theorem wp_if {c : ClassFile.Cond} {x : Int32} {t : Nat} {off : Int} {h : Hp} {Q : Option Value → Hp → Prop} {A B : Prop} (hd : decode M.2.2.1 (pcj M j) = .ok (.ifCond c off, 3)) (ht : (pcj M j : Int) + off = (pcj M t : Int)) (hn : pcj M (j + 1) = pcj M j + 3) (hA : A → wp G d M t lv r0 h Q) (hB : B → wp G d M (j + 1) lv r0 h Q) (hc : cnd c x 0 A B) : wp G d M j lv (.int x :: r0) h Q := by
  cases c with
  | eq =>
    unfold cnd at hc
    simp only at hc
    split at hc
    · rename_i z
      exact (hA hc).step (g_if_eqT hd ht z)
    · rename_i z
      exact (hB hc).step (g_if_eqF hd ht hn z)
  | ne =>
    unfold cnd at hc
    simp only at hc
    split at hc
    · rename_i z
      exact (hB hc).step (g_if_neF hd ht hn z)
    · rename_i z
      exact (hA hc).step (g_if_neT hd ht z)
  | lt =>
    unfold cnd at hc
    simp only at hc
    split at hc
    · rename_i z
      exact (hA hc).step (g_if_ltT hd ht z)
    · rename_i z
      exact (hB hc).step (g_if_ltF hd ht hn z)
  | ge =>
    unfold cnd at hc
    simp only at hc
    split at hc
    · rename_i z
      exact (hA hc).step (g_if_geT hd ht z)
    · rename_i z
      exact (hB hc).step (g_if_geF hd ht hn z)
  | gt =>
    unfold cnd at hc
    simp only at hc
    split at hc
    · rename_i z
      exact (hA hc).step (g_if_gtT hd ht z)
    · rename_i z
      exact (hB hc).step (g_if_gtF hd ht hn z)
  | le =>
    unfold cnd at hc
    simp only at hc
    split at hc
    · rename_i z
      exact (hA hc).step (g_if_leT hd ht z)
    · rename_i z
      exact (hB hc).step (g_if_leF hd ht hn z)
theorem wp_icmp {c : ClassFile.Cond} {x y : Int32} {t : Nat} {off : Int} {h : Hp} {Q : Option Value → Hp → Prop} {A B : Prop} (hd : decode M.2.2.1 (pcj M j) = .ok (.if_icmp c off, 3)) (ht : (pcj M j : Int) + off = (pcj M t : Int)) (hn : pcj M (j + 1) = pcj M j + 3) (hA : A → wp G d M t lv r0 h Q) (hB : B → wp G d M (j + 1) lv r0 h Q) (hc : cnd c x y A B) : wp G d M j lv (.int y :: .int x :: r0) h Q := by
  cases c with
  | eq =>
    unfold cnd at hc
    simp only at hc
    split at hc
    · rename_i z
      exact (hA hc).step (g_icmp_eqT hd ht z)
    · rename_i z
      exact (hB hc).step (g_icmp_eqF hd ht hn z)
  | ne =>
    unfold cnd at hc
    simp only at hc
    split at hc
    · rename_i z
      exact (hB hc).step (g_icmp_neF hd ht hn z)
    · rename_i z
      exact (hA hc).step (g_icmp_neT hd ht z)
  | lt =>
    unfold cnd at hc
    simp only at hc
    split at hc
    · rename_i z
      exact (hA hc).step (g_icmp_ltT hd ht z)
    · rename_i z
      exact (hB hc).step (g_icmp_ltF hd ht hn z)
  | ge =>
    unfold cnd at hc
    simp only at hc
    split at hc
    · rename_i z
      exact (hA hc).step (g_icmp_geT hd ht z)
    · rename_i z
      exact (hB hc).step (g_icmp_geF hd ht hn z)
  | gt =>
    unfold cnd at hc
    simp only at hc
    split at hc
    · rename_i z
      exact (hA hc).step (g_icmp_gtT hd ht z)
    · rename_i z
      exact (hB hc).step (g_icmp_gtF hd ht hn z)
  | le =>
    unfold cnd at hc
    simp only at hc
    split at hc
    · rename_i z
      exact (hA hc).step (g_icmp_leT hd ht z)
    · rename_i z
      exact (hB hc).step (g_icmp_leF hd ht hn z)
end ROWS
end
section
/-! ROWS of entries that read or change the heap -/
theorem vw_0 : ∀ (ci : Nat) (q : vw_C), vwCl[ci]? = some q → ∀ w ∈ u_ws q.1 q.2.1 q.2.2, w ∈ LG := by
  intro ci q h
  match ci, h with
  | 0, h => cases h; exact tb_lay0
  | 1, h => cases h; exact tb_lay1
  | 2, h => cases h; exact tb_lay2
  | 3, h => cases h; exact tb_lay3
  | 4, h => cases h; exact tb_lay4
  | 5, h => cases h; exact tb_lay5
  | 6, h => cases h; exact tb_lay6
  | 7, h => cases h; exact tb_lay7
  | 8, h => cases h; exact tb_lay8
  | 9, h => cases h; exact tb_lay9
  | 10, h => cases h; exact tb_lay10
  | 11, h => cases h; exact tb_lay11
  | k + 12, h => simp [vwCl] at h
def tyc (ci : Nat) : Nat → FieldType := match ci with
  | 0 => tyX0 | 1 => tyX1 | 2 => tyX2 | 3 => tyX3 | 4 => tyX4 | 5 => tyX5 | 6 => tyX6 | 7 => tyX7 | 8 => tyX8 | 9 => tyX9 | 10 => tyX10 | _ => tyX11
theorem vw_t : ∀ (ci : Nat) (q : vw_C), vwCl[ci]? = some q → (∀ k, k < q.2.2 → parseFieldDescriptor (q.2.1 k).2.2.1 = some (tyc ci k)) ∧ (∀ a, a < q.2.2 → ∀ b, b < q.2.2 → a ≠ b → (q.2.1 a).2.1 ≠ (q.2.1 b).2.1) := by
  intro ci q h
  match ci, h with
  | 0, h => cases h; exact ⟨tyX0_ok, nmX0⟩
  | 1, h => cases h; exact ⟨tyX1_ok, nmX1⟩
  | 2, h => cases h; exact ⟨tyX2_ok, nmX2⟩
  | 3, h => cases h; exact ⟨tyX3_ok, nmX3⟩
  | 4, h => cases h; exact ⟨tyX4_ok, nmX4⟩
  | 5, h => cases h; exact ⟨tyX5_ok, nmX5⟩
  | 6, h => cases h; exact ⟨tyX6_ok, nmX6⟩
  | 7, h => cases h; exact ⟨tyX7_ok, nmX7⟩
  | 8, h => cases h; exact ⟨tyX8_ok, nmX8⟩
  | 9, h => cases h; exact ⟨tyX9_ok, nmX9⟩
  | 10, h => cases h; exact ⟨tyX10_ok, nmX10⟩
  | 11, h => cases h; exact ⟨tyX11_ok, nmX11⟩
  | k + 12, h => simp [vwCl] at h
/-- a field's type, as the machine's own kinds of it say -/
def fkO (ci k : Nat) : Bool := match kr ci k, (KZL.getD ci []).getD k false with
  | true, _ => (tyc ci k).isReference
  | false, true => decide (tyc ci k = .boolean)
  | false, false => decide (tyc ci k = .int)
theorem fk_all : (List.range 12).all (fun ci => (List.range (vwCl.getD ci ("", fun _ => ("", "", "", false), 0)).2.2).all (fun k => fkO ci k)) = true := by decide +kernel
theorem vw_len : vwCl.length = 12 := rfl
theorem fk_at {ci k : Nat} {q : vw_C} (h : vwCl[ci]? = some q) (hk : k < q.2.2) : fkO ci k = true := by
  have h1 := List.all_eq_true.mp fk_all ci (List.mem_range.mpr (by have := (List.getElem?_eq_some_iff.mp h).1; rw [vw_len] at this; exact this))
  refine List.all_eq_true.mp h1 k (List.mem_range.mpr ?_)
  rw [List.getD_eq_getElem?_getD, h]
  exact hk
theorem fit_r {t : FieldType} (a : Nat) (h : t.isReference = true) : narrow t (.ref a) = .ref a ∧ fits t (.ref a) = true := by
  cases t <;> first | exact ⟨rfl, rfl⟩ | (simp [FieldType.isReference] at h)
theorem fit_i (x : Int32) : narrow .int (.int x) = .int x ∧ fits .int (.int x) = true := ⟨rfl, rfl⟩
theorem fit_z {x : Int32} (h : x = 0 ∨ x = 1) : narrow .boolean (.int x) = .int x ∧ fits .boolean (.int x) = true := by
  rcases h with rfl | rfl <;> exact ⟨by decide +kernel, by decide +kernel⟩
theorem fit_ik {ci k : Nat} {q : vw_C} {x : Int32} (h : vwCl[ci]? = some q) (hk : k < q.2.2) (hr : kr ci k = false) (hz : kz ci k x = true) : narrow (tyc ci k) (.int x) = .int x ∧ fits (tyc ci k) (.int x) = true := by
  have h1 := fk_at h hk
  unfold fkO at h1
  unfold kz at hz
  rw [hr] at h1
  cases hb : (KZL.getD ci []).getD k false with
  | true =>
    rw [hb] at h1 hz
    simp only [decide_eq_true_eq, Bool.or_eq_true] at h1 hz
    rw [h1]
    exact fit_z hz
  | false =>
    rw [hb] at h1
    simp only [decide_eq_true_eq] at h1
    rw [h1]
    exact fit_i x
theorem fit_rk {ci k : Nat} {q : vw_C} {a : Nat} (h : vwCl[ci]? = some q) (hk : k < q.2.2) (hr : kr ci k = true) : narrow (tyc ci k) (.ref a) = .ref a ∧ fits (tyc ci k) (.ref a) = true := by
  have h1 := fk_at h hk
  unfold fkO at h1
  rw [hr] at h1
  exact fit_r a h1
/-- an object's place has as many slots as its kind's table -/
theorem sh_all : SHL.all (fun q => !(decide (q.1 < 20)) || decide ((vwCl.getD q.1 ("", fun _ => ("", "", "", false), 0)).2.2 = q.2 ∧ q.1 < 12)) = true := by decide +kernel
theorem sh_n {p : Nat} (h : (SH p).1 < 20) : ∃ q, vwCl[(SH p).1]? = some q ∧ (SH p).2 = q.2.2 := by
  rcases Nat.lt_or_ge p 147 with hp | hp
  · have hm : SH p ∈ SHL := by
      unfold SH
      rw [List.getD_eq_getElem?_getD, List.getElem?_eq_getElem (by rw [SHlen]; exact hp)]
      exact List.getElem_mem _
    have h1 := List.all_eq_true.mp sh_all _ hm
    simp only [Bool.or_eq_true, Bool.not_eq_true', decide_eq_false_iff_not, decide_eq_true_eq] at h1
    rcases h1 with h1 | h1
    · exact absurd h h1
    · cases hv : vwCl[(SH p).1]? with
      | none => have := List.getElem?_eq_none_iff.mp hv; rw [vw_len] at this; omega
      | some q =>
        refine ⟨q, rfl, ?_⟩
        rw [← h1.1, List.getD_eq_getElem?_getD, hv]
        rfl
  · rw [SH_hi hp]
    exact ⟨_, rfl, rfl⟩
theorem cell_o {G : GX} {h : Hp} {p : Nat} (hk : (SH p).1 < 20) : cellO G h p = .inr ((SH p).1, fsO G h p (SH p).1 (SH p).2) := by
  unfold cellO
  rw [if_pos hk]
theorem cell_i {G : GX} {h : Hp} {p : Nat} (hk : ¬ (SH p).1 < 20) (hk2 : (SH p).1 < 23) : cellO G h p = .inl (G.2.2.1 (SH p).1, (SH p).2, .inl (h.2.2.1 p)) := by
  unfold cellO
  rw [if_neg hk, if_pos hk2]
theorem cell_q {G : GX} {h : Hp} {p : Nat} (hk2 : ¬ (SH p).1 < 23) : cellO G h p = .inl (G.2.2.1 (SH p).1, (SH p).2, .inr (.inr (.inr (.inr (fun k => (h.2.2.2 p k).map G.2.2.2.1))))) := by
  unfold cellO
  rw [if_neg (by omega), if_neg hk2]
theorem fs_at {G : GX} {h : Hp} {p ci n k : Nat} (hk : k < n) : (fsO G h p ci n)[k]? = some (if kr ci k = true then va_rf ((h.2.2.2 p k).map G.2.2.2.1) else .int (h.2.2.1 p k)) := by
  unfold fsO
  rw [List.getElem?_map, List.getElem?_range hk]
  rfl
theorem fs_len {G : GX} {h : Hp} {p ci n : Nat} : (fsO G h p ci n).length = n := by simp [fsO]
theorem fs_I {G : GX} {h : Hp} {p ci n k : Nat} {x : Int32} (hr : kr ci k = false) : (fsO G h p ci n).set k (.int x) = fsO G (hI h p k x) p ci n := by
  apply List.ext_getElem?
  intro i
  rw [List.getElem?_set, fs_len]
  rcases Nat.lt_or_ge i n with hi | hi
  · rw [fs_at hi, fs_at hi]
    by_cases e : k = i
    · subst e
      rw [if_pos rfl, if_pos hi]
      simp [hr, hI, upI]
    · rw [if_neg e]
      have : ¬ i = k := fun z => e z.symm
      simp [hI, upI, this]
  · have e1 : (fsO G h p ci n)[i]? = none := List.getElem?_eq_none (by rw [fs_len]; exact hi)
    have e2 : (fsO G (hI h p k x) p ci n)[i]? = none := List.getElem?_eq_none (by rw [fs_len]; exact hi)
    rw [e1, e2]
    by_cases e : k = i
    · rw [if_pos e, if_neg (by omega)]
    · rw [if_neg e]
theorem fs_R {G : GX} {h : Hp} {p ci n k : Nat} {x : Nat} (hr : kr ci k = true) : (fsO G h p ci n).set k (.ref (G.2.2.2.1 x)) = fsO G (hR h p k (some x)) p ci n := by
  apply List.ext_getElem?
  intro i
  rw [List.getElem?_set, fs_len]
  rcases Nat.lt_or_ge i n with hi | hi
  · rw [fs_at hi, fs_at hi]
    by_cases e : k = i
    · subst e
      rw [if_pos rfl, if_pos hi]
      simp [hr, hR, upR, va_rf]
    · rw [if_neg e]
      have : ¬ i = k := fun z => e z.symm
      simp [hR, upR, this]
  · have e1 : (fsO G h p ci n)[i]? = none := List.getElem?_eq_none (by rw [fs_len]; exact hi)
    have e2 : (fsO G (hR h p k (some x)) p ci n)[i]? = none := List.getElem?_eq_none (by rw [fs_len]; exact hi)
    rw [e1, e2]
    by_cases e : k = i
    · rw [if_pos e, if_neg (by omega)]
    · rw [if_neg e]
theorem cell_ne {G : GX} {h h' : Hp} {p q : Nat} (hq : q ≠ p) (e1 : ∀ z, z ≠ p → h'.2.2.1 z = h.2.2.1 z) (e2 : ∀ z, z ≠ p → h'.2.2.2 z = h.2.2.2 z) : cellO G h' q = cellO G h q := by
  unfold cellO fsO
  rw [e1 q hq, e2 q hq]
theorem upI_ne {f : Nat → Nat → Int32} {p k q : Nat} {x : Int32} (h : q ≠ p) : upI f p k x q = f q := by
  funext i
  simp [upI, h]
theorem upR_ne {f : Nat → Nat → Option Nat} {p k q : Nat} {x : Option Nat} (h : q ≠ p) : upR f p k x q = f q := by
  funext i
  simp [upR, h]
/-- one place changed: the heap holds the changed state -/
theorem hr_set {G : GX} {h h' : Hp} {p : Nat} {H1 : Heap} (hs : shO h) (ha : al h p) (e1 : h'.1 = h.1) (e2 : h'.2.1 = h.2.1) (e3 : ∀ z, z ≠ p → h'.2.2.1 z = h.2.2.1 z) (e4 : ∀ z, z ≠ p → h'.2.2.2 z = h.2.2.2 z) (h0 : zS G h) {ce : va_E} (hce : ce = cellO G h' p) (hP : va_P G.2.1 vwCl ((wsO G h).set (pix h p) (G.2.2.2.1 p, ce)) H1) : hrH G h' H1 := by
  subst hce
  rw [wsO_set hs ha e1 e2 (fun q hq => cell_ne hq e3 e4)] at hP
  have hpl : p < 100000 := by
    obtain ⟨s1, s2, s3⟩ := hs
    rcases ha with z | z <;> omega
  refine ⟨by unfold shO; rw [e1, e2]; exact hs, hP, fun q k hq hq100 => ?_, by rw [e3 100300 (by omega)]; exact h0.2.1, by rw [e3 100301 (by omega)]; exact h0.2.2⟩
  have hq1 : ¬ al h q := by unfold al at hq ⊢; rw [e1, e2] at hq; exact hq
  have hne : q ≠ p := fun z => hq1 (by rw [z]; exact ha)
  rw [e3 q hne, e4 q hne]
  exact h0.1 q k hq1 hq100
def StepH (G : GX) (d : Nat) (M : MR) (j : Nat) (lv : Lc) (st : List Value) (h : Hp) (j' : Nat) (lv' : Lc) (st' : List Value) (h1 : Hp) : Prop :=
  ∀ (p : Program) (e : Env) (R : Room) (s : State) (m : MethodId) (args : Array Value) (below : List Frame) (meth : Method) (c : Code) (H : Heap) (locs : List Loc) (cells slots : Nat) (ls : Array Slot) (Z : State → Prop),
    Cx G d M p R s m args meth c → lvr G M.2.2.2.2.1 lv ls → hrH G h H → va_S (GA G) s.heap H locs → s.heap.size + cells = G.2.2.2.1 0 + nc h → cells + nc h1 ≤ R.cells + nc h → slots + ns h1 ≤ R.slots + ns h →
    (∀ (H1 : Heap) (locs1 : List Loc) (cells1 slots1 : Nat) (ls' : Array Slot), lvr G M.2.2.2.2.1 lv' ls' → hrH G h1 H1 → va_S (GA G) s.heap H1 locs1 → cells1 + nc h = cells + nc h1 → slots1 + ns h = slots + ns h1 →
      W p G.1 e R s m args below meth c H1 locs1 cells1 slots1 Z (F0 m (pcj M j') ls' (st'.map (trv G)))) →
    W p G.1 e R s m args below meth c H locs cells slots Z (F0 m (pcj M j) ls (st.map (trv G)))
theorem Go.stepH {G : GX} {d : Nat} {M : MR} {j j' : Nat} {lv lv' : Lc} {st st' : List Value} {h h1 h' : Hp} {r : Option Value} (row : StepH G d M j lv st h j' lv' st' h1) (mo : nc h ≤ nc h1 ∧ ns h ≤ ns h1) (k : Go G d M j' lv' st' h1 r h') : Go G d M j lv st h r h' := by
  obtain ⟨⟨k1, k2⟩, k3⟩ := k
  refine ⟨⟨by omega, by omega⟩, fun p e R s m args below meth c H locs cells slots ls Z cx hl hh hS hc0 hc1 hc2 K => ?_⟩
  refine row p e R s m args below meth c H locs cells slots ls Z cx hl hh hS hc0 (by omega) (by omega) (fun H1 locs1 cells1 slots1 ls' hl' hh' hS' e1 e2 => ?_)
  exact k3 p e R s m args below meth c H1 locs1 cells1 slots1 ls' Z cx hl' hh' hS' (by omega) (by omega) (by omega) (fun H2 locs2 cells2 slots2 ls2 j2 a1 a2 a3 a4 a5 => K H2 locs2 cells2 slots2 ls2 j2 a1 a2 a3 (by omega) (by omega))
theorem wp.stepH {G : GX} {d : Nat} {M : MR} {j j' : Nat} {lv lv' : Lc} {st st' : List Value} {h h1 : Hp} {Q : Option Value → Hp → Prop} (row : StepH G d M j lv st h j' lv' st' h1) (mo : nc h ≤ nc h1 ∧ ns h ≤ ns h1) (k : wp G d M j' lv' st' h1 Q) : wp G d M j lv st h Q := by
  obtain ⟨r, h', g, q⟩ := k
  exact ⟨r, h', g.stepH row mo, q⟩
section HROWS
variable {G : GX} {d : Nat} {M : MR} {j : Nat} {lv : Lc} {r0 : List Value} {h : Hp}
theorem Cx.sk {p : Program} {R : Room} {s : State} {m : MethodId} {args : Array Value} {meth : Method} {c : Code} (cx : Cx G d M p R s m args meth c) : SK G s := cx.2.2.2.2.2.2.2.2.2
theorem Cx.ws {p : Program} {R : Room} {s : State} {m : MethodId} {args : Array Value} {meth : Method} {c : Code} (cx : Cx G d M p R s m args meth c) : ∀ w ∈ LG, w.before args s = true := cx.2.2.2.2.1
theorem Cx.own {p : Program} {R : Room} {s : State} {m : MethodId} {args : Array Value} {meth : Method} {c : Code} (cx : Cx G d M p R s m args meth c) : s.vm.findClass M.2.2.2.1.cls = some m.cls := cx.2.2.2.1
theorem g_geti {ix ci k p : Nat} {q : vw_C} (hd : decode M.2.2.1 (pcj M j) = .ok (.getfield ix, 3)) (hn : pcj M (j + 1) = pcj M j + 3) (hq : vwCl[ci]? = some q) (hk : k < q.2.2) (hw : Cond.fieldLink M.2.2.2.1.cls ix (q.2.1 k).1 (q.2.1 k).2.1 (q.2.1 k).2.2.1 ∈ LG) (hr : kr ci k = false) (ok : okB h p ci = true) : StepH G d M j lv (.ref p :: r0) h (j + 1) lv (.int (h.2.2.1 p k) :: r0) h := fun p1 e R s m args below meth c H locs cells slots ls Z cx hl hh hS hc0 hc1 hc2 K => by
  obtain ⟨ha, hc⟩ := okB_al hh.1 ok
  have hci : (SH p).1 < 20 := by have := (List.getElem?_eq_some_iff.mp hq).1; rw [vw_len] at this; omega
  obtain ⟨q2, hq2, hq3⟩ := sh_n hci
  rw [hc] at hq2
  cases hq.symm.trans hq2
  have he := wsO_at (G := G) hh.1 ha
  rw [cell_o hci, hc] at he
  refine va_get (C := q.1) (T := q.2.1) (N := q.2.2) (ref := (q.2.1 k).1) cx.1 cx.2.1 cx.ws (vw_0 ci q hq) cx.own cx.sk.1 hh.2.1 (pix h p) he hq k hk (cx.ws _ hw) (fun x hx => hx) (v := .int (h.2.2.1 p k)) ?_ hd ?_
  · rw [fs_at (by omega), hr]; rfl
  · have z := K H locs cells slots ls hl hh hS rfl rfl
    rw [hn] at z
    exact z
theorem g_getr {ix ci k p x : Nat} {q : vw_C} (hd : decode M.2.2.1 (pcj M j) = .ok (.getfield ix, 3)) (hn : pcj M (j + 1) = pcj M j + 3) (hq : vwCl[ci]? = some q) (hk : k < q.2.2) (hw : Cond.fieldLink M.2.2.2.1.cls ix (q.2.1 k).1 (q.2.1 k).2.1 (q.2.1 k).2.2.1 ∈ LG) (hr : kr ci k = true) (ok : okB h p ci = true) (hx : h.2.2.2 p k = some x) : StepH G d M j lv (.ref p :: r0) h (j + 1) lv (.ref x :: r0) h := fun p1 e R s m args below meth c H locs cells slots ls Z cx hl hh hS hc0 hc1 hc2 K => by
  obtain ⟨ha, hc⟩ := okB_al hh.1 ok
  have hci : (SH p).1 < 20 := by have := (List.getElem?_eq_some_iff.mp hq).1; rw [vw_len] at this; omega
  obtain ⟨q2, hq2, hq3⟩ := sh_n hci
  rw [hc] at hq2
  cases hq.symm.trans hq2
  have he := wsO_at (G := G) hh.1 ha
  rw [cell_o hci, hc] at he
  refine va_get (C := q.1) (T := q.2.1) (N := q.2.2) (ref := (q.2.1 k).1) cx.1 cx.2.1 cx.ws (vw_0 ci q hq) cx.own cx.sk.1 hh.2.1 (pix h p) he hq k hk (cx.ws _ hw) (fun x hx => hx) (v := .ref (G.2.2.2.1 x)) ?_ hd ?_
  · rw [fs_at (by omega), hr, hx]; rfl
  · have z := K H locs cells slots ls hl hh hS rfl rfl
    rw [hn] at z
    exact z
theorem g_puti {ix ci k p : Nat} {q : vw_C} {x : Int32} (hd : decode M.2.2.1 (pcj M j) = .ok (.putfield ix, 3)) (hn : pcj M (j + 1) = pcj M j + 3) (hq : vwCl[ci]? = some q) (hk : k < q.2.2) (hw : Cond.fieldLink M.2.2.2.1.cls ix (q.2.1 k).1 (q.2.1 k).2.1 (q.2.1 k).2.2.1 ∈ LG) (hr : kr ci k = false) (hz : kz ci k x = true) (hf : (q.2.1 k).2.2.2 = false ∨ ((q.2.1 k).1 = M.2.2.2.1.cls ∧ M.2.2.2.1.name = "<init>")) (ok : okB h p ci = true) : StepH G d M j lv (.int x :: .ref p :: r0) h (j + 1) lv r0 (hI h p k x) := fun p1 e R s m args below meth c H locs cells slots ls Z cx hl hh hS hc0 hc1 hc2 K => by
  obtain ⟨ha, hc⟩ := okB_al hh.1 ok
  have hci : (SH p).1 < 20 := by have := (List.getElem?_eq_some_iff.mp hq).1; rw [vw_len] at this; omega
  obtain ⟨q2, hq2, hq3⟩ := sh_n hci
  rw [hc] at hq2
  cases hq.symm.trans hq2
  have he := wsO_at (G := G) hh.1 ha
  rw [cell_o hci, hc] at he
  obtain ⟨f1, f2⟩ := fit_ik hq hk hr hz
  have hD := wsO_D (h := h) cx.sk.2.1 hh.1
  have kk : ∀ (H1 : Heap) (locs1 : List Loc), va_P G.2.1 vwCl ((wsO G h).set (pix h p) (G.2.2.2.1 p, .inr (ci, (fsO G h p ci (SH p).2).set k (.int x)))) H1 → va_D (GA G) ((wsO G h).set (pix h p) (G.2.2.2.1 p, .inr (ci, (fsO G h p ci (SH p).2).set k (.int x)))) → va_S (GA G) s.heap H1 locs1 → W p1 G.1 e R s m args below meth c H1 locs1 cells slots Z (F0 m (pcj M j + 3) ls (r0.map (trv G))) := fun H1 locs1 hP1 _ hS1 => by
    have z := K H1 locs1 cells slots ls hl (hr_set hh.1 ha rfl rfl (fun z hz => upI_ne hz) (fun z _ => rfl) hh.2.2 (by rw [cell_o hci, hc]; exact congrArg (fun l => Sum.inr (ci, l)) (fs_I hr)) hP1) hS1 rfl rfl
    rw [hn] at z
    exact z
  cases hf' : (q.2.1 k).2.2.2 with
  | false => exact va_put (C := q.1) (T := q.2.1) (N := q.2.2) (ref := (q.2.1 k).1) cx.1 cx.2.1 cx.ws (vw_0 ci q hq) (tyc ci) (vw_t ci q hq).1 (vw_t ci q hq).2 cx.own cx.sk.1 hh.2.1 hD hS (pix h p) he hq k hk (cx.ws _ hw) (fun x hx => hx) hf' ((vw_t ci q hq).1 k hk) f1 f2 (by rw [fs_len]; omega) hd kk
  | true =>
    rcases hf with hf | hf
    · rw [hf'] at hf; cases hf
    · exact va_putF (C := q.1) (T := q.2.1) (N := q.2.2) (ref := (q.2.1 k).1) cx.1 cx.2.1 cx.ws (vw_0 ci q hq) (tyc ci) (vw_t ci q hq).1 (vw_t ci q hq).2 cx.own cx.sk.1 hh.2.1 hD hS (pix h p) he hq k hk (cx.ws _ hw) (fun x hx => hx) hf' (cx.2.2.2.2.2.1 hf.2) hf.1 ((vw_t ci q hq).1 k hk) f1 f2 (by rw [fs_len]; omega) hd kk
theorem g_putr {ix ci k p x : Nat} {q : vw_C} (hd : decode M.2.2.1 (pcj M j) = .ok (.putfield ix, 3)) (hn : pcj M (j + 1) = pcj M j + 3) (hq : vwCl[ci]? = some q) (hk : k < q.2.2) (hw : Cond.fieldLink M.2.2.2.1.cls ix (q.2.1 k).1 (q.2.1 k).2.1 (q.2.1 k).2.2.1 ∈ LG) (hr : kr ci k = true) (hf : (q.2.1 k).2.2.2 = false ∨ ((q.2.1 k).1 = M.2.2.2.1.cls ∧ M.2.2.2.1.name = "<init>")) (ok : okB h p ci = true) : StepH G d M j lv (.ref x :: .ref p :: r0) h (j + 1) lv r0 (hR h p k (some x)) := fun p1 e R s m args below meth c H locs cells slots ls Z cx hl hh hS hc0 hc1 hc2 K => by
  obtain ⟨ha, hc⟩ := okB_al hh.1 ok
  have hci : (SH p).1 < 20 := by have := (List.getElem?_eq_some_iff.mp hq).1; rw [vw_len] at this; omega
  obtain ⟨q2, hq2, hq3⟩ := sh_n hci
  rw [hc] at hq2
  cases hq.symm.trans hq2
  have he := wsO_at (G := G) hh.1 ha
  rw [cell_o hci, hc] at he
  obtain ⟨f1, f2⟩ := fit_rk (a := G.2.2.2.1 x) hq hk hr
  have hD := wsO_D (h := h) cx.sk.2.1 hh.1
  have kk : ∀ (H1 : Heap) (locs1 : List Loc), va_P G.2.1 vwCl ((wsO G h).set (pix h p) (G.2.2.2.1 p, .inr (ci, (fsO G h p ci (SH p).2).set k (.ref (G.2.2.2.1 x))))) H1 → va_D (GA G) ((wsO G h).set (pix h p) (G.2.2.2.1 p, .inr (ci, (fsO G h p ci (SH p).2).set k (.ref (G.2.2.2.1 x))))) → va_S (GA G) s.heap H1 locs1 → W p1 G.1 e R s m args below meth c H1 locs1 cells slots Z (F0 m (pcj M j + 3) ls (r0.map (trv G))) := fun H1 locs1 hP1 _ hS1 => by
    have z := K H1 locs1 cells slots ls hl (hr_set hh.1 ha rfl rfl (fun z _ => rfl) (fun z hz => upR_ne hz) hh.2.2 (by rw [cell_o hci, hc]; exact congrArg (fun l => Sum.inr (ci, l)) (fs_R hr)) hP1) hS1 rfl rfl
    rw [hn] at z
    exact z
  cases hf' : (q.2.1 k).2.2.2 with
  | false => exact va_put (C := q.1) (T := q.2.1) (N := q.2.2) (ref := (q.2.1 k).1) cx.1 cx.2.1 cx.ws (vw_0 ci q hq) (tyc ci) (vw_t ci q hq).1 (vw_t ci q hq).2 cx.own cx.sk.1 hh.2.1 hD hS (pix h p) he hq k hk (cx.ws _ hw) (fun x hx => hx) hf' ((vw_t ci q hq).1 k hk) f1 f2 (by rw [fs_len]; omega) hd kk
  | true =>
    rcases hf with hf | hf
    · rw [hf'] at hf; cases hf
    · exact va_putF (C := q.1) (T := q.2.1) (N := q.2.2) (ref := (q.2.1 k).1) cx.1 cx.2.1 cx.ws (vw_0 ci q hq) (tyc ci) (vw_t ci q hq).1 (vw_t ci q hq).2 cx.own cx.sk.1 hh.2.1 hD hS (pix h p) he hq k hk (cx.ws _ hw) (fun x hx => hx) hf' (cx.2.2.2.2.2.1 hf.2) hf.1 ((vw_t ci q hq).1 k hk) f1 f2 (by rw [fs_len]; omega) hd kk
end HROWS
end
section
/-! ROWS of arrays, of makings -/
theorem upI_self {f : Nat → Nat → Int32} {p k : Nat} {x : Int32} : upI f p k x p = upd (f p) k x := by
  funext i
  simp [upI, upd]
theorem W.bound {p : Program} {l : Launch} {e : Env} {R : Room} {s : State} {m : MethodId} {args : Array Value} {below : List Frame} {meth : Method} {c : Code} {H : Heap} {locs : List Loc} {cells slots : Nat} {Z : State → Prop} {g : JFrame} (k : H.size ≤ s.heap.size + cells → W p l e R s m args below meth c H locs cells slots Z g) : W p l e R s m args below meth c H locs cells slots Z g := fun T hT X => k (by
  have h1 : (T.setVm s.vm).heap.size ≤ s.heap.size + cells := X.same.2.2.1
  have h2 : (T.setVm s.vm).heap = T.heap := rfl
  rw [h2, hT] at h1
  exact h1) T hT X
theorem ws_addr {G : GX} {h : Hp} (hg : adO G) (hs : shO h) {i : Nat} (hi : i < nc h) : ∃ e, (wsO G h)[i]? = some (G.2.2.2.1 0 + i, e) := by
  obtain ⟨s1, s2, s3⟩ := hs
  unfold nc at hi
  rcases Nat.lt_or_ge i h.1 with q | q
  · have := wsO_at (G := G) (h := h) (p := i) ⟨s1, s2, s3⟩ (Or.inl q)
    unfold pix at this
    rw [if_pos (by omega), (hg i).1 (by omega)] at this
    exact ⟨_, this⟩
  · have := wsO_at (G := G) (h := h) (p := 1000 + (i - h.1)) ⟨s1, s2, s3⟩ (Or.inr ⟨by omega, by omega⟩)
    unfold pix at this
    rw [if_neg (by omega), (hg _).2 (by omega) (by omega), show h.1 + (1000 + (i - h.1) - 1000) = i by omega, show G.2.2.2.1 0 + 147 + (1000 + (i - h.1) - 1000) = G.2.2.2.1 0 + i by omega] at this
    exact ⟨_, this⟩
/-- a cell that came new, apart from all that were there, within the bound: it is the next -/
theorem next_addr {G : GX} {h : Hp} {q : Nat} {ce : va_E} {H1 : Heap} (hg : adO G) (hs : shO h) (hD : va_D (GA G) (wsO G h ++ [(q, ce)])) (hP : va_P G.2.1 vwCl (wsO G h ++ [(q, ce)]) H1) (hb : H1.size ≤ G.2.2.2.1 0 + nc h + 1) : q = G.2.2.2.1 0 + nc h := by
  have hlen : (wsO G h).length = nc h := by unfold wsO; rw [List.length_map, pls_len]; rfl
  have hl : (wsO G h ++ [(q, ce)])[nc h]? = some (q, ce) := by rw [List.getElem?_append_right (by omega), hlen]; simp
  have h1 : q < H1.size := (hP _ _ hl).lt
  have h2 : G.2.2.2.1 0 ≤ q := hD.2 _ _ hl
  rcases Nat.lt_or_ge (q - G.2.2.2.1 0) (nc h) with z | z
  · obtain ⟨e2, he⟩ := ws_addr hg hs z
    have he' : (wsO G h ++ [(q, ce)])[q - G.2.2.2.1 0]? = some (G.2.2.2.1 0 + (q - G.2.2.2.1 0), e2) := by rw [List.getElem?_append_left (by omega)]; exact he
    have := hD.1 _ _ _ _ hl he' (by show q = G.2.2.2.1 0 + (q - G.2.2.2.1 0); omega)
    omega
  · omega
theorem cell_hh {G : GX} {h h1 : Hp} (e1 : h1.2.2.1 = h.2.2.1) (e2 : h1.2.2.2 = h.2.2.2) (p : Nat) : cellO G h1 p = cellO G h p := by
  unfold cellO fsO
  rw [e1, e2]
/-- the next place is made -/
theorem hr_new {G : GX} {h h1 : Hp} {np : Nat} {H1 : Heap} (hs1 : shO h1) (e1 : h1.2.2.1 = h.2.2.1) (e2 : h1.2.2.2 = h.2.2.2) (hp : pls h1 = pls h ++ [np]) (hal : ∀ p, al h p → al h1 p) (h0 : zS G h) (hP : va_P G.2.1 vwCl (wsO G h ++ [(G.2.2.2.1 np, cellO G h np)]) H1) : hrH G h1 H1 := by
  refine ⟨hs1, ?_, fun p k hq hp100 => ?_, by rw [e1]; exact h0.2.1, by rw [e1]; exact h0.2.2⟩
  · have : wsO G h1 = wsO G h ++ [(G.2.2.2.1 np, cellO G h np)] := by
      unfold wsO
      rw [hp, List.map_append, List.map_singleton, cell_hh e1 e2]
      congr 1
      exact List.map_congr_left (fun p _ => by rw [cell_hh e1 e2])
    rw [this]
    exact hP
  · rw [e1, e2]
    exact h0.1 p k (fun z => hq (hal p z)) hp100
section HROWS2
variable {G : GX} {d : Nat} {M : MR} {j : Nat} {lv : Lc} {r0 : List Value} {h : Hp}
theorem g_iald {p : Nat} {i : Int32} (hd : decode M.2.2.1 (pcj M j) = .ok (.iaload, 1)) (hn : pcj M (j + 1) = pcj M j + 1) (ok : okB h p 20 = true) (hi : ixB i (SH p).2 = true) : StepH G d M j lv (.int i :: .ref p :: r0) h (j + 1) lv (.int (h.2.2.1 p i.toNatClampNeg) :: r0) h := fun p1 e R s m args below meth c H locs cells slots ls Z cx hl hh hS hc0 hc1 hc2 K => by
  obtain ⟨ha, hc⟩ := okB_al hh.1 ok
  have he := wsO_at (G := G) hh.1 ha
  rw [cell_i (by omega) (by omega), hc] at he
  refine va_iald cx.1 cx.2.1 cx.sk.1 hh.2.1 (pix h p) 0 he rfl (ixB_in hi) hd ?_
  have z := K H locs cells slots ls hl hh hS rfl rfl
  rw [hn] at z
  exact z
theorem g_bald {p : Nat} {i : Int32} (hd : decode M.2.2.1 (pcj M j) = .ok (.baload, 1)) (hn : pcj M (j + 1) = pcj M j + 1) (ok : (okB h p 21 || okB h p 22) = true) (hi : ixB i (SH p).2 = true) : StepH G d M j lv (.int i :: .ref p :: r0) h (j + 1) lv (.int (h.2.2.1 p i.toNatClampNeg) :: r0) h := fun p1 e R s m args below meth c H locs cells slots ls Z cx hl hh hS hc0 hc1 hc2 K => by
  have z := K H locs cells slots ls hl hh hS rfl rfl
  rw [hn] at z
  rw [Bool.or_eq_true] at ok
  rcases ok with ok | ok
  · obtain ⟨ha, hc⟩ := okB_al hh.1 ok
    have he := wsO_at (G := G) hh.1 ha
    rw [cell_i (by omega) (by omega), hc] at he
    exact va_bald cx.1 cx.2.1 cx.sk.1 hh.2.1 (pix h p) 1 he rfl (ixB_in hi) hd z
  · obtain ⟨ha, hc⟩ := okB_al hh.1 ok
    have he := wsO_at (G := G) hh.1 ha
    rw [cell_i (by omega) (by omega), hc] at he
    exact va_zald cx.1 cx.2.1 cx.sk.1 hh.2.1 (pix h p) 2 he rfl (ixB_in hi) hd z
theorem g_aald {p x : Nat} {i : Int32} (hd : decode M.2.2.1 (pcj M j) = .ok (.aaload, 1)) (hn : pcj M (j + 1) = pcj M j + 1) (ok : (okB h p 23 || (okB h p 24 || okB h p 25)) = true) (hi : ixB i (SH p).2 = true) (hx : h.2.2.2 p i.toNatClampNeg = some x) : StepH G d M j lv (.int i :: .ref p :: r0) h (j + 1) lv (.ref x :: r0) h := fun p1 e R s m args below meth c H locs cells slots ls Z cx hl hh hS hc0 hc1 hc2 K => by
  have z := K H locs cells slots ls hl hh hS rfl rfl
  rw [hn] at z
  have hin := ixB_in hi
  have hlt : i.toNatClampNeg < (SH p).2 := Nat.not_le.mp fun q => hin (Or.inr q)
  have gen : ∀ (t0 : Nat) (ty : FieldType), ty.isReference = true → al h p → ¬ (SH p).1 < 23 → (tyO G)[t0]? = some (G.2.2.1 (SH p).1, ty) → W p1 G.1 e R s m args below meth c H locs cells slots Z (F0 m (pcj M j) ls ((.int i :: .ref p :: r0).map (trv G))) := fun t0 ty hty ha hk ht => by
    have he := wsO_at (G := G) hh.1 ha
    rw [cell_q hk] at he
    exact W.aald (v := .ref (G.2.2.2.1 x)) (ty := ty) cx.1 cx.2.1 (hh.2.1 (pix h p) _ he) ((cx.sk.1.2 t0 _ ht).1 (SH p).2 (fun j => va_rf ((h.2.2.2 p j).map G.2.2.2.1))) hty (fun q => by cases q) (by show ¬ (i < 0 ∨ (arrV _ _ _).slots.size ≤ _); rw [arrV_size]; exact hin) (by show (arrV _ _ _).slots[_]? = _; rw [arrV_read _ _ hlt]; show some (va_rf ((h.2.2.2 p i.toNatClampNeg).map G.2.2.2.1)) = _; rw [hx]; rfl) rfl rfl hd z
  simp only [Bool.or_eq_true] at ok
  rcases ok with ok | ok | ok
  · obtain ⟨ha, hc⟩ := okB_al hh.1 ok
    exact gen 3 (.object "WreckCourt$Sheet") rfl ha (by omega) (by rw [hc]; rfl)
  · obtain ⟨ha, hc⟩ := okB_al hh.1 ok
    exact gen 4 (.object "WreckCourt$Fact") rfl ha (by omega) (by rw [hc]; rfl)
  · obtain ⟨ha, hc⟩ := okB_al hh.1 ok
    exact gen 5 (.array .int) rfl ha (by omega) (by rw [hc]; rfl)
theorem g_iast {p : Nat} {i x : Int32} (hd : decode M.2.2.1 (pcj M j) = .ok (.iastore, 1)) (hn : pcj M (j + 1) = pcj M j + 1) (ok : okB h p 20 = true) (hi : ixB i (SH p).2 = true) : StepH G d M j lv (.int x :: .int i :: .ref p :: r0) h (j + 1) lv r0 (hI h p i.toNatClampNeg x) := fun p1 e R s m args below meth c H locs cells slots ls Z cx hl hh hS hc0 hc1 hc2 K => by
  obtain ⟨ha, hc⟩ := okB_al hh.1 ok
  have he := wsO_at (G := G) hh.1 ha
  rw [cell_i (by omega) (by omega), hc] at he
  refine va_iast cx.1 cx.2.1 cx.sk.1 hh.2.1 (wsO_D cx.sk.2.1 hh.1) hS (pix h p) 0 he rfl (ixB_in hi) hd (fun H1 locs1 hP1 _ hS1 => ?_)
  have z := K H1 locs1 cells slots ls hl (hr_set hh.1 ha rfl rfl (fun z hz => upI_ne hz) (fun z _ => rfl) hh.2.2 (by rw [cell_i (by omega) (by omega), hc]; exact congrArg (fun f => Sum.inl (G.2.2.1 20, (SH p).2, Sum.inl f)) upI_self.symm) hP1) hS1 rfl rfl
  rw [hn] at z
  exact z
theorem g_bast {p : Nat} {i x : Int32} (hd : decode M.2.2.1 (pcj M j) = .ok (.bastore, 1)) (hn : pcj M (j + 1) = pcj M j + 1) (ok : okB h p 21 = true) (hi : ixB i (SH p).2 = true) : StepH G d M j lv (.int x :: .int i :: .ref p :: r0) h (j + 1) lv r0 (hI h p i.toNatClampNeg x.toInt8.toInt32) := fun p1 e R s m args below meth c H locs cells slots ls Z cx hl hh hS hc0 hc1 hc2 K => by
  obtain ⟨ha, hc⟩ := okB_al hh.1 ok
  have he := wsO_at (G := G) hh.1 ha
  rw [cell_i (by omega) (by omega), hc] at he
  refine va_bast cx.1 cx.2.1 cx.sk.1 hh.2.1 (wsO_D cx.sk.2.1 hh.1) hS (pix h p) 1 he rfl (ixB_in hi) hd (fun H1 locs1 hP1 _ hS1 => ?_)
  rw [vp_nar_byte] at hP1
  have z := K H1 locs1 cells slots ls hl (hr_set hh.1 ha rfl rfl (fun z hz => upI_ne hz) (fun z _ => rfl) hh.2.2 (by rw [cell_i (by omega) (by omega), hc]; exact congrArg (fun f => Sum.inl (G.2.2.1 21, (SH p).2, Sum.inl f)) upI_self.symm) hP1) hS1 rfl rfl
  rw [hn] at z
  exact z
theorem nar_z (x : Int32) : vp_nar .boolean x = x &&& 1 := rfl
theorem g_zast {p : Nat} {i x : Int32} (hd : decode M.2.2.1 (pcj M j) = .ok (.bastore, 1)) (hn : pcj M (j + 1) = pcj M j + 1) (ok : okB h p 22 = true) (hi : ixB i (SH p).2 = true) : StepH G d M j lv (.int x :: .int i :: .ref p :: r0) h (j + 1) lv r0 (hI h p i.toNatClampNeg (x &&& 1)) := fun p1 e R s m args below meth c H locs cells slots ls Z cx hl hh hS hc0 hc1 hc2 K => by
  obtain ⟨ha, hc⟩ := okB_al hh.1 ok
  have he := wsO_at (G := G) hh.1 ha
  rw [cell_i (by omega) (by omega), hc] at he
  refine va_zast cx.1 cx.2.1 cx.sk.1 hh.2.1 (wsO_D cx.sk.2.1 hh.1) hS (pix h p) 2 he rfl (ixB_in hi) hd (fun H1 locs1 hP1 _ hS1 => ?_)
  rw [nar_z] at hP1
  have z := K H1 locs1 cells slots ls hl (hr_set hh.1 ha rfl rfl (fun z hz => upI_ne hz) (fun z _ => rfl) hh.2.2 (by rw [cell_i (by omega) (by omega), hc]; exact congrArg (fun f => Sum.inl (G.2.2.1 22, (SH p).2, Sum.inl f)) upI_self.symm) hP1) hS1 rfl rfl
  rw [hn] at z
  exact z
theorem g_aast {p x : Nat} {i : Int32} (hd : decode M.2.2.1 (pcj M j) = .ok (.aastore, 1)) (hn : pcj M (j + 1) = pcj M j + 1) (ok : (okB h p 23 && okB h x 6 || okB h p 24 && okB h x 3) = true) (hi : ixB i (SH p).2 = true) : StepH G d M j lv (.ref x :: .int i :: .ref p :: r0) h (j + 1) lv r0 (hR h p i.toNatClampNeg (some x)) := fun p1 e R s m args below meth c H locs cells slots ls Z cx hl hh hS hc0 hc1 hc2 K => by
  have gen : ∀ (t0 ci : Nat) (q : vw_C), vwCl[ci]? = some q → al h p → ¬ (SH p).1 < 23 → (tyO G)[t0]? = some (G.2.2.1 (SH p).1, .object q.1) → al h x → (SH x).1 = ci → ci < 20 → W p1 G.1 e R s m args below meth c H locs cells slots Z (F0 m (pcj M j) ls ((.ref x :: .int i :: .ref p :: r0).map (trv G))) := fun t0 ci q hq ha hk ht hx hci hlt => by
    have he := wsO_at (G := G) hh.1 ha
    rw [cell_q hk] at he
    have hv := wsO_at (G := G) hh.1 hx
    rw [cell_o (by omega), hci] at hv
    refine va_astq cx.1 cx.2.1 cx.sk.1 hh.2.1 (wsO_D cx.sk.2.1 hh.1) hS (pix h p) t0 (pix h x) ci he ht hv hq (ixB_in hi) hd (fun H1 locs1 hP1 _ hS1 => ?_)
    have z := K H1 locs1 cells slots ls hl (hr_set hh.1 ha rfl rfl (fun z _ => rfl) (fun z hz => upR_ne hz) hh.2.2 (by
      rw [cell_q hk]
      refine congrArg (fun f => Sum.inl (G.2.2.1 (SH p).1, (SH p).2, Sum.inr (Sum.inr (Sum.inr (Sum.inr f))))) (funext fun k => ?_)
      by_cases hk2 : k = i.toNatClampNeg
      · simp [va_up, hR, upR, hk2]
      · simp [va_up, hR, upR, hk2]) hP1) hS1 rfl rfl
    rw [hn] at z
    exact z
  simp only [Bool.or_eq_true, Bool.and_eq_true] at ok
  rcases ok with ⟨o1, o2⟩ | ⟨o1, o2⟩
  · obtain ⟨ha, hc⟩ := okB_al hh.1 o1
    obtain ⟨hb, hc2⟩ := okB_al hh.1 o2
    exact gen 3 6 (RX6, TX6, 4) rfl ha (by omega) (by rw [hc]; rfl) hb hc2 (by omega)
  · obtain ⟨ha, hc⟩ := okB_al hh.1 o1
    obtain ⟨hb, hc2⟩ := okB_al hh.1 o2
    exact gen 4 3 (RX3, TX3, 9) rfl ha (by omega) (by rw [hc]; rfl) hb hc2 (by omega)
theorem g_alen {p : Nat} (hd : decode M.2.2.1 (pcj M j) = .ok (.arraylength, 1)) (hn : pcj M (j + 1) = pcj M j + 1) (ok : okB h p 20 = true) : StepH G d M j lv (.ref p :: r0) h (j + 1) lv (.int (Int32.ofNat (SH p).2) :: r0) h := fun p1 e R s m args below meth c H locs cells slots ls Z cx hl hh hS hc0 hc1 hc2 K => by
  obtain ⟨ha, hc⟩ := okB_al hh.1 ok
  have he := wsO_at (G := G) hh.1 ha
  rw [cell_i (by omega) (by omega), hc] at he
  refine va_alen cx.1 cx.2.1 cx.sk.1 hh.2.1 (pix h p) 0 he rfl rfl hd ?_
  have z := K H locs cells slots ls hl hh hS rfl rfl
  rw [hn] at z
  exact z
theorem g_cald {p : Nat} {i : Int32} (hd : decode M.2.2.1 (pcj M j) = .ok (.iaload, 1)) (hn : pcj M (j + 1) = pcj M j + 1) (hp : p = 100100 ∨ p = 100101) (hi : ixB i 16 = true) : StepH G d M j lv (.int i :: .ref p :: r0) h (j + 1) lv (.int (kA p i.toNatClampNeg) :: r0) h := fun p1 e R s m args below meth c H locs cells slots ls Z cx hl hh hS hc0 hc1 hc2 K => by
  have z := K H locs cells slots ls hl hh hS rfl rfl
  rw [hn] at z
  rcases hp with rfl | rfl
  · exact va_ti cx.1 cx.2.1 cx.sk.2.2.2.2.1.2 hS (ixB_in hi) rfl hd z
  · exact va_ti cx.1 cx.2.1 cx.sk.2.2.2.2.2.1.2 hS (ixB_in hi) rfl hd z
theorem g_sld {i : Int32} (hd : decode M.2.2.1 (pcj M j) = .ok (.iaload, 1)) (hn : pcj M (j + 1) = pcj M j + 1) (hi : ixB i (h.2.2.1 100301 0).toNatClampNeg = true) : StepH G d M j lv (.int i :: .ref 100300 :: r0) h (j + 1) lv (.int (h.2.2.1 100300 i.toNatClampNeg) :: r0) h := fun p1 e R s m args below meth c H locs cells slots ls Z cx hl hh hS hc0 hc1 hc2 K => by
  have z := K H locs cells slots ls hl hh hS rfl rfl
  rw [hn, hh.2.2.2.1 i.toNatClampNeg] at z
  obtain ⟨x1, x2, x3, x4⟩ := cx.sk.2.2.2.2.2.2.2.2.2.2
  rw [hh.2.2.2.2] at hi
  have hL : (Int32.ofNat G.2.2.2.2.1).toNatClampNeg = G.2.2.2.2.1 := nI_clamp x4
  rw [hL] at hi
  exact va_sld cx.1 cx.2.1 x1 x2 x3 hS (ixB_in hi) hd z
theorem g_slen (hd : decode M.2.2.1 (pcj M j) = .ok (.arraylength, 1)) (hn : pcj M (j + 1) = pcj M j + 1) : StepH G d M j lv (.ref 100300 :: r0) h (j + 1) lv (.int (h.2.2.1 100301 0) :: r0) h := fun p1 e R s m args below meth c H locs cells slots ls Z cx hl hh hS hc0 hc1 hc2 K => by
  have z := K H locs cells slots ls hl hh hS rfl rfl
  rw [hn, hh.2.2.2.2] at z
  obtain ⟨x1, x2, x3, x4⟩ := cx.sk.2.2.2.2.2.2.2.2.2.2
  exact va_slen cx.1 cx.2.1 x1 x2 x3 hS hd z
theorem g_gets {p ix : Nat} (hd : decode M.2.2.1 (pcj M j) = .ok (.getstatic ix, 3)) (hn : pcj M (j + 1) = pcj M j + 3) (ho : M.2.2.2.1.cls = "WreckCourt$Sea") (hp : (p = 100100 ∧ ix = 97) ∨ (p = 100101 ∧ ix = 100)) : StepH G d M j lv r0 h (j + 1) lv (.ref p :: r0) h := fun p1 e R s m args below meth c H locs cells slots ls Z cx hl hh hS hc0 hc1 hc2 K => by
  have z := K H locs cells slots ls hl hh hS rfl rfl
  rw [hn] at z
  have hown := cx.own
  rw [ho] at hown
  rcases hp with ⟨rfl, rfl⟩ | ⟨rfl, rfl⟩
  · exact va_getsN cx.1 cx.2.1 cx.sk.2.2.2.2.1.1 hS hown (va_Nw.use rfl cx.sk.2.2.2.2.2.2.2.1.1) (fun x hx => hx) hd z
  · exact va_getsN cx.1 cx.2.1 cx.sk.2.2.2.2.2.1.1 hS hown (va_Nw.use rfl cx.sk.2.2.2.2.2.2.2.1.2) (fun x hx => hx) hd z
theorem g_obj {p ix : Nat} (hd : decode M.2.2.1 (pcj M j) = .ok (.invokespecial ix, 3)) (hn : pcj M (j + 1) = pcj M j + 3) (hw : Cond.methodLink M.2.2.2.1.cls ix objectInit ∈ LG) (hdz : 1 ≤ d) (hr : (r0.map Value.category).sum ≤ 8) : StepH G d M j lv (.ref p :: r0) h (j + 1) lv r0 h := fun p1 e R s m args below meth c H locs cells slots ls Z cx hl hh hS hc0 hc1 hc2 K => by
  have z := K H locs cells slots ls hl hh hS rfl rfl
  rw [hn] at z
  have hr' : ((r0.map (trv G)).map fun v => v.category).sum ≤ 8 := by
    rw [List.map_map]
    have : ((fun v => v.category) ∘ trv G) = Value.category := funext fun v => trv_cat G v
    rw [this]
    exact hr
  obtain ⟨q1, q2⟩ := cx.2.2.2.2.2.2.2.2.1
  exact W.objInit cx.1 cx.2.1 cx.own (cx.ws _ hw) (cx.ws _ (tb_oi _ List.mem_cons_self)) (cx.ws _ (tb_oi _ (List.mem_cons_of_mem _ List.mem_cons_self))) rfl (by show ls.size = c.maxLocals; rw [hl.1, cx.2.2.1]) rfl hd (by omega) (by have := lv_room (m := m) (pc := pcj M j) (ls := ls) (rest := (Value.ref p :: r0).map (trv G)) hr'; omega) z
end HROWS2
end
section
/-! ROWS of makings, of System.arraycopy -/
theorem vw_in : ∀ (ci : Nat) (q : vw_C), vwCl[ci]? = some q → Cond.initialized q.1 ∈ LG ∧ Cond.instantiable q.1 q.2.2 ∈ LG := by
  intro ci q h
  refine ⟨?_, tb_it _ (List.mem_map.mpr ⟨q, List.mem_of_getElem? h, rfl⟩)⟩
  match ci, h with
  | 0, h => cases h; exact tb_in _ (List.mem_map.mpr ⟨0, by decide +kernel, rfl⟩)
  | 1, h => cases h; exact tb_in _ (List.mem_map.mpr ⟨1, by decide +kernel, rfl⟩)
  | 2, h => cases h; exact tb_in _ (List.mem_map.mpr ⟨2, by decide +kernel, rfl⟩)
  | 3, h => cases h; exact tb_in _ (List.mem_map.mpr ⟨3, by decide +kernel, rfl⟩)
  | 4, h => cases h; exact tb_in _ (List.mem_map.mpr ⟨4, by decide +kernel, rfl⟩)
  | 5, h => cases h; exact tb_in _ (List.mem_map.mpr ⟨5, by decide +kernel, rfl⟩)
  | 6, h => cases h; exact tb_in _ (List.mem_map.mpr ⟨6, by decide +kernel, rfl⟩)
  | 7, h => cases h; exact tb_in _ (List.mem_map.mpr ⟨7, by decide +kernel, rfl⟩)
  | 8, h => cases h; exact tb_in _ (List.mem_map.mpr ⟨8, by decide +kernel, rfl⟩)
  | 9, h => cases h; exact tb_in _ (List.mem_map.mpr ⟨9, by decide +kernel, rfl⟩)
  | 10, h => cases h; exact tb_in _ (List.mem_map.mpr ⟨10, by decide +kernel, rfl⟩)
  | 11, h => cases h; exact tb_in _ (List.mem_map.mpr ⟨11, by decide +kernel, rfl⟩)
  | k + 12, h => simp [vwCl] at h
theorem def_k {G : GX} {h : Hp} {ci np k : Nat} {q : vw_C} (hq : vwCl[ci]? = some q) (hk : k < q.2.2) (h0 : h.2.2.1 np k = 0 ∧ h.2.2.2 np k = none) : defaultValue (tyc ci k) = vp_V (fsO G h np ci q.2.2) k := by
  unfold vp_V
  rw [List.getD_eq_getElem?_getD, fs_at hk, h0.1, h0.2]
  have h1 := fk_at hq hk
  unfold fkO at h1
  cases hr : kr ci k with
  | true =>
    rw [hr] at h1
    simp only at h1
    show defaultValue (tyc ci k) = .null
    cases ht : tyc ci k <;> rw [ht] at h1 <;> first | rfl | (simp [FieldType.isReference] at h1)
  | false =>
    rw [hr] at h1
    show defaultValue (tyc ci k) = .int 0
    cases hz : (KZL.getD ci []).getD k false with
    | true =>
      rw [hz] at h1
      simp only [decide_eq_true_eq] at h1
      rw [h1]
      rfl
    | false =>
      rw [hz] at h1
      simp only [decide_eq_true_eq] at h1
      rw [h1]
      rfl
theorem pls_b {h : Hp} (h0 : h.2.1 = 0) : pls (h.1 + 1, h.2.1, h.2.2.1, h.2.2.2) = pls h ++ [h.1] := by
  unfold pls
  simp [h0, List.range_succ]
theorem pls_f {h : Hp} : pls (h.1, h.2.1 + 1, h.2.2.1, h.2.2.2) = pls h ++ [1000 + h.2.1] := by
  unfold pls
  simp [List.range_succ]
section MROWS
variable {G : GX} {d : Nat} {M : MR} {j : Nat} {lv : Lc} {r0 : List Value} {h : Hp}
/-- the common part: a new cell at the next place -/
theorem mk_next {p1 : Program} {e : Env} {R : Room} {s : State} {m : MethodId} {args : Array Value} {below : List Frame} {meth : Method} {c : Code} {H1 : Heap} {locs : List Loc} {cells slots N : Nat} {ls : Array Slot} {Z : State → Prop} {h1 : Hp} {np q pc1 : Nat} {ce : va_E} {st1 : List Value}
    (hg : adO G) (hs : shO h) (hs1 : shO h1) (e1 : h1.2.2.1 = h.2.2.1) (e2 : h1.2.2.2 = h.2.2.2) (hp : pls h1 = pls h ++ [np]) (hal : ∀ p, al h p → al h1 p) (h0 : zS G h) (hn : nc h1 = nc h + 1) (hns : ns h1 = ns h + N) (had : G.2.2.2.1 np = G.2.2.2.1 0 + nc h) (hce : ce = cellO G h np)
    (hc0 : s.heap.size + cells = G.2.2.2.1 0 + nc h) (hP : va_P G.2.1 vwCl (wsO G h ++ [(q, ce)]) H1) (hD : va_D (GA G) (wsO G h ++ [(q, ce)])) (hS : va_S (GA G) s.heap H1 locs)
    (K : ∀ (H1 : Heap) (locs1 : List Loc) (cells1 slots1 : Nat), hrH G h1 H1 → va_S (GA G) s.heap H1 locs1 → cells1 + nc h = cells + nc h1 → slots1 + ns h = slots + ns h1 → W p1 G.1 e R s m args below meth c H1 locs1 cells1 slots1 Z (F0 m pc1 ls (.ref (G.2.2.2.1 np) :: st1))) :
    W p1 G.1 e R s m args below meth c H1 locs (cells + 1) (slots + N) Z (F0 m pc1 ls (.ref q :: st1)) := by
  refine W.bound (fun hb => ?_)
  have hq : q = G.2.2.2.1 np := by rw [had]; exact next_addr hg hs hD hP (by omega)
  subst hq
  subst hce
  exact K H1 locs (cells + 1) (slots + N) (hr_new hs1 e1 e2 hp hal h0 hP) hS (by omega) (by omega)
theorem g_newb {ix ci : Nat} {q : vw_C} (hd : decode M.2.2.1 (pcj M j) = .ok (.new ix, 3)) (hn : pcj M (j + 1) = pcj M j + 3) (hq : vwCl[ci]? = some q) (hw : Cond.classLink M.2.2.2.1.cls ix q.1 ∈ LG) (hf : h.2.1 = 0) (hb : h.1 < 147) (hsh : SH h.1 = (ci, q.2.2)) : StepH G d M j lv r0 h (j + 1) lv (.ref h.1 :: r0) (h.1 + 1, h.2.1, h.2.2.1, h.2.2.2) := fun p1 e R s m args below meth c H locs cells slots ls Z cx hl hh hS hc0 hc1 hc2 K => by
  have hci : (SH h.1).1 < 20 := by rw [hsh]; have := (List.getElem?_eq_some_iff.mp hq).1; rw [vw_len] at this; show ci < 20; omega
  have hnal : ¬ al h h.1 := by unfold al; omega
  have en : nc (h.1 + 1, h.2.1, h.2.2.1, h.2.2.2) = nc h + 1 := by unfold nc; show h.1 + 1 + h.2.1 = _; omega
  have es : ns (h.1 + 1, h.2.1, h.2.2.1, h.2.2.2) = ns h + q.2.2 := by unfold ns; show slN h.1 + (SH h.1).2 + 9 * h.2.1 = _; rw [hsh]; show slN h.1 + q.2.2 + 9 * h.2.1 = _; omega
  rw [en] at hc1
  rw [es] at hc2
  refine va_new (C := q.1) (T := q.2.1) (N := q.2.2) (fs := fsO G h h.1 ci q.2.2) cx.1 cx.2.1 cx.ws (vw_0 ci q hq) (tyc ci) (vw_t ci q hq).1 cx.own (cx.ws _ hw) (cx.ws _ (vw_in ci q hq).2) (cx.ws _ (vw_in ci q hq).1) cx.sk.1 hh.2.1 (wsO_D cx.sk.2.1 hh.1) hS (fun z hz => Nat.le_trans cx.sk.2.2.1 hz) hq (fun k hk => def_k hq hk (hh.2.2.1 h.1 k hnal (by omega))) (by omega) (by omega) hd (fun q1 H1 hP1 hD1 hS1 => ?_)
  refine mk_next (np := h.1) (h1 := (h.1 + 1, h.2.1, h.2.2.1, h.2.2.2)) cx.sk.2.1 hh.1 ⟨by show h.1 + 1 ≤ 147; omega, Or.inl hf, hh.1.2.2⟩ rfl rfl (pls_b hf) (fun p hp => by rcases hp with z | z; exact Or.inl (by show p < h.1 + 1; omega); exact Or.inr z) hh.2.2 en es (by rw [(cx.sk.2.1 h.1).1 (by omega)]; unfold nc; omega) (by rw [cell_o hci, hsh]) hc0 hP1 hD1 hS1 (fun H2 locs2 cells2 slots2 a1 a2 a3 a4 => ?_)
  have z := K H2 locs2 cells2 slots2 ls hl a1 a2 a3 a4
  rw [hn] at z
  exact z
theorem g_newf {ix : Nat} (hd : decode M.2.2.1 (pcj M j) = .ok (.new ix, 3)) (hn : pcj M (j + 1) = pcj M j + 3) (hw : Cond.classLink M.2.2.2.1.cls ix RX3 ∈ LG) (hb : h.1 = 147) (hlim : h.2.1 < 2000) : StepH G d M j lv r0 h (j + 1) lv (.ref (1000 + h.2.1) :: r0) (h.1, h.2.1 + 1, h.2.2.1, h.2.2.2) := fun p1 e R s m args below meth c H locs cells slots ls Z cx hl hh hS hc0 hc1 hc2 K => by
  have hq : vwCl[3]? = some (RX3, TX3, 9) := rfl
  have hsh : SH (1000 + h.2.1) = (3, 9) := SH_hi (by omega)
  have hci : (SH (1000 + h.2.1)).1 < 20 := by rw [hsh]; show 3 < 20; omega
  have hnal : ¬ al h (1000 + h.2.1) := by unfold al; omega
  have en : nc (h.1, h.2.1 + 1, h.2.2.1, h.2.2.2) = nc h + 1 := by unfold nc; show h.1 + (h.2.1 + 1) = _; omega
  have es : ns (h.1, h.2.1 + 1, h.2.2.1, h.2.2.2) = ns h + 9 := by unfold ns; show slN h.1 + 9 * (h.2.1 + 1) = _; omega
  rw [en] at hc1
  rw [es] at hc2
  refine va_new (C := RX3) (T := TX3) (N := 9) (fs := fsO G h (1000 + h.2.1) 3 9) cx.1 cx.2.1 cx.ws (vw_0 3 _ hq) (tyc 3) (vw_t 3 _ hq).1 cx.own (cx.ws _ hw) (cx.ws _ (vw_in 3 _ hq).2) (cx.ws _ (vw_in 3 _ hq).1) cx.sk.1 hh.2.1 (wsO_D cx.sk.2.1 hh.1) hS (fun z hz => Nat.le_trans cx.sk.2.2.1 hz) hq (fun k hk => def_k (q := (RX3, TX3, 9)) hq hk (hh.2.2.1 (1000 + h.2.1) k hnal (by omega))) (by omega) (by omega) hd (fun q1 H1 hP1 hD1 hS1 => ?_)
  refine mk_next (np := 1000 + h.2.1) (h1 := (h.1, h.2.1 + 1, h.2.2.1, h.2.2.2)) cx.sk.2.1 hh.1 ⟨hh.1.1, Or.inr hb, by show h.2.1 + 1 ≤ 2000; omega⟩ rfl rfl pls_f (fun p hp => by rcases hp with z | z; exact Or.inl z; exact Or.inr ⟨z.1, by show p < 1000 + (h.2.1 + 1); omega⟩) hh.2.2 en es (by rw [(cx.sk.2.1 (1000 + h.2.1)).2 (by omega) (by omega)]; unfold nc; omega) (by rw [cell_o hci, hsh]) hc0 hP1 hD1 hS1 (fun H2 locs2 cells2 slots2 a1 a2 a3 a4 => ?_)
  have z := K H2 locs2 cells2 slots2 ls hl a1 a2 a3 a4
  rw [hn] at z
  exact z
theorem z_fun {f : Nat → Int32} (h : ∀ k, f k = 0) : f = fun _ => 0 := funext h
theorem g_newa {ty : ArrayType} {kd t0 : Nat} {x : Int32} {t : FieldType} (hd : decode M.2.2.1 (pcj M j) = .ok (.newarray ty, 2)) (hn : pcj M (j + 1) = pcj M j + 2) (hk : (kd = 20 ∧ t0 = 0 ∧ t = .int ∧ ty = .int) ∨ (kd = 21 ∧ t0 = 1 ∧ t = .byte ∧ ty = .byte) ∨ (kd = 22 ∧ t0 = 2 ∧ t = .boolean ∧ ty = .boolean)) (hx : 0 ≤ x) (hf : h.2.1 = 0) (hb : h.1 < 147) (hsh : SH h.1 = (kd, x.toNatClampNeg)) (hsm : x.toNatClampNeg ≤ 100000) : StepH G d M j lv (.int x :: r0) h (j + 1) lv (.ref h.1 :: r0) (h.1 + 1, h.2.1, h.2.2.1, h.2.2.2) := fun p1 e R s m args below meth c H locs cells slots ls Z cx hl hh hS hc0 hc1 hc2 K => by
  have hnal : ¬ al h h.1 := by unfold al; omega
  have en : nc (h.1 + 1, h.2.1, h.2.2.1, h.2.2.2) = nc h + 1 := by unfold nc; show h.1 + 1 + h.2.1 = _; omega
  have es : ns (h.1 + 1, h.2.1, h.2.2.1, h.2.2.2) = ns h + x.toNatClampNeg := by unfold ns; show slN h.1 + (SH h.1).2 + 9 * h.2.1 = _; rw [hsh]; show slN h.1 + x.toNatClampNeg + 9 * h.2.1 = _; omega
  rw [en] at hc1
  rw [es] at hc2
  have hI0 : h.2.2.1 h.1 = fun _ => 0 := z_fun (fun k => (hh.2.2.1 h.1 k hnal (by omega)).1)
  have hkd : ¬ (SH h.1).1 < 20 ∧ (SH h.1).1 < 23 := by rw [hsh]; show ¬ kd < 20 ∧ kd < 23; omega
  have hty : newarray.typeOf ty = t := by rcases hk with ⟨-, -, rfl, rfl⟩ | ⟨-, -, rfl, rfl⟩ | ⟨-, -, rfl, rfl⟩ <;> rfl
  have hac : Cond.arrayClass (newarray.typeOf ty) ∈ LG := by
    rcases hk with ⟨-, -, -, rfl⟩ | ⟨-, -, -, rfl⟩ | ⟨-, -, -, rfl⟩
    · exact tb_ac _ List.mem_cons_self
    · exact tb_ac _ (List.mem_cons_of_mem _ List.mem_cons_self)
    · exact tb_ac _ (List.mem_cons_of_mem _ (List.mem_cons_of_mem _ List.mem_cons_self))
  have hdv : defaultValue t = .int 0 := by rcases hk with ⟨-, -, rfl, -⟩ | ⟨-, -, rfl, -⟩ | ⟨-, -, rfl, -⟩ <;> rfl
  have hbt : x.toNatClampNeg * componentBytes t ≤ 536870912 := by
    have : componentBytes t ≤ 8 := by rcases hk with ⟨-, -, rfl, -⟩ | ⟨-, -, rfl, -⟩ | ⟨-, -, rfl, -⟩ <;> decide
    have := Nat.mul_le_mul hsm this
    omega
  have hT : (tyO G)[t0]? = some (G.2.2.1 kd, t) := by rcases hk with ⟨rfl, rfl, rfl, -⟩ | ⟨rfl, rfl, rfl, -⟩ | ⟨rfl, rfl, rfl, -⟩ <;> rfl
  refine va_newa cx.1 cx.2.1 (cx.ws _ hac) hty cx.sk.1 hh.2.1 (wsO_D cx.sk.2.1 hh.1) hS (fun z hz => Nat.le_trans cx.sk.2.2.1 hz) (n := x) (N' := x.toNatClampNeg) (a0 := (x.toNatClampNeg, .inl (h.2.2.1 h.1))) (fun cA => by rw [hI0, hdv]; rfl) (Int32.not_lt.mpr hx) rfl hbt (by omega) (by omega) hd (fun q1 cA H1 hK1 hP1 hD1 hS1 => ?_)
  have hcA : cA = G.2.2.1 kd := by
    have r1 := (hK1.2 6 (cA, t) rfl).2
    have r2 := (cx.sk.1.2 t0 _ hT).2
    have f1 : s.vm.findClass ("[" ++ t.toString) = some cA := by rcases hk with ⟨-, -, rfl, -⟩ | ⟨-, -, rfl, -⟩ | ⟨-, -, rfl, -⟩ <;> exact r1
    have f2 : s.vm.findClass ("[" ++ t.toString) = some (G.2.2.1 kd) := by rcases hk with ⟨-, -, rfl, -⟩ | ⟨-, -, rfl, -⟩ | ⟨-, -, rfl, -⟩ <;> exact r2
    exact Option.some.inj (f1.symm.trans f2)
  subst hcA
  refine mk_next (np := h.1) (h1 := (h.1 + 1, h.2.1, h.2.2.1, h.2.2.2)) cx.sk.2.1 hh.1 ⟨by show h.1 + 1 ≤ 147; omega, Or.inl hf, hh.1.2.2⟩ rfl rfl (pls_b hf) (fun p hp => by rcases hp with z | z; exact Or.inl (by show p < h.1 + 1; omega); exact Or.inr z) hh.2.2 en es (by rw [(cx.sk.2.1 h.1).1 (by omega)]; unfold nc; omega) (by rw [cell_i hkd.1 hkd.2, hsh]) hc0 hP1 hD1 hS1 (fun H2 locs2 cells2 slots2 a1 a2 a3 a4 => ?_)
  have z := K H2 locs2 cells2 slots2 ls hl a1 a2 a3 a4
  rw [hn] at z
  exact z
theorem g_newq {ix kd t0 : Nat} {x : Int32} {C : String} (hd : decode M.2.2.1 (pcj M j) = .ok (.anewarray ix, 3)) (hn : pcj M (j + 1) = pcj M j + 3) (hk : (kd = 23 ∧ t0 = 3 ∧ C = "WreckCourt$Sheet") ∨ (kd = 24 ∧ t0 = 4 ∧ C = "WreckCourt$Fact")) (hw : Cond.classLink M.2.2.2.1.cls ix C ∈ LG) (hx : 0 ≤ x) (hf : h.2.1 = 0) (hb : h.1 < 147) (hsh : SH h.1 = (kd, x.toNatClampNeg)) (hsm : x.toNatClampNeg ≤ 100000) : StepH G d M j lv (.int x :: r0) h (j + 1) lv (.ref h.1 :: r0) (h.1 + 1, h.2.1, h.2.2.1, h.2.2.2) := fun p1 e R s m args below meth c H locs cells slots ls Z cx hl hh hS hc0 hc1 hc2 K => by
  have hnal : ¬ al h h.1 := by unfold al; omega
  have en : nc (h.1 + 1, h.2.1, h.2.2.1, h.2.2.2) = nc h + 1 := by unfold nc; show h.1 + 1 + h.2.1 = _; omega
  have es : ns (h.1 + 1, h.2.1, h.2.2.1, h.2.2.2) = ns h + x.toNatClampNeg := by unfold ns; show slN h.1 + (SH h.1).2 + 9 * h.2.1 = _; rw [hsh]; show slN h.1 + x.toNatClampNeg + 9 * h.2.1 = _; omega
  rw [en] at hc1
  rw [es] at hc2
  have hR0 : (fun k => (h.2.2.2 h.1 k).map G.2.2.2.1) = fun _ => none := funext (fun k => by rw [(hh.2.2.1 h.1 k hnal (by omega)).2]; rfl)
  have hkd : ¬ (SH h.1).1 < 23 := by rw [hsh]; show ¬ kd < 23; omega
  have hao : va_AO C s := by rcases hk with ⟨-, -, rfl⟩ | ⟨-, -, rfl⟩; exact cx.sk.2.2.2.1.1; exact cx.sk.2.2.2.1.2.1
  have hT : (tyO G)[t0]? = some (G.2.2.1 kd, .object C) := by rcases hk with ⟨rfl, rfl, rfl⟩ | ⟨rfl, rfl, rfl⟩ <;> rfl
  refine va_newq cx.1 cx.2.1 cx.own (cx.ws _ hw) hao cx.sk.1 hh.2.1 (wsO_D cx.sk.2.1 hh.1) hS (fun z hz => Nat.le_trans cx.sk.2.2.1 hz) (n := x) (N' := x.toNatClampNeg) (Int32.not_lt.mpr hx) rfl (by omega) (by omega) (by omega) hd (fun q1 cA H1 hK1 hP1 hD1 hS1 => ?_)
  have hcA : cA = G.2.2.1 kd := by
    obtain ⟨_, _, -, -, -, f1⟩ := (hK1.2 6 (cA, .object C) rfl).2
    obtain ⟨_, _, -, -, -, f2⟩ := (cx.sk.1.2 t0 _ hT).2
    exact Option.some.inj (f1.symm.trans f2)
  subst hcA
  refine mk_next (np := h.1) (h1 := (h.1 + 1, h.2.1, h.2.2.1, h.2.2.2)) cx.sk.2.1 hh.1 ⟨by show h.1 + 1 ≤ 147; omega, Or.inl hf, hh.1.2.2⟩ rfl rfl (pls_b hf) (fun p hp => by rcases hp with z | z; exact Or.inl (by show p < h.1 + 1; omega); exact Or.inr z) hh.2.2 en es (by rw [(cx.sk.2.1 h.1).1 (by omega)]; unfold nc; omega) (by rw [cell_q hkd, hsh, hR0]) hc0 hP1 hD1 hS1 (fun H2 locs2 cells2 slots2 a1 a2 a3 a4 => ?_)
  have z := K H2 locs2 cells2 slots2 ls hl a1 a2 a3 a4
  rw [hn] at z
  exact z
end MROWS
end
section
/-! A RUN AS A CONTRACT, and calls -/
theorem va_AOA.moved {t : FieldType} {u U : State} (hvm : u.vm.Alike U.vm) (h : va_AOA t u) : va_AOA t U := by
  have e := Cond.arrayOver_setVmC (args := #[]) (s := u) (vm' := U.vm) hvm (.array t)
  have e2 : (Cond.arrayOver (.array t)).before #[] (u.setVm U.vm) = (Cond.arrayOver (.array t)).before #[] U := rfl
  unfold va_AOA
  rw [← e2, e]
  exact h
theorem SK.moved {G : GX} {s U : State} {locs : List Loc} (h : SK G s) (hW : s.WarmedH U.vm) (hS : va_S (GA G) s.heap U.heap locs) : SK G U := by
  obtain ⟨h1, h2, h3, ⟨h4, h5, h6⟩, ⟨h7, h8⟩, ⟨h9, h10⟩, h11, ⟨h12, h13⟩, ⟨h14, h15⟩, ⟨h16, h17⟩, h18, h19, h20, h21⟩ := h
  have hq : ∀ a : Nat, a < s.heap.size → ¬ GA G a → U.heap[a]? = s.heap[a]? := fun a ha hn => hS.2.1 a ha hn
  have hv := hW.alike
  exact ⟨h1.moved hv, h2, Nat.le_trans h3 hS.1, ⟨va_AO.moved hv h4, va_AO.moved hv h5, va_AOA.moved hv h6⟩, ⟨(h7.moved hv).kept hq, (h8.moved hv).kept hq⟩, ⟨(h9.moved hv).kept hq, (h10.moved hv).kept hq⟩, fun q hm => va_Nw.warmM hW (h11 q hm), ⟨va_Nw.warmF hW h12, va_Nw.warmF hW h13⟩, ⟨(h14.moved hv).kept hq, fun q hm => vk_R.warm hW (h15 q hm)⟩, ⟨(h16.moved hv).kept hq, (h17.moved hv).kept hq⟩, (h18.moved hv).kept (hq _ h19 h20), Nat.lt_of_lt_of_le h19 hS.1, h20, h21⟩
theorem SK.same {G : GX} {s U : State} (h : SK G s) (hv : U.vm = s.vm) (hh : U.heap = s.heap) : SK G U := by
  obtain ⟨h1, h2, h3, ⟨h4, h5, h6⟩, ⟨h7, h8⟩, ⟨h9, h10⟩, h11, ⟨h12, h13⟩, ⟨h14, h15⟩, ⟨h16, h17⟩, h18, h19, h20, h21⟩ := h
  have ha : s.vm.Alike U.vm := by rw [hv]; exact Vm.Alike.refl _
  unfold SK
  rw [hh]
  exact ⟨h1.moved ha, h2, h3, ⟨va_AO.moved ha h4, va_AO.moved ha h5, va_AOA.moved ha h6⟩, ⟨h7.moved ha, h8.moved ha⟩, ⟨h9.moved ha, h10.moved ha⟩, fun q hm => va_Nw.same rfl hv.symm (h11 q hm), ⟨va_Nw.same rfl hv.symm h12, va_Nw.same rfl hv.symm h13⟩, ⟨h14.moved ha, fun q hm => vk_R.same hv (h15 q hm)⟩, ⟨h16.moved ha, h17.moved ha⟩, h18.moved ha, h19, h20, h21⟩
def PcO (G : GX) (vs : List Value) (h : Hp) : Array Value → State → Prop := fun a U => a = (vs.map (trv G)).toArray ∧ SK G U ∧ hrH G h U.heap ∧ U.heap.size = G.2.2.2.1 0 + nc h
def QcO (G : GX) (r : Option Value) (h' : Hp) : Array Value → State → Outcome → State → Prop := fun _ st oc t => oc = .returned (r.map (trv G)) ∧ hrH G h' t.heap ∧ va_F (GA G) st t
theorem PcO.blind {G : GX} {vs : List Value} {h : Hp} : FrameBlind (PcO G vs h) := fun a U g mk q => ⟨q.1, q.2.1.same rfl rfl, q.2.2.1, q.2.2.2⟩
theorem sz_eq {G : GX} {h : Hp} {s : State} {H : Heap} {locs : List Loc} (hk : SK G s) (hh : hrH G h H) (hS : va_S (GA G) s.heap H locs) (hb : H.size ≤ G.2.2.2.1 0 + nc h) : H.size = G.2.2.2.1 0 + nc h := by
  have h1 := hS.1
  have h2 := hk.2.2.1
  rcases Nat.eq_zero_or_pos (nc h) with z | z
  · omega
  · obtain ⟨e, he⟩ := ws_addr (i := nc h - 1) hk.2.1 hh.1 (by omega)
    have h3 : G.2.2.2.1 0 + (nc h - 1) < H.size := (hh.2.1 _ _ he).lt
    omega
theorem la_args {G : GX} : ∀ (vs : List Value) (i k : Nat) (v : Value), (la vs)[k]? = some (some v) → (i + k, trv G v) ∈ lv_args i (vs.map (trv G))
  | [], i, k, v, h => by simp [la] at h
  | w :: vs, i, k, v, h => by
    have two : w.category = 2 → (some w :: none :: la vs)[k]? = some (some v) → (i + k, trv G v) ∈ lv_args i ((w :: vs).map (trv G)) := fun hc h => by
      simp only [List.map_cons, lv_args, trv_cat, hc, if_pos]
      match k, h with
      | 0, h => simp at h; subst h; exact List.mem_cons_self
      | 1, h => simp at h
      | k + 2, h =>
        have := la_args (G := G) vs (i + 2) k v h
        rw [show i + (k + 2) = i + 2 + k by omega]
        exact List.mem_cons_of_mem _ this
    have one : ¬ w.category = 2 → (some w :: la vs)[k]? = some (some v) → (i + k, trv G v) ∈ lv_args i ((w :: vs).map (trv G)) := fun hc h => by
      simp only [List.map_cons, lv_args, trv_cat, if_neg hc]
      match k, h with
      | 0, h => simp at h; subst h; exact List.mem_cons_self
      | k + 1, h =>
        have := la_args (G := G) vs (i + 1) k v h
        rw [show i + (k + 1) = i + 1 + k by omega]
        exact List.mem_cons_of_mem _ this
    cases w with
    | long x => exact two rfl h
    | double x => exact two rfl h
    | int x => exact one (by simp [Value.category]) h
    | float x => exact one (by simp [Value.category]) h
    | null => exact one (by simp [Value.category]) h
    | ref x => exact one (by simp [Value.category]) h
    | retAddr x => exact one (by simp [Value.category]) h
theorem la_len {G : GX} : ∀ vs : List Value, (lg_sl (vs.map (trv G))).length = (la vs).length
  | [] => rfl
  | w :: vs => by
    have ih := la_len (G := G) vs
    unfold lg_sl at ih ⊢
    simp only [List.map_cons, List.flatMap_cons, List.length_append, trv_cat]
    rw [ih]
    cases w <;> simp [la, Value.category] <;> omega
theorem en_lvr {G : GX} {M : MR} {vs : List Value} (h : (la vs).length ≤ M.2.2.2.2.1) : lvr G M.2.2.2.2.1 (en M vs) ((lg_sl (vs.map (trv G)) ++ List.replicate (M.2.2.2.2.1 - (lg_sl (vs.map (trv G))).length) Slot.unset).toArray) := by
  have h1 := lv_entry (vs.map (trv G)) (n := M.2.2.2.2.1) (by rw [la_len]; exact h)
  refine ⟨h1.1, h1.2.1, fun i v hv => ?_⟩
  have hv2 : (la vs)[i]? = some (some v) := by
    unfold en at hv
    rcases Nat.lt_or_ge i (la vs).length with q | q
    · rw [List.getElem?_append_left q] at hv
      exact hv
    · rw [List.getElem?_append_right q, List.getElem?_replicate] at hv
      split at hv <;> cases hv
  have := la_args (G := G) vs 0 i v hv2
  rw [Nat.zero_add] at this
  exact h1.2.2 _ this
def rmO (d : Nat) (h h' : Hp) : Room := { frames := d, cells := nc h' - nc h, slots := ns h' - ns h, locals := 40 * d }
/-- what is known of a method that is run -/
def mOK (M : MR) : Prop := plainName M.2.2.2.1.cls = true ∧ pcj M 0 = 0 ∧ (∀ j e, ft M j = some e → (e.1 = .ireturn ∨ e.1 = .lreturn ∨ e.1 = .return_) → decode M.2.2.1 (pcj M j) = .ok (e.1, 1))
theorem Go.met {G : GX} {d : Nat} {M : MR} {vs : List Value} {h h' : Hp} {r : Option Value} (hM : mOK M) (hl : (la vs).length ≤ M.2.2.2.2.1) (g : Go G d M 0 (en M vs) [] h r h') : Met G.1 M.2.2.2.1 (wsM M) (rmO d h h') (PcO G vs h) (QcO G r h') (nc h' - nc h) (ns h' - ns h) (GA G) := by
  refine Met.ofW (cc := M.2.2.1) (maxL := M.2.2.2.2.1) (ret := M.2.2.2.2.2.1) hM.1 rfl ?_
  intro p e s m args below meth c s₁ B hml hv
  obtain ⟨rfl, hsk, hh, hz⟩ := hv
  have hts := atoms_spec (ws := wsM M) B.pre
  have cx : Cx G d M p (headSpec (wsM M) (rmO d h h')).room s m (vs.map (trv G)).toArray meth c := ⟨B.exec, B.bytes, hml, findClass_of_methodNamed B.named, fun w hw => hts w (List.mem_cons_of_mem _ hw), fun hi => by rw [(name_of_methodNamed B.named B.method).1]; exact hi, B.returns, B.notSynchronized, ⟨Nat.le_refl _, Nat.le_refl _⟩, hsk⟩
  obtain ⟨⟨g1, g2⟩, g3⟩ := g
  have hx := cx.1
  have hb := cx.2.1
  have hr := cx.2.2.2.2.2.2.1
  have hlocks := B.notSynchronized
  rw [lg_entry_eq]
  have k := g3 p e (headSpec (wsM M) (rmO d h h')).room s m (vs.map (trv G)).toArray below meth c s.heap [] 0 0 _ (MQ below (QcO G r h') (vs.map (trv G)).toArray s (nc h' - nc h) (ns h' - ns h) (GA G)) cx (en_lvr hl) hh va_S.rf (by omega) (by show 0 + nc h' ≤ (nc h' - nc h) + nc h; omega) (by show 0 + ns h' ≤ (ns h' - ns h) + ns h; omega) ?_
  · rw [hM.2.1] at k
    exact k
  · intro H1 locs1 cells1 slots1 ls1 j1 hrt hh1 hS1 e1 e2
    have ec : cells1 = nc h' - nc h := by omega
    have es : slots1 = ns h' - ns h := by omega
    subst ec
    subst es
    obtain ⟨en, hen, hrb, hcase⟩ := hrt
    have hfree : ∀ q ∈ locs1, GA G q.base := hS1.2.2
    rcases hcase with ⟨h1, x, rfl⟩ | ⟨h1, x, rfl⟩ | ⟨h1, rfl⟩
    · have hd := hM.2.2 j1 en hen (Or.inl h1)
      rw [h1] at hd
      have hq : ∀ t : State, t.heap = H1 → s.WarmedH t.vm → QcO G (some (.int x)) h' (vs.map (trv G)).toArray s (.returned (some (.int x))) t := fun t ht _ => ⟨rfl, by rw [ht]; exact hh1, hS1.F ht⟩
      unfold rtB at hrb
      cases hret : M.2.2.2.2.2.1 with
      | none => rw [hret] at hrb; cases hrb
      | some ty =>
        rw [hret] at hrb hr
        cases ty with
        | int => exact W.iret hx hb hr hq hfree hd
        | boolean =>
          simp only [Bool.or_eq_true, decide_eq_true_eq] at hrb
          exact W.zret hx hb hr (fit_z hrb).1 hq hfree hd
        | _ => cases hrb
    · have hd := hM.2.2 j1 en hen (Or.inr (Or.inl h1))
      rw [h1] at hd
      have hq : ∀ t : State, t.heap = H1 → s.WarmedH t.vm → QcO G (some (.long x)) h' (vs.map (trv G)).toArray s (.returned (some (.long x))) t := fun t ht _ => ⟨rfl, by rw [ht]; exact hh1, hS1.F ht⟩
      unfold rtB at hrb
      cases hret : M.2.2.2.2.2.1 with
      | none => rw [hret] at hrb; cases hrb
      | some ty =>
        rw [hret] at hrb hr
        cases ty with
        | long => exact W.lret hx hb hr hq hfree hd
        | _ => cases hrb
    · have hd := hM.2.2 j1 en hen (Or.inr (Or.inr h1))
      rw [h1] at hd
      have hq : ∀ t : State, t.heap = H1 → s.WarmedH t.vm → QcO G none h' (vs.map (trv G)).toArray s (.returned none) t := fun t ht _ => ⟨rfl, by rw [ht]; exact hh1, hS1.F ht⟩
      unfold rtB at hrb
      cases hret : M.2.2.2.2.2.1 with
      | none =>
        rw [hret] at hr
        exact W.vret hx hb hr hq hfree hd
      | some ty => rw [hret] at hrb; cases ty <;> cases hrb
end
section
/-! CALLS: a run of the callee is a step of the caller -/
theorem run_W {G : GX} {p : Program} {e : Env} {R : Room} {s : State} {m : MethodId} {args : Array Value} {below : List Frame} {meth : Method} {c : Code} {H : Heap} {locs : List Loc} {cells slots mc ms pc : Nat} {ls : Array Slot} {st0 rest : List Value} {Z : State → Prop} {r : Option Value} {h' : Hp} {a : Array Value}
    (hr : va_Run p G.1 e R s m args below meth c H locs cells slots mc ms (F0 m pc ls st0) rest (QcO G r h' a) (GA G)) (hS : va_S (GA G) s.heap H locs)
    (kk : ∀ (H1 : Heap) (locs1 : List Loc), hrH G h' H1 → va_S (GA G) s.heap H1 locs1 → W p G.1 e R s m args below meth c H1 locs1 (cells + mc) (slots + ms) Z (F0 m (pc + 3) ls ((r.map (trv G)).toList ++ rest))) : W p G.1 e R s m args below meth c H locs cells slots Z (F0 m pc ls st0) := by
  intro T hT X
  obtain ⟨v, st₀, t, T', L, h0, X', hL, e1, e2, ⟨hv, hb, hz, hk⟩, st⟩ := hr T hT X
  cases hv
  rw [h0] at hz hk
  have hS1 : va_S (GA G) s.heap T'.heap (locs ++ L) := ⟨Nat.le_trans hS.1 (by rw [e1]; exact hz), fun q h1 h2 => by rw [e1, hk q (Nat.lt_of_lt_of_le h1 hS.1) h2]; exact hS.2.1 q h1 h2, fun q hq => by
    rcases List.mem_append.mp hq with h | h
    · exact hS.2.2 q h
    · exact hL q h⟩
  obtain ⟨t2, a1, b1⟩ := kk T'.heap (locs ++ L) (by rw [e1]; exact hb) hS1 T' rfl X'
  exact ⟨t2, st t2 a1, b1⟩
theorem LG_GI {ws : List Cond} (h : ∀ w ∈ ws, w ∈ LG) : GoodIn LG ws := fun w hw => ⟨h w hw, LG_good (h w hw)⟩
/-- what is known of a method that is called: its code's word, its class is initialised, how many it takes -/
def cOK (N : MR) (n : Nat) : Prop := Cond.code N.2.2.2.1 N.2.2.1 N.2.2.2.2.1 N.2.2.2.2.2.1 ∈ LG ∧ Cond.initialized N.2.2.2.1.cls ∈ LG ∧ (N.2.2.2.1.cls ≠ "java/lang/invoke/MethodHandle" ∧ N.2.2.2.1.cls ≠ "java/lang/invoke/VarHandle" ∧ (parseMethodDescriptor N.2.2.2.1.desc).map (fun d => d.parameters.length) = some n) ∧ N.2.2.2.2.1 ≤ 21
theorem wsM_in {N : MR} {n : Nat} (h : cOK N n) : ∀ w ∈ wsM N, w ∈ LG := fun w hw => by
  rcases List.mem_cons.mp hw with rfl | hw
  · exact h.1
  · exact hw
theorem cat_map {G : GX} {r0 : List Value} (h : (r0.map Value.category).sum ≤ 8) : ((r0.map (trv G)).map fun v => v.category).sum ≤ 8 := by
  rw [List.map_map]
  have : ((fun v => v.category) ∘ trv G) = Value.category := funext fun v => trv_cat G v
  rw [this]
  exact h
section CROWS
variable {G : GX} {d : Nat} {M N : MR} {j : Nat} {lv : Lc} {r0 vs : List Value} {h h1 : Hp} {r1 : Option Value} {ix n : Nat}
/-- the common part of calls: the room, the callee's start, what comes behind -/
theorem call_go (hn : pcj M (j + 1) = pcj M j + 3) (g : Go G d N 0 (en N vs) [] h r1 h1) (hc : cOK N n)
    (run : ∀ (p : Program) (e : Env) (R : Room) (s : State) (m : MethodId) (args : Array Value) (below : List Frame) (meth : Method) (c : Code) (H : Heap) (locs : List Loc) (cells slots : Nat) (ls : Array Slot), Cx G (d + 1) M p R s m args meth c → hrH G h H → ls.size = M.2.2.2.2.1 →
      ((rmO d h h1).frames + 1 ≤ R.frames ∧ 8 + (N.2.2.2.2.1 + 11) + (rmO d h h1).locals ≤ R.locals) → (cells + (nc h1 - nc h) ≤ R.cells ∧ slots + (ns h1 - ns h) ≤ R.slots) →
      (∀ U : State, U.heap = H → s.WarmedH U.vm → PcO G vs h (vs.map (trv G)).toArray U) → ∃ a, va_Run p G.1 e R s m args below meth c H locs cells slots (nc h1 - nc h) (ns h1 - ns h) (F0 m (pcj M j) ls ((vs.reverse ++ r0).map (trv G))) (r0.map (trv G)) (QcO G r1 h1 a) (GA G)) :
    StepH G (d + 1) M j lv (vs.reverse ++ r0) h (j + 1) lv (r1.toList ++ r0) h1 := fun p e R s m args below meth c H locs cells slots ls Z cx hl hh hS hc0 hc1 hc2 K => by
  refine W.bound (fun hb => ?_)
  have hz := sz_eq cx.sk hh hS (by omega)
  obtain ⟨⟨g1, g2⟩, -⟩ := id g
  obtain ⟨q1, q2⟩ := cx.2.2.2.2.2.2.2.2.1
  have hc4 := hc.2.2.2
  obtain ⟨a, hr⟩ := run p e R s m args below meth c H locs cells slots ls cx hh hl.1 ⟨by show d + 1 ≤ R.frames; exact q1, by show 8 + (N.2.2.2.2.1 + 11) + 40 * d ≤ R.locals; omega⟩ ⟨by omega, by omega⟩ (fun U hU hW => ⟨rfl, SK.moved (locs := locs) cx.sk hW (by rw [hU]; exact hS), by rw [hU]; exact hh, by rw [hU]; exact hz⟩)
  refine run_W hr hS (fun H1 locs1 hh1 hS1 => ?_)
  have z := K H1 locs1 (cells + (nc h1 - nc h)) (slots + (ns h1 - ns h)) ls hl hh1 hS1 (by omega) (by omega)
  rw [hn, List.map_append] at z
  have er : r1.toList.map (trv G) = (r1.map (trv G)).toList := by cases r1 <;> rfl
  rw [er] at z
  exact z
theorem g_callS (hd : decode M.2.2.1 (pcj M j) = .ok (.invokestatic ix, 3)) (hn : pcj M (j + 1) = pcj M j + 3) (hM : mOK N) (hc : cOK N n) (hw : Cond.methodLink M.2.2.2.1.cls ix N.2.2.2.1 ∈ LG) (hs : Cond.static N.2.2.2.1 ∈ LG) (hlen : vs.length = n) (hla : (la vs).length ≤ N.2.2.2.2.1) (hcat : (r0.map Value.category).sum ≤ 8) (g : Go G d N 0 (en N vs) [] h r1 h1) : StepH G (d + 1) M j lv (vs.reverse ++ r0) h (j + 1) lv (r1.toList ++ r0) h1 := by
  refine call_go hn g hc (fun p e R s m args below meth c H locs cells slots ls cx hh hsz hR hf hpc => ⟨_, va_runS (nL := M.2.2.2.2.1) (As := vs.map (trv G)) (Ts := LG) (own := M.2.2.2.1.cls) ⟨cx.1, cx.2.1, cx.2.2.1, cx.own, cx.ws⟩ (g.met hM hla) (va_cwS n cx.ws (LG_GI (fun w hw' => ?_)) rfl rfl rfl hc.2.2.1 hR) ⟨PcO.blind, hpc⟩ rfl (by rw [List.length_map]; exact hlen) hsz (by rw [List.map_append, List.map_reverse]) (lv_room (cat_map hcat)) hd hf⟩)
  unfold va_wsS at hw'
  rcases List.mem_append.mp hw' with h2 | h2
  · simp only [List.mem_cons, List.not_mem_nil, or_false] at h2
    rcases h2 with rfl | rfl | rfl
    · exact hw
    · exact hs
    · exact hc.2.1
  · exact wsM_in hc w h2
theorem g_callV {p0 ci : Nat} {q : vw_C} {vs1 : List Value} (hd : decode M.2.2.1 (pcj M j) = .ok (.invokevirtual ix, 3)) (hn : pcj M (j + 1) = pcj M j + 3) (hM : mOK N) (hc : cOK N n) (hw : Cond.methodLink M.2.2.2.1.cls ix N.2.2.2.1 ∈ LG) (hs : Cond.instanceMethod N.2.2.2.1 ∈ LG) (hsel : Cond.selects N.2.2.2.1.cls N.2.2.2.1 N.2.2.2.1 ∈ LG) (hq : vwCl[ci]? = some q) (hcl : N.2.2.2.1.cls = q.1) (ok : okB h p0 ci = true) (hvs : vs = .ref p0 :: vs1) (hlen : vs1.length = n) (hla : (la vs).length ≤ N.2.2.2.2.1) (hcat : (r0.map Value.category).sum ≤ 8) (g : Go G d N 0 (en N vs) [] h r1 h1) : StepH G (d + 1) M j lv (vs.reverse ++ r0) h (j + 1) lv (r1.toList ++ r0) h1 := by
  subst hvs
  refine call_go hn g hc (fun p e R s m args below meth c H locs cells slots ls cx hh hsz hR hf hpc => ?_)
  obtain ⟨ha, hci⟩ := okB_al hh.1 ok
  have hlt : (SH p0).1 < 20 := by have := (List.getElem?_eq_some_iff.mp hq).1; rw [vw_len] at this; omega
  have he := wsO_at (G := G) hh.1 ha
  rw [cell_o hlt, hci] at he
  have hrecv := va_recv cx.sk.1 hh.2.1 hq he
  rw [← hcl] at hrecv
  refine ⟨_, va_runV (nL := M.2.2.2.2.1) (b := G.2.2.2.1 p0) (As := vs1.map (trv G)) (Ts := LG) (own := M.2.2.2.1.cls) (C := N.2.2.2.1.cls) ⟨cx.1, cx.2.1, cx.2.2.1, cx.own, cx.ws⟩ (g.met hM hla) (cwV n cx.ws (LG_GI (fun w hw' => ?_)) rfl rfl rfl ⟨rfl, hc.2.2.1⟩ hR) ⟨PcO.blind, hrecv, hpc⟩ rfl (by rw [List.length_map]; exact hlen) hsz (by simp [List.map_append, List.map_reverse, trv]) (lv_room (cat_map hcat)) hd hf⟩
  unfold wsV at hw'
  rcases List.mem_append.mp hw' with h2 | h2
  · simp only [List.mem_cons, List.not_mem_nil, or_false] at h2
    rcases h2 with rfl | rfl | rfl | rfl
    · exact hw
    · exact hs
    · exact hsel
    · exact hc.2.1
  · exact wsM_in hc w h2
theorem g_callI {p0 : Nat} {vs1 : List Value} (hd : decode M.2.2.1 (pcj M j) = .ok (.invokespecial ix, 3)) (hn : pcj M (j + 1) = pcj M j + 3) (hM : mOK N) (hc : cOK N n) (hw : Cond.methodLink M.2.2.2.1.cls ix N.2.2.2.1 ∈ LG) (hs : Cond.instanceMethod N.2.2.2.1 ∈ LG) (hnm : N.2.2.2.1.name = "<init>") (hrt : N.2.2.2.2.2.1 = none) (hvs : vs = .ref p0 :: vs1) (hlen : vs1.length = n) (hla : (la vs).length ≤ N.2.2.2.2.1) (hcat : (r0.map Value.category).sum ≤ 8) (g : Go G d N 0 (en N vs) [] h r1 h1) : StepH G (d + 1) M j lv (vs.reverse ++ r0) h (j + 1) lv (r1.toList ++ r0) h1 := by
  subst hvs
  refine call_go hn g hc (fun p e R s m args below meth c H locs cells slots ls cx hh hsz hR hf hpc => ⟨_, va_runI (nL := M.2.2.2.2.1) (b := G.2.2.2.1 p0) (As := vs1.map (trv G)) (Ts := LG) (own := M.2.2.2.1.cls) ⟨cx.1, cx.2.1, cx.2.2.1, cx.own, cx.ws⟩ (g.met hM hla) (cwI n cx.ws (LG_GI (wsM_in hc)) (by unfold wsM; rw [hrt]) rfl rfl (cx.ws _ hc.2.1) (cx.ws _ hw) (cx.ws _ hs) hnm hc.2.2.1 hR) ⟨PcO.blind, hpc⟩ rfl (by rw [List.length_map]; exact hlen) hsz (by simp [List.map_append, List.map_reverse, trv]) (lv_room (cat_map hcat)) hd hf⟩)
theorem g_callSN (hd : decode M.2.2.1 (pcj M j) = .ok (.invokestatic ix, 3)) (hn : pcj M (j + 1) = pcj M j + 3) (hM : mOK N) (hc : cOK N n) {qi : Nat × Nat × Nat} (hq : qi ∈ MNF) (ho : ONL.getD qi.1 "" = M.2.2.2.1.cls) (hi : qi.2.1 = ix) (hN : (mt qi.2.2).2.2.2.1 = N.2.2.2.1) (hs : Cond.static N.2.2.2.1 ∈ LG) (hlen : vs.length = n) (hla : (la vs).length ≤ N.2.2.2.2.1) (hcat : (r0.map Value.category).sum ≤ 8) (g : Go G d N 0 (en N vs) [] h r1 h1) : StepH G (d + 1) M j lv (vs.reverse ++ r0) h (j + 1) lv (r1.toList ++ r0) h1 := by
  refine call_go hn g hc (fun p e R s m args below meth c H locs cells slots ls cx hh hsz hR hf hpc => ?_)
  have hnest := cx.sk.2.2.2.2.2.2.1 qi hq
  rw [ho, hi, hN] at hnest
  exact ⟨_, va_runSN (nL := M.2.2.2.2.1) (As := vs.map (trv G)) (Ts := LG) (own := M.2.2.2.1.cls) ⟨cx.1, cx.2.1, cx.2.2.1, cx.own, cx.ws⟩ (g.met hM hla) ⟨va_cnB n cx.ws (LG_GI (wsM_in hc)) rfl rfl rfl hnest (cx.ws _ hc.2.1) hc.2.2.1 hR, cx.ws _ hs, trivial⟩ ⟨PcO.blind, hpc⟩ rfl (by rw [List.length_map]; exact hlen) hsz (by rw [List.map_append, List.map_reverse]) (lv_room (cat_map hcat)) hd hf⟩
theorem g_callIN {p0 : Nat} {vs1 : List Value} (hd : decode M.2.2.1 (pcj M j) = .ok (.invokespecial ix, 3)) (hn : pcj M (j + 1) = pcj M j + 3) (hM : mOK N) (hc : cOK N n) {qi : Nat × Nat × Nat} (hq : qi ∈ MNF) (ho : ONL.getD qi.1 "" = M.2.2.2.1.cls) (hi : qi.2.1 = ix) (hN : (mt qi.2.2).2.2.2.1 = N.2.2.2.1) (hs : Cond.instanceMethod N.2.2.2.1 ∈ LG) (hnm : N.2.2.2.1.name = "<init>") (hrt : N.2.2.2.2.2.1 = none) (hvs : vs = .ref p0 :: vs1) (hlen : vs1.length = n) (hla : (la vs).length ≤ N.2.2.2.2.1) (hcat : (r0.map Value.category).sum ≤ 8) (g : Go G d N 0 (en N vs) [] h r1 h1) : StepH G (d + 1) M j lv (vs.reverse ++ r0) h (j + 1) lv (r1.toList ++ r0) h1 := by
  subst hvs
  refine call_go hn g hc (fun p e R s m args below meth c H locs cells slots ls cx hh hsz hR hf hpc => ?_)
  have hnest := cx.sk.2.2.2.2.2.2.1 qi hq
  rw [ho, hi, hN] at hnest
  exact ⟨_, va_runIN (nL := M.2.2.2.2.1) (b := G.2.2.2.1 p0) (As := vs1.map (trv G)) (Ts := LG) (own := M.2.2.2.1.cls) ⟨cx.1, cx.2.1, cx.2.2.1, cx.own, cx.ws⟩ (g.met hM hla) ⟨va_cnB n cx.ws (LG_GI (wsM_in hc)) (by unfold wsM; rw [hrt]) rfl rfl hnest (cx.ws _ hc.2.1) hc.2.2.1 hR, hnm, cx.ws _ hs⟩ ⟨PcO.blind, hpc⟩ rfl (by rw [List.length_map]; exact hlen) hsz (by simp [List.map_append, List.map_reverse, trv]) (lv_room (cat_map hcat)) hd hf⟩
end CROWS
end
section
/-! ROWS of the library's own members: arraycopy, min, max, abs; and what is owed elsewhere (texts, rows of rows) -/
theorem tb_cp : ∀ w ∈ [Cond.methodLink "WreckCourt" 119 arraycopyName, Cond.static arraycopyName, Cond.native arraycopyName, Cond.initialized "java/lang/System"], w ∈ LG := in_tab _ [475, 476, 477, 97] (by decide +kernel) (by decide +kernel)
theorem tb_code {i : Nat} (hi : i < 264) : Cond.code (yM i) (mt i).2.2.1 (mt i).2.2.2.2.1 (mt i).2.2.2.2.2.1 ∈ LG := by
  have go : ∀ q n : Nat, (∀ w ∈ (List.range n).map (fun i => Cond.code (yM (q + i)) (mt (q + i)).2.2.1 (mt (q + i)).2.2.2.2.1 (mt (q + i)).2.2.2.2.2.1), w ∈ LG) → q ≤ i → i < q + n → Cond.code (yM i) (mt i).2.2.1 (mt i).2.2.2.2.1 (mt i).2.2.2.2.2.1 ∈ LG := fun q n h h1 h2 => by
    have := h _ (List.mem_map.mpr ⟨i - q, List.mem_range.mpr (by omega), rfl⟩)
    rw [show q + (i - q) = i by omega] at this
    exact this
  rcases Nat.lt_or_ge i 40 with z | z
  · exact go 0 40 tb_cd0 (by omega) (by omega)
  rcases Nat.lt_or_ge i 80 with z2 | z2
  · exact go 40 40 tb_cd1 (by omega) (by omega)
  rcases Nat.lt_or_ge i 120 with z3 | z3
  · exact go 80 40 tb_cd2 (by omega) (by omega)
  rcases Nat.lt_or_ge i 160 with z4 | z4
  · exact go 120 40 tb_cd3 (by omega) (by omega)
  rcases Nat.lt_or_ge i 200 with z5 | z5
  · exact go 160 40 tb_cd4 (by omega) (by omega)
  rcases Nat.lt_or_ge i 240 with z6 | z6
  · exact go 200 40 tb_cd5 (by omega) (by omega)
  · exact go 240 24 tb_cd6 (by omega) (by omega)
theorem sh_le : SHL.all (fun q => decide (q.2 ≤ 100000)) = true := by decide +kernel
theorem sh_sm (p : Nat) : (SH p).2 ≤ 100000 := by
  rcases Nat.lt_or_ge p 147 with hp | hp
  · have hm : SH p ∈ SHL := by
      unfold SH
      rw [List.getD_eq_getElem?_getD, List.getElem?_eq_getElem (by rw [SHlen]; exact hp)]
      exact List.getElem_mem _
    have h1 := List.all_eq_true.mp sh_le _ hm
    exact of_decide_eq_true h1
  · rw [SH_hi hp]
    show 9 ≤ 100000
    omega
section EROWS
variable {G : GX} {d : Nat} {M : MR} {j : Nat} {lv : Lc} {r0 : List Value} {h : Hp} {ix : Nat}
theorem g_min {x y : Int32} (hd : decode M.2.2.1 (pcj M j) = .ok (.invokestatic ix, 3)) (hn : pcj M (j + 1) = pcj M j + 3) (hw : Cond.methodLink M.2.2.2.1.cls ix (yM 69) ∈ LG) (hdz : 1 ≤ d) (hr : (r0.map Value.category).sum ≤ 8) : StepH G d M j lv (.int y :: .int x :: r0) h (j + 1) lv (.int (if y < x then y else x) :: r0) h := fun p1 e R s m args below meth c H locs cells slots ls Z cx hl hh hS hc0 hc1 hc2 K => by
  have z := K H locs cells slots ls hl hh hS rfl rfl
  rw [hn] at z
  have hr' := cat_map (G := G) hr
  obtain ⟨q1, q2⟩ := cx.2.2.2.2.2.2.2.2.1
  exact va_mmin cx.1 cx.2.1 (by rw [hl.1, cx.2.2.1]) cx.own (cx.ws _ hw) (cx.ws _ (tb_sm _ (List.mem_map.mpr ⟨69, by decide +kernel, rfl⟩))) (cx.ws _ (tb_in _ (List.mem_map.mpr ⟨INF.getD 13 0, by decide +kernel, by decide +kernel⟩))) (cx.ws _ (tb_code (i := 69) (by omega))) (by omega) (by omega) (by omega) (by omega) hd z
theorem g_max {x y : Int32} (hd : decode M.2.2.1 (pcj M j) = .ok (.invokestatic ix, 3)) (hn : pcj M (j + 1) = pcj M j + 3) (hw : Cond.methodLink M.2.2.2.1.cls ix (yM 112) ∈ LG) (hdz : 1 ≤ d) (hr : (r0.map Value.category).sum ≤ 8) : StepH G d M j lv (.int y :: .int x :: r0) h (j + 1) lv (.int (if x < y then y else x) :: r0) h := fun p1 e R s m args below meth c H locs cells slots ls Z cx hl hh hS hc0 hc1 hc2 K => by
  have z := K H locs cells slots ls hl hh hS rfl rfl
  rw [hn] at z
  have hr' := cat_map (G := G) hr
  obtain ⟨q1, q2⟩ := cx.2.2.2.2.2.2.2.2.1
  exact va_mmax cx.1 cx.2.1 (by rw [hl.1, cx.2.2.1]) cx.own (cx.ws _ hw) (cx.ws _ (tb_sm _ (List.mem_map.mpr ⟨112, by decide +kernel, rfl⟩))) (cx.ws _ (tb_in _ (List.mem_map.mpr ⟨INF.getD 13 0, by decide +kernel, by decide +kernel⟩))) (cx.ws _ (tb_code (i := 112) (by omega))) (by omega) (by omega) (by omega) (by omega) hd z
theorem g_abs {x : Int32} (hd : decode M.2.2.1 (pcj M j) = .ok (.invokestatic ix, 3)) (hn : pcj M (j + 1) = pcj M j + 3) (hw : Cond.methodLink M.2.2.2.1.cls ix (yM 95) ∈ LG) (hdz : 1 ≤ d) (hr : (r0.map Value.category).sum ≤ 8) : StepH G d M j lv (.int x :: r0) h (j + 1) lv (.int (if 0 ≤ x then x else 0 - x) :: r0) h := fun p1 e R s m args below meth c H locs cells slots ls Z cx hl hh hS hc0 hc1 hc2 K => by
  have z := K H locs cells slots ls hl hh hS rfl rfl
  rw [hn] at z
  have hr' := cat_map (G := G) hr
  obtain ⟨q1, q2⟩ := cx.2.2.2.2.2.2.2.2.1
  exact va_mabs cx.1 cx.2.1 (by rw [hl.1, cx.2.2.1]) cx.own (cx.ws _ hw) (cx.ws _ (tb_sm _ (List.mem_map.mpr ⟨95, by decide +kernel, rfl⟩))) (cx.ws _ (tb_in _ (List.mem_map.mpr ⟨INF.getD 13 0, by decide +kernel, by decide +kernel⟩))) (cx.ws _ (tb_code (i := 95) (by omega))) (by omega) (by omega) (by omega) (by omega) hd z
theorem g_copy {a b : Nat} {sq dp n : Int32} (hd : decode M.2.2.1 (pcj M j) = .ok (.invokestatic 119, 3)) (hn : pcj M (j + 1) = pcj M j + 3) (ho : M.2.2.2.1.cls = "WreckCourt") (hdz : 1 ≤ d) (hr : (r0.map Value.category).sum ≤ 8) (oa : okB h a 20 = true) (ob : okB h b 20 = true) (h1 : 0 ≤ sq) (h2 : 0 ≤ dp) (h3 : 0 ≤ n) (h4 : sq.toNatClampNeg + n.toNatClampNeg ≤ (SH a).2) (h5 : dp.toNatClampNeg + n.toNatClampNeg ≤ (SH b).2) : StepH G d M j lv (.int n :: .int dp :: .ref b :: .int sq :: .ref a :: r0) h (j + 1) lv r0 (h.1, h.2.1, (fun q => if q = b then va_cpy (h.2.2.1 a) (h.2.2.1 b) sq.toNatClampNeg dp.toNatClampNeg n.toNatClampNeg else h.2.2.1 q), h.2.2.2) := fun p1 e R s m args below meth c H locs cells slots ls Z cx hl hh hS hc0 hc1 hc2 K => by
  obtain ⟨ha, hca⟩ := okB_al hh.1 oa
  obtain ⟨hb, hcb⟩ := okB_al hh.1 ob
  have hea := wsO_at (G := G) hh.1 ha
  rw [cell_i (by omega) (by omega), hca] at hea
  have heb := wsO_at (G := G) hh.1 hb
  rw [cell_i (by omega) (by omega), hcb] at heb
  have hr' := cat_map (G := G) hr
  obtain ⟨q1, q2⟩ := cx.2.2.2.2.2.2.2.2.1
  have hown := cx.own
  rw [ho] at hown
  have hnf : nativeFrameWords "java/lang/System" "arraycopy" 5 = 7 := by decide +kernel
  refine va_copyi cx.1 cx.2.1 (by rw [hl.1, cx.2.2.1]) hown (cx.ws _ (tb_cp _ List.mem_cons_self)) (cx.ws _ (tb_cp _ (by simp))) (cx.ws _ (tb_cp _ (by simp))) (cx.ws _ (tb_cp _ (by simp))) cx.sk.1 hh.2.1 (wsO_D cx.sk.2.1 hh.1) hS (pix h a) (pix h b) 0 0 hea heb rfl rfl rfl (Int32.not_lt.mpr h1) (Int32.not_lt.mpr h2) (Int32.not_lt.mpr h3) h4 h5 (fun _ _ => rfl) (by omega) (by rw [hnf]; omega) hd (fun H1 locs1 hP1 _ hS1 => ?_)
  have z := K H1 locs1 cells slots ls hl (hr_set (h' := (h.1, h.2.1, (fun q => if q = b then va_cpy (h.2.2.1 a) (h.2.2.1 b) sq.toNatClampNeg dp.toNatClampNeg n.toNatClampNeg else h.2.2.1 q), h.2.2.2)) hh.1 hb rfl rfl (fun z hz => if_neg hz) (fun z _ => rfl) hh.2.2 (by rw [cell_i (by omega) (by omega), hcb]; exact congrArg (fun f => Sum.inl (G.2.2.1 20, (SH b).2, Sum.inl f)) (if_pos rfl).symm) hP1) hS1 rfl rfl
  rw [hn] at z
  exact z
end EROWS
/-- owed elsewhere: a constant text is loaded, its length and its signs are asked -/
def StrOK : Prop := ∀ (G : GX) (d : Nat) (M : MR) (j : Nat) (lv : Lc) (r0 : List Value) (h : Hp) (ix : Nat), M.2.2.2.1.cls = "WreckCourt$Reader" →
  (∀ q ∈ stI, q.1 = ix → decode M.2.2.1 (pcj M j) = .ok (.ldc ix, 2) → pcj M (j + 1) = pcj M j + 2 → StepH G d M j lv r0 h (j + 1) lv (.ref (100000 + q.2.2) :: r0) h) ∧
  (∀ p : Nat, 100000 ≤ p → p < 100016 → 4 ≤ d → (r0.map Value.category).sum ≤ 8 → decode M.2.2.1 (pcj M j) = .ok (.invokevirtual 115, 3) → pcj M (j + 1) = pcj M j + 3 → StepH G d M j lv (.ref p :: r0) h (j + 1) lv (.int (Int32.ofNat (stL.getD (p - 100000) []).length) :: r0) h) ∧
  (∀ (p : Nat) (i : Int32), 100000 ≤ p → p < 100016 → 4 ≤ d → (r0.map Value.category).sum ≤ 8 → ixB i (stL.getD (p - 100000) []).length = true → decode M.2.2.1 (pcj M j) = .ok (.invokevirtual 119, 3) → pcj M (j + 1) = pcj M j + 3 → StepH G d M j lv (.int i :: .ref p :: r0) h (j + 1) lv (.int ((stL.getD (p - 100000) []).getD i.toNatClampNeg 0) :: r0) h)
/-- owed elsewhere: new int[n][k] -/
def MnaOK : Prop := ∀ (G : GX) (d : Nat) (M : MR) (j : Nat) (lv : Lc) (r0 : List Value) (h : Hp) (ix : Nat) (n k : Int32), decode M.2.2.1 (pcj M j) = .ok (.multianewarray ix 2, 4) → pcj M (j + 1) = pcj M j + 4 → ((M.2.2.2.1.cls = "WreckCourt$Sea" ∧ ix = 31) ∨ (M.2.2.2.1.cls = "WreckCourt$Vessel" ∧ ix = 43)) → 0 ≤ n → 0 ≤ k → h.2.1 = 0 → h.1 + n.toNatClampNeg < 147 → SH h.1 = (25, n.toNatClampNeg) → (∀ i, i < n.toNatClampNeg → SH (h.1 + 1 + i) = (20, k.toNatClampNeg)) →
  StepH G d M j lv (.int k :: .int n :: r0) h (j + 1) lv (.ref h.1 :: r0) (h.1 + 1 + n.toNatClampNeg, h.2.1, h.2.2.1, fun q i => if q = h.1 then (if i < n.toNatClampNeg then some (h.1 + 1 + i) else none) else h.2.2.2 q i)
end
section
/-! SOUNDNESS: what vc asks for is enough -/
theorem ft_lt {M : MR} {j : Nat} {e : Ent} (h : ft M j = some e) : j < M.2.1.length * 16 := by
  unfold ft at h
  have h1 : j / 16 < M.2.1.length := by
    rcases Nat.lt_or_ge (j / 16) M.2.1.length with z | z
    · exact z
    · rw [List.getD_eq_getElem?_getD, List.getElem?_eq_none z] at h
      simp at h
  omega
theorem pcj_of {M : MR} {j : Nat} {e : Ent} (h : ft M j = some e) : pcj M j = e.2.1 := by
  unfold pcj
  rw [h]
theorem chk_e {M : MR} {j : Nat} {e : Ent} (hM : chkM M = true) (h : ft M j = some e) : decB M.2.2.1 e = true ∧ (nfB e.1 = true ∨ pcj M (j + 1) = pcj M j + lenI e.1) ∧ argB M e = true := by
  unfold chkM at hM
  simp only [Bool.and_eq_true] at hM
  have h1 := List.all_eq_true.mp hM.2.2.2 j (List.mem_range.mpr (ft_lt h))
  unfold chkE at h1
  rw [h] at h1
  simp only [Bool.and_eq_true, Bool.or_eq_true, decide_eq_true_eq] at h1
  rw [pcj_of h]
  exact h1
theorem chk_d {M : MR} {j : Nat} {e : Ent} (hM : chkM M = true) (h : ft M j = some e) (hs : swB e.1 = false) : decode M.2.2.1 (pcj M j) = .ok (e.1, lenI e.1) := by
  have h1 := (chk_e hM h).1
  unfold decB at h1
  rw [pcj_of h]
  cases hd : decode M.2.2.1 e.2.1 with
  | error z => rw [hd] at h1; cases h1
  | ok q =>
    obtain ⟨i, n⟩ := q
    rw [hd] at h1
    simp only [Bool.and_eq_true, Bool.or_eq_true, decide_eq_true_eq, hs] at h1
    rcases h1 with ⟨rfl, h2 | rfl⟩
    · cases h2
    · rfl
theorem chk_s {M : MR} {j : Nat} {e : Ent} (hM : chkM M = true) (h : ft M j = some e) : ∃ n, decode M.2.2.1 (pcj M j) = .ok (e.1, n) := by
  have h1 := (chk_e hM h).1
  unfold decB at h1
  rw [pcj_of h]
  cases hd : decode M.2.2.1 e.2.1 with
  | error z => rw [hd] at h1; cases h1
  | ok q =>
    obtain ⟨i, n⟩ := q
    rw [hd] at h1
    simp only [Bool.and_eq_true, decide_eq_true_eq] at h1
    exact ⟨n, by rw [h1.1]⟩
theorem chk_n {M : MR} {j : Nat} {e : Ent} (hM : chkM M = true) (h : ft M j = some e) (hs : nfB e.1 = false) : pcj M (j + 1) = pcj M j + lenI e.1 := by
  rcases (chk_e hM h).2.1 with z | z
  · rw [hs] at z; cases z
  · exact z
theorem chk_cls {M : MR} (hM : chkM M = true) : ONL.getD M.2.2.2.2.2.2 "" = M.2.2.2.1.cls := by
  unfold chkM at hM
  simp only [Bool.and_eq_true, decide_eq_true_eq] at hM
  exact hM.2.2.1
theorem chk_m {M : MR} (hM : chkM M = true) : mOK M := by
  refine ⟨?_, ?_, fun j e h hr => ?_⟩
  · unfold chkM at hM
    simp only [Bool.and_eq_true] at hM
    exact hM.1
  · unfold chkM at hM
    simp only [Bool.and_eq_true, decide_eq_true_eq] at hM
    exact hM.2.1
  · have h1 := chk_d hM h (by rcases hr with z | z | z <;> rw [z] <;> rfl)
    rcases hr with z | z | z <;> rw [z] at h1 ⊢ <;> exact h1
theorem cal_ok {i n : Nat} (h : calB i n = true) : useB i = true ∧ cOK (mt i) n := by
  unfold calB at h
  simp only [Bool.and_eq_true, decide_eq_true_eq] at h
  obtain ⟨h1, h2, h3, h4, h5, h6, h7⟩ := h
  refine ⟨h1, tb_code (use_lt h1), ?_, ⟨h4, h5, h6⟩, h7⟩
  have := tb_in _ (List.mem_map.mpr ⟨_, List.contains_iff_mem.mp h2, rfl⟩)
  rw [h3] at this
  exact this
end
section
/-! SOUNDNESS, entry by entry -/
theorem o1_d {st : List Value} {f : Int32 → List Value → Prop} (h : o1 st f) : ∃ x r, st = .int x :: r ∧ f x r := by
  unfold o1 at h
  split at h
  · exact ⟨_, _, rfl, h⟩
  · exact h.elim
theorem o2_d {st : List Value} {f : Int32 → Int32 → List Value → Prop} (h : o2 st f) : ∃ x y r, st = .int y :: .int x :: r ∧ f x y r := by
  unfold o2 at h
  split at h
  · exact ⟨_, _, _, rfl, h⟩
  · exact h.elim
theorem o3_d {st : List Value} {f : Int64 → List Value → Prop} (h : o3 st f) : ∃ x r, st = .long x :: r ∧ f x r := by
  unfold o3 at h
  split at h
  · exact ⟨_, _, rfl, h⟩
  · exact h.elim
theorem o4_d {st : List Value} {f : Int64 → Int64 → List Value → Prop} (h : o4 st f) : ∃ x y r, st = .long y :: .long x :: r ∧ f x y r := by
  unfold o4 at h
  split at h
  · exact ⟨_, _, _, rfl, h⟩
  · exact h.elim
theorem o5_d {st : List Value} {f : Int64 → Int32 → List Value → Prop} (h : o5 st f) : ∃ x y r, st = .int y :: .long x :: r ∧ f x y r := by
  unfold o5 at h
  split at h
  · exact ⟨_, _, _, rfl, h⟩
  · exact h.elim
theorem oI_d {lv : Lc} {i : Nat} {f : Int32 → Prop} (h : oI lv i f) : ∃ x, lv[i]? = some (some (.int x)) ∧ f x := by
  unfold oI at h
  split at h
  · rename_i x hx
    exact ⟨x, hx, h⟩
  · exact h.elim
theorem oL_d {lv : Lc} {i : Nat} {f : Int64 → Prop} (h : oL lv i f) : ∃ x, lv[i]? = some (some (.long x)) ∧ f x := by
  unfold oL at h
  split at h
  · rename_i x hx
    exact ⟨x, hx, h⟩
  · exact h.elim
theorem oA_d {lv : Lc} {i : Nat} {f : Nat → Prop} (h : oA lv i f) : ∃ x, lv[i]? = some (some (.ref x)) ∧ f x := by
  unfold oA at h
  split at h
  · rename_i x hx
    exact ⟨x, hx, h⟩
  · exact h.elim
theorem oR_d {st : List Value} {f : Nat → List Value → Prop} (h : oR st f) : ∃ x r, st = .ref x :: r ∧ f x r := by
  unfold oR at h
  split at h
  · exact ⟨_, _, rfl, h⟩
  · exact h.elim
theorem oX_d {st : List Value} {f : Int32 → Nat → List Value → Prop} (h : oX st f) : ∃ i p r, st = .int i :: .ref p :: r ∧ f i p r := by
  unfold oX at h
  split at h
  · exact ⟨_, _, _, rfl, h⟩
  · exact h.elim
theorem oS_d {st : List Value} {f : Int32 → Int32 → Nat → List Value → Prop} (h : oS st f) : ∃ x i p r, st = .int x :: .int i :: .ref p :: r ∧ f x i p r := by
  unfold oS at h
  split at h
  · exact ⟨_, _, _, _, rfl, h⟩
  · exact h.elim
theorem oT_d {st : List Value} {f : Nat → Int32 → Nat → List Value → Prop} (h : oT st f) : ∃ x i p r, st = .ref x :: .int i :: .ref p :: r ∧ f x i p r := by
  unfold oT at h
  split at h
  · exact ⟨_, _, _, _, rfl, h⟩
  · exact h.elim
theorem oV_d {o : Option Nat} {f : Nat → Prop} (h : oV o f) : ∃ q, o = some q ∧ f q := by
  unfold oV at h
  split at h
  · exact h.elim
  · exact ⟨_, rfl, h⟩
theorem tk_d {n : Nat} {st : List Value} {f : List Value → List Value → Prop} (h : tk n st f) : ∃ vs r, st = vs.reverse ++ r ∧ vs.length = n ∧ (r.map Value.category).sum ≤ 8 ∧ f vs r := by
  obtain ⟨h1, h2⟩ := ck_d h
  simp only [Bool.and_eq_true, decide_eq_true_eq] at h1
  refine ⟨(st.take n).reverse, st.drop n, by rw [List.reverse_reverse, List.take_append_drop], ?_, h1.2, h2⟩
  rw [List.length_reverse, List.length_take]
  omega
theorem vw_at {ci : Nat} (h : ci < 12) : vwCl[ci]? = some (vwCl.getD ci ("", fun _ => ("", "", "", false), 0)) := by
  have h1 : ci < vwCl.length := h
  rw [List.getD_eq_getElem?_getD, List.getElem?_eq_getElem h1]
  rfl
theorem swt_d {x : Int32} {f : Nat → Prop} {df : Nat} : ∀ (ts : List Nat) (lo : Int32), 0 ≤ lo.toInt → lo.toInt + ts.length < 1000 → swt x f df lo ts → (∃ i, i < ts.length ∧ x.toInt = lo.toInt + i ∧ f (ts.getD i 0)) ∨ ((x.toInt < lo.toInt ∨ lo.toInt + ts.length ≤ x.toInt) ∧ f df)
  | [], lo, h0, h1, h => Or.inr ⟨by simp; omega, h⟩
  | t :: ts, lo, h0, h1, h => by
    have e1 : (lo + 1).toInt = lo.toInt + 1 := by
      simp only [List.length_cons] at h1
      rw [Int32.toInt_add]
      show (lo.toInt + 1).bmod (2 ^ 32) = _
      exact Int.bmod_eq_of_le (by omega) (by omega)
    unfold swt at h
    split at h
    · rename_i e
      exact Or.inl ⟨0, by simp, by rw [e]; simp, h⟩
    · rename_i e
      have e2 : x.toInt ≠ lo.toInt := fun z => e (Int32.toInt_inj.mp z)
      simp only [List.length_cons] at h1
      rcases swt_d ts (lo + 1) (by omega) (by omega) h with ⟨i, hi, hx, hf⟩ | ⟨hx, hf⟩
      · exact Or.inl ⟨i + 1, by simp; omega, by omega, by simpa using hf⟩
      · exact Or.inr ⟨by simp only [List.length_cons]; omega, hf⟩
theorem swl_d {x : Int32} {f : Nat → Prop} {df : Nat} (d0 : Int) : ∀ (ps : List (Int × Int)) (ts : List Nat), ts.length = ps.length → (∀ i, i < ps.length → (Int32.ofInt (ps.getD i (0, 0)).1).toInt = (ps.getD i (0, 0)).1) → swl x f df ps ts → (∃ i, i < ps.length ∧ Op.lookupswitch.offset ps d0 x.toInt = (ps.getD i (0, 0)).2 ∧ f (ts.getD i 0)) ∨ (Op.lookupswitch.offset ps d0 x.toInt = d0 ∧ f df)
  | [], ts, _, _, h => Or.inr ⟨rfl, by cases ts <;> exact h⟩
  | (a, o) :: ps, [], hl, _, h => by simp at hl
  | (a, o) :: ps, t :: ts, hl, hk, h => by
    have ha : (Int32.ofInt a).toInt = a := hk 0 (by simp)
    unfold swl at h
    split at h
    · rename_i e
      refine Or.inl ⟨0, by simp, ?_, h⟩
      rw [Op.lookupswitch.offset_cons, if_pos (by rw [e]; exact ha.symm)]
      rfl
    · rename_i e
      have e1 := lv_osw (o := o) (d := d0) (r := ps) e ha
      rcases swl_d d0 ps ts (by simpa using hl) (fun i hi => by have := hk (i + 1) (by simp; omega); simpa using this) h with ⟨i, hi, hx, hf⟩ | ⟨hx, hf⟩
      · exact Or.inl ⟨i + 1, by simp; omega, by rw [e1, hx]; simp, by simpa using hf⟩
      · exact Or.inr ⟨by rw [e1, hx], hf⟩
theorem mo_rf (h : Hp) : nc h ≤ nc h ∧ ns h ≤ ns h := ⟨Nat.le_refl _, Nat.le_refl _⟩
theorem slN_mono {a : Nat} : ∀ b : Nat, slN a ≤ slN (a + b)
  | 0 => Nat.le_refl _
  | b + 1 => Nat.le_trans (slN_mono b) (Nat.le_add_right _ _)
theorem mo_b (h : Hp) (k : Nat) (R' : Nat → Nat → Option Nat) : nc h ≤ nc (h.1 + k, h.2.1, h.2.2.1, R') ∧ ns h ≤ ns (h.1 + k, h.2.1, h.2.2.1, R') := by
  unfold nc ns
  have := slN_mono (a := h.1) k
  constructor
  · show h.1 + h.2.1 ≤ h.1 + k + h.2.1
    omega
  · show slN h.1 + 9 * h.2.1 ≤ slN (h.1 + k) + 9 * h.2.1
    omega
theorem mo_f (h : Hp) : nc h ≤ nc (h.1, h.2.1 + 1, h.2.2.1, h.2.2.2) ∧ ns h ≤ ns (h.1, h.2.1 + 1, h.2.2.1, h.2.2.2) := by
  unfold nc ns
  constructor
  · show h.1 + h.2.1 ≤ h.1 + (h.2.1 + 1)
    omega
  · show slN h.1 + 9 * h.2.1 ≤ slN h.1 + 9 * (h.2.1 + 1)
    omega
theorem go_ret {G : GX} {d : Nat} {M : MR} {j : Nat} {lv : Lc} {h : Hp} {r : Option Value} (hr : rtA M j r) : Go G d M j lv r.toList h r h := by
  refine ⟨mo_rf h, fun p e R s m args below meth c H locs cells slots ls Z cx hl hh hS hc0 hc1 hc2 K => ?_⟩
  have z := K H locs cells slots ls j hr hh hS rfl rfl
  have er : r.toList.map (trv G) = (r.map (trv G)).toList := by cases r <;> rfl
  rw [er]
  exact z
set_option maxHeartbeats 4000000 in
theorem sp_wp (hst : StrOK) (hmn : MnaOK) (hMT : ∀ i, useB i = true → chkM (mt i) = true) {G : GX} {d : Nat} {M : MR} {j : Nat} {e : Ent} {lv : Lc} {st : List Value} {h : Hp} {Q : Option Value → Hp → Prop} {nx : Nat → Lc → List Value → Hp → Prop} {rt : Option Value → Prop} {cl : Nat → List Value → (Option Value → Hp → Prop) → Prop} (hM : chkM M = true) (hf : ft M j = some e) (hs : sp d e j lv st h nx rt cl)
    (hnx : ∀ j' lv' st' h', nx j' lv' st' h' → wp G d M j' lv' st' h' Q) (hrt : ∀ v, rt v → rtB M v = true ∧ Q v h) (hcl : ∀ i vs K, cl i vs K → ∃ d', d = d' + 1 ∧ (la vs).length ≤ (mt i).2.2.2.2.1 ∧ wp G d' (mt i) 0 (en (mt i) vs) [] h K) : wp G d M j lv st h Q := by
  have hcn := chk_cls hM
  have hd0 := chk_d hM hf
  have hn0 := chk_n hM hf
  have ha := (chk_e hM hf).2.2
  have hpc := pcj_of hf
  have hsw := chk_s hM hf
  have back : ∀ {vs r : List Value} {r1 : Option Value} {h1 : Hp} {d' : Nat} {N : MR}, Go G d' N 0 (en N vs) [] h r1 h1 → StepH G d M j lv (vs.reverse ++ r) h (j + 1) lv (r1.toList ++ r) h1 → nx (j + 1) lv (r1.toList ++ r) h1 → wp G d M j lv (vs.reverse ++ r) h Q := fun g row k => (hnx _ _ _ _ k).stepH row g.1
  obtain ⟨ins, pc, as, v⟩ := e
  have hd : swB ins = false → decode M.2.2.1 (pcj M j) = .ok (ins, lenI ins) := hd0
  have hn : nfB ins = false → pcj M (j + 1) = pcj M j + lenI ins := hn0
  clear hd0 hn0
  cases ins
  case iadd =>
    obtain ⟨x, y, r, rfl, hs⟩ := o2_d (show o2 st (fun x y r => nx (j + 1) lv (.int (x + y) :: r) h) from hs)
    exact (hnx _ _ _ _ hs).step (g_iadd (hd rfl) (hn rfl))
  case isub =>
    obtain ⟨x, y, r, rfl, hs⟩ := o2_d (show o2 st (fun x y r => nx (j + 1) lv (.int (x - y) :: r) h) from hs)
    exact (hnx _ _ _ _ hs).step (g_isub (hd rfl) (hn rfl))
  case imul =>
    obtain ⟨x, y, r, rfl, hs⟩ := o2_d (show o2 st (fun x y r => nx (j + 1) lv (.int (x * y) :: r) h) from hs)
    exact (hnx _ _ _ _ hs).step (g_imul (hd rfl) (hn rfl))
  case iand =>
    obtain ⟨x, y, r, rfl, hs⟩ := o2_d (show o2 st (fun x y r => nx (j + 1) lv (.int (x &&& y) :: r) h) from hs)
    exact (hnx _ _ _ _ hs).step (g_iand (hd rfl) (hn rfl))
  case ior =>
    obtain ⟨x, y, r, rfl, hs⟩ := o2_d (show o2 st (fun x y r => nx (j + 1) lv (.int (x ||| y) :: r) h) from hs)
    exact (hnx _ _ _ _ hs).step (g_ior (hd rfl) (hn rfl))
  case ixor =>
    obtain ⟨x, y, r, rfl, hs⟩ := o2_d (show o2 st (fun x y r => nx (j + 1) lv (.int (x ^^^ y) :: r) h) from hs)
    exact (hnx _ _ _ _ hs).step (g_ixor (hd rfl) (hn rfl))
  case ishl =>
    obtain ⟨x, y, r, rfl, hs⟩ := o2_d (show o2 st (fun x y r => nx (j + 1) lv (.int (x <<< (y &&& 31)) :: r) h) from hs)
    exact (hnx _ _ _ _ hs).step (g_ishl (hd rfl) (hn rfl))
  case ishr =>
    obtain ⟨x, y, r, rfl, hs⟩ := o2_d (show o2 st (fun x y r => nx (j + 1) lv (.int (x >>> (y &&& 31)) :: r) h) from hs)
    exact (hnx _ _ _ _ hs).step (g_ishr (hd rfl) (hn rfl))
  case iushr =>
    obtain ⟨x, y, r, rfl, hs⟩ := o2_d (show o2 st (fun x y r => nx (j + 1) lv (.int ((x.toUInt32 >>> (y.toUInt32 &&& Int32.toUInt32 31)).toInt32) :: r) h) from hs)
    exact (hnx _ _ _ _ hs).step (g_iushr (hd rfl) (hn rfl))
  case idiv =>
    obtain ⟨x, y, r, rfl, hs⟩ := o2_d (show o2 st (fun x y r => ck (decide (y ≠ 0)) (nx (j + 1) lv (.int (x / y) :: r) h)) from hs)
    obtain ⟨h1, hs⟩ := ck_d hs
    exact (hnx _ _ _ _ hs).step (g_idiv (hd rfl) (hn rfl) (of_decide_eq_true h1))
  case irem =>
    obtain ⟨x, y, r, rfl, hs⟩ := o2_d (show o2 st (fun x y r => ck (decide (y ≠ 0)) (nx (j + 1) lv (.int (x - x / y * y) :: r) h)) from hs)
    obtain ⟨h1, hs⟩ := ck_d hs
    exact (hnx _ _ _ _ hs).step (g_irem (hd rfl) (hn rfl) (of_decide_eq_true h1))
  case ineg =>
    obtain ⟨x, r, rfl, hs⟩ := o1_d (show o1 st (fun x r => nx (j + 1) lv (.int (-x) :: r) h) from hs)
    exact (hnx _ _ _ _ hs).step (g_ineg (hd rfl) (hn rfl))
  case i2l =>
    obtain ⟨x, r, rfl, hs⟩ := o1_d (show o1 st (fun x r => nx (j + 1) lv (.long x.toInt64 :: r) h) from hs)
    exact (hnx _ _ _ _ hs).step (g_i2l (hd rfl) (hn rfl))
  case i2b =>
    obtain ⟨x, r, rfl, hs⟩ := o1_d (show o1 st (fun x r => nx (j + 1) lv (.int x.toInt8.toInt32 :: r) h) from hs)
    exact (hnx _ _ _ _ hs).step (g_i2b (hd rfl) (hn rfl))
  case i2s =>
    obtain ⟨x, r, rfl, hs⟩ := o1_d (show o1 st (fun x r => nx (j + 1) lv (.int x.toInt16.toInt32 :: r) h) from hs)
    exact (hnx _ _ _ _ hs).step (g_i2s (hd rfl) (hn rfl))
  case l2i =>
    obtain ⟨x, r, rfl, hs⟩ := o3_d (show o3 st (fun x r => nx (j + 1) lv (.int x.toInt32 :: r) h) from hs)
    exact (hnx _ _ _ _ hs).step (g_l2i (hd rfl) (hn rfl))
  case ladd =>
    obtain ⟨x, y, r, rfl, hs⟩ := o4_d (show o4 st (fun x y r => nx (j + 1) lv (.long (x + y) :: r) h) from hs)
    exact (hnx _ _ _ _ hs).step (g_ladd (hd rfl) (hn rfl))
  case lmul =>
    obtain ⟨x, y, r, rfl, hs⟩ := o4_d (show o4 st (fun x y r => nx (j + 1) lv (.long (x * y) :: r) h) from hs)
    exact (hnx _ _ _ _ hs).step (g_lmul (hd rfl) (hn rfl))
  case land =>
    obtain ⟨x, y, r, rfl, hs⟩ := o4_d (show o4 st (fun x y r => nx (j + 1) lv (.long (x &&& y) :: r) h) from hs)
    exact (hnx _ _ _ _ hs).step (g_land (hd rfl) (hn rfl))
  case lor =>
    obtain ⟨x, y, r, rfl, hs⟩ := o4_d (show o4 st (fun x y r => nx (j + 1) lv (.long (x ||| y) :: r) h) from hs)
    exact (hnx _ _ _ _ hs).step (g_lor (hd rfl) (hn rfl))
  case lcmp =>
    obtain ⟨x, y, r, rfl, hs⟩ := o4_d (show o4 st (fun x y r => nx (j + 1) lv (.int (lg_cmp x y) :: r) h) from hs)
    exact (hnx _ _ _ _ hs).step (g_lcmp (hd rfl) (hn rfl))
  case lshl =>
    obtain ⟨x, y, r, rfl, hs⟩ := o5_d (show o5 st (fun x y r => nx (j + 1) lv (.long (x <<< (y.toInt64 &&& 63)) :: r) h) from hs)
    exact (hnx _ _ _ _ hs).step (g_lshl (hd rfl) (hn rfl))
  case lshr =>
    obtain ⟨x, y, r, rfl, hs⟩ := o5_d (show o5 st (fun x y r => nx (j + 1) lv (.long (x >>> (y.toInt64 &&& 63)) :: r) h) from hs)
    exact (hnx _ _ _ _ hs).step (g_lshr (hd rfl) (hn rfl))
  case iload_n i =>
    obtain ⟨x, hx, hs⟩ := oI_d (show oI lv i.val (fun x => nx (j + 1) lv (.int x :: st) h) from hs)
    exact (hnx _ _ _ _ hs).step (g_iload_n (hd rfl) (hn rfl) hx)
  case iload i =>
    obtain ⟨x, hx, hs⟩ := oI_d (show oI lv i (fun x => nx (j + 1) lv (.int x :: st) h) from hs)
    exact (hnx _ _ _ _ hs).step (g_iload (hd rfl) (hn rfl) hx)
  case lload_n i =>
    obtain ⟨x, hx, hs⟩ := oL_d (show oL lv i.val (fun x => nx (j + 1) lv (.long x :: st) h) from hs)
    exact (hnx _ _ _ _ hs).step (g_lload_n (hd rfl) (hn rfl) hx)
  case lload i =>
    obtain ⟨x, hx, hs⟩ := oL_d (show oL lv i (fun x => nx (j + 1) lv (.long x :: st) h) from hs)
    exact (hnx _ _ _ _ hs).step (g_lload (hd rfl) (hn rfl) hx)
  case aload_n i =>
    obtain ⟨x, hx, hs⟩ := oA_d (show oA lv i.val (fun x => nx (j + 1) lv (.ref x :: st) h) from hs)
    exact (hnx _ _ _ _ hs).step (g_aload_n (hd rfl) (hn rfl) hx)
  case aload i =>
    obtain ⟨x, hx, hs⟩ := oA_d (show oA lv i (fun x => nx (j + 1) lv (.ref x :: st) h) from hs)
    exact (hnx _ _ _ _ hs).step (g_aload (hd rfl) (hn rfl) hx)
  case istore_n i =>
    obtain ⟨x, r, rfl, hs⟩ := o1_d (show o1 st (fun x r => nx (j + 1) (st1 lv i.val (.int x)) r h) from hs)
    exact (hnx _ _ _ _ hs).step (g_istore_n (hd rfl) (hn rfl) (of_decide_eq_true ha))
  case istore i =>
    obtain ⟨x, r, rfl, hs⟩ := o1_d (show o1 st (fun x r => nx (j + 1) (st1 lv i (.int x)) r h) from hs)
    exact (hnx _ _ _ _ hs).step (g_istore (hd rfl) (hn rfl) (of_decide_eq_true ha))
  case lstore_n i =>
    obtain ⟨x, r, rfl, hs⟩ := o3_d (show o3 st (fun x r => nx (j + 1) (st2 lv i.val (.long x)) r h) from hs)
    exact (hnx _ _ _ _ hs).step (g_lstore_n (hd rfl) (hn rfl) (of_decide_eq_true ha))
  case lstore i =>
    obtain ⟨x, r, rfl, hs⟩ := o3_d (show o3 st (fun x r => nx (j + 1) (st2 lv i (.long x)) r h) from hs)
    exact (hnx _ _ _ _ hs).step (g_lstore (hd rfl) (hn rfl) (of_decide_eq_true ha))
  case astore_n i =>
    obtain ⟨x, r, rfl, hs⟩ := oR_d (show oR st (fun x r => nx (j + 1) (st1 lv i.val (.ref x)) r h) from hs)
    exact (hnx _ _ _ _ hs).step (g_astore_n (hd rfl) (hn rfl) (of_decide_eq_true ha))
  case astore i =>
    obtain ⟨x, r, rfl, hs⟩ := oR_d (show oR st (fun x r => nx (j + 1) (st1 lv i (.ref x)) r h) from hs)
    exact (hnx _ _ _ _ hs).step (g_astore (hd rfl) (hn rfl) (of_decide_eq_true ha))
  case iinc i n =>
    obtain ⟨x, hx, hs⟩ := oI_d (show oI lv i (fun x => nx (j + 1) (st1 lv i (.int (x + Int32.ofInt n))) st h) from hs)
    exact (hnx _ _ _ _ hs).step (g_iinc (hd rfl) (hn rfl) hx (of_decide_eq_true ha))
  case iconst n =>
    have hv : v = .int (Int32.ofInt n) := of_decide_eq_true ha
    subst hv
    exact (hnx _ _ _ _ hs).step (g_iconst (hd rfl) (hn rfl) rfl)
  case bipush n =>
    have hv : v = .int (Int8.ofInt n).toInt32 := of_decide_eq_true ha
    subst hv
    exact (hnx _ _ _ _ hs).step (g_bipush (hd rfl) (hn rfl) rfl)
  case sipush n =>
    have hv : v = .int (Int16.ofInt n).toInt32 := of_decide_eq_true ha
    subst hv
    exact (hnx _ _ _ _ hs).step (g_sipush (hd rfl) (hn rfl) rfl)
  case lconst n =>
    have hv : v = .long (Int64.ofNat (n : Nat)) := of_decide_eq_true ha
    subst hv
    exact (hnx _ _ _ _ hs).step (g_lconst (hd rfl) (hn rfl) rfl)
  case ldc n =>
    have ha2 : argB M (.ldc n, pc, as, v) = true := ha
    unfold argB at ha2
    simp only at ha2
    cases v with
    | int x =>
      have hw := tb_kc _ (List.mem_map.mpr ⟨_, List.contains_iff_mem.mp ha2, rfl⟩)
      unfold kcc at hw
      rw [hcn] at hw
      exact (hnx _ _ _ _ hs).step (g_ldc (hd rfl) (hn rfl) hw)
    | ref p =>
      simp only [Bool.and_eq_true, decide_eq_true_eq, List.any_eq_true, beq_iff_eq] at ha2
      obtain ⟨hc, q, hq, hq1, hq2⟩ := ha2
      subst hq2
      exact (hnx _ _ _ _ hs).stepH ((hst G d M j lv st h n hc).1 q hq hq1 (hd rfl) (hn rfl)) (mo_rf h)
    | _ => cases ha2
  case ldc_w n =>
    have ha2 : argB M (.ldc_w n, pc, as, v) = true := ha
    unfold argB at ha2
    simp only at ha2
    cases v with
    | int x =>
      have hw := tb_kc _ (List.mem_map.mpr ⟨_, List.contains_iff_mem.mp ha2, rfl⟩)
      unfold kcc at hw
      rw [hcn] at hw
      exact (hnx _ _ _ _ hs).step (g_ldcw (hd rfl) (hn rfl) hw)
    | _ => cases ha2
  case ldc2_w n =>
    have ha2 : argB M (.ldc2_w n, pc, as, v) = true := ha
    unfold argB at ha2
    simp only at ha2
    cases v with
    | long x =>
      have hw := tb_kl _ (List.mem_map.mpr ⟨_, List.contains_iff_mem.mp ha2, rfl⟩)
      unfold klc at hw
      rw [hcn] at hw
      exact (hnx _ _ _ _ hs).step (g_ldc2 (hd rfl) (hn rfl) hw)
    | _ => cases ha2
  case dup =>
    have hs2 : sp d (.dup, pc, as, v) j lv st h nx rt cl := hs
    unfold sp at hs2
    simp only at hs2
    split at hs2
    · exact (hnx _ _ _ _ hs2).step (g_dupi (hd rfl) (hn rfl))
    · exact (hnx _ _ _ _ hs2).step (g_dupr (hd rfl) (hn rfl))
    · exact hs2.elim
  case dup2 =>
    have hs2 : sp d (.dup2, pc, as, v) j lv st h nx rt cl := hs
    unfold sp at hs2
    simp only at hs2
    split at hs2
    · exact (hnx _ _ _ _ hs2).step (g_dup2 (hd rfl) (hn rfl))
    · exact hs2.elim
  case goto off =>
    have ht : (pc : Int) + off = (pcj M (as.getD 0 0) : Int) := of_decide_eq_true ha
    have hpc : pcj M j = pc := hpc
    rw [← hpc] at ht
    exact (hnx _ _ _ _ hs).step (g_goto (hd rfl) ht)
  case ifCond c off =>
    have ht : (pc : Int) + off = (pcj M (as.getD 0 0) : Int) := of_decide_eq_true ha
    have hpc : pcj M j = pc := hpc
    rw [← hpc] at ht
    obtain ⟨x, r, rfl, hs⟩ := o1_d (show o1 st (fun x r => cnd c x 0 (nx (as.getD 0 0) lv r h) (nx (j + 1) lv r h)) from hs)
    exact wp_if (hd rfl) ht (hn rfl) (hnx _ _ _ _) (hnx _ _ _ _) hs
  case if_icmp c off =>
    have ht : (pc : Int) + off = (pcj M (as.getD 0 0) : Int) := of_decide_eq_true ha
    have hpc : pcj M j = pc := hpc
    rw [← hpc] at ht
    obtain ⟨x, y, r, rfl, hs⟩ := o2_d (show o2 st (fun x y r => cnd c x y (nx (as.getD 0 0) lv r h) (nx (j + 1) lv r h)) from hs)
    exact wp_icmp (hd rfl) ht (hn rfl) (hnx _ _ _ _) (hnx _ _ _ _) hs
  case tableswitch df lo hi offs =>
    have ha2 : argB M (.tableswitch df lo hi offs, pc, as, v) = true := ha
    unfold argB at ha2
    simp only [Bool.and_eq_true, decide_eq_true_eq] at ha2
    obtain ⟨t0, t1, t2, t3, t4, t5⟩ := ha2
    have t0 : (pc : Int) + df = (pcj M (as.getD 0 0) : Int) := of_decide_eq_true t0
    have hpc : pcj M j = pc := hpc
    rw [← hpc] at t0
    obtain ⟨n, hdn⟩ := hsw
    have elo : (Int32.ofInt lo).toInt = lo := by
      rw [Int32.toInt_ofInt, show Int32.size = 4294967296 from rfl]
      exact Int.bmod_eq_of_le (by omega) (by omega)
    obtain ⟨x, r, rfl, hs⟩ := o1_d (show o1 st (fun x r => swt x (fun t => nx t lv r h) (as.getD 0 0) (Int32.ofInt lo) (as.drop 1)) from hs)
    rcases swt_d (as.drop 1) (Int32.ofInt lo) (by omega) (by rw [elo, t4]; exact t3) hs with ⟨i, hi, hx, hk⟩ | ⟨hx, hk⟩
    · rw [elo] at hx
      rw [t4] at hi
      have t6 := List.all_eq_true.mp t5 i (List.mem_range.mpr hi)
      have t7 : (pc : Int) + offs.getD i 0 = (pcj M ((as.drop 1).getD i 0) : Int) := of_decide_eq_true t6
      rw [← hpc] at t7
      refine (hnx _ _ _ _ hk).step (fun p e R s m args below meth c H locs cells slots ls Z cx hl K => lv_tableIn cx.1 cx.2.1 hdn (by omega) (by omega) (off := offs.getD i 0) ?_ t7 (K ls hl))
      rw [show (x.toInt - lo).toNat = i by omega]
      rw [Array.getD_eq_getD_getElem?, Array.getElem?_eq_getElem hi]
      rfl
    · rw [elo, t4] at hx
      exact (hnx _ _ _ _ hk).step (fun p e R s m args below meth c H locs cells slots ls Z cx hl K => lv_tableOut cx.1 cx.2.1 hdn (by omega) t0 (K ls hl))
  case lookupswitch df ps =>
    have ha2 : argB M (.lookupswitch df ps, pc, as, v) = true := ha
    unfold argB at ha2
    simp only [Bool.and_eq_true] at ha2
    obtain ⟨t0, t1, t2, t3⟩ := ha2
    have t0 : (pc : Int) + df = (pcj M (as.getD 0 0) : Int) := of_decide_eq_true t0
    have t2 : (as.drop 1).length = ps.toList.length := of_decide_eq_true t2
    have hpc : pcj M j = pc := hpc
    rw [← hpc] at t0
    obtain ⟨n, hdn⟩ := hsw
    have t4 : ∀ i, i < ps.toList.length → (pc : Int) + (ps.toList.getD i (0, 0)).2 = (pcj M ((as.drop 1).getD i 0) : Int) ∧ (Int32.ofInt (ps.toList.getD i (0, 0)).1).toInt = (ps.toList.getD i (0, 0)).1 := fun i hi => by
      have := List.all_eq_true.mp t3 i (List.mem_range.mpr hi)
      rw [Bool.and_eq_true] at this
      exact ⟨of_decide_eq_true this.1, of_decide_eq_true this.2⟩
    obtain ⟨x, r, rfl, hs⟩ := o1_d (show o1 st (fun x r => swl x (fun t => nx t lv r h) (as.getD 0 0) ps.toList (as.drop 1)) from hs)
    rcases swl_d df ps.toList (as.drop 1) t2 (fun i hi => (t4 i hi).2) hs with ⟨i, hi, hx, hk⟩ | ⟨hx, hk⟩
    · have t7 := (t4 i hi).1
      rw [← hpc] at t7
      exact (hnx _ _ _ _ hk).step (fun p e R s m args below meth c H locs cells slots ls Z cx hl K => lv_lookup cx.1 cx.2.1 hdn t1 hx t7 (K ls hl))
    · exact (hnx _ _ _ _ hk).step (fun p e R s m args below meth c H locs cells slots ls Z cx hl K => lv_lookup cx.1 cx.2.1 hdn t1 hx t0 (K ls hl))
  case getfield ix =>
    have ha2 : argB M (.getfield ix, pc, as, v) = true := ha
    unfold argB at ha2
    simp only [Bool.and_eq_true, decide_eq_true_eq] at ha2
    obtain ⟨t1, t2, t3⟩ := ha2
    have hw := tb_fl _ (List.mem_map.mpr ⟨_, List.contains_iff_mem.mp t1, rfl⟩)
    unfold flc at hw
    simp only at hw
    rw [hcn] at hw
    obtain ⟨p, r, rfl, hs⟩ := oR_d (show oR st (fun p r => ck (okB h p (as.getD 0 0)) (match kr (as.getD 0 0) (as.getD 1 0) with
      | true => oV (h.2.2.2 p (as.getD 1 0)) fun q => nx (j + 1) lv (.ref q :: r) h
      | false => nx (j + 1) lv (.int (h.2.2.1 p (as.getD 1 0)) :: r) h)) from hs)
    obtain ⟨ok, hs⟩ := ck_d hs
    cases hk : kr (as.getD 0 0) (as.getD 1 0) with
    | true =>
      rw [hk] at hs
      obtain ⟨x, hx, hs⟩ := oV_d hs
      exact (hnx _ _ _ _ hs).stepH (g_getr (hd rfl) (hn rfl) (vw_at t2) t3 hw hk ok hx) (mo_rf h)
    | false =>
      rw [hk] at hs
      exact (hnx _ _ _ _ hs).stepH (g_geti (hd rfl) (hn rfl) (vw_at t2) t3 hw hk ok) (mo_rf h)
  case putfield ix =>
    have ha2 : argB M (.putfield ix, pc, as, v) = true := ha
    unfold argB at ha2
    simp only [Bool.and_eq_true, decide_eq_true_eq, Bool.or_eq_true] at ha2
    obtain ⟨t1, t2, t3, t4⟩ := ha2
    have hw := tb_fl _ (List.mem_map.mpr ⟨_, List.contains_iff_mem.mp t1, rfl⟩)
    unfold flc at hw
    simp only at hw
    rw [hcn] at hw
    have hs2 : sp d (.putfield ix, pc, as, v) j lv st h nx rt cl := hs
    unfold sp at hs2
    simp only at hs2
    split at hs2
    · rename_i hk
      obtain ⟨ok, hs2⟩ := ck_d hs2
      exact (hnx _ _ _ _ hs2).stepH (g_putr (hd rfl) (hn rfl) (vw_at t2) t3 hw hk t4 ok) (mo_rf h)
    · rename_i hk
      obtain ⟨ok, hs2⟩ := ck_d hs2
      rw [Bool.and_eq_true] at ok
      exact (hnx _ _ _ _ hs2).stepH (g_puti (hd rfl) (hn rfl) (vw_at t2) t3 hw hk ok.2 t4 ok.1) (mo_rf h)
    · exact hs2.elim
  case getstatic ix =>
    have ha2 : argB M (.getstatic ix, pc, as, v) = true := ha
    unfold argB at ha2
    simp only [Bool.and_eq_true, decide_eq_true_eq, Bool.or_eq_true] at ha2
    obtain ⟨t1, t2⟩ := ha2
    rcases t2 with ⟨rfl, rfl⟩ | ⟨rfl, rfl⟩
    · exact (hnx _ _ _ _ hs).stepH (g_gets (hd rfl) (hn rfl) t1 (Or.inl ⟨rfl, rfl⟩)) (mo_rf h)
    · exact (hnx _ _ _ _ hs).stepH (g_gets (hd rfl) (hn rfl) t1 (Or.inr ⟨rfl, rfl⟩)) (mo_rf h)
  case iaload =>
    obtain ⟨i, p, r, rfl, k0⟩ := oX_d (show oX st (fun i p r => if p < 100000 then ck (okB h p 20) (ck (ixB i (SH p).2) (nx (j + 1) lv (.int (h.2.2.1 p i.toNatClampNeg) :: r) h)) else if p = 100300 then ck (ixB i (h.2.2.1 100301 0).toNatClampNeg) (nx (j + 1) lv (.int (h.2.2.1 100300 i.toNatClampNeg) :: r) h) else ck (decide (p = 100100 ∨ p = 100101)) (ck (ixB i 16) (nx (j + 1) lv (.int (kA p i.toNatClampNeg) :: r) h))) from hs)
    split at k0
    · obtain ⟨ok, k1⟩ := ck_d k0
      obtain ⟨hi, k2⟩ := ck_d k1
      exact (hnx _ _ _ _ k2).stepH (g_iald (hd rfl) (hn rfl) ok hi) (mo_rf h)
    · split at k0
      · rename_i hp
        subst hp
        obtain ⟨hi, k2⟩ := ck_d k0
        exact (hnx _ _ _ _ k2).stepH (g_sld (hd rfl) (hn rfl) hi) (mo_rf h)
      · obtain ⟨ok, k1⟩ := ck_d k0
        obtain ⟨hi, k2⟩ := ck_d k1
        exact (hnx _ _ _ _ k2).stepH (g_cald (hd rfl) (hn rfl) (of_decide_eq_true ok) hi) (mo_rf h)
  case baload =>
    obtain ⟨i, p, r, rfl, hs⟩ := oX_d (show oX st (fun i p r => ck (okB h p 21 || okB h p 22) (ck (ixB i (SH p).2) (nx (j + 1) lv (.int (h.2.2.1 p i.toNatClampNeg) :: r) h))) from hs)
    obtain ⟨ok, hs⟩ := ck_d hs
    obtain ⟨hi, hs⟩ := ck_d hs
    exact (hnx _ _ _ _ hs).stepH (g_bald (hd rfl) (hn rfl) ok hi) (mo_rf h)
  case aaload =>
    obtain ⟨i, p, r, rfl, hs⟩ := oX_d (show oX st (fun i p r => ck (okB h p 23 || (okB h p 24 || okB h p 25)) (ck (ixB i (SH p).2) (oV (h.2.2.2 p i.toNatClampNeg) fun q => nx (j + 1) lv (.ref q :: r) h))) from hs)
    obtain ⟨ok, hs⟩ := ck_d hs
    obtain ⟨hi, hs⟩ := ck_d hs
    obtain ⟨x, hx, hs⟩ := oV_d hs
    exact (hnx _ _ _ _ hs).stepH (g_aald (hd rfl) (hn rfl) ok hi hx) (mo_rf h)
  case iastore =>
    obtain ⟨x, i, p, r, rfl, hs⟩ := oS_d (show oS st (fun x i p r => ck (okB h p 20) (ck (ixB i (SH p).2) (nx (j + 1) lv r (hI h p i.toNatClampNeg x)))) from hs)
    obtain ⟨ok, hs⟩ := ck_d hs
    obtain ⟨hi, hs⟩ := ck_d hs
    exact (hnx _ _ _ _ hs).stepH (g_iast (hd rfl) (hn rfl) ok hi) (mo_rf h)
  case bastore =>
    obtain ⟨x, i, p, r, rfl, hs⟩ := oS_d (show oS st (fun x i p r => ck (ixB i (SH p).2) (match okB h p 21, okB h p 22 with
      | true, _ => nx (j + 1) lv r (hI h p i.toNatClampNeg x.toInt8.toInt32)
      | false, true => nx (j + 1) lv r (hI h p i.toNatClampNeg (x &&& 1))
      | false, false => False)) from hs)
    obtain ⟨hi, hs⟩ := ck_d hs
    split at hs
    · rename_i ok
      exact (hnx _ _ _ _ hs).stepH (g_bast (hd rfl) (hn rfl) ok hi) (mo_rf h)
    · rename_i ok
      exact (hnx _ _ _ _ hs).stepH (g_zast (hd rfl) (hn rfl) ok hi) (mo_rf h)
    · exact hs.elim
  case aastore =>
    obtain ⟨x, i, p, r, rfl, hs⟩ := oT_d (show oT st (fun x i p r => ck (okB h p 23 && okB h x 6 || okB h p 24 && okB h x 3) (ck (ixB i (SH p).2) (nx (j + 1) lv r (hR h p i.toNatClampNeg (some x))))) from hs)
    obtain ⟨ok, hs⟩ := ck_d hs
    obtain ⟨hi, hs⟩ := ck_d hs
    exact (hnx _ _ _ _ hs).stepH (g_aast (hd rfl) (hn rfl) ok hi) (mo_rf h)
  case arraylength =>
    obtain ⟨p, r, rfl, k0⟩ := oR_d (show oR st (fun p r => if p = 100300 then nx (j + 1) lv (.int (h.2.2.1 100301 0) :: r) h else ck (okB h p 20) (nx (j + 1) lv (.int (Int32.ofNat (SH p).2) :: r) h)) from hs)
    split at k0
    · rename_i hp
      subst hp
      exact (hnx _ _ _ _ k0).stepH (g_slen (hd rfl) (hn rfl)) (mo_rf h)
    · obtain ⟨ok, k1⟩ := ck_d k0
      exact (hnx _ _ _ _ k1).stepH (g_alen (hd rfl) (hn rfl) ok) (mo_rf h)
  case new ix =>
    have ha2 : argB M (.new ix, pc, as, v) = true := ha
    unfold argB at ha2
    simp only [Bool.and_eq_true, decide_eq_true_eq] at ha2
    obtain ⟨t1, t2⟩ := ha2
    have hw := tb_nc _ (List.mem_map.mpr ⟨_, List.contains_iff_mem.mp t2, rfl⟩)
    unfold ncc at hw
    simp only at hw
    rw [hcn] at hw
    have hs2 : sp d (.new ix, pc, as, v) j lv st h nx rt cl := hs
    unfold sp at hs2
    simp only at hs2
    split at hs2
    · rename_i h3
      have h3 : as.getD 0 0 = 3 := of_decide_eq_true h3
      obtain ⟨ok, hs2⟩ := ck_d hs2
      simp only [Bool.and_eq_true, decide_eq_true_eq] at ok
      rw [h3] at hw
      exact (hnx _ _ _ _ hs2).stepH (g_newf (hd rfl) (hn rfl) hw ok.1 ok.2) (mo_f h)
    · obtain ⟨ok, hs2⟩ := ck_d hs2
      simp only [Bool.and_eq_true, decide_eq_true_eq] at ok
      exact (hnx _ _ _ _ hs2).stepH (g_newb (hd rfl) (hn rfl) (vw_at t1) hw ok.1 ok.2.1 ok.2.2) (mo_b h 1 _)
  case newarray ty =>
    have ha2 : argB M (.newarray ty, pc, as, v) = true := ha
    unfold argB at ha2
    simp only [Bool.or_eq_true, decide_eq_true_eq] at ha2
    obtain ⟨x, r, rfl, k0⟩ := o1_d (show o1 st (fun x r => ck (decide (0 ≤ x) && (decide (h.2.1 = 0) && (decide (h.1 < 147) && decide (SH h.1 = (as.getD 0 0, x.toNatClampNeg))))) (nx (j + 1) lv (.ref h.1 :: r) (h.1 + 1, h.2.1, h.2.2.1, h.2.2.2))) from hs)
    obtain ⟨ok, k1⟩ := ck_d k0
    simp only [Bool.and_eq_true, decide_eq_true_eq] at ok
    obtain ⟨o1, o2, o3, o4⟩ := ok
    have hsm : x.toNatClampNeg ≤ 100000 := by have := sh_sm h.1; rw [o4] at this; exact this
    rcases ha2 with ⟨e1, rfl⟩ | ⟨e1, rfl⟩ | ⟨e1, rfl⟩
    · exact (hnx _ _ _ _ k1).stepH (g_newa (t := .int) (t0 := 0) (hd rfl) (hn rfl) (Or.inl ⟨e1, rfl, rfl, rfl⟩) o1 o2 o3 o4 hsm) (mo_b h 1 _)
    · exact (hnx _ _ _ _ k1).stepH (g_newa (t := .byte) (t0 := 1) (hd rfl) (hn rfl) (Or.inr (Or.inl ⟨e1, rfl, rfl, rfl⟩)) o1 o2 o3 o4 hsm) (mo_b h 1 _)
    · exact (hnx _ _ _ _ k1).stepH (g_newa (t := .boolean) (t0 := 2) (hd rfl) (hn rfl) (Or.inr (Or.inr ⟨e1, rfl, rfl, rfl⟩)) o1 o2 o3 o4 hsm) (mo_b h 1 _)
  case anewarray ix =>
    have ha2 : argB M (.anewarray ix, pc, as, v) = true := ha
    unfold argB at ha2
    simp only [Bool.or_eq_true, Bool.and_eq_true, decide_eq_true_eq] at ha2
    obtain ⟨x, r, rfl, hs⟩ := o1_d (show o1 st (fun x r => ck (decide (0 ≤ x) && (decide (h.2.1 = 0) && (decide (h.1 < 147) && decide (SH h.1 = (as.getD 0 0, x.toNatClampNeg))))) (nx (j + 1) lv (.ref h.1 :: r) (h.1 + 1, h.2.1, h.2.2.1, h.2.2.2))) from hs)
    obtain ⟨ok, hs⟩ := ck_d hs
    simp only [Bool.and_eq_true, decide_eq_true_eq] at ok
    obtain ⟨o1, o2, o3, o4⟩ := ok
    have hsm : x.toNatClampNeg ≤ 100000 := by have := sh_sm h.1; rw [o4] at this; exact this
    rcases ha2 with ⟨e1, t2⟩ | ⟨e1, t2⟩
    · have hw := tb_nc _ (List.mem_map.mpr ⟨_, List.contains_iff_mem.mp t2, rfl⟩)
      unfold ncc at hw
      simp only at hw
      rw [hcn] at hw
      exact (hnx _ _ _ _ hs).stepH (g_newq (C := "WreckCourt$Sheet") (t0 := 3) (hd rfl) (hn rfl) (Or.inl ⟨e1, rfl, rfl⟩) hw o1 o2 o3 o4 hsm) (mo_b h 1 _)
    · have hw := tb_nc _ (List.mem_map.mpr ⟨_, List.contains_iff_mem.mp t2, rfl⟩)
      unfold ncc at hw
      simp only at hw
      rw [hcn] at hw
      exact (hnx _ _ _ _ hs).stepH (g_newq (C := "WreckCourt$Fact") (t0 := 4) (hd rfl) (hn rfl) (Or.inr ⟨e1, rfl, rfl⟩) hw o1 o2 o3 o4 hsm) (mo_b h 1 _)
  case multianewarray ix dm =>
    have ha2 : argB M (.multianewarray ix dm, pc, as, v) = true := ha
    unfold argB at ha2
    simp only [Bool.or_eq_true, Bool.and_eq_true, decide_eq_true_eq] at ha2
    obtain ⟨rfl, t1⟩ := ha2
    obtain ⟨n, k, r, rfl, hs⟩ := o2_d (show o2 st (fun n k r => ck (decide (0 ≤ n) && (decide (0 ≤ k) && (decide (h.2.1 = 0) && (decide (h.1 + n.toNatClampNeg < 147) && (decide (SH h.1 = (25, n.toNatClampNeg)) && (List.range n.toNatClampNeg).all (fun i => decide (SH (h.1 + 1 + i) = (20, k.toNatClampNeg)))))))) (nx (j + 1) lv (.ref h.1 :: r) (h.1 + 1 + n.toNatClampNeg, h.2.1, h.2.2.1, fun q i => if q = h.1 then (if i < n.toNatClampNeg then some (h.1 + 1 + i) else none) else h.2.2.2 q i))) from hs)
    obtain ⟨ok, hs⟩ := ck_d hs
    simp only [Bool.and_eq_true, decide_eq_true_eq, List.all_eq_true, List.mem_range] at ok
    obtain ⟨o1, o2, o3, o4, o5, o6⟩ := ok
    have mo := mo_b h (1 + n.toNatClampNeg) (fun q i => if q = h.1 then (if i < n.toNatClampNeg then some (h.1 + 1 + i) else none) else h.2.2.2 q i)
    rw [show h.1 + (1 + n.toNatClampNeg) = h.1 + 1 + n.toNatClampNeg by omega] at mo
    exact (hnx _ _ _ _ hs).stepH (hmn G d M j lv r h ix n k (hd rfl) (hn rfl) t1 o1 o2 o3 o4 o5 o6) mo
  case ireturn =>
    have hs2 : sp d (.ireturn, pc, as, v) j lv st h nx rt cl := hs
    unfold sp at hs2
    simp only at hs2
    split at hs2
    · obtain ⟨h1, h2⟩ := hrt _ hs2
      exact ⟨_, h, go_ret ⟨_, hf, h1, Or.inl ⟨rfl, _, rfl⟩⟩, h2⟩
    · exact hs2.elim
  case lreturn =>
    have hs2 : sp d (.lreturn, pc, as, v) j lv st h nx rt cl := hs
    unfold sp at hs2
    simp only at hs2
    split at hs2
    · obtain ⟨h1, h2⟩ := hrt _ hs2
      exact ⟨_, h, go_ret ⟨_, hf, h1, Or.inr (Or.inl ⟨rfl, _, rfl⟩)⟩, h2⟩
    · exact hs2.elim
  case return_ =>
    have hs2 : sp d (.return_, pc, as, v) j lv st h nx rt cl := hs
    unfold sp at hs2
    simp only at hs2
    split at hs2
    · obtain ⟨h1, h2⟩ := hrt _ hs2
      exact ⟨_, h, go_ret ⟨_, hf, h1, Or.inr (Or.inr ⟨rfl, rfl⟩)⟩, h2⟩
    · exact hs2.elim
  case invokestatic ix =>
    have ha2 : argB M (.invokestatic ix, pc, as, v) = true := ha
    have hs2 : sp d (.invokestatic ix, pc, as, v) j lv st h nx rt cl := hs
    unfold argB at ha2
    unfold sp at hs2
    simp only at ha2 hs2
    have gen : ∀ (N : Nat) (hNc : calB N (as.getD 2 0) = true) (hNs : SMF.contains N = true) (row : ∀ {vs r : List Value} {r1 : Option Value} {h1 : Hp} {d' : Nat}, d = d' + 1 → vs.length = as.getD 2 0 → (la vs).length ≤ (mt N).2.2.2.2.1 → (r.map Value.category).sum ≤ 8 → Go G d' (mt N) 0 (en (mt N) vs) [] h r1 h1 → StepH G d M j lv (vs.reverse ++ r) h (j + 1) lv (r1.toList ++ r) h1), tk (as.getD 2 0) st (fun vs r => cl N vs (fun v h1 => nx (j + 1) lv (v.toList ++ r) h1)) → wp G d M j lv st h Q := fun N hNc hNs row hk => by
      obtain ⟨vs, r, rfl, hlen, hcat, hk⟩ := tk_d hk
      obtain ⟨d', hd', hla, r1, h1, g, hk⟩ := hcl _ _ _ hk
      exact back g (row hd' hlen hla hcat g) hk
    split at ha2
    · rename_i hk
      simp only [Bool.and_eq_true] at ha2
      obtain ⟨t1, t2, t3⟩ := ha2
      have hw := tb_ml _ (List.mem_map.mpr ⟨_, List.contains_iff_mem.mp t1, rfl⟩)
      unfold mlc at hw
      simp only at hw
      rw [hcn] at hw
      rw [hk] at hs2
      refine gen _ t3 t2 (fun hd' hlen hla hcat g => ?_) hs2
      subst hd'
      exact g_callS (hd rfl) (hn rfl) (chk_m (hMT _ (cal_ok t3).1)) (cal_ok t3).2 hw (tb_sm _ (List.mem_map.mpr ⟨_, List.contains_iff_mem.mp t2, rfl⟩)) hlen hla hcat g
    · rename_i hk
      simp only [Bool.and_eq_true] at ha2
      obtain ⟨t1, t2, t3⟩ := ha2
      rw [hk] at hs2
      refine gen _ t3 t2 (fun hd' hlen hla hcat g => ?_) hs2
      subst hd'
      exact g_callSN (hd rfl) (hn rfl) (chk_m (hMT _ (cal_ok t3).1)) (cal_ok t3).2 (List.contains_iff_mem.mp t1) hcn rfl rfl (tb_sm _ (List.mem_map.mpr ⟨_, List.contains_iff_mem.mp t2, rfl⟩)) hlen hla hcat g
    · rename_i hk
      rw [hk] at hs2
      simp only [Bool.and_eq_true, decide_eq_true_eq] at ha2
      obtain ⟨t1, rfl⟩ := ha2
      simp only at hs2
      split at hs2
      · obtain ⟨ok, hs2⟩ := ck_d hs2
        simp only [Bool.and_eq_true, decide_eq_true_eq] at ok
        obtain ⟨o1, o2, o3, o4, o5, o6, o7, o8, o9⟩ := ok
        exact (hnx _ _ _ _ hs2).stepH (g_copy (hd rfl) (hn rfl) t1 o1 o2 o3 o4 o5 o6 o7 o8 o9) (mo_rf h)
      · exact hs2.elim
    · rename_i hk
      rw [hk] at hs2
      have t1 := ha2
      have hw := tb_ml _ (List.mem_map.mpr ⟨_, List.contains_iff_mem.mp t1, rfl⟩)
      unfold mlc at hw
      simp only at hw
      rw [hcn] at hw
      obtain ⟨x, y, r, rfl, hs2⟩ := o2_d hs2
      obtain ⟨ok, hs2⟩ := ck_d hs2
      simp only [Bool.and_eq_true, decide_eq_true_eq] at ok
      exact (hnx _ _ _ _ hs2).stepH (g_min (hd rfl) (hn rfl) hw ok.1 ok.2) (mo_rf h)
    · rename_i hk
      rw [hk] at hs2
      have t1 := ha2
      have hw := tb_ml _ (List.mem_map.mpr ⟨_, List.contains_iff_mem.mp t1, rfl⟩)
      unfold mlc at hw
      simp only at hw
      rw [hcn] at hw
      obtain ⟨x, y, r, rfl, hs2⟩ := o2_d hs2
      obtain ⟨ok, hs2⟩ := ck_d hs2
      simp only [Bool.and_eq_true, decide_eq_true_eq] at ok
      exact (hnx _ _ _ _ hs2).stepH (g_max (hd rfl) (hn rfl) hw ok.1 ok.2) (mo_rf h)
    · rename_i hk
      rw [hk] at hs2
      have t1 := ha2
      have hw := tb_ml _ (List.mem_map.mpr ⟨_, List.contains_iff_mem.mp t1, rfl⟩)
      unfold mlc at hw
      simp only at hw
      rw [hcn] at hw
      obtain ⟨x, r, rfl, hs2⟩ := o1_d hs2
      obtain ⟨ok, hs2⟩ := ck_d hs2
      simp only [Bool.and_eq_true, decide_eq_true_eq] at ok
      exact (hnx _ _ _ _ hs2).stepH (g_abs (hd rfl) (hn rfl) hw ok.1 ok.2) (mo_rf h)
    · cases ha2
  case invokevirtual ix =>
    have ha2 : argB M (.invokevirtual ix, pc, as, v) = true := ha
    have hs2 : sp d (.invokevirtual ix, pc, as, v) j lv st h nx rt cl := hs
    unfold argB at ha2
    unfold sp at hs2
    simp only at ha2 hs2
    split at ha2
    · rename_i hk
      rw [hk] at hs2
      simp only [Bool.and_eq_true, decide_eq_true_eq] at ha2
      obtain ⟨t1, t2, t3, t4, t5, t6, t7⟩ := ha2
      have hw := tb_ml _ (List.mem_map.mpr ⟨_, List.contains_iff_mem.mp t1, rfl⟩)
      unfold mlc at hw
      simp only at hw
      rw [hcn] at hw
      obtain ⟨vs, r, rfl, hlen, hcat, k0⟩ := tk_d hs2
      obtain ⟨ok, k1⟩ := ck_d k0
      obtain ⟨d', rfl, hla, r1, h1, g, k2⟩ := hcl _ _ _ k1
      cases vs with
      | nil => cases ok
      | cons w vs1 =>
        cases w with
        | ref p0 =>
          refine back g (g_callV (hd rfl) (hn rfl) (chk_m (hMT _ (cal_ok t5).1)) (cal_ok t5).2 hw (tb_im _ (List.mem_map.mpr ⟨_, List.contains_iff_mem.mp t2, rfl⟩)) (tb_sl _ (List.mem_map.mpr ⟨_, List.contains_iff_mem.mp t3, rfl⟩)) (vw_at t6) t7.symm ok rfl ?_ hla hcat g) k2
          rw [List.length_cons] at hlen
          omega
        | _ => cases ok
    · rename_i hk
      rw [hk] at hs2
      simp only [Bool.and_eq_true, decide_eq_true_eq] at ha2
      obtain ⟨t1, rfl⟩ := ha2
      obtain ⟨p, r, rfl, hs2⟩ := oR_d hs2
      obtain ⟨ok, hs2⟩ := ck_d hs2
      simp only [Bool.and_eq_true, decide_eq_true_eq] at ok
      exact (hnx _ _ _ _ hs2).stepH ((hst G d M j lv r h 0 t1).2.1 p ok.2.2.1 ok.2.2.2 ok.1 ok.2.1 (hd rfl) (hn rfl)) (mo_rf h)
    · rename_i hk
      rw [hk] at hs2
      simp only [Bool.and_eq_true, decide_eq_true_eq] at ha2
      obtain ⟨t1, rfl⟩ := ha2
      obtain ⟨i, p, r, rfl, hs2⟩ := oX_d hs2
      obtain ⟨ok, hs2⟩ := ck_d hs2
      obtain ⟨hi, hs2⟩ := ck_d hs2
      simp only [Bool.and_eq_true, decide_eq_true_eq] at ok
      exact (hnx _ _ _ _ hs2).stepH ((hst G d M j lv r h 0 t1).2.2 p i ok.2.2.1 ok.2.2.2 ok.1 ok.2.1 hi (hd rfl) (hn rfl)) (mo_rf h)
    · cases ha2
  case invokespecial ix =>
    have ha2 : argB M (.invokespecial ix, pc, as, v) = true := ha
    have hs2 : sp d (.invokespecial ix, pc, as, v) j lv st h nx rt cl := hs
    unfold argB at ha2
    unfold sp at hs2
    simp only at ha2 hs2
    split at ha2
    · rename_i hk
      rw [hk] at hs2
      simp only [Bool.and_eq_true, decide_eq_true_eq] at ha2
      obtain ⟨t1, t2, t3, t4, t5, t6⟩ := ha2
      have hw := tb_ml _ (List.mem_map.mpr ⟨_, List.contains_iff_mem.mp t1, rfl⟩)
      unfold mlc at hw
      simp only at hw
      rw [hcn] at hw
      obtain ⟨vs, r, rfl, hlen, hcat, k0⟩ := tk_d hs2
      obtain ⟨ok, k1⟩ := ck_d k0
      obtain ⟨d', rfl, hla, r1, h1, g, k2⟩ := hcl _ _ _ k1
      cases vs with
      | nil => cases ok
      | cons w vs1 =>
        cases w with
        | ref p0 =>
          refine back g (g_callI (hd rfl) (hn rfl) (chk_m (hMT _ (cal_ok t4).1)) (cal_ok t4).2 hw (tb_im _ (List.mem_map.mpr ⟨_, List.contains_iff_mem.mp t2, rfl⟩)) t5 t6 rfl ?_ hla hcat g) k2
          rw [List.length_cons] at hlen
          omega
        | _ => cases ok
    · rename_i hk
      rw [hk] at hs2
      simp only [Bool.and_eq_true, decide_eq_true_eq] at ha2
      obtain ⟨t1, t2, t3, t4, t5, t6⟩ := ha2
      obtain ⟨vs, r, rfl, hlen, hcat, k0⟩ := tk_d hs2
      obtain ⟨ok, k1⟩ := ck_d k0
      obtain ⟨d', rfl, hla, r1, h1, g, k2⟩ := hcl _ _ _ k1
      cases vs with
      | nil => cases ok
      | cons w vs1 =>
        cases w with
        | ref p0 =>
          refine back g (g_callIN (hd rfl) (hn rfl) (chk_m (hMT _ (cal_ok t4).1)) (cal_ok t4).2 (List.contains_iff_mem.mp t1) hcn rfl rfl (tb_im _ (List.mem_map.mpr ⟨_, List.contains_iff_mem.mp t2, rfl⟩)) t5 t6 rfl ?_ hla hcat g) k2
          rw [List.length_cons] at hlen
          omega
        | _ => cases ok
    · rename_i hk
      rw [hk] at hs2
      have hw := tb_ol _ (List.mem_map.mpr ⟨_, List.contains_iff_mem.mp ha2, rfl⟩)
      simp only at hw
      rw [hcn] at hw
      obtain ⟨p, r, rfl, hs2⟩ := oR_d hs2
      obtain ⟨ok, hs2⟩ := ck_d hs2
      simp only [Bool.and_eq_true, decide_eq_true_eq] at ok
      exact (hnx _ _ _ _ hs2).stepH (g_obj (hd rfl) (hn rfl) hw ok.1 ok.2) (mo_rf h)
    · cases ha2
  all_goals exact False.elim hs
end
section
/-! SOUNDNESS of vc, and every method checked -/
theorem wp.msk {G : GX} {d : Nat} {M : MR} {j i : Nat} {live : List Nat} {lv : Lc} {st : List Value} {h : Hp} {Q : Option Value → Hp → Prop} (k : wp G d M j (msk live i lv) st h Q) : wp G d M j lv st h Q := by
  obtain ⟨r, h', g, q⟩ := k
  exact ⟨r, h', g.msk, q⟩
theorem wp.mono {G : GX} {d : Nat} {M : MR} {j : Nat} {lv : Lc} {st : List Value} {h : Hp} {Q Q' : Option Value → Hp → Prop} (k : wp G d M j lv st h Q) (hq : ∀ r h', Q r h' → Q' r h') : wp G d M j lv st h Q' := by
  obtain ⟨r, h', g, q⟩ := k
  exact ⟨r, h', g, hq r h' q⟩
theorem vc_wp0 (hst : StrOK) (hmn : MnaOK) (hMT : ∀ i, useB i = true → chkM (mt i) = true) (G : GX) (sl : List (Nat × Nat × List Nat)) (il : List Nat) : ∀ (k d : Nat) (M : MR) (j : Nat) (lv : Lc) (st : List Value) (h : Hp) (Q : Option Value → Hp → Prop), chkM M = true → vc G sl il k d M j lv st h Q → wp G d M j lv st h Q
  | 0, d, M, j, lv, st, h, Q, _, hv => hv
  | k + 1, d, M, j, lv, st, h, Q, hM, hv => by
    have ih := vc_wp0 hst hmn hMT G sl il k
    unfold vc at hv
    cases hf : ft M j with
    | none => rw [hf] at hv; exact hv.elim
    | some e =>
      rw [hf] at hv
      refine sp_wp hst hmn hMT hM hf hv (fun j' lv' st' h' hk => ?_) (fun v hk => ck_d hk) (fun i vs K hk => ?_)
      · split at hk
        · exact wp.msk hk
        · exact ih d M j' lv' st' h' Q hM hk
      · cases d with
        | zero => exact hk.elim
        | succ d' =>
          obtain ⟨h1, hk⟩ := ck_d hk
          simp only [Bool.and_eq_true, decide_eq_true_eq] at h1
          refine ⟨d', rfl, h1.2, ?_⟩
          split at hk
          · exact ih d' (mt i) 0 _ [] h K (hMT i h1.1) hk
          · split at hk
            · exact hk
            · exact hk.mono (fun v h1 q => by obtain ⟨I', rfl, rfl, q⟩ := q; exact q)
            · exact hk.mono (fun v h1 q => by obtain ⟨x, I', rfl, rfl, q⟩ := q; exact q)
            · exact hk.mono (fun v h1 q => by obtain ⟨x, I', rfl, rfl, q⟩ := q; exact q)
/-- what the machine's part still rests on, gathered; each is closed in a part of its own -/
def OKs : Prop := StrOK ∧ MnaOK
theorem vc_wp (o : OKs) {G : GX} (sl : List (Nat × Nat × List Nat)) (il : List Nat) (k : Nat) {d i j : Nat} {lv : Lc} {st : List Value} {h : Hp} {Q : Option Value → Hp → Prop} (hi : useB i = true) (hv : vc G sl il k d (mt i) j lv st h Q) : wp G d (mt i) j lv st h Q := vc_wp0 o.1 o.2 ck_all G sl il k d (mt i) j lv st h Q (ck_all i hi) hv
theorem vc_law (o : OKs) {G : GX} (sl : List (Nat × Nat × List Nat)) (il : List Nat) (k : Nat) {d j : Nat} {lv : Lc} {st : List Value} {h : Hp} {Q : Option Value → Hp → Prop} (hv : vc G sl il k d (mt 264) j lv st h Q) : wp G d (mt 264) j lv st h Q := vc_wp0 o.1 o.2 ck_all G sl il k d (mt 264) j lv st h Q ckm_264 hv
end
section
/-! THE CLAIM OUT OF ONE WALK OF THE LAW'S BODY. Your part is whole_start (and what it stands on); all else here is the same for every law, but numbers. -/
def R_law : String := "WreckCourtLaw"
def lw_P (b : Addr) (xs : List Int32) (args : Array Value) (s : State) : Prop := args = #[.ref b] ∧ s.IntsAt b xs ∧ xs.length ≤ 4608 ∧ (Jvm.Cond.and given_1 narrow_1).before args s = true
def lw_Q (_ : Array Value) (s : State) (o : Outcome) (t : State) : Prop := o = .returned (some (.int 1)) ∧ Framed s o t [] 600000 7302250
def lw_Z (below : List Frame) (a : Array Value) (s : State) : State → Prop := fun t => ∃ o, t.status = .running ∧ Ended t below o ∧ lw_Q a s o t
/-- the law's own end, with 1 on the stack, nothing written that was there before, its room as the claim has it -/
theorem lw_ret {p : Program} {l : Launch} {e : Env} {s : State} {m : MethodId} {below : List Frame} {meth : Method} {c : Code} {b : Nat} (hx : p.tables.exec = Jvm.exec) (hb : c.code = code) (hr : meth.sig.returnType = ret) (hlocks : meth.locks = false) {pc : Nat} {H : Heap} {ls : Array Slot} (hdg : decode code pc = .ok (.ireturn, 1)) : W p l e room_1 s m #[Value.ref b] below meth c H [] 600000 7302250 (lw_Z below #[Value.ref b] s) (F0 m pc ls [.int 1]) := by
  intro T hT X
  obtain ⟨fs, hret, hrun, hended, hW, hframe⟩ := X.leave (v := some (.int 1)) (hlocks := hlocks) (fun h => by rw [hr] at h; cases h)
  have hmeth' : T.vm.method? m = some meth := X.method'
  refine ⟨T.setFrames fs, ?_, .returned (some (.int 1)), hrun, hended, rfl, ⟨_, rfl⟩, hW, hframe⟩
  jvm_step X.here [X.here.top, hx, hb, hdg, hmeth', hr, ret, narrow_b1]
  (try refine ⟨rfl, ?_⟩); (try refine ⟨rfl, ?_⟩)
  first | (intro acts; rw [hret _ acts rfl rfl rfl]) | rw [hret _ _ rfl rfl rfl]
  exact Steps.refl _
/-- what holds at the law's entry: the machine, the code, the tables' words (any of lw_tbl by 'hts w (by decide +kernel)'), the script of L ints xs at the cell b, what the Statement gives of the start (any of its parts by flat_of_before) -/
def lw_At (p : Program) (s : State) (m : MethodId) (meth : Method) (c : Code) (b L : Nat) (xs : Nat → Int32) : Prop :=
  p.tables.exec = Jvm.exec ∧ c.code = code ∧ meth.sig.returnType = ret ∧ c.maxLocals = 4 ∧ s.vm.findClass R_law = some m.cls ∧ (∀ w ∈ lw_tbl, w.before #[Value.ref b] s = true) ∧ va_X b L xs s s.heap ∧ b < s.heap.size ∧ meth.locks = false ∧ (Jvm.Cond.and given_1 narrow_1).before #[Value.ref b] s = true
/-- the first state: nothing is made; the script -/
def I0 (G : GX) : Nat → Nat → Int32 := fun p k => if p = 100300 then G.2.2.2.2.2 k else if p = 100301 then Int32.ofNat G.2.2.2.2.1 else 0
def h00 (G : GX) : Hp := (0, 0, I0 G, fun _ _ => none)
/-- what the law's own run must come to -/
def lawQ : Option Value → Hp → Prop := fun r h => r = some (.int 1) ∧ h.1 ≤ 147 ∧ h.2.1 ≤ 2000
theorem slN_le : slN 147 ≤ 30000 := by decide +kernel
theorem slN_to {a : Nat} (h : a ≤ 147) : slN a ≤ slN 147 := by
  have := slN_mono (a := a) (147 - a)
  rw [show a + (147 - a) = 147 by omega] at this
  exact this
/-- what the start gives: a table of addresses and class numbers that fits the state -/
def startSK (l : Launch) (s : State) (b L : Nat) (xs : Nat → Int32) : Prop := ∃ G : GX, G.1 = l ∧ SK G s ∧ G.2.2.2.1 0 = s.heap.size ∧ G.2.2.2.1 100300 = b ∧ G.2.2.2.2.1 = L ∧ G.2.2.2.2.2 = xs
set_option maxHeartbeats 4000000 in
set_option maxRecDepth 100000 in
theorem start_of {p : Program} {e : Env} {s : State} {m : MethodId} {below : List Frame} {meth : Method} {c : Code} (l : Launch) {b L : Nat} {xs : Nat → Int32} (C0 : lw_At p s m meth c b L xs) (hK : startSK l s b L xs) (hlaw : ∀ G : GX, G.2.2.2.2.1 = L → wp G 1000 (mt 264) 0 (en (mt 264) [.ref 100300]) [] (h00 G) lawQ) : W p l e room_1 s m #[Value.ref b] below meth c s.heap [] 0 0 (lw_Z below #[Value.ref b] s) (entryFrame m ([Value.ref b] : List Value).toArray 4) := by
  obtain ⟨hx, hb, hr, hml, hown, hts, hX, hbl, hlocks, hgv⟩ := id C0
  obtain ⟨G, rfl, hsk, had, hab, hL, hxs⟩ := hK
  obtain ⟨r, h', ⟨⟨g1, g2⟩, g3⟩, rfl, q1, q2⟩ := hlaw G hL
  have cx : Cx G 1000 (mt 264) p room_1 s m #[Value.ref b] meth c := ⟨hx, hb, hml, hown, fun w hw => hts w (List.mem_filter.mp hw).1, fun z => absurd z (by decide +kernel), hr, hlocks, ⟨by decide, by decide⟩, hsk⟩
  have n0 : nc (h00 G) = 0 := rfl
  have n1 : ns (h00 G) = 0 := rfl
  have n2 : nc h' ≤ 3000 := by unfold nc; omega
  have n3 : ns h' ≤ 60000 := by unfold ns; have := slN_to q1; have := slN_le; omega
  have hz : zS G (h00 G) := ⟨fun p k _ hp => ⟨by show I0 G p k = 0; unfold I0; rw [if_neg (by omega), if_neg (by omega)], rfl⟩, fun k => by show I0 G 100300 k = _; unfold I0; rw [if_pos rfl], by show I0 G 100301 0 = _; unfold I0; rw [if_neg (by omega), if_pos rfl]⟩
  have hh : hrH G (h00 G) s.heap := ⟨⟨by show 0 ≤ 147; omega, Or.inl rfl, by show 0 ≤ 2000; omega⟩, fun k q hq => by simp [wsO, pls, h00] at hq, hz⟩
  have hl := en_lvr (G := G) (M := mt 264) (vs := [.ref 100300]) (by decide +kernel)
  have ev : ([Value.ref 100300].map (trv G)) = [Value.ref b] := by show [Value.ref (G.2.2.2.1 100300)] = _; rw [hab]
  rw [ev] at hl
  have e4 : (mt 264).2.2.2.2.1 = 4 := by decide +kernel
  rw [lg_entry_eq]
  have k := g3 p e room_1 s m #[Value.ref b] below meth c s.heap [] 0 0 _ (lw_Z below #[Value.ref b] s) cx hl hh va_S.rf (by rw [n0, had]) (by rw [n0]; show 0 + nc h' ≤ 600000 + 0; omega) (by rw [n1]; show 0 + ns h' ≤ 7302250 + 0; omega) ?_
  · rw [(chk_m ckm_264).2.1, e4] at k
    exact k
  · intro H1 locs1 cells1 slots1 ls1 j1 hrt hh1 hS1 e1 e2
    rw [n0] at e1
    rw [n1] at e2
    obtain ⟨en1, hen, hrb, hcase⟩ := hrt
    rcases hcase with ⟨c1, x, c2⟩ | ⟨c1, x, c2⟩ | ⟨c1, c2⟩
    · have hd := (chk_m ckm_264).2.2 j1 en1 hen (Or.inl c1)
      rw [c1] at hd
      refine va_forget (fun q hq => by have := hS1.2.2 q hq; unfold GA at this; rw [had] at this; exact this) ?_
      refine W.widen (k := 600000) (n := 7302250) (by omega) (by omega) ?_
      exact lw_ret hx hb hr hlocks hd
    · cases c2
    · cases c2
end
section
/-! THE START: what the Statement gives of it, as the table of places -/
def nF : List Cond := flatC (Jvm.Cond.and given_1 narrow_1)
def tmS (i : Nat) : Term := .string "WreckCourt$Reader" ((stI.map (fun q => q.1)).getD i 0)
set_option maxRecDepth 100000 in
theorem nf_x : ∀ j, j < 16 → Cond.eq (.elem (.static "WreckCourt" "COURSE_X" "[I") (.int (Int32.ofNat j))) (.int (kA 100100 j)) ∈ nF := by decide +kernel
set_option maxRecDepth 100000 in
theorem nf_y : ∀ j, j < 16 → Cond.eq (.elem (.static "WreckCourt" "COURSE_Y" "[I") (.int (Int32.ofNat j))) (.int (kA 100101 j)) ∈ nF := by decide +kernel
set_option maxRecDepth 100000 in
theorem nf_1 : Cond.arrayOf (.static "WreckCourt" "COURSE_X" "[I") .int ∈ nF ∧ Cond.eq (.length (.static "WreckCourt" "COURSE_X" "[I")) (.int 16) ∈ nF ∧ Cond.arrayOf (.static "WreckCourt" "COURSE_Y" "[I") .int ∈ nF ∧ Cond.eq (.length (.static "WreckCourt" "COURSE_Y" "[I")) (.int 16) ∈ nF ∧ Cond.eq (.static "java/lang/String" "COMPACT_STRINGS" "Z") (.int 1) ∈ nF ∧ Cond.isRef (.static "jdk/internal/util/Preconditions" "SIOOBE_FORMATTER" "Ljava/util/function/BiFunction;") ∈ nF := by decide +kernel
set_option maxRecDepth 100000 in
theorem nf_s1 : ∀ i, i < 16 → Cond.exactly (tmS i) "java/lang/String" ∈ nF ∧ Cond.eq (.field (tmS i) "java/lang/String" "coder" "B") (.int 0) ∈ nF ∧ Cond.arrayOf (.field (tmS i) "java/lang/String" "value" "[B") .byte ∈ nF ∧ Cond.eq (.length (.field (tmS i) "java/lang/String" "value" "[B")) (.int (Int32.ofNat ((stL.map List.length).getD i 0))) ∈ nF := by decide +kernel
set_option maxRecDepth 100000 in
theorem nf_s2 : ∀ i, i < 16 → ∀ j, j < (stL.map List.length).getD i 0 → Cond.eq (.elem (.field (tmS i) "java/lang/String" "value" "[B") (.int (Int32.ofNat j))) (.int ((stL.getD i []).getD j 0)) ∈ nF := by decide +kernel
def nNo (c : Cond) : Option (Nat × Nat) := match c with
  | .not (.eq (.string x a) (.string y b)) => if x = "WreckCourt$Reader" ∧ y = "WreckCourt$Reader" then some (a, b) else none
  | _ => none
def nPr : List (Nat × Nat) := [(44, 91), (44, 93), (91, 93), (44, 95), (91, 95), (93, 95), (44, 97), (91, 97), (93, 97), (95, 97), (44, 99), (91, 99), (93, 99), (95, 99), (97, 99), (44, 101), (91, 101), (93, 101), (95, 101), (97, 101), (99, 101), (44, 103), (91, 103), (93, 103), (95, 103), (97, 103), (99, 103), (101, 103), (44, 105), (91, 105), (93, 105), (95, 105), (97, 105), (99, 105), (101, 105), (103, 105), (44, 60), (91, 60), (93, 60), (95, 60), (97, 60), (99, 60), (101, 60), (103, 60), (105, 60), (44, 80), (91, 80), (93, 80), (95, 80), (97, 80), (99, 80), (101, 80), (103, 80), (105, 80), (60, 80), (44, 107), (91, 107), (93, 107), (95, 107), (97, 107), (99, 107), (101, 107), (103, 107), (105, 107), (60, 107), (80, 107), (44, 109), (91, 109), (93, 109), (95, 109), (97, 109), (99, 109), (101, 109), (103, 109), (105, 109), (60, 109), (80, 109), (107, 109), (44, 111), (91, 111), (93, 111), (95, 111), (97, 111), (99, 111), (101, 111), (103, 111), (105, 111), (60, 111), (80, 111), (107, 111), (109, 111), (44, 113), (91, 113), (93, 113), (95, 113), (97, 113), (99, 113), (101, 113), (103, 113), (105, 113), (60, 113), (80, 113), (107, 113), (109, 113), (111, 113), (44, 85), (91, 85), (93, 85), (95, 85), (97, 85), (99, 85), (101, 85), (103, 85), (105, 85), (60, 85), (80, 85), (107, 85), (109, 85), (111, 85), (113, 85)]
set_option maxRecDepth 100000 in
theorem nf_pr : nF.filterMap nNo = nPr := by decide +kernel
theorem nf_no {c : Cond} {a b : Nat} (h : nNo c = some (a, b)) : c = .not (.eq (.string "WreckCourt$Reader" a) (.string "WreckCourt$Reader" b)) := by
  unfold nNo at h
  split at h
  · split at h
    · rename_i x a' y b' hh
      cases h
      rw [hh.1, hh.2]
    · cases h
  · cases h
theorem nf_mem {a b : Nat} (h : (a, b) ∈ nPr) : Cond.not (.eq (.string "WreckCourt$Reader" a) (.string "WreckCourt$Reader" b)) ∈ nF := by
  rw [← nf_pr] at h
  obtain ⟨c, hc, h1⟩ := List.mem_filterMap.mp h
  rw [← nf_no h1]
  exact hc
theorem nf_pb : (List.range 16).all (fun i => (List.range 16).all (fun j => i == j || (nPr.contains ((stI.map (fun q => q.1)).getD i 0, (stI.map (fun q => q.1)).getD j 0) || nPr.contains ((stI.map (fun q => q.1)).getD j 0, (stI.map (fun q => q.1)).getD i 0)))) = true := by decide +kernel
theorem nf_pp (i : Nat) (hi : i < 16) (j : Nat) (hj : j < 16) (hne : i ≠ j) : ((stI.map (fun q => q.1)).getD i 0, (stI.map (fun q => q.1)).getD j 0) ∈ nPr ∨ ((stI.map (fun q => q.1)).getD j 0, (stI.map (fun q => q.1)).getD i 0) ∈ nPr := by
  have h1 := List.all_eq_true.mp (List.all_eq_true.mp nf_pb i (List.mem_range.mpr hi)) j (List.mem_range.mpr hj)
  rw [Bool.or_eq_true, Bool.or_eq_true] at h1
  rcases h1 with z | z | z
  · exact absurd (beq_iff_eq.mp z) hne
  · exact Or.inl (List.contains_iff_mem.mp z)
  · exact Or.inr (List.contains_iff_mem.mp z)
theorem nf_s3 : ∀ i, i < 16 → ∀ j, j < 16 → i ≠ j → Cond.not (Cond.eq (tmS i) (tmS j)) ∈ nF ∨ Cond.not (Cond.eq (tmS j) (tmS i)) ∈ nF := fun i hi j hj hne => (nf_pp i hi j hj hne).imp nf_mem nf_mem
set_option maxRecDepth 100000 in
theorem lt_1 : ∀ w ∈ [Cond.laysStatic "WreckCourt" "COURSE_X" "[I", Cond.laysStatic "WreckCourt" "COURSE_Y" "[I", Cond.laysStatic "java/lang/String" "COMPACT_STRINGS" "Z", Cond.laysStatic "jdk/internal/util/Preconditions" "SIOOBE_FORMATTER" "Ljava/util/function/BiFunction;", Cond.initialized "WreckCourt", Cond.initialized "java/lang/String", Cond.initialized "jdk/internal/util/Preconditions", Cond.arrayOver (.object "WreckCourt$Sheet"), Cond.arrayOver (.object "WreckCourt$Fact"), Cond.arrayOver (.array .int), Cond.fieldLinkNest "WreckCourt$Sea" 97 "WreckCourt" "COURSE_X" "[I" "WreckCourt", Cond.fieldLinkNest "WreckCourt$Sea" 100 "WreckCourt" "COURSE_Y" "[I" "WreckCourt"], w ∈ lw_tbl := by decide +kernel
set_option maxRecDepth 100000 in
theorem lt_2 : ∀ q ∈ MNF, Cond.methodLinkNest (ONL.getD q.1 "") q.2.1 (mt q.2.2).2.2.2.1 "WreckCourt" ∈ lw_tbl := by decide +kernel
set_option maxRecDepth 100000 in
theorem lt_3 : ∀ q ∈ stI, Cond.stringRef "WreckCourt$Reader" q.1 q.2.1 ∈ lw_tbl := by decide +kernel
theorem lt_4 : ∀ q ∈ stI, q.2.2 < 16 ∧ tmS q.2.2 = .string "WreckCourt$Reader" q.1 := by decide +kernel
theorem arr_of {s : State} {cA comp : ClassId} {k : Class} {ty : FieldType} (h2 : s.vm.classes[cA]? = some k) (h3 : k.kind = .array comp ty) : ArrOfT s cA ty := fun n z => ⟨fun k h => (by cases h), k, h2, comp, h3⟩
set_option maxHeartbeats 4000000 in
set_option maxRecDepth 100000 in
theorem start_SK {p : Program} {s : State} {m : MethodId} {meth : Method} {c : Code} (l : Launch) {b L : Nat} {xs : Nat → Int32} (hL : L ≤ 4608) (C0 : lw_At p s m meth c b L xs) : startSK l s b L xs := by
  obtain ⟨hx, hb, hr, hml, hown, hts, hX, hbl, hlocks, hgv⟩ := id C0
  have hs : ∀ c ∈ nF, c.before #[Value.ref b] s = true := flat_of_before _ hgv
  have ht : ∀ w ∈ LG, w.before #[Value.ref b] s = true := fun w hw => hts w (List.mem_filter.mp hw).1
  have hA : ∀ a : Nat, a < s.heap.size → ¬ (fun q : Nat => s.heap.size ≤ q) a := fun a ha => Nat.not_le.mpr ha
  -- the classes
  have hcl : ∀ k : Nat, ∃ x : ClassId × (Nat → Nat), ∀ q, vwCl[k]? = some q → u_Kn s q.1 q.2.1 q.2.2 x.1 x.2 := fun k => by
    cases hq : vwCl[k]? with
    | none => exact ⟨(0, fun _ => 0), fun q h => by cases h⟩
    | some q =>
      obtain ⟨cC, iS, h⟩ := u_known (C := q.1) (T := q.2.1) (N := q.2.2) (n := q.2.2) ht (vw_0 k q hq) (ht _ (vw_in k q hq).2)
      exact ⟨(cC, iS), fun q2 h2 => by cases h2; exact h⟩
  obtain ⟨fD, hfD⟩ := Classical.axiomOfChoice hcl
  -- the arrays' classes
  obtain ⟨c20, k20, m20, a1, a2, a3⟩ := Cond.arrayClass_spec (ht _ (tb_ac _ List.mem_cons_self))
  obtain ⟨c21, k21, m21, b1, b2, b3⟩ := Cond.arrayClass_spec (ht _ (tb_ac _ (List.mem_cons_of_mem _ List.mem_cons_self)))
  obtain ⟨c22, k22, m22, d1, d2, d3⟩ := Cond.arrayClass_spec (ht _ (tb_ac _ (List.mem_cons_of_mem _ (List.mem_cons_of_mem _ List.mem_cons_self))))
  obtain ⟨m23, c23, k23, e1, -, e3, e4, e5⟩ := Cond.arrayOver_spec (hts _ (lt_1 (Cond.arrayOver (.object "WreckCourt$Sheet")) (by simp)))
  obtain ⟨m24, c24, k24, f1, -, f3, f4, f5⟩ := Cond.arrayOver_spec (hts _ (lt_1 (Cond.arrayOver (.object "WreckCourt$Fact")) (by simp)))
  obtain ⟨m25, c25, k25, g1, g3, g4, g5⟩ := Cond.arrayOver_specA (hts _ (lt_1 (Cond.arrayOver (.array .int)) (by simp)))
  -- the constants
  obtain ⟨n1, n2, n3, n4, n5, n6⟩ := nf_1
  obtain ⟨tX, hX1, hX2⟩ := va_Tof (A := fun q : Nat => s.heap.size ≤ q) (N := 16) (f := fun i => .int (kA 100100 i)) (by decide) (hs _ n1) (va_eqt (hs _ n2)) (fun j hj => va_eqt (hs _ (nf_x j hj))) hA
  obtain ⟨tY, hY1, hY2⟩ := va_Tof (A := fun q : Nat => s.heap.size ≤ q) (N := 16) (f := fun i => .int (kA 100101 i)) (by decide) (hs _ n3) (va_eqt (hs _ n4)) (fun j hj => va_eqt (hs _ (nf_y j hj))) hA
  obtain ⟨adK, adV, hS1, hS2⟩ := vk_Sof (A := fun q : Nat => s.heap.size ≤ q) (N := 16) (tm := tmS) (len := stL.map List.length) (byt := stL) (by decide +kernel) (fun i hi => hs _ (nf_s1 i hi).1) (fun i hi => hs _ (nf_s1 i hi).2.1) (fun i hi => hs _ (nf_s1 i hi).2.2.1) (fun i hi => hs _ (nf_s1 i hi).2.2.2) (fun i hi j hj => hs _ (nf_s2 i hi j hj)) (fun i j hi hj hne => by
    rcases nf_s3 i hi j hj hne with z | z
    · exact Or.inl (hs _ z)
    · exact Or.inr (hs _ z)) hA
  refine ⟨(l, (fun k => (fD k).1, fun k => (fD k).2), (fun k => if k = 20 then c20 else if k = 21 then c21 else if k = 22 then c22 else if k = 23 then c23 else if k = 24 then c24 else c25), (fun p => if p < 1000 then s.heap.size + p else if p < 100000 then s.heap.size + 147 + (p - 1000) else if p < 100016 then adK (p - 100000) else if p = 100100 then tX else if p = 100101 then tY else if p < 100300 then adV (p - 100200) else b), L, xs), rfl, ⟨⟨fun k q hq => hfD k q hq, fun k q hq => ?_⟩, fun p => ⟨fun hp => ?_, fun h1 h2 => ?_⟩, Nat.le_refl _, ⟨va_AO.of (hts _ (lt_1 _ (by simp))), va_AO.of (hts _ (lt_1 _ (by simp))), hts (Cond.arrayOver (.array .int)) (lt_1 _ (by simp))⟩, ⟨va_Zref (hts _ (lt_1 _ (by simp))) (hts _ (lt_1 _ (by simp))) hX1 hA, hX2⟩, ⟨va_Zref (hts _ (lt_1 _ (by simp))) (hts _ (lt_1 _ (by simp))) hY1 hA, hY2⟩, fun q hq => va_Nw.of rfl (hts _ (lt_2 q hq)), ⟨va_Nw.of rfl (hts _ (lt_1 _ (by simp))), va_Nw.of rfl (hts _ (lt_1 _ (by simp)))⟩, ⟨?_, fun q hq => ?_⟩, ⟨va_Zof (hts _ (lt_1 _ (by simp))) (hts _ (lt_1 _ (by simp))) (va_eqi (hs _ n5)) hA, va_Zqof (hts _ (lt_1 _ (by simp))) (hts _ (lt_1 _ (by simp))) (hs _ n6) hA⟩, hX, hbl, Nat.not_le.mpr hbl, by show L < 2 ^ 31; omega⟩, rfl, rfl, rfl, rfl⟩
  · match k, hq with
    | 0, hq => cases hq; exact ⟨arr_of a2 a3, a1⟩
    | 1, hq => cases hq; exact ⟨arr_of b2 b3, b1⟩
    | 2, hq => cases hq; exact ⟨arr_of d2 d3, d1⟩
    | 3, hq => cases hq; exact ⟨arr_of e3 e4, k23, m23, e3, e4, e1, e5⟩
    | 4, hq => cases hq; exact ⟨arr_of f3 f4, k24, m24, f3, f4, f1, f5⟩
    | 5, hq => cases hq; exact ⟨arr_of g3 g4, g5⟩
    | k + 6, hq => simp [tyO] at hq
  · dsimp only
    rw [if_pos hp, if_pos (show 0 < 1000 by omega)]
    first | done | omega
  · dsimp only
    rw [if_neg (show ¬ p < 1000 by omega), if_pos h2, if_pos (show 0 < 1000 by omega)]
    first | done | omega
  · refine ⟨fun i hi => ?_, fun i j hi hj e => ?_⟩
    · have h1 := hS1.1 i hi
      have ek : (if 100000 + i < 1000 then s.heap.size + (100000 + i) else if 100000 + i < 100000 then s.heap.size + 147 + (100000 + i - 1000) else if 100000 + i < 100016 then adK (100000 + i - 100000) else if 100000 + i = 100100 then tX else if 100000 + i = 100101 then tY else if 100000 + i < 100300 then adV (100000 + i - 100200) else b) = adK i := by
        rw [if_neg (by omega), if_neg (by omega), if_pos (by omega), show 100000 + i - 100000 = i by omega]
      have ev : (if 100200 + i < 1000 then s.heap.size + (100200 + i) else if 100200 + i < 100000 then s.heap.size + 147 + (100200 + i - 1000) else if 100200 + i < 100016 then adK (100200 + i - 100000) else if 100200 + i = 100100 then tX else if 100200 + i = 100101 then tY else if 100200 + i < 100300 then adV (100200 + i - 100200) else b) = adV i := by
        rw [if_neg (by omega), if_neg (by omega), if_neg (by omega), if_neg (by omega), if_neg (by omega), if_pos (by omega), show 100200 + i - 100200 = i by omega]
      dsimp only
      rw [ek, ev]
      exact h1
    · dsimp only at e
      rw [if_neg (by omega), if_neg (by omega), if_pos (by omega), if_neg (by omega), if_neg (by omega), if_pos (by omega), show 100000 + i - 100000 = i by omega, show 100000 + j - 100000 = j by omega] at e
      exact hS1.2 i j hi hj e
  · obtain ⟨h1, h2⟩ := lt_4 q hq
    have h3 := hS2 q.2.2 h1
    rw [h2] at h3
    have ek : (if 100000 + q.2.2 < 1000 then s.heap.size + (100000 + q.2.2) else if 100000 + q.2.2 < 100000 then s.heap.size + 147 + (100000 + q.2.2 - 1000) else if 100000 + q.2.2 < 100016 then adK (100000 + q.2.2 - 100000) else if 100000 + q.2.2 = 100100 then tX else if 100000 + q.2.2 = 100101 then tY else if 100000 + q.2.2 < 100300 then adV (100000 + q.2.2 - 100200) else b) = adK q.2.2 := by
      rw [if_neg (by omega), if_neg (by omega), if_pos (by omega), show 100000 + q.2.2 - 100000 = q.2.2 by omega]
    dsimp only
    rw [ek]
    exact vk_R.of (hts _ (lt_3 q hq)) h3
end
section
/-! new int[n][k] -/
theorem tb_mn2 : ∀ w ∈ [Cond.classLink "WreckCourt$Sea" 31 "[[I", Cond.classLink "WreckCourt$Vessel" 43 "[[I"], w ∈ LG := in_tab _ [162, 206] (by decide +kernel) (by decide +kernel)
theorem mn_out (c : ClassId) (N h0 : Nat) : ∀ i : Nat, Jvm.Free.Multi.outerC c N h0 i = arrV c N (fun j => va_rf (if j < i then some (h0 + 1 + j) else none))
  | 0 => by
    show ({ cls := c, slots := Array.replicate N .null, vm := .none } : Cell) = _
    rw [arrV_new]
    refine congrArg (arrV c N) (funext fun j => ?_)
    simp [va_rf]
  | i + 1 => by
    show (Jvm.Free.Multi.outerC c N h0 i).setSlot i (.ref (h0 + 1 + i)) = _
    rw [mn_out c N h0 i, arrV_store]
    refine congrArg (arrV c N) (funext fun j => ?_)
    by_cases e : j = i
    · subst e
      simp [updV, va_rf]
    · by_cases h : j < i
      · simp [updV, e, h, Nat.lt_succ_of_lt h]
      · simp [updV, e, h, show ¬ j < i + 1 by omega]
theorem sl_rows {b N K : Nat} (h0 : (SH b).2 = N) (hr : ∀ i, i < N → (SH (b + 1 + i)).2 = K) : ∀ t, t ≤ N → slN (b + 1 + t) = slN b + N + t * K
  | 0, _ => by show slN b + (SH b).2 = _; rw [h0]; omega
  | t + 1, ht => by
    have ih := sl_rows h0 hr t (by omega)
    show slN (b + 1 + t) + (SH (b + 1 + t)).2 = _
    rw [ih, hr t (by omega), Nat.succ_mul]
    omega
set_option maxHeartbeats 4000000 in
theorem mna_ok : MnaOK := by
  intro G d M j lv r0 h ix n k hd hn hcls hn0 hk0 hf hb hsh hrow
  intro p e R s m args below meth c H locs cells slots ls Z cx hl hh hS hc0 hc1 hc2 K
  have hs20 : ∀ i, i < n.toNatClampNeg → (SH (h.1 + 1 + i)).2 = k.toNatClampNeg := fun i hi => by rw [hrow i hi]
  have hns := sl_rows (b := h.1) (by rw [hsh]) hs20 n.toNatClampNeg (Nat.le_refl _)
  have hnk : n.toNatClampNeg ≤ 147 := by omega
  have hkk : 0 < n.toNatClampNeg → k.toNatClampNeg ≤ 100000 := fun z => by have := sh_sm (h.1 + 1 + 0); rw [hs20 0 z] at this; exact this
  refine W.bound (fun hbnd => ?_)
  have hz := sz_eq cx.sk hh hS (by omega)
  have hnc : nc h = h.1 := by unfold nc; omega
  have en : nc (h.1 + 1 + n.toNatClampNeg, h.2.1, h.2.2.1, fun q i => if q = h.1 then (if i < n.toNatClampNeg then some (h.1 + 1 + i) else none) else h.2.2.2 q i) = nc h + 1 + n.toNatClampNeg := by unfold nc; show h.1 + 1 + n.toNatClampNeg + h.2.1 = _; omega
  have es : ns (h.1 + 1 + n.toNatClampNeg, h.2.1, h.2.2.1, fun q i => if q = h.1 then (if i < n.toNatClampNeg then some (h.1 + 1 + i) else none) else h.2.2.2 q i) = ns h + n.toNatClampNeg + n.toNatClampNeg * k.toNatClampNeg := by unfold ns; show slN (h.1 + 1 + n.toNatClampNeg) + 9 * h.2.1 = _; rw [hns]; omega
  rw [en] at hc1
  rw [es] at hc2
  have hw : Cond.classLink M.2.2.2.1.cls ix "[[I" ∈ LG := by
    rcases hcls with ⟨z1, z2⟩ | ⟨z1, z2⟩
    · rw [z1, z2]; exact tb_mn2 _ List.mem_cons_self
    · rw [z1, z2]; exact tb_mn2 _ (List.mem_cons_of_mem _ List.mem_cons_self)
  intro T hT X
  by_cases hzero : n.toNatClampNeg = 0 ∧ 100000 < k.toNatClampNeg
  · exact absurd hsh (by
      have h25 : SHL.all (fun q => !(q.1 == 25) || decide (0 < q.2)) = true := by decide +kernel
      intro z
      have hm : SH h.1 ∈ SHL := by
        unfold SH
        rw [List.getD_eq_getElem?_getD, List.getElem?_eq_getElem (by rw [SHlen]; omega)]
        exact List.getElem_mem _
      have := List.all_eq_true.mp h25 _ hm
      rw [z, hzero.1] at this
      simp at this)
  have hk100 : k.toNatClampNeg ≤ 100000 := by
    rcases Nat.eq_zero_or_pos n.toNatClampNeg with z | z
    · omega
    · exact hkk z
  obtain ⟨vm₁, cA, comp, hW1, fA, fC, hO, hI, X', step⟩ := X.multianewarray2F cx.1 (ty := .int) (n := n) (k := k) (rest := r0.map (trv G)) cx.own (cx.ws _ hw) (cx.sk.2.2.2.1.2.2) (cx.ws _ (tb_ac _ List.mem_cons_self)) (g := F0 m (pcj M j) ls ((.int k :: .int n :: r0).map (trv G))) rfl (by rw [cx.2.1]; exact hd) rfl (Int32.not_lt.mpr hn0) (Int32.not_lt.mpr hk0) (by omega) (by show k.toNatClampNeg * 4 ≤ _; omega) (by omega) rfl rfl (by omega) (by omega)
  have ecA : cA = G.2.2.1 25 := Option.some.inj (fA.symm.trans (cx.sk.1.2 5 (G.2.2.1 25, .array .int) rfl).2)
  have ecO : comp = G.2.2.1 20 := Option.some.inj (fC.symm.trans (cx.sk.1.2 0 (G.2.2.1 20, .int) rfl).2)
  subst ecA
  subst ecO
  generalize hF : Jvm.Free.Multi.fill (T.setVm vm₁) (G.2.2.1 25) (G.2.2.1 20) n.toNatClampNeg k.toNatClampNeg (defaultValue .int) n.toNatClampNeg = F at X' step
  have hTh : (T.setVm vm₁).heap = H := hT
  obtain ⟨f1, f2, -, -⟩ := Jvm.Free.Multi.fill_facts (T.setVm vm₁) (G.2.2.1 25) (G.2.2.1 20) n.toNatClampNeg k.toNatClampNeg (defaultValue .int) n.toNatClampNeg
  rw [hF, hTh] at f1 f2
  have hold : ∀ x : Nat, x < H.size → F.heap[x]? = H[x]? := fun x hx => by
    have := Jvm.Free.Multi.fill_old (T.setVm vm₁) (G.2.2.1 25) (G.2.2.1 20) n.toNatClampNeg k.toNatClampNeg (defaultValue .int) (a := x) (by rw [hTh]; exact hx) n.toNatClampNeg
    rw [hF, hTh] at this
    exact this
  have hin : ∀ t : Nat, t < n.toNatClampNeg → F.heap[H.size + 1 + t]? = some (Jvm.Free.Multi.innerC (G.2.2.1 20) k.toNatClampNeg (defaultValue .int)) := fun t ht => by
    have := Jvm.Free.Multi.fill_inner (T.setVm vm₁) (G.2.2.1 25) (G.2.2.1 20) n.toNatClampNeg k.toNatClampNeg (defaultValue .int) n.toNatClampNeg t ht
    rw [hF, hTh] at this
    exact this
  rw [mn_out] at f2
  have had : ∀ q, q < 1000 → G.2.2.2.1 q = G.2.2.2.1 0 + q := fun q hq => (cx.sk.2.1 q).1 hq
  have hh1 : hrH G (h.1 + 1 + n.toNatClampNeg, h.2.1, h.2.2.1, fun q i => if q = h.1 then (if i < n.toNatClampNeg then some (h.1 + 1 + i) else none) else h.2.2.2 q i) F.heap := by
    refine ⟨⟨by show h.1 + 1 + n.toNatClampNeg ≤ 147; omega, Or.inl hf, hh.1.2.2⟩, fun i q hq => ?_, fun q i hq hq100 => ?_, hh.2.2.2.1, hh.2.2.2.2⟩
    · obtain ⟨a, ha, rfl⟩ := wsO_of hq
      have hal := (pls_al ha).1
      have ha2 : a < h.1 + 1 + n.toNatClampNeg := by
        rcases hal with z | ⟨z1, z2⟩
        · exact z
        · have z3 : a < 1000 + h.2.1 := z2
          omega
      rcases Nat.lt_trichotomy a h.1 with z | z | z
      · have ce : cellO G (h.1 + 1 + n.toNatClampNeg, h.2.1, h.2.2.1, fun q i => if q = h.1 then (if i < n.toNatClampNeg then some (h.1 + 1 + i) else none) else h.2.2.2 q i) a = cellO G h a := cell_ne (p := h.1) (by omega) (fun _ _ => rfl) (fun w hw => funext fun i => if_neg hw)
        rw [ce]
        have h1 := hh.2.1 _ _ (wsO_at (G := G) hh.1 (Or.inl z : al h a))
        exact h1.kept (hold _ h1.lt)
      · subst z
        rw [cell_q (by rw [hsh]; show ¬ 25 < 23; omega), hsh]
        show F.heap[G.2.2.2.1 h.1]? = some (vp_cell _ _)
        have e0 : G.2.2.2.1 h.1 = H.size := by rw [had h.1 (by omega), hz, hnc]
        rw [e0, f2, vp_cell_q]
        refine congrArg (fun f => some (arrV (G.2.2.1 25) n.toNatClampNeg f)) (funext fun t => ?_)
        show va_rf (if t < n.toNatClampNeg then some (H.size + 1 + t) else none) = va_rf ((if h.1 = h.1 then (if t < n.toNatClampNeg then some (h.1 + 1 + t) else none) else h.2.2.2 h.1 t).map G.2.2.2.1)
        rw [if_pos rfl]
        by_cases ht : t < n.toNatClampNeg
        · rw [if_pos ht, if_pos ht]
          show va_rf (some (H.size + 1 + t)) = va_rf (some (G.2.2.2.1 (h.1 + 1 + t)))
          rw [had (h.1 + 1 + t) (by omega), hz, hnc]
          congr 2
          omega
        · rw [if_neg ht, if_neg ht]
          rfl
      · obtain ⟨t, rfl⟩ : ∃ t, a = h.1 + 1 + t := ⟨a - h.1 - 1, by omega⟩
        have ht : t < n.toNatClampNeg := by omega
        have hnal : ¬ al h (h.1 + 1 + t) := by unfold al; omega
        rw [cell_i (by rw [hrow t ht]; show ¬ 20 < 20; omega) (by rw [hrow t ht]; show 20 < 23; omega), hrow t ht]
        show F.heap[G.2.2.2.1 (h.1 + 1 + t)]? = some (vp_cell _ _)
        rw [had (h.1 + 1 + t) (by omega), show G.2.2.2.1 0 + (h.1 + 1 + t) = H.size + 1 + t by omega, hin t ht, vp_cell_i]
        have h0 : h.2.2.1 (h.1 + 1 + t) = fun _ => 0 := z_fun (fun i => (hh.2.2.1 (h.1 + 1 + t) i hnal (by omega)).1)
        show some ({ cls := G.2.2.1 20, slots := Array.replicate k.toNatClampNeg (.int 0), vm := .none } : Cell) = _
        rw [arrV_new, h0]
    · have hne : q ≠ h.1 := fun z => hq (Or.inl (by rw [z]; show h.1 < h.1 + 1 + n.toNatClampNeg; omega))
      have hq1 : ¬ al h q := fun z => hq (by
        rcases z with z | z
        · exact Or.inl (by show q < h.1 + 1 + n.toNatClampNeg; omega)
        · exact Or.inr z)
      have := hh.2.2.1 q i hq1 hq100
      exact ⟨this.1, by show (if q = h.1 then _ else _) = _; rw [if_neg hne]; exact this.2⟩
  have hS1 : va_S (GA G) s.heap F.heap locs := ⟨by rw [f1]; have := hS.1; omega, fun x h1 h2 => (hold x (Nat.lt_of_lt_of_le h1 hS.1)).trans (hS.2.1 x h1 h2), hS.2.2⟩
  obtain ⟨t, a1, b1⟩ := K F.heap locs (cells + 1 + n.toNatClampNeg) (slots + n.toNatClampNeg + n.toNatClampNeg * k.toNatClampNeg) ls hl hh1 hS1 (by rw [en]; omega) (by rw [es]; omega) F rfl X'
  refine ⟨t, step t ?_, b1⟩
  have e1 : T.heap.size = G.2.2.2.1 h.1 := by rw [hT, hz, had h.1 (by omega), hnc]
  rw [e1]
  rw [hn] at a1
  exact a1
end
section
/-! CONSTANT TEXTS: loaded, their length, their signs -/
def PcS (G : GX) (vs : List Value) : Array Value → State → Prop := fun a U => a = vs.toArray ∧ SK G U
def QcS (r : Option Value) : Array Value → State → Outcome → State → Prop := fun _ st oc t => oc = .returned r ∧ t.heap = st.heap
def rmS (d : Nat) : Room := { frames := d, cells := 0, slots := 0, locals := 40 * d }
def MtS (G : GX) (i d : Nat) (vs : List Value) (r : Option Value) : Prop := Met G.1 (yM i) (wsM (mt i)) (rmS d) (PcS G vs) (QcS r) 0 0 (fun _ => False)
theorem PcS.blind {G : GX} {vs : List Value} : FrameBlind (PcS G vs) := fun a U g mk q => ⟨q.1, q.2.same rfl rfl⟩
theorem run_same {p : Program} {l : Launch} {e : Env} {R : Room} {s : State} {m : MethodId} {args : Array Value} {below : List Frame} {meth : Method} {c : Code} {H : Heap} {locs : List Loc} {cells slots pc : Nat} {ls : Array Slot} {st0 rest : List Value} {Z : State → Prop} {r : Option Value} {a : Array Value}
    (hr : va_Run p l e R s m args below meth c H locs cells slots 0 0 (F0 m pc ls st0) rest (QcS r a) (fun _ => False)) (kk : W p l e R s m args below meth c H locs cells slots Z (F0 m (pc + 3) ls (r.toList ++ rest))) : W p l e R s m args below meth c H locs cells slots Z (F0 m pc ls st0) := by
  intro T hT X
  obtain ⟨v, st₀, t, T', L, h0, X', hL, e1, e2, ⟨hv, hb⟩, st⟩ := hr T hT X
  cases hv
  have hnil : L = [] := by
    cases L with
    | nil => rfl
    | cons q L => exact (hL q List.mem_cons_self).elim
  subst hnil
  rw [List.append_nil] at X'
  obtain ⟨t2, a1, b1⟩ := kk T' (by rw [e1, hb, h0]) X'
  exact ⟨t2, st t2 a1, b1⟩
theorem st_body {G : GX} {i d : Nat} {vs : List Value} {r : Option Value} (hp : plainName (yM i).cls = true) (hlen : (lg_sl vs).length ≤ (mt i).2.2.2.2.1)
    (body : ∀ (p : Program) (e : Env) (s : State) (m : MethodId) (args : Array Value) (below : List Frame) (meth : Method) (c : Code) (ls : Array Slot), p.tables.exec = Jvm.exec → c.code = (mt i).2.2.1 → c.maxLocals = (mt i).2.2.2.2.1 → s.vm.findClass (yM i).cls = some m.cls → (∀ w ∈ LG, w.before args s = true) → meth.sig.returnType = (mt i).2.2.2.2.2.1 → meth.locks = false → SK G s → lv_has ls (mt i).2.2.2.2.1 (lv_args 0 vs) →
      W p G.1 e (rmS d) s m args below meth c s.heap [] 0 0 (MQ below (QcS r) args s 0 0 (fun _ => False)) (F0 m 0 ls [])) : MtS G i d vs r := by
  refine Met.ofW (cc := (mt i).2.2.1) (maxL := (mt i).2.2.2.2.1) (ret := (mt i).2.2.2.2.2.1) hp rfl ?_
  intro p e s m args below meth c s₁ B hml hv
  obtain ⟨rfl, hsk⟩ := hv
  have hts := atoms_spec (ws := wsM (mt i)) B.pre
  rw [lg_entry_eq]
  exact body p e s m vs.toArray below meth c _ B.exec B.bytes hml (findClass_of_methodNamed B.named) (fun w hw => hts w (List.mem_cons_of_mem _ hw)) B.returns B.notSynchronized hsk (lv_entry vs hlen)
section SCALL
variable {p : Program} {G : GX} {e : Env} {R : Room} {s : State} {m : MethodId} {args : Array Value} {below : List Frame} {meth : Method} {c : Code} {H : Heap} {locs : List Loc} {cells slots pc nL : Nat} {ls : Array Slot} {rest vs : List Value} {Z : State → Prop} {r : Option Value} {cc : ByteArray} {own : String} {i d n ix : Nat}
theorem sc_S (hx : p.tables.exec = Jvm.exec) (hb : c.code = cc) (hml : c.maxLocals = nL) (hown : s.vm.findClass own = some m.cls) (hts : ∀ w ∈ LG, w.before args s = true) (hsk : SK G s) (hS : va_S (GA G) s.heap H locs) (hsz : ls.size = nL) (hM : MtS G i d vs r) (hc : calB i n = true) (hw : Cond.methodLink own ix (yM i) ∈ LG) (hs : Cond.static (yM i) ∈ LG) (hlen : vs.length = n) (hcat : (rest.map fun v => v.category).sum ≤ 8) (hR : d + 1 ≤ R.frames ∧ 40 * (d + 1) ≤ R.locals) (hf : cells ≤ R.cells ∧ slots ≤ R.slots) (hd : decode cc pc = .ok (.invokestatic ix, 3))
    (kk : W p G.1 e R s m args below meth c H locs cells slots Z (F0 m (pc + 3) ls (r.toList ++ rest))) : W p G.1 e R s m args below meth c H locs cells slots Z (F0 m pc ls (vs.reverse ++ rest)) := by
  have hcc := (cal_ok hc).2
  have h21 := hcc.2.2.2
  refine run_same (a := vs.toArray) (va_runS (nL := nL) (As := vs) (Ts := LG) (own := own) ⟨hx, hb, hml, hown, hts⟩ hM (va_cwS n hts (LG_GI (fun w hw' => ?_)) rfl rfl rfl hcc.2.2.1 ⟨hR.1, by show 8 + ((mt i).2.2.2.2.1 + 11) + 40 * d ≤ R.locals; omega⟩) ⟨PcS.blind, fun U hU hW => ⟨rfl, SK.moved (locs := locs) hsk hW (by rw [hU]; exact hS)⟩⟩ rfl hlen hsz rfl (lv_room hcat) hd hf) kk
  unfold va_wsS at hw'
  rcases List.mem_append.mp hw' with h2 | h2
  · simp only [List.mem_cons, List.not_mem_nil, or_false] at h2
    rcases h2 with rfl | rfl | rfl
    · exact hw
    · exact hs
    · exact hcc.2.1
  · exact wsM_in hcc w h2
theorem sc_V {q : Nat} (hx : p.tables.exec = Jvm.exec) (hb : c.code = cc) (hml : c.maxLocals = nL) (hown : s.vm.findClass own = some m.cls) (hts : ∀ w ∈ LG, w.before args s = true) (hsk : SK G s) (hS : va_S (GA G) s.heap H locs) (hsz : ls.size = nL) (hM : MtS G i d (.ref (G.2.2.2.1 (100000 + q)) :: vs) r) (hq : q < 16) (hcl : (yM i).cls = "java/lang/String") (hc : calB i n = true) (hw : Cond.methodLink own ix (yM i) ∈ LG) (hs : Cond.instanceMethod (yM i) ∈ LG) (hsel : Cond.selects (yM i).cls (yM i) (yM i) ∈ LG) (hlen : vs.length = n) (hcat : (rest.map fun v => v.category).sum ≤ 8) (hR : d + 1 ≤ R.frames ∧ 40 * (d + 1) ≤ R.locals) (hf : cells ≤ R.cells ∧ slots ≤ R.slots) (hd : decode cc pc = .ok (.invokevirtual ix, 3))
    (kk : W p G.1 e R s m args below meth c H locs cells slots Z (F0 m (pc + 3) ls (r.toList ++ rest))) : W p G.1 e R s m args below meth c H locs cells slots Z (F0 m pc ls (vs.reverse ++ .ref (G.2.2.2.1 (100000 + q)) :: rest)) := by
  have hcc := (cal_ok hc).2
  have h21 := hcc.2.2.2
  have hrecv := vk_recv hsk.2.2.2.2.2.2.2.2.1.1 hq hS
  rw [← hcl] at hrecv
  refine run_same (a := (Value.ref (G.2.2.2.1 (100000 + q)) :: vs).toArray) (va_runV (nL := nL) (b := G.2.2.2.1 (100000 + q)) (As := vs) (Ts := LG) (own := own) (C := (yM i).cls) ⟨hx, hb, hml, hown, hts⟩ hM (cwV n hts (LG_GI (fun w hw' => ?_)) rfl rfl rfl ⟨rfl, hcc.2.2.1⟩ ⟨hR.1, by show 8 + ((mt i).2.2.2.2.1 + 11) + 40 * d ≤ R.locals; omega⟩) ⟨PcS.blind, hrecv, fun U hU hW => ⟨rfl, SK.moved (locs := locs) hsk hW (by rw [hU]; exact hS)⟩⟩ rfl hlen hsz rfl (lv_room hcat) hd hf) kk
  unfold wsV at hw'
  rcases List.mem_append.mp hw' with h2 | h2
  · simp only [List.mem_cons, List.not_mem_nil, or_false] at h2
    rcases h2 with rfl | rfl | rfl | rfl
    · exact hw
    · exact hs
    · exact hsel
    · exact hcc.2.1
  · exact wsM_in hcc w h2
end SCALL
theorem no_loc {P : Nat → Prop} : ∀ q ∈ ([] : List Loc), P q.base := fun q h => by cases h
theorem tb_ss : ∀ w ∈ [Cond.fieldLink "java/lang/String" 38 "java/lang/String" "COMPACT_STRINGS" "Z", Cond.fieldLink "java/lang/String" 1053 "jdk/internal/util/Preconditions" "SIOOBE_FORMATTER" "Ljava/util/function/BiFunction;", Cond.fieldLink "java/lang/String" 9 "java/lang/String" "value" "[B", Cond.fieldLink "java/lang/String" 15 "java/lang/String" "coder" "B"], w ∈ LG := fun w hw => LG_in ((by decide +kernel : ∀ w ∈ [Cond.fieldLink "java/lang/String" 38 "java/lang/String" "COMPACT_STRINGS" "Z", Cond.fieldLink "java/lang/String" 1053 "jdk/internal/util/Preconditions" "SIOOBE_FORMATTER" "Ljava/util/function/BiFunction;", Cond.fieldLink "java/lang/String" 9 "java/lang/String" "value" "[B", Cond.fieldLink "java/lang/String" 15 "java/lang/String" "coder" "B"], w ∈ lw_tbl) w hw) ((by decide +kernel : ∀ w ∈ [Cond.fieldLink "java/lang/String" 38 "java/lang/String" "COMPACT_STRINGS" "Z", Cond.fieldLink "java/lang/String" 1053 "jdk/internal/util/Preconditions" "SIOOBE_FORMATTER" "Ljava/util/function/BiFunction;", Cond.fieldLink "java/lang/String" 9 "java/lang/String" "value" "[B", Cond.fieldLink "java/lang/String" 15 "java/lang/String" "coder" "B"], goodWord w = true) w hw)
theorem mlw {o ix k : Nat} (h : (o, ix, k) ∈ MLF) : Cond.methodLink (ONL.getD o "") ix (yM k) ∈ LG := tb_ml _ (List.mem_map.mpr ⟨_, h, rfl⟩)
theorem smw {k : Nat} (h : k ∈ SMF) : Cond.static (yM k) ∈ LG := tb_sm _ (List.mem_map.mpr ⟨_, h, rfl⟩)
theorem imw {k : Nat} (h : k ∈ IMF) : Cond.instanceMethod (yM k) ∈ LG := tb_im _ (List.mem_map.mpr ⟨_, h, rfl⟩)
theorem slw {k : Nat} (h : k ∈ SLF) : Cond.selects (yM k).cls (yM k) (yM k) ∈ LG := tb_sl _ (List.mem_map.mpr ⟨_, h, rfl⟩)
/-- String.coder(): 0 -/
theorem m_coder (G : GX) (q : Nat) (hq : q < 16) : MtS G 127 2 [.ref (G.2.2.2.1 (100000 + q))] (some (.int 0)) := by
  refine st_body (by decide +kernel) (by show 1 ≤ 1; omega) (fun p e s m args below meth c ls hx hb hml hown hts hr hlocks hsk hl => ?_)
  have hl : lv_has ls 1 [(0, .ref (G.2.2.2.1 (100000 + q)))] := hl
  have hS : va_S (GA G) s.heap s.heap [] := va_S.rf
  have hown : s.vm.findClass "java/lang/String" = some m.cls := hown
  obtain ⟨hz1, hz2⟩ := hsk.2.2.2.2.2.2.2.2.2.1
  refine va_gets hx hb hz1 hS hown (hts _ (tb_ss _ (by simp))) (fun x h => h) (by decide +kernel : decode (mt 127).2.2.1 0 = .ok (.getstatic 38, 3)) ?_
  refine lv_if_eq (tgt := 13) hx hb (by decide +kernel : decode (mt 127).2.2.1 3 = .ok (.ifCond .eq 10, 3)) (by decide) (fun z => absurd z (by decide)) (fun _ => ?_)
  refine lv_aload_n hx hb (by decide +kernel : decode (mt 127).2.2.1 6 = .ok (.aload_n 0, 1)) rfl (lv_at hl 0 rfl) ?_
  refine vk_getf hx hb (hsk.2.2.2.2.2.2.2.2.1.1.1 q hq).2.1 hS hown (hts _ (tb_ss _ (by simp))) (fun x h => h) (by decide +kernel : decode (mt 127).2.2.1 7 = .ok (.getfield 15, 3)) ?_
  refine lv_goto (tgt := 14) hx hb (by decide +kernel : decode (mt 127).2.2.1 10 = .ok (.goto 4, 3)) (by decide) ?_
  exact W.zret (ty := .byte) hx hb hr (by decide +kernel) (fun t ht _ => ⟨rfl, ht⟩) no_loc (by decide +kernel : decode (mt 127).2.2.1 14 = .ok (.ireturn, 1)) hlocks
theorem str_len : ∀ q, q < 16 → (stL.map List.length).getD q 0 = (stL.getD q []).length := by decide +kernel
theorem str_b : ∀ q, q < 16 → ∀ j, j < (stL.getD q []).length → ((stL.getD q []).getD j 0 &&& 255 = (stL.getD q []).getD j 0) ∧ (((stL.getD q []).getD j 0).toUInt32 % 65536).toInt32 = (stL.getD q []).getD j 0 ∧ narrow .char (.int ((stL.getD q []).getD j 0)) = .int ((stL.getD q []).getD j 0) := by decide +kernel
/-- String.isLatin1(): 1 -/
theorem m_latin (G : GX) (q : Nat) (hq : q < 16) : MtS G 129 2 [.ref (G.2.2.2.1 (100000 + q))] (some (.int 1)) := by
  refine st_body (by decide +kernel) (by show 1 ≤ 1; omega) (fun p e s m args below meth c ls hx hb hml hown hts hr hlocks hsk hl => ?_)
  have hl : lv_has ls 1 [(0, .ref (G.2.2.2.1 (100000 + q)))] := hl
  have hS : va_S (GA G) s.heap s.heap [] := va_S.rf
  have hown : s.vm.findClass "java/lang/String" = some m.cls := hown
  obtain ⟨hz1, hz2⟩ := hsk.2.2.2.2.2.2.2.2.2.1
  refine va_gets hx hb hz1 hS hown (hts _ (tb_ss _ (by simp))) (fun x h => h) (by decide +kernel : decode (mt 129).2.2.1 0 = .ok (.getstatic 38, 3)) ?_
  refine lv_if_eq (tgt := 17) hx hb (by decide +kernel : decode (mt 129).2.2.1 3 = .ok (.ifCond .eq 14, 3)) (by decide) (fun z => absurd z (by decide)) (fun _ => ?_)
  refine lv_aload_n hx hb (by decide +kernel : decode (mt 129).2.2.1 6 = .ok (.aload_n 0, 1)) rfl (lv_at hl 0 rfl) ?_
  refine vk_getf hx hb (hsk.2.2.2.2.2.2.2.2.1.1.1 q hq).2.1 hS hown (hts _ (tb_ss _ (by simp))) (fun x h => h) (by decide +kernel : decode (mt 129).2.2.1 7 = .ok (.getfield 15, 3)) ?_
  refine lv_if_ne (tgt := 17) hx hb (by decide +kernel : decode (mt 129).2.2.1 10 = .ok (.ifCond .ne 7, 3)) (by decide) (fun z => absurd rfl z) (fun _ => ?_)
  refine lv_iconst (v := 1) hx hb (by decide +kernel : decode (mt 129).2.2.1 13 = .ok (.iconst 1, 1)) (by decide) ?_
  refine lv_goto (tgt := 18) hx hb (by decide +kernel : decode (mt 129).2.2.1 14 = .ok (.goto 4, 3)) (by decide) ?_
  exact W.zret (ty := .boolean) hx hb hr (by decide +kernel) (fun t ht _ => ⟨rfl, ht⟩) no_loc (by decide +kernel : decode (mt 129).2.2.1 18 = .ok (.ireturn, 1)) hlocks
/-- String.length() -/
theorem m_length (G : GX) (q : Nat) (hq : q < 16) : MtS G 126 3 [.ref (G.2.2.2.1 (100000 + q))] (some (.int (Int32.ofNat (stL.getD q []).length))) := by
  refine st_body (by decide +kernel) (by show 1 ≤ 1; omega) (fun p e s m args below meth c ls hx hb hml hown hts hr hlocks hsk hl => ?_)
  have hl : lv_has ls 1 [(0, .ref (G.2.2.2.1 (100000 + q)))] := hl
  have hS : va_S (GA G) s.heap s.heap [] := va_S.rf
  have hown : s.vm.findClass "java/lang/String" = some m.cls := hown
  obtain ⟨h1, h2, h3, h4⟩ := hsk.2.2.2.2.2.2.2.2.1.1.1 q hq
  refine lv_aload_n hx hb (by decide +kernel : decode (mt 126).2.2.1 0 = .ok (.aload_n 0, 1)) rfl (lv_at hl 0 rfl) ?_
  refine vk_getf hx hb h3 hS hown (hts _ (tb_ss _ (by simp))) (fun x h => h) (by decide +kernel : decode (mt 126).2.2.1 1 = .ok (.getfield 9, 3)) ?_
  refine va_tlen hx hb h4 hS (v := Int32.ofNat (stL.getD q []).length) (by rw [str_len q hq]) (by decide +kernel : decode (mt 126).2.2.1 4 = .ok (.arraylength, 1)) ?_
  refine lv_aload_n hx hb (by decide +kernel : decode (mt 126).2.2.1 5 = .ok (.aload_n 0, 1)) rfl (lv_at hl 0 rfl) ?_
  refine sc_V (vs := []) (q := q) hx hb hml hown hts hsk hS hl.1 (m_coder G q hq) hq rfl (by decide +kernel : calB 127 0 = true) (mlw (o := 16) (by decide +kernel)) (imw (by decide +kernel)) (slw (by decide +kernel)) rfl (by show 1 ≤ 8; omega) ⟨by show 3 ≤ 3; omega, by show 40 * 3 ≤ 40 * 3; omega⟩ ⟨Nat.le_refl _, Nat.le_refl _⟩ (by decide +kernel : decode (mt 126).2.2.1 6 = .ok (.invokevirtual 335, 3)) ?_
  refine lv_ishr hx hb (by decide +kernel : decode (mt 126).2.2.1 9 = .ok (.ishr, 1)) ?_
  rw [sb_shr0]
  exact W.iret hx hb hr (fun t ht _ => ⟨rfl, ht⟩) no_loc (by decide +kernel : decode (mt 126).2.2.1 10 = .ok (.ireturn, 1)) hlocks
/-- Preconditions.checkIndex: within -/
theorem m_pre0 (G : GX) (i n : Int32) (h0 : 0 ≤ i) (hn : i < n) : MtS G 132 0 [.int i, .int n, .null] (some (.int i)) := by
  refine st_body (by decide +kernel) (by show 3 ≤ 3; omega) (fun p e s m args below meth c ls hx hb hml hown hts hr hlocks hsk hl => ?_)
  have hl : lv_has ls 3 [(0, .int i), (1, .int n), (2, .null)] := hl
  have hS : va_S (GA G) s.heap s.heap [] := va_S.rf
  have hown : s.vm.findClass "jdk/internal/util/Preconditions" = some m.cls := hown
  refine lv_iload_n hx hb (by decide +kernel : decode (mt 132).2.2.1 0 = .ok (.iload_n 0, 1)) rfl (lv_at hl 0 rfl) ?_
  refine lv_if_lt (tgt := 9) hx hb (by decide +kernel : decode (mt 132).2.2.1 1 = .ok (.ifCond .lt 8, 3)) (by decide) (fun z => absurd z (Int32.not_lt.mpr h0)) (fun _ => ?_)
  refine lv_iload_n hx hb (by decide +kernel : decode (mt 132).2.2.1 4 = .ok (.iload_n 0, 1)) rfl (lv_at hl 0 rfl) ?_
  refine lv_iload_n hx hb (by decide +kernel : decode (mt 132).2.2.1 5 = .ok (.iload_n 1, 1)) rfl (lv_at hl 1 rfl) ?_
  refine lv_icmp_lt (tgt := 16) hx hb (by decide +kernel : decode (mt 132).2.2.1 6 = .ok (.if_icmp .lt 10, 3)) (by decide) (fun _ => ?_) (fun z => absurd hn z)
  refine lv_iload_n hx hb (by decide +kernel : decode (mt 132).2.2.1 16 = .ok (.iload_n 0, 1)) rfl (lv_at hl 0 rfl) ?_
  exact W.iret hx hb hr (fun t ht _ => ⟨rfl, ht⟩) no_loc (by decide +kernel : decode (mt 132).2.2.1 17 = .ok (.ireturn, 1)) hlocks
/-- Preconditions.checkIndex: within -/
theorem m_preR (G : GX) (t : Nat) (i n : Int32) (h0 : 0 ≤ i) (hn : i < n) : MtS G 132 0 [.int i, .int n, .ref t] (some (.int i)) := by
  refine st_body (by decide +kernel) (by show 3 ≤ 3; omega) (fun p e s m args below meth c ls hx hb hml hown hts hr hlocks hsk hl => ?_)
  have hl : lv_has ls 3 [(0, .int i), (1, .int n), (2, .ref t)] := hl
  have hS : va_S (GA G) s.heap s.heap [] := va_S.rf
  have hown : s.vm.findClass "jdk/internal/util/Preconditions" = some m.cls := hown
  refine lv_iload_n hx hb (by decide +kernel : decode (mt 132).2.2.1 0 = .ok (.iload_n 0, 1)) rfl (lv_at hl 0 rfl) ?_
  refine lv_if_lt (tgt := 9) hx hb (by decide +kernel : decode (mt 132).2.2.1 1 = .ok (.ifCond .lt 8, 3)) (by decide) (fun z => absurd z (Int32.not_lt.mpr h0)) (fun _ => ?_)
  refine lv_iload_n hx hb (by decide +kernel : decode (mt 132).2.2.1 4 = .ok (.iload_n 0, 1)) rfl (lv_at hl 0 rfl) ?_
  refine lv_iload_n hx hb (by decide +kernel : decode (mt 132).2.2.1 5 = .ok (.iload_n 1, 1)) rfl (lv_at hl 1 rfl) ?_
  refine lv_icmp_lt (tgt := 16) hx hb (by decide +kernel : decode (mt 132).2.2.1 6 = .ok (.if_icmp .lt 10, 3)) (by decide) (fun _ => ?_) (fun z => absurd hn z)
  refine lv_iload_n hx hb (by decide +kernel : decode (mt 132).2.2.1 16 = .ok (.iload_n 0, 1)) rfl (lv_at hl 0 rfl) ?_
  exact W.iret hx hb hr (fun t ht _ => ⟨rfl, ht⟩) no_loc (by decide +kernel : decode (mt 132).2.2.1 17 = .ok (.ireturn, 1)) hlocks
/-- String.checkIndex: within -/
theorem m_chk (G : GX) (i n : Int32) (h0 : 0 ≤ i) (hn : i < n) : MtS G 131 1 [.int i, .int n] none := by
  refine st_body (by decide +kernel) (by show 2 ≤ 2; omega) (fun p e s m args below meth c ls hx hb hml hown hts hr hlocks hsk hl => ?_)
  have hl : lv_has ls 2 [(0, .int i), (1, .int n)] := hl
  have hS : va_S (GA G) s.heap s.heap [] := va_S.rf
  have hown : s.vm.findClass "java/lang/String" = some m.cls := hown
  obtain ⟨hz1, hz2⟩ := hsk.2.2.2.2.2.2.2.2.2.1
  refine lv_iload_n hx hb (by decide +kernel : decode (mt 131).2.2.1 0 = .ok (.iload_n 0, 1)) rfl (lv_at hl 0 rfl) ?_
  refine lv_iload_n hx hb (by decide +kernel : decode (mt 131).2.2.1 1 = .ok (.iload_n 1, 1)) rfl (lv_at hl 1 rfl) ?_
  rcases hz2 with hz | ⟨t, hz⟩
  · refine va_gets hx hb hz hS hown (hts _ (tb_ss _ (by simp))) (fun x h => h) (by decide +kernel : decode (mt 131).2.2.1 2 = .ok (.getstatic 1053, 3)) ?_
    refine sc_S (vs := [.int i, .int n, .null]) (rest := []) hx hb hml hown hts hsk hS hl.1 (m_pre0 G i n h0 hn) (by decide +kernel : calB 132 3 = true) (mlw (o := 16) (by decide +kernel)) (smw (by decide +kernel)) rfl (by show 0 ≤ 8; omega) ⟨by show 1 ≤ 1; omega, by show 40 * 1 ≤ 40 * 1; omega⟩ ⟨Nat.le_refl _, Nat.le_refl _⟩ (by decide +kernel : decode (mt 131).2.2.1 5 = .ok (.invokestatic 1059, 3)) ?_
    refine lv_pop (va := .int i) hx hb (by decide +kernel : decode (mt 131).2.2.1 8 = .ok (.pop, 1)) rfl ?_
    exact W.vret hx hb hr (fun t ht _ => ⟨rfl, ht⟩) no_loc (by decide +kernel : decode (mt 131).2.2.1 9 = .ok (.return_, 1)) hlocks
  · refine va_gets hx hb hz hS hown (hts _ (tb_ss _ (by simp))) (fun x h => h) (by decide +kernel : decode (mt 131).2.2.1 2 = .ok (.getstatic 1053, 3)) ?_
    refine sc_S (vs := [.int i, .int n, .ref t]) (rest := []) hx hb hml hown hts hsk hS hl.1 (m_preR G t i n h0 hn) (by decide +kernel : calB 132 3 = true) (mlw (o := 16) (by decide +kernel)) (smw (by decide +kernel)) rfl (by show 0 ≤ 8; omega) ⟨by show 1 ≤ 1; omega, by show 40 * 1 ≤ 40 * 1; omega⟩ ⟨Nat.le_refl _, Nat.le_refl _⟩ (by decide +kernel : decode (mt 131).2.2.1 5 = .ok (.invokestatic 1059, 3)) ?_
    refine lv_pop (va := .int i) hx hb (by decide +kernel : decode (mt 131).2.2.1 8 = .ok (.pop, 1)) rfl ?_
    exact W.vret hx hb hr (fun t ht _ => ⟨rfl, ht⟩) no_loc (by decide +kernel : decode (mt 131).2.2.1 9 = .ok (.return_, 1)) hlocks
theorem ix_lt {i : Int32} {n : Nat} (hn : n < 2 ^ 31) (h : ixB i n = true) : 0 ≤ i ∧ i < Int32.ofNat n := by
  obtain ⟨j, hj, rfl⟩ := vp_in_of (ixB_in h) hn
  exact ⟨nI_pos' (by omega), nI_lt hj hn⟩
theorem str_sm : ∀ q, q < 16 → (stL.getD q []).length < 2 ^ 31 := by decide +kernel
/-- StringLatin1.charAt -/
theorem m_l1 (G : GX) (q : Nat) (hq : q < 16) (i : Int32) (hi : ixB i (stL.getD q []).length = true) : MtS G 130 2 [.ref (G.2.2.2.1 (100200 + q)), .int i] (some (.int ((stL.getD q []).getD i.toNatClampNeg 0))) := by
  refine st_body (by decide +kernel) (by show 2 ≤ 2; omega) (fun p e s m args below meth c ls hx hb hml hown hts hr hlocks hsk hl => ?_)
  have hl : lv_has ls 2 [(0, .ref (G.2.2.2.1 (100200 + q))), (1, .int i)] := hl
  have hS : va_S (GA G) s.heap s.heap [] := va_S.rf
  have hown : s.vm.findClass "java/lang/StringLatin1" = some m.cls := hown
  obtain ⟨h1, h2, h3, h4⟩ := hsk.2.2.2.2.2.2.2.2.1.1.1 q hq
  rw [str_len q hq] at h4
  obtain ⟨i0, i1⟩ := ix_lt (str_sm q hq) hi
  have hin := ixB_in hi
  have hlt : i.toNatClampNeg < (stL.getD q []).length := Nat.not_le.mp fun z => hin (Or.inr z)
  obtain ⟨b1, b2, b3⟩ := str_b q hq i.toNatClampNeg hlt
  refine lv_iload_n hx hb (by decide +kernel : decode (mt 130).2.2.1 0 = .ok (.iload_n 1, 1)) rfl (lv_at hl 1 rfl) ?_
  refine lv_aload_n hx hb (by decide +kernel : decode (mt 130).2.2.1 1 = .ok (.aload_n 0, 1)) rfl (lv_at hl 0 rfl) ?_
  refine va_tlen hx hb h4 hS (v := Int32.ofNat (stL.getD q []).length) rfl (by decide +kernel : decode (mt 130).2.2.1 2 = .ok (.arraylength, 1)) ?_
  refine sc_S (vs := [.int i, .int (Int32.ofNat (stL.getD q []).length)]) (rest := []) hx hb hml hown hts hsk hS hl.1 (m_chk G i _ i0 i1) (by decide +kernel : calB 131 2 = true) (mlw (o := 17) (by decide +kernel)) (smw (by decide +kernel)) rfl (by show 0 ≤ 8; omega) ⟨by show 2 ≤ 2; omega, by show 40 * 2 ≤ 40 * 2; omega⟩ ⟨Nat.le_refl _, Nat.le_refl _⟩ (by decide +kernel : decode (mt 130).2.2.1 3 = .ok (.invokestatic 9, 3)) ?_
  refine lv_aload_n hx hb (by decide +kernel : decode (mt 130).2.2.1 6 = .ok (.aload_n 0, 1)) rfl (lv_at hl 0 rfl) ?_
  refine lv_iload_n hx hb (by decide +kernel : decode (mt 130).2.2.1 7 = .ok (.iload_n 1, 1)) rfl (lv_at hl 1 rfl) ?_
  refine va_tb hx hb h4 hS hin rfl (by decide +kernel : decode (mt 130).2.2.1 8 = .ok (.baload, 1)) ?_
  refine lv_sipush (v := 255) hx hb (by decide +kernel : decode (mt 130).2.2.1 9 = .ok (.sipush 255, 3)) (by decide) ?_
  refine lv_iand hx hb (by decide +kernel : decode (mt 130).2.2.1 12 = .ok (.iand, 1)) ?_
  rw [b1]
  refine lv_i2c hx hb (by decide +kernel : decode (mt 130).2.2.1 13 = .ok (.i2c, 1)) b2 ?_
  exact W.zret (ty := .char) hx hb hr b3 (fun t ht _ => ⟨rfl, ht⟩) no_loc (by decide +kernel : decode (mt 130).2.2.1 14 = .ok (.ireturn, 1)) hlocks
/-- String.charAt -/
theorem m_charAt (G : GX) (q : Nat) (hq : q < 16) (i : Int32) (hi : ixB i (stL.getD q []).length = true) : MtS G 128 3 [.ref (G.2.2.2.1 (100000 + q)), .int i] (some (.int ((stL.getD q []).getD i.toNatClampNeg 0))) := by
  refine st_body (by decide +kernel) (by show 2 ≤ 2; omega) (fun p e s m args below meth c ls hx hb hml hown hts hr hlocks hsk hl => ?_)
  have hl : lv_has ls 2 [(0, .ref (G.2.2.2.1 (100000 + q))), (1, .int i)] := hl
  have hS : va_S (GA G) s.heap s.heap [] := va_S.rf
  have hown : s.vm.findClass "java/lang/String" = some m.cls := hown
  obtain ⟨h1, h2, h3, h4⟩ := hsk.2.2.2.2.2.2.2.2.1.1.1 q hq
  have hin := ixB_in hi
  have hlt : i.toNatClampNeg < (stL.getD q []).length := Nat.not_le.mp fun z => hin (Or.inr z)
  obtain ⟨b1, b2, b3⟩ := str_b q hq i.toNatClampNeg hlt
  refine lv_aload_n hx hb (by decide +kernel : decode (mt 128).2.2.1 0 = .ok (.aload_n 0, 1)) rfl (lv_at hl 0 rfl) ?_
  refine sc_V (vs := []) (q := q) (rest := []) hx hb hml hown hts hsk hS hl.1 (m_latin G q hq) hq rfl (by decide +kernel : calB 129 0 = true) (mlw (o := 16) (by decide +kernel)) (imw (by decide +kernel)) (slw (by decide +kernel)) rfl (by show 0 ≤ 8; omega) ⟨by show 3 ≤ 3; omega, by show 40 * 3 ≤ 40 * 3; omega⟩ ⟨Nat.le_refl _, Nat.le_refl _⟩ (by decide +kernel : decode (mt 128).2.2.1 1 = .ok (.invokevirtual 492, 3)) ?_
  refine lv_if_eq (tgt := 16) hx hb (by decide +kernel : decode (mt 128).2.2.1 4 = .ok (.ifCond .eq 12, 3)) (by decide) (fun z => absurd z (by decide)) (fun _ => ?_)
  refine lv_aload_n hx hb (by decide +kernel : decode (mt 128).2.2.1 7 = .ok (.aload_n 0, 1)) rfl (lv_at hl 0 rfl) ?_
  refine vk_getf hx hb h3 hS hown (hts _ (tb_ss _ (by simp))) (fun x h => h) (by decide +kernel : decode (mt 128).2.2.1 8 = .ok (.getfield 9, 3)) ?_
  refine lv_iload_n hx hb (by decide +kernel : decode (mt 128).2.2.1 11 = .ok (.iload_n 1, 1)) rfl (lv_at hl 1 rfl) ?_
  refine sc_S (vs := [.ref (G.2.2.2.1 (100200 + q)), .int i]) (rest := []) hx hb hml hown hts hsk hS hl.1 (m_l1 G q hq i hi) (by decide +kernel : calB 130 2 = true) (mlw (o := 16) (by decide +kernel)) (smw (by decide +kernel)) rfl (by show 0 ≤ 8; omega) ⟨by show 3 ≤ 3; omega, by show 40 * 3 ≤ 40 * 3; omega⟩ ⟨Nat.le_refl _, Nat.le_refl _⟩ (by decide +kernel : decode (mt 128).2.2.1 12 = .ok (.invokestatic 495, 3)) ?_
  exact W.zret (ty := .char) hx hb hr b3 (fun t ht _ => ⟨rfl, ht⟩) no_loc (by decide +kernel : decode (mt 128).2.2.1 15 = .ok (.ireturn, 1)) hlocks
theorem str_ok : StrOK := by
  intro G d M j lv r0 h ix ho
  have hw1 : Cond.methodLink "WreckCourt$Reader" 115 (yM 126) ∈ LG := mlw (o := 4) (by decide +kernel)
  have hw2 : Cond.methodLink "WreckCourt$Reader" 119 (yM 128) ∈ LG := mlw (o := 4) (by decide +kernel)
  refine ⟨fun q hq hix hd hn => ?_, fun p hp1 hp2 hd4 hcat hd hn => ?_, fun p i hp1 hp2 hd4 hcat hi hd hn => ?_⟩
  · intro p e R s m args below meth c H locs cells slots ls Z cx hl hh hS hc0 hc1 hc2 K
    have z := K H locs cells slots ls hl hh hS rfl rfl
    rw [hn] at z
    have hown := cx.own
    rw [ho] at hown
    have hZ := cx.sk.2.2.2.2.2.2.2.2.1.2 q hq
    rw [hix] at hZ
    exact va_ldcS cx.1 cx.2.1 hown hZ hd z
  · intro p1 e R s m args below meth c H locs cells slots ls Z cx hl hh hS hc0 hc1 hc2 K
    have z := K H locs cells slots ls hl hh hS rfl rfl
    rw [hn] at z
    obtain ⟨q, rfl⟩ : ∃ q, p = 100000 + q := ⟨p - 100000, by omega⟩
    rw [show 100000 + q - 100000 = q by omega] at z
    have hown := cx.own
    rw [ho] at hown
    obtain ⟨q1, q2⟩ := cx.2.2.2.2.2.2.2.2.1
    exact sc_V (vs := []) (q := q) (rest := r0.map (trv G)) cx.1 cx.2.1 cx.2.2.1 hown cx.ws cx.sk hS hl.1 (m_length G q (by omega)) (by omega) rfl (by decide +kernel : calB 126 0 = true) hw1 (imw (by decide +kernel)) (slw (by decide +kernel)) rfl (cat_map hcat) ⟨by omega, by omega⟩ ⟨by omega, by omega⟩ hd z
  · intro p1 e R s m args below meth c H locs cells slots ls Z cx hl hh hS hc0 hc1 hc2 K
    have z := K H locs cells slots ls hl hh hS rfl rfl
    rw [hn] at z
    obtain ⟨q, rfl⟩ : ∃ q, p = 100000 + q := ⟨p - 100000, by omega⟩
    rw [show 100000 + q - 100000 = q by omega] at z hi
    have hown := cx.own
    rw [ho] at hown
    obtain ⟨q1, q2⟩ := cx.2.2.2.2.2.2.2.2.1
    exact sc_V (vs := [.int i]) (q := q) (rest := r0.map (trv G)) cx.1 cx.2.1 cx.2.2.1 hown cx.ws cx.sk hS hl.1 (m_charAt G q (by omega) i hi) (by omega) rfl (by decide +kernel : calB 128 1 = true) hw2 (imw (by decide +kernel)) (slw (by decide +kernel)) rfl (cat_map hcat) ⟨by omega, by omega⟩ ⟨by omega, by omega⟩ hd z
theorem oks : OKs := ⟨str_ok, mna_ok⟩
end
section
/-- the references, once all is made: f facts are told, sw: the two books have changed places -/
def RP (f : Nat) (sw : Bool) (p k : Nat) : Option Nat := if p = 48 then (if k < f then some (1000 + k) else none) else if p = 0 then (if k = 9 then (match sw with | true => some 71 | false => some 65) else if k = 10 then (match sw with | true => some 65 | false => some 71) else (RPL.getD p []).getD k none) else (RPL.getD p []).getD k none
end
section
-- WreckCourtModel.sheet(III)I, entry 0
set_option maxRecDepth 100000 in
set_option maxHeartbeats 4000000 in
theorem v_Msheet (o : OKs) {G : GX} {d f : Nat} {sw : Bool} {I : Nat → Nat → Int32} {s : Int32} {l : Int32} {n : Int32} {Q : Option Value → Hp → Prop}
    (hq : if lg_cmp s.toInt64 0 < 0 then Q (some (.int (-1000001))) (147, f, upI I 93 0 0, RP f sw) else if 0 < lg_cmp s.toInt64 7 then Q (some (.int (-1000001))) (147, f, upI I 93 0 0, RP f sw) else if lg_cmp l.toInt64 0 < 0 then Q (some (.int (-1000001))) (147, f, upI I 93 0 0, RP f sw) else if 0 < lg_cmp l.toInt64 2 then Q (some (.int (-1000001))) (147, f, upI I 93 0 0, RP f sw) else if n ≤ 120 then if 0 ≤ n then ck (ixB s 8) (ck (ixB s 8) (wp G (d + 10) (mt 182) 38 [some (.ref 93), some (.int s), none, some (.int n), some (.int 0)] [] (147, f, upI (upI (upI (upI I 93 0 0) 93 1 0) 94 s.toNatClampNeg l) 95 s.toNatClampNeg n, RP f sw) Q)) else Q (some (.int ((-1000010) - 4))) (147, f, upI (upI (upI I 93 0 0) 93 1 0) 93 1 4, RP f sw) else Q (some (.int (-1000001))) (147, f, upI I 93 0 0, RP f sw)) :
    wp G (d + 10) (mt 182) 0 (en (mt 182) [.ref 93, .int s, .int l, .int n]) [] (147, f, I, RP f sw) Q := vc_wp o [(182, 38, [0, 1, 3, 4])] [183, 184, 185] 600 rfl hq

-- WreckCourtModel.isDark(II)Z, entry 0
set_option maxRecDepth 100000 in
set_option maxHeartbeats 4000000 in
theorem v_MisDark (o : OKs) {G : GX} {d f : Nat} {sw : Bool} {I : Nat → Nat → Int32} {w : Int32} {m : Int32} {Q : Option Value → Hp → Prop}
    (hq : wp G (d + 10) (mt 201) 4 [some (.ref 93), some (.int w), some (.int m), some (.int 0), some (.int 0)] [] (147, f, I, RP f sw) Q) :
    wp G (d + 10) (mt 201) 0 (en (mt 201) [.ref 93, .int w, .int m]) [] (147, f, I, RP f sw) Q := vc_wp o [(201, 4, [0, 1, 2, 3, 4])] [] 600 rfl hq

-- WreckCourtModel.isDark(II)Z, entry 4
set_option maxRecDepth 100000 in
set_option maxHeartbeats 4000000 in
theorem v_MisDark4 (o : OKs) {G : GX} {d f : Nat} {sw : Bool} {I : Nat → Nat → Int32} {w : Int32} {m : Int32} {b : Int32} {k : Int32} {Q : Option Value → Hp → Prop}
    (hq : if (I 93 19) ≤ k then ck (decide (b = 0) || decide (b = 1)) (Q (some (.int b)) (147, f, I, RP f sw)) else if b = 0 then ck (ixB k 10) (if (I 109 k.toNatClampNeg) = w then ck (ixB k 10) (if m < (I 110 k.toNatClampNeg) then wp G (d + 10) (mt 201) 4 [some (.ref 93), some (.int w), some (.int m), some (.int 0), some (.int (k + Int32.ofInt 1))] [] (147, f, I, RP f sw) Q else ck (ixB k 10) (if (I 111 k.toNatClampNeg) ≤ m then wp G (d + 10) (mt 201) 4 [some (.ref 93), some (.int w), some (.int m), some (.int 0), some (.int (k + Int32.ofInt 1))] [] (147, f, I, RP f sw) Q else wp G (d + 10) (mt 201) 4 [some (.ref 93), some (.int w), some (.int m), some (.int 1), some (.int (k + Int32.ofInt 1))] [] (147, f, I, RP f sw) Q)) else wp G (d + 10) (mt 201) 4 [some (.ref 93), some (.int w), some (.int m), some (.int 0), some (.int (k + Int32.ofInt 1))] [] (147, f, I, RP f sw) Q) else wp G (d + 10) (mt 201) 4 [some (.ref 93), some (.int w), some (.int m), some (.int 1), some (.int (k + Int32.ofInt 1))] [] (147, f, I, RP f sw) Q) :
    wp G (d + 10) (mt 201) 4 [some (.ref 93), some (.int w), some (.int m), some (.int b), some (.int k)] [] (147, f, I, RP f sw) Q := vc_wp o [(201, 4, [0, 1, 2, 3, 4])] [] 600 rfl hq

-- WreckCourtModel.ship(II)I, entry 0
set_option maxRecDepth 100000 in
set_option maxHeartbeats 4000000 in
theorem v_Mship (o : OKs) {G : GX} {d f : Nat} {sw : Bool} {I : Nat → Nat → Int32} {x : Int32} {y : Int32} {Q : Option Value → Hp → Prop}
    (hq : if lg_cmp x.toInt64 (-10000) < 0 then Q (some (.int (-1000001))) (147, f, upI I 93 0 0, RP f sw) else if 0 < lg_cmp x.toInt64 10000 then Q (some (.int (-1000001))) (147, f, upI I 93 0 0, RP f sw) else if lg_cmp y.toInt64 (-10000) < 0 then Q (some (.int (-1000001))) (147, f, upI I 93 0 0, RP f sw) else if 0 < lg_cmp y.toInt64 10000 then Q (some (.int (-1000001))) (147, f, upI I 93 0 0, RP f sw) else if (I 93 7) = 4 then Q (some (.int (-1000003))) (147, f, upI I 93 0 0, RP f sw) else ck (ixB (I 93 7) 4) (ck (ixB (I 93 7) 4) (Q (some (.int (((I 93 7) + 1) - 1))) (147, f, upI (upI (upI (upI I 93 0 0) 99 ((I 93 7).toNatClampNeg) x) 100 ((I 93 7).toNatClampNeg) y) 93 7 ((I 93 7) + 1), RP f sw)))) :
    wp G (d + 10) (mt 189) 0 (en (mt 189) [.ref 93, .int x, .int y]) [] (147, f, I, RP f sw) Q := vc_wp o [] [184, 190] 600 rfl hq

-- WreckCourt.ship(II)I, entry 0
set_option maxRecDepth 100000 in
set_option maxHeartbeats 4000000 in
theorem v_ship (o : OKs) {G : GX} {d f : Nat} {sw : Bool} {I : Nat → Nat → Int32} {x : Int32} {y : Int32} {Q : Option Value → Hp → Prop}
    (hq : if x < (-10000) then Q (some (.int (-1000001))) (147, f, I, RP f sw) else if 10000 < x then Q (some (.int (-1000001))) (147, f, I, RP f sw) else if y < (-10000) then Q (some (.int (-1000001))) (147, f, I, RP f sw) else if 10000 < y then Q (some (.int (-1000001))) (147, f, I, RP f sw) else if (I 2 2) = 4 then Q (some (.int (-1000003))) (147, f, I, RP f sw) else ck (ixB (I 2 2) 4) (oV ((RP f sw) 11 ((I 2 2).toNatClampNeg)) (fun q1 => ck (okB (147, f, I, RP f sw) q1 20) (ck (ixB (0 : Int32) (SH q1).2) (ck (ixB ((upI I q1 0 x) 2 2) 4) (oV ((RP f sw) 16 (((upI I q1 0 x) 2 2).toNatClampNeg)) (fun q2 => ck (okB (147, f, upI I q1 0 x, RP f sw) q2 20) (ck (ixB (0 : Int32) (SH q2).2) (Q (some (.int ((((upI (upI I q1 0 x) q2 0 y) 2 2) + 1) - 1))) (147, f, upI (upI (upI (upI I q1 0 x) q2 0 y) 2 9 1) 2 2 (((upI (upI I q1 0 x) q2 0 y) 2 2) + 1), RP f sw)))))))))) :
    wp G (d + 10) (mt 22) 0 (en (mt 22) [.ref 0, .int x, .int y]) [] (147, f, I, RP f sw) Q := vc_wp o [] [13, 23, 24] 600 rfl hq

-- WreckCourt.hull(II)I, entry 0
set_option maxRecDepth 100000 in
set_option maxHeartbeats 4000000 in
theorem v_hull (o : OKs) {G : GX} {d f : Nat} {sw : Bool} {I : Nat → Nat → Int32} {w : Int32} {v : Int32} {Q : Option Value → Hp → Prop}
    (hq : if w = Int32.ofInt 6 then if v < 0 then Q (some (.int (-1000001))) (147, f, I, RP f sw) else if 100 < v then Q (some (.int (-1000001))) (147, f, I, RP f sw) else Q (some (.int (I 29 9))) (147, f, upI (upI I 29 9 v) 29 12 1, RP f sw) else if w = Int32.ofInt 7 then if v < 1 then Q (some (.int (-1000001))) (147, f, I, RP f sw) else if 6000 < v then Q (some (.int (-1000001))) (147, f, I, RP f sw) else Q (some (.int (I 29 10))) (147, f, upI (upI I 29 10 v) 29 12 1, RP f sw) else if w < 0 then Q (some (.int (-1000001))) (147, f, I, RP f sw) else if 5 < w then Q (some (.int (-1000001))) (147, f, I, RP f sw) else if v < 1 then Q (some (.int (-1000001))) (147, f, I, RP f sw) else if 1000 < v then Q (some (.int (-1000001))) (147, f, I, RP f sw) else ck (ixB w 6) (ck (ixB w 6) (Q (some (.int (I 34 w.toNatClampNeg))) (147, f, upI (upI I 34 w.toNatClampNeg v) 29 12 1, RP f sw)))) :
    wp G (d + 10) (mt 54) 0 (en (mt 54) [.ref 0, .int w, .int v]) [] (147, f, I, RP f sw) Q := vc_wp o [] [13, 55, 56, 57, 58] 600 rfl hq

-- WreckCourtModel.hull(II)I, entry 0
set_option maxRecDepth 100000 in
set_option maxHeartbeats 4000000 in
theorem v_Mhull (o : OKs) {G : GX} {d f : Nat} {sw : Bool} {I : Nat → Nat → Int32} {w : Int32} {v : Int32} {Q : Option Value → Hp → Prop}
    (hq : if lg_cmp w.toInt64 0 < 0 then Q (some (.int (-1000001))) (147, f, upI I 93 0 0, RP f sw) else if 0 < lg_cmp w.toInt64 7 then Q (some (.int (-1000001))) (147, f, upI I 93 0 0, RP f sw) else if w = 6 then if w = 6 then if lg_cmp v.toInt64 0 < 0 then Q (some (.int (-1000001))) (147, f, upI I 93 0 0, RP f sw) else if 0 < lg_cmp v.toInt64 100 then Q (some (.int (-1000001))) (147, f, upI I 93 0 0, RP f sw) else if w = 6 then if w = 6 then Q (some (.int (I 93 24))) (147, f, upI (upI I 93 0 0) 93 24 v, RP f sw) else if w = 7 then Q (some (.int (I 93 24))) (147, f, upI (upI I 93 0 0) 93 25 v, RP f sw) else ck (ixB w 6) (Q (some (.int (I 93 24))) (147, f, upI (upI I 93 0 0) 112 w.toNatClampNeg v, RP f sw)) else if w = 7 then if w = 6 then Q (some (.int (I 93 25))) (147, f, upI (upI I 93 0 0) 93 24 v, RP f sw) else if w = 7 then Q (some (.int (I 93 25))) (147, f, upI (upI I 93 0 0) 93 25 v, RP f sw) else ck (ixB w 6) (Q (some (.int (I 93 25))) (147, f, upI (upI I 93 0 0) 112 w.toNatClampNeg v, RP f sw)) else ck (ixB w 6) (if w = 6 then Q (some (.int (I 112 w.toNatClampNeg))) (147, f, upI (upI I 93 0 0) 93 24 v, RP f sw) else if w = 7 then Q (some (.int (I 112 w.toNatClampNeg))) (147, f, upI (upI I 93 0 0) 93 25 v, RP f sw) else ck (ixB w 6) (Q (some (.int (I 112 w.toNatClampNeg))) (147, f, upI (upI I 93 0 0) 112 w.toNatClampNeg v, RP f sw))) else if w = 7 then if lg_cmp v.toInt64 0 < 0 then Q (some (.int (-1000001))) (147, f, upI I 93 0 0, RP f sw) else if 0 < lg_cmp v.toInt64 6000 then Q (some (.int (-1000001))) (147, f, upI I 93 0 0, RP f sw) else if w = 6 then if w = 6 then Q (some (.int (I 93 24))) (147, f, upI (upI I 93 0 0) 93 24 v, RP f sw) else if w = 7 then Q (some (.int (I 93 24))) (147, f, upI (upI I 93 0 0) 93 25 v, RP f sw) else ck (ixB w 6) (Q (some (.int (I 93 24))) (147, f, upI (upI I 93 0 0) 112 w.toNatClampNeg v, RP f sw)) else if w = 7 then if w = 6 then Q (some (.int (I 93 25))) (147, f, upI (upI I 93 0 0) 93 24 v, RP f sw) else if w = 7 then Q (some (.int (I 93 25))) (147, f, upI (upI I 93 0 0) 93 25 v, RP f sw) else ck (ixB w 6) (Q (some (.int (I 93 25))) (147, f, upI (upI I 93 0 0) 112 w.toNatClampNeg v, RP f sw)) else ck (ixB w 6) (if w = 6 then Q (some (.int (I 112 w.toNatClampNeg))) (147, f, upI (upI I 93 0 0) 93 24 v, RP f sw) else if w = 7 then Q (some (.int (I 112 w.toNatClampNeg))) (147, f, upI (upI I 93 0 0) 93 25 v, RP f sw) else ck (ixB w 6) (Q (some (.int (I 112 w.toNatClampNeg))) (147, f, upI (upI I 93 0 0) 112 w.toNatClampNeg v, RP f sw))) else if lg_cmp v.toInt64 0 < 0 then Q (some (.int (-1000001))) (147, f, upI I 93 0 0, RP f sw) else if 0 < lg_cmp v.toInt64 1000 then Q (some (.int (-1000001))) (147, f, upI I 93 0 0, RP f sw) else if w = 6 then if w = 6 then Q (some (.int (I 93 24))) (147, f, upI (upI I 93 0 0) 93 24 v, RP f sw) else if w = 7 then Q (some (.int (I 93 24))) (147, f, upI (upI I 93 0 0) 93 25 v, RP f sw) else ck (ixB w 6) (Q (some (.int (I 93 24))) (147, f, upI (upI I 93 0 0) 112 w.toNatClampNeg v, RP f sw)) else if w = 7 then if w = 6 then Q (some (.int (I 93 25))) (147, f, upI (upI I 93 0 0) 93 24 v, RP f sw) else if w = 7 then Q (some (.int (I 93 25))) (147, f, upI (upI I 93 0 0) 93 25 v, RP f sw) else ck (ixB w 6) (Q (some (.int (I 93 25))) (147, f, upI (upI I 93 0 0) 112 w.toNatClampNeg v, RP f sw)) else ck (ixB w 6) (if w = 6 then Q (some (.int (I 112 w.toNatClampNeg))) (147, f, upI (upI I 93 0 0) 93 24 v, RP f sw) else if w = 7 then Q (some (.int (I 112 w.toNatClampNeg))) (147, f, upI (upI I 93 0 0) 93 25 v, RP f sw) else ck (ixB w 6) (Q (some (.int (I 112 w.toNatClampNeg))) (147, f, upI (upI I 93 0 0) 112 w.toNatClampNeg v, RP f sw))) else if w = 6 then if lg_cmp v.toInt64 1 < 0 then Q (some (.int (-1000001))) (147, f, upI I 93 0 0, RP f sw) else if 0 < lg_cmp v.toInt64 100 then Q (some (.int (-1000001))) (147, f, upI I 93 0 0, RP f sw) else if w = 6 then if w = 6 then Q (some (.int (I 93 24))) (147, f, upI (upI I 93 0 0) 93 24 v, RP f sw) else if w = 7 then Q (some (.int (I 93 24))) (147, f, upI (upI I 93 0 0) 93 25 v, RP f sw) else ck (ixB w 6) (Q (some (.int (I 93 24))) (147, f, upI (upI I 93 0 0) 112 w.toNatClampNeg v, RP f sw)) else if w = 7 then if w = 6 then Q (some (.int (I 93 25))) (147, f, upI (upI I 93 0 0) 93 24 v, RP f sw) else if w = 7 then Q (some (.int (I 93 25))) (147, f, upI (upI I 93 0 0) 93 25 v, RP f sw) else ck (ixB w 6) (Q (some (.int (I 93 25))) (147, f, upI (upI I 93 0 0) 112 w.toNatClampNeg v, RP f sw)) else ck (ixB w 6) (if w = 6 then Q (some (.int (I 112 w.toNatClampNeg))) (147, f, upI (upI I 93 0 0) 93 24 v, RP f sw) else if w = 7 then Q (some (.int (I 112 w.toNatClampNeg))) (147, f, upI (upI I 93 0 0) 93 25 v, RP f sw) else ck (ixB w 6) (Q (some (.int (I 112 w.toNatClampNeg))) (147, f, upI (upI I 93 0 0) 112 w.toNatClampNeg v, RP f sw))) else if w = 7 then if lg_cmp v.toInt64 1 < 0 then Q (some (.int (-1000001))) (147, f, upI I 93 0 0, RP f sw) else if 0 < lg_cmp v.toInt64 6000 then Q (some (.int (-1000001))) (147, f, upI I 93 0 0, RP f sw) else if w = 6 then if w = 6 then Q (some (.int (I 93 24))) (147, f, upI (upI I 93 0 0) 93 24 v, RP f sw) else if w = 7 then Q (some (.int (I 93 24))) (147, f, upI (upI I 93 0 0) 93 25 v, RP f sw) else ck (ixB w 6) (Q (some (.int (I 93 24))) (147, f, upI (upI I 93 0 0) 112 w.toNatClampNeg v, RP f sw)) else if w = 7 then if w = 6 then Q (some (.int (I 93 25))) (147, f, upI (upI I 93 0 0) 93 24 v, RP f sw) else if w = 7 then Q (some (.int (I 93 25))) (147, f, upI (upI I 93 0 0) 93 25 v, RP f sw) else ck (ixB w 6) (Q (some (.int (I 93 25))) (147, f, upI (upI I 93 0 0) 112 w.toNatClampNeg v, RP f sw)) else ck (ixB w 6) (if w = 6 then Q (some (.int (I 112 w.toNatClampNeg))) (147, f, upI (upI I 93 0 0) 93 24 v, RP f sw) else if w = 7 then Q (some (.int (I 112 w.toNatClampNeg))) (147, f, upI (upI I 93 0 0) 93 25 v, RP f sw) else ck (ixB w 6) (Q (some (.int (I 112 w.toNatClampNeg))) (147, f, upI (upI I 93 0 0) 112 w.toNatClampNeg v, RP f sw))) else if lg_cmp v.toInt64 1 < 0 then Q (some (.int (-1000001))) (147, f, upI I 93 0 0, RP f sw) else if 0 < lg_cmp v.toInt64 1000 then Q (some (.int (-1000001))) (147, f, upI I 93 0 0, RP f sw) else if w = 6 then if w = 6 then Q (some (.int (I 93 24))) (147, f, upI (upI I 93 0 0) 93 24 v, RP f sw) else if w = 7 then Q (some (.int (I 93 24))) (147, f, upI (upI I 93 0 0) 93 25 v, RP f sw) else ck (ixB w 6) (Q (some (.int (I 93 24))) (147, f, upI (upI I 93 0 0) 112 w.toNatClampNeg v, RP f sw)) else if w = 7 then if w = 6 then Q (some (.int (I 93 25))) (147, f, upI (upI I 93 0 0) 93 24 v, RP f sw) else if w = 7 then Q (some (.int (I 93 25))) (147, f, upI (upI I 93 0 0) 93 25 v, RP f sw) else ck (ixB w 6) (Q (some (.int (I 93 25))) (147, f, upI (upI I 93 0 0) 112 w.toNatClampNeg v, RP f sw)) else ck (ixB w 6) (if w = 6 then Q (some (.int (I 112 w.toNatClampNeg))) (147, f, upI (upI I 93 0 0) 93 24 v, RP f sw) else if w = 7 then Q (some (.int (I 112 w.toNatClampNeg))) (147, f, upI (upI I 93 0 0) 93 25 v, RP f sw) else ck (ixB w 6) (Q (some (.int (I 112 w.toNatClampNeg))) (147, f, upI (upI I 93 0 0) 112 w.toNatClampNeg v, RP f sw)))) :
    wp G (d + 10) (mt 206) 0 (en (mt 206) [.ref 93, .int w, .int v]) [] (147, f, I, RP f sw) Q := vc_wp o [] [184] 600 rfl hq
end
section
/-! NUMBERS: the reference's comparisons of longs, as comparisons -/
theorem lc_gt (x y : Int64) : 0 < lg_cmp x y ↔ y < x := by
  unfold lg_cmp
  by_cases h : x > y
  · rw [if_pos h]
    exact ⟨fun _ => h, fun _ => by decide⟩
  · rw [if_neg h]
    refine ⟨fun z => ?_, fun z => absurd z h⟩
    split at z
    · exact absurd z (by decide)
    · exact absurd z (by decide)
theorem lc_lt (x y : Int64) : lg_cmp x y < 0 ↔ x < y := by
  unfold lg_cmp
  by_cases h : x > y
  · rw [if_pos h]
    exact ⟨fun z => absurd z (by decide), fun z => (Int64.lt_irrefl (Int64.lt_trans z h)).elim⟩
  · rw [if_neg h]
    by_cases h2 : x = y
    · rw [if_pos h2]
      exact ⟨fun z => absurd z (by decide), fun z => by rw [h2] at z; exact (Int64.lt_irrefl z).elim⟩
    · rw [if_neg h2]
      refine ⟨fun _ => ?_, fun _ => by decide⟩
      rcases Int64.lt_or_eq_of_le (Int64.not_lt.mp h) with z | z
      · exact z
      · exact absurd z h2
theorem wd_lt (a b : Int32) : a.toInt64 < b.toInt64 ↔ a < b := by
  rw [Int64.lt_iff_toInt_lt, Int32.lt_iff_toInt_lt, Int32.toInt_toInt64, Int32.toInt_toInt64]
end
section
/-! THE LAW'S LOOP: from what each call owes (CO) to the law's run -/
/-- the script as the start gave it -/
def RX (G : GX) (I : Nat → Nat → Int32) : Prop := (∀ k, I 100300 k = G.2.2.2.2.2 k) ∧ I 100301 0 = Int32.ofNat G.2.2.2.2.1
/-- what a call owes: both sides return the same int, and the relation holds again -/
def CO (Rl : Nat → Bool → (Nat → Nat → Int32) → Prop) (G : GX) (C M : Nat) (vs : List Value) : Prop := ∀ (f : Nat) (sw : Bool) (I : Nat → Nat → Int32), Rl f sw I →
  wp G 999 (mt C) 0 (en (mt C) (.ref 0 :: vs)) [] (147, f, I, RP f sw) (fun r h1 => ∃ (x : Int32) (f1 : Nat) (sw1 : Bool) (I1 : Nat → Nat → Int32), r = some (.int x) ∧ h1 = (147, f1, I1, RP f1 sw1) ∧ RX G I1 ∧
    wp G 999 (mt M) 0 (en (mt M) (.ref 93 :: vs)) [] (147, f1, I1, RP f1 sw1) (fun r2 h2 => ∃ I2 : Nat → Nat → Int32, r2 = some (.int x) ∧ h2 = (147, f1, I2, RP f1 sw1) ∧ Rl f1 sw1 I2))
def LV (i : Int32) : Lc := [some (.ref 100300), some (.ref 0), some (.ref 93), some (.int i)]
def ixs (G : GX) (i : Int32) : Prop := ∀ t ∈ ([1, 2, 3, 4, 5, 6, 7, 8] : List Int32), ixB (i + t) (Int32.ofNat G.2.2.2.2.1).toNatClampNeg = true

-- WreckCourt.sheet
set_option maxRecDepth 100000 in
set_option maxHeartbeats 4000000 in
theorem law_0 {G : GX} {f : Nat} {sw : Bool} {I : Nat → Nat → Int32} {i : Int32} {Q : Option Value → Hp → Prop} {Rl : Nat → Bool → (Nat → Nat → Int32) → Prop} (hC : CO Rl G 11 182 [.int (G.2.2.2.2.2 (i + 1).toNatClampNeg), .int (G.2.2.2.2.2 (i + 2).toNatClampNeg), .int (G.2.2.2.2.2 (i + 3).toNatClampNeg)]) (hR : Rl f sw I) (hx : RX G I) (hb : ixs G i) (K : ∀ f1 sw1 I2, Rl f1 sw1 I2 → wp G 1000 (mt 264) 10 (LV (i + Int32.ofInt 9)) [] (147, f1, I2, RP f1 sw1) Q) : wp G 1000 (mt 264) 22 (LV i) [] (147, f, I, RP f sw) Q := by
  refine vc_law oks [(264, 10, [0, 1, 2, 3])] [1011, 1182] 120 ?_
  show ck (ixB (i + 1) (I 100301 0).toNatClampNeg) (ck (ixB (i + 2) (I 100301 0).toNatClampNeg) (ck (ixB (i + 3) (I 100301 0).toNatClampNeg) (wp G 999 (mt 11) 0 (en (mt 11) [.ref 0, .int (I 100300 (i + 1).toNatClampNeg), .int (I 100300 (i + 2).toNatClampNeg), .int (I 100300 (i + 3).toNatClampNeg)]) [] (147, f, I, RP f sw) _)))
  simp only [hx.1, hx.2, hb 1 (by decide), hb 2 (by decide), hb 3 (by decide), ck]
  refine wp.mono (hC f sw I hR) ?_
  rintro r h1 ⟨x, f1, sw1, I1, rfl, rfl, hx1, hM⟩
  show ck (ixB (i + 1) (I1 100301 0).toNatClampNeg) (ck (ixB (i + 2) (I1 100301 0).toNatClampNeg) (ck (ixB (i + 3) (I1 100301 0).toNatClampNeg) (wp G 999 (mt 182) 0 (en (mt 182) [.ref 93, .int (I1 100300 (i + 1).toNatClampNeg), .int (I1 100300 (i + 2).toNatClampNeg), .int (I1 100300 (i + 3).toNatClampNeg)]) [] (147, f1, I1, RP f1 sw1) _)))
  simp only [hx1.1, hx1.2, hb 1 (by decide), hb 2 (by decide), hb 3 (by decide), ck]
  refine wp.mono hM ?_
  rintro r h2 ⟨I2, rfl, rfl, hR2⟩
  show if x = x then wp G 1000 (mt 264) 10 (LV (i + Int32.ofInt 9)) [] (147, f1, I2, RP f1 sw1) Q else _
  rw [if_pos rfl]
  exact K f1 sw1 I2 hR2

-- WreckCourt.set
set_option maxRecDepth 100000 in
set_option maxHeartbeats 4000000 in
theorem law_1 {G : GX} {f : Nat} {sw : Bool} {I : Nat → Nat → Int32} {i : Int32} {Q : Option Value → Hp → Prop} {Rl : Nat → Bool → (Nat → Nat → Int32) → Prop} (hC : CO Rl G 17 186 [.int (G.2.2.2.2.2 (i + 1).toNatClampNeg), .int (G.2.2.2.2.2 (i + 2).toNatClampNeg), .int (G.2.2.2.2.2 (i + 3).toNatClampNeg)]) (hR : Rl f sw I) (hx : RX G I) (hb : ixs G i) (K : ∀ f1 sw1 I2, Rl f1 sw1 I2 → wp G 1000 (mt 264) 10 (LV (i + Int32.ofInt 9)) [] (147, f1, I2, RP f1 sw1) Q) : wp G 1000 (mt 264) 59 (LV i) [] (147, f, I, RP f sw) Q := by
  refine vc_law oks [(264, 10, [0, 1, 2, 3])] [1017, 1186] 120 ?_
  show ck (ixB (i + 1) (I 100301 0).toNatClampNeg) (ck (ixB (i + 2) (I 100301 0).toNatClampNeg) (ck (ixB (i + 3) (I 100301 0).toNatClampNeg) (wp G 999 (mt 17) 0 (en (mt 17) [.ref 0, .int (I 100300 (i + 1).toNatClampNeg), .int (I 100300 (i + 2).toNatClampNeg), .int (I 100300 (i + 3).toNatClampNeg)]) [] (147, f, I, RP f sw) _)))
  simp only [hx.1, hx.2, hb 1 (by decide), hb 2 (by decide), hb 3 (by decide), ck]
  refine wp.mono (hC f sw I hR) ?_
  rintro r h1 ⟨x, f1, sw1, I1, rfl, rfl, hx1, hM⟩
  show ck (ixB (i + 1) (I1 100301 0).toNatClampNeg) (ck (ixB (i + 2) (I1 100301 0).toNatClampNeg) (ck (ixB (i + 3) (I1 100301 0).toNatClampNeg) (wp G 999 (mt 186) 0 (en (mt 186) [.ref 93, .int (I1 100300 (i + 1).toNatClampNeg), .int (I1 100300 (i + 2).toNatClampNeg), .int (I1 100300 (i + 3).toNatClampNeg)]) [] (147, f1, I1, RP f1 sw1) _)))
  simp only [hx1.1, hx1.2, hb 1 (by decide), hb 2 (by decide), hb 3 (by decide), ck]
  refine wp.mono hM ?_
  rintro r h2 ⟨I2, rfl, rfl, hR2⟩
  show if x = x then wp G 1000 (mt 264) 10 (LV (i + Int32.ofInt 9)) [] (147, f1, I2, RP f1 sw1) Q else _
  rw [if_pos rfl]
  exact K f1 sw1 I2 hR2

-- WreckCourt.copy
set_option maxRecDepth 100000 in
set_option maxHeartbeats 4000000 in
theorem law_2 {G : GX} {f : Nat} {sw : Bool} {I : Nat → Nat → Int32} {i : Int32} {Q : Option Value → Hp → Prop} {Rl : Nat → Bool → (Nat → Nat → Int32) → Prop} (hC : CO Rl G 20 187 [.int (G.2.2.2.2.2 (i + 1).toNatClampNeg), .int (G.2.2.2.2.2 (i + 2).toNatClampNeg), .int (G.2.2.2.2.2 (i + 3).toNatClampNeg), .int (G.2.2.2.2.2 (i + 4).toNatClampNeg), .int (G.2.2.2.2.2 (i + 5).toNatClampNeg)]) (hR : Rl f sw I) (hx : RX G I) (hb : ixs G i) (K : ∀ f1 sw1 I2, Rl f1 sw1 I2 → wp G 1000 (mt 264) 10 (LV (i + Int32.ofInt 9)) [] (147, f1, I2, RP f1 sw1) Q) : wp G 1000 (mt 264) 96 (LV i) [] (147, f, I, RP f sw) Q := by
  refine vc_law oks [(264, 10, [0, 1, 2, 3])] [1020, 1187] 120 ?_
  show ck (ixB (i + 1) (I 100301 0).toNatClampNeg) (ck (ixB (i + 2) (I 100301 0).toNatClampNeg) (ck (ixB (i + 3) (I 100301 0).toNatClampNeg) (ck (ixB (i + 4) (I 100301 0).toNatClampNeg) (ck (ixB (i + 5) (I 100301 0).toNatClampNeg) (wp G 999 (mt 20) 0 (en (mt 20) [.ref 0, .int (I 100300 (i + 1).toNatClampNeg), .int (I 100300 (i + 2).toNatClampNeg), .int (I 100300 (i + 3).toNatClampNeg), .int (I 100300 (i + 4).toNatClampNeg), .int (I 100300 (i + 5).toNatClampNeg)]) [] (147, f, I, RP f sw) _)))))
  simp only [hx.1, hx.2, hb 1 (by decide), hb 2 (by decide), hb 3 (by decide), hb 4 (by decide), hb 5 (by decide), ck]
  refine wp.mono (hC f sw I hR) ?_
  rintro r h1 ⟨x, f1, sw1, I1, rfl, rfl, hx1, hM⟩
  show ck (ixB (i + 1) (I1 100301 0).toNatClampNeg) (ck (ixB (i + 2) (I1 100301 0).toNatClampNeg) (ck (ixB (i + 3) (I1 100301 0).toNatClampNeg) (ck (ixB (i + 4) (I1 100301 0).toNatClampNeg) (ck (ixB (i + 5) (I1 100301 0).toNatClampNeg) (wp G 999 (mt 187) 0 (en (mt 187) [.ref 93, .int (I1 100300 (i + 1).toNatClampNeg), .int (I1 100300 (i + 2).toNatClampNeg), .int (I1 100300 (i + 3).toNatClampNeg), .int (I1 100300 (i + 4).toNatClampNeg), .int (I1 100300 (i + 5).toNatClampNeg)]) [] (147, f1, I1, RP f1 sw1) _)))))
  simp only [hx1.1, hx1.2, hb 1 (by decide), hb 2 (by decide), hb 3 (by decide), hb 4 (by decide), hb 5 (by decide), ck]
  refine wp.mono hM ?_
  rintro r h2 ⟨I2, rfl, rfl, hR2⟩
  show if x = x then wp G 1000 (mt 264) 10 (LV (i + Int32.ofInt 9)) [] (147, f1, I2, RP f1 sw1) Q else _
  rw [if_pos rfl]
  exact K f1 sw1 I2 hR2

-- WreckCourt.drop
set_option maxRecDepth 100000 in
set_option maxHeartbeats 4000000 in
theorem law_3 {G : GX} {f : Nat} {sw : Bool} {I : Nat → Nat → Int32} {i : Int32} {Q : Option Value → Hp → Prop} {Rl : Nat → Bool → (Nat → Nat → Int32) → Prop} (hC : CO Rl G 21 188 [.int (G.2.2.2.2.2 (i + 1).toNatClampNeg)]) (hR : Rl f sw I) (hx : RX G I) (hb : ixs G i) (K : ∀ f1 sw1 I2, Rl f1 sw1 I2 → wp G 1000 (mt 264) 10 (LV (i + Int32.ofInt 9)) [] (147, f1, I2, RP f1 sw1) Q) : wp G 1000 (mt 264) 153 (LV i) [] (147, f, I, RP f sw) Q := by
  refine vc_law oks [(264, 10, [0, 1, 2, 3])] [1021, 1188] 120 ?_
  show ck (ixB (i + 1) (I 100301 0).toNatClampNeg) (wp G 999 (mt 21) 0 (en (mt 21) [.ref 0, .int (I 100300 (i + 1).toNatClampNeg)]) [] (147, f, I, RP f sw) _)
  simp only [hx.1, hx.2, hb 1 (by decide), ck]
  refine wp.mono (hC f sw I hR) ?_
  rintro r h1 ⟨x, f1, sw1, I1, rfl, rfl, hx1, hM⟩
  show ck (ixB (i + 1) (I1 100301 0).toNatClampNeg) (wp G 999 (mt 188) 0 (en (mt 188) [.ref 93, .int (I1 100300 (i + 1).toNatClampNeg)]) [] (147, f1, I1, RP f1 sw1) _)
  simp only [hx1.1, hx1.2, hb 1 (by decide), ck]
  refine wp.mono hM ?_
  rintro r h2 ⟨I2, rfl, rfl, hR2⟩
  show if x = x then wp G 1000 (mt 264) 10 (LV (i + Int32.ofInt 9)) [] (147, f1, I2, RP f1 sw1) Q else _
  rw [if_pos rfl]
  exact K f1 sw1 I2 hR2

-- WreckCourt.ship
set_option maxRecDepth 100000 in
set_option maxHeartbeats 4000000 in
theorem law_4 {G : GX} {f : Nat} {sw : Bool} {I : Nat → Nat → Int32} {i : Int32} {Q : Option Value → Hp → Prop} {Rl : Nat → Bool → (Nat → Nat → Int32) → Prop} (hC : CO Rl G 22 189 [.int (G.2.2.2.2.2 (i + 1).toNatClampNeg), .int (G.2.2.2.2.2 (i + 2).toNatClampNeg)]) (hR : Rl f sw I) (hx : RX G I) (hb : ixs G i) (K : ∀ f1 sw1 I2, Rl f1 sw1 I2 → wp G 1000 (mt 264) 10 (LV (i + Int32.ofInt 9)) [] (147, f1, I2, RP f1 sw1) Q) : wp G 1000 (mt 264) 170 (LV i) [] (147, f, I, RP f sw) Q := by
  refine vc_law oks [(264, 10, [0, 1, 2, 3])] [1022, 1189] 120 ?_
  show ck (ixB (i + 1) (I 100301 0).toNatClampNeg) (ck (ixB (i + 2) (I 100301 0).toNatClampNeg) (wp G 999 (mt 22) 0 (en (mt 22) [.ref 0, .int (I 100300 (i + 1).toNatClampNeg), .int (I 100300 (i + 2).toNatClampNeg)]) [] (147, f, I, RP f sw) _))
  simp only [hx.1, hx.2, hb 1 (by decide), hb 2 (by decide), ck]
  refine wp.mono (hC f sw I hR) ?_
  rintro r h1 ⟨x, f1, sw1, I1, rfl, rfl, hx1, hM⟩
  show ck (ixB (i + 1) (I1 100301 0).toNatClampNeg) (ck (ixB (i + 2) (I1 100301 0).toNatClampNeg) (wp G 999 (mt 189) 0 (en (mt 189) [.ref 93, .int (I1 100300 (i + 1).toNatClampNeg), .int (I1 100300 (i + 2).toNatClampNeg)]) [] (147, f1, I1, RP f1 sw1) _))
  simp only [hx1.1, hx1.2, hb 1 (by decide), hb 2 (by decide), ck]
  refine wp.mono hM ?_
  rintro r h2 ⟨I2, rfl, rfl, hR2⟩
  show if x = x then wp G 1000 (mt 264) 10 (LV (i + Int32.ofInt 9)) [] (147, f1, I2, RP f1 sw1) Q else _
  rw [if_pos rfl]
  exact K f1 sw1 I2 hR2

-- WreckCourt.order
set_option maxRecDepth 100000 in
set_option maxHeartbeats 4000000 in
theorem law_5 {G : GX} {f : Nat} {sw : Bool} {I : Nat → Nat → Int32} {i : Int32} {Q : Option Value → Hp → Prop} {Rl : Nat → Bool → (Nat → Nat → Int32) → Prop} (hC : CO Rl G 25 191 [.int (G.2.2.2.2.2 (i + 1).toNatClampNeg), .int (G.2.2.2.2.2 (i + 2).toNatClampNeg), .int (G.2.2.2.2.2 (i + 3).toNatClampNeg), .int (G.2.2.2.2.2 (i + 4).toNatClampNeg)]) (hR : Rl f sw I) (hx : RX G I) (hb : ixs G i) (K : ∀ f1 sw1 I2, Rl f1 sw1 I2 → wp G 1000 (mt 264) 10 (LV (i + Int32.ofInt 9)) [] (147, f1, I2, RP f1 sw1) Q) : wp G 1000 (mt 264) 197 (LV i) [] (147, f, I, RP f sw) Q := by
  refine vc_law oks [(264, 10, [0, 1, 2, 3])] [1025, 1191] 120 ?_
  show ck (ixB (i + 1) (I 100301 0).toNatClampNeg) (ck (ixB (i + 2) (I 100301 0).toNatClampNeg) (ck (ixB (i + 3) (I 100301 0).toNatClampNeg) (ck (ixB (i + 4) (I 100301 0).toNatClampNeg) (wp G 999 (mt 25) 0 (en (mt 25) [.ref 0, .int (I 100300 (i + 1).toNatClampNeg), .int (I 100300 (i + 2).toNatClampNeg), .int (I 100300 (i + 3).toNatClampNeg), .int (I 100300 (i + 4).toNatClampNeg)]) [] (147, f, I, RP f sw) _))))
  simp only [hx.1, hx.2, hb 1 (by decide), hb 2 (by decide), hb 3 (by decide), hb 4 (by decide), ck]
  refine wp.mono (hC f sw I hR) ?_
  rintro r h1 ⟨x, f1, sw1, I1, rfl, rfl, hx1, hM⟩
  show ck (ixB (i + 1) (I1 100301 0).toNatClampNeg) (ck (ixB (i + 2) (I1 100301 0).toNatClampNeg) (ck (ixB (i + 3) (I1 100301 0).toNatClampNeg) (ck (ixB (i + 4) (I1 100301 0).toNatClampNeg) (wp G 999 (mt 191) 0 (en (mt 191) [.ref 93, .int (I1 100300 (i + 1).toNatClampNeg), .int (I1 100300 (i + 2).toNatClampNeg), .int (I1 100300 (i + 3).toNatClampNeg), .int (I1 100300 (i + 4).toNatClampNeg)]) [] (147, f1, I1, RP f1 sw1) _))))
  simp only [hx1.1, hx1.2, hb 1 (by decide), hb 2 (by decide), hb 3 (by decide), hb 4 (by decide), ck]
  refine wp.mono hM ?_
  rintro r h2 ⟨I2, rfl, rfl, hR2⟩
  show if x = x then wp G 1000 (mt 264) 10 (LV (i + Int32.ofInt 9)) [] (147, f1, I2, RP f1 sw1) Q else _
  rw [if_pos rfl]
  exact K f1 sw1 I2 hR2

-- WreckCourt.tide
set_option maxRecDepth 100000 in
set_option maxHeartbeats 4000000 in
theorem law_6 {G : GX} {f : Nat} {sw : Bool} {I : Nat → Nat → Int32} {i : Int32} {Q : Option Value → Hp → Prop} {Rl : Nat → Bool → (Nat → Nat → Int32) → Prop} (hC : CO Rl G 31 194 [.int (G.2.2.2.2.2 (i + 1).toNatClampNeg), .int (G.2.2.2.2.2 (i + 2).toNatClampNeg), .int (G.2.2.2.2.2 (i + 3).toNatClampNeg), .int (G.2.2.2.2.2 (i + 4).toNatClampNeg)]) (hR : Rl f sw I) (hx : RX G I) (hb : ixs G i) (K : ∀ f1 sw1 I2, Rl f1 sw1 I2 → wp G 1000 (mt 264) 10 (LV (i + Int32.ofInt 9)) [] (147, f1, I2, RP f1 sw1) Q) : wp G 1000 (mt 264) 244 (LV i) [] (147, f, I, RP f sw) Q := by
  refine vc_law oks [(264, 10, [0, 1, 2, 3])] [1031, 1194] 120 ?_
  show ck (ixB (i + 1) (I 100301 0).toNatClampNeg) (ck (ixB (i + 2) (I 100301 0).toNatClampNeg) (ck (ixB (i + 3) (I 100301 0).toNatClampNeg) (ck (ixB (i + 4) (I 100301 0).toNatClampNeg) (wp G 999 (mt 31) 0 (en (mt 31) [.ref 0, .int (I 100300 (i + 1).toNatClampNeg), .int (I 100300 (i + 2).toNatClampNeg), .int (I 100300 (i + 3).toNatClampNeg), .int (I 100300 (i + 4).toNatClampNeg)]) [] (147, f, I, RP f sw) _))))
  simp only [hx.1, hx.2, hb 1 (by decide), hb 2 (by decide), hb 3 (by decide), hb 4 (by decide), ck]
  refine wp.mono (hC f sw I hR) ?_
  rintro r h1 ⟨x, f1, sw1, I1, rfl, rfl, hx1, hM⟩
  show ck (ixB (i + 1) (I1 100301 0).toNatClampNeg) (ck (ixB (i + 2) (I1 100301 0).toNatClampNeg) (ck (ixB (i + 3) (I1 100301 0).toNatClampNeg) (ck (ixB (i + 4) (I1 100301 0).toNatClampNeg) (wp G 999 (mt 194) 0 (en (mt 194) [.ref 93, .int (I1 100300 (i + 1).toNatClampNeg), .int (I1 100300 (i + 2).toNatClampNeg), .int (I1 100300 (i + 3).toNatClampNeg), .int (I1 100300 (i + 4).toNatClampNeg)]) [] (147, f1, I1, RP f1 sw1) _))))
  simp only [hx1.1, hx1.2, hb 1 (by decide), hb 2 (by decide), hb 3 (by decide), hb 4 (by decide), ck]
  refine wp.mono hM ?_
  rintro r h2 ⟨I2, rfl, rfl, hR2⟩
  show if x = x then wp G 1000 (mt 264) 10 (LV (i + Int32.ofInt 9)) [] (147, f1, I2, RP f1 sw1) Q else _
  rw [if_pos rfl]
  exact K f1 sw1 I2 hR2

-- WreckCourt.dark
set_option maxRecDepth 100000 in
set_option maxHeartbeats 4000000 in
theorem law_7 {G : GX} {f : Nat} {sw : Bool} {I : Nat → Nat → Int32} {i : Int32} {Q : Option Value → Hp → Prop} {Rl : Nat → Bool → (Nat → Nat → Int32) → Prop} (hC : CO Rl G 34 195 [.int (G.2.2.2.2.2 (i + 1).toNatClampNeg), .int (G.2.2.2.2.2 (i + 2).toNatClampNeg), .int (G.2.2.2.2.2 (i + 3).toNatClampNeg)]) (hR : Rl f sw I) (hx : RX G I) (hb : ixs G i) (K : ∀ f1 sw1 I2, Rl f1 sw1 I2 → wp G 1000 (mt 264) 10 (LV (i + Int32.ofInt 9)) [] (147, f1, I2, RP f1 sw1) Q) : wp G 1000 (mt 264) 291 (LV i) [] (147, f, I, RP f sw) Q := by
  refine vc_law oks [(264, 10, [0, 1, 2, 3])] [1034, 1195] 120 ?_
  show ck (ixB (i + 1) (I 100301 0).toNatClampNeg) (ck (ixB (i + 2) (I 100301 0).toNatClampNeg) (ck (ixB (i + 3) (I 100301 0).toNatClampNeg) (wp G 999 (mt 34) 0 (en (mt 34) [.ref 0, .int (I 100300 (i + 1).toNatClampNeg), .int (I 100300 (i + 2).toNatClampNeg), .int (I 100300 (i + 3).toNatClampNeg)]) [] (147, f, I, RP f sw) _)))
  simp only [hx.1, hx.2, hb 1 (by decide), hb 2 (by decide), hb 3 (by decide), ck]
  refine wp.mono (hC f sw I hR) ?_
  rintro r h1 ⟨x, f1, sw1, I1, rfl, rfl, hx1, hM⟩
  show ck (ixB (i + 1) (I1 100301 0).toNatClampNeg) (ck (ixB (i + 2) (I1 100301 0).toNatClampNeg) (ck (ixB (i + 3) (I1 100301 0).toNatClampNeg) (wp G 999 (mt 195) 0 (en (mt 195) [.ref 93, .int (I1 100300 (i + 1).toNatClampNeg), .int (I1 100300 (i + 2).toNatClampNeg), .int (I1 100300 (i + 3).toNatClampNeg)]) [] (147, f1, I1, RP f1 sw1) _)))
  simp only [hx1.1, hx1.2, hb 1 (by decide), hb 2 (by decide), hb 3 (by decide), ck]
  refine wp.mono hM ?_
  rintro r h2 ⟨I2, rfl, rfl, hR2⟩
  show if x = x then wp G 1000 (mt 264) 10 (LV (i + Int32.ofInt 9)) [] (147, f1, I2, RP f1 sw1) Q else _
  rw [if_pos rfl]
  exact K f1 sw1 I2 hR2

-- WreckCourt.where
set_option maxRecDepth 100000 in
set_option maxHeartbeats 4000000 in
theorem law_8 {G : GX} {f : Nat} {sw : Bool} {I : Nat → Nat → Int32} {i : Int32} {Q : Option Value → Hp → Prop} {Rl : Nat → Bool → (Nat → Nat → Int32) → Prop} (hC : CO Rl G 38 196 [.int (G.2.2.2.2.2 (i + 1).toNatClampNeg), .int (G.2.2.2.2.2 (i + 2).toNatClampNeg), .int (G.2.2.2.2.2 (i + 3).toNatClampNeg)]) (hR : Rl f sw I) (hx : RX G I) (hb : ixs G i) (K : ∀ f1 sw1 I2, Rl f1 sw1 I2 → wp G 1000 (mt 264) 10 (LV (i + Int32.ofInt 9)) [] (147, f1, I2, RP f1 sw1) Q) : wp G 1000 (mt 264) 328 (LV i) [] (147, f, I, RP f sw) Q := by
  refine vc_law oks [(264, 10, [0, 1, 2, 3])] [1038, 1196] 120 ?_
  show ck (ixB (i + 1) (I 100301 0).toNatClampNeg) (ck (ixB (i + 2) (I 100301 0).toNatClampNeg) (ck (ixB (i + 3) (I 100301 0).toNatClampNeg) (wp G 999 (mt 38) 0 (en (mt 38) [.ref 0, .int (I 100300 (i + 1).toNatClampNeg), .int (I 100300 (i + 2).toNatClampNeg), .int (I 100300 (i + 3).toNatClampNeg)]) [] (147, f, I, RP f sw) _)))
  simp only [hx.1, hx.2, hb 1 (by decide), hb 2 (by decide), hb 3 (by decide), ck]
  refine wp.mono (hC f sw I hR) ?_
  rintro r h1 ⟨x, f1, sw1, I1, rfl, rfl, hx1, hM⟩
  show ck (ixB (i + 1) (I1 100301 0).toNatClampNeg) (ck (ixB (i + 2) (I1 100301 0).toNatClampNeg) (ck (ixB (i + 3) (I1 100301 0).toNatClampNeg) (wp G 999 (mt 196) 0 (en (mt 196) [.ref 93, .int (I1 100300 (i + 1).toNatClampNeg), .int (I1 100300 (i + 2).toNatClampNeg), .int (I1 100300 (i + 3).toNatClampNeg)]) [] (147, f1, I1, RP f1 sw1) _)))
  simp only [hx1.1, hx1.2, hb 1 (by decide), hb 2 (by decide), hb 3 (by decide), ck]
  refine wp.mono hM ?_
  rintro r h2 ⟨I2, rfl, rfl, hR2⟩
  show if x = x then wp G 1000 (mt 264) 10 (LV (i + Int32.ofInt 9)) [] (147, f1, I2, RP f1 sw1) Q else _
  rw [if_pos rfl]
  exact K f1 sw1 I2 hR2

-- WreckCourt.nearest
set_option maxRecDepth 100000 in
set_option maxHeartbeats 4000000 in
theorem law_9 {G : GX} {f : Nat} {sw : Bool} {I : Nat → Nat → Int32} {i : Int32} {Q : Option Value → Hp → Prop} {Rl : Nat → Bool → (Nat → Nat → Int32) → Prop} (hC : CO Rl G 52 205 [.int (G.2.2.2.2.2 (i + 1).toNatClampNeg), .int (G.2.2.2.2.2 (i + 2).toNatClampNeg), .int (G.2.2.2.2.2 (i + 3).toNatClampNeg)]) (hR : Rl f sw I) (hx : RX G I) (hb : ixs G i) (K : ∀ f1 sw1 I2, Rl f1 sw1 I2 → wp G 1000 (mt 264) 10 (LV (i + Int32.ofInt 9)) [] (147, f1, I2, RP f1 sw1) Q) : wp G 1000 (mt 264) 365 (LV i) [] (147, f, I, RP f sw) Q := by
  refine vc_law oks [(264, 10, [0, 1, 2, 3])] [1052, 1205] 120 ?_
  show ck (ixB (i + 1) (I 100301 0).toNatClampNeg) (ck (ixB (i + 2) (I 100301 0).toNatClampNeg) (ck (ixB (i + 3) (I 100301 0).toNatClampNeg) (wp G 999 (mt 52) 0 (en (mt 52) [.ref 0, .int (I 100300 (i + 1).toNatClampNeg), .int (I 100300 (i + 2).toNatClampNeg), .int (I 100300 (i + 3).toNatClampNeg)]) [] (147, f, I, RP f sw) _)))
  simp only [hx.1, hx.2, hb 1 (by decide), hb 2 (by decide), hb 3 (by decide), ck]
  refine wp.mono (hC f sw I hR) ?_
  rintro r h1 ⟨x, f1, sw1, I1, rfl, rfl, hx1, hM⟩
  show ck (ixB (i + 1) (I1 100301 0).toNatClampNeg) (ck (ixB (i + 2) (I1 100301 0).toNatClampNeg) (ck (ixB (i + 3) (I1 100301 0).toNatClampNeg) (wp G 999 (mt 205) 0 (en (mt 205) [.ref 93, .int (I1 100300 (i + 1).toNatClampNeg), .int (I1 100300 (i + 2).toNatClampNeg), .int (I1 100300 (i + 3).toNatClampNeg)]) [] (147, f1, I1, RP f1 sw1) _)))
  simp only [hx1.1, hx1.2, hb 1 (by decide), hb 2 (by decide), hb 3 (by decide), ck]
  refine wp.mono hM ?_
  rintro r h2 ⟨I2, rfl, rfl, hR2⟩
  show if x = x then wp G 1000 (mt 264) 10 (LV (i + Int32.ofInt 9)) [] (147, f1, I2, RP f1 sw1) Q else _
  rw [if_pos rfl]
  exact K f1 sw1 I2 hR2

-- WreckCourt.hull
set_option maxRecDepth 100000 in
set_option maxHeartbeats 4000000 in
theorem law_10 {G : GX} {f : Nat} {sw : Bool} {I : Nat → Nat → Int32} {i : Int32} {Q : Option Value → Hp → Prop} {Rl : Nat → Bool → (Nat → Nat → Int32) → Prop} (hC : CO Rl G 54 206 [.int (G.2.2.2.2.2 (i + 1).toNatClampNeg), .int (G.2.2.2.2.2 (i + 2).toNatClampNeg)]) (hR : Rl f sw I) (hx : RX G I) (hb : ixs G i) (K : ∀ f1 sw1 I2, Rl f1 sw1 I2 → wp G 1000 (mt 264) 10 (LV (i + Int32.ofInt 9)) [] (147, f1, I2, RP f1 sw1) Q) : wp G 1000 (mt 264) 402 (LV i) [] (147, f, I, RP f sw) Q := by
  refine vc_law oks [(264, 10, [0, 1, 2, 3])] [1054, 1206] 120 ?_
  show ck (ixB (i + 1) (I 100301 0).toNatClampNeg) (ck (ixB (i + 2) (I 100301 0).toNatClampNeg) (wp G 999 (mt 54) 0 (en (mt 54) [.ref 0, .int (I 100300 (i + 1).toNatClampNeg), .int (I 100300 (i + 2).toNatClampNeg)]) [] (147, f, I, RP f sw) _))
  simp only [hx.1, hx.2, hb 1 (by decide), hb 2 (by decide), ck]
  refine wp.mono (hC f sw I hR) ?_
  rintro r h1 ⟨x, f1, sw1, I1, rfl, rfl, hx1, hM⟩
  show ck (ixB (i + 1) (I1 100301 0).toNatClampNeg) (ck (ixB (i + 2) (I1 100301 0).toNatClampNeg) (wp G 999 (mt 206) 0 (en (mt 206) [.ref 93, .int (I1 100300 (i + 1).toNatClampNeg), .int (I1 100300 (i + 2).toNatClampNeg)]) [] (147, f1, I1, RP f1 sw1) _))
  simp only [hx1.1, hx1.2, hb 1 (by decide), hb 2 (by decide), ck]
  refine wp.mono hM ?_
  rintro r h2 ⟨I2, rfl, rfl, hR2⟩
  show if x = x then wp G 1000 (mt 264) 10 (LV (i + Int32.ofInt 9)) [] (147, f1, I2, RP f1 sw1) Q else _
  rw [if_pos rfl]
  exact K f1 sw1 I2 hR2

-- WreckCourt.door
set_option maxRecDepth 100000 in
set_option maxHeartbeats 4000000 in
theorem law_11 {G : GX} {f : Nat} {sw : Bool} {I : Nat → Nat → Int32} {i : Int32} {Q : Option Value → Hp → Prop} {Rl : Nat → Bool → (Nat → Nat → Int32) → Prop} (hC : CO Rl G 59 207 [.int (G.2.2.2.2.2 (i + 1).toNatClampNeg), .int (G.2.2.2.2.2 (i + 2).toNatClampNeg), .int (G.2.2.2.2.2 (i + 3).toNatClampNeg)]) (hR : Rl f sw I) (hx : RX G I) (hb : ixs G i) (K : ∀ f1 sw1 I2, Rl f1 sw1 I2 → wp G 1000 (mt 264) 10 (LV (i + Int32.ofInt 9)) [] (147, f1, I2, RP f1 sw1) Q) : wp G 1000 (mt 264) 429 (LV i) [] (147, f, I, RP f sw) Q := by
  refine vc_law oks [(264, 10, [0, 1, 2, 3])] [1059, 1207] 120 ?_
  show ck (ixB (i + 1) (I 100301 0).toNatClampNeg) (ck (ixB (i + 2) (I 100301 0).toNatClampNeg) (ck (ixB (i + 3) (I 100301 0).toNatClampNeg) (wp G 999 (mt 59) 0 (en (mt 59) [.ref 0, .int (I 100300 (i + 1).toNatClampNeg), .int (I 100300 (i + 2).toNatClampNeg), .int (I 100300 (i + 3).toNatClampNeg)]) [] (147, f, I, RP f sw) _)))
  simp only [hx.1, hx.2, hb 1 (by decide), hb 2 (by decide), hb 3 (by decide), ck]
  refine wp.mono (hC f sw I hR) ?_
  rintro r h1 ⟨x, f1, sw1, I1, rfl, rfl, hx1, hM⟩
  show ck (ixB (i + 1) (I1 100301 0).toNatClampNeg) (ck (ixB (i + 2) (I1 100301 0).toNatClampNeg) (ck (ixB (i + 3) (I1 100301 0).toNatClampNeg) (wp G 999 (mt 207) 0 (en (mt 207) [.ref 93, .int (I1 100300 (i + 1).toNatClampNeg), .int (I1 100300 (i + 2).toNatClampNeg), .int (I1 100300 (i + 3).toNatClampNeg)]) [] (147, f1, I1, RP f1 sw1) _)))
  simp only [hx1.1, hx1.2, hb 1 (by decide), hb 2 (by decide), hb 3 (by decide), ck]
  refine wp.mono hM ?_
  rintro r h2 ⟨I2, rfl, rfl, hR2⟩
  show if x = x then wp G 1000 (mt 264) 10 (LV (i + Int32.ofInt 9)) [] (147, f1, I2, RP f1 sw1) Q else _
  rw [if_pos rfl]
  exact K f1 sw1 I2 hR2

-- WreckCourt.hole
set_option maxRecDepth 100000 in
set_option maxHeartbeats 4000000 in
theorem law_12 {G : GX} {f : Nat} {sw : Bool} {I : Nat → Nat → Int32} {i : Int32} {Q : Option Value → Hp → Prop} {Rl : Nat → Bool → (Nat → Nat → Int32) → Prop} (hC : CO Rl G 62 208 [.int (G.2.2.2.2.2 (i + 1).toNatClampNeg), .int (G.2.2.2.2.2 (i + 2).toNatClampNeg), .int (G.2.2.2.2.2 (i + 3).toNatClampNeg)]) (hR : Rl f sw I) (hx : RX G I) (hb : ixs G i) (K : ∀ f1 sw1 I2, Rl f1 sw1 I2 → wp G 1000 (mt 264) 10 (LV (i + Int32.ofInt 9)) [] (147, f1, I2, RP f1 sw1) Q) : wp G 1000 (mt 264) 466 (LV i) [] (147, f, I, RP f sw) Q := by
  refine vc_law oks [(264, 10, [0, 1, 2, 3])] [1062, 1208] 120 ?_
  show ck (ixB (i + 1) (I 100301 0).toNatClampNeg) (ck (ixB (i + 2) (I 100301 0).toNatClampNeg) (ck (ixB (i + 3) (I 100301 0).toNatClampNeg) (wp G 999 (mt 62) 0 (en (mt 62) [.ref 0, .int (I 100300 (i + 1).toNatClampNeg), .int (I 100300 (i + 2).toNatClampNeg), .int (I 100300 (i + 3).toNatClampNeg)]) [] (147, f, I, RP f sw) _)))
  simp only [hx.1, hx.2, hb 1 (by decide), hb 2 (by decide), hb 3 (by decide), ck]
  refine wp.mono (hC f sw I hR) ?_
  rintro r h1 ⟨x, f1, sw1, I1, rfl, rfl, hx1, hM⟩
  show ck (ixB (i + 1) (I1 100301 0).toNatClampNeg) (ck (ixB (i + 2) (I1 100301 0).toNatClampNeg) (ck (ixB (i + 3) (I1 100301 0).toNatClampNeg) (wp G 999 (mt 208) 0 (en (mt 208) [.ref 93, .int (I1 100300 (i + 1).toNatClampNeg), .int (I1 100300 (i + 2).toNatClampNeg), .int (I1 100300 (i + 3).toNatClampNeg)]) [] (147, f1, I1, RP f1 sw1) _)))
  simp only [hx1.1, hx1.2, hb 1 (by decide), hb 2 (by decide), hb 3 (by decide), ck]
  refine wp.mono hM ?_
  rintro r h2 ⟨I2, rfl, rfl, hR2⟩
  show if x = x then wp G 1000 (mt 264) 10 (LV (i + Int32.ofInt 9)) [] (147, f1, I2, RP f1 sw1) Q else _
  rw [if_pos rfl]
  exact K f1 sw1 I2 hR2

-- WreckCourt.water
set_option maxRecDepth 100000 in
set_option maxHeartbeats 4000000 in
theorem law_13 {G : GX} {f : Nat} {sw : Bool} {I : Nat → Nat → Int32} {i : Int32} {Q : Option Value → Hp → Prop} {Rl : Nat → Bool → (Nat → Nat → Int32) → Prop} (hC : CO Rl G 64 209 [.int (G.2.2.2.2.2 (i + 1).toNatClampNeg), .int (G.2.2.2.2.2 (i + 2).toNatClampNeg)]) (hR : Rl f sw I) (hx : RX G I) (hb : ixs G i) (K : ∀ f1 sw1 I2, Rl f1 sw1 I2 → wp G 1000 (mt 264) 10 (LV (i + Int32.ofInt 9)) [] (147, f1, I2, RP f1 sw1) Q) : wp G 1000 (mt 264) 503 (LV i) [] (147, f, I, RP f sw) Q := by
  refine vc_law oks [(264, 10, [0, 1, 2, 3])] [1064, 1209] 120 ?_
  show ck (ixB (i + 1) (I 100301 0).toNatClampNeg) (ck (ixB (i + 2) (I 100301 0).toNatClampNeg) (wp G 999 (mt 64) 0 (en (mt 64) [.ref 0, .int (I 100300 (i + 1).toNatClampNeg), .int (I 100300 (i + 2).toNatClampNeg)]) [] (147, f, I, RP f sw) _))
  simp only [hx.1, hx.2, hb 1 (by decide), hb 2 (by decide), ck]
  refine wp.mono (hC f sw I hR) ?_
  rintro r h1 ⟨x, f1, sw1, I1, rfl, rfl, hx1, hM⟩
  show ck (ixB (i + 1) (I1 100301 0).toNatClampNeg) (ck (ixB (i + 2) (I1 100301 0).toNatClampNeg) (wp G 999 (mt 209) 0 (en (mt 209) [.ref 93, .int (I1 100300 (i + 1).toNatClampNeg), .int (I1 100300 (i + 2).toNatClampNeg)]) [] (147, f1, I1, RP f1 sw1) _))
  simp only [hx1.1, hx1.2, hb 1 (by decide), hb 2 (by decide), ck]
  refine wp.mono hM ?_
  rintro r h2 ⟨I2, rfl, rfl, hR2⟩
  show if x = x then wp G 1000 (mt 264) 10 (LV (i + Int32.ofInt 9)) [] (147, f1, I2, RP f1 sw1) Q else _
  rw [if_pos rfl]
  exact K f1 sw1 I2 hR2

-- WreckCourt.sinks
set_option maxRecDepth 100000 in
set_option maxHeartbeats 4000000 in
theorem law_14 {G : GX} {f : Nat} {sw : Bool} {I : Nat → Nat → Int32} {i : Int32} {Q : Option Value → Hp → Prop} {Rl : Nat → Bool → (Nat → Nat → Int32) → Prop} (hC : CO Rl G 75 214 []) (hR : Rl f sw I) (hx : RX G I) (K : ∀ f1 sw1 I2, Rl f1 sw1 I2 → wp G 1000 (mt 264) 10 (LV (i + Int32.ofInt 9)) [] (147, f1, I2, RP f1 sw1) Q) : wp G 1000 (mt 264) 530 (LV i) [] (147, f, I, RP f sw) Q := by
  refine vc_law oks [(264, 10, [0, 1, 2, 3])] [1075, 1214] 120 ?_
  show wp G 999 (mt 75) 0 (en (mt 75) [.ref 0]) [] (147, f, I, RP f sw) _
  refine wp.mono (hC f sw I hR) ?_
  rintro r h1 ⟨x, f1, sw1, I1, rfl, rfl, hx1, hM⟩
  show wp G 999 (mt 214) 0 (en (mt 214) [.ref 93]) [] (147, f1, I1, RP f1 sw1) _
  refine wp.mono hM ?_
  rintro r h2 ⟨I2, rfl, rfl, hR2⟩
  show if x = x then wp G 1000 (mt 264) 10 (LV (i + Int32.ofInt 9)) [] (147, f1, I2, RP f1 sw1) Q else _
  rw [if_pos rfl]
  exact K f1 sw1 I2 hR2

-- WreckCourt.other
set_option maxRecDepth 100000 in
set_option maxHeartbeats 4000000 in
theorem law_15 {G : GX} {f : Nat} {sw : Bool} {I : Nat → Nat → Int32} {i : Int32} {Q : Option Value → Hp → Prop} {Rl : Nat → Bool → (Nat → Nat → Int32) → Prop} (hC : CO Rl G 77 216 [.int (G.2.2.2.2.2 (i + 1).toNatClampNeg), .int (G.2.2.2.2.2 (i + 2).toNatClampNeg)]) (hR : Rl f sw I) (hx : RX G I) (hb : ixs G i) (K : ∀ f1 sw1 I2, Rl f1 sw1 I2 → wp G 1000 (mt 264) 10 (LV (i + Int32.ofInt 9)) [] (147, f1, I2, RP f1 sw1) Q) : wp G 1000 (mt 264) 537 (LV i) [] (147, f, I, RP f sw) Q := by
  refine vc_law oks [(264, 10, [0, 1, 2, 3])] [1077, 1216] 120 ?_
  show ck (ixB (i + 1) (I 100301 0).toNatClampNeg) (ck (ixB (i + 2) (I 100301 0).toNatClampNeg) (wp G 999 (mt 77) 0 (en (mt 77) [.ref 0, .int (I 100300 (i + 1).toNatClampNeg), .int (I 100300 (i + 2).toNatClampNeg)]) [] (147, f, I, RP f sw) _))
  simp only [hx.1, hx.2, hb 1 (by decide), hb 2 (by decide), ck]
  refine wp.mono (hC f sw I hR) ?_
  rintro r h1 ⟨x, f1, sw1, I1, rfl, rfl, hx1, hM⟩
  show ck (ixB (i + 1) (I1 100301 0).toNatClampNeg) (ck (ixB (i + 2) (I1 100301 0).toNatClampNeg) (wp G 999 (mt 216) 0 (en (mt 216) [.ref 93, .int (I1 100300 (i + 1).toNatClampNeg), .int (I1 100300 (i + 2).toNatClampNeg)]) [] (147, f1, I1, RP f1 sw1) _))
  simp only [hx1.1, hx1.2, hb 1 (by decide), hb 2 (by decide), ck]
  refine wp.mono hM ?_
  rintro r h2 ⟨I2, rfl, rfl, hR2⟩
  show if x = x then wp G 1000 (mt 264) 10 (LV (i + Int32.ofInt 9)) [] (147, f1, I2, RP f1 sw1) Q else _
  rw [if_pos rfl]
  exact K f1 sw1 I2 hR2

-- WreckCourt.fact
set_option maxRecDepth 100000 in
set_option maxHeartbeats 4000000 in
theorem law_16 {G : GX} {f : Nat} {sw : Bool} {I : Nat → Nat → Int32} {i : Int32} {Q : Option Value → Hp → Prop} {Rl : Nat → Bool → (Nat → Nat → Int32) → Prop} (hC : CO Rl G 79 217 [.int (G.2.2.2.2.2 (i + 1).toNatClampNeg), .int (G.2.2.2.2.2 (i + 2).toNatClampNeg), .int (G.2.2.2.2.2 (i + 3).toNatClampNeg), .int (G.2.2.2.2.2 (i + 4).toNatClampNeg), .int (G.2.2.2.2.2 (i + 5).toNatClampNeg), .int (G.2.2.2.2.2 (i + 6).toNatClampNeg), .int (G.2.2.2.2.2 (i + 7).toNatClampNeg), .int (G.2.2.2.2.2 (i + 8).toNatClampNeg)]) (hR : Rl f sw I) (hx : RX G I) (hb : ixs G i) (K : ∀ f1 sw1 I2, Rl f1 sw1 I2 → wp G 1000 (mt 264) 10 (LV (i + Int32.ofInt 9)) [] (147, f1, I2, RP f1 sw1) Q) : wp G 1000 (mt 264) 564 (LV i) [] (147, f, I, RP f sw) Q := by
  refine vc_law oks [(264, 10, [0, 1, 2, 3])] [1079, 1217] 120 ?_
  show ck (ixB (i + 1) (I 100301 0).toNatClampNeg) (ck (ixB (i + 2) (I 100301 0).toNatClampNeg) (ck (ixB (i + 3) (I 100301 0).toNatClampNeg) (ck (ixB (i + 4) (I 100301 0).toNatClampNeg) (ck (ixB (i + 5) (I 100301 0).toNatClampNeg) (ck (ixB (i + 6) (I 100301 0).toNatClampNeg) (ck (ixB (i + 7) (I 100301 0).toNatClampNeg) (ck (ixB (i + 8) (I 100301 0).toNatClampNeg) (wp G 999 (mt 79) 0 (en (mt 79) [.ref 0, .int (I 100300 (i + 1).toNatClampNeg), .int (I 100300 (i + 2).toNatClampNeg), .int (I 100300 (i + 3).toNatClampNeg), .int (I 100300 (i + 4).toNatClampNeg), .int (I 100300 (i + 5).toNatClampNeg), .int (I 100300 (i + 6).toNatClampNeg), .int (I 100300 (i + 7).toNatClampNeg), .int (I 100300 (i + 8).toNatClampNeg)]) [] (147, f, I, RP f sw) _))))))))
  simp only [hx.1, hx.2, hb 1 (by decide), hb 2 (by decide), hb 3 (by decide), hb 4 (by decide), hb 5 (by decide), hb 6 (by decide), hb 7 (by decide), hb 8 (by decide), ck]
  refine wp.mono (hC f sw I hR) ?_
  rintro r h1 ⟨x, f1, sw1, I1, rfl, rfl, hx1, hM⟩
  show ck (ixB (i + 1) (I1 100301 0).toNatClampNeg) (ck (ixB (i + 2) (I1 100301 0).toNatClampNeg) (ck (ixB (i + 3) (I1 100301 0).toNatClampNeg) (ck (ixB (i + 4) (I1 100301 0).toNatClampNeg) (ck (ixB (i + 5) (I1 100301 0).toNatClampNeg) (ck (ixB (i + 6) (I1 100301 0).toNatClampNeg) (ck (ixB (i + 7) (I1 100301 0).toNatClampNeg) (ck (ixB (i + 8) (I1 100301 0).toNatClampNeg) (wp G 999 (mt 217) 0 (en (mt 217) [.ref 93, .int (I1 100300 (i + 1).toNatClampNeg), .int (I1 100300 (i + 2).toNatClampNeg), .int (I1 100300 (i + 3).toNatClampNeg), .int (I1 100300 (i + 4).toNatClampNeg), .int (I1 100300 (i + 5).toNatClampNeg), .int (I1 100300 (i + 6).toNatClampNeg), .int (I1 100300 (i + 7).toNatClampNeg), .int (I1 100300 (i + 8).toNatClampNeg)]) [] (147, f1, I1, RP f1 sw1) _))))))))
  simp only [hx1.1, hx1.2, hb 1 (by decide), hb 2 (by decide), hb 3 (by decide), hb 4 (by decide), hb 5 (by decide), hb 6 (by decide), hb 7 (by decide), hb 8 (by decide), ck]
  refine wp.mono hM ?_
  rintro r h2 ⟨I2, rfl, rfl, hR2⟩
  show if x = x then wp G 1000 (mt 264) 10 (LV (i + Int32.ofInt 9)) [] (147, f1, I2, RP f1 sw1) Q else _
  rw [if_pos rfl]
  exact K f1 sw1 I2 hR2

-- WreckCourt.withdraw
set_option maxRecDepth 100000 in
set_option maxHeartbeats 4000000 in
theorem law_17 {G : GX} {f : Nat} {sw : Bool} {I : Nat → Nat → Int32} {i : Int32} {Q : Option Value → Hp → Prop} {Rl : Nat → Bool → (Nat → Nat → Int32) → Prop} (hC : CO Rl G 86 219 [.int (G.2.2.2.2.2 (i + 1).toNatClampNeg), .int (G.2.2.2.2.2 (i + 2).toNatClampNeg)]) (hR : Rl f sw I) (hx : RX G I) (hb : ixs G i) (K : ∀ f1 sw1 I2, Rl f1 sw1 I2 → wp G 1000 (mt 264) 10 (LV (i + Int32.ofInt 9)) [] (147, f1, I2, RP f1 sw1) Q) : wp G 1000 (mt 264) 651 (LV i) [] (147, f, I, RP f sw) Q := by
  refine vc_law oks [(264, 10, [0, 1, 2, 3])] [1086, 1219] 120 ?_
  show ck (ixB (i + 1) (I 100301 0).toNatClampNeg) (ck (ixB (i + 2) (I 100301 0).toNatClampNeg) (wp G 999 (mt 86) 0 (en (mt 86) [.ref 0, .int (I 100300 (i + 1).toNatClampNeg), .int (I 100300 (i + 2).toNatClampNeg)]) [] (147, f, I, RP f sw) _))
  simp only [hx.1, hx.2, hb 1 (by decide), hb 2 (by decide), ck]
  refine wp.mono (hC f sw I hR) ?_
  rintro r h1 ⟨x, f1, sw1, I1, rfl, rfl, hx1, hM⟩
  show ck (ixB (i + 1) (I1 100301 0).toNatClampNeg) (ck (ixB (i + 2) (I1 100301 0).toNatClampNeg) (wp G 999 (mt 219) 0 (en (mt 219) [.ref 93, .int (I1 100300 (i + 1).toNatClampNeg), .int (I1 100300 (i + 2).toNatClampNeg)]) [] (147, f1, I1, RP f1 sw1) _))
  simp only [hx1.1, hx1.2, hb 1 (by decide), hb 2 (by decide), ck]
  refine wp.mono hM ?_
  rintro r h2 ⟨I2, rfl, rfl, hR2⟩
  show if x = x then wp G 1000 (mt 264) 10 (LV (i + Int32.ofInt 9)) [] (147, f1, I2, RP f1 sw1) Q else _
  rw [if_pos rfl]
  exact K f1 sw1 I2 hR2

-- WreckCourt.quarrel
set_option maxRecDepth 100000 in
set_option maxHeartbeats 4000000 in
theorem law_18 {G : GX} {f : Nat} {sw : Bool} {I : Nat → Nat → Int32} {i : Int32} {Q : Option Value → Hp → Prop} {Rl : Nat → Bool → (Nat → Nat → Int32) → Prop} (hC : CO Rl G 90 222 [.int (G.2.2.2.2.2 (i + 1).toNatClampNeg), .int (G.2.2.2.2.2 (i + 2).toNatClampNeg), .int (G.2.2.2.2.2 (i + 3).toNatClampNeg), .int (G.2.2.2.2.2 (i + 4).toNatClampNeg), .int (G.2.2.2.2.2 (i + 5).toNatClampNeg)]) (hR : Rl f sw I) (hx : RX G I) (hb : ixs G i) (K : ∀ f1 sw1 I2, Rl f1 sw1 I2 → wp G 1000 (mt 264) 10 (LV (i + Int32.ofInt 9)) [] (147, f1, I2, RP f1 sw1) Q) : wp G 1000 (mt 264) 678 (LV i) [] (147, f, I, RP f sw) Q := by
  refine vc_law oks [(264, 10, [0, 1, 2, 3])] [1090, 1222] 120 ?_
  show ck (ixB (i + 1) (I 100301 0).toNatClampNeg) (ck (ixB (i + 2) (I 100301 0).toNatClampNeg) (ck (ixB (i + 3) (I 100301 0).toNatClampNeg) (ck (ixB (i + 4) (I 100301 0).toNatClampNeg) (ck (ixB (i + 5) (I 100301 0).toNatClampNeg) (wp G 999 (mt 90) 0 (en (mt 90) [.ref 0, .int (I 100300 (i + 1).toNatClampNeg), .int (I 100300 (i + 2).toNatClampNeg), .int (I 100300 (i + 3).toNatClampNeg), .int (I 100300 (i + 4).toNatClampNeg), .int (I 100300 (i + 5).toNatClampNeg)]) [] (147, f, I, RP f sw) _)))))
  simp only [hx.1, hx.2, hb 1 (by decide), hb 2 (by decide), hb 3 (by decide), hb 4 (by decide), hb 5 (by decide), ck]
  refine wp.mono (hC f sw I hR) ?_
  rintro r h1 ⟨x, f1, sw1, I1, rfl, rfl, hx1, hM⟩
  show ck (ixB (i + 1) (I1 100301 0).toNatClampNeg) (ck (ixB (i + 2) (I1 100301 0).toNatClampNeg) (ck (ixB (i + 3) (I1 100301 0).toNatClampNeg) (ck (ixB (i + 4) (I1 100301 0).toNatClampNeg) (ck (ixB (i + 5) (I1 100301 0).toNatClampNeg) (wp G 999 (mt 222) 0 (en (mt 222) [.ref 93, .int (I1 100300 (i + 1).toNatClampNeg), .int (I1 100300 (i + 2).toNatClampNeg), .int (I1 100300 (i + 3).toNatClampNeg), .int (I1 100300 (i + 4).toNatClampNeg), .int (I1 100300 (i + 5).toNatClampNeg)]) [] (147, f1, I1, RP f1 sw1) _)))))
  simp only [hx1.1, hx1.2, hb 1 (by decide), hb 2 (by decide), hb 3 (by decide), hb 4 (by decide), hb 5 (by decide), ck]
  refine wp.mono hM ?_
  rintro r h2 ⟨I2, rfl, rfl, hR2⟩
  show if x = x then wp G 1000 (mt 264) 10 (LV (i + Int32.ofInt 9)) [] (147, f1, I2, RP f1 sw1) Q else _
  rw [if_pos rfl]
  exact K f1 sw1 I2 hR2

-- WreckCourt.court
set_option maxRecDepth 100000 in
set_option maxHeartbeats 4000000 in
theorem law_19 {G : GX} {f : Nat} {sw : Bool} {I : Nat → Nat → Int32} {i : Int32} {Q : Option Value → Hp → Prop} {Rl : Nat → Bool → (Nat → Nat → Int32) → Prop} (hC : CO Rl G 96 227 [.int (G.2.2.2.2.2 (i + 1).toNatClampNeg), .int (G.2.2.2.2.2 (i + 2).toNatClampNeg)]) (hR : Rl f sw I) (hx : RX G I) (hb : ixs G i) (K : ∀ f1 sw1 I2, Rl f1 sw1 I2 → wp G 1000 (mt 264) 10 (LV (i + Int32.ofInt 9)) [] (147, f1, I2, RP f1 sw1) Q) : wp G 1000 (mt 264) 735 (LV i) [] (147, f, I, RP f sw) Q := by
  refine vc_law oks [(264, 10, [0, 1, 2, 3])] [1096, 1227] 120 ?_
  show ck (ixB (i + 1) (I 100301 0).toNatClampNeg) (ck (ixB (i + 2) (I 100301 0).toNatClampNeg) (wp G 999 (mt 96) 0 (en (mt 96) [.ref 0, .int (I 100300 (i + 1).toNatClampNeg), .int (I 100300 (i + 2).toNatClampNeg)]) [] (147, f, I, RP f sw) _))
  simp only [hx.1, hx.2, hb 1 (by decide), hb 2 (by decide), ck]
  refine wp.mono (hC f sw I hR) ?_
  rintro r h1 ⟨x, f1, sw1, I1, rfl, rfl, hx1, hM⟩
  show ck (ixB (i + 1) (I1 100301 0).toNatClampNeg) (ck (ixB (i + 2) (I1 100301 0).toNatClampNeg) (wp G 999 (mt 227) 0 (en (mt 227) [.ref 93, .int (I1 100300 (i + 1).toNatClampNeg), .int (I1 100300 (i + 2).toNatClampNeg)]) [] (147, f1, I1, RP f1 sw1) _))
  simp only [hx1.1, hx1.2, hb 1 (by decide), hb 2 (by decide), ck]
  refine wp.mono hM ?_
  rintro r h2 ⟨I2, rfl, rfl, hR2⟩
  show if x = x then wp G 1000 (mt 264) 10 (LV (i + Int32.ofInt 9)) [] (147, f1, I2, RP f1 sw1) Q else _
  rw [if_pos rfl]
  exact K f1 sw1 I2 hR2

-- WreckCourt.sure
set_option maxRecDepth 100000 in
set_option maxHeartbeats 4000000 in
theorem law_20 {G : GX} {f : Nat} {sw : Bool} {I : Nat → Nat → Int32} {i : Int32} {Q : Option Value → Hp → Prop} {Rl : Nat → Bool → (Nat → Nat → Int32) → Prop} (hC : CO Rl G 113 232 [.int (G.2.2.2.2.2 (i + 1).toNatClampNeg), .int (G.2.2.2.2.2 (i + 2).toNatClampNeg)]) (hR : Rl f sw I) (hx : RX G I) (hb : ixs G i) (K : ∀ f1 sw1 I2, Rl f1 sw1 I2 → wp G 1000 (mt 264) 10 (LV (i + Int32.ofInt 9)) [] (147, f1, I2, RP f1 sw1) Q) : wp G 1000 (mt 264) 762 (LV i) [] (147, f, I, RP f sw) Q := by
  refine vc_law oks [(264, 10, [0, 1, 2, 3])] [1113, 1232] 120 ?_
  show ck (ixB (i + 1) (I 100301 0).toNatClampNeg) (ck (ixB (i + 2) (I 100301 0).toNatClampNeg) (wp G 999 (mt 113) 0 (en (mt 113) [.ref 0, .int (I 100300 (i + 1).toNatClampNeg), .int (I 100300 (i + 2).toNatClampNeg)]) [] (147, f, I, RP f sw) _))
  simp only [hx.1, hx.2, hb 1 (by decide), hb 2 (by decide), ck]
  refine wp.mono (hC f sw I hR) ?_
  rintro r h1 ⟨x, f1, sw1, I1, rfl, rfl, hx1, hM⟩
  show ck (ixB (i + 1) (I1 100301 0).toNatClampNeg) (ck (ixB (i + 2) (I1 100301 0).toNatClampNeg) (wp G 999 (mt 232) 0 (en (mt 232) [.ref 93, .int (I1 100300 (i + 1).toNatClampNeg), .int (I1 100300 (i + 2).toNatClampNeg)]) [] (147, f1, I1, RP f1 sw1) _))
  simp only [hx1.1, hx1.2, hb 1 (by decide), hb 2 (by decide), ck]
  refine wp.mono hM ?_
  rintro r h2 ⟨I2, rfl, rfl, hR2⟩
  show if x = x then wp G 1000 (mt 264) 10 (LV (i + Int32.ofInt 9)) [] (147, f1, I2, RP f1 sw1) Q else _
  rw [if_pos rfl]
  exact K f1 sw1 I2 hR2

-- WreckCourt.feed
set_option maxRecDepth 100000 in
set_option maxHeartbeats 4000000 in
theorem law_21 {G : GX} {f : Nat} {sw : Bool} {I : Nat → Nat → Int32} {i : Int32} {Q : Option Value → Hp → Prop} {Rl : Nat → Bool → (Nat → Nat → Int32) → Prop} (hC : CO Rl G 114 233 [.long (((G.2.2.2.2.2 (i + 1).toNatClampNeg).toInt64 <<< ((32 : Int32).toInt64 &&& 63)) ||| ((G.2.2.2.2.2 (i + 2).toNatClampNeg).toInt64 &&& 4294967295)), .int (G.2.2.2.2.2 (i + 3).toNatClampNeg)]) (hR : Rl f sw I) (hx : RX G I) (hb : ixs G i) (K : ∀ f1 sw1 I2, Rl f1 sw1 I2 → wp G 1000 (mt 264) 10 (LV (i + Int32.ofInt 9)) [] (147, f1, I2, RP f1 sw1) Q) : wp G 1000 (mt 264) 789 (LV i) [] (147, f, I, RP f sw) Q := by
  refine vc_law oks [(264, 10, [0, 1, 2, 3])] [1114, 1233] 120 ?_
  show ck (ixB (i + 1) (I 100301 0).toNatClampNeg) (ck (ixB (i + 2) (I 100301 0).toNatClampNeg) (ck (ixB (i + 3) (I 100301 0).toNatClampNeg) (wp G 999 (mt 114) 0 (en (mt 114) [.ref 0, .long (((I 100300 (i + 1).toNatClampNeg).toInt64 <<< ((32 : Int32).toInt64 &&& 63)) ||| ((I 100300 (i + 2).toNatClampNeg).toInt64 &&& 4294967295)), .int (I 100300 (i + 3).toNatClampNeg)]) [] (147, f, I, RP f sw) _)))
  simp only [hx.1, hx.2, hb 1 (by decide), hb 2 (by decide), hb 3 (by decide), ck]
  refine wp.mono (hC f sw I hR) ?_
  rintro r h1 ⟨x, f1, sw1, I1, rfl, rfl, hx1, hM⟩
  show ck (ixB (i + 1) (I1 100301 0).toNatClampNeg) (ck (ixB (i + 2) (I1 100301 0).toNatClampNeg) (ck (ixB (i + 3) (I1 100301 0).toNatClampNeg) (wp G 999 (mt 233) 0 (en (mt 233) [.ref 93, .long (((I1 100300 (i + 1).toNatClampNeg).toInt64 <<< ((32 : Int32).toInt64 &&& 63)) ||| ((I1 100300 (i + 2).toNatClampNeg).toInt64 &&& 4294967295)), .int (I1 100300 (i + 3).toNatClampNeg)]) [] (147, f1, I1, RP f1 sw1) _)))
  simp only [hx1.1, hx1.2, hb 1 (by decide), hb 2 (by decide), hb 3 (by decide), ck]
  refine wp.mono hM ?_
  rintro r h2 ⟨I2, rfl, rfl, hR2⟩
  show if x = x then wp G 1000 (mt 264) 10 (LV (i + Int32.ofInt 9)) [] (147, f1, I2, RP f1 sw1) Q else _
  rw [if_pos rfl]
  exact K f1 sw1 I2 hR2

-- WreckCourt.rules
set_option maxRecDepth 100000 in
set_option maxHeartbeats 4000000 in
theorem law_22 {G : GX} {f : Nat} {sw : Bool} {I : Nat → Nat → Int32} {i : Int32} {Q : Option Value → Hp → Prop} {Rl : Nat → Bool → (Nat → Nat → Int32) → Prop} (hC : CO Rl G 116 234 []) (hR : Rl f sw I) (hx : RX G I) (K : ∀ f1 sw1 I2, Rl f1 sw1 I2 → wp G 1000 (mt 264) 10 (LV (i + Int32.ofInt 9)) [] (147, f1, I2, RP f1 sw1) Q) : wp G 1000 (mt 264) 840 (LV i) [] (147, f, I, RP f sw) Q := by
  refine vc_law oks [(264, 10, [0, 1, 2, 3])] [1116, 1234] 120 ?_
  show wp G 999 (mt 116) 0 (en (mt 116) [.ref 0]) [] (147, f, I, RP f sw) _
  refine wp.mono (hC f sw I hR) ?_
  rintro r h1 ⟨x, f1, sw1, I1, rfl, rfl, hx1, hM⟩
  show wp G 999 (mt 234) 0 (en (mt 234) [.ref 93]) [] (147, f1, I1, RP f1 sw1) _
  refine wp.mono hM ?_
  rintro r h2 ⟨I2, rfl, rfl, hR2⟩
  show if x = x then wp G 1000 (mt 264) 10 (LV (i + Int32.ofInt 9)) [] (147, f1, I2, RP f1 sw1) Q else _
  rw [if_pos rfl]
  exact K f1 sw1 I2 hR2

-- WreckCourt.fault
set_option maxRecDepth 100000 in
set_option maxHeartbeats 4000000 in
theorem law_23 {G : GX} {f : Nat} {sw : Bool} {I : Nat → Nat → Int32} {i : Int32} {Q : Option Value → Hp → Prop} {Rl : Nat → Bool → (Nat → Nat → Int32) → Prop} (hC : CO Rl G 147 245 []) (hR : Rl f sw I) (hx : RX G I) (K : ∀ f1 sw1 I2, Rl f1 sw1 I2 → wp G 1000 (mt 264) 10 (LV (i + Int32.ofInt 9)) [] (147, f1, I2, RP f1 sw1) Q) : wp G 1000 (mt 264) 847 (LV i) [] (147, f, I, RP f sw) Q := by
  refine vc_law oks [(264, 10, [0, 1, 2, 3])] [1147, 1245] 120 ?_
  show wp G 999 (mt 147) 0 (en (mt 147) [.ref 0]) [] (147, f, I, RP f sw) _
  refine wp.mono (hC f sw I hR) ?_
  rintro r h1 ⟨x, f1, sw1, I1, rfl, rfl, hx1, hM⟩
  show wp G 999 (mt 245) 0 (en (mt 245) [.ref 93]) [] (147, f1, I1, RP f1 sw1) _
  refine wp.mono hM ?_
  rintro r h2 ⟨I2, rfl, rfl, hR2⟩
  show if x = x then wp G 1000 (mt 264) 10 (LV (i + Int32.ofInt 9)) [] (147, f1, I2, RP f1 sw1) Q else _
  rw [if_pos rfl]
  exact K f1 sw1 I2 hR2

-- WreckCourt.done
set_option maxRecDepth 100000 in
set_option maxHeartbeats 4000000 in
theorem law_24 {G : GX} {f : Nat} {sw : Bool} {I : Nat → Nat → Int32} {i : Int32} {Q : Option Value → Hp → Prop} {Rl : Nat → Bool → (Nat → Nat → Int32) → Prop} (hC : CO Rl G 148 246 [.int (G.2.2.2.2.2 (i + 1).toNatClampNeg), .int (G.2.2.2.2.2 (i + 2).toNatClampNeg), .int (G.2.2.2.2.2 (i + 3).toNatClampNeg), .int (G.2.2.2.2.2 (i + 4).toNatClampNeg)]) (hR : Rl f sw I) (hx : RX G I) (hb : ixs G i) (K : ∀ f1 sw1 I2, Rl f1 sw1 I2 → wp G 1000 (mt 264) 10 (LV (i + Int32.ofInt 9)) [] (147, f1, I2, RP f1 sw1) Q) : wp G 1000 (mt 264) 854 (LV i) [] (147, f, I, RP f sw) Q := by
  refine vc_law oks [(264, 10, [0, 1, 2, 3])] [1148, 1246] 120 ?_
  show ck (ixB (i + 1) (I 100301 0).toNatClampNeg) (ck (ixB (i + 2) (I 100301 0).toNatClampNeg) (ck (ixB (i + 3) (I 100301 0).toNatClampNeg) (ck (ixB (i + 4) (I 100301 0).toNatClampNeg) (wp G 999 (mt 148) 0 (en (mt 148) [.ref 0, .int (I 100300 (i + 1).toNatClampNeg), .int (I 100300 (i + 2).toNatClampNeg), .int (I 100300 (i + 3).toNatClampNeg), .int (I 100300 (i + 4).toNatClampNeg)]) [] (147, f, I, RP f sw) _))))
  simp only [hx.1, hx.2, hb 1 (by decide), hb 2 (by decide), hb 3 (by decide), hb 4 (by decide), ck]
  refine wp.mono (hC f sw I hR) ?_
  rintro r h1 ⟨x, f1, sw1, I1, rfl, rfl, hx1, hM⟩
  show ck (ixB (i + 1) (I1 100301 0).toNatClampNeg) (ck (ixB (i + 2) (I1 100301 0).toNatClampNeg) (ck (ixB (i + 3) (I1 100301 0).toNatClampNeg) (ck (ixB (i + 4) (I1 100301 0).toNatClampNeg) (wp G 999 (mt 246) 0 (en (mt 246) [.ref 93, .int (I1 100300 (i + 1).toNatClampNeg), .int (I1 100300 (i + 2).toNatClampNeg), .int (I1 100300 (i + 3).toNatClampNeg), .int (I1 100300 (i + 4).toNatClampNeg)]) [] (147, f1, I1, RP f1 sw1) _))))
  simp only [hx1.1, hx1.2, hb 1 (by decide), hb 2 (by decide), hb 3 (by decide), hb 4 (by decide), ck]
  refine wp.mono hM ?_
  rintro r h2 ⟨I2, rfl, rfl, hR2⟩
  show if x = x then wp G 1000 (mt 264) 10 (LV (i + Int32.ofInt 9)) [] (147, f1, I2, RP f1 sw1) Q else _
  rw [if_pos rfl]
  exact K f1 sw1 I2 hR2

-- WreckCourt.owes
set_option maxRecDepth 100000 in
set_option maxHeartbeats 4000000 in
theorem law_25 {G : GX} {f : Nat} {sw : Bool} {I : Nat → Nat → Int32} {i : Int32} {Q : Option Value → Hp → Prop} {Rl : Nat → Bool → (Nat → Nat → Int32) → Prop} (hC : CO Rl G 151 247 [.int (G.2.2.2.2.2 (i + 1).toNatClampNeg), .int (G.2.2.2.2.2 (i + 2).toNatClampNeg), .int (G.2.2.2.2.2 (i + 3).toNatClampNeg)]) (hR : Rl f sw I) (hx : RX G I) (hb : ixs G i) (K : ∀ f1 sw1 I2, Rl f1 sw1 I2 → wp G 1000 (mt 264) 10 (LV (i + Int32.ofInt 9)) [] (147, f1, I2, RP f1 sw1) Q) : wp G 1000 (mt 264) 901 (LV i) [] (147, f, I, RP f sw) Q := by
  refine vc_law oks [(264, 10, [0, 1, 2, 3])] [1151, 1247] 120 ?_
  show ck (ixB (i + 1) (I 100301 0).toNatClampNeg) (ck (ixB (i + 2) (I 100301 0).toNatClampNeg) (ck (ixB (i + 3) (I 100301 0).toNatClampNeg) (wp G 999 (mt 151) 0 (en (mt 151) [.ref 0, .int (I 100300 (i + 1).toNatClampNeg), .int (I 100300 (i + 2).toNatClampNeg), .int (I 100300 (i + 3).toNatClampNeg)]) [] (147, f, I, RP f sw) _)))
  simp only [hx.1, hx.2, hb 1 (by decide), hb 2 (by decide), hb 3 (by decide), ck]
  refine wp.mono (hC f sw I hR) ?_
  rintro r h1 ⟨x, f1, sw1, I1, rfl, rfl, hx1, hM⟩
  show ck (ixB (i + 1) (I1 100301 0).toNatClampNeg) (ck (ixB (i + 2) (I1 100301 0).toNatClampNeg) (ck (ixB (i + 3) (I1 100301 0).toNatClampNeg) (wp G 999 (mt 247) 0 (en (mt 247) [.ref 93, .int (I1 100300 (i + 1).toNatClampNeg), .int (I1 100300 (i + 2).toNatClampNeg), .int (I1 100300 (i + 3).toNatClampNeg)]) [] (147, f1, I1, RP f1 sw1) _)))
  simp only [hx1.1, hx1.2, hb 1 (by decide), hb 2 (by decide), hb 3 (by decide), ck]
  refine wp.mono hM ?_
  rintro r h2 ⟨I2, rfl, rfl, hR2⟩
  show if x = x then wp G 1000 (mt 264) 10 (LV (i + Int32.ofInt 9)) [] (147, f1, I2, RP f1 sw1) Q else _
  rw [if_pos rfl]
  exact K f1 sw1 I2 hR2

-- WreckCourt.blame
set_option maxRecDepth 100000 in
set_option maxHeartbeats 4000000 in
theorem law_26 {G : GX} {f : Nat} {sw : Bool} {I : Nat → Nat → Int32} {i : Int32} {Q : Option Value → Hp → Prop} {Rl : Nat → Bool → (Nat → Nat → Int32) → Prop} (hC : CO Rl G 156 250 [.int (G.2.2.2.2.2 (i + 1).toNatClampNeg), .int (G.2.2.2.2.2 (i + 2).toNatClampNeg)]) (hR : Rl f sw I) (hx : RX G I) (hb : ixs G i) (K : ∀ f1 sw1 I2, Rl f1 sw1 I2 → wp G 1000 (mt 264) 10 (LV (i + Int32.ofInt 9)) [] (147, f1, I2, RP f1 sw1) Q) : wp G 1000 (mt 264) 938 (LV i) [] (147, f, I, RP f sw) Q := by
  refine vc_law oks [(264, 10, [0, 1, 2, 3])] [1156, 1250] 120 ?_
  show ck (ixB (i + 1) (I 100301 0).toNatClampNeg) (ck (ixB (i + 2) (I 100301 0).toNatClampNeg) (wp G 999 (mt 156) 0 (en (mt 156) [.ref 0, .int (I 100300 (i + 1).toNatClampNeg), .int (I 100300 (i + 2).toNatClampNeg)]) [] (147, f, I, RP f sw) _))
  simp only [hx.1, hx.2, hb 1 (by decide), hb 2 (by decide), ck]
  refine wp.mono (hC f sw I hR) ?_
  rintro r h1 ⟨x, f1, sw1, I1, rfl, rfl, hx1, hM⟩
  show ck (ixB (i + 1) (I1 100301 0).toNatClampNeg) (ck (ixB (i + 2) (I1 100301 0).toNatClampNeg) (wp G 999 (mt 250) 0 (en (mt 250) [.ref 93, .int (I1 100300 (i + 1).toNatClampNeg), .int (I1 100300 (i + 2).toNatClampNeg)]) [] (147, f1, I1, RP f1 sw1) _))
  simp only [hx1.1, hx1.2, hb 1 (by decide), hb 2 (by decide), ck]
  refine wp.mono hM ?_
  rintro r h2 ⟨I2, rfl, rfl, hR2⟩
  show if x = x then wp G 1000 (mt 264) 10 (LV (i + Int32.ofInt 9)) [] (147, f1, I2, RP f1 sw1) Q else _
  rw [if_pos rfl]
  exact K f1 sw1 I2 hR2

-- WreckCourt.kind
set_option maxRecDepth 100000 in
set_option maxHeartbeats 4000000 in
theorem law_27 {G : GX} {f : Nat} {sw : Bool} {I : Nat → Nat → Int32} {i : Int32} {Q : Option Value → Hp → Prop} {Rl : Nat → Bool → (Nat → Nat → Int32) → Prop} (hC : CO Rl G 159 252 [.int (G.2.2.2.2.2 (i + 1).toNatClampNeg)]) (hR : Rl f sw I) (hx : RX G I) (hb : ixs G i) (K : ∀ f1 sw1 I2, Rl f1 sw1 I2 → wp G 1000 (mt 264) 10 (LV (i + Int32.ofInt 9)) [] (147, f1, I2, RP f1 sw1) Q) : wp G 1000 (mt 264) 965 (LV i) [] (147, f, I, RP f sw) Q := by
  refine vc_law oks [(264, 10, [0, 1, 2, 3])] [1159, 1252] 120 ?_
  show ck (ixB (i + 1) (I 100301 0).toNatClampNeg) (wp G 999 (mt 159) 0 (en (mt 159) [.ref 0, .int (I 100300 (i + 1).toNatClampNeg)]) [] (147, f, I, RP f sw) _)
  simp only [hx.1, hx.2, hb 1 (by decide), ck]
  refine wp.mono (hC f sw I hR) ?_
  rintro r h1 ⟨x, f1, sw1, I1, rfl, rfl, hx1, hM⟩
  show ck (ixB (i + 1) (I1 100301 0).toNatClampNeg) (wp G 999 (mt 252) 0 (en (mt 252) [.ref 93, .int (I1 100300 (i + 1).toNatClampNeg)]) [] (147, f1, I1, RP f1 sw1) _)
  simp only [hx1.1, hx1.2, hb 1 (by decide), ck]
  refine wp.mono hM ?_
  rintro r h2 ⟨I2, rfl, rfl, hR2⟩
  show if x = x then wp G 1000 (mt 264) 10 (LV (i + Int32.ofInt 9)) [] (147, f1, I2, RP f1 sw1) Q else _
  rw [if_pos rfl]
  exact K f1 sw1 I2 hR2

-- WreckCourt.as
set_option maxRecDepth 100000 in
set_option maxHeartbeats 4000000 in
theorem law_28 {G : GX} {f : Nat} {sw : Bool} {I : Nat → Nat → Int32} {i : Int32} {Q : Option Value → Hp → Prop} {Rl : Nat → Bool → (Nat → Nat → Int32) → Prop} (hC : CO Rl G 161 254 [.int (G.2.2.2.2.2 (i + 1).toNatClampNeg), .int (G.2.2.2.2.2 (i + 2).toNatClampNeg)]) (hR : Rl f sw I) (hx : RX G I) (hb : ixs G i) (K : ∀ f1 sw1 I2, Rl f1 sw1 I2 → wp G 1000 (mt 264) 10 (LV (i + Int32.ofInt 9)) [] (147, f1, I2, RP f1 sw1) Q) : wp G 1000 (mt 264) 982 (LV i) [] (147, f, I, RP f sw) Q := by
  refine vc_law oks [(264, 10, [0, 1, 2, 3])] [1161, 1254] 120 ?_
  show ck (ixB (i + 1) (I 100301 0).toNatClampNeg) (ck (ixB (i + 2) (I 100301 0).toNatClampNeg) (wp G 999 (mt 161) 0 (en (mt 161) [.ref 0, .int (I 100300 (i + 1).toNatClampNeg), .int (I 100300 (i + 2).toNatClampNeg)]) [] (147, f, I, RP f sw) _))
  simp only [hx.1, hx.2, hb 1 (by decide), hb 2 (by decide), ck]
  refine wp.mono (hC f sw I hR) ?_
  rintro r h1 ⟨x, f1, sw1, I1, rfl, rfl, hx1, hM⟩
  show ck (ixB (i + 1) (I1 100301 0).toNatClampNeg) (ck (ixB (i + 2) (I1 100301 0).toNatClampNeg) (wp G 999 (mt 254) 0 (en (mt 254) [.ref 93, .int (I1 100300 (i + 1).toNatClampNeg), .int (I1 100300 (i + 2).toNatClampNeg)]) [] (147, f1, I1, RP f1 sw1) _))
  simp only [hx1.1, hx1.2, hb 1 (by decide), hb 2 (by decide), ck]
  refine wp.mono hM ?_
  rintro r h2 ⟨I2, rfl, rfl, hR2⟩
  show if x = x then wp G 1000 (mt 264) 10 (LV (i + Int32.ofInt 9)) [] (147, f1, I2, RP f1 sw1) Q else _
  rw [if_pos rfl]
  exact K f1 sw1 I2 hR2

-- WreckCourt.ask
set_option maxRecDepth 100000 in
set_option maxHeartbeats 4000000 in
theorem law_29 {G : GX} {f : Nat} {sw : Bool} {I : Nat → Nat → Int32} {i : Int32} {Q : Option Value → Hp → Prop} {Rl : Nat → Bool → (Nat → Nat → Int32) → Prop} (hC : CO Rl G 163 256 [.int (G.2.2.2.2.2 (i + 1).toNatClampNeg), .int (G.2.2.2.2.2 (i + 2).toNatClampNeg)]) (hR : Rl f sw I) (hx : RX G I) (hb : ixs G i) (K : ∀ f1 sw1 I2, Rl f1 sw1 I2 → wp G 1000 (mt 264) 10 (LV (i + Int32.ofInt 9)) [] (147, f1, I2, RP f1 sw1) Q) : wp G 1000 (mt 264) 1009 (LV i) [] (147, f, I, RP f sw) Q := by
  refine vc_law oks [(264, 10, [0, 1, 2, 3])] [1163, 1256] 120 ?_
  show ck (ixB (i + 1) (I 100301 0).toNatClampNeg) (ck (ixB (i + 2) (I 100301 0).toNatClampNeg) (wp G 999 (mt 163) 0 (en (mt 163) [.ref 0, .int (I 100300 (i + 1).toNatClampNeg), .int (I 100300 (i + 2).toNatClampNeg)]) [] (147, f, I, RP f sw) _))
  simp only [hx.1, hx.2, hb 1 (by decide), hb 2 (by decide), ck]
  refine wp.mono (hC f sw I hR) ?_
  rintro r h1 ⟨x, f1, sw1, I1, rfl, rfl, hx1, hM⟩
  show ck (ixB (i + 1) (I1 100301 0).toNatClampNeg) (ck (ixB (i + 2) (I1 100301 0).toNatClampNeg) (wp G 999 (mt 256) 0 (en (mt 256) [.ref 93, .int (I1 100300 (i + 1).toNatClampNeg), .int (I1 100300 (i + 2).toNatClampNeg)]) [] (147, f1, I1, RP f1 sw1) _))
  simp only [hx1.1, hx1.2, hb 1 (by decide), hb 2 (by decide), ck]
  refine wp.mono hM ?_
  rintro r h2 ⟨I2, rfl, rfl, hR2⟩
  show if x = x then wp G 1000 (mt 264) 10 (LV (i + Int32.ofInt 9)) [] (147, f1, I2, RP f1 sw1) Q else _
  rw [if_pos rfl]
  exact K f1 sw1 I2 hR2

-- WreckCourt.trace
set_option maxRecDepth 100000 in
set_option maxHeartbeats 4000000 in
theorem law_30 {G : GX} {f : Nat} {sw : Bool} {I : Nat → Nat → Int32} {i : Int32} {Q : Option Value → Hp → Prop} {Rl : Nat → Bool → (Nat → Nat → Int32) → Prop} (hC : CO Rl G 176 261 [.int (G.2.2.2.2.2 (i + 1).toNatClampNeg)]) (hR : Rl f sw I) (hx : RX G I) (hb : ixs G i) (K : ∀ f1 sw1 I2, Rl f1 sw1 I2 → wp G 1000 (mt 264) 10 (LV (i + Int32.ofInt 9)) [] (147, f1, I2, RP f1 sw1) Q) : wp G 1000 (mt 264) 1036 (LV i) [] (147, f, I, RP f sw) Q := by
  refine vc_law oks [(264, 10, [0, 1, 2, 3])] [1176, 1261] 120 ?_
  show ck (ixB (i + 1) (I 100301 0).toNatClampNeg) (wp G 999 (mt 176) 0 (en (mt 176) [.ref 0, .int (I 100300 (i + 1).toNatClampNeg)]) [] (147, f, I, RP f sw) _)
  simp only [hx.1, hx.2, hb 1 (by decide), ck]
  refine wp.mono (hC f sw I hR) ?_
  rintro r h1 ⟨x, f1, sw1, I1, rfl, rfl, hx1, hM⟩
  show ck (ixB (i + 1) (I1 100301 0).toNatClampNeg) (wp G 999 (mt 261) 0 (en (mt 261) [.ref 93, .int (I1 100300 (i + 1).toNatClampNeg)]) [] (147, f1, I1, RP f1 sw1) _)
  simp only [hx1.1, hx1.2, hb 1 (by decide), ck]
  refine wp.mono hM ?_
  rintro r h2 ⟨I2, rfl, rfl, hR2⟩
  show if x = x then wp G 1000 (mt 264) 10 (LV (i + Int32.ofInt 9)) [] (147, f1, I2, RP f1 sw1) Q else _
  rw [if_pos rfl]
  exact K f1 sw1 I2 hR2

-- WreckCourt.count
set_option maxRecDepth 100000 in
set_option maxHeartbeats 4000000 in
theorem law_31 {G : GX} {f : Nat} {sw : Bool} {I : Nat → Nat → Int32} {i : Int32} {Q : Option Value → Hp → Prop} {Rl : Nat → Bool → (Nat → Nat → Int32) → Prop} (hC : CO Rl G 177 262 [.int (G.2.2.2.2.2 (i + 1).toNatClampNeg)]) (hR : Rl f sw I) (hx : RX G I) (hb : ixs G i) (K : ∀ f1 sw1 I2, Rl f1 sw1 I2 → wp G 1000 (mt 264) 10 (LV (i + Int32.ofInt 9)) [] (147, f1, I2, RP f1 sw1) Q) : wp G 1000 (mt 264) 1053 (LV i) [] (147, f, I, RP f sw) Q := by
  refine vc_law oks [(264, 10, [0, 1, 2, 3])] [1177, 1262] 120 ?_
  show ck (ixB (i + 1) (I 100301 0).toNatClampNeg) (wp G 999 (mt 177) 0 (en (mt 177) [.ref 0, .int (I 100300 (i + 1).toNatClampNeg)]) [] (147, f, I, RP f sw) _)
  simp only [hx.1, hx.2, hb 1 (by decide), ck]
  refine wp.mono (hC f sw I hR) ?_
  rintro r h1 ⟨x, f1, sw1, I1, rfl, rfl, hx1, hM⟩
  show ck (ixB (i + 1) (I1 100301 0).toNatClampNeg) (wp G 999 (mt 262) 0 (en (mt 262) [.ref 93, .int (I1 100300 (i + 1).toNatClampNeg)]) [] (147, f1, I1, RP f1 sw1) _)
  simp only [hx1.1, hx1.2, hb 1 (by decide), ck]
  refine wp.mono hM ?_
  rintro r h2 ⟨I2, rfl, rfl, hR2⟩
  show if x = x then wp G 1000 (mt 264) 10 (LV (i + Int32.ofInt 9)) [] (147, f1, I2, RP f1 sw1) Q else _
  rw [if_pos rfl]
  exact K f1 sw1 I2 hR2

-- WreckCourt.status
set_option maxRecDepth 100000 in
set_option maxHeartbeats 4000000 in
theorem law_32 {G : GX} {f : Nat} {sw : Bool} {I : Nat → Nat → Int32} {i : Int32} {Q : Option Value → Hp → Prop} {Rl : Nat → Bool → (Nat → Nat → Int32) → Prop} (hC : CO Rl G 180 263 []) (hR : Rl f sw I) (hx : RX G I) (K : ∀ f1 sw1 I2, Rl f1 sw1 I2 → wp G 1000 (mt 264) 10 (LV (i + Int32.ofInt 9)) [] (147, f1, I2, RP f1 sw1) Q) : wp G 1000 (mt 264) 1070 (LV i) [] (147, f, I, RP f sw) Q := by
  refine vc_law oks [(264, 10, [0, 1, 2, 3])] [1180, 1263] 120 ?_
  show wp G 999 (mt 180) 0 (en (mt 180) [.ref 0]) [] (147, f, I, RP f sw) _
  refine wp.mono (hC f sw I hR) ?_
  rintro r h1 ⟨x, f1, sw1, I1, rfl, rfl, hx1, hM⟩
  show wp G 999 (mt 263) 0 (en (mt 263) [.ref 93]) [] (147, f1, I1, RP f1 sw1) _
  refine wp.mono hM ?_
  rintro r h2 ⟨I2, rfl, rfl, hR2⟩
  show if x = x then wp G 1000 (mt 264) 10 (LV (i + Int32.ofInt 9)) [] (147, f1, I2, RP f1 sw1) Q else _
  rw [if_pos rfl]
  exact K f1 sw1 I2 hR2

/-- all calls owe this -/
def AllCO (Rl : Nat → Bool → (Nat → Nat → Int32) → Prop) (G : GX) : Prop :=
  (∀ (a0 : Int32) (a1 : Int32) (a2 : Int32), CO Rl G 11 182 [.int a0, .int a1, .int a2]) ∧
  (∀ (a0 : Int32) (a1 : Int32) (a2 : Int32), CO Rl G 17 186 [.int a0, .int a1, .int a2]) ∧
  (∀ (a0 : Int32) (a1 : Int32) (a2 : Int32) (a3 : Int32) (a4 : Int32), CO Rl G 20 187 [.int a0, .int a1, .int a2, .int a3, .int a4]) ∧
  (∀ (a0 : Int32), CO Rl G 21 188 [.int a0]) ∧
  (∀ (a0 : Int32) (a1 : Int32), CO Rl G 22 189 [.int a0, .int a1]) ∧
  (∀ (a0 : Int32) (a1 : Int32) (a2 : Int32) (a3 : Int32), CO Rl G 25 191 [.int a0, .int a1, .int a2, .int a3]) ∧
  (∀ (a0 : Int32) (a1 : Int32) (a2 : Int32) (a3 : Int32), CO Rl G 31 194 [.int a0, .int a1, .int a2, .int a3]) ∧
  (∀ (a0 : Int32) (a1 : Int32) (a2 : Int32), CO Rl G 34 195 [.int a0, .int a1, .int a2]) ∧
  (∀ (a0 : Int32) (a1 : Int32) (a2 : Int32), CO Rl G 38 196 [.int a0, .int a1, .int a2]) ∧
  (∀ (a0 : Int32) (a1 : Int32) (a2 : Int32), CO Rl G 52 205 [.int a0, .int a1, .int a2]) ∧
  (∀ (a0 : Int32) (a1 : Int32), CO Rl G 54 206 [.int a0, .int a1]) ∧
  (∀ (a0 : Int32) (a1 : Int32) (a2 : Int32), CO Rl G 59 207 [.int a0, .int a1, .int a2]) ∧
  (∀ (a0 : Int32) (a1 : Int32) (a2 : Int32), CO Rl G 62 208 [.int a0, .int a1, .int a2]) ∧
  (∀ (a0 : Int32) (a1 : Int32), CO Rl G 64 209 [.int a0, .int a1]) ∧
  CO Rl G 75 214 [] ∧
  (∀ (a0 : Int32) (a1 : Int32), CO Rl G 77 216 [.int a0, .int a1]) ∧
  (∀ (a0 : Int32) (a1 : Int32) (a2 : Int32) (a3 : Int32) (a4 : Int32) (a5 : Int32) (a6 : Int32) (a7 : Int32), CO Rl G 79 217 [.int a0, .int a1, .int a2, .int a3, .int a4, .int a5, .int a6, .int a7]) ∧
  (∀ (a0 : Int32) (a1 : Int32), CO Rl G 86 219 [.int a0, .int a1]) ∧
  (∀ (a0 : Int32) (a1 : Int32) (a2 : Int32) (a3 : Int32) (a4 : Int32), CO Rl G 90 222 [.int a0, .int a1, .int a2, .int a3, .int a4]) ∧
  (∀ (a0 : Int32) (a1 : Int32), CO Rl G 96 227 [.int a0, .int a1]) ∧
  (∀ (a0 : Int32) (a1 : Int32), CO Rl G 113 232 [.int a0, .int a1]) ∧
  (∀ (a0 : Int64) (a1 : Int32), CO Rl G 114 233 [.long a0, .int a1]) ∧
  CO Rl G 116 234 [] ∧
  CO Rl G 147 245 [] ∧
  (∀ (a0 : Int32) (a1 : Int32) (a2 : Int32) (a3 : Int32), CO Rl G 148 246 [.int a0, .int a1, .int a2, .int a3]) ∧
  (∀ (a0 : Int32) (a1 : Int32) (a2 : Int32), CO Rl G 151 247 [.int a0, .int a1, .int a2]) ∧
  (∀ (a0 : Int32) (a1 : Int32), CO Rl G 156 250 [.int a0, .int a1]) ∧
  (∀ (a0 : Int32), CO Rl G 159 252 [.int a0]) ∧
  (∀ (a0 : Int32) (a1 : Int32), CO Rl G 161 254 [.int a0, .int a1]) ∧
  (∀ (a0 : Int32) (a1 : Int32), CO Rl G 163 256 [.int a0, .int a1]) ∧
  (∀ (a0 : Int32), CO Rl G 176 261 [.int a0]) ∧
  (∀ (a0 : Int32), CO Rl G 177 262 [.int a0]) ∧
  CO Rl G 180 263 []

set_option maxRecDepth 100000 in
set_option maxHeartbeats 4000000 in
theorem law_head {G : GX} {f : Nat} {sw : Bool} {I : Nat → Nat → Int32} {i : Int32} {Q : Option Value → Hp → Prop} (hq : if (I 100301 0) - 9 < i then Q (some (.int 1)) (147, f, I, RP f sw) else ck (ixB i (I 100301 0).toNatClampNeg) (if (I 100300 i.toNatClampNeg &&& 63) = 0 then wp G 1000 (mt 264) 22 (LV i) [] (147, f, I, RP f sw) Q else if (I 100300 i.toNatClampNeg &&& 63) = (0 + 1) then wp G 1000 (mt 264) 59 (LV i) [] (147, f, I, RP f sw) Q else if (I 100300 i.toNatClampNeg &&& 63) = (0 + 1 + 1) then wp G 1000 (mt 264) 96 (LV i) [] (147, f, I, RP f sw) Q else if (I 100300 i.toNatClampNeg &&& 63) = (0 + 1 + 1 + 1) then wp G 1000 (mt 264) 153 (LV i) [] (147, f, I, RP f sw) Q else if (I 100300 i.toNatClampNeg &&& 63) = (0 + 1 + 1 + 1 + 1) then wp G 1000 (mt 264) 170 (LV i) [] (147, f, I, RP f sw) Q else if (I 100300 i.toNatClampNeg &&& 63) = (0 + 1 + 1 + 1 + 1 + 1) then wp G 1000 (mt 264) 197 (LV i) [] (147, f, I, RP f sw) Q else if (I 100300 i.toNatClampNeg &&& 63) = (0 + 1 + 1 + 1 + 1 + 1 + 1) then wp G 1000 (mt 264) 244 (LV i) [] (147, f, I, RP f sw) Q else if (I 100300 i.toNatClampNeg &&& 63) = (0 + 1 + 1 + 1 + 1 + 1 + 1 + 1) then wp G 1000 (mt 264) 291 (LV i) [] (147, f, I, RP f sw) Q else if (I 100300 i.toNatClampNeg &&& 63) = (0 + 1 + 1 + 1 + 1 + 1 + 1 + 1 + 1) then wp G 1000 (mt 264) 328 (LV i) [] (147, f, I, RP f sw) Q else if (I 100300 i.toNatClampNeg &&& 63) = (0 + 1 + 1 + 1 + 1 + 1 + 1 + 1 + 1 + 1) then wp G 1000 (mt 264) 365 (LV i) [] (147, f, I, RP f sw) Q else if (I 100300 i.toNatClampNeg &&& 63) = (0 + 1 + 1 + 1 + 1 + 1 + 1 + 1 + 1 + 1 + 1) then wp G 1000 (mt 264) 402 (LV i) [] (147, f, I, RP f sw) Q else if (I 100300 i.toNatClampNeg &&& 63) = (0 + 1 + 1 + 1 + 1 + 1 + 1 + 1 + 1 + 1 + 1 + 1) then wp G 1000 (mt 264) 429 (LV i) [] (147, f, I, RP f sw) Q else if (I 100300 i.toNatClampNeg &&& 63) = (0 + 1 + 1 + 1 + 1 + 1 + 1 + 1 + 1 + 1 + 1 + 1 + 1) then wp G 1000 (mt 264) 466 (LV i) [] (147, f, I, RP f sw) Q else if (I 100300 i.toNatClampNeg &&& 63) = (0 + 1 + 1 + 1 + 1 + 1 + 1 + 1 + 1 + 1 + 1 + 1 + 1 + 1) then wp G 1000 (mt 264) 503 (LV i) [] (147, f, I, RP f sw) Q else if (I 100300 i.toNatClampNeg &&& 63) = (0 + 1 + 1 + 1 + 1 + 1 + 1 + 1 + 1 + 1 + 1 + 1 + 1 + 1 + 1) then wp G 1000 (mt 264) 530 (LV i) [] (147, f, I, RP f sw) Q else if (I 100300 i.toNatClampNeg &&& 63) = (0 + 1 + 1 + 1 + 1 + 1 + 1 + 1 + 1 + 1 + 1 + 1 + 1 + 1 + 1 + 1) then wp G 1000 (mt 264) 537 (LV i) [] (147, f, I, RP f sw) Q else if (I 100300 i.toNatClampNeg &&& 63) = (0 + 1 + 1 + 1 + 1 + 1 + 1 + 1 + 1 + 1 + 1 + 1 + 1 + 1 + 1 + 1 + 1) then wp G 1000 (mt 264) 564 (LV i) [] (147, f, I, RP f sw) Q else if (I 100300 i.toNatClampNeg &&& 63) = (0 + 1 + 1 + 1 + 1 + 1 + 1 + 1 + 1 + 1 + 1 + 1 + 1 + 1 + 1 + 1 + 1 + 1) then wp G 1000 (mt 264) 651 (LV i) [] (147, f, I, RP f sw) Q else if (I 100300 i.toNatClampNeg &&& 63) = (0 + 1 + 1 + 1 + 1 + 1 + 1 + 1 + 1 + 1 + 1 + 1 + 1 + 1 + 1 + 1 + 1 + 1 + 1) then wp G 1000 (mt 264) 678 (LV i) [] (147, f, I, RP f sw) Q else if (I 100300 i.toNatClampNeg &&& 63) = (0 + 1 + 1 + 1 + 1 + 1 + 1 + 1 + 1 + 1 + 1 + 1 + 1 + 1 + 1 + 1 + 1 + 1 + 1 + 1) then wp G 1000 (mt 264) 735 (LV i) [] (147, f, I, RP f sw) Q else if (I 100300 i.toNatClampNeg &&& 63) = (0 + 1 + 1 + 1 + 1 + 1 + 1 + 1 + 1 + 1 + 1 + 1 + 1 + 1 + 1 + 1 + 1 + 1 + 1 + 1 + 1) then wp G 1000 (mt 264) 762 (LV i) [] (147, f, I, RP f sw) Q else if (I 100300 i.toNatClampNeg &&& 63) = (0 + 1 + 1 + 1 + 1 + 1 + 1 + 1 + 1 + 1 + 1 + 1 + 1 + 1 + 1 + 1 + 1 + 1 + 1 + 1 + 1 + 1) then wp G 1000 (mt 264) 789 (LV i) [] (147, f, I, RP f sw) Q else if (I 100300 i.toNatClampNeg &&& 63) = (0 + 1 + 1 + 1 + 1 + 1 + 1 + 1 + 1 + 1 + 1 + 1 + 1 + 1 + 1 + 1 + 1 + 1 + 1 + 1 + 1 + 1 + 1) then wp G 1000 (mt 264) 840 (LV i) [] (147, f, I, RP f sw) Q else if (I 100300 i.toNatClampNeg &&& 63) = (0 + 1 + 1 + 1 + 1 + 1 + 1 + 1 + 1 + 1 + 1 + 1 + 1 + 1 + 1 + 1 + 1 + 1 + 1 + 1 + 1 + 1 + 1 + 1) then wp G 1000 (mt 264) 847 (LV i) [] (147, f, I, RP f sw) Q else if (I 100300 i.toNatClampNeg &&& 63) = (0 + 1 + 1 + 1 + 1 + 1 + 1 + 1 + 1 + 1 + 1 + 1 + 1 + 1 + 1 + 1 + 1 + 1 + 1 + 1 + 1 + 1 + 1 + 1 + 1) then wp G 1000 (mt 264) 854 (LV i) [] (147, f, I, RP f sw) Q else if (I 100300 i.toNatClampNeg &&& 63) = (0 + 1 + 1 + 1 + 1 + 1 + 1 + 1 + 1 + 1 + 1 + 1 + 1 + 1 + 1 + 1 + 1 + 1 + 1 + 1 + 1 + 1 + 1 + 1 + 1 + 1) then wp G 1000 (mt 264) 901 (LV i) [] (147, f, I, RP f sw) Q else if (I 100300 i.toNatClampNeg &&& 63) = (0 + 1 + 1 + 1 + 1 + 1 + 1 + 1 + 1 + 1 + 1 + 1 + 1 + 1 + 1 + 1 + 1 + 1 + 1 + 1 + 1 + 1 + 1 + 1 + 1 + 1 + 1) then wp G 1000 (mt 264) 938 (LV i) [] (147, f, I, RP f sw) Q else if (I 100300 i.toNatClampNeg &&& 63) = (0 + 1 + 1 + 1 + 1 + 1 + 1 + 1 + 1 + 1 + 1 + 1 + 1 + 1 + 1 + 1 + 1 + 1 + 1 + 1 + 1 + 1 + 1 + 1 + 1 + 1 + 1 + 1) then wp G 1000 (mt 264) 965 (LV i) [] (147, f, I, RP f sw) Q else if (I 100300 i.toNatClampNeg &&& 63) = (0 + 1 + 1 + 1 + 1 + 1 + 1 + 1 + 1 + 1 + 1 + 1 + 1 + 1 + 1 + 1 + 1 + 1 + 1 + 1 + 1 + 1 + 1 + 1 + 1 + 1 + 1 + 1 + 1) then wp G 1000 (mt 264) 982 (LV i) [] (147, f, I, RP f sw) Q else if (I 100300 i.toNatClampNeg &&& 63) = (0 + 1 + 1 + 1 + 1 + 1 + 1 + 1 + 1 + 1 + 1 + 1 + 1 + 1 + 1 + 1 + 1 + 1 + 1 + 1 + 1 + 1 + 1 + 1 + 1 + 1 + 1 + 1 + 1 + 1) then wp G 1000 (mt 264) 1009 (LV i) [] (147, f, I, RP f sw) Q else if (I 100300 i.toNatClampNeg &&& 63) = (0 + 1 + 1 + 1 + 1 + 1 + 1 + 1 + 1 + 1 + 1 + 1 + 1 + 1 + 1 + 1 + 1 + 1 + 1 + 1 + 1 + 1 + 1 + 1 + 1 + 1 + 1 + 1 + 1 + 1 + 1) then wp G 1000 (mt 264) 1036 (LV i) [] (147, f, I, RP f sw) Q else if (I 100300 i.toNatClampNeg &&& 63) = (0 + 1 + 1 + 1 + 1 + 1 + 1 + 1 + 1 + 1 + 1 + 1 + 1 + 1 + 1 + 1 + 1 + 1 + 1 + 1 + 1 + 1 + 1 + 1 + 1 + 1 + 1 + 1 + 1 + 1 + 1 + 1) then wp G 1000 (mt 264) 1053 (LV i) [] (147, f, I, RP f sw) Q else if (I 100300 i.toNatClampNeg &&& 63) = (0 + 1 + 1 + 1 + 1 + 1 + 1 + 1 + 1 + 1 + 1 + 1 + 1 + 1 + 1 + 1 + 1 + 1 + 1 + 1 + 1 + 1 + 1 + 1 + 1 + 1 + 1 + 1 + 1 + 1 + 1 + 1 + 1) then wp G 1000 (mt 264) 1070 (LV i) [] (147, f, I, RP f sw) Q else wp G 1000 (mt 264) 1077 (LV i) [] (147, f, I, RP f sw) Q)) : wp G 1000 (mt 264) 10 (LV i) [] (147, f, I, RP f sw) Q := vc_law oks [(264, 10, [0, 1, 2, 3]), (264, 22, [0, 1, 2, 3]), (264, 59, [0, 1, 2, 3]), (264, 96, [0, 1, 2, 3]), (264, 153, [0, 1, 2, 3]), (264, 170, [0, 1, 2, 3]), (264, 197, [0, 1, 2, 3]), (264, 244, [0, 1, 2, 3]), (264, 291, [0, 1, 2, 3]), (264, 328, [0, 1, 2, 3]), (264, 365, [0, 1, 2, 3]), (264, 402, [0, 1, 2, 3]), (264, 429, [0, 1, 2, 3]), (264, 466, [0, 1, 2, 3]), (264, 503, [0, 1, 2, 3]), (264, 530, [0, 1, 2, 3]), (264, 537, [0, 1, 2, 3]), (264, 564, [0, 1, 2, 3]), (264, 651, [0, 1, 2, 3]), (264, 678, [0, 1, 2, 3]), (264, 735, [0, 1, 2, 3]), (264, 762, [0, 1, 2, 3]), (264, 789, [0, 1, 2, 3]), (264, 840, [0, 1, 2, 3]), (264, 847, [0, 1, 2, 3]), (264, 854, [0, 1, 2, 3]), (264, 901, [0, 1, 2, 3]), (264, 938, [0, 1, 2, 3]), (264, 965, [0, 1, 2, 3]), (264, 982, [0, 1, 2, 3]), (264, 1009, [0, 1, 2, 3]), (264, 1036, [0, 1, 2, 3]), (264, 1053, [0, 1, 2, 3]), (264, 1070, [0, 1, 2, 3]), (264, 1077, [0, 1, 2, 3])] [] 60 hq
set_option maxRecDepth 100000 in
set_option maxHeartbeats 4000000 in
theorem law_tail {G : GX} {f : Nat} {sw : Bool} {I : Nat → Nat → Int32} {i : Int32} {Q : Option Value → Hp → Prop} (hq : wp G 1000 (mt 264) 10 (LV (i + Int32.ofInt 9)) [] (147, f, I, RP f sw) Q) : wp G 1000 (mt 264) 1077 (LV i) [] (147, f, I, RP f sw) Q := vc_law oks [(264, 10, [0, 1, 2, 3])] [] 60 hq

theorem ite_i {c : Prop} [Decidable c] {A B : Prop} (h1 : c → A) (h2 : ¬ c → B) : if c then A else B := by
  by_cases h : c
  · rw [if_pos h]; exact h1 h
  · rw [if_neg h]; exact h2 h
theorem law_body {G : GX} {f : Nat} {sw : Bool} {I : Nat → Nat → Int32} {i : Int32} {Q : Option Value → Hp → Prop} {Rl : Nat → Bool → (Nat → Nat → Int32) → Prop} (hA : AllCO Rl G) (hR : Rl f sw I) (hx : RX G I) (hb : ixs G i) (h0 : ixB i (Int32.ofNat G.2.2.2.2.1).toNatClampNeg = true) (hi : ¬ (Int32.ofNat G.2.2.2.2.1) - 9 < i) (K : ∀ f1 sw1 I2, Rl f1 sw1 I2 → wp G 1000 (mt 264) 10 (LV (i + Int32.ofInt 9)) [] (147, f1, I2, RP f1 sw1) Q) : wp G 1000 (mt 264) 10 (LV i) [] (147, f, I, RP f sw) Q := by
  obtain ⟨c0, c1, c2, c3, c4, c5, c6, c7, c8, c9, c10, c11, c12, c13, c14, c15, c16, c17, c18, c19, c20, c21, c22, c23, c24, c25, c26, c27, c28, c29, c30, c31, c32⟩ := hA
  refine law_head ?_
  rw [hx.2, if_neg hi, h0]
  show if (I 100300 i.toNatClampNeg &&& 63) = 0 then wp G 1000 (mt 264) 22 (LV i) [] (147, f, I, RP f sw) Q else if (I 100300 i.toNatClampNeg &&& 63) = (0 + 1) then wp G 1000 (mt 264) 59 (LV i) [] (147, f, I, RP f sw) Q else if (I 100300 i.toNatClampNeg &&& 63) = (0 + 1 + 1) then wp G 1000 (mt 264) 96 (LV i) [] (147, f, I, RP f sw) Q else if (I 100300 i.toNatClampNeg &&& 63) = (0 + 1 + 1 + 1) then wp G 1000 (mt 264) 153 (LV i) [] (147, f, I, RP f sw) Q else if (I 100300 i.toNatClampNeg &&& 63) = (0 + 1 + 1 + 1 + 1) then wp G 1000 (mt 264) 170 (LV i) [] (147, f, I, RP f sw) Q else if (I 100300 i.toNatClampNeg &&& 63) = (0 + 1 + 1 + 1 + 1 + 1) then wp G 1000 (mt 264) 197 (LV i) [] (147, f, I, RP f sw) Q else if (I 100300 i.toNatClampNeg &&& 63) = (0 + 1 + 1 + 1 + 1 + 1 + 1) then wp G 1000 (mt 264) 244 (LV i) [] (147, f, I, RP f sw) Q else if (I 100300 i.toNatClampNeg &&& 63) = (0 + 1 + 1 + 1 + 1 + 1 + 1 + 1) then wp G 1000 (mt 264) 291 (LV i) [] (147, f, I, RP f sw) Q else if (I 100300 i.toNatClampNeg &&& 63) = (0 + 1 + 1 + 1 + 1 + 1 + 1 + 1 + 1) then wp G 1000 (mt 264) 328 (LV i) [] (147, f, I, RP f sw) Q else if (I 100300 i.toNatClampNeg &&& 63) = (0 + 1 + 1 + 1 + 1 + 1 + 1 + 1 + 1 + 1) then wp G 1000 (mt 264) 365 (LV i) [] (147, f, I, RP f sw) Q else if (I 100300 i.toNatClampNeg &&& 63) = (0 + 1 + 1 + 1 + 1 + 1 + 1 + 1 + 1 + 1 + 1) then wp G 1000 (mt 264) 402 (LV i) [] (147, f, I, RP f sw) Q else if (I 100300 i.toNatClampNeg &&& 63) = (0 + 1 + 1 + 1 + 1 + 1 + 1 + 1 + 1 + 1 + 1 + 1) then wp G 1000 (mt 264) 429 (LV i) [] (147, f, I, RP f sw) Q else if (I 100300 i.toNatClampNeg &&& 63) = (0 + 1 + 1 + 1 + 1 + 1 + 1 + 1 + 1 + 1 + 1 + 1 + 1) then wp G 1000 (mt 264) 466 (LV i) [] (147, f, I, RP f sw) Q else if (I 100300 i.toNatClampNeg &&& 63) = (0 + 1 + 1 + 1 + 1 + 1 + 1 + 1 + 1 + 1 + 1 + 1 + 1 + 1) then wp G 1000 (mt 264) 503 (LV i) [] (147, f, I, RP f sw) Q else if (I 100300 i.toNatClampNeg &&& 63) = (0 + 1 + 1 + 1 + 1 + 1 + 1 + 1 + 1 + 1 + 1 + 1 + 1 + 1 + 1) then wp G 1000 (mt 264) 530 (LV i) [] (147, f, I, RP f sw) Q else if (I 100300 i.toNatClampNeg &&& 63) = (0 + 1 + 1 + 1 + 1 + 1 + 1 + 1 + 1 + 1 + 1 + 1 + 1 + 1 + 1 + 1) then wp G 1000 (mt 264) 537 (LV i) [] (147, f, I, RP f sw) Q else if (I 100300 i.toNatClampNeg &&& 63) = (0 + 1 + 1 + 1 + 1 + 1 + 1 + 1 + 1 + 1 + 1 + 1 + 1 + 1 + 1 + 1 + 1) then wp G 1000 (mt 264) 564 (LV i) [] (147, f, I, RP f sw) Q else if (I 100300 i.toNatClampNeg &&& 63) = (0 + 1 + 1 + 1 + 1 + 1 + 1 + 1 + 1 + 1 + 1 + 1 + 1 + 1 + 1 + 1 + 1 + 1) then wp G 1000 (mt 264) 651 (LV i) [] (147, f, I, RP f sw) Q else if (I 100300 i.toNatClampNeg &&& 63) = (0 + 1 + 1 + 1 + 1 + 1 + 1 + 1 + 1 + 1 + 1 + 1 + 1 + 1 + 1 + 1 + 1 + 1 + 1) then wp G 1000 (mt 264) 678 (LV i) [] (147, f, I, RP f sw) Q else if (I 100300 i.toNatClampNeg &&& 63) = (0 + 1 + 1 + 1 + 1 + 1 + 1 + 1 + 1 + 1 + 1 + 1 + 1 + 1 + 1 + 1 + 1 + 1 + 1 + 1) then wp G 1000 (mt 264) 735 (LV i) [] (147, f, I, RP f sw) Q else if (I 100300 i.toNatClampNeg &&& 63) = (0 + 1 + 1 + 1 + 1 + 1 + 1 + 1 + 1 + 1 + 1 + 1 + 1 + 1 + 1 + 1 + 1 + 1 + 1 + 1 + 1) then wp G 1000 (mt 264) 762 (LV i) [] (147, f, I, RP f sw) Q else if (I 100300 i.toNatClampNeg &&& 63) = (0 + 1 + 1 + 1 + 1 + 1 + 1 + 1 + 1 + 1 + 1 + 1 + 1 + 1 + 1 + 1 + 1 + 1 + 1 + 1 + 1 + 1) then wp G 1000 (mt 264) 789 (LV i) [] (147, f, I, RP f sw) Q else if (I 100300 i.toNatClampNeg &&& 63) = (0 + 1 + 1 + 1 + 1 + 1 + 1 + 1 + 1 + 1 + 1 + 1 + 1 + 1 + 1 + 1 + 1 + 1 + 1 + 1 + 1 + 1 + 1) then wp G 1000 (mt 264) 840 (LV i) [] (147, f, I, RP f sw) Q else if (I 100300 i.toNatClampNeg &&& 63) = (0 + 1 + 1 + 1 + 1 + 1 + 1 + 1 + 1 + 1 + 1 + 1 + 1 + 1 + 1 + 1 + 1 + 1 + 1 + 1 + 1 + 1 + 1 + 1) then wp G 1000 (mt 264) 847 (LV i) [] (147, f, I, RP f sw) Q else if (I 100300 i.toNatClampNeg &&& 63) = (0 + 1 + 1 + 1 + 1 + 1 + 1 + 1 + 1 + 1 + 1 + 1 + 1 + 1 + 1 + 1 + 1 + 1 + 1 + 1 + 1 + 1 + 1 + 1 + 1) then wp G 1000 (mt 264) 854 (LV i) [] (147, f, I, RP f sw) Q else if (I 100300 i.toNatClampNeg &&& 63) = (0 + 1 + 1 + 1 + 1 + 1 + 1 + 1 + 1 + 1 + 1 + 1 + 1 + 1 + 1 + 1 + 1 + 1 + 1 + 1 + 1 + 1 + 1 + 1 + 1 + 1) then wp G 1000 (mt 264) 901 (LV i) [] (147, f, I, RP f sw) Q else if (I 100300 i.toNatClampNeg &&& 63) = (0 + 1 + 1 + 1 + 1 + 1 + 1 + 1 + 1 + 1 + 1 + 1 + 1 + 1 + 1 + 1 + 1 + 1 + 1 + 1 + 1 + 1 + 1 + 1 + 1 + 1 + 1) then wp G 1000 (mt 264) 938 (LV i) [] (147, f, I, RP f sw) Q else if (I 100300 i.toNatClampNeg &&& 63) = (0 + 1 + 1 + 1 + 1 + 1 + 1 + 1 + 1 + 1 + 1 + 1 + 1 + 1 + 1 + 1 + 1 + 1 + 1 + 1 + 1 + 1 + 1 + 1 + 1 + 1 + 1 + 1) then wp G 1000 (mt 264) 965 (LV i) [] (147, f, I, RP f sw) Q else if (I 100300 i.toNatClampNeg &&& 63) = (0 + 1 + 1 + 1 + 1 + 1 + 1 + 1 + 1 + 1 + 1 + 1 + 1 + 1 + 1 + 1 + 1 + 1 + 1 + 1 + 1 + 1 + 1 + 1 + 1 + 1 + 1 + 1 + 1) then wp G 1000 (mt 264) 982 (LV i) [] (147, f, I, RP f sw) Q else if (I 100300 i.toNatClampNeg &&& 63) = (0 + 1 + 1 + 1 + 1 + 1 + 1 + 1 + 1 + 1 + 1 + 1 + 1 + 1 + 1 + 1 + 1 + 1 + 1 + 1 + 1 + 1 + 1 + 1 + 1 + 1 + 1 + 1 + 1 + 1) then wp G 1000 (mt 264) 1009 (LV i) [] (147, f, I, RP f sw) Q else if (I 100300 i.toNatClampNeg &&& 63) = (0 + 1 + 1 + 1 + 1 + 1 + 1 + 1 + 1 + 1 + 1 + 1 + 1 + 1 + 1 + 1 + 1 + 1 + 1 + 1 + 1 + 1 + 1 + 1 + 1 + 1 + 1 + 1 + 1 + 1 + 1) then wp G 1000 (mt 264) 1036 (LV i) [] (147, f, I, RP f sw) Q else if (I 100300 i.toNatClampNeg &&& 63) = (0 + 1 + 1 + 1 + 1 + 1 + 1 + 1 + 1 + 1 + 1 + 1 + 1 + 1 + 1 + 1 + 1 + 1 + 1 + 1 + 1 + 1 + 1 + 1 + 1 + 1 + 1 + 1 + 1 + 1 + 1 + 1) then wp G 1000 (mt 264) 1053 (LV i) [] (147, f, I, RP f sw) Q else if (I 100300 i.toNatClampNeg &&& 63) = (0 + 1 + 1 + 1 + 1 + 1 + 1 + 1 + 1 + 1 + 1 + 1 + 1 + 1 + 1 + 1 + 1 + 1 + 1 + 1 + 1 + 1 + 1 + 1 + 1 + 1 + 1 + 1 + 1 + 1 + 1 + 1 + 1) then wp G 1000 (mt 264) 1070 (LV i) [] (147, f, I, RP f sw) Q else wp G 1000 (mt 264) 1077 (LV i) [] (147, f, I, RP f sw) Q
  refine ite_i (fun _ => law_0 (c0 _ _ _) hR hx hb K) (fun _ => ?_)
  refine ite_i (fun _ => law_1 (c1 _ _ _) hR hx hb K) (fun _ => ?_)
  refine ite_i (fun _ => law_2 (c2 _ _ _ _ _) hR hx hb K) (fun _ => ?_)
  refine ite_i (fun _ => law_3 (c3 _) hR hx hb K) (fun _ => ?_)
  refine ite_i (fun _ => law_4 (c4 _ _) hR hx hb K) (fun _ => ?_)
  refine ite_i (fun _ => law_5 (c5 _ _ _ _) hR hx hb K) (fun _ => ?_)
  refine ite_i (fun _ => law_6 (c6 _ _ _ _) hR hx hb K) (fun _ => ?_)
  refine ite_i (fun _ => law_7 (c7 _ _ _) hR hx hb K) (fun _ => ?_)
  refine ite_i (fun _ => law_8 (c8 _ _ _) hR hx hb K) (fun _ => ?_)
  refine ite_i (fun _ => law_9 (c9 _ _ _) hR hx hb K) (fun _ => ?_)
  refine ite_i (fun _ => law_10 (c10 _ _) hR hx hb K) (fun _ => ?_)
  refine ite_i (fun _ => law_11 (c11 _ _ _) hR hx hb K) (fun _ => ?_)
  refine ite_i (fun _ => law_12 (c12 _ _ _) hR hx hb K) (fun _ => ?_)
  refine ite_i (fun _ => law_13 (c13 _ _) hR hx hb K) (fun _ => ?_)
  refine ite_i (fun _ => law_14 (c14) hR hx K) (fun _ => ?_)
  refine ite_i (fun _ => law_15 (c15 _ _) hR hx hb K) (fun _ => ?_)
  refine ite_i (fun _ => law_16 (c16 _ _ _ _ _ _ _ _) hR hx hb K) (fun _ => ?_)
  refine ite_i (fun _ => law_17 (c17 _ _) hR hx hb K) (fun _ => ?_)
  refine ite_i (fun _ => law_18 (c18 _ _ _ _ _) hR hx hb K) (fun _ => ?_)
  refine ite_i (fun _ => law_19 (c19 _ _) hR hx hb K) (fun _ => ?_)
  refine ite_i (fun _ => law_20 (c20 _ _) hR hx hb K) (fun _ => ?_)
  refine ite_i (fun _ => law_21 (c21 _ _) hR hx hb K) (fun _ => ?_)
  refine ite_i (fun _ => law_22 (c22) hR hx K) (fun _ => ?_)
  refine ite_i (fun _ => law_23 (c23) hR hx K) (fun _ => ?_)
  refine ite_i (fun _ => law_24 (c24 _ _ _ _) hR hx hb K) (fun _ => ?_)
  refine ite_i (fun _ => law_25 (c25 _ _ _) hR hx hb K) (fun _ => ?_)
  refine ite_i (fun _ => law_26 (c26 _ _) hR hx hb K) (fun _ => ?_)
  refine ite_i (fun _ => law_27 (c27 _) hR hx hb K) (fun _ => ?_)
  refine ite_i (fun _ => law_28 (c28 _ _) hR hx hb K) (fun _ => ?_)
  refine ite_i (fun _ => law_29 (c29 _ _) hR hx hb K) (fun _ => ?_)
  refine ite_i (fun _ => law_30 (c30 _) hR hx hb K) (fun _ => ?_)
  refine ite_i (fun _ => law_31 (c31 _) hR hx hb K) (fun _ => ?_)
  refine ite_i (fun _ => law_32 (c32) hR hx K) (fun _ => ?_)
  exact law_tail (K f sw I hR)
end
section
/-! THE CONSTRUCTORS: a machine over written-down states, run by the kernel -/
abbrev Hb : Type := Nat × List (Nat × Nat × Int32) × List (Nat × Nat × Nat × Bool)
abbrev Rz : Type := Option Value × Hb
def lkI : List (Nat × Nat × Int32) → (Nat → Nat → Int32) → Nat → Nat → Int32
  | [], b => b
  | q :: t, b => upI (lkI t b) q.1 q.2.1 q.2.2
def lkR : List (Nat × Nat × Nat × Bool) → Nat → Nat → Option Nat
  | [] => fun _ _ => none
  | (p, k, x, false) :: t => upR (lkR t) p k (some x)
  | (p, n, _, true) :: t => fun q i => if q = p then (if i < n then some (p + 1 + i) else none) else lkR t q i
def toH (G : GX) (h : Hb) : Hp := (h.1, 0, lkI h.2.1 (I0 G), lkR h.2.2)
def okH (h : Hb) (p ci : Nat) : Bool := if p < 1000 then (decide (p < h.1) && (SH p).1 == ci) else (ci == 3 && decide (p < 1000 + 0))
def ckb (b : Bool) (A : Option Rz) : Option Rz := match b with
  | true => A
  | false => none
def o1b (st : List Value) (f : Int32 → List Value → Option Rz) : Option Rz := match st with
  | .int x :: r => f x r
  | _ => none
def o2b (st : List Value) (f : Int32 → Int32 → List Value → Option Rz) : Option Rz := match st with
  | .int y :: .int x :: r => f x y r
  | _ => none
def oIb (lv : Lc) (i : Nat) (f : Int32 → Option Rz) : Option Rz := match lv[i]? with
  | some (some (.int x)) => f x
  | _ => none
def oAb (lv : Lc) (i : Nat) (f : Nat → Option Rz) : Option Rz := match lv[i]? with
  | some (some (.ref x)) => f x
  | _ => none
def oRb (st : List Value) (f : Nat → List Value → Option Rz) : Option Rz := match st with
  | .ref p :: r => f p r
  | _ => none
def oVb (o : Option Nat) (f : Nat → Option Rz) : Option Rz := match o with
  | none => none
  | some q => f q
def oSb (st : List Value) (f : Int32 → Int32 → Nat → List Value → Option Rz) : Option Rz := match st with
  | .int x :: .int i :: .ref p :: r => f x i p r
  | _ => none
def oTb (st : List Value) (f : Nat → Int32 → Nat → List Value → Option Rz) : Option Rz := match st with
  | .ref x :: .int i :: .ref p :: r => f x i p r
  | _ => none
def dpb (st : List Value) (f : Value → List Value → Option Rz) : Option Rz := match st with
  | .int x :: r => f (.int x) r
  | .ref x :: r => f (.ref x) r
  | _ => none
def pfb (b : Bool) (st : List Value) (f : Nat → Nat → List Value → Option Rz) (g : Int32 → Nat → List Value → Option Rz) : Option Rz := match b, st with
  | true, .ref x :: .ref p :: r => f x p r
  | false, .int x :: .ref p :: r => g x p r
  | _, _ => none
def tkb (n : Nat) (st : List Value) (f : List Value → List Value → Option Rz) : Option Rz := ckb (decide (n ≤ st.length) && decide (((st.drop n).map Value.category).sum ≤ 8)) (f (st.take n).reverse (st.drop n))
def ifb (b : Bool) (A B : Option Rz) : Option Rz := match b with
  | true => A
  | false => B
def rtb (st : List Value) (A : Option Rz) : Option Rz := match st with
  | [] => A
  | _ => none
def spx (dn : Nat) (e : Ent) (j : Nat) (lv : Lc) (st : List Value) (h : Hb) (nx : Nat → Lc → List Value → Hb → Option Rz) (rt : Option Value → Option Rz) (cl : Nat → List Value → (Option Value → Hb → Option Rz) → Option Rz) : Option Rz :=
  match e with
  | (.iload_n i, _, _, _) => oIb lv i.val fun x => nx (j + 1) lv (.int x :: st) h
  | (.aload_n i, _, _, _) => oAb lv i.val fun x => nx (j + 1) lv (.ref x :: st) h
  | (.istore_n i, _, _, _) => o1b st fun x r => nx (j + 1) (st1 lv i.val (.int x)) r h
  | (.iconst _, _, _, v) => nx (j + 1) lv (v :: st) h
  | (.bipush _, _, _, v) => nx (j + 1) lv (v :: st) h
  | (.sipush _, _, _, v) => nx (j + 1) lv (v :: st) h
  | (.ldc _, _, _, v) => nx (j + 1) lv (v :: st) h
  | (.iinc i n, _, _, _) => oIb lv i fun x => nx (j + 1) (st1 lv i (.int (x + Int32.ofInt n))) st h
  | (.dup, _, _, _) => dpb st fun x r => nx (j + 1) lv (x :: x :: r) h
  | (.goto _, _, a, _) => nx (a.getD 0 0) lv st h
  | (.if_icmp .ge _, _, a, _) => o2b st fun x y r => ifb (decide (y ≤ x)) (nx (a.getD 0 0) lv r h) (nx (j + 1) lv r h)
  | (.getfield _, _, a, _) => oRb st fun p r => ckb (okH h p (a.getD 0 0) && kr (a.getD 0 0) (a.getD 1 0)) (oVb (lkR h.2.2 p (a.getD 1 0)) fun q => nx (j + 1) lv (.ref q :: r) h)
  | (.putfield _, _, a, _) => pfb (kr (a.getD 0 0) (a.getD 1 0)) st (fun x p r => ckb (okH h p (a.getD 0 0)) (nx (j + 1) lv r (h.1, h.2.1, (p, a.getD 1 0, x, false) :: h.2.2))) (fun x p r => ckb (okH h p (a.getD 0 0) && kz (a.getD 0 0) (a.getD 1 0) x) (nx (j + 1) lv r (h.1, (p, a.getD 1 0, x) :: h.2.1, h.2.2)))
  | (.iastore, _, _, _) => oSb st fun x i p r => ckb (okH h p 20) (ckb (ixB i (SH p).2) (nx (j + 1) lv r (h.1, (p, i.toNatClampNeg, x) :: h.2.1, h.2.2)))
  | (.aastore, _, _, _) => oTb st fun x i p r => ckb (okH h p 23 && okH h x 6 || okH h p 24 && okH h x 3) (ckb (ixB i (SH p).2) (nx (j + 1) lv r (h.1, h.2.1, (p, i.toNatClampNeg, x, false) :: h.2.2)))
  | (.arraylength, _, _, _) => oRb st fun p r => ckb (decide (p ≠ 100300)) (ckb (okH h p 20) (nx (j + 1) lv (.int (Int32.ofNat (SH p).2) :: r) h))
  | (.new _, _, a, _) => ckb (decide (a.getD 0 0 ≠ 3)) (ckb (decide ((0 : Nat) = 0) && (decide (h.1 < 147) && decide (SH h.1 = (a.getD 0 0, (vwCl.getD (a.getD 0 0) ("", fun _ => ("", "", "", false), 0)).2.2)))) (nx (j + 1) lv (.ref h.1 :: st) (h.1 + 1, h.2.1, h.2.2)))
  | (.newarray _, _, a, _) => o1b st fun x r => ckb (decide (0 ≤ x) && (decide ((0 : Nat) = 0) && (decide (h.1 < 147) && decide (SH h.1 = (a.getD 0 0, x.toNatClampNeg))))) (nx (j + 1) lv (.ref h.1 :: r) (h.1 + 1, h.2.1, h.2.2))
  | (.anewarray _, _, a, _) => o1b st fun x r => ckb (decide (0 ≤ x) && (decide ((0 : Nat) = 0) && (decide (h.1 < 147) && decide (SH h.1 = (a.getD 0 0, x.toNatClampNeg))))) (nx (j + 1) lv (.ref h.1 :: r) (h.1 + 1, h.2.1, h.2.2))
  | (.multianewarray _ _, _, _, _) => o2b st fun n k r => ckb (decide (0 ≤ n) && (decide (0 ≤ k) && (decide ((0 : Nat) = 0) && (decide (h.1 + n.toNatClampNeg < 147) && (decide (SH h.1 = (25, n.toNatClampNeg)) && (List.range n.toNatClampNeg).all (fun i => decide (SH (h.1 + 1 + i) = (20, k.toNatClampNeg)))))))) (nx (j + 1) lv (.ref h.1 :: r) (h.1 + 1 + n.toNatClampNeg, h.2.1, (h.1, n.toNatClampNeg, 0, true) :: h.2.2))
  | (.invokestatic _, _, 0 :: a, _) => tkb (a.getD 1 0) st fun vs r => cl (a.getD 0 0) vs (fun v h1 => nx (j + 1) lv (v.toList ++ r) h1)
  | (.invokespecial _, _, 5 :: _, _) => oRb st fun p r => ckb (decide (1 ≤ dn) && decide ((r.map Value.category).sum ≤ 8)) (nx (j + 1) lv r h)
  | (.invokespecial _, _, 2 :: a, _) => tkb (a.getD 1 0) st fun vs r => ckb (rcI vs) (cl (a.getD 0 0) vs (fun v h1 => nx (j + 1) lv (v.toList ++ r) h1))
  | (.invokespecial _, _, 4 :: a, _) => tkb (a.getD 1 0) st fun vs r => ckb (rcI vs) (cl (a.getD 0 0) vs (fun v h1 => nx (j + 1) lv (v.toList ++ r) h1))
  | (.return_, _, _, _) => rtb st (rt none)
  | _ => none
def exb : Nat → Nat → MR → Nat → Lc → List Value → Hb → Option Rz
  | 0, _, _, _, _, _, _ => none
  | k + 1, d, M, j, lv, st, h => match ft M j with
    | none => none
    | some e => spx d e j lv st h (fun j' lv' st' h' => exb k d M j' lv' st' h') (fun v => ckb (rtB M v) (some (v, h)))
        (fun i vs K => match d with
          | 0 => none
          | d' + 1 => ckb (useB i && decide ((la vs).length ≤ (mt i).2.2.2.2.1)) (match exb k d' (mt i) 0 (en (mt i) vs) [] h with
            | none => none
            | some z => K z.1 z.2))
theorem ckb_d {b : Bool} {A : Option Rz} {z : Rz} (h : ckb b A = some z) : b = true ∧ A = some z := by
  cases b with
  | true => exact ⟨rfl, h⟩
  | false => cases h
theorem o1b_d {st : List Value} {f : Int32 → List Value → Option Rz} {z : Rz} (h : o1b st f = some z) : ∃ x r, st = .int x :: r ∧ f x r = some z := by
  unfold o1b at h
  split at h
  · exact ⟨_, _, rfl, h⟩
  · cases h
theorem o2b_d {st : List Value} {f : Int32 → Int32 → List Value → Option Rz} {z : Rz} (h : o2b st f = some z) : ∃ x y r, st = .int y :: .int x :: r ∧ f x y r = some z := by
  unfold o2b at h
  split at h
  · exact ⟨_, _, _, rfl, h⟩
  · cases h
theorem oIb_d {lv : Lc} {i : Nat} {f : Int32 → Option Rz} {z : Rz} (h : oIb lv i f = some z) : ∃ x, lv[i]? = some (some (.int x)) ∧ f x = some z := by
  unfold oIb at h
  split at h
  · rename_i x hx
    exact ⟨x, hx, h⟩
  · cases h
theorem oAb_d {lv : Lc} {i : Nat} {f : Nat → Option Rz} {z : Rz} (h : oAb lv i f = some z) : ∃ x, lv[i]? = some (some (.ref x)) ∧ f x = some z := by
  unfold oAb at h
  split at h
  · rename_i x hx
    exact ⟨x, hx, h⟩
  · cases h
theorem oRb_d {st : List Value} {f : Nat → List Value → Option Rz} {z : Rz} (h : oRb st f = some z) : ∃ x r, st = .ref x :: r ∧ f x r = some z := by
  unfold oRb at h
  split at h
  · exact ⟨_, _, rfl, h⟩
  · cases h
theorem oVb_d {o : Option Nat} {f : Nat → Option Rz} {z : Rz} (h : oVb o f = some z) : ∃ q, o = some q ∧ f q = some z := by
  cases o with
  | none => cases h
  | some q => exact ⟨q, rfl, h⟩
theorem oSb_d {st : List Value} {f : Int32 → Int32 → Nat → List Value → Option Rz} {z : Rz} (h : oSb st f = some z) : ∃ x i p r, st = .int x :: .int i :: .ref p :: r ∧ f x i p r = some z := by
  unfold oSb at h
  split at h
  · exact ⟨_, _, _, _, rfl, h⟩
  · cases h
theorem oTb_d {st : List Value} {f : Nat → Int32 → Nat → List Value → Option Rz} {z : Rz} (h : oTb st f = some z) : ∃ x i p r, st = .ref x :: .int i :: .ref p :: r ∧ f x i p r = some z := by
  unfold oTb at h
  split at h
  · exact ⟨_, _, _, _, rfl, h⟩
  · cases h
theorem dpb_d {st : List Value} {f : Value → List Value → Option Rz} {z : Rz} (h : dpb st f = some z) : (∃ x r, st = .int x :: r ∧ f (.int x) r = some z) ∨ (∃ x r, st = .ref x :: r ∧ f (.ref x) r = some z) := by
  unfold dpb at h
  split at h
  · exact Or.inl ⟨_, _, rfl, h⟩
  · exact Or.inr ⟨_, _, rfl, h⟩
  · cases h
theorem pfb_d {b : Bool} {st : List Value} {f : Nat → Nat → List Value → Option Rz} {g : Int32 → Nat → List Value → Option Rz} {z : Rz} (h : pfb b st f g = some z) : (∃ x p r, b = true ∧ st = .ref x :: .ref p :: r ∧ f x p r = some z) ∨ (∃ x p r, b = false ∧ st = .int x :: .ref p :: r ∧ g x p r = some z) := by
  unfold pfb at h
  split at h
  · exact Or.inl ⟨_, _, _, rfl, rfl, h⟩
  · exact Or.inr ⟨_, _, _, rfl, rfl, h⟩
  · cases h
theorem rtb_d {st : List Value} {A : Option Rz} {z : Rz} (h : rtb st A = some z) : st = [] ∧ A = some z := by
  unfold rtb at h
  split at h
  · exact ⟨rfl, h⟩
  · cases h
theorem spx_sp {G : GX} {dn : Nat} {e : Ent} {j : Nat} {lv : Lc} {st : List Value} {h : Hb} {nx : Nat → Lc → List Value → Hb → Option Rz} {rt : Option Value → Option Rz} {cl : Nat → List Value → (Option Value → Hb → Option Rz) → Option Rz} {z : Rz}
    {nxP : Nat → Lc → List Value → Hp → Prop} {rtP : Option Value → Prop} {clP : Nat → List Value → (Option Value → Hp → Prop) → Prop}
    (hs : spx dn e j lv st h nx rt cl = some z) (hnx : ∀ j' lv' st' h', nx j' lv' st' h' = some z → nxP j' lv' st' (toH G h')) (hrt : ∀ v, rt v = some z → rtP v)
    (hcl : ∀ i vs K KP, cl i vs K = some z → (∀ v h1, K v h1 = some z → KP v (toH G h1)) → clP i vs KP) : sp dn e j lv st (toH G h) nxP rtP clP := by
  unfold spx at hs
  split at hs
  · obtain ⟨x, e1, e2⟩ := oIb_d hs
    show oI lv _ _
    unfold oI; rw [e1]; exact hnx _ _ _ _ e2
  · obtain ⟨x, e1, e2⟩ := oAb_d hs
    show oA lv _ _
    unfold oA; rw [e1]; exact hnx _ _ _ _ e2
  · obtain ⟨x, r, rfl, e2⟩ := o1b_d hs
    exact hnx _ _ _ _ e2
  · exact hnx _ _ _ _ hs
  · exact hnx _ _ _ _ hs
  · exact hnx _ _ _ _ hs
  · exact hnx _ _ _ _ hs
  · obtain ⟨x, e1, e2⟩ := oIb_d hs
    show oI lv _ _
    unfold oI; rw [e1]; exact hnx _ _ _ _ e2
  · rcases dpb_d hs with ⟨x, r, rfl, e2⟩ | ⟨x, r, rfl, e2⟩
    · exact hnx _ _ _ _ e2
    · exact hnx _ _ _ _ e2
  · exact hnx _ _ _ _ hs
  · obtain ⟨x, y, r, rfl, e2⟩ := o2b_d hs
    show if y ≤ x then _ else _
    by_cases c : y ≤ x
    · rw [if_pos c]
      rw [decide_eq_true c] at e2
      exact hnx _ _ _ _ e2
    · rw [if_neg c]
      rw [decide_eq_false c] at e2
      exact hnx _ _ _ _ e2
  · obtain ⟨p, r, rfl, e2⟩ := oRb_d hs
    obtain ⟨c1, e2⟩ := ckb_d e2
    rw [Bool.and_eq_true] at c1
    obtain ⟨q, e3, e4⟩ := oVb_d e2
    refine ck_i (b := okB (toH G h) p _) c1.1 ?_
    show (match kr _ _ with | true => oV (lkR h.2.2 p _) _ | false => _)
    rw [c1.2]
    show oV (lkR h.2.2 p _) _
    rw [e3]
    exact hnx _ _ _ _ e4
  · rcases pfb_d hs with ⟨x, p, r, hb, rfl, e2⟩ | ⟨x, p, r, hb, rfl, e2⟩
    · obtain ⟨c1, e2⟩ := ckb_d e2
      unfold sp
      simp only [hb]
      exact ck_i (b := okB (toH G h) p _) c1 (hnx _ _ _ _ e2)
    · obtain ⟨c1, e2⟩ := ckb_d e2
      unfold sp
      simp only [hb]
      exact ck_i (b := okB (toH G h) p _ && _) c1 (hnx _ _ _ _ e2)
  · obtain ⟨x, i, p, r, rfl, e2⟩ := oSb_d hs
    obtain ⟨c1, e2⟩ := ckb_d e2
    obtain ⟨c2, e2⟩ := ckb_d e2
    exact ck_i (b := okB (toH G h) p _) c1 (ck_i c2 (hnx _ _ _ _ e2))
  · obtain ⟨x, i, p, r, rfl, e2⟩ := oTb_d hs
    obtain ⟨c1, e2⟩ := ckb_d e2
    obtain ⟨c2, e2⟩ := ckb_d e2
    exact ck_i (b := okB (toH G h) p _ && okB (toH G h) x _ || okB (toH G h) p _ && okB (toH G h) x _) c1 (ck_i c2 (hnx _ _ _ _ e2))
  · obtain ⟨p, r, rfl, e2⟩ := oRb_d hs
    obtain ⟨c1, e2⟩ := ckb_d e2
    obtain ⟨c2, e2⟩ := ckb_d e2
    show if p = 100300 then _ else _
    rw [if_neg (of_decide_eq_true c1)]
    exact ck_i (b := okB (toH G h) p _) c2 (hnx _ _ _ _ e2)
  · obtain ⟨c1, e2⟩ := ckb_d hs
    obtain ⟨c2, e2⟩ := ckb_d e2
    show (match decide (_ = 3) with | true => _ | false => _)
    rw [decide_eq_false (of_decide_eq_true c1)]
    exact ck_i c2 (hnx _ _ _ _ e2)
  · obtain ⟨x, r, rfl, e2⟩ := o1b_d hs
    obtain ⟨c1, e2⟩ := ckb_d e2
    exact ck_i c1 (hnx _ _ _ _ e2)
  · obtain ⟨x, r, rfl, e2⟩ := o1b_d hs
    obtain ⟨c1, e2⟩ := ckb_d e2
    exact ck_i c1 (hnx _ _ _ _ e2)
  · obtain ⟨x, y, r, rfl, e2⟩ := o2b_d hs
    obtain ⟨c1, e2⟩ := ckb_d e2
    exact ck_i c1 (hnx _ _ _ _ e2)
  · obtain ⟨c1, e2⟩ := ckb_d hs
    exact ck_i c1 (hcl _ _ _ _ e2 (fun v h1 k => hnx _ _ _ _ k))
  · obtain ⟨p, r, rfl, e2⟩ := oRb_d hs
    obtain ⟨c1, e2⟩ := ckb_d e2
    exact ck_i c1 (hnx _ _ _ _ e2)
  · obtain ⟨c1, e2⟩ := ckb_d hs
    obtain ⟨c2, e2⟩ := ckb_d e2
    exact ck_i c1 (ck_i c2 (hcl _ _ _ _ e2 (fun v h1 k => hnx _ _ _ _ k)))
  · obtain ⟨c1, e2⟩ := ckb_d hs
    obtain ⟨c2, e2⟩ := ckb_d e2
    exact ck_i c1 (ck_i c2 (hcl _ _ _ _ e2 (fun v h1 k => hnx _ _ _ _ k)))
  · obtain ⟨rfl, e2⟩ := rtb_d hs
    exact hrt _ e2
  · cases hs
theorem exb_wp {G : GX} : ∀ (k d : Nat) (M : MR) (j : Nat) (lv : Lc) (st : List Value) (h : Hb) (z : Rz), chkM M = true → exb k d M j lv st h = some z → wp G d M j lv st (toH G h) (fun r h' => r = z.1 ∧ h' = toH G z.2)
  | 0, d, M, j, lv, st, h, z, _, hv => by cases hv
  | k + 1, d, M, j, lv, st, h, z, hM, hv => by
    unfold exb at hv
    cases hf : ft M j with
    | none => rw [hf] at hv; cases hv
    | some e =>
      rw [hf] at hv
      refine sp_wp oks.1 oks.2 ck_all hM hf (nx := fun j' lv' st' h' => wp G d M j' lv' st' h' (fun r h' => r = z.1 ∧ h' = toH G z.2)) (rt := fun v => rtB M v = true ∧ (v = z.1 ∧ toH G h = toH G z.2)) (cl := fun i vs K => ∃ d', d = d' + 1 ∧ (la vs).length ≤ (mt i).2.2.2.2.1 ∧ wp G d' (mt i) 0 (en (mt i) vs) [] (toH G h) K) (spx_sp hv (fun j' lv' st' h' q => exb_wp k d M j' lv' st' h' z hM q) (fun v q => ?_) (fun i vs K KP q hK => ?_)) (fun _ _ _ _ q => q) (fun _ q => q) (fun _ _ _ q => q)
      · obtain ⟨c1, q⟩ := ckb_d q
        cases q
        exact ⟨c1, rfl, rfl⟩
      · cases d with
        | zero => cases q
        | succ d' =>
          obtain ⟨c1, q⟩ := ckb_d q
          rw [Bool.and_eq_true, decide_eq_true_eq] at c1
          refine ⟨d', rfl, c1.2, ?_⟩
          cases hz : exb k d' (mt i) 0 (en (mt i) vs) [] h with
          | none => rw [hz] at q; cases q
          | some z1 =>
            rw [hz] at q
            refine (exb_wp (G := G) k d' (mt i) 0 (en (mt i) vs) [] h z1 (ck_all i c1.1) hz).mono ?_
            rintro r h' ⟨rfl, rfl⟩
            exact hK _ _ q
theorem lkI_b {b b' : Nat → Nat → Int32} {p k : Nat} (h : b p k = b' p k) : ∀ l, lkI l b p k = lkI l b' p k
  | [] => h
  | q :: t => by
    show upI (lkI t b) _ _ _ p k = upI (lkI t b') _ _ _ p k
    unfold upI
    rw [lkI_b h t]
theorem lkI_no {b : Nat → Nat → Int32} {p k : Nat} : ∀ l : List (Nat × Nat × Int32), (∀ e ∈ l, ¬ (e.1 = p ∧ e.2.1 = k)) → lkI l b p k = b p k
  | [], _ => rfl
  | q :: t, h => by
    show upI (lkI t b) _ _ _ p k = _
    unfold upI
    have h1 := h q List.mem_cons_self
    have h2 := lkI_no t (fun e he => h e (List.mem_cons_of_mem _ he)) (b := b)
    by_cases e1 : p = q.1
    · rw [if_pos e1, if_neg (fun z => h1 ⟨e1.symm, z.symm⟩), h2]
    · rw [if_neg e1, h2]
/-- where every entry at (p, k) says x, and there is one, that is what is found -/
theorem lkI_yes {b : Nat → Nat → Int32} {p k : Nat} {x : Int32} : ∀ l : List (Nat × Nat × Int32), (∀ e ∈ l, e.1 = p → e.2.1 = k → e.2.2 = x) → (∃ e ∈ l, e.1 = p ∧ e.2.1 = k) → lkI l b p k = x
  | [], _, h => by obtain ⟨e, he, -⟩ := h; cases he
  | q :: t, h, h2 => by
    show upI (lkI t b) _ _ _ p k = _
    unfold upI
    by_cases e1 : q.1 = p ∧ q.2.1 = k
    · rw [if_pos e1.1.symm, if_pos e1.2.symm]
      exact h q List.mem_cons_self e1.1 e1.2
    · have h3 := lkI_yes (b := b) t (fun e he => h e (List.mem_cons_of_mem _ he)) (by
        obtain ⟨e, he, z⟩ := h2
        rcases List.mem_cons.mp he with rfl | he
        · exact absurd z e1
        · exact ⟨e, he, z⟩)
      by_cases e2 : p = q.1
      · rw [if_pos e2, if_neg (fun z => e1 ⟨e2.symm, z.symm⟩), h3]
      · rw [if_neg e2, h3]
def iniL : List (Nat × Nat × Int32) := [(29, 10, 300), (29, 11, (-1000000)), (34, 0, 100), (34, 1, 100), (34, 2, 100), (34, 3, 100), (34, 4, 100), (34, 5, 100), (47, 3, 1), (93, 25, 300), (94, 0, (-1)), (94, 1, (-1)), (94, 2, (-1)), (94, 3, (-1)), (94, 4, (-1)), (94, 5, (-1)), (94, 6, (-1)), (94, 7, (-1)), (97, 1, 38), (97, 2, 71), (97, 3, 92), (97, 4, 100), (97, 5, 92), (97, 6, 71), (97, 7, 38), (97, 9, (-38)), (97, 10, (-71)), (97, 11, (-92)), (97, 12, (-100)), (97, 13, (-92)), (97, 14, (-71)), (97, 15, (-38)), (98, 0, (-100)), (98, 1, (-92)), (98, 2, (-71)), (98, 3, (-38)), (98, 5, 38), (98, 6, 71), (98, 7, 92), (98, 8, 100), (98, 9, 92), (98, 10, 71), (98, 11, 38), (98, 13, (-38)), (98, 14, (-71)), (98, 15, (-92)), (112, 0, 100), (112, 1, 100), (112, 2, 100), (112, 3, 100), (112, 4, 100), (112, 5, 100)]
def iW1 : List (Nat × Nat × Int32) := [(91, 3, 0), (91, 2, 0), (91, 1, 0), (89, 3, 0), (89, 2, 0), (89, 1, 0), (87, 3, 0), (87, 2, 0), (87, 1, 0), (85, 3, 0), (85, 2, 0), (85, 1, 0), (83, 3, 0), (83, 2, 0), (83, 1, 0), (81, 3, 0), (81, 2, 0), (81, 1, 0), (79, 3, 0), (79, 2, 0), (79, 1, 0), (77, 3, 0), (77, 2, 0), (77, 1, 0), (0, 11, 0), (71, 0, 0), (65, 0, 0), (61, 5, 0), (61, 4, 0), (61, 3, 0), (61, 1, 0), (61, 0, 0), (57, 3, 0), (55, 1, 0), (47, 5, 0), (47, 4, 0), (47, 3, 1), (47, 2, 0), (47, 1, 0), (34, 5, 100), (34, 4, 100), (34, 3, 100), (34, 2, 100), (34, 1, 100), (34, 0, 100), (29, 12, 0), (29, 11, (-1000000)), (29, 10, 300), (29, 9, 0), (29, 1, 0), (30, 3, 0), (2, 9, 0), (2, 2, 0), (7, 3, 0), (3, 3, 0)]
def iR1 : List (Nat × Nat × Nat × Bool) := [(1, 7, 91, false), (91, 0, 92, false), (1, 6, 89, false), (89, 0, 90, false), (1, 5, 87, false), (87, 0, 88, false), (1, 4, 85, false), (85, 0, 86, false), (1, 3, 83, false), (83, 0, 84, false), (1, 2, 81, false), (81, 0, 82, false), (1, 1, 79, false), (79, 0, 80, false), (1, 0, 77, false), (77, 0, 78, false), (0, 10, 71, false), (71, 5, 76, false), (71, 4, 75, false), (71, 3, 74, false), (71, 2, 73, false), (71, 1, 72, false), (0, 9, 65, false), (65, 5, 70, false), (65, 4, 69, false), (65, 3, 68, false), (65, 2, 67, false), (65, 1, 66, false), (0, 8, 64, false), (0, 7, 63, false), (0, 6, 61, false), (61, 2, 62, false), (0, 5, 57, false), (57, 2, 60, false), (57, 1, 59, false), (57, 0, 58, false), (0, 4, 55, false), (55, 0, 56, false), (0, 3, 47, false), (47, 11, 54, false), (47, 10, 53, false), (47, 9, 52, false), (47, 8, 51, false), (47, 7, 50, false), (47, 6, 49, false), (47, 0, 48, false), (0, 2, 29, false), (29, 8, 40, false), (40, 6, 0, true), (29, 7, 39, false), (29, 6, 38, false), (29, 5, 37, false), (29, 4, 36, false), (29, 3, 35, false), (29, 2, 34, false), (29, 0, 30, false), (30, 2, 33, false), (30, 1, 32, false), (30, 0, 31, false), (0, 1, 2, false), (2, 8, 28, false), (2, 7, 27, false), (2, 6, 26, false), (2, 5, 21, false), (21, 4, 0, true), (2, 4, 16, false), (16, 4, 0, true), (2, 3, 11, false), (11, 4, 0, true), (2, 1, 7, false), (7, 2, 10, false), (7, 1, 9, false), (7, 0, 8, false), (2, 0, 3, false), (3, 2, 6, false), (3, 1, 5, false), (3, 0, 4, false), (0, 0, 1, false)]
def iW2 : List (Nat × Nat × Int32) := [(93, 25, 300), (112, 5, 100), (112, 4, 100), (112, 3, 100), (112, 2, 100), (112, 1, 100), (112, 0, 100), (98, 15, (-92)), (98, 14, (-71)), (98, 13, (-38)), (98, 12, 0), (98, 11, 38), (98, 10, 71), (98, 9, 92), (98, 8, 100), (98, 7, 92), (98, 6, 71), (98, 5, 38), (98, 4, 0), (98, 3, (-38)), (98, 2, (-71)), (98, 1, (-92)), (98, 0, (-100)), (97, 15, (-38)), (97, 14, (-71)), (97, 13, (-92)), (97, 12, (-100)), (97, 11, (-92)), (97, 10, (-71)), (97, 9, (-38)), (97, 8, 0), (97, 7, 38), (97, 6, 71), (97, 5, 92), (97, 4, 100), (97, 3, 92), (97, 2, 71), (97, 1, 38), (97, 0, 0), (94, 7, (-1)), (94, 6, (-1)), (94, 5, (-1)), (94, 4, (-1)), (94, 3, (-1)), (94, 2, (-1)), (94, 1, (-1)), (94, 0, (-1)), (91, 3, 0), (91, 2, 0), (91, 1, 0), (89, 3, 0), (89, 2, 0), (89, 1, 0), (87, 3, 0), (87, 2, 0), (87, 1, 0), (85, 3, 0), (85, 2, 0), (85, 1, 0), (83, 3, 0), (83, 2, 0), (83, 1, 0), (81, 3, 0), (81, 2, 0), (81, 1, 0), (79, 3, 0), (79, 2, 0), (79, 1, 0), (77, 3, 0), (77, 2, 0), (77, 1, 0), (0, 11, 0), (71, 0, 0), (65, 0, 0), (61, 5, 0), (61, 4, 0), (61, 3, 0), (61, 1, 0), (61, 0, 0), (57, 3, 0), (55, 1, 0), (47, 5, 0), (47, 4, 0), (47, 3, 1), (47, 2, 0), (47, 1, 0), (34, 5, 100), (34, 4, 100), (34, 3, 100), (34, 2, 100), (34, 1, 100), (34, 0, 100), (29, 12, 0), (29, 11, (-1000000)), (29, 10, 300), (29, 9, 0), (29, 1, 0), (30, 3, 0), (2, 9, 0), (2, 2, 0), (7, 3, 0), (3, 3, 0)]
def iR2 : List (Nat × Nat × Nat × Bool) := [(93, 78, 146, false), (93, 77, 145, false), (93, 76, 144, false), (93, 75, 143, false), (93, 74, 142, false), (93, 73, 141, false), (93, 62, 140, false), (93, 61, 139, false), (93, 60, 138, false), (93, 59, 137, false), (93, 57, 136, false), (93, 56, 135, false), (93, 55, 134, false), (93, 53, 133, false), (93, 48, 132, false), (93, 47, 131, false), (93, 46, 130, false), (93, 45, 129, false), (93, 44, 128, false), (93, 43, 127, false), (93, 42, 126, false), (93, 41, 125, false), (93, 40, 124, false), (93, 39, 123, false), (93, 38, 122, false), (93, 37, 121, false), (93, 36, 120, false), (93, 34, 119, false), (93, 33, 118, false), (93, 32, 117, false), (93, 31, 116, false), (93, 29, 115, false), (93, 28, 114, false), (93, 27, 113, false), (93, 23, 112, false), (93, 22, 111, false), (93, 21, 110, false), (93, 20, 109, false), (93, 18, 108, false), (93, 17, 107, false), (93, 16, 106, false), (93, 15, 105, false), (93, 14, 104, false), (93, 13, 103, false), (93, 12, 102, false), (93, 11, 101, false), (93, 9, 100, false), (93, 8, 99, false), (93, 6, 98, false), (93, 5, 97, false), (93, 4, 96, false), (93, 3, 95, false), (93, 2, 94, false), (1, 7, 91, false), (91, 0, 92, false), (1, 6, 89, false), (89, 0, 90, false), (1, 5, 87, false), (87, 0, 88, false), (1, 4, 85, false), (85, 0, 86, false), (1, 3, 83, false), (83, 0, 84, false), (1, 2, 81, false), (81, 0, 82, false), (1, 1, 79, false), (79, 0, 80, false), (1, 0, 77, false), (77, 0, 78, false), (0, 10, 71, false), (71, 5, 76, false), (71, 4, 75, false), (71, 3, 74, false), (71, 2, 73, false), (71, 1, 72, false), (0, 9, 65, false), (65, 5, 70, false), (65, 4, 69, false), (65, 3, 68, false), (65, 2, 67, false), (65, 1, 66, false), (0, 8, 64, false), (0, 7, 63, false), (0, 6, 61, false), (61, 2, 62, false), (0, 5, 57, false), (57, 2, 60, false), (57, 1, 59, false), (57, 0, 58, false), (0, 4, 55, false), (55, 0, 56, false), (0, 3, 47, false), (47, 11, 54, false), (47, 10, 53, false), (47, 9, 52, false), (47, 8, 51, false), (47, 7, 50, false), (47, 6, 49, false), (47, 0, 48, false), (0, 2, 29, false), (29, 8, 40, false), (40, 6, 0, true), (29, 7, 39, false), (29, 6, 38, false), (29, 5, 37, false), (29, 4, 36, false), (29, 3, 35, false), (29, 2, 34, false), (29, 0, 30, false), (30, 2, 33, false), (30, 1, 32, false), (30, 0, 31, false), (0, 1, 2, false), (2, 8, 28, false), (2, 7, 27, false), (2, 6, 26, false), (2, 5, 21, false), (21, 4, 0, true), (2, 4, 16, false), (16, 4, 0, true), (2, 3, 11, false), (11, 4, 0, true), (2, 1, 7, false), (7, 2, 10, false), (7, 1, 9, false), (7, 0, 8, false), (2, 0, 3, false), (3, 2, 6, false), (3, 1, 5, false), (3, 0, 4, false), (0, 0, 1, false)]
def eqW : List (Nat × Nat × Int32) → List (Nat × Nat × Int32) → Bool
  | [], [] => true
  | a :: s, b :: t => Nat.beq a.1 b.1 && (Nat.beq a.2.1 b.2.1 && (decide (a.2.2 = b.2.2) && eqW s t))
  | _, _ => false
def eqR : List (Nat × Nat × Nat × Bool) → List (Nat × Nat × Nat × Bool) → Bool
  | [], [] => true
  | a :: s, b :: t => Nat.beq a.1 b.1 && (Nat.beq a.2.1 b.2.1 && (Nat.beq a.2.2.1 b.2.2.1 && (a.2.2.2 == b.2.2.2 && eqR s t)))
  | _, _ => false
def eqZ (z : Option Rz) (h : Hb) : Bool := match z with
  | some (none, g) => Nat.beq g.1 h.1 && (eqW g.2.1 h.2.1 && eqR g.2.2 h.2.2)
  | _ => false
theorem eqW_eq : ∀ {s t : List (Nat × Nat × Int32)}, eqW s t = true → s = t
  | [], [], _ => rfl
  | a :: s, b :: t, h => by
    simp only [eqW, Bool.and_eq_true, decide_eq_true_eq] at h
    obtain ⟨h1, h2, h3, h4⟩ := h
    rw [eqW_eq h4]
    obtain ⟨a1, a2, a3⟩ := a
    obtain ⟨b1, b2, b3⟩ := b
    rw [show a1 = b1 from Nat.eq_of_beq_eq_true h1, show a2 = b2 from Nat.eq_of_beq_eq_true h2, show a3 = b3 from h3]
  | [], _ :: _, h => by cases h
  | _ :: _, [], h => by cases h
theorem eqR_eq : ∀ {s t : List (Nat × Nat × Nat × Bool)}, eqR s t = true → s = t
  | [], [], _ => rfl
  | a :: s, b :: t, h => by
    simp only [eqR, Bool.and_eq_true, beq_iff_eq] at h
    obtain ⟨h1, h2, h3, h4, h5⟩ := h
    rw [eqR_eq h5]
    obtain ⟨a1, a2, a3, a4⟩ := a
    obtain ⟨b1, b2, b3, b4⟩ := b
    rw [show a1 = b1 from Nat.eq_of_beq_eq_true h1, show a2 = b2 from Nat.eq_of_beq_eq_true h2, show a3 = b3 from Nat.eq_of_beq_eq_true h3, show a4 = b4 from h4]
  | [], _ :: _, h => by cases h
  | _ :: _, [], h => by cases h
theorem eqZ_eq {z : Option Rz} {h : Hb} (e : eqZ z h = true) : z = some (none, h) := by
  unfold eqZ at e
  split at e
  · rename_i g
    rw [Bool.and_eq_true, Bool.and_eq_true] at e
    obtain ⟨e1, e2, e3⟩ := e
    obtain ⟨g1, g2, g3⟩ := g
    obtain ⟨h1, h2, h3⟩ := h
    rw [show g1 = h1 from Nat.eq_of_beq_eq_true e1, show g2 = h2 from eqW_eq e2, show g3 = h3 from eqR_eq e3]
  · cases e
def kmx (p : Nat) : Nat := (RPL.getD p []).length
def hasW (l : List (Nat × Nat × Int32)) (p k : Nat) : Bool := match l with
  | [] => false
  | e :: t => (Nat.beq e.1 p && Nat.beq e.2.1 k) || hasW t p k
def hasR (l : List (Nat × Nat × Nat × Bool)) (p k : Nat) : Bool := match l with
  | [] => false
  | e :: t => (Nat.beq e.1 p && (Nat.beq e.2.1 k || e.2.2.2)) || hasR t p k
def cI : Bool := iW2.all (fun e => decide (e.1 < 1000) && decide (lkI iniL (fun _ _ => 0) e.1 e.2.1 = e.2.2)) && iniL.all (fun e => hasW iW2 e.1 e.2.1)
def okR (e : Nat × Nat × Nat × Bool) : Bool := decide (e.1 ≠ 48) && (match e.2.2.2 with
  | false => decide (RP 0 false e.1 e.2.1 = some e.2.2.1)
  | true => Nat.beq (kmx e.1) e.2.1 && (decide (e.1 ≠ 0) && (List.range e.2.1).all (fun i => decide (RP 0 false e.1 i = some (e.1 + 1 + i)))))
def cR : Bool := iR2.all okR && (List.range 147).all (fun p => (List.range (kmx p)).all (fun k => (RP 0 false p k).isNone || hasR iR2 p k))
set_option maxRecDepth 1000000 in
theorem cI_ok : cI = true := by decide +kernel
set_option maxRecDepth 1000000 in
theorem cR_ok : cR = true := by decide +kernel
theorem hasW_e {p k : Nat} : ∀ {l : List (Nat × Nat × Int32)}, hasW l p k = true → ∃ e ∈ l, e.1 = p ∧ e.2.1 = k
  | [], h => by cases h
  | e :: t, h => by
    simp only [hasW, Bool.or_eq_true, Bool.and_eq_true] at h
    rcases h with ⟨h1, h2⟩ | h
    · exact ⟨e, List.mem_cons_self, Nat.eq_of_beq_eq_true h1, Nat.eq_of_beq_eq_true h2⟩
    · obtain ⟨e', he, z⟩ := hasW_e h
      exact ⟨e', List.mem_cons_of_mem _ he, z⟩
theorem hasR_e {p k : Nat} : ∀ {l : List (Nat × Nat × Nat × Bool)}, hasR l p k = true → ∃ e ∈ l, e.1 = p ∧ (e.2.1 = k ∨ e.2.2.2 = true)
  | [], h => by cases h
  | e :: t, h => by
    simp only [hasR, Bool.or_eq_true, Bool.and_eq_true] at h
    rcases h with ⟨h1, h2⟩ | h
    · exact ⟨e, List.mem_cons_self, Nat.eq_of_beq_eq_true h1, h2.elim (fun z => Or.inl (Nat.eq_of_beq_eq_true z)) Or.inr⟩
    · obtain ⟨e', he, z⟩ := hasR_e h
      exact ⟨e', List.mem_cons_of_mem _ he, z⟩
theorem cI_eq (G : GX) : lkI iW2 (I0 G) = lkI iniL (I0 G) := by
  funext p k
  have h := cI_ok
  unfold cI at h
  rw [Bool.and_eq_true, List.all_eq_true, List.all_eq_true] at h
  obtain ⟨h1, h2⟩ := h
  by_cases hk : ∃ e ∈ iW2, e.1 = p ∧ e.2.1 = k
  · obtain ⟨e, he, rfl, rfl⟩ := id hk
    have q := h1 e he
    rw [Bool.and_eq_true, decide_eq_true_eq, decide_eq_true_eq] at q
    have z : I0 G e.1 e.2.1 = 0 := by unfold I0; rw [if_neg (by omega), if_neg (by omega)]
    have b : lkI iniL (I0 G) e.1 e.2.1 = lkI iniL (fun _ _ => 0) e.1 e.2.1 := lkI_b (b := I0 G) (b' := fun _ _ => 0) z iniL
    rw [b, q.2]
    refine lkI_yes iW2 (fun e' he' z1 z2 => ?_) hk
    have q' := h1 e' he'
    rw [Bool.and_eq_true, decide_eq_true_eq, decide_eq_true_eq, z1, z2] at q'
    rw [← q'.2, q.2]
  · rw [lkI_no iW2 (fun e he z => hk ⟨e, he, z⟩), lkI_no iniL (fun e he z => ?_)]
    obtain ⟨e', he', z1, z2⟩ := hasW_e (h2 e he)
    exact hk ⟨e', he', z1.trans z.1, z2.trans z.2⟩
theorem lkR_no {p k : Nat} : ∀ l : List (Nat × Nat × Nat × Bool), (∀ e ∈ l, ¬ (e.1 = p ∧ (e.2.1 = k ∨ e.2.2.2 = true))) → lkR l p k = none
  | [], _ => rfl
  | (p', n, x, false) :: t, h => by
    show upR (lkR t) _ _ _ p k = _
    unfold upR
    have h1 := h _ List.mem_cons_self
    have h2 := lkR_no t (fun e he => h e (List.mem_cons_of_mem _ he))
    by_cases e1 : p = p'
    · rw [if_pos e1, if_neg (fun z => h1 ⟨e1.symm, Or.inl z.symm⟩), h2]
    · rw [if_neg e1, h2]
  | (p', n, x, true) :: t, h => by
    show (if p = p' then (if k < n then _ else none) else lkR t p k) = none
    have h1 := h _ List.mem_cons_self
    have h2 := lkR_no t (fun e he => h e (List.mem_cons_of_mem _ he))
    rw [if_neg (fun z => h1 ⟨z.symm, Or.inr rfl⟩), h2]
theorem RP_no {p k : Nat} (h : kmx p ≤ k) (h0 : p ≠ 0) : RP 0 false p k = none := by
  unfold kmx at h
  have z : (RPL.getD p []).getD k none = none := by rw [List.getD_eq_getElem?_getD, List.getElem?_eq_none h]; rfl
  unfold RP
  rw [z]
  by_cases e1 : p = 48
  · rw [if_pos e1, if_neg (by omega)]
  · rw [if_neg e1, if_neg h0]
theorem RP_no0 {k : Nat} (h : 12 ≤ k) : RP 0 false 0 k = none := by
  have z : (RPL.getD 0 []).getD k none = none := by
    rw [List.getD_eq_getElem?_getD, List.getElem?_eq_none (by rw [show (RPL.getD 0 []).length = 12 from rfl]; exact h)]; rfl
  unfold RP
  rw [z, if_neg (by omega), if_pos rfl, if_neg (by omega), if_neg (by omega)]
theorem lkR_yes {p k : Nat} : ∀ l : List (Nat × Nat × Nat × Bool), (∀ e ∈ l, okR e = true) → (∃ e ∈ l, e.1 = p ∧ (e.2.1 = k ∨ e.2.2.2 = true)) → lkR l p k = RP 0 false p k
  | [], _, h => by obtain ⟨e, he, -⟩ := h; cases he
  | (p', n, x, false) :: t, h, h2 => by
    show upR (lkR t) _ _ _ p k = _
    unfold upR
    have h1 := h _ List.mem_cons_self
    simp only [okR, Bool.and_eq_true, decide_eq_true_eq] at h1
    by_cases e1 : p = p' ∧ k = n
    · rw [if_pos e1.1, if_pos e1.2, e1.1, e1.2]
      exact h1.2.symm
    · have h3 := lkR_yes t (fun e he => h e (List.mem_cons_of_mem _ he)) (by
        obtain ⟨e, he, z1, z2⟩ := h2
        rcases List.mem_cons.mp he with rfl | he
        · rcases z2 with z2 | z2
          · exact absurd ⟨z1.symm, z2.symm⟩ e1
          · cases z2
        · exact ⟨e, he, z1, z2⟩)
      by_cases e2 : p = p'
      · rw [if_pos e2, if_neg (fun z => e1 ⟨e2, z⟩), h3]
      · rw [if_neg e2, h3]
  | (p', n, x, true) :: t, h, h2 => by
    show (if p = p' then (if k < n then some (p' + 1 + k) else none) else lkR t p k) = RP 0 false p k
    have h1 := h _ List.mem_cons_self
    simp only [okR, Bool.and_eq_true, decide_eq_true_eq, List.all_eq_true] at h1
    obtain ⟨h0, h3, h4, h5⟩ := h1
    by_cases e1 : p = p'
    · rw [if_pos e1, e1]
      by_cases e2 : k < n
      · rw [if_pos e2]
        exact (h5 k (List.mem_range.mpr e2)).symm
      · rw [if_neg e2, RP_no (by rw [Nat.eq_of_beq_eq_true h3]; exact Nat.le_of_not_lt e2) h4]
    · rw [if_neg e1]
      refine lkR_yes t (fun e he => h e (List.mem_cons_of_mem _ he)) ?_
      obtain ⟨e, he, z1, z2⟩ := h2
      rcases List.mem_cons.mp he with rfl | he
      · exact absurd z1.symm e1
      · exact ⟨e, he, z1, z2⟩
theorem cR_eq : lkR iR2 = RP 0 false := by
  funext p k
  have h := cR_ok
  unfold cR at h
  rw [Bool.and_eq_true, List.all_eq_true, List.all_eq_true] at h
  obtain ⟨h1, h2⟩ := h
  by_cases hk : ∃ e ∈ iR2, e.1 = p ∧ (e.2.1 = k ∨ e.2.2.2 = true)
  · exact lkR_yes iR2 h1 hk
  · rw [lkR_no iR2 (fun e he z => hk ⟨e, he, z⟩)]
    have hl : RPL.length = 147 := by decide +kernel
    by_cases hp : p < 147
    · by_cases hq : k < kmx p
      · have h3 := h2 p (List.mem_range.mpr hp)
        rw [List.all_eq_true] at h3
        have h4 := h3 k (List.mem_range.mpr hq)
        rw [Bool.or_eq_true] at h4
        rcases h4 with h4 | h4
        · cases hz : RP 0 false p k with
          | none => rfl
          | some z => rw [hz] at h4; cases h4
        · exact absurd (hasR_e h4) hk
      · by_cases h0 : p = 0
        · subst h0
          exact (RP_no0 (Nat.le_of_not_lt hq)).symm
        · exact (RP_no (Nat.le_of_not_lt hq) h0).symm
    · unfold RP
      have z : RPL.getD p [] = [] := by rw [List.getD_eq_getElem?_getD, List.getElem?_eq_none (by omega)]; rfl
      rw [if_neg (by omega), if_neg (by omega), z]
      rfl
set_option maxRecDepth 1000000 in
theorem ini1_ok : eqZ (exb 3000 999 (mt 0) 0 (en (mt 0) [.ref 0]) [] (1, [], [])) (93, iW1, iR1) = true := by decide +kernel
set_option maxRecDepth 1000000 in
theorem ini2_ok : eqZ (exb 3000 999 (mt 181) 0 (en (mt 181) [.ref 93]) [] (94, iW1, iR1)) (147, iW2, iR2) = true := by decide +kernel
end
section
/-! NUMBERS: everything over the integers -/
theorem fb_rng (x : Int32) : -2147483648 ≤ x.toInt ∧ x.toInt < 2147483648 := by
  have h1 := Int32.le_toInt x
  have h2 := Int32.toInt_lt x
  omega
theorem fb_bmod {z : Int} (h1 : -2147483648 ≤ z) (h2 : z < 2147483648) : z.bmod (2 ^ 32) = z := by
  rw [Int.bmod_eq_of_le (by omega) (by omega)]
theorem fb_addI {x y : Int32} (h1 : -2147483648 ≤ x.toInt + y.toInt) (h2 : x.toInt + y.toInt < 2147483648) : (x + y).toInt = x.toInt + y.toInt := by
  rw [Int32.toInt_add, fb_bmod h1 h2]
theorem fb_subI {x y : Int32} (h1 : -2147483648 ≤ x.toInt - y.toInt) (h2 : x.toInt - y.toInt < 2147483648) : (x - y).toInt = x.toInt - y.toInt := by
  rw [Int32.toInt_sub, fb_bmod h1 h2]
theorem fb_mulI {x y : Int32} (h1 : -2147483648 ≤ x.toInt * y.toInt) (h2 : x.toInt * y.toInt < 2147483648) : (x * y).toInt = x.toInt * y.toInt := by
  rw [Int32.toInt_mul, fb_bmod h1 h2]
theorem tI_lt (a b : Int32) : (a < b) = (a.toInt < b.toInt) := propext Int32.lt_iff_toInt_lt
theorem tI_le (a b : Int32) : (a ≤ b) = (a.toInt ≤ b.toInt) := propext Int32.le_iff_toInt_le
theorem tI_eq (a b : Int32) : (a = b) = (a.toInt = b.toInt) := propext Int32.toInt_inj.symm
theorem lcl (x y : Int64) : (lg_cmp x y < 0) = (x.toInt < y.toInt) := propext ((lc_lt x y).trans Int64.lt_iff_toInt_lt)
theorem lcg (x y : Int64) : (0 < lg_cmp x y) = (y.toInt < x.toInt) := propext ((lc_gt x y).trans Int64.lt_iff_toInt_lt)
theorem w64 (x : Int32) : x.toInt64.toInt = x.toInt := Int32.toInt_toInt64 x
theorem tnc (x : Int32) : x.toNatClampNeg = x.toInt.toNat := rfl
theorem ixB_i {i : Int32} {n : Nat} (h0 : 0 ≤ i.toInt) (h1 : i.toInt < n) : ixB i n = true := by
  unfold ixB
  rw [Bool.and_eq_true, decide_eq_true_eq, decide_eq_true_eq]
  refine ⟨Int32.le_iff_toInt_le.mpr h0, ?_⟩
  rw [tnc]
  omega
theorem ck_of {b : Bool} {A : Prop} (h : b = true) (a : A) : ck b A := by rw [h]; exact a
/-- the numbers of small naturals -/
theorem kI_t {k : Nat} (h : k < 2147483648) : (Int32.ofNat k).toInt = k := Int32.toInt_ofNat_of_lt h
theorem kI_c {k : Nat} (h : k < 2147483648) : (Int32.ofNat k).toNatClampNeg = k := by rw [tnc, kI_t h]; omega
theorem kI_1 (k : Nat) : Int32.ofNat k + Int32.ofInt 1 = Int32.ofNat (k + 1) := by
  rw [Int32.ofNat_add]; rfl
theorem kI_of {x : Int32} (h : 0 ≤ x.toInt) : x = Int32.ofNat x.toInt.toNat := by
  apply Int32.toInt_inj.mp
  have := fb_rng x
  rw [kI_t (by omega)]
  omega
/-! THE RELATION of the class's fields and the reference's -/
abbrev St : Type := Nat → Nat → Int32
def cmpL : List Nat := [2, 11, 3, 3, 3, 3, 3, 4, 4, 4, 4, 3, 3, 3, 3, 3, 3, 3, 3, 3, 3, 3, 3, 3, 3, 3, 3, 3, 3, 5, 5, 5, 5, 5, 5, 5, 5, 5, 5, 5, 5, 5, 5, 5, 5, 5, 5, 6, 6, 6, 6, 6, 6, 6, 6, 10, 10, 9, 9, 9, 9, 8, 8, 11, 11, 7, 7, 7, 7, 7, 7, 7, 7, 7, 7, 7, 7, 1, 1, 1, 1, 1, 1, 1, 1, 1, 1, 1, 1, 1, 1, 1, 1, 11, 1, 1, 1, 3, 3, 3, 3, 3, 3, 3, 3, 3, 3, 11, 11, 4, 4, 4, 5, 5, 5, 5, 5, 5, 5, 11, 6, 6, 6, 6, 6, 6, 6, 6, 6, 11, 11, 11, 11, 11, 7, 7, 7, 11, 11, 11, 8, 9, 9, 9, 9, 11, 10]
def c93L : List Nat := [11, 2, 11, 11, 11, 11, 11, 3, 11, 11, 3, 11, 11, 11, 11, 11, 11, 11, 11, 4, 11, 11, 11, 11, 5, 5, 5, 11, 11, 11, 5, 11, 11, 11, 11, 6, 11, 11, 11, 11, 11, 11, 11, 11, 11, 11, 11, 11, 11, 11, 11, 11, 11, 11, 7, 11, 11, 11, 11, 11, 11, 11, 11, 8, 8, 11, 11, 11, 11, 11, 11, 11, 9, 11, 11, 11, 11, 11, 11, 10]
/-- which part of the relation a place belongs to: 0 the script, 1 sheets, 2 status, 3 sea, 4 darks, 5 vessel, 6 bench, 7 books, 8 tape, 9 deeds, 10 trace, 11 free -/
def cmp (p k : Nat) : Nat := if p = 93 then c93L.getD k 11 else if p < 147 then cmpL.getD p 11 else if p < 100000 then 6 else 0
def Ag (cs : List Nat) (I J : St) : Prop := ∀ p k, cs.contains (cmp p k) = false → J p k = I p k
theorem Ag.rf {cs : List Nat} {I : St} : Ag cs I I := fun _ _ _ => rfl
theorem Ag.up {cs : List Nat} {I J : St} {p k : Nat} {x : Int32} (h : Ag cs I J) (hc : cs.contains (cmp p k) = true) : Ag cs I (upI J p k x) := fun q i hq => by
  unfold upI
  by_cases e1 : q = p
  · by_cases e2 : i = k
    · subst e1 e2
      rw [hc] at hq
      cases hq
    · rw [if_pos e1, if_neg e2, h q i hq]
  · rw [if_neg e1, h q i hq]
theorem Ag.tr {cs : List Nat} {I J K : St} (h : Ag cs I J) (h2 : Ag cs J K) : Ag cs I K := fun p k hq => (h2 p k hq).trans (h p k hq)
theorem Ag.mo {cs ds : List Nat} {I J : St} (h : Ag cs I J) (hd : ∀ c, ds.contains c = false → cs.contains c = false) : Ag ds I J := fun p k hq => h p k (hd _ hq)
theorem cmp_pl {p : Nat} (k : Nat) (h : p ≠ 93) (h2 : p < 147) : cmp p k = cmpL.getD p 11 := by unfold cmp; rw [if_neg h, if_pos h2]
theorem upI_same (I : St) (p k : Nat) (x : Int32) : upI I p k x p k = x := by unfold upI; rw [if_pos rfl, if_pos rfl]
theorem upI_nk {I : St} {p k q i : Nat} {x : Int32} (h : ¬ (q = p ∧ i = k)) : upI I p k x q i = I q i := by
  unfold upI
  by_cases e1 : q = p
  · rw [if_pos e1, if_neg (fun z => h ⟨e1, z⟩)]
  · rw [if_neg e1]
theorem upI_pl {I : St} {p k q : Nat} {x : Int32} (h : q ≠ p) (i : Nat) : upI I p k x q i = I q i := upI_nk (fun z => h z.1)
def RC1 (I : St) : Prop := ∀ s, s < 8 → (I (77 + 2 * s) 1 = 0 ∧ I 94 s = -1 ∨ I (77 + 2 * s) 1 = 1 ∧ I 94 s = I (77 + 2 * s) 2) ∧ 0 ≤ (I (77 + 2 * s) 2).toInt ∧ (I (77 + 2 * s) 2).toInt ≤ 2 ∧ I (77 + 2 * s) 3 = I 95 s ∧ 0 ≤ (I 95 s).toInt ∧ (I 95 s).toInt ≤ 120 ∧ ∀ i, i < 120 → I (78 + 2 * s) i = I 96 (120 * s + i)
def RC2 (I : St) : Prop := I 0 11 = I 93 1
def RC4 (I : St) : Prop := I 7 3 = I 93 19 ∧ 0 ≤ (I 93 19).toInt ∧ (I 93 19).toInt ≤ 10 ∧ ∀ k, k < 10 → I 8 k = I 109 k ∧ I 9 k = I 110 k ∧ I 10 k = I 111 k
def RC8 (I : St) : Prop := I 61 0 = I 93 63 ∧ I 61 1 = I 93 64 ∧ 0 ≤ (I 93 63).toInt ∧ (I 93 63).toInt ≤ 400 ∧ ∀ k, k < 400 → I 62 k = (I 140 k).toInt8.toInt32 ∧ 0 ≤ (I 140 k).toInt ∧ (I 140 k).toInt ≤ 255
def RC9 (I : St) : Prop := I 57 3 = I 93 72 ∧ 0 ≤ (I 93 72).toInt ∧ (I 93 72).toInt ≤ 40 ∧ ∀ k, k < 40 → I 58 k = I 141 k * 4 + I 142 k ∧ (0 ≤ (I 141 k).toInt ∧ (I 141 k).toInt ≤ 3) ∧ (0 ≤ (I 142 k).toInt ∧ (I 142 k).toInt ≤ 3) ∧ I 59 k = I 143 k ∧ I 60 k = I 144 k
def RC10 (I : St) : Prop := I 55 1 = I 93 79 ∧ 0 ≤ (I 93 79).toInt ∧ (I 93 79).toInt ≤ 16 ∧ ∀ k, k < 16 → I 56 k = I 146 k
def eqc (c : Nat) (I J : St) : Prop := ∀ p k, cmp p k = c → J p k = I p k
theorem eqc.at {c : Nat} {I J : St} (h : eqc c I J) {p : Nat} (k : Nat) (hp : cmp p k = c) : J p k = I p k := h p k hp
theorem cmp_sh : ∀ s, s < 8 → ∀ k, cmp (77 + 2 * s) k = 1 ∧ cmp (78 + 2 * s) k = 1 := fun s hs k => by
  rw [cmp_pl k (by omega) (by omega), cmp_pl k (by omega) (by omega)]
  revert s
  decide
theorem RC1.cg {I J : St} (h : eqc 1 I J) (r : RC1 I) : RC1 J := fun s hs => by
  have := r s hs
  rw [h (77 + 2 * s) 1 (cmp_sh s hs 1).1, h 94 s rfl, h (77 + 2 * s) 2 (cmp_sh s hs 2).1, h (77 + 2 * s) 3 (cmp_sh s hs 3).1, h 95 s rfl]
  refine ⟨this.1, this.2.1, this.2.2.1, this.2.2.2.1, this.2.2.2.2.1, this.2.2.2.2.2.1, fun i hi => ?_⟩
  rw [h (78 + 2 * s) i (cmp_sh s hs i).2, h 96 _ rfl]
  exact this.2.2.2.2.2.2 i hi
theorem RC2.cg {I J : St} (h : eqc 2 I J) (r : RC2 I) : RC2 J := by
  unfold RC2; rw [h 0 11 rfl, h 93 1 rfl]; exact r
theorem RC4.cg {I J : St} (h : eqc 4 I J) (r : RC4 I) : RC4 J := by
  unfold RC4; rw [h 7 3 rfl, h 93 19 rfl]
  refine ⟨r.1, r.2.1, r.2.2.1, fun k hk => ?_⟩
  rw [h 8 k rfl, h 9 k rfl, h 10 k rfl, h 109 k rfl, h 110 k rfl, h 111 k rfl]
  exact r.2.2.2 k hk
theorem RC8.cg {I J : St} (h : eqc 8 I J) (r : RC8 I) : RC8 J := by
  unfold RC8; rw [h 61 0 rfl, h 61 1 rfl, h 93 63 rfl, h 93 64 rfl]
  refine ⟨r.1, r.2.1, r.2.2.1, r.2.2.2.1, fun k hk => ?_⟩
  rw [h 62 k rfl, h 140 k rfl]
  exact r.2.2.2.2 k hk
theorem RC9.cg {I J : St} (h : eqc 9 I J) (r : RC9 I) : RC9 J := by
  unfold RC9; rw [h 57 3 rfl, h 93 72 rfl]
  refine ⟨r.1, r.2.1, r.2.2.1, fun k hk => ?_⟩
  rw [h 58 k rfl, h 59 k rfl, h 60 k rfl, h 141 k rfl, h 142 k rfl, h 143 k rfl, h 144 k rfl]
  exact r.2.2.2 k hk
theorem RC10.cg {I J : St} (h : eqc 10 I J) (r : RC10 I) : RC10 J := by
  unfold RC10; rw [h 55 1 rfl, h 93 79 rfl]
  refine ⟨r.1, r.2.1, r.2.2.1, fun k hk => ?_⟩
  rw [h 56 k rfl, h 146 k rfl]
  exact r.2.2.2 k hk
theorem RX.cg {G : GX} {I J : St} (h : eqc 0 I J) (r : RX G I) : RX G J := ⟨fun k => (h 100300 k rfl).trans (r.1 k), (h 100301 0 rfl).trans r.2⟩
theorem Ag.eqc {cs : List Nat} {I J : St} (h : Ag cs I J) {c : Nat} (hc : cs.contains c = false) : eqc c I J := fun p k e => h p k (by rw [e]; exact hc)
end
section
/-! THE RELATION, its larger parts -/
/-- the last of n entries that speak of s and begin by m -/
def lastI (who fr : Nat → Int32) (s m : Int32) : Nat → Option Nat
  | 0 => none
  | k + 1 => if who k = s ∧ (fr k).toInt ≤ m.toInt then some k else lastI who fr s m k
/-- the reference's: of those the latest, of one minute the one told last -/
def bestI (who mi : Nat → Int32) (s m : Int32) : Nat → Option Nat
  | 0 => none
  | k + 1 => if who k = s ∧ (mi k).toInt ≤ m.toInt then (match bestI who mi s m k with
      | none => some k
      | some j => if (mi j).toInt ≤ (mi k).toInt then some k else some j) else bestI who mi s m k
/-- a table kept by minute (who, fr, va) against one as told (rw, rm, rv), n entries each -/
def TR (n : Nat) (who fr va rw rm rv : Nat → Int32) : Prop :=
  (∀ i j, i < j → j < n → (fr i).toInt ≤ (fr j).toInt) ∧
  (∀ s m : Int32, (lastI who fr s m n).map (fun i => (fr i, va i)) = (bestI rw rm s m n).map (fun k => (rm k, rv k))) ∧
  (∀ i, i < n → ∃ k, k < n ∧ who i = rw k ∧ fr i = rm k ∧ va i = rv k)
def ocode (I : St) (k : Nat) : Int32 := (I 103 k <<< ((6 : Int32) &&& 31)) ||| I 104 k
/-- the order that holds of ship s at minute m, as the reference finds it -/
def ordK (I : St) (s m : Nat) : Option Nat := bestI (I 101) (I 102) (Int32.ofNat s) (Int32.ofNat m) (I 93 10).toInt.toNat
def crs (I : St) (s m : Nat) : Int32 := match ordK I s m with
  | none => 0
  | some k => I 103 k
def spd (I : St) (s m : Nat) : Int32 := match ordK I s m with
  | none => 0
  | some k => I 104 k
def cod (I : St) (s m : Nat) : Int32 := match ordK I s m with
  | none => 0
  | some k => ocode I k
def wX (I : St) (s : Nat) : Nat → Int32
  | 0 => I 99 s
  | m + 1 => wX I s m + I 97 (crs I s m).toInt.toNat * spd I s m / 100 + I 105 m
def wY (I : St) (s : Nat) : Nat → Int32
  | 0 => I 100 s
  | m + 1 => wY I s m + I 98 (crs I s m).toInt.toNat * spd I s m / 100 + I 106 m
/-- the sea's tracks, where they are not stale -/
def SeaC (I : St) : Prop := I 2 9 = 0 → ∀ s, s < (I 93 7).toInt.toNat → (∀ m, m ≤ 240 → I (12 + s) m = wX I s m ∧ I (17 + s) m = wY I s m) ∧ ∀ m, m < 240 → I (22 + s) m = cod I s m
def RC3 (I : St) : Prop := (I 2 2 = I 93 7 ∧ 0 ≤ (I 93 7).toInt ∧ (I 93 7).toInt ≤ 4) ∧ (I 3 3 = I 93 10 ∧ 0 ≤ (I 93 10).toInt ∧ (I 93 10).toInt ≤ 60) ∧ (I 2 9 = 0 ∨ I 2 9 = 1) ∧
  (∀ k, k < 60 → (0 ≤ (I 101 k).toInt ∧ (I 101 k).toInt ≤ 3) ∧ (0 ≤ (I 102 k).toInt ∧ (I 102 k).toInt ≤ 239) ∧ (0 ≤ (I 103 k).toInt ∧ (I 103 k).toInt ≤ 15) ∧ 0 ≤ (I 104 k).toInt ∧ (I 104 k).toInt ≤ 50) ∧
  TR (I 93 10).toInt.toNat (I 4) (I 5) (I 6) (I 101) (I 102) (ocode I) ∧
  (∀ k, k < 240 → (I 26 k = I 105 k ∧ -20 ≤ (I 105 k).toInt ∧ (I 105 k).toInt ≤ 20) ∧ I 27 k = I 106 k ∧ -20 ≤ (I 106 k).toInt ∧ (I 106 k).toInt ≤ 20) ∧
  (∀ k, k < 16 → I 97 k = kA 100100 k ∧ I 98 k = kA 100101 k) ∧
  (∀ s, s < (I 93 7).toInt.toNat → (I (12 + s) 0 = I 99 s ∧ -10000 ≤ (I 99 s).toInt ∧ (I 99 s).toInt ≤ 10000) ∧ I (17 + s) 0 = I 100 s ∧ -10000 ≤ (I 100 s).toInt ∧ (I 100 s).toInt ≤ 10000) ∧ SeaC I
/-- the vessel's levels, where they are not stale: to be said -/
def VesC (I : St) : Prop := True
def RC5 (I : St) : Prop := (I 29 1 = I 93 30 ∧ 0 ≤ (I 93 30).toInt ∧ (I 93 30).toInt ≤ 10) ∧ (I 29 9 = I 93 24 ∧ 0 ≤ (I 93 24).toInt ∧ (I 93 24).toInt ≤ 100) ∧ (I 29 10 = I 93 25 ∧ 1 ≤ (I 93 25).toInt ∧ (I 93 25).toInt ≤ 6000) ∧ (I 30 3 = I 93 26 ∧ 0 ≤ (I 93 26).toInt ∧ (I 93 26).toInt ≤ 30) ∧ (I 29 12 = 0 ∨ I 29 12 = 1) ∧
  (∀ k, k < 10 → (I 35 k = I 116 k ∧ 0 ≤ (I 116 k).toInt ∧ (I 116 k).toInt ≤ 5) ∧ (I 36 k = I 117 k ∧ 0 ≤ (I 117 k).toInt ∧ (I 117 k).toInt ≤ 239) ∧ I 37 k = I 118 k ∧ 0 ≤ (I 118 k).toInt ∧ (I 118 k).toInt ≤ 100) ∧
  (∀ h, h < 6 → I 34 h = I 112 h ∧ 1 ≤ (I 112 h).toInt ∧ (I 112 h).toInt ≤ 1000) ∧
  (∀ k, k < 30 → (0 ≤ (I 113 k).toInt ∧ (I 113 k).toInt ≤ 4) ∧ (0 ≤ (I 114 k).toInt ∧ (I 114 k).toInt ≤ 239) ∧ 0 ≤ (I 115 k).toInt ∧ (I 115 k).toInt ≤ 1) ∧
  TR (I 93 26).toInt.toNat (I 31) (I 32) (I 33) (I 113) (I 114) (I 115) ∧ VesC I
/-- what was judged: to be said -/
def JC (f : Nat) (I : St) : Prop := True
def RC6 (f : Nat) (I : St) : Prop := f ≤ 12 ∧ I 47 1 = Int32.ofNat f ∧ I 93 35 = Int32.ofNat f ∧
  (∀ k, k < f → (I (1000 + k) 0 = I 120 k ∧ 0 ≤ (I 120 k).toInt ∧ (I 120 k).toInt ≤ 3) ∧ (I (1000 + k) 1 = I 126 k ∧ 0 ≤ (I 126 k).toInt ∧ (I 126 k).toInt ≤ 2) ∧ (I (1000 + k) 2 = I 127 k ∧ 0 ≤ (I 127 k).toInt ∧ (I 127 k).toInt ≤ 99) ∧ (I (1000 + k) 3 = I 122 k ∧ 0 ≤ (I 122 k).toInt ∧ (I 122 k).toInt ≤ 239) ∧ (I (1000 + k) 4 = I 121 k ∧ 0 ≤ (I 121 k).toInt ∧ (I 121 k).toInt ≤ 3) ∧
    (I (1000 + k) 5 = I 123 k ∧ -10000 ≤ (I 123 k).toInt ∧ (I 123 k).toInt ≤ 10000) ∧ (I (1000 + k) 6 = I 124 k ∧ -10000 ≤ (I 124 k).toInt ∧ (I 124 k).toInt ≤ 10000) ∧ (I (1000 + k) 7 = I 125 k ∧ 0 ≤ (I 125 k).toInt ∧ (I 125 k).toInt ≤ 2000) ∧ I (1000 + k) 8 = I 128 k ∧ (I 128 k = -1000000 ∨ 0 ≤ (I 128 k).toInt ∧ (I 128 k).toInt ≤ 99)) ∧ JC f I
def bkP (sw : Bool) : Nat := match sw with
  | true => 71
  | false => 65
/-- a book at the place b against the reference's rules -/
def BK (b : Nat) (I : St) : Prop := I b 0 = I 93 54 ∧ 0 ≤ (I 93 54).toInt ∧ (I 93 54).toInt ≤ 10 ∧
  ∀ r, r < (I 93 54).toInt.toNat → (I (b + 1) r = I 136 r ∧ 0 ≤ (I 136 r).toInt ∧ (I 136 r).toInt ≤ 3) ∧ (I (b + 2) r = I 134 r ∧ 0 ≤ (I 134 r).toInt ∧ (I 134 r).toInt ≤ 3) ∧
    ∀ n, n < (I 134 r).toInt.toNat → (I (b + 3) (3 * r + n) = I 135 (9 * r + 3 * n) ∧ 0 ≤ (I 135 (9 * r + 3 * n)).toInt ∧ (I 135 (9 * r + 3 * n)).toInt ≤ 4) ∧
      (I (b + 4) (3 * r + n) = 0 ∧ I 135 (9 * r + 3 * n + 1) = 60 ∨ I (b + 4) (3 * r + n) = 1 ∧ I 135 (9 * r + 3 * n + 1) = 62 ∨ I (b + 4) (3 * r + n) = 2 ∧ I 135 (9 * r + 3 * n + 1) = 61) ∧ I (b + 5) (3 * r + n) = I 135 (9 * r + 3 * n + 2)
def RC7 (sw : Bool) (I : St) : Prop := BK (bkP sw) I
/-- the law's relation -/
def Rel (G : GX) (f : Nat) (sw : Bool) (I : St) : Prop := RX G I ∧ RC1 I ∧ RC2 I ∧ RC3 I ∧ RC4 I ∧ RC5 I ∧ RC6 f I ∧ RC7 sw I ∧ RC8 I ∧ RC9 I ∧ RC10 I
theorem eqc.row {c : Nat} {I J : St} (h : eqc c I J) (p : Nat) (hp : ∀ k, cmp p k = c) : J p = I p := funext fun k => h p k (hp k)
theorem cmp_sea : ∀ s, s < 4 → ∀ k, cmp (12 + s) k = 3 ∧ cmp (17 + s) k = 3 ∧ cmp (22 + s) k = 3 := fun s hs k => by
  rw [cmp_pl k (by omega) (by omega), cmp_pl k (by omega) (by omega), cmp_pl k (by omega) (by omega)]
  revert s
  decide
theorem ocode_cg {I J : St} (h : eqc 3 I J) : ocode J = ocode I := by
  funext k; unfold ocode; rw [h 103 k rfl, h 104 k rfl]
theorem ordK_cg {I J : St} (h : eqc 3 I J) : ordK J = ordK I := by
  funext s m; unfold ordK; rw [h.row 101 (fun _ => rfl), h.row 102 (fun _ => rfl), h 93 10 rfl]
theorem crs_cg {I J : St} (h : eqc 3 I J) : crs J = crs I := by
  funext s m; unfold crs; rw [ordK_cg h, h.row 103 (fun _ => rfl)]
theorem spd_cg {I J : St} (h : eqc 3 I J) : spd J = spd I := by
  funext s m; unfold spd; rw [ordK_cg h, h.row 104 (fun _ => rfl)]
theorem cod_cg {I J : St} (h : eqc 3 I J) : cod J = cod I := by
  funext s m; unfold cod; rw [ordK_cg h, ocode_cg h]
theorem wX_cg {I J : St} (h : eqc 3 I J) (s : Nat) : ∀ m, wX J s m = wX I s m
  | 0 => h 99 s rfl
  | m + 1 => by
    unfold wX
    rw [wX_cg h s m, crs_cg h, spd_cg h, h.row 97 (fun _ => rfl), h.row 105 (fun _ => rfl)]
theorem wY_cg {I J : St} (h : eqc 3 I J) (s : Nat) : ∀ m, wY J s m = wY I s m
  | 0 => h 100 s rfl
  | m + 1 => by
    unfold wY
    rw [wY_cg h s m, crs_cg h, spd_cg h, h.row 98 (fun _ => rfl), h.row 106 (fun _ => rfl)]
theorem RC3.cg {I J : St} (h : eqc 3 I J) (r : RC3 I) : RC3 J := by
  obtain ⟨r1, r2, r3, r4, r5, r6, r7, r8, r9⟩ := r
  unfold RC3
  rw [h 2 2 rfl, h 93 7 rfl, h 3 3 rfl, h 93 10 rfl, h 2 9 rfl, h.row 4 (fun _ => rfl), h.row 5 (fun _ => rfl), h.row 6 (fun _ => rfl), h.row 101 (fun _ => rfl), h.row 102 (fun _ => rfl), h.row 103 (fun _ => rfl), h.row 104 (fun _ => rfl), h.row 26 (fun _ => rfl), h.row 27 (fun _ => rfl), h.row 105 (fun _ => rfl), h.row 106 (fun _ => rfl), h.row 97 (fun _ => rfl), h.row 98 (fun _ => rfl), h.row 99 (fun _ => rfl), h.row 100 (fun _ => rfl), ocode_cg h]
  refine ⟨r1, r2, r3, r4, r5, r6, r7, fun s hs => ?_, fun hz s hs => ?_⟩
  · rw [h (12 + s) 0 (cmp_sea s (by omega) 0).1, h (17 + s) 0 (cmp_sea s (by omega) 0).2.1]
    exact r8 s hs
  · rw [h 2 9 rfl] at hz
    rw [h 93 7 rfl] at hs
    have q := r9 hz s hs
    refine ⟨fun m hm => ?_, fun m hm => ?_⟩
    · rw [h (12 + s) m (cmp_sea s (by omega) m).1, h (17 + s) m (cmp_sea s (by omega) m).2.1, wX_cg h, wY_cg h]
      exact q.1 m hm
    · rw [h (22 + s) m (cmp_sea s (by omega) m).2.2, cod_cg h]
      exact q.2 m hm
theorem VesC.cg {I J : St} (h : eqc 5 I J) (r : VesC I) : VesC J := trivial
theorem RC5.cg {I J : St} (h : eqc 5 I J) (r : RC5 I) : RC5 J := by
  obtain ⟨r1, r2, r3, r4, r5, r6, r7, r8, r9, r10⟩ := r
  unfold RC5
  rw [h 29 1 rfl, h 93 30 rfl, h 29 9 rfl, h 93 24 rfl, h 29 10 rfl, h 93 25 rfl, h 30 3 rfl, h 93 26 rfl, h 29 12 rfl, h.row 35 (fun _ => rfl), h.row 36 (fun _ => rfl), h.row 37 (fun _ => rfl), h.row 116 (fun _ => rfl), h.row 117 (fun _ => rfl), h.row 118 (fun _ => rfl), h.row 34 (fun _ => rfl), h.row 112 (fun _ => rfl), h.row 113 (fun _ => rfl), h.row 114 (fun _ => rfl), h.row 115 (fun _ => rfl), h.row 31 (fun _ => rfl), h.row 32 (fun _ => rfl), h.row 33 (fun _ => rfl)]
  exact ⟨r1, r2, r3, r4, r5, r6, r7, r8, r9, r10.cg h⟩
theorem cmp_fa {p : Nat} (k : Nat) (h : 147 ≤ p) (h2 : p < 100000) : cmp p k = 6 := by unfold cmp; rw [if_neg (by omega), if_neg (by omega), if_pos h2]
theorem JC.cg {f : Nat} {I J : St} (h : eqc 6 I J) (r : JC f I) : JC f J := trivial
theorem RC6.cg {f : Nat} {I J : St} (h : eqc 6 I J) (r : RC6 f I) : RC6 f J := by
  obtain ⟨r1, r2, r3, r4, r5⟩ := r
  refine ⟨r1, (h 47 1 rfl).trans r2, (h 93 35 rfl).trans r3, fun k hk => ?_, r5.cg h⟩
  have e : J (1000 + k) = I (1000 + k) := h.row _ (fun i => cmp_fa i (by omega) (by omega))
  rw [e, h.row 120 (fun _ => rfl), h.row 121 (fun _ => rfl), h.row 122 (fun _ => rfl), h.row 123 (fun _ => rfl), h.row 124 (fun _ => rfl), h.row 125 (fun _ => rfl), h.row 126 (fun _ => rfl), h.row 127 (fun _ => rfl), h.row 128 (fun _ => rfl)]
  exact r4 k hk
theorem RC7.cg {sw : Bool} {I J : St} (h : eqc 7 I J) (r : RC7 sw I) : RC7 sw J := by
  unfold RC7 BK at r ⊢
  cases sw
  · show J 65 0 = _ ∧ _
    simp only [bkP] at r ⊢
    rw [h 65 0 rfl, h 93 54 rfl, h.row 66 (fun _ => rfl), h.row 67 (fun _ => rfl), h.row 68 (fun _ => rfl), h.row 69 (fun _ => rfl), h.row 70 (fun _ => rfl), h.row 134 (fun _ => rfl), h.row 135 (fun _ => rfl), h.row 136 (fun _ => rfl)]
    exact r
  · show J 71 0 = _ ∧ _
    simp only [bkP] at r ⊢
    rw [h 71 0 rfl, h 93 54 rfl, h.row 72 (fun _ => rfl), h.row 73 (fun _ => rfl), h.row 74 (fun _ => rfl), h.row 75 (fun _ => rfl), h.row 76 (fun _ => rfl), h.row 134 (fun _ => rfl), h.row 135 (fun _ => rfl), h.row 136 (fun _ => rfl)]
    exact r
/-- only the parts in cs were touched: what is to be shown of the relation behind it -/
theorem Rel.upd {G : GX} {f : Nat} {sw : Bool} {I J : St} (cs : List Nat) (hR : Rel G f sw I) (ha : Ag cs I J) (h0 : cs.contains 0 = false)
    (h1 : cs.contains 1 = true → RC1 J) (h2 : cs.contains 2 = true → RC2 J) (h3 : cs.contains 3 = true → RC3 J) (h4 : cs.contains 4 = true → RC4 J) (h5 : cs.contains 5 = true → RC5 J) (h6 : cs.contains 6 = true → RC6 f J) (h7 : cs.contains 7 = true → RC7 sw J) (h8 : cs.contains 8 = true → RC8 J) (h9 : cs.contains 9 = true → RC9 J) (h10 : cs.contains 10 = true → RC10 J) : Rel G f sw J := by
  obtain ⟨r0, r1, r2, r3, r4, r5, r6, r7, r8, r9, r10⟩ := hR
  refine ⟨r0.cg (ha.eqc h0), ?_, ?_, ?_, ?_, ?_, ?_, ?_, ?_, ?_, ?_⟩
  · cases q : cs.contains 1 with
    | true => exact h1 q
    | false => exact r1.cg (ha.eqc q)
  · cases q : cs.contains 2 with
    | true => exact h2 q
    | false => exact r2.cg (ha.eqc q)
  · cases q : cs.contains 3 with
    | true => exact h3 q
    | false => exact r3.cg (ha.eqc q)
  · cases q : cs.contains 4 with
    | true => exact h4 q
    | false => exact r4.cg (ha.eqc q)
  · cases q : cs.contains 5 with
    | true => exact h5 q
    | false => exact r5.cg (ha.eqc q)
  · cases q : cs.contains 6 with
    | true => exact h6 q
    | false => exact r6.cg (ha.eqc q)
  · cases q : cs.contains 7 with
    | true => exact h7 q
    | false => exact r7.cg (ha.eqc q)
  · cases q : cs.contains 8 with
    | true => exact h8 q
    | false => exact r8.cg (ha.eqc q)
  · cases q : cs.contains 9 with
    | true => exact h9 q
    | false => exact r9.cg (ha.eqc q)
  · cases q : cs.contains 10 with
    | true => exact h10 q
    | false => exact r10.cg (ha.eqc q)
theorem nof {A : Prop} : false = true → A := fun h => by cases h
theorem Rel.free {G : GX} {f : Nat} {sw : Bool} {I J : St} (hR : Rel G f sw I) (ha : Ag [11] I J) : Rel G f sw J := hR.upd [11] ha rfl nof nof nof nof nof nof nof nof nof nof
theorem Rel.rx {G : GX} {f : Nat} {sw : Bool} {I J : St} (hR : Rel G f sw I) {cs : List Nat} (ha : Ag cs I J) (h0 : cs.contains 0 = false) : RX G J := hR.1.cg (ha.eqc h0)
end
section
/-! THE LAW from its start: the constructors, then the loop -/
theorem law_loop {G : GX} {Rl : Nat → Bool → St → Prop} (hA : AllCO Rl G) (hRx : ∀ f sw I, Rl f sw I → RX G I ∧ f ≤ 2000) (hL : G.2.2.2.2.1 ≤ 4608) : ∀ (n k : Nat) (f : Nat) (sw : Bool) (I : St), G.2.2.2.2.1 ≤ n + 9 * k → 9 * k ≤ 4617 → Rl f sw I → wp G 1000 (mt 264) 10 (LV (Int32.ofNat (9 * k))) [] (147, f, I, RP f sw) lawQ
  | n, k, f, sw, I, hn, hk, hR => by
    obtain ⟨hx, hf⟩ := hRx f sw I hR
    have e1 : (Int32.ofNat G.2.2.2.2.1).toInt = G.2.2.2.2.1 := kI_t (by omega)
    have e2 : (Int32.ofNat (9 * k)).toInt = (9 * k : Nat) := kI_t (by omega)
    have e9 : (9 : Int32).toInt = 9 := by decide
    have e3 : ((Int32.ofNat G.2.2.2.2.1) - 9).toInt = G.2.2.2.2.1 - 9 := by
      rw [fb_subI (by rw [e1, e9]; omega) (by rw [e1, e9]; omega), e1, e9]
    by_cases hi : (Int32.ofNat G.2.2.2.2.1) - 9 < Int32.ofNat (9 * k)
    · refine law_head ?_
      rw [hx.2, if_pos hi]
      exact ⟨rfl, Nat.le_refl _, hf⟩
    · have hi2 : 9 * k + 9 ≤ G.2.2.2.2.1 := by
        rw [Int32.lt_iff_toInt_lt, e3, e2] at hi
        omega
      cases n with
      | zero => omega
      | succ n =>
        have hc : (Int32.ofNat G.2.2.2.2.1).toNatClampNeg = G.2.2.2.2.1 := kI_c (by omega)
        refine law_body hA hR hx ?_ ?_ hi (fun f1 sw1 I2 hR2 => ?_)
        · intro t ht
          have h1 : 0 ≤ t.toInt ∧ t.toInt ≤ 8 := by
            revert t
            decide
          rw [hc]
          have e4 : (Int32.ofNat (9 * k) + t).toInt = (9 * k : Nat) + t.toInt := by
            rw [fb_addI (by rw [e2]; omega) (by rw [e2]; omega), e2]
          exact ixB_i (by rw [e4]; omega) (by rw [e4]; omega)
        · rw [hc]
          exact ixB_i (by rw [e2]; omega) (by rw [e2]; omega)
        · rw [show Int32.ofNat (9 * k) + Int32.ofInt 9 = Int32.ofNat (9 * (k + 1)) by rw [Nat.mul_succ, Int32.ofNat_add]; rfl]
          exact law_loop hA hRx hL n (k + 1) f1 sw1 I2 (by omega) (by omega) hR2
def iniI (G : GX) : St := lkI iniL (I0 G)
set_option maxRecDepth 100000 in
set_option maxHeartbeats 4000000 in
theorem hlaw_of {G : GX} {Rl : Nat → Bool → St → Prop} (hA : AllCO Rl G) (hRx : ∀ f sw I, Rl f sw I → RX G I ∧ f ≤ 2000) (hL : G.2.2.2.2.1 ≤ 4608) (h0 : Rl 0 false (iniI G)) : wp G 1000 (mt 264) 0 (en (mt 264) [.ref 100300]) [] (h00 G) lawQ := by
  have w1 := exb_wp (G := G) 3000 999 (mt 0) 0 (en (mt 0) [.ref 0]) [] (1, [], []) (none, 93, iW1, iR1) (ck_all 0 rfl) (eqZ_eq ini1_ok)
  have w2 := exb_wp (G := G) 3000 999 (mt 181) 0 (en (mt 181) [.ref 93]) [] (94, iW1, iR1) (none, 147, iW2, iR2) (ck_all 181 rfl) (eqZ_eq ini2_ok)
  refine vc_law oks [(264, 10, [0, 1, 2, 3])] [1000, 1181] 60 ?_
  show wp G 999 (mt 0) 0 (en (mt 0) [.ref 0]) [] (1, 0, I0 G, fun _ _ => none) _
  refine w1.mono ?_
  rintro r h' ⟨rfl, rfl⟩
  show wp G 999 (mt 181) 0 (en (mt 181) [.ref 93]) [] (94, 0, lkI iW1 (I0 G), lkR iR1) _
  refine w2.mono ?_
  rintro r h' ⟨rfl, rfl⟩
  show wp G 1000 (mt 264) 10 (LV (Int32.ofNat (9 * 0))) [] (147, 0, lkI iW2 (I0 G), lkR iR2) lawQ
  rw [cI_eq, cR_eq]
  exact law_loop hA hRx hL G.2.2.2.2.1 0 0 false (iniI G) (by omega) (by omega) h0
end
section
/-! PLACES by number -/
theorem RPn {f : Nat} {sw : Bool} {p k : Nat} (h : p ≠ 48) (h0 : p ≠ 0) : RP f sw p k = (RPL.getD p []).getD k none := by unfold RP; rw [if_neg h, if_neg h0]
theorem RP_sh {f : Nat} {sw : Bool} {s : Nat} (h : s < 8) : RP f sw 1 s = some (77 + 2 * s) := by
  rw [RPn (by omega) (by omega)]; revert s; decide
theorem RP_it {f : Nat} {sw : Bool} {s : Nat} (h : s < 8) : RP f sw (77 + 2 * s) 0 = some (78 + 2 * s) := by
  rw [RPn (by omega) (by omega)]; revert s; decide
theorem RP_x {f : Nat} {sw : Bool} {s : Nat} (h : s < 4) : RP f sw 11 s = some (12 + s) := by
  rw [RPn (by omega) (by omega)]; revert s; decide
theorem RP_y {f : Nat} {sw : Bool} {s : Nat} (h : s < 4) : RP f sw 16 s = some (17 + s) := by
  rw [RPn (by omega) (by omega)]; revert s; decide
theorem RP_h {f : Nat} {sw : Bool} {s : Nat} (h : s < 4) : RP f sw 21 s = some (22 + s) := by
  rw [RPn (by omega) (by omega)]; revert s; decide
theorem RP_k {f : Nat} {sw : Bool} {s : Nat} (h : s < 6) : RP f sw 40 s = some (41 + s) := by
  rw [RPn (by omega) (by omega)]; revert s; decide
theorem RP_fa {f : Nat} {sw : Bool} {s : Nat} (h : s < f) : RP f sw 48 s = some (1000 + s) := by
  unfold RP; rw [if_pos rfl, if_pos h]
theorem SH_sh {s : Nat} (h : s < 8) : SH (77 + 2 * s) = (6, 4) := by revert s; decide
theorem SH_it {s : Nat} (h : s < 8) : SH (78 + 2 * s) = (20, 120) := by revert s; decide
theorem SH_x {s : Nat} (h : s < 4) : SH (12 + s) = (20, 241) := by revert s; decide
theorem SH_y {s : Nat} (h : s < 4) : SH (17 + s) = (20, 241) := by revert s; decide
theorem SH_h {s : Nat} (h : s < 4) : SH (22 + s) = (20, 240) := by revert s; decide
theorem SH_k {s : Nat} (h : s < 6) : SH (41 + s) = (20, 241) := by revert s; decide
theorem okB_lt {f : Nat} {I : St} {R : Nat → Nat → Option Nat} {p ci n : Nat} (h : p < 147) (h2 : SH p = (ci, n)) : okB (147, f, I, R) p ci = true := by
  unfold okB
  rw [if_pos (by omega), h2]
  simp [h]
theorem okB_sh {f : Nat} {I : St} {R : Nat → Nat → Option Nat} {s : Nat} (h : s < 8) : okB (147, f, I, R) (77 + 2 * s) 6 = true := okB_lt (by omega) (SH_sh h)
theorem okB_it {f : Nat} {I : St} {R : Nat → Nat → Option Nat} {s : Nat} (h : s < 8) : okB (147, f, I, R) (78 + 2 * s) 20 = true := okB_lt (by omega) (SH_it h)
theorem okB_x {f : Nat} {I : St} {R : Nat → Nat → Option Nat} {s : Nat} (h : s < 4) : okB (147, f, I, R) (12 + s) 20 = true := okB_lt (by omega) (SH_x h)
theorem okB_y {f : Nat} {I : St} {R : Nat → Nat → Option Nat} {s : Nat} (h : s < 4) : okB (147, f, I, R) (17 + s) 20 = true := okB_lt (by omega) (SH_y h)
theorem okB_h {f : Nat} {I : St} {R : Nat → Nat → Option Nat} {s : Nat} (h : s < 4) : okB (147, f, I, R) (22 + s) 20 = true := okB_lt (by omega) (SH_h h)
theorem okB_k {f : Nat} {I : St} {R : Nat → Nat → Option Nat} {s : Nat} (h : s < 6) : okB (147, f, I, R) (41 + s) 20 = true := okB_lt (by omega) (SH_k h)
theorem okB_fa {f : Nat} {I : St} {R : Nat → Nat → Option Nat} {s : Nat} (h : s < f) : okB (147, f, I, R) (1000 + s) 3 = true := by
  unfold okB
  rw [if_neg (by omega)]
  simp [h]
theorem upI_ap (I : St) (p k : Nat) (x : Int32) (q i : Nat) : upI I p k x q i = if q = p then (if i = k then x else I q i) else I q i := rfl
end
section
/-! CONDITIONS of easy calls (vcgen.py) -/
-- WreckCourt.status()I, entry 0
set_option maxRecDepth 100000 in
set_option maxHeartbeats 4000000 in
theorem v_Cstatus (o : OKs) {G : GX} {d f : Nat} {sw : Bool} {I : Nat → Nat → Int32}  {Q : Option Value → Hp → Prop}
    (hq : Q (some (.int (I 0 11))) (147, f, I, RP f sw)) :
    wp G (d + 10) (mt 180) 0 (en (mt 180) [.ref 0]) [] (147, f, I, RP f sw) Q := vc_wp o [] [] 600 rfl hq

-- WreckCourtModel.status()I, entry 0
set_option maxRecDepth 100000 in
set_option maxHeartbeats 4000000 in
theorem v_Mstatus (o : OKs) {G : GX} {d f : Nat} {sw : Bool} {I : Nat → Nat → Int32}  {Q : Option Value → Hp → Prop}
    (hq : Q (some (.int (I 93 1))) (147, f, upI I 93 0 0, RP f sw)) :
    wp G (d + 10) (mt 263) 0 (en (mt 263) [.ref 93]) [] (147, f, I, RP f sw) Q := vc_wp o [] [] 600 rfl hq

-- WreckCourt.fault()I, entry 0
set_option maxRecDepth 100000 in
set_option maxHeartbeats 4000000 in
theorem v_Cfault (o : OKs) {G : GX} {d f : Nat} {sw : Bool} {I : Nat → Nat → Int32}  {Q : Option Value → Hp → Prop}
    (hq : Q (some (.int (I 61 1))) (147, f, I, RP f sw)) :
    wp G (d + 10) (mt 147) 0 (en (mt 147) [.ref 0]) [] (147, f, I, RP f sw) Q := vc_wp o [] [] 600 rfl hq

-- WreckCourtModel.fault()I, entry 0
set_option maxRecDepth 100000 in
set_option maxHeartbeats 4000000 in
theorem v_Mfault (o : OKs) {G : GX} {d f : Nat} {sw : Bool} {I : Nat → Nat → Int32}  {Q : Option Value → Hp → Prop}
    (hq : Q (some (.int (I 93 64))) (147, f, upI I 93 0 0, RP f sw)) :
    wp G (d + 10) (mt 245) 0 (en (mt 245) [.ref 93]) [] (147, f, I, RP f sw) Q := vc_wp o [] [] 600 rfl hq

-- WreckCourt.trace(I)I, entry 0
set_option maxRecDepth 100000 in
set_option maxHeartbeats 4000000 in
theorem v_Ctrace (o : OKs) {G : GX} {d f : Nat} {sw : Bool} {I : Nat → Nat → Int32} {a0 : Int32} {Q : Option Value → Hp → Prop}
    (hq : if a0 < 0 then Q (some (.int (-1000000))) (147, f, I, RP f sw) else if ((I 55 1) - 1) < a0 then Q (some (.int (-1000000))) (147, f, I, RP f sw) else ck (ixB a0 16) (Q (some (.int (I 56 a0.toNatClampNeg))) (147, f, I, RP f sw))) :
    wp G (d + 10) (mt 176) 0 (en (mt 176) [.ref 0, .int a0]) [] (147, f, I, RP f sw) Q := vc_wp o [] [13] 600 rfl hq

-- WreckCourtModel.trace(I)I, entry 0
set_option maxRecDepth 100000 in
set_option maxHeartbeats 4000000 in
theorem v_Mtrace (o : OKs) {G : GX} {d f : Nat} {sw : Bool} {I : Nat → Nat → Int32} {a0 : Int32} {Q : Option Value → Hp → Prop}
    (hq : if lg_cmp a0.toInt64 0 < 0 then Q (some (.int (-1000000))) (147, f, upI I 93 0 0, RP f sw) else if 0 < lg_cmp a0.toInt64 (((I 93 79) - 1).toInt64) then Q (some (.int (-1000000))) (147, f, upI I 93 0 0, RP f sw) else ck (ixB a0 16) (Q (some (.int (I 146 a0.toNatClampNeg))) (147, f, upI I 93 0 0, RP f sw))) :
    wp G (d + 10) (mt 261) 0 (en (mt 261) [.ref 93, .int a0]) [] (147, f, I, RP f sw) Q := vc_wp o [] [184] 600 rfl hq

-- WreckCourt.drop(I)I, entry 0
set_option maxRecDepth 100000 in
set_option maxHeartbeats 4000000 in
theorem v_Cdrop (o : OKs) {G : GX} {d f : Nat} {sw : Bool} {I : Nat → Nat → Int32} {a0 : Int32} {Q : Option Value → Hp → Prop}
    (hq : if a0 < 0 then Q (some (.int (-1000001))) (147, f, I, RP f sw) else if 7 < a0 then Q (some (.int (-1000001))) (147, f, I, RP f sw) else ck (ixB a0 8) (oV ((RP f sw) 1 a0.toNatClampNeg) (fun q1 => ck (okB (147, f, I, RP f sw) q1 6) (if (I q1 1) = 0 then Q (some (.int ((-1000010) - 1))) (147, f, upI I 0 11 1, RP f sw) else ck (okB (147, f, I, RP f sw) q1 6 && kz 6 1 0) (ck (okB (147, f, upI I q1 1 0, RP f sw) q1 6) (Q (some (.int ((upI I q1 1 0) q1 3))) (147, f, upI (upI I q1 1 0) 0 11 0, RP f sw))))))) :
    wp G (d + 10) (mt 21) 0 (en (mt 21) [.ref 0, .int a0]) [] (147, f, I, RP f sw) Q := vc_wp o [] [12, 13, 14, 16] 600 rfl hq

-- WreckCourtModel.drop(I)I, entry 0
set_option maxRecDepth 100000 in
set_option maxHeartbeats 4000000 in
theorem v_Mdrop (o : OKs) {G : GX} {d f : Nat} {sw : Bool} {I : Nat → Nat → Int32} {a0 : Int32} {Q : Option Value → Hp → Prop}
    (hq : if lg_cmp a0.toInt64 0 < 0 then Q (some (.int (-1000001))) (147, f, upI I 93 0 0, RP f sw) else if 0 < lg_cmp a0.toInt64 7 then Q (some (.int (-1000001))) (147, f, upI I 93 0 0, RP f sw) else ck (ixB a0 8) (if 0 ≤ (I 94 a0.toNatClampNeg) then ck (ixB a0 8) (ck (ixB a0 8) (Q (some (.int (I 95 a0.toNatClampNeg))) (147, f, upI (upI (upI I 93 0 0) 93 1 0) 94 a0.toNatClampNeg (-1), RP f sw))) else Q (some (.int ((-1000010) - 1))) (147, f, upI (upI (upI I 93 0 0) 93 1 0) 93 1 1, RP f sw))) :
    wp G (d + 10) (mt 188) 0 (en (mt 188) [.ref 93, .int a0]) [] (147, f, I, RP f sw) Q := vc_wp o [] [183, 184, 185] 600 rfl hq

-- WreckCourt.set(III)I, entry 0
set_option maxRecDepth 100000 in
set_option maxHeartbeats 4000000 in
theorem v_Cset (o : OKs) {G : GX} {d f : Nat} {sw : Bool} {I : Nat → Nat → Int32} {a0 : Int32} {a1 : Int32} {a2 : Int32} {Q : Option Value → Hp → Prop}
    (hq : if a0 < 0 then Q (some (.int (-1000001))) (147, f, I, RP f sw) else if 7 < a0 then Q (some (.int (-1000001))) (147, f, I, RP f sw) else ck (ixB a0 8) (oV ((RP f sw) 1 a0.toNatClampNeg) (fun q1 => ck (okB (147, f, I, RP f sw) q1 6) (if (I q1 1) = 0 then Q (some (.int ((-1000010) - 1))) (147, f, upI I 0 11 1, RP f sw) else ck (okB (147, f, I, RP f sw) q1 6) (if a1 < 0 then Q (some (.int ((-1000010) - 2))) (147, f, upI I 0 11 2, RP f sw) else ck (okB (147, f, I, RP f sw) q1 6) (if ((I q1 3) - a1) < 1 then Q (some (.int ((-1000010) - 2))) (147, f, upI I 0 11 2, RP f sw) else ck (okB (147, f, I, RP f sw) q1 6) (ck (okB (147, f, I, RP f sw) q1 6) (if (I q1 2) = 0 then ck (okB (147, f, I, RP f sw) q1 6) (oV ((RP f sw) q1 0) (fun q4 => ck (okB (147, f, I, RP f sw) q4 20) (ck (ixB a1 (SH q4).2) (Q (some (.int a2.toInt8.toInt32)) (147, f, upI (upI I q4 a1.toNatClampNeg a2.toInt8.toInt32) 0 11 0, RP f sw))))) else ck (okB (147, f, I, RP f sw) q1 6) (if (I q1 2) = 1 then ck (okB (147, f, I, RP f sw) q1 6) (oV ((RP f sw) q1 0) (fun q3 => ck (okB (147, f, I, RP f sw) q3 20) (ck (ixB a1 (SH q3).2) (Q (some (.int a2.toInt16.toInt32)) (147, f, upI (upI I q3 a1.toNatClampNeg a2.toInt16.toInt32) 0 11 0, RP f sw))))) else ck (okB (147, f, I, RP f sw) q1 6) (oV ((RP f sw) q1 0) (fun q2 => ck (okB (147, f, I, RP f sw) q2 20) (ck (ixB a1 (SH q2).2) (Q (some (.int a2)) (147, f, upI (upI I q2 a1.toNatClampNeg a2) 0 11 0, RP f sw)))))))))))))) :
    wp G (d + 10) (mt 17) 0 (en (mt 17) [.ref 0, .int a0, .int a1, .int a2]) [] (147, f, I, RP f sw) Q := vc_wp o [] [12, 13, 14, 16, 18, 19] 600 rfl hq

-- WreckCourtModel.set(III)I, entry 0
set_option maxRecDepth 100000 in
set_option maxHeartbeats 4000000 in
theorem v_Mset (o : OKs) {G : GX} {d f : Nat} {sw : Bool} {I : Nat → Nat → Int32} {a0 : Int32} {a1 : Int32} {a2 : Int32} {Q : Option Value → Hp → Prop}
    (hq : if lg_cmp a0.toInt64 0 < 0 then Q (some (.int (-1000001))) (147, f, upI I 93 0 0, RP f sw) else if 0 < lg_cmp a0.toInt64 7 then Q (some (.int (-1000001))) (147, f, upI I 93 0 0, RP f sw) else ck (ixB a0 8) (if 0 ≤ (I 94 a0.toNatClampNeg) then ck (ixB a0 8) (if lg_cmp a1.toInt64 0 < 0 then Q (some (.int ((-1000010) - 2))) (147, f, upI (upI (upI I 93 0 0) 93 1 0) 93 1 2, RP f sw) else if 0 < lg_cmp a1.toInt64 (((I 95 a0.toNatClampNeg) - 1).toInt64) then Q (some (.int ((-1000010) - 2))) (147, f, upI (upI (upI I 93 0 0) 93 1 0) 93 1 2, RP f sw) else ck (ixB a0 8) (if (I 94 a0.toNatClampNeg) = 0 then ck (ixB ((120 * a0) + a1) 960) (ck (ixB ((120 * a0) + a1) 960) (Q (some (.int ((upI (upI (upI I 93 0 0) 93 1 0) 96 (((120 * a0) + a1).toNatClampNeg) a2.toInt8.toInt32) 96 (((120 * a0) + a1).toNatClampNeg)))) (147, f, upI (upI (upI I 93 0 0) 93 1 0) 96 (((120 * a0) + a1).toNatClampNeg) a2.toInt8.toInt32, RP f sw))) else ck (ixB a0 8) (if (I 94 a0.toNatClampNeg) = 1 then ck (ixB ((120 * a0) + a1) 960) (ck (ixB ((120 * a0) + a1) 960) (Q (some (.int ((upI (upI (upI I 93 0 0) 93 1 0) 96 (((120 * a0) + a1).toNatClampNeg) a2.toInt16.toInt32) 96 (((120 * a0) + a1).toNatClampNeg)))) (147, f, upI (upI (upI I 93 0 0) 93 1 0) 96 (((120 * a0) + a1).toNatClampNeg) a2.toInt16.toInt32, RP f sw))) else ck (ixB ((120 * a0) + a1) 960) (ck (ixB ((120 * a0) + a1) 960) (Q (some (.int ((upI (upI (upI I 93 0 0) 93 1 0) 96 (((120 * a0) + a1).toNatClampNeg) a2) 96 (((120 * a0) + a1).toNatClampNeg)))) (147, f, upI (upI (upI I 93 0 0) 93 1 0) 96 (((120 * a0) + a1).toNatClampNeg) a2, RP f sw)))))) else Q (some (.int ((-1000010) - 1))) (147, f, upI (upI (upI I 93 0 0) 93 1 0) 93 1 1, RP f sw))) :
    wp G (d + 10) (mt 186) 0 (en (mt 186) [.ref 93, .int a0, .int a1, .int a2]) [] (147, f, I, RP f sw) Q := vc_wp o [] [183, 184, 185] 600 rfl hq

-- WreckCourt.dark(III)I, entry 0
set_option maxRecDepth 100000 in
set_option maxHeartbeats 4000000 in
theorem v_Cdark (o : OKs) {G : GX} {d f : Nat} {sw : Bool} {I : Nat → Nat → Int32} {a0 : Int32} {a1 : Int32} {a2 : Int32} {Q : Option Value → Hp → Prop}
    (hq : if a0 < 0 then Q (some (.int (-1000001))) (147, f, I, RP f sw) else if 1 < a0 then Q (some (.int (-1000001))) (147, f, I, RP f sw) else if a1 < 0 then Q (some (.int (-1000001))) (147, f, I, RP f sw) else if 239 < a1 then Q (some (.int (-1000001))) (147, f, I, RP f sw) else if 240 < a2 then Q (some (.int (-1000001))) (147, f, I, RP f sw) else if a2 ≤ a1 then Q (some (.int (-1000001))) (147, f, I, RP f sw) else if (I 7 3) = (Int32.ofNat 10) then Q (some (.int (-1000003))) (147, f, I, RP f sw) else ck (ixB (I 7 3) 10) (ck (ixB (I 7 3) 10) (ck (ixB (I 7 3) 10) (Q (some (.int ((I 7 3) + 1))) (147, f, upI (upI (upI (upI I 8 ((I 7 3).toNatClampNeg) a0) 9 ((I 7 3).toNatClampNeg) a1) 10 ((I 7 3).toNatClampNeg) a2) 7 3 ((I 7 3) + 1), RP f sw))))) :
    wp G (d + 10) (mt 34) 0 (en (mt 34) [.ref 0, .int a0, .int a1, .int a2]) [] (147, f, I, RP f sw) Q := vc_wp o [] [13, 27, 35, 36, 37] 600 rfl hq

-- WreckCourtModel.dark(III)I, entry 0
set_option maxRecDepth 100000 in
set_option maxHeartbeats 4000000 in
theorem v_Mdark (o : OKs) {G : GX} {d f : Nat} {sw : Bool} {I : Nat → Nat → Int32} {a0 : Int32} {a1 : Int32} {a2 : Int32} {Q : Option Value → Hp → Prop}
    (hq : if lg_cmp a0.toInt64 0 < 0 then Q (some (.int (-1000001))) (147, f, upI I 93 0 0, RP f sw) else if 0 < lg_cmp a0.toInt64 1 then Q (some (.int (-1000001))) (147, f, upI I 93 0 0, RP f sw) else if lg_cmp a1.toInt64 0 < 0 then Q (some (.int (-1000001))) (147, f, upI I 93 0 0, RP f sw) else if 0 < lg_cmp a1.toInt64 239 then Q (some (.int (-1000001))) (147, f, upI I 93 0 0, RP f sw) else if lg_cmp a2.toInt64 ((a1 + 1).toInt64) < 0 then Q (some (.int (-1000001))) (147, f, upI I 93 0 0, RP f sw) else if 0 < lg_cmp a2.toInt64 240 then Q (some (.int (-1000001))) (147, f, upI I 93 0 0, RP f sw) else if (I 93 19) = 10 then Q (some (.int (-1000003))) (147, f, upI I 93 0 0, RP f sw) else ck (ixB (I 93 19) 10) (ck (ixB (I 93 19) 10) (ck (ixB (I 93 19) 10) (Q (some (.int ((I 93 19) + 1))) (147, f, upI (upI (upI (upI (upI I 93 0 0) 109 ((I 93 19).toNatClampNeg) a0) 110 ((I 93 19).toNatClampNeg) a1) 111 ((I 93 19).toNatClampNeg) a2) 93 19 ((I 93 19) + 1), RP f sw))))) :
    wp G (d + 10) (mt 195) 0 (en (mt 195) [.ref 93, .int a0, .int a1, .int a2]) [] (147, f, I, RP f sw) Q := vc_wp o [] [184, 193] 600 rfl hq

-- WreckCourt.done(IIII)I, entry 0
set_option maxRecDepth 100000 in
set_option maxHeartbeats 4000000 in
theorem v_Cdone (o : OKs) {G : GX} {d f : Nat} {sw : Bool} {I : Nat → Nat → Int32} {a0 : Int32} {a1 : Int32} {a2 : Int32} {a3 : Int32} {Q : Option Value → Hp → Prop}
    (hq : if a0 < 0 then Q (some (.int (-1000001))) (147, f, I, RP f sw) else if ((I 2 2) - 1) < a0 then Q (some (.int (-1000001))) (147, f, I, RP f sw) else if a1 < 0 then Q (some (.int (-1000001))) (147, f, I, RP f sw) else if 3 < a1 then Q (some (.int (-1000001))) (147, f, I, RP f sw) else if a2 < 0 then Q (some (.int (-1000001))) (147, f, I, RP f sw) else if 239 < a2 then Q (some (.int (-1000001))) (147, f, I, RP f sw) else if 240 < a3 then Q (some (.int (-1000001))) (147, f, I, RP f sw) else if a3 ≤ a2 then Q (some (.int (-1000001))) (147, f, I, RP f sw) else if (I 57 3) = (Int32.ofNat 40) then Q (some (.int (-1000003))) (147, f, I, RP f sw) else ck (ixB (I 57 3) 40) (ck (ixB (I 57 3) 40) (ck (ixB (I 57 3) 40) (Q (some (.int ((I 57 3) + 1))) (147, f, upI (upI (upI (upI I 58 ((I 57 3).toNatClampNeg) ((a0 * 4) + a1)) 59 ((I 57 3).toNatClampNeg) a2) 60 ((I 57 3).toNatClampNeg) a3) 57 3 ((I 57 3) + 1), RP f sw))))) :
    wp G (d + 10) (mt 148) 0 (en (mt 148) [.ref 0, .int a0, .int a1, .int a2, .int a3]) [] (147, f, I, RP f sw) Q := vc_wp o [] [13, 26, 27, 35, 36, 37, 149, 150] 600 rfl hq

-- WreckCourtModel.done(IIII)I, entry 0
set_option maxRecDepth 100000 in
set_option maxHeartbeats 4000000 in
theorem v_Mdone (o : OKs) {G : GX} {d f : Nat} {sw : Bool} {I : Nat → Nat → Int32} {a0 : Int32} {a1 : Int32} {a2 : Int32} {a3 : Int32} {Q : Option Value → Hp → Prop}
    (hq : if lg_cmp a0.toInt64 0 < 0 then Q (some (.int (-1000001))) (147, f, upI I 93 0 0, RP f sw) else if 0 < lg_cmp a0.toInt64 (((I 93 7) - 1).toInt64) then Q (some (.int (-1000001))) (147, f, upI I 93 0 0, RP f sw) else if lg_cmp a1.toInt64 0 < 0 then Q (some (.int (-1000001))) (147, f, upI I 93 0 0, RP f sw) else if 0 < lg_cmp a1.toInt64 3 then Q (some (.int (-1000001))) (147, f, upI I 93 0 0, RP f sw) else if lg_cmp a2.toInt64 0 < 0 then Q (some (.int (-1000001))) (147, f, upI I 93 0 0, RP f sw) else if 0 < lg_cmp a2.toInt64 239 then Q (some (.int (-1000001))) (147, f, upI I 93 0 0, RP f sw) else if lg_cmp a3.toInt64 ((a2 + 1).toInt64) < 0 then Q (some (.int (-1000001))) (147, f, upI I 93 0 0, RP f sw) else if 0 < lg_cmp a3.toInt64 240 then Q (some (.int (-1000001))) (147, f, upI I 93 0 0, RP f sw) else if (I 93 72) = 40 then Q (some (.int (-1000003))) (147, f, upI I 93 0 0, RP f sw) else ck (ixB (I 93 72) 40) (ck (ixB (I 93 72) 40) (ck (ixB (I 93 72) 40) (ck (ixB (I 93 72) 40) (Q (some (.int ((I 93 72) + 1))) (147, f, upI (upI (upI (upI (upI (upI I 93 0 0) 141 ((I 93 72).toNatClampNeg) a0) 142 ((I 93 72).toNatClampNeg) a1) 143 ((I 93 72).toNatClampNeg) a2) 144 ((I 93 72).toNatClampNeg) a3) 93 72 ((I 93 72) + 1), RP f sw)))))) :
    wp G (d + 10) (mt 246) 0 (en (mt 246) [.ref 93, .int a0, .int a1, .int a2, .int a3]) [] (147, f, I, RP f sw) Q := vc_wp o [] [184, 192, 193] 600 rfl hq

-- WreckCourt.hole(III)I, entry 0
set_option maxRecDepth 100000 in
set_option maxHeartbeats 4000000 in
theorem v_Chole (o : OKs) {G : GX} {d f : Nat} {sw : Bool} {I : Nat → Nat → Int32} {a0 : Int32} {a1 : Int32} {a2 : Int32} {Q : Option Value → Hp → Prop}
    (hq : if a0 < 0 then Q (some (.int (-1000001))) (147, f, I, RP f sw) else if 5 < a0 then Q (some (.int (-1000001))) (147, f, I, RP f sw) else if a1 < 0 then Q (some (.int (-1000001))) (147, f, I, RP f sw) else if 239 < a1 then Q (some (.int (-1000001))) (147, f, I, RP f sw) else if a2 < 1 then Q (some (.int (-1000001))) (147, f, I, RP f sw) else if 100 < a2 then Q (some (.int (-1000001))) (147, f, I, RP f sw) else if (I 29 1) = 10 then Q (some (.int (-1000003))) (147, f, I, RP f sw) else ck (ixB (I 29 1) 10) (ck (ixB (I 29 1) 10) (ck (ixB (I 29 1) 10) (Q (some (.int ((I 29 1) + 1))) (147, f, upI (upI (upI (upI (upI I 35 ((I 29 1).toNatClampNeg) a0) 36 ((I 29 1).toNatClampNeg) a1) 37 ((I 29 1).toNatClampNeg) a2) 29 12 1) 29 1 ((I 29 1) + 1), RP f sw))))) :
    wp G (d + 10) (mt 62) 0 (en (mt 62) [.ref 0, .int a0, .int a1, .int a2]) [] (147, f, I, RP f sw) Q := vc_wp o [] [13, 27, 57, 63] 600 rfl hq

-- WreckCourtModel.hole(III)I, entry 0
set_option maxRecDepth 100000 in
set_option maxHeartbeats 4000000 in
theorem v_Mhole (o : OKs) {G : GX} {d f : Nat} {sw : Bool} {I : Nat → Nat → Int32} {a0 : Int32} {a1 : Int32} {a2 : Int32} {Q : Option Value → Hp → Prop}
    (hq : if lg_cmp a0.toInt64 0 < 0 then Q (some (.int (-1000001))) (147, f, upI I 93 0 0, RP f sw) else if 0 < lg_cmp a0.toInt64 5 then Q (some (.int (-1000001))) (147, f, upI I 93 0 0, RP f sw) else if lg_cmp a1.toInt64 0 < 0 then Q (some (.int (-1000001))) (147, f, upI I 93 0 0, RP f sw) else if 0 < lg_cmp a1.toInt64 239 then Q (some (.int (-1000001))) (147, f, upI I 93 0 0, RP f sw) else if lg_cmp a2.toInt64 1 < 0 then Q (some (.int (-1000001))) (147, f, upI I 93 0 0, RP f sw) else if 0 < lg_cmp a2.toInt64 100 then Q (some (.int (-1000001))) (147, f, upI I 93 0 0, RP f sw) else if (I 93 30) = 10 then Q (some (.int (-1000003))) (147, f, upI I 93 0 0, RP f sw) else ck (ixB (I 93 30) 10) (ck (ixB (I 93 30) 10) (ck (ixB (I 93 30) 10) (Q (some (.int ((I 93 30) + 1))) (147, f, upI (upI (upI (upI (upI I 93 0 0) 116 ((I 93 30).toNatClampNeg) a0) 117 ((I 93 30).toNatClampNeg) a1) 118 ((I 93 30).toNatClampNeg) a2) 93 30 ((I 93 30) + 1), RP f sw))))) :
    wp G (d + 10) (mt 208) 0 (en (mt 208) [.ref 93, .int a0, .int a1, .int a2]) [] (147, f, I, RP f sw) Q := vc_wp o [] [184, 193] 600 rfl hq

-- WreckCourt.kind(I)I, entry 0
set_option maxRecDepth 100000 in
set_option maxHeartbeats 4000000 in
theorem v_Ckind (o : OKs) {G : GX} {d f : Nat} {sw : Bool} {I : Nat → Nat → Int32} {a0 : Int32} {Q : Option Value → Hp → Prop}
    (hq : if a0 < 0 then Q (some (.int (-1000001))) (147, f, I, RP f sw) else if ((I 47 1) - 1) < a0 then Q (some (.int (-1000001))) (147, f, I, RP f sw) else ck (ixB a0 12) (oV ((RP f sw) 48 a0.toNatClampNeg) (fun q1 => ck (okB (147, f, I, RP f sw) q1 3) (ck (okB (147, f, I, RP f sw) q1 3) (ck (okB (147, f, I, RP f sw) q1 3) (if (I q1 8) = (-1000000) then ck (okB (147, f, I, RP f sw) q1 3) (Q (some (.int (I q1 0))) (147, f, I, RP f sw)) else Q (some (.int 4)) (147, f, I, RP f sw))))))) :
    wp G (d + 10) (mt 159) 0 (en (mt 159) [.ref 0, .int a0]) [] (147, f, I, RP f sw) Q := vc_wp o [] [13, 87, 89, 160] 600 rfl hq

-- WreckCourtModel.kind(I)I, entry 0
set_option maxRecDepth 100000 in
set_option maxHeartbeats 4000000 in
theorem v_Mkind (o : OKs) {G : GX} {d f : Nat} {sw : Bool} {I : Nat → Nat → Int32} {a0 : Int32} {Q : Option Value → Hp → Prop}
    (hq : if lg_cmp a0.toInt64 0 < 0 then Q (some (.int (-1000001))) (147, f, upI I 93 0 0, RP f sw) else if 0 < lg_cmp a0.toInt64 (((I 93 35) - 1).toInt64) then Q (some (.int (-1000001))) (147, f, upI I 93 0 0, RP f sw) else ck (ixB a0 12) (if (I 128 a0.toNatClampNeg) = (-1000000) then ck (ixB a0 12) (Q (some (.int (I 120 a0.toNatClampNeg))) (147, f, upI I 93 0 0, RP f sw)) else Q (some (.int 4)) (147, f, upI I 93 0 0, RP f sw))) :
    wp G (d + 10) (mt 252) 0 (en (mt 252) [.ref 93, .int a0]) [] (147, f, I, RP f sw) Q := vc_wp o [] [184, 220, 253] 600 rfl hq

-- WreckCourt.as(II)I, entry 0
set_option maxRecDepth 100000 in
set_option maxHeartbeats 4000000 in
theorem v_Cas (o : OKs) {G : GX} {d f : Nat} {sw : Bool} {I : Nat → Nat → Int32} {a0 : Int32} {a1 : Int32} {Q : Option Value → Hp → Prop}
    (hq : if a0 < 0 then Q (some (.int (-1000001))) (147, f, I, RP f sw) else if ((I 47 1) - 1) < a0 then Q (some (.int (-1000001))) (147, f, I, RP f sw) else if a1 < 0 then Q (some (.int (-1000001))) (147, f, I, RP f sw) else if 4 < a1 then Q (some (.int (-1000001))) (147, f, I, RP f sw) else ck (ixB a0 12) (oV ((RP f sw) 48 a0.toNatClampNeg) (fun q1 => ck (okB (147, f, I, RP f sw) q1 3) (ck (okB (147, f, I, RP f sw) q1 3) (ck (okB (147, f, I, RP f sw) q1 3) (ck (okB (147, f, I, RP f sw) q1 3) (if (I q1 8) = (-1000000) then ck (okB (147, f, I, RP f sw) q1 3) (if a1 = 0 then ck (okB (147, f, I, RP f sw) q1 3) (Q (some (.int (I q1 3))) (147, f, upI I 0 11 0, RP f sw)) else if a1 = (I q1 0) then ck (okB (147, f, I, RP f sw) q1 3) (Q (some (.int (I q1 3))) (147, f, upI I 0 11 0, RP f sw)) else if a1 = 1 then if (I q1 0) = 2 then ck (okB (147, f, I, RP f sw) q1 3) (Q (some (.int (I q1 3))) (147, f, upI I 0 11 0, RP f sw)) else if (I q1 0) = 4 then ck (okB (147, f, I, RP f sw) q1 3) (Q (some (.int (I q1 3))) (147, f, upI I 0 11 0, RP f sw)) else Q (some (.int ((-1000010) - 3))) (147, f, upI I 0 11 3, RP f sw) else Q (some (.int ((-1000010) - 3))) (147, f, upI I 0 11 3, RP f sw)) else if a1 = 0 then ck (okB (147, f, I, RP f sw) q1 3) (Q (some (.int (I q1 3))) (147, f, upI I 0 11 0, RP f sw)) else if a1 = 4 then ck (okB (147, f, I, RP f sw) q1 3) (Q (some (.int (I q1 3))) (147, f, upI I 0 11 0, RP f sw)) else if a1 = 1 then ck (okB (147, f, I, RP f sw) q1 3) (Q (some (.int (I q1 3))) (147, f, upI I 0 11 0, RP f sw)) else Q (some (.int ((-1000010) - 3))) (147, f, upI I 0 11 3, RP f sw)))))))) :
    wp G (d + 10) (mt 161) 0 (en (mt 161) [.ref 0, .int a0, .int a1]) [] (147, f, I, RP f sw) Q := vc_wp o [] [13, 14, 16, 87, 89, 160, 162] 600 rfl hq

-- WreckCourtModel.as(II)I, entry 0
set_option maxRecDepth 100000 in
set_option maxHeartbeats 4000000 in
theorem v_Mas (o : OKs) {G : GX} {d f : Nat} {sw : Bool} {I : Nat → Nat → Int32} {a0 : Int32} {a1 : Int32} {Q : Option Value → Hp → Prop}
    (hq : if lg_cmp a0.toInt64 0 < 0 then Q (some (.int (-1000001))) (147, f, upI I 93 0 0, RP f sw) else if 0 < lg_cmp a0.toInt64 (((I 93 35) - 1).toInt64) then Q (some (.int (-1000001))) (147, f, upI I 93 0 0, RP f sw) else if lg_cmp a1.toInt64 0 < 0 then Q (some (.int (-1000001))) (147, f, upI I 93 0 0, RP f sw) else if 0 < lg_cmp a1.toInt64 4 then Q (some (.int (-1000001))) (147, f, upI I 93 0 0, RP f sw) else ck (ixB a0 12) (if (I 128 a0.toNatClampNeg) = (-1000000) then ck (ixB a0 12) (if a1 = 0 then ck (ixB a0 12) (Q (some (.int (I 122 a0.toNatClampNeg))) (147, f, upI (upI I 93 0 0) 93 1 0, RP f sw)) else if (I 120 a0.toNatClampNeg) = a1 then ck (ixB a0 12) (Q (some (.int (I 122 a0.toNatClampNeg))) (147, f, upI (upI I 93 0 0) 93 1 0, RP f sw)) else if a1 = 1 then if (I 120 a0.toNatClampNeg) = 2 then ck (ixB a0 12) (Q (some (.int (I 122 a0.toNatClampNeg))) (147, f, upI (upI I 93 0 0) 93 1 0, RP f sw)) else if (I 120 a0.toNatClampNeg) = 4 then ck (ixB a0 12) (Q (some (.int (I 122 a0.toNatClampNeg))) (147, f, upI (upI I 93 0 0) 93 1 0, RP f sw)) else Q (some (.int ((-1000010) - 3))) (147, f, upI (upI (upI I 93 0 0) 93 1 0) 93 1 3, RP f sw) else Q (some (.int ((-1000010) - 3))) (147, f, upI (upI (upI I 93 0 0) 93 1 0) 93 1 3, RP f sw)) else if a1 = 0 then ck (ixB a0 12) (Q (some (.int (I 122 a0.toNatClampNeg))) (147, f, upI (upI I 93 0 0) 93 1 0, RP f sw)) else if 4 = a1 then ck (ixB a0 12) (Q (some (.int (I 122 a0.toNatClampNeg))) (147, f, upI (upI I 93 0 0) 93 1 0, RP f sw)) else if a1 = 1 then ck (ixB a0 12) (Q (some (.int (I 122 a0.toNatClampNeg))) (147, f, upI (upI I 93 0 0) 93 1 0, RP f sw)) else Q (some (.int ((-1000010) - 3))) (147, f, upI (upI (upI I 93 0 0) 93 1 0) 93 1 3, RP f sw))) :
    wp G (d + 10) (mt 254) 0 (en (mt 254) [.ref 93, .int a0, .int a1]) [] (147, f, I, RP f sw) Q := vc_wp o [] [184, 185, 220, 253, 255] 600 rfl hq

-- WreckCourt.withdraw(II)I, entry 0
set_option maxRecDepth 100000 in
set_option maxHeartbeats 4000000 in
theorem v_Cwithdraw (o : OKs) {G : GX} {d f : Nat} {sw : Bool} {I : Nat → Nat → Int32} {a0 : Int32} {a1 : Int32} {Q : Option Value → Hp → Prop}
    (hq : if a0 < 0 then Q (some (.int (-1000001))) (147, f, I, RP f sw) else if ((I 47 1) - 1) < a0 then Q (some (.int (-1000001))) (147, f, I, RP f sw) else if a1 < 0 then Q (some (.int (-1000001))) (147, f, I, RP f sw) else if 99 < a1 then Q (some (.int (-1000001))) (147, f, I, RP f sw) else ck (ixB a0 12) (oV ((RP f sw) 48 a0.toNatClampNeg) (fun q1 => ck (okB (147, f, I, RP f sw) q1 3) (if (I q1 2) ≤ a1 then ck (ixB a0 12) (oV ((RP f sw) 48 a0.toNatClampNeg) (fun q2 => ck (okB (147, f, I, RP f sw) q2 3) (ck (okB (147, f, I, RP f sw) q2 3) (if (I q2 0) = 1 then ck (okB (147, f, I, RP f sw) q2 3) (ck (okB (147, f, I, RP f sw) q2 3) (if (I q2 8) = (-1000000) then ck (okB (147, f, I, RP f sw) q2 3 && kz 3 8 a1) (Q (some (.int 1)) (147, f, upI I q2 8 a1, RP f sw)) else Q (some (.int (-1000002))) (147, f, I, RP f sw))) else ck (okB (147, f, I, RP f sw) q2 3) (if (I q2 0) = 2 then ck (okB (147, f, I, RP f sw) q2 3) (ck (okB (147, f, I, RP f sw) q2 3) (if (I q2 8) = (-1000000) then ck (okB (147, f, I, RP f sw) q2 3 && kz 3 8 a1) (Q (some (.int 1)) (147, f, upI I q2 8 a1, RP f sw)) else Q (some (.int (-1000002))) (147, f, I, RP f sw))) else Q (some (.int (-1000002))) (147, f, I, RP f sw)))))) else Q (some (.int (-1000001))) (147, f, I, RP f sw))))) :
    wp G (d + 10) (mt 86) 0 (en (mt 86) [.ref 0, .int a0, .int a1]) [] (147, f, I, RP f sw) Q := vc_wp o [] [13, 80, 87, 88, 89] 600 rfl hq

-- WreckCourtModel.withdraw(II)I, entry 0
set_option maxRecDepth 100000 in
set_option maxHeartbeats 4000000 in
theorem v_Mwithdraw (o : OKs) {G : GX} {d f : Nat} {sw : Bool} {I : Nat → Nat → Int32} {a0 : Int32} {a1 : Int32} {Q : Option Value → Hp → Prop}
    (hq : if lg_cmp a0.toInt64 0 < 0 then Q (some (.int (-1000001))) (147, f, upI I 93 0 0, RP f sw) else if 0 < lg_cmp a0.toInt64 (((I 93 35) - 1).toInt64) then Q (some (.int (-1000001))) (147, f, upI I 93 0 0, RP f sw) else if lg_cmp a1.toInt64 0 < 0 then Q (some (.int (-1000001))) (147, f, upI I 93 0 0, RP f sw) else if 0 < lg_cmp a1.toInt64 99 then Q (some (.int (-1000001))) (147, f, upI I 93 0 0, RP f sw) else ck (ixB a0 12) (if (I 127 a0.toNatClampNeg) ≤ a1 then ck (ixB a0 12) (if (I 120 a0.toNatClampNeg) = 1 then ck (ixB a0 12) (if (I 128 a0.toNatClampNeg) = (-1000000) then ck (ixB a0 12) (Q (some (.int 1)) (147, f, upI (upI I 93 0 0) 128 a0.toNatClampNeg a1, RP f sw)) else Q (some (.int (-1000002))) (147, f, upI I 93 0 0, RP f sw)) else ck (ixB a0 12) (if (I 120 a0.toNatClampNeg) = 2 then ck (ixB a0 12) (if (I 128 a0.toNatClampNeg) = (-1000000) then ck (ixB a0 12) (Q (some (.int 1)) (147, f, upI (upI I 93 0 0) 128 a0.toNatClampNeg a1, RP f sw)) else Q (some (.int (-1000002))) (147, f, upI I 93 0 0, RP f sw)) else Q (some (.int (-1000002))) (147, f, upI I 93 0 0, RP f sw))) else Q (some (.int (-1000001))) (147, f, upI I 93 0 0, RP f sw))) :
    wp G (d + 10) (mt 219) 0 (en (mt 219) [.ref 93, .int a0, .int a1]) [] (147, f, I, RP f sw) Q := vc_wp o [] [184, 218, 220, 221] 600 rfl hq
end
section
/-! CALLS: without loops -/
theorem co_status {G : GX} : CO (Rel G) G 180 263 [] := fun f sw I hR => by
  refine v_Cstatus oks ?_
  refine ⟨_, f, sw, I, rfl, rfl, hR.1, ?_⟩
  refine v_Mstatus oks ?_
  refine ⟨_, ?_, rfl, hR.free (Ag.rf.up rfl)⟩
  rw [hR.2.2.1]
theorem co_fault {G : GX} : CO (Rel G) G 147 245 [] := fun f sw I hR => by
  refine v_Cfault oks ?_
  refine ⟨_, f, sw, I, rfl, rfl, hR.1, ?_⟩
  refine v_Mfault oks ?_
  refine ⟨_, ?_, rfl, hR.free (Ag.rf.up rfl)⟩
  rw [hR.2.2.2.2.2.2.2.2.1.2.1]

theorem co_trace {G : GX} (a0 : Int32) : CO (Rel G) G 176 261 [.int a0] := fun f sw I hR => by
  obtain ⟨t1, t2, t3, t4⟩ := hR.2.2.2.2.2.2.2.2.2.2
  have e1 : (I 93 79 - 1).toInt = (I 93 79).toInt - 1 := fb_subI (by simp only [Int32.reduceToInt]; omega) (by simp only [Int32.reduceToInt]; omega)
  refine v_Ctrace oks ?_
  rw [t1]
  simp only [tI_lt, tI_le, Int32.reduceToInt, Int32.reduceOfNat, e1]
  repeat' (refine ite_i (fun _ => ?_) (fun _ => ?_))
  all_goals first
    | (exfalso; omega)
    | (refine ⟨_, f, sw, I, (by first | rfl | trivial), rfl, hR.1, v_Mtrace oks ?_⟩
       try simp only [lcl, lcg, w64]
       simp only [tI_lt, tI_le, Int32.reduceToInt, Int64.reduceToInt, Int32.reduceOfNat, e1]
       repeat' (refine ite_i (fun _ => ?_) (fun _ => ?_))
       all_goals first
         | (exfalso; omega)
         | exact ⟨_, (by first | rfl | trivial), rfl, hR.free (Ag.rf.up rfl)⟩)
    | skip
  refine ck_of (ixB_i (by omega) (by omega)) ?_
  refine ⟨_, f, sw, I, rfl, rfl, hR.1, ?_⟩
  refine v_Mtrace oks ?_
  try simp only [lcl, lcg, w64]
  simp only [tI_lt, tI_le, Int32.reduceToInt, Int64.reduceToInt, Int32.reduceOfNat, e1]
  repeat' (refine ite_i (fun _ => ?_) (fun _ => ?_))
  all_goals first | (exfalso; omega) | skip
  refine ck_of (ixB_i (by omega) (by omega)) ?_
  refine ⟨_, ?_, rfl, hR.free (Ag.rf.up rfl)⟩
  rw [t4 _ (by rw [tnc]; omega)]

theorem co_dark {G : GX} (a0 a1 a2 : Int32) : CO (Rel G) G 34 195 [.int a0, .int a1, .int a2] := fun f sw I hR => by
  obtain ⟨t1, t2, t3, t4⟩ := hR.2.2.2.2.1
  have e1 : (I 93 19 + 1).toInt = (I 93 19).toInt + 1 := fb_addI (by simp only [Int32.reduceToInt]; omega) (by simp only [Int32.reduceToInt]; omega)
  have e2 : 0 ≤ a1.toInt → a1.toInt ≤ 239 → (a1 + 1).toInt = a1.toInt + 1 := fun _ _ => fb_addI (by simp only [Int32.reduceToInt]; omega) (by simp only [Int32.reduceToInt]; omega)
  refine v_Cdark oks ?_
  rw [t1]
  simp only [tI_lt, tI_le, Int32.reduceToInt, Int32.reduceOfNat, tI_eq (I 93 19)]
  repeat' (refine ite_i (fun _ => ?_) (fun _ => ?_))
  all_goals first
    | (exfalso; omega)
    | (refine ⟨_, f, sw, I, (by first | rfl | trivial), rfl, hR.1, v_Mdark oks ?_⟩
       try simp only [lcl, lcg, w64]
       simp only [tI_lt, tI_le, Int32.reduceToInt, Int64.reduceToInt, Int32.reduceOfNat, tI_eq (I 93 19)]
       repeat' (refine ite_i (fun _ => ?_) (fun _ => ?_))
       all_goals first
         | (exfalso; omega)
         | exact ⟨_, (by first | rfl | trivial), rfl, hR.free (Ag.rf.up rfl)⟩)
    | skip
  refine ck_of (ixB_i (by omega) (by omega)) ?_
  refine ck_of (ixB_i (by omega) (by omega)) ?_
  refine ck_of (ixB_i (by omega) (by omega)) ?_
  refine ⟨_, f, sw, _, rfl, rfl, hR.rx (cs := [4, 11]) (by repeat (first | exact Ag.rf | refine Ag.up ?_ rfl)) rfl, v_Mdark oks ?_⟩
  simp only [upI_ap, Nat.reduceEqDiff, reduceIte, lcl, lcg, w64]
  simp only [tI_lt, tI_le, Int32.reduceToInt, Int64.reduceToInt, Int32.reduceOfNat, tI_eq (I 93 19)]
  repeat' (refine ite_i (fun _ => ?_) (fun _ => ?_))
  all_goals first | (exfalso; omega) | skip
  refine ck_of (ixB_i (by omega) (by omega)) ?_
  refine ck_of (ixB_i (by omega) (by omega)) ?_
  refine ck_of (ixB_i (by omega) (by omega)) ?_
  refine ⟨_, (by first | rfl | trivial), rfl, hR.upd [4, 11] (by repeat (first | exact Ag.rf | refine Ag.up ?_ rfl)) rfl nof nof nof (fun _ => ?_) nof nof nof nof nof nof⟩
  refine ⟨?_, ?_, ?_, fun k hk => ?_⟩
  · simp only [upI_ap, Nat.reduceEqDiff, reduceIte]
  · simp only [upI_ap, Nat.reduceEqDiff, reduceIte]; omega
  · simp only [upI_ap, Nat.reduceEqDiff, reduceIte]; omega
  · have := t4 k hk
    simp only [upI_ap, Nat.reduceEqDiff, reduceIte]
    grind

theorem co_done {G : GX} (a0 a1 a2 a3 : Int32) : CO (Rel G) G 148 246 [.int a0, .int a1, .int a2, .int a3] := fun f sw I hR => by
  obtain ⟨t1, t2, t3, t4⟩ := hR.2.2.2.2.2.2.2.2.2.1
  obtain ⟨⟨s1, s2, s3⟩, -⟩ := hR.2.2.2.1
  have e1 : (I 93 72 + 1).toInt = (I 93 72).toInt + 1 := fb_addI (by simp only [Int32.reduceToInt]; omega) (by simp only [Int32.reduceToInt]; omega)
  have e3 : (I 93 7 - 1).toInt = (I 93 7).toInt - 1 := fb_subI (by simp only [Int32.reduceToInt]; omega) (by simp only [Int32.reduceToInt]; omega)
  have e2 : 0 ≤ a2.toInt → a2.toInt ≤ 239 → (a2 + 1).toInt = a2.toInt + 1 := fun _ _ => fb_addI (by simp only [Int32.reduceToInt]; omega) (by simp only [Int32.reduceToInt]; omega)
  refine v_Cdone oks ?_
  rw [t1, s1]
  simp only [tI_lt, tI_le, Int32.reduceToInt, Int32.reduceOfNat, tI_eq (I 93 72), e3]
  repeat' (refine ite_i (fun _ => ?_) (fun _ => ?_))
  all_goals first
    | (exfalso; omega)
    | (refine ⟨_, f, sw, I, (by first | rfl | trivial), rfl, hR.1, v_Mdone oks ?_⟩
       try simp only [lcl, lcg, w64]
       simp only [tI_lt, tI_le, Int32.reduceToInt, Int64.reduceToInt, Int32.reduceOfNat, tI_eq (I 93 72), e3]
       repeat' (refine ite_i (fun _ => ?_) (fun _ => ?_))
       all_goals first
         | (exfalso; omega)
         | exact ⟨_, (by first | rfl | trivial), rfl, hR.free (Ag.rf.up rfl)⟩)
    | skip
  refine ck_of (ixB_i (by omega) (by omega)) ?_
  refine ck_of (ixB_i (by omega) (by omega)) ?_
  refine ck_of (ixB_i (by omega) (by omega)) ?_
  refine ⟨_, f, sw, _, rfl, rfl, hR.rx (cs := [9, 11]) (by repeat (first | exact Ag.rf | refine Ag.up ?_ rfl)) rfl, v_Mdone oks ?_⟩
  simp only [upI_ap, Nat.reduceEqDiff, reduceIte, lcl, lcg, w64]
  simp only [tI_lt, tI_le, Int32.reduceToInt, Int64.reduceToInt, Int32.reduceOfNat, tI_eq (I 93 72), e3]
  repeat' (refine ite_i (fun _ => ?_) (fun _ => ?_))
  all_goals first | (exfalso; omega) | skip
  refine ck_of (ixB_i (by omega) (by omega)) ?_
  refine ck_of (ixB_i (by omega) (by omega)) ?_
  refine ck_of (ixB_i (by omega) (by omega)) ?_
  refine ck_of (ixB_i (by omega) (by omega)) ?_
  refine ⟨_, (by first | rfl | trivial), rfl, hR.upd [9, 11] (by repeat (first | exact Ag.rf | refine Ag.up ?_ rfl)) rfl nof nof nof nof nof nof nof nof (fun _ => ?_) nof⟩
  refine ⟨?_, ?_, ?_, fun k hk => ?_⟩
  · simp only [upI_ap, Nat.reduceEqDiff, reduceIte]
  · simp only [upI_ap, Nat.reduceEqDiff, reduceIte]; omega
  · simp only [upI_ap, Nat.reduceEqDiff, reduceIte]; omega
  · have := t4 k hk
    simp only [upI_ap, Nat.reduceEqDiff, reduceIte]
    by_cases hk2 : k = (I 93 72).toNatClampNeg
    · simp only [hk2, reduceIte]
      refine ⟨trivial, ⟨by omega, by omega⟩, ⟨by omega, by omega⟩, trivial, trivial⟩
    · simp only [hk2, reduceIte]
      exact this

theorem co_hole {G : GX} (a0 a1 a2 : Int32) : CO (Rel G) G 62 208 [.int a0, .int a1, .int a2] := fun f sw I hR => by
  obtain ⟨⟨t1, t2, t3⟩, r2, r3, r4, r5, r6, r7, r8, r9, r10⟩ := hR.2.2.2.2.2.1
  have e1 : (I 93 30 + 1).toInt = (I 93 30).toInt + 1 := fb_addI (by simp only [Int32.reduceToInt]; omega) (by simp only [Int32.reduceToInt]; omega)
  refine v_Chole oks ?_
  rw [t1]
  simp only [tI_lt, tI_le, Int32.reduceToInt, Int32.reduceOfNat, tI_eq (I 93 30)]
  repeat' (refine ite_i (fun _ => ?_) (fun _ => ?_))
  all_goals first
    | (exfalso; omega)
    | (refine ⟨_, f, sw, I, (by first | rfl | trivial), rfl, hR.1, v_Mhole oks ?_⟩
       try simp only [lcl, lcg, w64]
       simp only [tI_lt, tI_le, Int32.reduceToInt, Int64.reduceToInt, Int32.reduceOfNat, tI_eq (I 93 30)]
       repeat' (refine ite_i (fun _ => ?_) (fun _ => ?_))
       all_goals first
         | (exfalso; omega)
         | exact ⟨_, (by first | rfl | trivial), rfl, hR.free (Ag.rf.up rfl)⟩)
    | skip
  refine ck_of (ixB_i (by omega) (by omega)) ?_
  refine ck_of (ixB_i (by omega) (by omega)) ?_
  refine ck_of (ixB_i (by omega) (by omega)) ?_
  refine ⟨_, f, sw, _, rfl, rfl, hR.rx (cs := [5, 11]) (by repeat (first | exact Ag.rf | refine Ag.up ?_ rfl)) rfl, v_Mhole oks ?_⟩
  simp only [upI_ap, Nat.reduceEqDiff, reduceIte, lcl, lcg, w64]
  simp only [tI_lt, tI_le, Int32.reduceToInt, Int64.reduceToInt, Int32.reduceOfNat, tI_eq (I 93 30)]
  repeat' (refine ite_i (fun _ => ?_) (fun _ => ?_))
  all_goals first | (exfalso; omega) | skip
  refine ck_of (ixB_i (by omega) (by omega)) ?_
  refine ck_of (ixB_i (by omega) (by omega)) ?_
  refine ck_of (ixB_i (by omega) (by omega)) ?_
  refine ⟨_, (by first | rfl | trivial), rfl, hR.upd [5, 11] (by repeat (first | exact Ag.rf | refine Ag.up ?_ rfl)) rfl nof nof nof nof (fun _ => ?_) nof nof nof nof nof⟩
  refine ⟨⟨?_, ?_, ?_⟩, r2, r3, r4, Or.inr rfl, fun k hk => ?_, r7, r8, r9, ?_⟩
  · simp only [upI_ap, Nat.reduceEqDiff, reduceIte]
  · simp only [upI_ap, Nat.reduceEqDiff, reduceIte]; omega
  · simp only [upI_ap, Nat.reduceEqDiff, reduceIte]; omega
  · have := r6 k hk
    simp only [upI_ap, Nat.reduceEqDiff, reduceIte]
    by_cases hk2 : k = (I 93 30).toNatClampNeg
    · simp only [hk2, reduceIte]
      refine ⟨⟨trivial, by omega, by omega⟩, ⟨trivial, by omega, by omega⟩, trivial, by omega, by omega⟩
    · simp only [hk2, reduceIte]
      exact this
  · trivial
end
section
/-! CALLS: sheets and facts, without loops -/
theorem kz0 : kz 6 1 0 = true := rfl
theorem kz1 : kz 6 1 1 = true := rfl
theorem kzf (x : Int32) : kz 3 8 x = true := rfl
theorem m1t : ((-1 : Int32)).toInt = -1 := by decide
theorem RC1.one {I J : St} {s : Nat} (r : RC1 I) (h : ∀ s', s' < 8 → s' ≠ s → (∀ k, J (77 + 2 * s') k = I (77 + 2 * s') k) ∧ (∀ k, J (78 + 2 * s') k = I (78 + 2 * s') k) ∧ J 94 s' = I 94 s' ∧ J 95 s' = I 95 s' ∧ ∀ i, i < 120 → J 96 (120 * s' + i) = I 96 (120 * s' + i))
    (hs : (J (77 + 2 * s) 1 = 0 ∧ J 94 s = -1 ∨ J (77 + 2 * s) 1 = 1 ∧ J 94 s = J (77 + 2 * s) 2) ∧ 0 ≤ (J (77 + 2 * s) 2).toInt ∧ (J (77 + 2 * s) 2).toInt ≤ 2 ∧ J (77 + 2 * s) 3 = J 95 s ∧ 0 ≤ (J 95 s).toInt ∧ (J 95 s).toInt ≤ 120 ∧ ∀ i, i < 120 → J (78 + 2 * s) i = J 96 (120 * s + i)) : RC1 J := fun s' hs' => by
  by_cases e : s' = s
  · subst e
    exact hs
  · obtain ⟨h1, h2, h3, h4, h5⟩ := h s' hs' e
    have q := r s' hs'
    rw [h1, h1, h1, h3, h4]
    refine ⟨q.1, q.2.1, q.2.2.1, q.2.2.2.1, q.2.2.2.2.1, q.2.2.2.2.2.1, fun i hi => ?_⟩
    rw [h2, h5 i hi]
    exact q.2.2.2.2.2.2 i hi
theorem co_drop {G : GX} (a0 : Int32) : CO (Rel G) G 21 188 [.int a0] := fun f sw I hR => by
  refine v_Cdrop oks ?_
  simp only [tI_lt, tI_le, Int32.reduceToInt, Int32.reduceOfNat]
  repeat' (refine ite_i (fun _ => ?_) (fun _ => ?_))
  all_goals first
    | (exfalso; omega)
    | (refine ⟨_, f, sw, I, (by first | rfl | trivial), rfl, hR.1, v_Mdrop oks ?_⟩
       try simp only [lcl, lcg, w64]
       simp only [tI_lt, tI_le, Int32.reduceToInt, Int64.reduceToInt, Int32.reduceOfNat]
       repeat' (refine ite_i (fun _ => ?_) (fun _ => ?_))
       all_goals first
         | (exfalso; omega)
         | exact ⟨_, (by first | rfl | trivial), rfl, hR.free (Ag.rf.up rfl)⟩)
    | skip
  refine ck_of (ixB_i (by omega) (by omega)) ?_
  have hs : a0.toNatClampNeg < 8 := by rw [tnc]; omega
  obtain ⟨q1, q2, q3, q4, q5, q6, q7⟩ := hR.2.1 _ hs
  have hst : (a0.toNatClampNeg : Int) = a0.toInt := by rw [tnc]; omega
  generalize a0.toNatClampNeg = s at hs q1 q2 q3 q4 q5 q6 q7 hst ⊢
  have hse : a0.toInt.toNat = s := by omega
  simp only [RP_sh hs, oV, okB_sh hs, ck, kz0, Bool.true_and]
  rcases q1 with ⟨q1, q1'⟩ | ⟨q1, q1'⟩
  · have q1t : (I 94 s).toInt = -1 := by rw [q1', m1t]
    rw [if_pos q1]
    refine ⟨_, f, sw, _, rfl, rfl, hR.rx (cs := [2, 11]) (by repeat (first | exact Ag.rf | refine Ag.up ?_ rfl | refine Ag.up ?_ (by rw [(cmp_sh _ hs _).1]; rfl) | refine Ag.up ?_ (by rw [(cmp_sh _ hs _).2]; rfl))) rfl, v_Mdrop oks ?_⟩
    try simp only [upI_ap, Nat.reduceEqDiff, reduceIte, lcl, lcg, w64]
    simp only [tI_lt, tI_le, Int32.reduceToInt, Int64.reduceToInt, Int32.reduceOfNat]
    repeat' (refine ite_i (fun _ => ?_) (fun _ => ?_))
    all_goals first | (exfalso; omega) | skip
    refine ck_of (ixB_i (by omega) (by omega)) ?_
    simp only [tnc, hse]
    repeat' (refine ite_i (fun _ => ?_) (fun _ => ?_))
    all_goals first | (exfalso; omega) | skip
    refine ⟨_, (by first | rfl | trivial), rfl, hR.upd [2, 11] (by repeat (first | exact Ag.rf | refine Ag.up ?_ rfl | refine Ag.up ?_ (by rw [(cmp_sh _ hs _).1]; rfl) | refine Ag.up ?_ (by rw [(cmp_sh _ hs _).2]; rfl))) rfl nof (fun _ => ?_) nof nof nof nof nof nof nof nof⟩
    simp only [RC2, upI_ap, Nat.reduceEqDiff, reduceIte]
  · have q1t : (I 94 s).toInt = (I (77 + 2 * s) 2).toInt := by rw [q1']
    rw [if_neg (by rw [q1]; decide)]
    refine ⟨_, f, sw, _, rfl, rfl, hR.rx (cs := [1, 2, 11]) (by repeat (first | exact Ag.rf | refine Ag.up ?_ rfl | refine Ag.up ?_ (by rw [(cmp_sh _ hs _).1]; rfl) | refine Ag.up ?_ (by rw [(cmp_sh _ hs _).2]; rfl))) rfl, v_Mdrop oks ?_⟩
    have hne : ¬ (93 = 77 + 2 * s) := by omega
    have hne2 : ¬ (94 = 77 + 2 * s) := by omega
    have hne3 : ¬ (95 = 77 + 2 * s) := by omega
    try simp only [hne, hne2, hne3, upI_ap, Nat.reduceEqDiff, reduceIte, lcl, lcg, w64]
    try simp only [upI_ap, Nat.reduceEqDiff, reduceIte, lcl, lcg, w64]
    simp only [tI_lt, tI_le, Int32.reduceToInt, Int64.reduceToInt, Int32.reduceOfNat]
    repeat' (refine ite_i (fun _ => ?_) (fun _ => ?_))
    all_goals first | (exfalso; omega) | skip
    refine ck_of (ixB_i (by omega) (by omega)) ?_
    simp only [tnc, hse]
    repeat' (refine ite_i (fun _ => ?_) (fun _ => ?_))
    all_goals first | (exfalso; omega) | skip
    refine ck_of (ixB_i (by omega) (by omega)) ?_
    refine ck_of (ixB_i (by omega) (by omega)) ?_
    refine ⟨_, ?_, rfl, hR.upd [1, 2, 11] (by repeat (first | exact Ag.rf | refine Ag.up ?_ rfl | refine Ag.up ?_ (by rw [(cmp_sh _ hs _).1]; rfl) | refine Ag.up ?_ (by rw [(cmp_sh _ hs _).2]; rfl))) rfl (fun _ => ?_) (fun _ => ?_) nof nof nof nof nof nof nof nof⟩
    · simp only [upI_ap, Nat.reduceEqDiff, reduceIte, q4]
    · refine hR.2.1.one (s := s) (fun s' h1 h2 => ⟨fun k => ?_, fun k => ?_, ?_, ?_, fun i hi => ?_⟩) ?_
      · repeat rw [upI_nk (by omega)]
      · repeat rw [upI_nk (by omega)]
      · repeat rw [upI_nk (by omega)]
      · repeat rw [upI_nk (by omega)]
      · repeat rw [upI_nk (by omega)]
      · simp only [upI_ap, Nat.reduceEqDiff, reduceIte]
        grind
    · simp only [RC2, upI_ap, Nat.reduceEqDiff, reduceIte, hne]
theorem co_set {G : GX} (a0 a1 a2 : Int32) : CO (Rel G) G 17 186 [.int a0, .int a1, .int a2] := fun f sw I hR => by
  refine v_Cset oks ?_
  simp only [tI_lt, tI_le, Int32.reduceToInt, Int32.reduceOfNat]
  repeat' (refine ite_i (fun _ => ?_) (fun _ => ?_))
  all_goals first
    | (exfalso; omega)
    | (refine ⟨_, f, sw, I, (by first | rfl | trivial), rfl, hR.1, v_Mset oks ?_⟩
       try simp only [lcl, lcg, w64]
       simp only [tI_lt, tI_le, Int32.reduceToInt, Int64.reduceToInt, Int32.reduceOfNat]
       repeat' (refine ite_i (fun _ => ?_) (fun _ => ?_))
       all_goals first
         | (exfalso; omega)
         | exact ⟨_, (by first | rfl | trivial), rfl, hR.free (Ag.rf.up rfl)⟩)
    | skip
  refine ck_of (ixB_i (by omega) (by omega)) ?_
  have hs : a0.toNatClampNeg < 8 := by rw [tnc]; omega
  obtain ⟨q1, q2, q3, q4, q5, q6, q7⟩ := hR.2.1 _ hs
  have hst : (a0.toNatClampNeg : Int) = a0.toInt := by rw [tnc]; omega
  generalize a0.toNatClampNeg = s at hs q1 q2 q3 q4 q5 q6 q7 hst ⊢
  have hse : a0.toInt.toNat = s := by omega
  simp only [RP_sh hs, RP_it hs, oV, okB_sh hs, okB_it hs, SH_it hs, ck]
  rcases q1 with ⟨q1, q1'⟩ | ⟨q1, q1'⟩
  · have q1t : (I 94 s).toInt = -1 := by rw [q1', m1t]
    rw [if_pos q1]
    refine ⟨_, f, sw, _, rfl, rfl, hR.rx (cs := [2, 11]) (by repeat (first | exact Ag.rf | refine Ag.up ?_ rfl | refine Ag.up ?_ (by rw [(cmp_sh _ hs _).1]; rfl) | refine Ag.up ?_ (by rw [(cmp_sh _ hs _).2]; rfl))) rfl, v_Mset oks ?_⟩
    try simp only [upI_ap, Nat.reduceEqDiff, reduceIte, lcl, lcg, w64]
    simp only [tI_lt, tI_le, Int32.reduceToInt, Int64.reduceToInt, Int32.reduceOfNat]
    repeat' (refine ite_i (fun _ => ?_) (fun _ => ?_))
    all_goals first | (exfalso; omega) | skip
    refine ck_of (ixB_i (by omega) (by omega)) ?_
    simp only [tnc, hse]
    repeat' (refine ite_i (fun _ => ?_) (fun _ => ?_))
    all_goals first | (exfalso; omega) | skip
    refine ⟨_, (by first | rfl | trivial), rfl, hR.upd [2, 11] (by repeat (first | exact Ag.rf | refine Ag.up ?_ rfl | refine Ag.up ?_ (by rw [(cmp_sh _ hs _).1]; rfl) | refine Ag.up ?_ (by rw [(cmp_sh _ hs _).2]; rfl))) rfl nof (fun _ => ?_) nof nof nof nof nof nof nof nof⟩
    simp only [RC2, upI_ap, Nat.reduceEqDiff, reduceIte]
  · have q1t : (I 94 s).toInt = (I (77 + 2 * s) 2).toInt := by rw [q1']
    have ea : (I 95 s - 1).toInt = (I 95 s).toInt - 1 := fb_subI (by simp only [Int32.reduceToInt]; omega) (by simp only [Int32.reduceToInt]; omega)
    have hne : ¬ (93 = 78 + 2 * s) := by omega
    have hne2 : ¬ (94 = 78 + 2 * s) := by omega
    have hne3 : ¬ (95 = 78 + 2 * s) := by omega
    rw [if_neg (by rw [q1]; decide), q4]
    by_cases hp : 0 ≤ a1.toInt ∧ a1.toInt < (I 95 s).toInt
    · have eb : (I 95 s - a1).toInt = (I 95 s).toInt - a1.toInt := fb_subI (by omega) (by omega)
      have ec : (120 * a0).toInt = 120 * a0.toInt := fb_mulI (by simp only [Int32.reduceToInt]; omega) (by simp only [Int32.reduceToInt]; omega)
      have ed : (120 * a0 + a1).toInt = 120 * a0.toInt + a1.toInt := by rw [fb_addI (by rw [ec]; omega) (by rw [ec]; omega), ec]
      have ee : (120 * a0 + a1).toInt.toNat = 120 * s + a1.toInt.toNat := by omega
      rw [if_neg (by omega), if_neg (by omega)]
      have fin : ∀ (v : Int32), RC1 (upI (upI (upI (upI (upI I (78 + 2 * s) a1.toNatClampNeg v) 0 11 0) 93 0 0) 93 1 0) 96 (120 * s + a1.toInt.toNat) v) := fun v => by
        refine hR.2.1.one (s := s) (fun s' h1 h2 => ⟨fun k => ?_, fun k => ?_, ?_, ?_, fun i hi => ?_⟩) ?_
        · repeat rw [upI_nk (by omega)]
        · repeat rw [upI_nk (by omega)]
        · repeat rw [upI_nk (by omega)]
        · repeat rw [upI_nk (by omega)]
        · repeat rw [upI_nk (by omega)]
        · refine ⟨?_, ?_, ?_, ?_, ?_, ?_, fun i hi => ?_⟩
          · repeat rw [upI_nk (by omega)]
            exact Or.inr ⟨q1, q1'⟩
          · repeat rw [upI_nk (by omega)]
            exact q2
          · repeat rw [upI_nk (by omega)]
            exact q3
          · repeat rw [upI_nk (by omega)]
            exact q4
          · repeat rw [upI_nk (by omega)]
            exact q5
          · repeat rw [upI_nk (by omega)]
            exact q6
          · have := q7 i hi
            simp only [upI_ap, Nat.reduceEqDiff, reduceIte, tnc]
            grind
      have q1z : I (77 + 2 * s) 2 = I 94 s := q1'.symm
      rw [q1z]
      refine ite_i (fun z => ?_) (fun z => ite_i (fun z2 => ?_) (fun z2 => ?_))
      · refine ck_of (ixB_i (by omega) (by omega)) ?_
        refine ⟨_, f, sw, _, rfl, rfl, hR.rx (cs := [1, 2, 11]) (by repeat (first | exact Ag.rf | refine Ag.up ?_ rfl | refine Ag.up ?_ (by rw [(cmp_sh _ hs _).1]; rfl) | refine Ag.up ?_ (by rw [(cmp_sh _ hs _).2]; rfl))) rfl, v_Mset oks ?_⟩
        simp only [hne, hne2, hne3, upI_ap, Nat.reduceEqDiff, reduceIte, lcl, lcg, w64]
        simp only [tnc, hse, ee, ea, tI_lt, tI_le, Int32.reduceToInt, Int64.reduceToInt, Int32.reduceOfNat]
        repeat' (first | refine ite_i (fun _ => ?_) (fun _ => ?_) | refine ck_of (ixB_i (by omega) (by omega)) ?_)
        all_goals first | (exfalso; omega) | contradiction | skip
        refine ⟨_, ?_, rfl, hR.upd [1, 2, 11] (by repeat (first | exact Ag.rf | refine Ag.up ?_ rfl | refine Ag.up ?_ (by rw [(cmp_sh _ hs _).1]; rfl) | refine Ag.up ?_ (by rw [(cmp_sh _ hs _).2]; rfl))) rfl (fun _ => ?_) (fun _ => ?_) nof nof nof nof nof nof nof nof⟩
        · simp only [upI_ap, Nat.reduceEqDiff, reduceIte]
        · exact fin _
        · simp only [RC2, upI_ap, Nat.reduceEqDiff, reduceIte, hne]
      · refine ck_of (ixB_i (by omega) (by omega)) ?_
        refine ⟨_, f, sw, _, rfl, rfl, hR.rx (cs := [1, 2, 11]) (by repeat (first | exact Ag.rf | refine Ag.up ?_ rfl | refine Ag.up ?_ (by rw [(cmp_sh _ hs _).1]; rfl) | refine Ag.up ?_ (by rw [(cmp_sh _ hs _).2]; rfl))) rfl, v_Mset oks ?_⟩
        simp only [hne, hne2, hne3, upI_ap, Nat.reduceEqDiff, reduceIte, lcl, lcg, w64]
        simp only [tnc, hse, ee, ea, tI_lt, tI_le, Int32.reduceToInt, Int64.reduceToInt, Int32.reduceOfNat]
        repeat' (first | refine ite_i (fun _ => ?_) (fun _ => ?_) | refine ck_of (ixB_i (by omega) (by omega)) ?_)
        all_goals first | (exfalso; omega) | contradiction | skip
        refine ⟨_, ?_, rfl, hR.upd [1, 2, 11] (by repeat (first | exact Ag.rf | refine Ag.up ?_ rfl | refine Ag.up ?_ (by rw [(cmp_sh _ hs _).1]; rfl) | refine Ag.up ?_ (by rw [(cmp_sh _ hs _).2]; rfl))) rfl (fun _ => ?_) (fun _ => ?_) nof nof nof nof nof nof nof nof⟩
        · simp only [upI_ap, Nat.reduceEqDiff, reduceIte]
        · exact fin _
        · simp only [RC2, upI_ap, Nat.reduceEqDiff, reduceIte, hne]
      · refine ck_of (ixB_i (by omega) (by omega)) ?_
        refine ⟨_, f, sw, _, rfl, rfl, hR.rx (cs := [1, 2, 11]) (by repeat (first | exact Ag.rf | refine Ag.up ?_ rfl | refine Ag.up ?_ (by rw [(cmp_sh _ hs _).1]; rfl) | refine Ag.up ?_ (by rw [(cmp_sh _ hs _).2]; rfl))) rfl, v_Mset oks ?_⟩
        simp only [hne, hne2, hne3, upI_ap, Nat.reduceEqDiff, reduceIte, lcl, lcg, w64]
        simp only [tnc, hse, ee, ea, tI_lt, tI_le, Int32.reduceToInt, Int64.reduceToInt, Int32.reduceOfNat]
        repeat' (first | refine ite_i (fun _ => ?_) (fun _ => ?_) | refine ck_of (ixB_i (by omega) (by omega)) ?_)
        all_goals first | (exfalso; omega) | contradiction | skip
        refine ⟨_, ?_, rfl, hR.upd [1, 2, 11] (by repeat (first | exact Ag.rf | refine Ag.up ?_ rfl | refine Ag.up ?_ (by rw [(cmp_sh _ hs _).1]; rfl) | refine Ag.up ?_ (by rw [(cmp_sh _ hs _).2]; rfl))) rfl (fun _ => ?_) (fun _ => ?_) nof nof nof nof nof nof nof nof⟩
        · simp only [upI_ap, Nat.reduceEqDiff, reduceIte]
        · exact fin _
        · simp only [RC2, upI_ap, Nat.reduceEqDiff, reduceIte, hne]
    · have eb : 0 ≤ a1.toInt → (I 95 s - a1).toInt = (I 95 s).toInt - a1.toInt := fun _ => fb_subI (by have := fb_rng a1; omega) (by omega)
      have bad : wp G 999 (mt 186) 0 (en (mt 186) [.ref 93, .int a0, .int a1, .int a2]) [] (147, f, upI I 0 11 2, RP f sw) (fun r2 h2 => ∃ I2, r2 = some (.int (-1000010 - 2)) ∧ h2 = (147, f, I2, RP f sw) ∧ Rel G f sw I2) := by
        refine v_Mset oks ?_
        simp only [upI_ap, Nat.reduceEqDiff, reduceIte, lcl, lcg, w64]
        simp only [tnc, hse, ea, tI_lt, tI_le, Int32.reduceToInt, Int64.reduceToInt, Int32.reduceOfNat]
        repeat' (first | refine ite_i (fun _ => ?_) (fun _ => ?_) | refine ck_of (ixB_i (by omega) (by omega)) ?_)
        all_goals first | (exfalso; omega) | contradiction | skip
        all_goals refine ⟨_, (by first | rfl | trivial), rfl, hR.upd [2, 11] (by repeat (first | exact Ag.rf | refine Ag.up ?_ rfl | refine Ag.up ?_ (by rw [(cmp_sh _ hs _).1]; rfl) | refine Ag.up ?_ (by rw [(cmp_sh _ hs _).2]; rfl))) rfl nof (fun _ => ?_) nof nof nof nof nof nof nof nof⟩
        all_goals simp only [RC2, upI_ap, Nat.reduceEqDiff, reduceIte]
      refine ite_i (fun z => ?_) (fun z => ite_i (fun z2 => ?_) (fun z2 => ?_))
      · exact ⟨_, f, sw, _, rfl, rfl, hR.rx (cs := [2, 11]) (by repeat (first | exact Ag.rf | refine Ag.up ?_ rfl | refine Ag.up ?_ (by rw [(cmp_sh _ hs _).1]; rfl) | refine Ag.up ?_ (by rw [(cmp_sh _ hs _).2]; rfl))) rfl, bad⟩
      · exact ⟨_, f, sw, _, rfl, rfl, hR.rx (cs := [2, 11]) (by repeat (first | exact Ag.rf | refine Ag.up ?_ rfl | refine Ag.up ?_ (by rw [(cmp_sh _ hs _).1]; rfl) | refine Ag.up ?_ (by rw [(cmp_sh _ hs _).2]; rfl))) rfl, bad⟩
      · exfalso; omega
theorem co_kind {G : GX} (a0 : Int32) : CO (Rel G) G 159 252 [.int a0] := fun f sw I hR => by
  obtain ⟨b1, b2, b3, b4, b5⟩ := hR.2.2.2.2.2.2.1
  have bf : (Int32.ofNat f).toInt = f := kI_t (by omega)
  have e1 : (Int32.ofNat f - 1).toInt = f - 1 := (fb_subI (by simp only [Int32.reduceToInt]; omega) (by simp only [Int32.reduceToInt]; omega)).trans (by rw [bf]; rfl)
  refine v_Ckind oks ?_
  rw [b2]
  simp only [tI_lt, tI_le, Int32.reduceToInt, Int32.reduceOfNat, e1]
  repeat' (refine ite_i (fun _ => ?_) (fun _ => ?_))
  all_goals first
    | (exfalso; omega)
    | (refine ⟨_, f, sw, I, (by first | rfl | trivial), rfl, hR.1, v_Mkind oks ?_⟩
       try simp only [lcl, lcg, w64]
       simp only [tI_lt, tI_le, Int32.reduceToInt, Int64.reduceToInt, Int32.reduceOfNat, b3, e1]
       repeat' (refine ite_i (fun _ => ?_) (fun _ => ?_))
       all_goals first
         | (exfalso; omega)
         | exact ⟨_, (by first | rfl | trivial), rfl, hR.free (Ag.rf.up rfl)⟩)
    | skip
  refine ck_of (ixB_i (by omega) (by omega)) ?_
  have hs : a0.toNatClampNeg < f := by rw [tnc]; omega
  obtain ⟨⟨p0, p0a, p0b⟩, ⟨p1, p1a, p1b⟩, ⟨p2, p2a, p2b⟩, ⟨p3, p3a, p3b⟩, ⟨p4, p4a, p4b⟩, ⟨p5, p5a, p5b⟩, ⟨p6, p6a, p6b⟩, ⟨p7, p7a, p7b⟩, p8, p8a⟩ := b4 _ hs
  have hst : (a0.toNatClampNeg : Int) = a0.toInt := by rw [tnc]; omega
  generalize a0.toNatClampNeg = s at hs p0 p0a p0b p1 p1a p1b p2 p2a p2b p3 p3a p3b p4 p4a p4b p5 p5a p5b p6 p6a p6b p7 p7a p7b p8 p8a hst ⊢
  have hse : a0.toInt.toNat = s := by omega
  simp only [RP_fa hs, oV, okB_fa hs, ck]
  rw [p8, p0]
  refine ite_i (fun z => ?_) (fun z => ?_)
  · refine ⟨_, f, sw, I, rfl, rfl, hR.1, v_Mkind oks ?_⟩
    simp only [lcl, lcg, w64]
    simp only [tnc, hse, b3, e1, tI_lt, tI_le, Int32.reduceToInt, Int64.reduceToInt, Int32.reduceOfNat]
    repeat' (first | refine ite_i (fun _ => ?_) (fun _ => ?_) | refine ck_of (ixB_i (by omega) (by omega)) ?_)
    all_goals first | (exfalso; omega) | contradiction | skip
    exact ⟨_, (by first | rfl | trivial), rfl, hR.free (Ag.rf.up rfl)⟩
  · refine ⟨_, f, sw, I, rfl, rfl, hR.1, v_Mkind oks ?_⟩
    simp only [lcl, lcg, w64]
    simp only [tnc, hse, b3, e1, tI_lt, tI_le, Int32.reduceToInt, Int64.reduceToInt, Int32.reduceOfNat]
    repeat' (first | refine ite_i (fun _ => ?_) (fun _ => ?_) | refine ck_of (ixB_i (by omega) (by omega)) ?_)
    all_goals first | (exfalso; omega) | contradiction | skip
    exact ⟨_, (by first | rfl | trivial), rfl, hR.free (Ag.rf.up rfl)⟩
end
section
/-! CALLS: as, withdraw, ship -/
theorem co_as {G : GX} (a0 a1 : Int32) : CO (Rel G) G 161 254 [.int a0, .int a1] := fun f sw I hR => by
  obtain ⟨b1, b2, b3, b4, b5⟩ := hR.2.2.2.2.2.2.1
  have bf : (Int32.ofNat f).toInt = f := kI_t (by omega)
  have e1 : (Int32.ofNat f - 1).toInt = f - 1 := (fb_subI (by simp only [Int32.reduceToInt]; omega) (by simp only [Int32.reduceToInt]; omega)).trans (by rw [bf]; rfl)
  refine v_Cas oks ?_
  rw [b2]
  simp only [tI_lt, tI_le, Int32.reduceToInt, Int32.reduceOfNat, e1]
  repeat' (refine ite_i (fun _ => ?_) (fun _ => ?_))
  all_goals first
    | (exfalso; omega)
    | (refine ⟨_, f, sw, I, (by first | rfl | trivial), rfl, hR.1, v_Mas oks ?_⟩
       try simp only [lcl, lcg, w64]
       simp only [tI_lt, tI_le, Int32.reduceToInt, Int64.reduceToInt, Int32.reduceOfNat, b3, e1]
       repeat' (refine ite_i (fun _ => ?_) (fun _ => ?_))
       all_goals first
         | (exfalso; omega)
         | exact ⟨_, (by first | rfl | trivial), rfl, hR.free (Ag.rf.up rfl)⟩)
    | skip
  refine ck_of (ixB_i (by omega) (by omega)) ?_
  have hs : a0.toNatClampNeg < f := by rw [tnc]; omega
  obtain ⟨⟨p0, p0a, p0b⟩, ⟨p1, p1a, p1b⟩, ⟨p2, p2a, p2b⟩, ⟨p3, p3a, p3b⟩, ⟨p4, p4a, p4b⟩, ⟨p5, p5a, p5b⟩, ⟨p6, p6a, p6b⟩, ⟨p7, p7a, p7b⟩, p8, p8a⟩ := b4 _ hs
  have hst : (a0.toNatClampNeg : Int) = a0.toInt := by rw [tnc]; omega
  generalize a0.toNatClampNeg = s at hs p0 p0a p0b p1 p1a p1b p2 p2a p2b p3 p3a p3b p4 p4a p4b p5 p5a p5b p6 p6a p6b p7 p7a p7b p8 p8a hst ⊢
  have hse : a0.toInt.toNat = s := by omega
  have keyG : (a1.toInt = 0 ∨ (I 128 s).toInt = -1000000 ∧ a1.toInt = (I 120 s).toInt ∨ (I 128 s).toInt ≠ -1000000 ∧ a1.toInt = 4 ∨ a1.toInt = 1 ∧ ((I 128 s).toInt ≠ -1000000 ∨ (I 120 s).toInt = 2)) → wp G 999 (mt 254) 0 (en (mt 254) [.ref 93, .int a0, .int a1]) [] (147, f, upI I 0 11 0, RP f sw) (fun r2 h2 => ∃ I2, r2 = some (.int (I 122 s)) ∧ h2 = (147, f, I2, RP f sw) ∧ Rel G f sw I2) := fun hK => by
    refine v_Mas oks ?_
    simp only [upI_ap, Nat.reduceEqDiff, reduceIte, lcl, lcg, w64]
    simp only [tnc, hse, b3, e1, tI_eq, tI_lt, tI_le, Int32.reduceToInt, Int64.reduceToInt, Int32.reduceOfNat]
    repeat' (first | refine ite_i (fun _ => ?_) (fun _ => ?_) | refine ck_of (ixB_i (by omega) (by omega)) ?_)
    all_goals first
      | (exfalso; omega)
      | (refine ⟨_, (by first | rfl | trivial), rfl, hR.upd [2, 11] (by repeat (first | exact Ag.rf | refine Ag.up ?_ rfl)) rfl nof (fun _ => ?_) nof nof nof nof nof nof nof nof⟩
         simp only [RC2, upI_ap, Nat.reduceEqDiff, reduceIte])
  have keyB : ¬ (a1.toInt = 0 ∨ (I 128 s).toInt = -1000000 ∧ a1.toInt = (I 120 s).toInt ∨ (I 128 s).toInt ≠ -1000000 ∧ a1.toInt = 4 ∨ a1.toInt = 1 ∧ ((I 128 s).toInt ≠ -1000000 ∨ (I 120 s).toInt = 2)) → wp G 999 (mt 254) 0 (en (mt 254) [.ref 93, .int a0, .int a1]) [] (147, f, upI I 0 11 3, RP f sw) (fun r2 h2 => ∃ I2, r2 = some (.int (-1000010 - 3)) ∧ h2 = (147, f, I2, RP f sw) ∧ Rel G f sw I2) := fun hK => by
    refine v_Mas oks ?_
    simp only [upI_ap, Nat.reduceEqDiff, reduceIte, lcl, lcg, w64]
    simp only [tnc, hse, b3, e1, tI_eq, tI_lt, tI_le, Int32.reduceToInt, Int64.reduceToInt, Int32.reduceOfNat]
    repeat' (first | refine ite_i (fun _ => ?_) (fun _ => ?_) | refine ck_of (ixB_i (by omega) (by omega)) ?_)
    all_goals first
      | (exfalso; omega)
      | (refine ⟨_, (by first | rfl | trivial), rfl, hR.upd [2, 11] (by repeat (first | exact Ag.rf | refine Ag.up ?_ rfl)) rfl nof (fun _ => ?_) nof nof nof nof nof nof nof nof⟩
         simp only [RC2, upI_ap, Nat.reduceEqDiff, reduceIte])
  simp only [RP_fa hs, oV, okB_fa hs, ck]
  rw [p8, p0, p3]
  simp only [tI_eq, Int32.reduceToInt]
  by_cases hK : (a1.toInt = 0 ∨ (I 128 s).toInt = -1000000 ∧ a1.toInt = (I 120 s).toInt ∨ (I 128 s).toInt ≠ -1000000 ∧ a1.toInt = 4 ∨ a1.toInt = 1 ∧ ((I 128 s).toInt ≠ -1000000 ∨ (I 120 s).toInt = 2))
  · have k := keyG hK
    clear keyG keyB
    repeat' (refine ite_i (fun _ => ?_) (fun _ => ?_))
    all_goals first
      | (exfalso; omega)
      | exact ⟨_, f, sw, _, rfl, rfl, hR.rx (cs := [2, 11]) (by repeat (first | exact Ag.rf | refine Ag.up ?_ rfl)) rfl, k⟩
  · have k := keyB hK
    clear keyG keyB
    repeat' (refine ite_i (fun _ => ?_) (fun _ => ?_))
    all_goals first
      | (exfalso; omega)
      | exact ⟨_, f, sw, _, rfl, rfl, hR.rx (cs := [2, 11]) (by repeat (first | exact Ag.rf | refine Ag.up ?_ rfl)) rfl, k⟩
theorem RC6.one {f : Nat} {I J : St} {s : Nat} (r : RC6 f I) (hJ : JC f J) (h1 : J 47 1 = I 47 1) (h2 : J 93 35 = I 93 35) (h : ∀ k, k < f → k ≠ s → (∀ i, J (1000 + k) i = I (1000 + k) i) ∧ J 120 k = I 120 k ∧ J 121 k = I 121 k ∧ J 122 k = I 122 k ∧ J 123 k = I 123 k ∧ J 124 k = I 124 k ∧ J 125 k = I 125 k ∧ J 126 k = I 126 k ∧ J 127 k = I 127 k ∧ J 128 k = I 128 k)
    (hs : (J (1000 + s) 0 = J 120 s ∧ 0 ≤ (J 120 s).toInt ∧ (J 120 s).toInt ≤ 3) ∧ (J (1000 + s) 1 = J 126 s ∧ 0 ≤ (J 126 s).toInt ∧ (J 126 s).toInt ≤ 2) ∧ (J (1000 + s) 2 = J 127 s ∧ 0 ≤ (J 127 s).toInt ∧ (J 127 s).toInt ≤ 99) ∧ (J (1000 + s) 3 = J 122 s ∧ 0 ≤ (J 122 s).toInt ∧ (J 122 s).toInt ≤ 239) ∧ (J (1000 + s) 4 = J 121 s ∧ 0 ≤ (J 121 s).toInt ∧ (J 121 s).toInt ≤ 3) ∧
      (J (1000 + s) 5 = J 123 s ∧ -10000 ≤ (J 123 s).toInt ∧ (J 123 s).toInt ≤ 10000) ∧ (J (1000 + s) 6 = J 124 s ∧ -10000 ≤ (J 124 s).toInt ∧ (J 124 s).toInt ≤ 10000) ∧ (J (1000 + s) 7 = J 125 s ∧ 0 ≤ (J 125 s).toInt ∧ (J 125 s).toInt ≤ 2000) ∧ J (1000 + s) 8 = J 128 s ∧ (J 128 s = -1000000 ∨ 0 ≤ (J 128 s).toInt ∧ (J 128 s).toInt ≤ 99)) : RC6 f J := by
  obtain ⟨r1, r2, r3, r4, r5⟩ := r
  refine ⟨r1, h1.trans r2, h2.trans r3, fun k hk => ?_, hJ⟩
  by_cases e : k = s
  · subst e
    exact hs
  · obtain ⟨g0, g1, g2, g3, g4, g5, g6, g7, g8, g9⟩ := h k hk e
    simp only [g0, g1, g2, g3, g4, g5, g6, g7, g8, g9]
    exact r4 k hk
/-- what was judged does not look at who is gone -/
theorem JC.wd {f : Nat} {I J : St} (r : JC f I) (h : ∀ p k, p ≠ 128 → ¬ (k = 8 ∧ 1000 ≤ p) → cmp p k = 6 → J p k = I p k) : JC f J := trivial
theorem co_withdraw {G : GX} (a0 a1 : Int32) : CO (Rel G) G 86 219 [.int a0, .int a1] := fun f sw I hR => by
  obtain ⟨b1, b2, b3, b4, b5⟩ := hR.2.2.2.2.2.2.1
  have bf : (Int32.ofNat f).toInt = f := kI_t (by omega)
  have e1 : (Int32.ofNat f - 1).toInt = f - 1 := (fb_subI (by simp only [Int32.reduceToInt]; omega) (by simp only [Int32.reduceToInt]; omega)).trans (by rw [bf]; rfl)
  refine v_Cwithdraw oks ?_
  rw [b2]
  simp only [tI_lt, tI_le, Int32.reduceToInt, Int32.reduceOfNat, e1]
  repeat' (refine ite_i (fun _ => ?_) (fun _ => ?_))
  all_goals first
    | (exfalso; omega)
    | (refine ⟨_, f, sw, I, (by first | rfl | trivial), rfl, hR.1, v_Mwithdraw oks ?_⟩
       try simp only [lcl, lcg, w64]
       simp only [tI_lt, tI_le, Int32.reduceToInt, Int64.reduceToInt, Int32.reduceOfNat, b3, e1]
       repeat' (refine ite_i (fun _ => ?_) (fun _ => ?_))
       all_goals first
         | (exfalso; omega)
         | exact ⟨_, (by first | rfl | trivial), rfl, hR.free (Ag.rf.up rfl)⟩)
    | skip
  refine ck_of (ixB_i (by omega) (by omega)) ?_
  have hs : a0.toNatClampNeg < f := by rw [tnc]; omega
  obtain ⟨⟨p0, p0a, p0b⟩, ⟨p1, p1a, p1b⟩, ⟨p2, p2a, p2b⟩, ⟨p3, p3a, p3b⟩, ⟨p4, p4a, p4b⟩, ⟨p5, p5a, p5b⟩, ⟨p6, p6a, p6b⟩, ⟨p7, p7a, p7b⟩, p8, p8a⟩ := b4 _ hs
  have hst : (a0.toNatClampNeg : Int) = a0.toInt := by rw [tnc]; omega
  generalize a0.toNatClampNeg = s at hs p0 p0a p0b p1 p1a p1b p2 p2a p2b p3 p3a p3b p4 p4a p4b p5 p5a p5b p6 p6a p6b p7 p7a p7b p8 p8a hst ⊢
  have hse : a0.toInt.toNat = s := by omega
  have hix : ixB a0 12 = true := ixB_i (by omega) (by omega)
  simp only [RP_fa hs, oV, okB_fa hs, hix, ck, kzf, Bool.true_and]
  rw [p8, p0, p2]
  simp only [tI_eq, Int32.reduceToInt, tI_le]
  have keyB : a1.toInt < (I 127 s).toInt → wp G 999 (mt 219) 0 (en (mt 219) [.ref 93, .int a0, .int a1]) [] (147, f, I, RP f sw) (fun r2 h2 => ∃ I2, r2 = some (.int (-1000001)) ∧ h2 = (147, f, I2, RP f sw) ∧ Rel G f sw I2) := fun hK => by
    refine v_Mwithdraw oks ?_
    simp only [upI_ap, Nat.reduceEqDiff, reduceIte, lcl, lcg, w64]
    simp only [tnc, hse, b3, e1, tI_eq, tI_lt, tI_le, Int32.reduceToInt, Int64.reduceToInt, Int32.reduceOfNat]
    repeat' (first | refine ite_i (fun _ => ?_) (fun _ => ?_) | refine ck_of (ixB_i (by omega) (by omega)) ?_)
    all_goals first
      | (exfalso; omega)
      | exact ⟨_, (by first | rfl | trivial), rfl, hR.free (Ag.rf.up rfl)⟩
  have keyS : ¬ a1.toInt < (I 127 s).toInt → ¬ (((I 120 s).toInt = 1 ∨ (I 120 s).toInt = 2) ∧ (I 128 s).toInt = -1000000) → wp G 999 (mt 219) 0 (en (mt 219) [.ref 93, .int a0, .int a1]) [] (147, f, I, RP f sw) (fun r2 h2 => ∃ I2, r2 = some (.int (-1000002)) ∧ h2 = (147, f, I2, RP f sw) ∧ Rel G f sw I2) := fun hK hL => by
    refine v_Mwithdraw oks ?_
    simp only [upI_ap, Nat.reduceEqDiff, reduceIte, lcl, lcg, w64]
    simp only [tnc, hse, b3, e1, tI_eq, tI_lt, tI_le, Int32.reduceToInt, Int64.reduceToInt, Int32.reduceOfNat]
    repeat' (first | refine ite_i (fun _ => ?_) (fun _ => ?_) | refine ck_of (ixB_i (by omega) (by omega)) ?_)
    all_goals first
      | (exfalso; omega)
      | exact ⟨_, (by first | rfl | trivial), rfl, hR.free (Ag.rf.up rfl)⟩
  have keyG : ¬ a1.toInt < (I 127 s).toInt → (((I 120 s).toInt = 1 ∨ (I 120 s).toInt = 2) ∧ (I 128 s).toInt = -1000000) → wp G 999 (mt 219) 0 (en (mt 219) [.ref 93, .int a0, .int a1]) [] (147, f, upI I (1000 + s) 8 a1, RP f sw) (fun r2 h2 => ∃ I2, r2 = some (.int 1) ∧ h2 = (147, f, I2, RP f sw) ∧ Rel G f sw I2) := fun hK hL => by
    have hne : ∀ p, p < 147 → ¬ (p = 1000 + s) := fun p hp => by omega
    refine v_Mwithdraw oks ?_
    simp only [hne 93 (by omega), hne 120 (by omega), hne 127 (by omega), hne 128 (by omega), upI_ap, Nat.reduceEqDiff, reduceIte, lcl, lcg, w64]
    simp only [tnc, hse, b3, e1, tI_eq, tI_lt, tI_le, Int32.reduceToInt, Int64.reduceToInt, Int32.reduceOfNat]
    repeat' (first | refine ite_i (fun _ => ?_) (fun _ => ?_) | refine ck_of (ixB_i (by omega) (by omega)) ?_)
    all_goals first
      | (exfalso; omega)
      | skip
    all_goals refine ⟨_, (by first | rfl | trivial), rfl, hR.upd [6, 11] (by repeat (first | exact Ag.rf | refine Ag.up ?_ rfl | refine Ag.up ?_ (by rw [cmp_fa _ (by omega) (by omega)]; rfl))) rfl nof nof nof nof nof (fun _ => ?_) nof nof nof nof⟩
    all_goals refine hR.2.2.2.2.2.2.1.one (s := s) (JC.wd b5 (J := upI (upI (upI I (1000 + s) 8 a1) 93 0 0) 128 s a1) (fun p k h1 h2 h3 => by rw [upI_nk (by omega), upI_nk (by rintro ⟨rfl, rfl⟩; exact absurd h3 (by decide)), upI_nk (by omega)])) ?_ ?_ (fun k h1 h2 => ⟨fun i => ?_, ?_, ?_, ?_, ?_, ?_, ?_, ?_, ?_, ?_⟩) ⟨?_, ?_, ?_, ?_, ?_, ?_, ?_, ?_, ?_, Or.inr ?_⟩
    all_goals first
      | (repeat rw [upI_nk (by omega)])
      | skip
    all_goals first
      | exact ⟨p0, p0a, p0b⟩
      | exact ⟨p1, p1a, p1b⟩
      | exact ⟨p2, p2a, p2b⟩
      | exact ⟨p3, p3a, p3b⟩
      | exact ⟨p4, p4a, p4b⟩
      | exact ⟨p5, p5a, p5b⟩
      | exact ⟨p6, p6a, p6b⟩
      | exact ⟨p7, p7a, p7b⟩
      | (simp only [upI_same]; done)
      | (simp only [upI_same]; omega)
  by_cases c1 : a1.toInt < (I 127 s).toInt
  · have k := keyB c1
    clear keyB keyS keyG
    repeat' (refine ite_i (fun _ => ?_) (fun _ => ?_))
    all_goals first
      | (exfalso; omega)
      | exact ⟨_, f, sw, _, rfl, rfl, hR.1, k⟩
  · by_cases c2 : (((I 120 s).toInt = 1 ∨ (I 120 s).toInt = 2) ∧ (I 128 s).toInt = -1000000)
    · have k := keyG c1 c2
      clear keyB keyS keyG
      repeat' (refine ite_i (fun _ => ?_) (fun _ => ?_))
      all_goals first
        | (exfalso; omega)
        | exact ⟨_, f, sw, _, rfl, rfl, hR.rx (cs := [6, 11]) (by repeat (first | exact Ag.rf | refine Ag.up ?_ rfl | refine Ag.up ?_ (by rw [cmp_fa _ (by omega) (by omega)]; rfl))) rfl, k⟩
    · have k := keyS c1 c2
      clear keyB keyS keyG
      repeat' (refine ite_i (fun _ => ?_) (fun _ => ?_))
      all_goals first
        | (exfalso; omega)
        | exact ⟨_, f, sw, _, rfl, rfl, hR.1, k⟩
theorem cmp_sx {s : Nat} (h : s < 4) (k : Nat) : cmp (12 + s) k = 3 := (cmp_sea s h k).1
theorem cmp_sy {s : Nat} (h : s < 4) (k : Nat) : cmp (17 + s) k = 3 := (cmp_sea s h k).2.1
theorem upI_row {I : St} {p k q : Nat} {x : Int32} (h : q ≠ p) : upI I p k x q = I q := funext fun i => upI_pl h i
theorem ocode_up {I : St} {p k : Nat} {x : Int32} (h : p ≠ 103) (h2 : p ≠ 104) : ocode (upI I p k x) = ocode I := by
  funext i
  unfold ocode
  rw [upI_row (fun z => h z.symm), upI_row (fun z => h2 z.symm)]
theorem co_ship {G : GX} (a0 a1 : Int32) : CO (Rel G) G 22 189 [.int a0, .int a1] := fun f sw I hR => by
  obtain ⟨⟨s1, s2, s3⟩, r2, r3, r4, r5, r6, r7, r8, r9⟩ := hR.2.2.2.1
  refine v_ship oks ?_
  rw [s1]
  simp only [tI_lt, tI_le, Int32.reduceToInt, Int32.reduceOfNat, tI_eq (I 93 7)]
  repeat' (refine ite_i (fun _ => ?_) (fun _ => ?_))
  all_goals first
    | (exfalso; omega)
    | (refine ⟨_, f, sw, I, (by first | rfl | trivial), rfl, hR.1, v_Mship oks ?_⟩
       try simp only [lcl, lcg, w64]
       simp only [tI_lt, tI_le, Int32.reduceToInt, Int64.reduceToInt, Int32.reduceOfNat, tI_eq (I 93 7)]
       repeat' (refine ite_i (fun _ => ?_) (fun _ => ?_))
       all_goals first
         | (exfalso; omega)
         | exact ⟨_, (by first | rfl | trivial), rfl, hR.free (Ag.rf.up rfl)⟩)
    | skip
  refine ck_of (ixB_i (by omega) (by omega)) ?_
  have hs : (I 93 7).toNatClampNeg < 4 := by rw [tnc]; omega
  have hst : ((I 93 7).toNatClampNeg : Int) = (I 93 7).toInt := by rw [tnc]; omega
  have e1 : (I 93 7 + 1).toInt = (I 93 7).toInt + 1 := fb_addI (by simp only [Int32.reduceToInt]; omega) (by simp only [Int32.reduceToInt]; omega)
  have hn : (I 93 7).toInt.toNat = (I 93 7).toNatClampNeg := rfl
  have hn2 : (I 93 7 + 1).toInt.toNat = (I 93 7).toNatClampNeg + 1 := by omega
  generalize hse : (I 93 7).toNatClampNeg = s at hs hst hn hn2 ⊢
  have n1 : ¬ (2 = 12 + s) := by omega
  have n2 : ¬ (2 = 17 + s) := by omega
  simp only [RP_x hs, oV, okB_x hs, SH_x hs, ck, n1, upI_ap, Nat.reduceEqDiff, reduceIte, s1, hse, RP_y hs, okB_y hs, SH_y hs, n2]
  have i0 : ixB 0 241 = true := rfl
  have i1 : ixB (I 93 7) 4 = true := ixB_i (by omega) (by omega)
  simp only [i0, i1]
  have m1 : ∀ p, 93 ≤ p → ¬ (p = 12 + s) ∧ ¬ (p = 17 + s) := fun p _ => by omega
  refine ⟨_, f, sw, _, rfl, rfl, hR.rx (cs := [3, 11]) (by repeat (first | exact Ag.rf | refine Ag.up ?_ rfl | refine Ag.up ?_ (by rw [cmp_sx hs]; rfl) | refine Ag.up ?_ (by rw [cmp_sy hs]; rfl))) rfl, v_Mship oks ?_⟩
  simp only [(m1 93 (by omega)).1, (m1 93 (by omega)).2, upI_ap, Nat.reduceEqDiff, reduceIte, lcl, lcg, w64, hse]
  simp only [tI_lt, tI_le, Int32.reduceToInt, Int64.reduceToInt, Int32.reduceOfNat, tI_eq (I 93 7), i1, ck]
  repeat' (refine ite_i (fun _ => ?_) (fun _ => ?_))
  all_goals first | (exfalso; omega) | skip
  refine ⟨_, (by first | rfl | trivial), rfl, hR.upd [3, 11] (by repeat (first | exact Ag.rf | refine Ag.up ?_ rfl | refine Ag.up ?_ (by rw [cmp_sx hs]; rfl) | refine Ag.up ?_ (by rw [cmp_sy hs]; rfl))) rfl nof nof (fun _ => ?_) nof nof nof nof nof nof nof⟩
  unfold RC3 SeaC
  have j1 : ∀ (J : St), upI J 93 7 (I 93 7 + 1) 93 7 = I 93 7 + 1 := fun J => upI_same _ _ _ _
  simp (disch := omega) only [upI_row, upI_nk, upI_same, ocode_up]
  refine ⟨⟨trivial, by omega, by omega⟩, r2, Or.inr trivial, r4, r5, r6, r7, fun s' h' => ?_, fun z => absurd z (by decide)⟩
  by_cases e : s' = s
  · subst e
    simp (disch := omega) only [upI_row, upI_nk, upI_same]
    exact ⟨⟨trivial, by omega, by omega⟩, trivial, by omega, by omega⟩
  · simp (disch := omega) only [upI_row, upI_nk, upI_same]
    exact r8 s' (by omega)
end
section
/-! CALLS: hull -/
theorem co_hull {G : GX} (a0 a1 : Int32) : CO (Rel G) G 54 206 [.int a0, .int a1] := fun f sw I hR => by
  obtain ⟨⟨t1, t2, t3⟩, ⟨u1, u2, u3⟩, ⟨w1, w2, w3⟩, r4, r5, r6, r7, r8, r9, r10⟩ := hR.2.2.2.2.2.1
  have keyB : ¬ (0 ≤ a0.toInt ∧ a0.toInt ≤ 7 ∧ (a0.toInt = 6 ∧ 0 ≤ a1.toInt ∧ a1.toInt ≤ 100 ∨ a0.toInt = 7 ∧ 1 ≤ a1.toInt ∧ a1.toInt ≤ 6000 ∨ a0.toInt < 6 ∧ 1 ≤ a1.toInt ∧ a1.toInt ≤ 1000)) → wp G 999 (mt 206) 0 (en (mt 206) [.ref 93, .int a0, .int a1]) [] (147, f, I, RP f sw) (fun r2 h2 => ∃ I2, r2 = some (.int (-1000001)) ∧ h2 = (147, f, I2, RP f sw) ∧ Rel G f sw I2) := fun hK => by
    refine v_Mhull oks ?_
    simp only [lcl, lcg, w64]
    simp only [tI_eq a0, tI_lt, tI_le, Int32.reduceToInt, Int64.reduceToInt, Int32.reduceOfNat]
    repeat' (refine ite_i (fun _ => ?_) (fun _ => ?_))
    all_goals first
      | (exfalso; omega)
      | exact ⟨_, (by first | rfl | trivial), rfl, hR.free (Ag.rf.up rfl)⟩
  have key6 : (a0.toInt = 6 ∧ 0 ≤ a1.toInt ∧ a1.toInt ≤ 100) → wp G 999 (mt 206) 0 (en (mt 206) [.ref 93, .int a0, .int a1]) [] (147, f, upI (upI I 29 9 a1) 29 12 1, RP f sw) (fun r2 h2 => ∃ I2, r2 = some (.int (I 29 9)) ∧ h2 = (147, f, I2, RP f sw) ∧ Rel G f sw I2) := fun hK => by
    refine v_Mhull oks ?_
    simp only [upI_ap, Nat.reduceEqDiff, reduceIte, lcl, lcg, w64]
    simp only [tI_eq a0, tI_lt, tI_le, Int32.reduceToInt, Int64.reduceToInt, Int32.reduceOfNat, u1]
    repeat' (refine ite_i (fun _ => ?_) (fun _ => ?_))
    all_goals first
      | (exfalso; omega)
      | skip
    refine ⟨_, (by first | rfl | trivial), rfl, hR.upd [5, 11] (by repeat (first | exact Ag.rf | refine Ag.up ?_ rfl)) rfl nof nof nof nof (fun _ => ?_) nof nof nof nof nof⟩
    exact ⟨⟨t1, t2, t3⟩, ⟨rfl, hK.2.1, hK.2.2⟩, ⟨w1, w2, w3⟩, r4, Or.inr rfl, r6, r7, r8, r9, trivial⟩
  have key7 : (a0.toInt = 7 ∧ 1 ≤ a1.toInt ∧ a1.toInt ≤ 6000) → wp G 999 (mt 206) 0 (en (mt 206) [.ref 93, .int a0, .int a1]) [] (147, f, upI (upI I 29 10 a1) 29 12 1, RP f sw) (fun r2 h2 => ∃ I2, r2 = some (.int (I 29 10)) ∧ h2 = (147, f, I2, RP f sw) ∧ Rel G f sw I2) := fun hK => by
    refine v_Mhull oks ?_
    simp only [upI_ap, Nat.reduceEqDiff, reduceIte, lcl, lcg, w64]
    simp only [tI_eq a0, tI_lt, tI_le, Int32.reduceToInt, Int64.reduceToInt, Int32.reduceOfNat, w1]
    repeat' (refine ite_i (fun _ => ?_) (fun _ => ?_))
    all_goals first
      | (exfalso; omega)
      | skip
    refine ⟨_, (by first | rfl | trivial), rfl, hR.upd [5, 11] (by repeat (first | exact Ag.rf | refine Ag.up ?_ rfl)) rfl nof nof nof nof (fun _ => ?_) nof nof nof nof nof⟩
    exact ⟨⟨t1, t2, t3⟩, ⟨u1, u2, u3⟩, ⟨rfl, hK.2.1, hK.2.2⟩, r4, Or.inr rfl, r6, r7, r8, r9, trivial⟩
  have keyR : (0 ≤ a0.toInt ∧ a0.toInt < 6 ∧ 1 ≤ a1.toInt ∧ a1.toInt ≤ 1000) → wp G 999 (mt 206) 0 (en (mt 206) [.ref 93, .int a0, .int a1]) [] (147, f, upI (upI I 34 a0.toNatClampNeg a1) 29 12 1, RP f sw) (fun r2 h2 => ∃ I2, r2 = some (.int (I 34 a0.toNatClampNeg)) ∧ h2 = (147, f, I2, RP f sw) ∧ Rel G f sw I2) := fun hK => by
    have ix : ixB a0 6 = true := ixB_i (by omega) (by omega)
    have hs : a0.toNatClampNeg < 6 := by rw [tnc]; omega
    refine v_Mhull oks ?_
    simp only [upI_ap, Nat.reduceEqDiff, reduceIte, lcl, lcg, w64]
    simp only [tI_eq a0, tI_lt, tI_le, Int32.reduceToInt, Int64.reduceToInt, Int32.reduceOfNat, ix, ck]
    repeat' (refine ite_i (fun _ => ?_) (fun _ => ?_))
    all_goals first
      | (exfalso; omega)
      | skip
    refine ⟨_, by rw [(r7 _ hs).1], rfl, hR.upd [5, 11] (by repeat (first | exact Ag.rf | refine Ag.up ?_ rfl)) rfl nof nof nof nof (fun _ => ?_) nof nof nof nof nof⟩
    refine ⟨⟨t1, t2, t3⟩, ⟨u1, u2, u3⟩, ⟨w1, w2, w3⟩, r4, Or.inr rfl, r6, fun h hh => ?_, r8, r9, trivial⟩
    have := r7 h hh
    simp only [upI_ap, Nat.reduceEqDiff, reduceIte]
    by_cases e : h = a0.toNatClampNeg
    · simp only [e, reduceIte]
      exact ⟨trivial, hK.2.2.1, hK.2.2.2⟩
    · simp only [e, reduceIte]
      exact this
  refine v_hull oks ?_
  simp only [tI_eq a0, Int32.reduceOfInt, tI_lt, tI_le, Int32.reduceToInt, Int32.reduceOfNat]
  repeat' (refine ite_i (fun _ => ?_) (fun _ => ?_))
  all_goals first
    | (exfalso; omega)
    | exact ⟨_, f, sw, _, (by first | rfl | trivial), rfl, hR.1, keyB (by omega)⟩
    | exact ⟨_, f, sw, _, (by first | rfl | trivial), rfl, hR.rx (cs := [5, 11]) (by repeat (first | exact Ag.rf | refine Ag.up ?_ rfl)) rfl, key6 (by omega)⟩
    | exact ⟨_, f, sw, _, (by first | rfl | trivial), rfl, hR.rx (cs := [5, 11]) (by repeat (first | exact Ag.rf | refine Ag.up ?_ rfl)) rfl, key7 (by omega)⟩
    | (have ix : ixB a0 6 = true := ixB_i (by omega) (by omega)
       simp only [ix, ck]
       exact ⟨_, f, sw, _, (by first | rfl | trivial), rfl, hR.rx (cs := [5, 11]) (by repeat (first | exact Ag.rf | refine Ag.up ?_ rfl)) rfl, keyR (by omega)⟩)
end
section
/-! CONDITIONS of ask -/
-- WreckCourt.ask(II)I, entry 0
set_option maxRecDepth 100000 in
set_option maxHeartbeats 4000000 in
theorem v_Cask (o : OKs) {G : GX} {d f : Nat} {sw : Bool} {I : Nat → Nat → Int32} {a0 : Int32} {a1 : Int32} {Q : Option Value → Hp → Prop}
    (hq : if a0 < 0 then Q (some (.int (-1000001))) (147, f, I, RP f sw) else if ((I 47 1) - 1) < a0 then Q (some (.int (-1000001))) (147, f, I, RP f sw) else if a1 < 0 then Q (some (.int (-1000001))) (147, f, I, RP f sw) else if 1 < a1 then Q (some (.int (-1000001))) (147, f, I, RP f sw) else ck (ixB a0 12) (oV ((RP f sw) 48 a0.toNatClampNeg) (fun q1 => if a1 = 0 then ck (okB (147, f, upI I 55 1 0, RP f sw) q1 3) (ck (okB (147, f, upI I 55 1 0, RP f sw) q1 3) (ck (okB (147, f, upI I 55 1 0, RP f sw) q1 3) (if ((upI I 55 1 0) q1 8) = (-1000000) then ck (okB (147, f, upI I 55 1 0, RP f sw) q1 3) (if ((upI I 55 1 0) q1 0) = 1 then ck (okB (147, f, upI (upI (upI (upI (upI I 55 1 0) 56 0 11) 55 1 (0 + 1)) 56 1 10) 55 1 ((0 + 1) + 1), RP f sw) q1 3) (ck (okB (147, f, upI (upI (upI (upI (upI I 55 1 0) 56 0 11) 55 1 (0 + 1)) 56 1 10) 55 1 ((0 + 1) + 1), RP f sw) q1 3) (Q (some (.int (((upI (upI (upI (upI (upI I 55 1 0) 56 0 11) 55 1 (0 + 1)) 56 1 10) 55 1 ((0 + 1) + 1)) q1 7) + ((upI (upI (upI (upI (upI I 55 1 0) 56 0 11) 55 1 (0 + 1)) 56 1 10) 55 1 ((0 + 1) + 1)) q1 3)))) (147, f, upI (upI (upI (upI (upI I 55 1 0) 56 0 11) 55 1 (0 + 1)) 56 1 10) 55 1 ((0 + 1) + 1), RP f sw))) else if ((upI I 55 1 0) q1 0) = 1 + 1 then ck (okB (147, f, upI (upI (upI (upI (upI (upI (upI I 55 1 0) 56 0 12) 55 1 (0 + 1)) 56 1 11) 55 1 ((0 + 1) + 1)) 56 2 10) 55 1 (((0 + 1) + 1) + 1), RP f sw) q1 3) (ck (okB (147, f, upI (upI (upI (upI (upI (upI (upI I 55 1 0) 56 0 12) 55 1 (0 + 1)) 56 1 11) 55 1 ((0 + 1) + 1)) 56 2 10) 55 1 (((0 + 1) + 1) + 1), RP f sw) q1 3) (Q (some (.int ((((upI (upI (upI (upI (upI (upI (upI I 55 1 0) 56 0 12) 55 1 (0 + 1)) 56 1 11) 55 1 ((0 + 1) + 1)) 56 2 10) 55 1 (((0 + 1) + 1) + 1)) q1 7) + ((upI (upI (upI (upI (upI (upI (upI I 55 1 0) 56 0 12) 55 1 (0 + 1)) 56 1 11) 55 1 ((0 + 1) + 1)) 56 2 10) 55 1 (((0 + 1) + 1) + 1)) q1 3)) * 2))) (147, f, upI (upI (upI (upI (upI (upI (upI I 55 1 0) 56 0 12) 55 1 (0 + 1)) 56 1 11) 55 1 ((0 + 1) + 1)) 56 2 10) 55 1 (((0 + 1) + 1) + 1), RP f sw))) else if ((upI I 55 1 0) q1 0) = 1 + 1 + 1 then ck (okB (147, f, upI (upI (upI (upI (upI I 55 1 0) 56 0 14) 55 1 (0 + 1)) 56 1 10) 55 1 ((0 + 1) + 1), RP f sw) q1 3) (Q (some (.int (((upI (upI (upI (upI (upI I 55 1 0) 56 0 14) 55 1 (0 + 1)) 56 1 10) 55 1 ((0 + 1) + 1)) q1 7) / 2))) (147, f, upI (upI (upI (upI (upI I 55 1 0) 56 0 14) 55 1 (0 + 1)) 56 1 10) 55 1 ((0 + 1) + 1), RP f sw)) else if ((upI I 55 1 0) q1 0) = 1 + 1 + 1 + 1 then ck (okB (147, f, upI (upI (upI (upI (upI (upI (upI I 55 1 0) 56 0 13) 55 1 (0 + 1)) 56 1 11) 55 1 ((0 + 1) + 1)) 56 2 10) 55 1 (((0 + 1) + 1) + 1), RP f sw) q1 3) (ck (okB (147, f, upI (upI (upI (upI (upI (upI (upI I 55 1 0) 56 0 13) 55 1 (0 + 1)) 56 1 11) 55 1 ((0 + 1) + 1)) 56 2 10) 55 1 (((0 + 1) + 1) + 1), RP f sw) q1 3) (ck (okB (147, f, upI (upI (upI (upI (upI (upI (upI (upI (upI (upI (upI (upI (upI I 55 1 0) 56 0 13) 55 1 (0 + 1)) 56 1 11) 55 1 ((0 + 1) + 1)) 56 2 10) 55 1 (((0 + 1) + 1) + 1)) 56 3 22) 55 1 ((((0 + 1) + 1) + 1) + 1)) 56 4 21) 55 1 (((((0 + 1) + 1) + 1) + 1) + 1)) 56 5 20) 55 1 ((((((0 + 1) + 1) + 1) + 1) + 1) + 1), RP f sw) q1 3) (ck (okB (147, f, upI (upI (upI (upI (upI (upI (upI (upI (upI (upI (upI (upI (upI I 55 1 0) 56 0 13) 55 1 (0 + 1)) 56 1 11) 55 1 ((0 + 1) + 1)) 56 2 10) 55 1 (((0 + 1) + 1) + 1)) 56 3 22) 55 1 ((((0 + 1) + 1) + 1) + 1)) 56 4 21) 55 1 (((((0 + 1) + 1) + 1) + 1) + 1)) 56 5 20) 55 1 ((((((0 + 1) + 1) + 1) + 1) + 1) + 1), RP f sw) q1 3) (Q (some (.int ((((upI (upI (upI (upI (upI (upI (upI I 55 1 0) 56 0 13) 55 1 (0 + 1)) 56 1 11) 55 1 ((0 + 1) + 1)) 56 2 10) 55 1 (((0 + 1) + 1) + 1)) q1 7) + ((upI (upI (upI (upI (upI (upI (upI I 55 1 0) 56 0 13) 55 1 (0 + 1)) 56 1 11) 55 1 ((0 + 1) + 1)) 56 2 10) 55 1 (((0 + 1) + 1) + 1)) q1 3)) - ((((upI (upI (upI (upI (upI (upI (upI (upI (upI (upI (upI (upI (upI I 55 1 0) 56 0 13) 55 1 (0 + 1)) 56 1 11) 55 1 ((0 + 1) + 1)) 56 2 10) 55 1 (((0 + 1) + 1) + 1)) 56 3 22) 55 1 ((((0 + 1) + 1) + 1) + 1)) 56 4 21) 55 1 (((((0 + 1) + 1) + 1) + 1) + 1)) 56 5 20) 55 1 ((((((0 + 1) + 1) + 1) + 1) + 1) + 1)) q1 4) + ((upI (upI (upI (upI (upI (upI (upI (upI (upI (upI (upI (upI (upI I 55 1 0) 56 0 13) 55 1 (0 + 1)) 56 1 11) 55 1 ((0 + 1) + 1)) 56 2 10) 55 1 (((0 + 1) + 1) + 1)) 56 3 22) 55 1 ((((0 + 1) + 1) + 1) + 1)) 56 4 21) 55 1 (((((0 + 1) + 1) + 1) + 1) + 1)) 56 5 20) 55 1 ((((((0 + 1) + 1) + 1) + 1) + 1) + 1)) q1 1)) + 100)))) (147, f, upI (upI (upI (upI (upI (upI (upI (upI (upI (upI (upI (upI (upI I 55 1 0) 56 0 13) 55 1 (0 + 1)) 56 1 11) 55 1 ((0 + 1) + 1)) 56 2 10) 55 1 (((0 + 1) + 1) + 1)) 56 3 22) 55 1 ((((0 + 1) + 1) + 1) + 1)) 56 4 21) 55 1 (((((0 + 1) + 1) + 1) + 1) + 1)) 56 5 20) 55 1 ((((((0 + 1) + 1) + 1) + 1) + 1) + 1), RP f sw))))) else ck (okB (147, f, upI (upI (upI I 55 1 0) 56 0 10) 55 1 (0 + 1), RP f sw) q1 3) (Q (some (.int ((upI (upI (upI I 55 1 0) 56 0 10) 55 1 (0 + 1)) q1 7))) (147, f, upI (upI (upI I 55 1 0) 56 0 10) 55 1 (0 + 1), RP f sw))) else if 4 = 1 then ck (okB (147, f, upI (upI (upI (upI (upI I 55 1 0) 56 0 11) 55 1 (0 + 1)) 56 1 10) 55 1 ((0 + 1) + 1), RP f sw) q1 3) (ck (okB (147, f, upI (upI (upI (upI (upI I 55 1 0) 56 0 11) 55 1 (0 + 1)) 56 1 10) 55 1 ((0 + 1) + 1), RP f sw) q1 3) (Q (some (.int (((upI (upI (upI (upI (upI I 55 1 0) 56 0 11) 55 1 (0 + 1)) 56 1 10) 55 1 ((0 + 1) + 1)) q1 7) + ((upI (upI (upI (upI (upI I 55 1 0) 56 0 11) 55 1 (0 + 1)) 56 1 10) 55 1 ((0 + 1) + 1)) q1 3)))) (147, f, upI (upI (upI (upI (upI I 55 1 0) 56 0 11) 55 1 (0 + 1)) 56 1 10) 55 1 ((0 + 1) + 1), RP f sw))) else if 4 = 1 + 1 then ck (okB (147, f, upI (upI (upI (upI (upI (upI (upI I 55 1 0) 56 0 12) 55 1 (0 + 1)) 56 1 11) 55 1 ((0 + 1) + 1)) 56 2 10) 55 1 (((0 + 1) + 1) + 1), RP f sw) q1 3) (ck (okB (147, f, upI (upI (upI (upI (upI (upI (upI I 55 1 0) 56 0 12) 55 1 (0 + 1)) 56 1 11) 55 1 ((0 + 1) + 1)) 56 2 10) 55 1 (((0 + 1) + 1) + 1), RP f sw) q1 3) (Q (some (.int ((((upI (upI (upI (upI (upI (upI (upI I 55 1 0) 56 0 12) 55 1 (0 + 1)) 56 1 11) 55 1 ((0 + 1) + 1)) 56 2 10) 55 1 (((0 + 1) + 1) + 1)) q1 7) + ((upI (upI (upI (upI (upI (upI (upI I 55 1 0) 56 0 12) 55 1 (0 + 1)) 56 1 11) 55 1 ((0 + 1) + 1)) 56 2 10) 55 1 (((0 + 1) + 1) + 1)) q1 3)) * 2))) (147, f, upI (upI (upI (upI (upI (upI (upI I 55 1 0) 56 0 12) 55 1 (0 + 1)) 56 1 11) 55 1 ((0 + 1) + 1)) 56 2 10) 55 1 (((0 + 1) + 1) + 1), RP f sw))) else if 4 = 1 + 1 + 1 then ck (okB (147, f, upI (upI (upI (upI (upI I 55 1 0) 56 0 14) 55 1 (0 + 1)) 56 1 10) 55 1 ((0 + 1) + 1), RP f sw) q1 3) (Q (some (.int (((upI (upI (upI (upI (upI I 55 1 0) 56 0 14) 55 1 (0 + 1)) 56 1 10) 55 1 ((0 + 1) + 1)) q1 7) / 2))) (147, f, upI (upI (upI (upI (upI I 55 1 0) 56 0 14) 55 1 (0 + 1)) 56 1 10) 55 1 ((0 + 1) + 1), RP f sw)) else if 4 = 1 + 1 + 1 + 1 then ck (okB (147, f, upI (upI (upI (upI (upI (upI (upI I 55 1 0) 56 0 13) 55 1 (0 + 1)) 56 1 11) 55 1 ((0 + 1) + 1)) 56 2 10) 55 1 (((0 + 1) + 1) + 1), RP f sw) q1 3) (ck (okB (147, f, upI (upI (upI (upI (upI (upI (upI I 55 1 0) 56 0 13) 55 1 (0 + 1)) 56 1 11) 55 1 ((0 + 1) + 1)) 56 2 10) 55 1 (((0 + 1) + 1) + 1), RP f sw) q1 3) (ck (okB (147, f, upI (upI (upI (upI (upI (upI (upI (upI (upI (upI (upI (upI (upI I 55 1 0) 56 0 13) 55 1 (0 + 1)) 56 1 11) 55 1 ((0 + 1) + 1)) 56 2 10) 55 1 (((0 + 1) + 1) + 1)) 56 3 22) 55 1 ((((0 + 1) + 1) + 1) + 1)) 56 4 21) 55 1 (((((0 + 1) + 1) + 1) + 1) + 1)) 56 5 20) 55 1 ((((((0 + 1) + 1) + 1) + 1) + 1) + 1), RP f sw) q1 3) (ck (okB (147, f, upI (upI (upI (upI (upI (upI (upI (upI (upI (upI (upI (upI (upI I 55 1 0) 56 0 13) 55 1 (0 + 1)) 56 1 11) 55 1 ((0 + 1) + 1)) 56 2 10) 55 1 (((0 + 1) + 1) + 1)) 56 3 22) 55 1 ((((0 + 1) + 1) + 1) + 1)) 56 4 21) 55 1 (((((0 + 1) + 1) + 1) + 1) + 1)) 56 5 20) 55 1 ((((((0 + 1) + 1) + 1) + 1) + 1) + 1), RP f sw) q1 3) (Q (some (.int ((((upI (upI (upI (upI (upI (upI (upI I 55 1 0) 56 0 13) 55 1 (0 + 1)) 56 1 11) 55 1 ((0 + 1) + 1)) 56 2 10) 55 1 (((0 + 1) + 1) + 1)) q1 7) + ((upI (upI (upI (upI (upI (upI (upI I 55 1 0) 56 0 13) 55 1 (0 + 1)) 56 1 11) 55 1 ((0 + 1) + 1)) 56 2 10) 55 1 (((0 + 1) + 1) + 1)) q1 3)) - ((((upI (upI (upI (upI (upI (upI (upI (upI (upI (upI (upI (upI (upI I 55 1 0) 56 0 13) 55 1 (0 + 1)) 56 1 11) 55 1 ((0 + 1) + 1)) 56 2 10) 55 1 (((0 + 1) + 1) + 1)) 56 3 22) 55 1 ((((0 + 1) + 1) + 1) + 1)) 56 4 21) 55 1 (((((0 + 1) + 1) + 1) + 1) + 1)) 56 5 20) 55 1 ((((((0 + 1) + 1) + 1) + 1) + 1) + 1)) q1 4) + ((upI (upI (upI (upI (upI (upI (upI (upI (upI (upI (upI (upI (upI I 55 1 0) 56 0 13) 55 1 (0 + 1)) 56 1 11) 55 1 ((0 + 1) + 1)) 56 2 10) 55 1 (((0 + 1) + 1) + 1)) 56 3 22) 55 1 ((((0 + 1) + 1) + 1) + 1)) 56 4 21) 55 1 (((((0 + 1) + 1) + 1) + 1) + 1)) 56 5 20) 55 1 ((((((0 + 1) + 1) + 1) + 1) + 1) + 1)) q1 1)) + 100)))) (147, f, upI (upI (upI (upI (upI (upI (upI (upI (upI (upI (upI (upI (upI I 55 1 0) 56 0 13) 55 1 (0 + 1)) 56 1 11) 55 1 ((0 + 1) + 1)) 56 2 10) 55 1 (((0 + 1) + 1) + 1)) 56 3 22) 55 1 ((((0 + 1) + 1) + 1) + 1)) 56 4 21) 55 1 (((((0 + 1) + 1) + 1) + 1) + 1)) 56 5 20) 55 1 ((((((0 + 1) + 1) + 1) + 1) + 1) + 1), RP f sw))))) else ck (okB (147, f, upI (upI (upI I 55 1 0) 56 0 10) 55 1 (0 + 1), RP f sw) q1 3) (Q (some (.int ((upI (upI (upI I 55 1 0) 56 0 10) 55 1 (0 + 1)) q1 7))) (147, f, upI (upI (upI I 55 1 0) 56 0 10) 55 1 (0 + 1), RP f sw))))) else ck (okB (147, f, upI I 55 1 0, RP f sw) q1 3) (ck (okB (147, f, upI I 55 1 0, RP f sw) q1 3) (ck (okB (147, f, upI I 55 1 0, RP f sw) q1 3) (if ((upI I 55 1 0) q1 8) = (-1000000) then ck (okB (147, f, upI I 55 1 0, RP f sw) q1 3) (if ((upI I 55 1 0) q1 0) = 1 then ck (okB (147, f, upI (upI (upI (upI (upI I 55 1 0) 56 0 21) 55 1 (0 + 1)) 56 1 20) 55 1 ((0 + 1) + 1), RP f sw) q1 3) (ck (okB (147, f, upI (upI (upI (upI (upI I 55 1 0) 56 0 21) 55 1 (0 + 1)) 56 1 20) 55 1 ((0 + 1) + 1), RP f sw) q1 3) (Q (some (.int (((upI (upI (upI (upI (upI I 55 1 0) 56 0 21) 55 1 (0 + 1)) 56 1 20) 55 1 ((0 + 1) + 1)) q1 4) + ((upI (upI (upI (upI (upI I 55 1 0) 56 0 21) 55 1 (0 + 1)) 56 1 20) 55 1 ((0 + 1) + 1)) q1 1)))) (147, f, upI (upI (upI (upI (upI I 55 1 0) 56 0 21) 55 1 (0 + 1)) 56 1 20) 55 1 ((0 + 1) + 1), RP f sw))) else if ((upI I 55 1 0) q1 0) = 1 + 1 then ck (okB (147, f, upI (upI (upI (upI (upI I 55 1 0) 56 0 21) 55 1 (0 + 1)) 56 1 20) 55 1 ((0 + 1) + 1), RP f sw) q1 3) (ck (okB (147, f, upI (upI (upI (upI (upI I 55 1 0) 56 0 21) 55 1 (0 + 1)) 56 1 20) 55 1 ((0 + 1) + 1), RP f sw) q1 3) (Q (some (.int (((upI (upI (upI (upI (upI I 55 1 0) 56 0 21) 55 1 (0 + 1)) 56 1 20) 55 1 ((0 + 1) + 1)) q1 4) + ((upI (upI (upI (upI (upI I 55 1 0) 56 0 21) 55 1 (0 + 1)) 56 1 20) 55 1 ((0 + 1) + 1)) q1 1)))) (147, f, upI (upI (upI (upI (upI I 55 1 0) 56 0 21) 55 1 (0 + 1)) 56 1 20) 55 1 ((0 + 1) + 1), RP f sw))) else if ((upI I 55 1 0) q1 0) = 1 + 1 + 1 then ck (okB (147, f, upI (upI (upI (upI (upI I 55 1 0) 56 0 23) 55 1 (0 + 1)) 56 1 20) 55 1 ((0 + 1) + 1), RP f sw) q1 3) (ck (okB (147, f, upI (upI (upI (upI (upI (upI (upI (upI (upI I 55 1 0) 56 0 23) 55 1 (0 + 1)) 56 1 20) 55 1 ((0 + 1) + 1)) 56 2 14) 55 1 (((0 + 1) + 1) + 1)) 56 3 10) 55 1 ((((0 + 1) + 1) + 1) + 1), RP f sw) q1 3) (Q (some (.int (((upI (upI (upI (upI (upI I 55 1 0) 56 0 23) 55 1 (0 + 1)) 56 1 20) 55 1 ((0 + 1) + 1)) q1 4) + (((upI (upI (upI (upI (upI (upI (upI (upI (upI I 55 1 0) 56 0 23) 55 1 (0 + 1)) 56 1 20) 55 1 ((0 + 1) + 1)) 56 2 14) 55 1 (((0 + 1) + 1) + 1)) 56 3 10) 55 1 ((((0 + 1) + 1) + 1) + 1)) q1 7) / 2)))) (147, f, upI (upI (upI (upI (upI (upI (upI (upI (upI I 55 1 0) 56 0 23) 55 1 (0 + 1)) 56 1 20) 55 1 ((0 + 1) + 1)) 56 2 14) 55 1 (((0 + 1) + 1) + 1)) 56 3 10) 55 1 ((((0 + 1) + 1) + 1) + 1), RP f sw))) else if ((upI I 55 1 0) q1 0) = 1 + 1 + 1 + 1 then ck (okB (147, f, upI (upI (upI (upI (upI (upI (upI I 55 1 0) 56 0 22) 55 1 (0 + 1)) 56 1 21) 55 1 ((0 + 1) + 1)) 56 2 20) 55 1 (((0 + 1) + 1) + 1), RP f sw) q1 3) (ck (okB (147, f, upI (upI (upI (upI (upI (upI (upI I 55 1 0) 56 0 22) 55 1 (0 + 1)) 56 1 21) 55 1 ((0 + 1) + 1)) 56 2 20) 55 1 (((0 + 1) + 1) + 1), RP f sw) q1 3) (Q (some (.int ((((upI (upI (upI (upI (upI (upI (upI I 55 1 0) 56 0 22) 55 1 (0 + 1)) 56 1 21) 55 1 ((0 + 1) + 1)) 56 2 20) 55 1 (((0 + 1) + 1) + 1)) q1 4) + ((upI (upI (upI (upI (upI (upI (upI I 55 1 0) 56 0 22) 55 1 (0 + 1)) 56 1 21) 55 1 ((0 + 1) + 1)) 56 2 20) 55 1 (((0 + 1) + 1) + 1)) q1 1)) + 100))) (147, f, upI (upI (upI (upI (upI (upI (upI I 55 1 0) 56 0 22) 55 1 (0 + 1)) 56 1 21) 55 1 ((0 + 1) + 1)) 56 2 20) 55 1 (((0 + 1) + 1) + 1), RP f sw))) else ck (okB (147, f, upI (upI (upI I 55 1 0) 56 0 20) 55 1 (0 + 1), RP f sw) q1 3) (Q (some (.int ((upI (upI (upI I 55 1 0) 56 0 20) 55 1 (0 + 1)) q1 4))) (147, f, upI (upI (upI I 55 1 0) 56 0 20) 55 1 (0 + 1), RP f sw))) else if 4 = 1 then ck (okB (147, f, upI (upI (upI (upI (upI I 55 1 0) 56 0 21) 55 1 (0 + 1)) 56 1 20) 55 1 ((0 + 1) + 1), RP f sw) q1 3) (ck (okB (147, f, upI (upI (upI (upI (upI I 55 1 0) 56 0 21) 55 1 (0 + 1)) 56 1 20) 55 1 ((0 + 1) + 1), RP f sw) q1 3) (Q (some (.int (((upI (upI (upI (upI (upI I 55 1 0) 56 0 21) 55 1 (0 + 1)) 56 1 20) 55 1 ((0 + 1) + 1)) q1 4) + ((upI (upI (upI (upI (upI I 55 1 0) 56 0 21) 55 1 (0 + 1)) 56 1 20) 55 1 ((0 + 1) + 1)) q1 1)))) (147, f, upI (upI (upI (upI (upI I 55 1 0) 56 0 21) 55 1 (0 + 1)) 56 1 20) 55 1 ((0 + 1) + 1), RP f sw))) else if 4 = 1 + 1 then ck (okB (147, f, upI (upI (upI (upI (upI I 55 1 0) 56 0 21) 55 1 (0 + 1)) 56 1 20) 55 1 ((0 + 1) + 1), RP f sw) q1 3) (ck (okB (147, f, upI (upI (upI (upI (upI I 55 1 0) 56 0 21) 55 1 (0 + 1)) 56 1 20) 55 1 ((0 + 1) + 1), RP f sw) q1 3) (Q (some (.int (((upI (upI (upI (upI (upI I 55 1 0) 56 0 21) 55 1 (0 + 1)) 56 1 20) 55 1 ((0 + 1) + 1)) q1 4) + ((upI (upI (upI (upI (upI I 55 1 0) 56 0 21) 55 1 (0 + 1)) 56 1 20) 55 1 ((0 + 1) + 1)) q1 1)))) (147, f, upI (upI (upI (upI (upI I 55 1 0) 56 0 21) 55 1 (0 + 1)) 56 1 20) 55 1 ((0 + 1) + 1), RP f sw))) else if 4 = 1 + 1 + 1 then ck (okB (147, f, upI (upI (upI (upI (upI I 55 1 0) 56 0 23) 55 1 (0 + 1)) 56 1 20) 55 1 ((0 + 1) + 1), RP f sw) q1 3) (ck (okB (147, f, upI (upI (upI (upI (upI (upI (upI (upI (upI I 55 1 0) 56 0 23) 55 1 (0 + 1)) 56 1 20) 55 1 ((0 + 1) + 1)) 56 2 14) 55 1 (((0 + 1) + 1) + 1)) 56 3 10) 55 1 ((((0 + 1) + 1) + 1) + 1), RP f sw) q1 3) (Q (some (.int (((upI (upI (upI (upI (upI I 55 1 0) 56 0 23) 55 1 (0 + 1)) 56 1 20) 55 1 ((0 + 1) + 1)) q1 4) + (((upI (upI (upI (upI (upI (upI (upI (upI (upI I 55 1 0) 56 0 23) 55 1 (0 + 1)) 56 1 20) 55 1 ((0 + 1) + 1)) 56 2 14) 55 1 (((0 + 1) + 1) + 1)) 56 3 10) 55 1 ((((0 + 1) + 1) + 1) + 1)) q1 7) / 2)))) (147, f, upI (upI (upI (upI (upI (upI (upI (upI (upI I 55 1 0) 56 0 23) 55 1 (0 + 1)) 56 1 20) 55 1 ((0 + 1) + 1)) 56 2 14) 55 1 (((0 + 1) + 1) + 1)) 56 3 10) 55 1 ((((0 + 1) + 1) + 1) + 1), RP f sw))) else if 4 = 1 + 1 + 1 + 1 then ck (okB (147, f, upI (upI (upI (upI (upI (upI (upI I 55 1 0) 56 0 22) 55 1 (0 + 1)) 56 1 21) 55 1 ((0 + 1) + 1)) 56 2 20) 55 1 (((0 + 1) + 1) + 1), RP f sw) q1 3) (ck (okB (147, f, upI (upI (upI (upI (upI (upI (upI I 55 1 0) 56 0 22) 55 1 (0 + 1)) 56 1 21) 55 1 ((0 + 1) + 1)) 56 2 20) 55 1 (((0 + 1) + 1) + 1), RP f sw) q1 3) (Q (some (.int ((((upI (upI (upI (upI (upI (upI (upI I 55 1 0) 56 0 22) 55 1 (0 + 1)) 56 1 21) 55 1 ((0 + 1) + 1)) 56 2 20) 55 1 (((0 + 1) + 1) + 1)) q1 4) + ((upI (upI (upI (upI (upI (upI (upI I 55 1 0) 56 0 22) 55 1 (0 + 1)) 56 1 21) 55 1 ((0 + 1) + 1)) 56 2 20) 55 1 (((0 + 1) + 1) + 1)) q1 1)) + 100))) (147, f, upI (upI (upI (upI (upI (upI (upI I 55 1 0) 56 0 22) 55 1 (0 + 1)) 56 1 21) 55 1 ((0 + 1) + 1)) 56 2 20) 55 1 (((0 + 1) + 1) + 1), RP f sw))) else ck (okB (147, f, upI (upI (upI I 55 1 0) 56 0 20) 55 1 (0 + 1), RP f sw) q1 3) (Q (some (.int ((upI (upI (upI I 55 1 0) 56 0 20) 55 1 (0 + 1)) q1 4))) (147, f, upI (upI (upI I 55 1 0) 56 0 20) 55 1 (0 + 1), RP f sw)))))))) :
    wp G (d + 10) (mt 163) 0 (en (mt 163) [.ref 0, .int a0, .int a1]) [] (147, f, I, RP f sw) Q := vc_wp o [] [13, 87, 89, 160, 164, 165, 166, 167, 168, 169, 170, 171, 172, 173, 174, 175] 600 rfl hq

-- WreckCourtModel.ask(II)I, entry 0
set_option maxRecDepth 100000 in
set_option maxHeartbeats 4000000 in
theorem v_Mask (o : OKs) {G : GX} {d f : Nat} {sw : Bool} {I : Nat → Nat → Int32} {a0 : Int32} {a1 : Int32} {Q : Option Value → Hp → Prop}
    (hq : if lg_cmp a0.toInt64 0 < 0 then Q (some (.int (-1000001))) (147, f, upI I 93 0 0, RP f sw) else if 0 < lg_cmp a0.toInt64 (((I 93 35) - 1).toInt64) then Q (some (.int (-1000001))) (147, f, upI I 93 0 0, RP f sw) else if lg_cmp a1.toInt64 0 < 0 then Q (some (.int (-1000001))) (147, f, upI I 93 0 0, RP f sw) else if 0 < lg_cmp a1.toInt64 1 then Q (some (.int (-1000001))) (147, f, upI I 93 0 0, RP f sw) else if a1 = 0 then ck (ixB a0 12) (if (I 128 a0.toNatClampNeg) = (-1000000) then ck (ixB a0 12) (wp G (d + 10) (mt 256) 25 [none, none, none] [.int (I 120 a0.toNatClampNeg), .int a0, .ref 93] (147, f, upI (upI I 93 0 0) 93 79 0, RP f sw) Q) else wp G (d + 10) (mt 256) 25 [none, none, none] [.int 4, .int a0, .ref 93] (147, f, upI (upI I 93 0 0) 93 79 0, RP f sw) Q) else ck (ixB a0 12) (if (I 128 a0.toNatClampNeg) = (-1000000) then ck (ixB a0 12) (wp G (d + 10) (mt 256) 32 [none, none, none] [.int (I 120 a0.toNatClampNeg), .int a0, .ref 93] (147, f, upI (upI I 93 0 0) 93 79 0, RP f sw) Q) else wp G (d + 10) (mt 256) 32 [none, none, none] [.int 4, .int a0, .ref 93] (147, f, upI (upI I 93 0 0) 93 79 0, RP f sw) Q)) :
    wp G (d + 10) (mt 256) 0 (en (mt 256) [.ref 93, .int a0, .int a1]) [] (147, f, I, RP f sw) Q := vc_wp o [(256, 25, []), (256, 32, [])] [184, 220, 253] 600 rfl hq

-- WreckCourtModel.ask(II)I, entry 25
set_option maxRecDepth 100000 in
set_option maxHeartbeats 4000000 in
theorem v_MaskS0 (o : OKs) {G : GX} {d f : Nat} {sw : Bool} {I : Nat → Nat → Int32} {a0 : Int32} {Q : Option Value → Hp → Prop}
    (hq : ck (ixB a0 12) (Q (some (.int ((I 125 a0.toNatClampNeg) + 0))) (147, f, upI (upI (upI (upI I 93 0 0) 93 79 0) 146 0 10) 93 79 (0 + 1), RP f sw))) :
    wp G (d + 10) (mt 256) 25 [none, none, none] [.int 0, .int a0, .ref 93] (147, f, upI (upI I 93 0 0) 93 79 0, RP f sw) Q := vc_wp o [] [255, 257, 259] 600 rfl hq

-- WreckCourtModel.ask(II)I, entry 25
set_option maxRecDepth 100000 in
set_option maxHeartbeats 4000000 in
theorem v_MaskS1 (o : OKs) {G : GX} {d f : Nat} {sw : Bool} {I : Nat → Nat → Int32} {a0 : Int32} {Q : Option Value → Hp → Prop}
    (hq : ck (ixB a0 12) (ck (ixB a0 12) (Q (some (.int ((I 125 a0.toNatClampNeg) + (I 122 a0.toNatClampNeg)))) (147, f, upI (upI (upI (upI (upI (upI I 93 0 0) 93 79 0) 146 0 11) 93 79 (0 + 1)) 146 1 10) 93 79 ((0 + 1) + 1), RP f sw)))) :
    wp G (d + 10) (mt 256) 25 [none, none, none] [.int 1, .int a0, .ref 93] (147, f, upI (upI I 93 0 0) 93 79 0, RP f sw) Q := vc_wp o [] [255, 257, 259] 600 rfl hq

-- WreckCourtModel.ask(II)I, entry 25
set_option maxRecDepth 100000 in
set_option maxHeartbeats 4000000 in
theorem v_MaskS2 (o : OKs) {G : GX} {d f : Nat} {sw : Bool} {I : Nat → Nat → Int32} {a0 : Int32} {Q : Option Value → Hp → Prop}
    (hq : ck (ixB a0 12) (ck (ixB a0 12) (Q (some (.int (2 * ((I 125 a0.toNatClampNeg) + (I 122 a0.toNatClampNeg))))) (147, f, upI (upI (upI (upI (upI (upI (upI (upI I 93 0 0) 93 79 0) 146 0 12) 93 79 (0 + 1)) 146 1 11) 93 79 ((0 + 1) + 1)) 146 2 10) 93 79 (((0 + 1) + 1) + 1), RP f sw)))) :
    wp G (d + 10) (mt 256) 25 [none, none, none] [.int 2, .int a0, .ref 93] (147, f, upI (upI I 93 0 0) 93 79 0, RP f sw) Q := vc_wp o [] [255, 257, 259] 600 rfl hq

-- WreckCourtModel.ask(II)I, entry 25
set_option maxRecDepth 100000 in
set_option maxHeartbeats 4000000 in
theorem v_MaskS3 (o : OKs) {G : GX} {d f : Nat} {sw : Bool} {I : Nat → Nat → Int32} {a0 : Int32} {Q : Option Value → Hp → Prop}
    (hq : ck (ixB a0 12) (Q (some (.int ((I 125 a0.toNatClampNeg) / 2))) (147, f, upI (upI (upI (upI (upI (upI I 93 0 0) 93 79 0) 146 0 14) 93 79 (0 + 1)) 146 1 10) 93 79 ((0 + 1) + 1), RP f sw))) :
    wp G (d + 10) (mt 256) 25 [none, none, none] [.int 3, .int a0, .ref 93] (147, f, upI (upI I 93 0 0) 93 79 0, RP f sw) Q := vc_wp o [] [257, 258, 259] 600 rfl hq

-- WreckCourtModel.ask(II)I, entry 25
set_option maxRecDepth 100000 in
set_option maxHeartbeats 4000000 in
theorem v_MaskS4 (o : OKs) {G : GX} {d f : Nat} {sw : Bool} {I : Nat → Nat → Int32} {a0 : Int32} {Q : Option Value → Hp → Prop}
    (hq : ck (ixB a0 12) (ck (ixB a0 12) (ck (ixB a0 12) (ck (ixB a0 12) (Q (some (.int (((I 125 a0.toNatClampNeg) + (I 122 a0.toNatClampNeg)) - (((I 121 a0.toNatClampNeg) + (I 126 a0.toNatClampNeg)) + 100)))) (147, f, upI (upI (upI (upI (upI (upI (upI (upI (upI (upI (upI (upI (upI (upI I 93 0 0) 93 79 0) 146 0 13) 93 79 (0 + 1)) 146 1 11) 93 79 ((0 + 1) + 1)) 146 2 10) 93 79 (((0 + 1) + 1) + 1)) 146 3 22) 93 79 ((((0 + 1) + 1) + 1) + 1)) 146 4 21) 93 79 (((((0 + 1) + 1) + 1) + 1) + 1)) 146 5 20) 93 79 ((((((0 + 1) + 1) + 1) + 1) + 1) + 1), RP f sw)))))) :
    wp G (d + 10) (mt 256) 25 [none, none, none] [.int 4, .int a0, .ref 93] (147, f, upI (upI I 93 0 0) 93 79 0, RP f sw) Q := vc_wp o [] [255, 257, 259, 260] 600 rfl hq

-- WreckCourtModel.ask(II)I, entry 32
set_option maxRecDepth 100000 in
set_option maxHeartbeats 4000000 in
theorem v_MaskM0 (o : OKs) {G : GX} {d f : Nat} {sw : Bool} {I : Nat → Nat → Int32} {a0 : Int32} {Q : Option Value → Hp → Prop}
    (hq : ck (ixB a0 12) (Q (some (.int ((I 121 a0.toNatClampNeg) + 0))) (147, f, upI (upI (upI (upI I 93 0 0) 93 79 0) 146 0 20) 93 79 (0 + 1), RP f sw))) :
    wp G (d + 10) (mt 256) 32 [none, none, none] [.int 0, .int a0, .ref 93] (147, f, upI (upI I 93 0 0) 93 79 0, RP f sw) Q := vc_wp o [] [255, 259, 260] 600 rfl hq

-- WreckCourtModel.ask(II)I, entry 32
set_option maxRecDepth 100000 in
set_option maxHeartbeats 4000000 in
theorem v_MaskM1 (o : OKs) {G : GX} {d f : Nat} {sw : Bool} {I : Nat → Nat → Int32} {a0 : Int32} {Q : Option Value → Hp → Prop}
    (hq : ck (ixB a0 12) (ck (ixB a0 12) (Q (some (.int ((I 121 a0.toNatClampNeg) + (I 126 a0.toNatClampNeg)))) (147, f, upI (upI (upI (upI (upI (upI I 93 0 0) 93 79 0) 146 0 21) 93 79 (0 + 1)) 146 1 20) 93 79 ((0 + 1) + 1), RP f sw)))) :
    wp G (d + 10) (mt 256) 32 [none, none, none] [.int 1, .int a0, .ref 93] (147, f, upI (upI I 93 0 0) 93 79 0, RP f sw) Q := vc_wp o [] [255, 259, 260] 600 rfl hq

-- WreckCourtModel.ask(II)I, entry 32
set_option maxRecDepth 100000 in
set_option maxHeartbeats 4000000 in
theorem v_MaskM2 (o : OKs) {G : GX} {d f : Nat} {sw : Bool} {I : Nat → Nat → Int32} {a0 : Int32} {Q : Option Value → Hp → Prop}
    (hq : ck (ixB a0 12) (ck (ixB a0 12) (Q (some (.int ((I 121 a0.toNatClampNeg) + (I 126 a0.toNatClampNeg)))) (147, f, upI (upI (upI (upI (upI (upI I 93 0 0) 93 79 0) 146 0 21) 93 79 (0 + 1)) 146 1 20) 93 79 ((0 + 1) + 1), RP f sw)))) :
    wp G (d + 10) (mt 256) 32 [none, none, none] [.int 2, .int a0, .ref 93] (147, f, upI (upI I 93 0 0) 93 79 0, RP f sw) Q := vc_wp o [] [255, 259, 260] 600 rfl hq

-- WreckCourtModel.ask(II)I, entry 32
set_option maxRecDepth 100000 in
set_option maxHeartbeats 4000000 in
theorem v_MaskM3 (o : OKs) {G : GX} {d f : Nat} {sw : Bool} {I : Nat → Nat → Int32} {a0 : Int32} {Q : Option Value → Hp → Prop}
    (hq : ck (ixB a0 12) (ck (ixB a0 12) (Q (some (.int ((I 121 a0.toNatClampNeg) + ((I 125 a0.toNatClampNeg) / 2)))) (147, f, upI (upI (upI (upI (upI (upI (upI (upI (upI (upI I 93 0 0) 93 79 0) 146 0 23) 93 79 (0 + 1)) 146 1 20) 93 79 ((0 + 1) + 1)) 146 2 14) 93 79 (((0 + 1) + 1) + 1)) 146 3 10) 93 79 ((((0 + 1) + 1) + 1) + 1), RP f sw)))) :
    wp G (d + 10) (mt 256) 32 [none, none, none] [.int 3, .int a0, .ref 93] (147, f, upI (upI I 93 0 0) 93 79 0, RP f sw) Q := vc_wp o [] [255, 258, 259, 260] 600 rfl hq

-- WreckCourtModel.ask(II)I, entry 32
set_option maxRecDepth 100000 in
set_option maxHeartbeats 4000000 in
theorem v_MaskM4 (o : OKs) {G : GX} {d f : Nat} {sw : Bool} {I : Nat → Nat → Int32} {a0 : Int32} {Q : Option Value → Hp → Prop}
    (hq : ck (ixB a0 12) (ck (ixB a0 12) (Q (some (.int (((I 121 a0.toNatClampNeg) + (I 126 a0.toNatClampNeg)) + 100))) (147, f, upI (upI (upI (upI (upI (upI (upI (upI I 93 0 0) 93 79 0) 146 0 22) 93 79 (0 + 1)) 146 1 21) 93 79 ((0 + 1) + 1)) 146 2 20) 93 79 (((0 + 1) + 1) + 1), RP f sw)))) :
    wp G (d + 10) (mt 256) 32 [none, none, none] [.int 4, .int a0, .ref 93] (147, f, upI (upI I 93 0 0) 93 79 0, RP f sw) Q := vc_wp o [] [255, 259, 260] 600 rfl hq
end
section
/-! CALLS: ask -/
theorem upI_fa {I : St} {p k s i : Nat} {x : Int32} (h : p < 147) : upI I p k x (1000 + s) i = I (1000 + s) i := upI_pl (by omega) i
theorem co_ask {G : GX} (a0 a1 : Int32) : CO (Rel G) G 163 256 [.int a0, .int a1] := fun f sw I hR => by
  obtain ⟨b1, b2, b3, b4, b5⟩ := hR.2.2.2.2.2.2.1
  have bf : (Int32.ofNat f).toInt = f := kI_t (by omega)
  have e1 : (Int32.ofNat f - 1).toInt = f - 1 := (fb_subI (by simp only [Int32.reduceToInt]; omega) (by simp only [Int32.reduceToInt]; omega)).trans (by rw [bf]; rfl)
  obtain ⟨t1, t2, t3, t4⟩ := hR.2.2.2.2.2.2.2.2.2.2
  refine v_Cask oks ?_
  rw [b2]
  simp only [tI_lt, tI_le, Int32.reduceToInt, Int32.reduceOfNat, e1]
  repeat' (refine ite_i (fun _ => ?_) (fun _ => ?_))
  all_goals first
    | (exfalso; omega)
    | (refine ⟨_, f, sw, I, (by first | rfl | trivial), rfl, hR.1, v_Mask oks ?_⟩
       try simp only [lcl, lcg, w64]
       simp only [tI_lt, tI_le, Int32.reduceToInt, Int64.reduceToInt, Int32.reduceOfNat, b3, e1]
       repeat' (refine ite_i (fun _ => ?_) (fun _ => ?_))
       all_goals first
         | (exfalso; omega)
         | exact ⟨_, (by first | rfl | trivial), rfl, hR.free (Ag.rf.up rfl)⟩)
    | skip
  refine ck_of (ixB_i (by omega) (by omega)) ?_
  have hs : a0.toNatClampNeg < f := by rw [tnc]; omega
  obtain ⟨⟨p0, p0a, p0b⟩, ⟨p1, p1a, p1b⟩, ⟨p2, p2a, p2b⟩, ⟨p3, p3a, p3b⟩, ⟨p4, p4a, p4b⟩, ⟨p5, p5a, p5b⟩, ⟨p6, p6a, p6b⟩, ⟨p7, p7a, p7b⟩, p8, p8a⟩ := b4 _ hs
  have hst : (a0.toNatClampNeg : Int) = a0.toInt := by rw [tnc]; omega
  generalize a0.toNatClampNeg = s at hs p0 p0a p0b p1 p1a p1b p2 p2a p2b p3 p3a p3b p4 p4a p4b p5 p5a p5b p6 p6a p6b p7 p7a p7b p8 p8a hst ⊢
  have hse : a0.toInt.toNat = s := by omega
  have ix : ixB a0 12 = true := ixB_i (by omega) (by omega)
  simp only [RP_fa hs, oV, okB_fa hs, ck]
  simp only [upI_fa, Nat.reduceLT]
  simp only [p0, p1, p2, p3, p4, p5, p6, p7, p8, tI_eq a1, tI_eq (I 128 s), tI_eq (I 120 s), Int32.reduceOfInt, Int32.reduceAdd, Int32.reduceToInt]
  repeat' (refine ite_i (fun _ => ?_) (fun _ => ?_))
  all_goals first
    | (exfalso; omega)
    | (exfalso; rename_i z; revert z; decide)
    | (have ha : a1.toInt = 0 := by omega
       have hg : (I 128 s).toInt = -1000000 := by omega
       have hk : I 120 s = 1 := by rw [tI_eq]; simp only [Int32.reduceToInt]; omega
       refine ⟨_, f, sw, _, rfl, rfl, hR.rx (cs := [10, 11]) (by repeat (first | exact Ag.rf | refine Ag.up ?_ rfl)) rfl, v_Mask oks ?_⟩
       simp only [upI_ap, Nat.reduceEqDiff, reduceIte, lcl, lcg, w64]
       simp only [tnc, hse, b3, e1, tI_eq a1, tI_eq (I 128 s), tI_lt, tI_le, Int32.reduceToInt, Int64.reduceToInt, Int32.reduceOfNat, ix, ck]
       repeat' (refine ite_i (fun _ => ?_) (fun _ => ?_))
       all_goals first | (exfalso; omega) | skip
       rw [hk]
       refine v_MaskS1 oks ?_
       simp only [ix, ck, tnc, hse, upI_ap, Nat.reduceEqDiff, reduceIte]
       refine ⟨_, (by first | rfl | trivial | rw [Int32.mul_comm] | rw [Int32.add_zero]), rfl, hR.upd [10, 11] (by repeat (first | exact Ag.rf | refine Ag.up ?_ rfl)) rfl nof nof nof nof nof nof nof nof nof (fun _ => ?_)⟩
       refine ⟨?_, ?_, ?_, fun k hk => ?_⟩
       · simp only [upI_ap, Nat.reduceEqDiff, reduceIte] <;> decide
       · simp only [upI_ap, Nat.reduceEqDiff, reduceIte] <;> decide
       · simp only [upI_ap, Nat.reduceEqDiff, reduceIte] <;> decide
       · simp only [upI_ap, Nat.reduceEqDiff, reduceIte, t4 k hk])
    | (have ha : a1.toInt = 0 := by omega
       have hg : (I 128 s).toInt = -1000000 := by omega
       have hk : I 120 s = 2 := by rw [tI_eq]; simp only [Int32.reduceToInt]; omega
       refine ⟨_, f, sw, _, rfl, rfl, hR.rx (cs := [10, 11]) (by repeat (first | exact Ag.rf | refine Ag.up ?_ rfl)) rfl, v_Mask oks ?_⟩
       simp only [upI_ap, Nat.reduceEqDiff, reduceIte, lcl, lcg, w64]
       simp only [tnc, hse, b3, e1, tI_eq a1, tI_eq (I 128 s), tI_lt, tI_le, Int32.reduceToInt, Int64.reduceToInt, Int32.reduceOfNat, ix, ck]
       repeat' (refine ite_i (fun _ => ?_) (fun _ => ?_))
       all_goals first | (exfalso; omega) | skip
       rw [hk]
       refine v_MaskS2 oks ?_
       simp only [ix, ck, tnc, hse, upI_ap, Nat.reduceEqDiff, reduceIte]
       refine ⟨_, (by first | rfl | trivial | rw [Int32.mul_comm] | rw [Int32.add_zero]), rfl, hR.upd [10, 11] (by repeat (first | exact Ag.rf | refine Ag.up ?_ rfl)) rfl nof nof nof nof nof nof nof nof nof (fun _ => ?_)⟩
       refine ⟨?_, ?_, ?_, fun k hk => ?_⟩
       · simp only [upI_ap, Nat.reduceEqDiff, reduceIte] <;> decide
       · simp only [upI_ap, Nat.reduceEqDiff, reduceIte] <;> decide
       · simp only [upI_ap, Nat.reduceEqDiff, reduceIte] <;> decide
       · simp only [upI_ap, Nat.reduceEqDiff, reduceIte, t4 k hk])
    | (have ha : a1.toInt = 0 := by omega
       have hg : (I 128 s).toInt = -1000000 := by omega
       have hk : I 120 s = 3 := by rw [tI_eq]; simp only [Int32.reduceToInt]; omega
       refine ⟨_, f, sw, _, rfl, rfl, hR.rx (cs := [10, 11]) (by repeat (first | exact Ag.rf | refine Ag.up ?_ rfl)) rfl, v_Mask oks ?_⟩
       simp only [upI_ap, Nat.reduceEqDiff, reduceIte, lcl, lcg, w64]
       simp only [tnc, hse, b3, e1, tI_eq a1, tI_eq (I 128 s), tI_lt, tI_le, Int32.reduceToInt, Int64.reduceToInt, Int32.reduceOfNat, ix, ck]
       repeat' (refine ite_i (fun _ => ?_) (fun _ => ?_))
       all_goals first | (exfalso; omega) | skip
       rw [hk]
       refine v_MaskS3 oks ?_
       simp only [ix, ck, tnc, hse, upI_ap, Nat.reduceEqDiff, reduceIte]
       refine ⟨_, (by first | rfl | trivial | rw [Int32.mul_comm] | rw [Int32.add_zero]), rfl, hR.upd [10, 11] (by repeat (first | exact Ag.rf | refine Ag.up ?_ rfl)) rfl nof nof nof nof nof nof nof nof nof (fun _ => ?_)⟩
       refine ⟨?_, ?_, ?_, fun k hk => ?_⟩
       · simp only [upI_ap, Nat.reduceEqDiff, reduceIte] <;> decide
       · simp only [upI_ap, Nat.reduceEqDiff, reduceIte] <;> decide
       · simp only [upI_ap, Nat.reduceEqDiff, reduceIte] <;> decide
       · simp only [upI_ap, Nat.reduceEqDiff, reduceIte, t4 k hk])
    | (have ha : a1.toInt = 0 := by omega
       have hg : (I 128 s).toInt = -1000000 := by omega
       have hk : I 120 s = 0 := by rw [tI_eq]; simp only [Int32.reduceToInt]; omega
       refine ⟨_, f, sw, _, rfl, rfl, hR.rx (cs := [10, 11]) (by repeat (first | exact Ag.rf | refine Ag.up ?_ rfl)) rfl, v_Mask oks ?_⟩
       simp only [upI_ap, Nat.reduceEqDiff, reduceIte, lcl, lcg, w64]
       simp only [tnc, hse, b3, e1, tI_eq a1, tI_eq (I 128 s), tI_lt, tI_le, Int32.reduceToInt, Int64.reduceToInt, Int32.reduceOfNat, ix, ck]
       repeat' (refine ite_i (fun _ => ?_) (fun _ => ?_))
       all_goals first | (exfalso; omega) | skip
       rw [hk]
       refine v_MaskS0 oks ?_
       simp only [ix, ck, tnc, hse, upI_ap, Nat.reduceEqDiff, reduceIte]
       refine ⟨_, (by first | rfl | trivial | rw [Int32.mul_comm] | rw [Int32.add_zero]), rfl, hR.upd [10, 11] (by repeat (first | exact Ag.rf | refine Ag.up ?_ rfl)) rfl nof nof nof nof nof nof nof nof nof (fun _ => ?_)⟩
       refine ⟨?_, ?_, ?_, fun k hk => ?_⟩
       · simp only [upI_ap, Nat.reduceEqDiff, reduceIte] <;> decide
       · simp only [upI_ap, Nat.reduceEqDiff, reduceIte] <;> decide
       · simp only [upI_ap, Nat.reduceEqDiff, reduceIte] <;> decide
       · simp only [upI_ap, Nat.reduceEqDiff, reduceIte, t4 k hk])
    | (have ha : a1.toInt = 0 := by omega
       have hg : (I 128 s).toInt ≠ -1000000 := by omega
       refine ⟨_, f, sw, _, rfl, rfl, hR.rx (cs := [10, 11]) (by repeat (first | exact Ag.rf | refine Ag.up ?_ rfl)) rfl, v_Mask oks ?_⟩
       simp only [upI_ap, Nat.reduceEqDiff, reduceIte, lcl, lcg, w64]
       simp only [tnc, hse, b3, e1, tI_eq a1, tI_eq (I 128 s), tI_lt, tI_le, Int32.reduceToInt, Int64.reduceToInt, Int32.reduceOfNat, ix, ck]
       repeat' (refine ite_i (fun _ => ?_) (fun _ => ?_))
       all_goals first | (exfalso; omega) | skip
       refine v_MaskS4 oks ?_
       simp only [ix, ck, tnc, hse, upI_ap, Nat.reduceEqDiff, reduceIte]
       refine ⟨_, (by first | rfl | trivial | rw [Int32.mul_comm] | rw [Int32.add_zero]), rfl, hR.upd [10, 11] (by repeat (first | exact Ag.rf | refine Ag.up ?_ rfl)) rfl nof nof nof nof nof nof nof nof nof (fun _ => ?_)⟩
       refine ⟨?_, ?_, ?_, fun k hk => ?_⟩
       · simp only [upI_ap, Nat.reduceEqDiff, reduceIte] <;> decide
       · simp only [upI_ap, Nat.reduceEqDiff, reduceIte] <;> decide
       · simp only [upI_ap, Nat.reduceEqDiff, reduceIte] <;> decide
       · simp only [upI_ap, Nat.reduceEqDiff, reduceIte, t4 k hk])
    | (have ha : a1.toInt = 1 := by omega
       have hg : (I 128 s).toInt = -1000000 := by omega
       have hk : I 120 s = 1 := by rw [tI_eq]; simp only [Int32.reduceToInt]; omega
       refine ⟨_, f, sw, _, rfl, rfl, hR.rx (cs := [10, 11]) (by repeat (first | exact Ag.rf | refine Ag.up ?_ rfl)) rfl, v_Mask oks ?_⟩
       simp only [upI_ap, Nat.reduceEqDiff, reduceIte, lcl, lcg, w64]
       simp only [tnc, hse, b3, e1, tI_eq a1, tI_eq (I 128 s), tI_lt, tI_le, Int32.reduceToInt, Int64.reduceToInt, Int32.reduceOfNat, ix, ck]
       repeat' (refine ite_i (fun _ => ?_) (fun _ => ?_))
       all_goals first | (exfalso; omega) | skip
       rw [hk]
       refine v_MaskM1 oks ?_
       simp only [ix, ck, tnc, hse, upI_ap, Nat.reduceEqDiff, reduceIte]
       refine ⟨_, (by first | rfl | trivial | rw [Int32.mul_comm] | rw [Int32.add_zero]), rfl, hR.upd [10, 11] (by repeat (first | exact Ag.rf | refine Ag.up ?_ rfl)) rfl nof nof nof nof nof nof nof nof nof (fun _ => ?_)⟩
       refine ⟨?_, ?_, ?_, fun k hk => ?_⟩
       · simp only [upI_ap, Nat.reduceEqDiff, reduceIte] <;> decide
       · simp only [upI_ap, Nat.reduceEqDiff, reduceIte] <;> decide
       · simp only [upI_ap, Nat.reduceEqDiff, reduceIte] <;> decide
       · simp only [upI_ap, Nat.reduceEqDiff, reduceIte, t4 k hk])
    | (have ha : a1.toInt = 1 := by omega
       have hg : (I 128 s).toInt = -1000000 := by omega
       have hk : I 120 s = 2 := by rw [tI_eq]; simp only [Int32.reduceToInt]; omega
       refine ⟨_, f, sw, _, rfl, rfl, hR.rx (cs := [10, 11]) (by repeat (first | exact Ag.rf | refine Ag.up ?_ rfl)) rfl, v_Mask oks ?_⟩
       simp only [upI_ap, Nat.reduceEqDiff, reduceIte, lcl, lcg, w64]
       simp only [tnc, hse, b3, e1, tI_eq a1, tI_eq (I 128 s), tI_lt, tI_le, Int32.reduceToInt, Int64.reduceToInt, Int32.reduceOfNat, ix, ck]
       repeat' (refine ite_i (fun _ => ?_) (fun _ => ?_))
       all_goals first | (exfalso; omega) | skip
       rw [hk]
       refine v_MaskM2 oks ?_
       simp only [ix, ck, tnc, hse, upI_ap, Nat.reduceEqDiff, reduceIte]
       refine ⟨_, (by first | rfl | trivial | rw [Int32.mul_comm] | rw [Int32.add_zero]), rfl, hR.upd [10, 11] (by repeat (first | exact Ag.rf | refine Ag.up ?_ rfl)) rfl nof nof nof nof nof nof nof nof nof (fun _ => ?_)⟩
       refine ⟨?_, ?_, ?_, fun k hk => ?_⟩
       · simp only [upI_ap, Nat.reduceEqDiff, reduceIte] <;> decide
       · simp only [upI_ap, Nat.reduceEqDiff, reduceIte] <;> decide
       · simp only [upI_ap, Nat.reduceEqDiff, reduceIte] <;> decide
       · simp only [upI_ap, Nat.reduceEqDiff, reduceIte, t4 k hk])
    | (have ha : a1.toInt = 1 := by omega
       have hg : (I 128 s).toInt = -1000000 := by omega
       have hk : I 120 s = 3 := by rw [tI_eq]; simp only [Int32.reduceToInt]; omega
       refine ⟨_, f, sw, _, rfl, rfl, hR.rx (cs := [10, 11]) (by repeat (first | exact Ag.rf | refine Ag.up ?_ rfl)) rfl, v_Mask oks ?_⟩
       simp only [upI_ap, Nat.reduceEqDiff, reduceIte, lcl, lcg, w64]
       simp only [tnc, hse, b3, e1, tI_eq a1, tI_eq (I 128 s), tI_lt, tI_le, Int32.reduceToInt, Int64.reduceToInt, Int32.reduceOfNat, ix, ck]
       repeat' (refine ite_i (fun _ => ?_) (fun _ => ?_))
       all_goals first | (exfalso; omega) | skip
       rw [hk]
       refine v_MaskM3 oks ?_
       simp only [ix, ck, tnc, hse, upI_ap, Nat.reduceEqDiff, reduceIte]
       refine ⟨_, (by first | rfl | trivial | rw [Int32.mul_comm] | rw [Int32.add_zero]), rfl, hR.upd [10, 11] (by repeat (first | exact Ag.rf | refine Ag.up ?_ rfl)) rfl nof nof nof nof nof nof nof nof nof (fun _ => ?_)⟩
       refine ⟨?_, ?_, ?_, fun k hk => ?_⟩
       · simp only [upI_ap, Nat.reduceEqDiff, reduceIte] <;> decide
       · simp only [upI_ap, Nat.reduceEqDiff, reduceIte] <;> decide
       · simp only [upI_ap, Nat.reduceEqDiff, reduceIte] <;> decide
       · simp only [upI_ap, Nat.reduceEqDiff, reduceIte, t4 k hk])
    | (have ha : a1.toInt = 1 := by omega
       have hg : (I 128 s).toInt = -1000000 := by omega
       have hk : I 120 s = 0 := by rw [tI_eq]; simp only [Int32.reduceToInt]; omega
       refine ⟨_, f, sw, _, rfl, rfl, hR.rx (cs := [10, 11]) (by repeat (first | exact Ag.rf | refine Ag.up ?_ rfl)) rfl, v_Mask oks ?_⟩
       simp only [upI_ap, Nat.reduceEqDiff, reduceIte, lcl, lcg, w64]
       simp only [tnc, hse, b3, e1, tI_eq a1, tI_eq (I 128 s), tI_lt, tI_le, Int32.reduceToInt, Int64.reduceToInt, Int32.reduceOfNat, ix, ck]
       repeat' (refine ite_i (fun _ => ?_) (fun _ => ?_))
       all_goals first | (exfalso; omega) | skip
       rw [hk]
       refine v_MaskM0 oks ?_
       simp only [ix, ck, tnc, hse, upI_ap, Nat.reduceEqDiff, reduceIte]
       refine ⟨_, (by first | rfl | trivial | rw [Int32.mul_comm] | rw [Int32.add_zero]), rfl, hR.upd [10, 11] (by repeat (first | exact Ag.rf | refine Ag.up ?_ rfl)) rfl nof nof nof nof nof nof nof nof nof (fun _ => ?_)⟩
       refine ⟨?_, ?_, ?_, fun k hk => ?_⟩
       · simp only [upI_ap, Nat.reduceEqDiff, reduceIte] <;> decide
       · simp only [upI_ap, Nat.reduceEqDiff, reduceIte] <;> decide
       · simp only [upI_ap, Nat.reduceEqDiff, reduceIte] <;> decide
       · simp only [upI_ap, Nat.reduceEqDiff, reduceIte, t4 k hk])
    | (have ha : a1.toInt = 1 := by omega
       have hg : (I 128 s).toInt ≠ -1000000 := by omega
       refine ⟨_, f, sw, _, rfl, rfl, hR.rx (cs := [10, 11]) (by repeat (first | exact Ag.rf | refine Ag.up ?_ rfl)) rfl, v_Mask oks ?_⟩
       simp only [upI_ap, Nat.reduceEqDiff, reduceIte, lcl, lcg, w64]
       simp only [tnc, hse, b3, e1, tI_eq a1, tI_eq (I 128 s), tI_lt, tI_le, Int32.reduceToInt, Int64.reduceToInt, Int32.reduceOfNat, ix, ck]
       repeat' (refine ite_i (fun _ => ?_) (fun _ => ?_))
       all_goals first | (exfalso; omega) | skip
       refine v_MaskM4 oks ?_
       simp only [ix, ck, tnc, hse, upI_ap, Nat.reduceEqDiff, reduceIte]
       refine ⟨_, (by first | rfl | trivial | rw [Int32.mul_comm] | rw [Int32.add_zero]), rfl, hR.upd [10, 11] (by repeat (first | exact Ag.rf | refine Ag.up ?_ rfl)) rfl nof nof nof nof nof nof nof nof nof (fun _ => ?_)⟩
       refine ⟨?_, ?_, ?_, fun k hk => ?_⟩
       · simp only [upI_ap, Nat.reduceEqDiff, reduceIte] <;> decide
       · simp only [upI_ap, Nat.reduceEqDiff, reduceIte] <;> decide
       · simp only [upI_ap, Nat.reduceEqDiff, reduceIte] <;> decide
       · simp only [upI_ap, Nat.reduceEqDiff, reduceIte, t4 k hk])
end
