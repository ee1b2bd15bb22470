section
-- ===== PART A: goes FIRST, ahead of the names: the tables' words, and 'selects' of the private methods out of them =====
/-- a private method of a class that the tables say can be made, by its rows of tables_1 -/
def lw_okq (q : MethodName × Nat) : Prop := (q.1.cls ≠ "java/lang/invoke/MethodHandle" ∧ q.1.cls ≠ "java/lang/invoke/VarHandle") ∧ Cond.instantiable q.1.cls q.2 ∈ tables_1 ∧ Cond.privateMethod q.1 ∈ tables_1 ∧ Cond.instanceMethod q.1 ∈ tables_1
theorem lw_p0 : lw_okq (⟨"TrampOffice$Reader", "split", "()V"⟩, 8) := ⟨⟨by decide +kernel, by decide +kernel⟩, List.mem_of_getElem? (i := 136) (by decide +kernel), List.mem_of_getElem? (i := 299) (by decide +kernel), List.mem_of_getElem? (i := 300) (by decide +kernel)⟩
theorem lw_p1 : lw_okq (⟨"TrampOffice$Reader", "endOf", "(I)I"⟩, 8) := ⟨⟨by decide +kernel, by decide +kernel⟩, List.mem_of_getElem? (i := 136) (by decide +kernel), List.mem_of_getElem? (i := 303) (by decide +kernel), List.mem_of_getElem? (i := 304) (by decide +kernel)⟩
theorem lw_p2 : lw_okq (⟨"TrampOffice$Reader", "byteAt", "(I)I"⟩, 8) := ⟨⟨by decide +kernel, by decide +kernel⟩, List.mem_of_getElem? (i := 136) (by decide +kernel), List.mem_of_getElem? (i := 307) (by decide +kernel), List.mem_of_getElem? (i := 308) (by decide +kernel)⟩
theorem lw_p3 : lw_okq (⟨"TrampOffice$Reader", "tokenOf", "(II)I"⟩, 8) := ⟨⟨by decide +kernel, by decide +kernel⟩, List.mem_of_getElem? (i := 136) (by decide +kernel), List.mem_of_getElem? (i := 317) (by decide +kernel), List.mem_of_getElem? (i := 318) (by decide +kernel)⟩
theorem lw_p4 : lw_okq (⟨"TrampOffice$Reader", "wordToken", "(II)I"⟩, 8) := ⟨⟨by decide +kernel, by decide +kernel⟩, List.mem_of_getElem? (i := 136) (by decide +kernel), List.mem_of_getElem? (i := 321) (by decide +kernel), List.mem_of_getElem? (i := 322) (by decide +kernel)⟩
theorem lw_p5 : lw_okq (⟨"TrampOffice$Reader", "isWord", "(Ljava/lang/String;II)Z"⟩, 8) := ⟨⟨by decide +kernel, by decide +kernel⟩, List.mem_of_getElem? (i := 136) (by decide +kernel), List.mem_of_getElem? (i := 326) (by decide +kernel), List.mem_of_getElem? (i := 327) (by decide +kernel)⟩
theorem lw_p6 : lw_okq (⟨"TrampOffice$Reader", "numberToken", "(II)I"⟩, 8) := ⟨⟨by decide +kernel, by decide +kernel⟩, List.mem_of_getElem? (i := 136) (by decide +kernel), List.mem_of_getElem? (i := 341) (by decide +kernel), List.mem_of_getElem? (i := 342) (by decide +kernel)⟩
theorem lw_p7 : lw_okq (⟨"TrampOffice$Reader", "stepTo", "(I)V"⟩, 8) := ⟨⟨by decide +kernel, by decide +kernel⟩, List.mem_of_getElem? (i := 136) (by decide +kernel), List.mem_of_getElem? (i := 352) (by decide +kernel), List.mem_of_getElem? (i := 353) (by decide +kernel)⟩
theorem lw_p8 : lw_okq (⟨"TrampOffice$Reader", "readPart", "(ILTrampOffice$Text;)V"⟩, 8) := ⟨⟨by decide +kernel, by decide +kernel⟩, List.mem_of_getElem? (i := 136) (by decide +kernel), List.mem_of_getElem? (i := 356) (by decide +kernel), List.mem_of_getElem? (i := 357) (by decide +kernel)⟩
theorem lw_p9 : lw_okq (⟨"TrampOffice$Reader", "expect", "(I)V"⟩, 8) := ⟨⟨by decide +kernel, by decide +kernel⟩, List.mem_of_getElem? (i := 136) (by decide +kernel), List.mem_of_getElem? (i := 360) (by decide +kernel), List.mem_of_getElem? (i := 361) (by decide +kernel)⟩
theorem lw_p10 : lw_okq (⟨"TrampOffice$Reader", "refuse", "()V"⟩, 8) := ⟨⟨by decide +kernel, by decide +kernel⟩, List.mem_of_getElem? (i := 136) (by decide +kernel), List.mem_of_getElem? (i := 364) (by decide +kernel), List.mem_of_getElem? (i := 365) (by decide +kernel)⟩
theorem lw_p11 : lw_okq (⟨"TrampOffice$Reader", "readLevel", "(LTrampOffice$Text;II)V"⟩, 8) := ⟨⟨by decide +kernel, by decide +kernel⟩, List.mem_of_getElem? (i := 136) (by decide +kernel), List.mem_of_getElem? (i := 368) (by decide +kernel), List.mem_of_getElem? (i := 369) (by decide +kernel)⟩
theorem lw_p12 : lw_okq (⟨"TrampOffice$Reader", "readOne", "(LTrampOffice$Text;I)V"⟩, 8) := ⟨⟨by decide +kernel, by decide +kernel⟩, List.mem_of_getElem? (i := 136) (by decide +kernel), List.mem_of_getElem? (i := 372) (by decide +kernel), List.mem_of_getElem? (i := 373) (by decide +kernel)⟩
theorem lw_p13 : lw_okq (⟨"TrampOffice$Reader", "readInside", "(LTrampOffice$Text;II)V"⟩, 8) := ⟨⟨by decide +kernel, by decide +kernel⟩, List.mem_of_getElem? (i := 136) (by decide +kernel), List.mem_of_getElem? (i := 384) (by decide +kernel), List.mem_of_getElem? (i := 385) (by decide +kernel)⟩
theorem lw_p14 : lw_okq (⟨"TrampOffice", "portAt", "(I)LTrampOffice$Port;"⟩, 19) := ⟨⟨by decide +kernel, by decide +kernel⟩, List.mem_of_getElem? (i := 22) (by decide +kernel), List.mem_of_getElem? (i := 490) (by decide +kernel), List.mem_of_getElem? (i := 491) (by decide +kernel)⟩
theorem lw_p15 : lw_okq (⟨"TrampOffice", "shipAt", "(I)LTrampOffice$Ship;"⟩, 19) := ⟨⟨by decide +kernel, by decide +kernel⟩, List.mem_of_getElem? (i := 22) (by decide +kernel), List.mem_of_getElem? (i := 561) (by decide +kernel), List.mem_of_getElem? (i := 562) (by decide +kernel)⟩
def lw_privs_1 : List (MethodName × Nat) := [(⟨"TrampOffice$Reader", "split", "()V"⟩, 8), (⟨"TrampOffice$Reader", "endOf", "(I)I"⟩, 8), (⟨"TrampOffice$Reader", "byteAt", "(I)I"⟩, 8), (⟨"TrampOffice$Reader", "tokenOf", "(II)I"⟩, 8), (⟨"TrampOffice$Reader", "wordToken", "(II)I"⟩, 8), (⟨"TrampOffice$Reader", "isWord", "(Ljava/lang/String;II)Z"⟩, 8), (⟨"TrampOffice$Reader", "numberToken", "(II)I"⟩, 8), (⟨"TrampOffice$Reader", "stepTo", "(I)V"⟩, 8), (⟨"TrampOffice$Reader", "readPart", "(ILTrampOffice$Text;)V"⟩, 8), (⟨"TrampOffice$Reader", "expect", "(I)V"⟩, 8), (⟨"TrampOffice$Reader", "refuse", "()V"⟩, 8), (⟨"TrampOffice$Reader", "readLevel", "(LTrampOffice$Text;II)V"⟩, 8), (⟨"TrampOffice$Reader", "readOne", "(LTrampOffice$Text;I)V"⟩, 8), (⟨"TrampOffice$Reader", "readInside", "(LTrampOffice$Text;II)V"⟩, 8), (⟨"TrampOffice", "portAt", "(I)LTrampOffice$Port;"⟩, 19), (⟨"TrampOffice", "shipAt", "(I)LTrampOffice$Ship;"⟩, 19)]
theorem lw_r1 : ∀ q ∈ lw_privs_1, lw_okq q := List.forall_mem_cons.mpr ⟨lw_p0, List.forall_mem_cons.mpr ⟨lw_p1, List.forall_mem_cons.mpr ⟨lw_p2, List.forall_mem_cons.mpr ⟨lw_p3, List.forall_mem_cons.mpr ⟨lw_p4, List.forall_mem_cons.mpr ⟨lw_p5, List.forall_mem_cons.mpr ⟨lw_p6, List.forall_mem_cons.mpr ⟨lw_p7, List.forall_mem_cons.mpr ⟨lw_p8, List.forall_mem_cons.mpr ⟨lw_p9, List.forall_mem_cons.mpr ⟨lw_p10, List.forall_mem_cons.mpr ⟨lw_p11, List.forall_mem_cons.mpr ⟨lw_p12, List.forall_mem_cons.mpr ⟨lw_p13, List.forall_mem_cons.mpr ⟨lw_p14, List.forall_mem_cons.mpr ⟨lw_p15, fun _ h => absurd h List.not_mem_nil⟩⟩⟩⟩⟩⟩⟩⟩⟩⟩⟩⟩⟩⟩⟩⟩
theorem lw_p16 : lw_okq (⟨"TrampOffice", "offerAt", "(I)LTrampOffice$Offer;"⟩, 19) := ⟨⟨by decide +kernel, by decide +kernel⟩, List.mem_of_getElem? (i := 22) (by decide +kernel), List.mem_of_getElem? (i := 620) (by decide +kernel), List.mem_of_getElem? (i := 621) (by decide +kernel)⟩
theorem lw_p17 : lw_okq (⟨"TrampOffice$Reach", "refusal", "(LTrampOffice$Ship;LTrampOffice$Port;LTrampOffice$Offer;II)I"⟩, 5) := ⟨⟨by decide +kernel, by decide +kernel⟩, List.mem_of_getElem? (i := 42) (by decide +kernel), List.mem_of_getElem? (i := 645) (by decide +kernel), List.mem_of_getElem? (i := 646) (by decide +kernel)⟩
theorem lw_p18 : lw_okq (⟨"TrampOffice$Search", "extend", "(LTrampOffice$Ship;[LTrampOffice$Offer;LTrampOffice$Port;IJI)V"⟩, 8) := ⟨⟨by decide +kernel, by decide +kernel⟩, List.mem_of_getElem? (i := 72) (by decide +kernel), List.mem_of_getElem? (i := 674) (by decide +kernel), List.mem_of_getElem? (i := 675) (by decide +kernel)⟩
theorem lw_p19 : lw_okq (⟨"TrampOffice$Search", "isTried", "(II)Z"⟩, 8) := ⟨⟨by decide +kernel, by decide +kernel⟩, List.mem_of_getElem? (i := 72) (by decide +kernel), List.mem_of_getElem? (i := 678) (by decide +kernel), List.mem_of_getElem? (i := 679) (by decide +kernel)⟩
theorem lw_p20 : lw_okq (⟨"TrampOffice$Search", "keepIfBetter", "(IJI)V"⟩, 8) := ⟨⟨by decide +kernel, by decide +kernel⟩, List.mem_of_getElem? (i := 72) (by decide +kernel), List.mem_of_getElem? (i := 683) (by decide +kernel), List.mem_of_getElem? (i := 684) (by decide +kernel)⟩
theorem lw_p21 : lw_okq (⟨"TrampOffice", "endsRoute", "(LTrampOffice$Port;)Z"⟩, 19) := ⟨⟨by decide +kernel, by decide +kernel⟩, List.mem_of_getElem? (i := 22) (by decide +kernel), List.mem_of_getElem? (i := 706) (by decide +kernel), List.mem_of_getElem? (i := 707) (by decide +kernel)⟩
theorem lw_p22 : lw_okq (⟨"TrampOffice$Bunkering", "planWithout", "(II)V"⟩, 6) := ⟨⟨by decide +kernel, by decide +kernel⟩, List.mem_of_getElem? (i := 109) (by decide +kernel), List.mem_of_getElem? (i := 730) (by decide +kernel), List.mem_of_getElem? (i := 731) (by decide +kernel)⟩
theorem lw_p23 : lw_okq (⟨"TrampOffice$Bunkering", "costBehind", "(II)I"⟩, 6) := ⟨⟨by decide +kernel, by decide +kernel⟩, List.mem_of_getElem? (i := 109) (by decide +kernel), List.mem_of_getElem? (i := 734) (by decide +kernel), List.mem_of_getElem? (i := 735) (by decide +kernel)⟩
theorem lw_p24 : lw_okq (⟨"TrampOffice$Bunkering", "planBuying", "(III)V"⟩, 6) := ⟨⟨by decide +kernel, by decide +kernel⟩, List.mem_of_getElem? (i := 109) (by decide +kernel), List.mem_of_getElem? (i := 739) (by decide +kernel), List.mem_of_getElem? (i := 740) (by decide +kernel)⟩
theorem lw_p25 : lw_okq (⟨"TrampOffice$Bunkering", "follow", "()V"⟩, 6) := ⟨⟨by decide +kernel, by decide +kernel⟩, List.mem_of_getElem? (i := 109) (by decide +kernel), List.mem_of_getElem? (i := 744) (by decide +kernel), List.mem_of_getElem? (i := 745) (by decide +kernel)⟩
theorem lw_p26 : lw_okq (⟨"TrampOffice", "sheetAt", "(I)LTrampOffice$Sheet;"⟩, 19) := ⟨⟨by decide +kernel, by decide +kernel⟩, List.mem_of_getElem? (i := 22) (by decide +kernel), List.mem_of_getElem? (i := 771) (by decide +kernel), List.mem_of_getElem? (i := 772) (by decide +kernel)⟩
theorem lw_p27 : lw_okq (⟨"TrampOffice", "textAt", "(I)LTrampOffice$Text;"⟩, 19) := ⟨⟨by decide +kernel, by decide +kernel⟩, List.mem_of_getElem? (i := 22) (by decide +kernel), List.mem_of_getElem? (i := 812) (by decide +kernel), List.mem_of_getElem? (i := 813) (by decide +kernel)⟩
theorem lw_p28 : lw_okq (⟨"TrampOffice", "meets", "(LTrampOffice$Ship;II)Z"⟩, 19) := ⟨⟨by decide +kernel, by decide +kernel⟩, List.mem_of_getElem? (i := 22) (by decide +kernel), List.mem_of_getElem? (i := 822) (by decide +kernel), List.mem_of_getElem? (i := 823) (by decide +kernel)⟩
theorem lw_p29 : lw_okq (⟨"TrampOffice", "charterAt", "(I)LTrampOffice$Charter;"⟩, 19) := ⟨⟨by decide +kernel, by decide +kernel⟩, List.mem_of_getElem? (i := 22) (by decide +kernel), List.mem_of_getElem? (i := 826) (by decide +kernel), List.mem_of_getElem? (i := 827) (by decide +kernel)⟩
theorem lw_p30 : lw_okq (⟨"TrampOffice", "hoursOf", "(LTrampOffice$Charter;I)I"⟩, 19) := ⟨⟨by decide +kernel, by decide +kernel⟩, List.mem_of_getElem? (i := 22) (by decide +kernel), List.mem_of_getElem? (i := 886) (by decide +kernel), List.mem_of_getElem? (i := 887) (by decide +kernel)⟩
theorem lw_p31 : lw_okq (⟨"TrampOffice$Tally", "countHour", "(LTrampOffice$Text;)I"⟩, 7) := ⟨⟨by decide +kernel, by decide +kernel⟩, List.mem_of_getElem? (i := 189) (by decide +kernel), List.mem_of_getElem? (i := 902) (by decide +kernel), List.mem_of_getElem? (i := 903) (by decide +kernel)⟩
def lw_privs_2 : List (MethodName × Nat) := [(⟨"TrampOffice", "offerAt", "(I)LTrampOffice$Offer;"⟩, 19), (⟨"TrampOffice$Reach", "refusal", "(LTrampOffice$Ship;LTrampOffice$Port;LTrampOffice$Offer;II)I"⟩, 5), (⟨"TrampOffice$Search", "extend", "(LTrampOffice$Ship;[LTrampOffice$Offer;LTrampOffice$Port;IJI)V"⟩, 8), (⟨"TrampOffice$Search", "isTried", "(II)Z"⟩, 8), (⟨"TrampOffice$Search", "keepIfBetter", "(IJI)V"⟩, 8), (⟨"TrampOffice", "endsRoute", "(LTrampOffice$Port;)Z"⟩, 19), (⟨"TrampOffice$Bunkering", "planWithout", "(II)V"⟩, 6), (⟨"TrampOffice$Bunkering", "costBehind", "(II)I"⟩, 6), (⟨"TrampOffice$Bunkering", "planBuying", "(III)V"⟩, 6), (⟨"TrampOffice$Bunkering", "follow", "()V"⟩, 6), (⟨"TrampOffice", "sheetAt", "(I)LTrampOffice$Sheet;"⟩, 19), (⟨"TrampOffice", "textAt", "(I)LTrampOffice$Text;"⟩, 19), (⟨"TrampOffice", "meets", "(LTrampOffice$Ship;II)Z"⟩, 19), (⟨"TrampOffice", "charterAt", "(I)LTrampOffice$Charter;"⟩, 19), (⟨"TrampOffice", "hoursOf", "(LTrampOffice$Charter;I)I"⟩, 19), (⟨"TrampOffice$Tally", "countHour", "(LTrampOffice$Text;)I"⟩, 7)]
theorem lw_r2 : ∀ q ∈ lw_privs_2, lw_okq q := List.forall_mem_cons.mpr ⟨lw_p16, List.forall_mem_cons.mpr ⟨lw_p17, List.forall_mem_cons.mpr ⟨lw_p18, List.forall_mem_cons.mpr ⟨lw_p19, List.forall_mem_cons.mpr ⟨lw_p20, List.forall_mem_cons.mpr ⟨lw_p21, List.forall_mem_cons.mpr ⟨lw_p22, List.forall_mem_cons.mpr ⟨lw_p23, List.forall_mem_cons.mpr ⟨lw_p24, List.forall_mem_cons.mpr ⟨lw_p25, List.forall_mem_cons.mpr ⟨lw_p26, List.forall_mem_cons.mpr ⟨lw_p27, List.forall_mem_cons.mpr ⟨lw_p28, List.forall_mem_cons.mpr ⟨lw_p29, List.forall_mem_cons.mpr ⟨lw_p30, List.forall_mem_cons.mpr ⟨lw_p31, fun _ h => absurd h List.not_mem_nil⟩⟩⟩⟩⟩⟩⟩⟩⟩⟩⟩⟩⟩⟩⟩⟩
theorem lw_p32 : lw_okq (⟨"TrampOffice$Tally", "worth", "(LTrampOffice$Text;II)I"⟩, 7) := ⟨⟨by decide +kernel, by decide +kernel⟩, List.mem_of_getElem? (i := 189) (by decide +kernel), List.mem_of_getElem? (i := 906) (by decide +kernel), List.mem_of_getElem? (i := 907) (by decide +kernel)⟩
theorem lw_p33 : lw_okq (⟨"TrampOffice$Tally", "step", "(II)I"⟩, 7) := ⟨⟨by decide +kernel, by decide +kernel⟩, List.mem_of_getElem? (i := 189) (by decide +kernel), List.mem_of_getElem? (i := 914) (by decide +kernel), List.mem_of_getElem? (i := 915) (by decide +kernel)⟩
theorem lw_p34 : lw_okq (⟨"TrampOffice$Tally", "turn", "(II)I"⟩, 7) := ⟨⟨by decide +kernel, by decide +kernel⟩, List.mem_of_getElem? (i := 189) (by decide +kernel), List.mem_of_getElem? (i := 918) (by decide +kernel), List.mem_of_getElem? (i := 919) (by decide +kernel)⟩
theorem lw_p35 : lw_okq (⟨"TrampOffice$Tally", "join", "(II)I"⟩, 7) := ⟨⟨by decide +kernel, by decide +kernel⟩, List.mem_of_getElem? (i := 189) (by decide +kernel), List.mem_of_getElem? (i := 926) (by decide +kernel), List.mem_of_getElem? (i := 927) (by decide +kernel)⟩
theorem lw_p36 : lw_okq (⟨"TrampOffice$Tally", "named", "(I)I"⟩, 7) := ⟨⟨by decide +kernel, by decide +kernel⟩, List.mem_of_getElem? (i := 189) (by decide +kernel), List.mem_of_getElem? (i := 933) (by decide +kernel), List.mem_of_getElem? (i := 934) (by decide +kernel)⟩
theorem lw_p37 : lw_okq (⟨"TrampOffice$Charter", "timePay", "(LTrampOffice$Tally;)J"⟩, 9) := ⟨⟨by decide +kernel, by decide +kernel⟩, List.mem_of_getElem? (i := 833) (by decide +kernel), List.mem_of_getElem? (i := 945) (by decide +kernel), List.mem_of_getElem? (i := 946) (by decide +kernel)⟩
theorem lw_p38 : lw_okq (⟨"TrampOffice$Charter", "voyagePay", "(LTrampOffice$Tally;)J"⟩, 9) := ⟨⟨by decide +kernel, by decide +kernel⟩, List.mem_of_getElem? (i := 833) (by decide +kernel), List.mem_of_getElem? (i := 950) (by decide +kernel), List.mem_of_getElem? (i := 951) (by decide +kernel)⟩
theorem lw_p39 : lw_okq (⟨"TrampOfficeModel", "reads", "(I)V"⟩, 63) := ⟨⟨by decide +kernel, by decide +kernel⟩, List.mem_of_getElem? (i := 1004) (by decide +kernel), List.mem_of_getElem? (i := 1010) (by decide +kernel), List.mem_of_getElem? (i := 1011) (by decide +kernel)⟩
theorem lw_p40 : lw_okq (⟨"TrampOfficeModel", "next", "()V"⟩, 63) := ⟨⟨by decide +kernel, by decide +kernel⟩, List.mem_of_getElem? (i := 1004) (by decide +kernel), List.mem_of_getElem? (i := 1014) (by decide +kernel), List.mem_of_getElem? (i := 1015) (by decide +kernel)⟩
theorem lw_p41 : lw_okq (⟨"TrampOfficeModel", "byteAt", "(I)I"⟩, 63) := ⟨⟨by decide +kernel, by decide +kernel⟩, List.mem_of_getElem? (i := 1004) (by decide +kernel), List.mem_of_getElem? (i := 1018) (by decide +kernel), List.mem_of_getElem? (i := 1019) (by decide +kernel)⟩
theorem lw_p42 : lw_okq (⟨"TrampOfficeModel", "spelled", "()V"⟩, 63) := ⟨⟨by decide +kernel, by decide +kernel⟩, List.mem_of_getElem? (i := 1004) (by decide +kernel), List.mem_of_getElem? (i := 1025) (by decide +kernel), List.mem_of_getElem? (i := 1026) (by decide +kernel)⟩
theorem lw_p43 : lw_okq (⟨"TrampOfficeModel", "number", "()V"⟩, 63) := ⟨⟨by decide +kernel, by decide +kernel⟩, List.mem_of_getElem? (i := 1004) (by decide +kernel), List.mem_of_getElem? (i := 1032) (by decide +kernel), List.mem_of_getElem? (i := 1033) (by decide +kernel)⟩
theorem lw_p44 : lw_okq (⟨"TrampOfficeModel", "need", "(I)V"⟩, 63) := ⟨⟨by decide +kernel, by decide +kernel⟩, List.mem_of_getElem? (i := 1004) (by decide +kernel), List.mem_of_getElem? (i := 1036) (by decide +kernel), List.mem_of_getElem? (i := 1037) (by decide +kernel)⟩
theorem lw_p45 : lw_okq (⟨"TrampOfficeModel", "isWrong", "()Z"⟩, 63) := ⟨⟨by decide +kernel, by decide +kernel⟩, List.mem_of_getElem? (i := 1004) (by decide +kernel), List.mem_of_getElem? (i := 1040) (by decide +kernel), List.mem_of_getElem? (i := 1041) (by decide +kernel)⟩
theorem lw_p46 : lw_okq (⟨"TrampOfficeModel", "cannot", "()V"⟩, 63) := ⟨⟨by decide +kernel, by decide +kernel⟩, List.mem_of_getElem? (i := 1004) (by decide +kernel), List.mem_of_getElem? (i := 1044) (by decide +kernel), List.mem_of_getElem? (i := 1045) (by decide +kernel)⟩
theorem lw_p47 : lw_okq (⟨"TrampOfficeModel", "either", "()V"⟩, 63) := ⟨⟨by decide +kernel, by decide +kernel⟩, List.mem_of_getElem? (i := 1004) (by decide +kernel), List.mem_of_getElem? (i := 1048) (by decide +kernel), List.mem_of_getElem? (i := 1049) (by decide +kernel)⟩
def lw_privs_3 : List (MethodName × Nat) := [(⟨"TrampOffice$Tally", "worth", "(LTrampOffice$Text;II)I"⟩, 7), (⟨"TrampOffice$Tally", "step", "(II)I"⟩, 7), (⟨"TrampOffice$Tally", "turn", "(II)I"⟩, 7), (⟨"TrampOffice$Tally", "join", "(II)I"⟩, 7), (⟨"TrampOffice$Tally", "named", "(I)I"⟩, 7), (⟨"TrampOffice$Charter", "timePay", "(LTrampOffice$Tally;)J"⟩, 9), (⟨"TrampOffice$Charter", "voyagePay", "(LTrampOffice$Tally;)J"⟩, 9), (⟨"TrampOfficeModel", "reads", "(I)V"⟩, 63), (⟨"TrampOfficeModel", "next", "()V"⟩, 63), (⟨"TrampOfficeModel", "byteAt", "(I)I"⟩, 63), (⟨"TrampOfficeModel", "spelled", "()V"⟩, 63), (⟨"TrampOfficeModel", "number", "()V"⟩, 63), (⟨"TrampOfficeModel", "need", "(I)V"⟩, 63), (⟨"TrampOfficeModel", "isWrong", "()Z"⟩, 63), (⟨"TrampOfficeModel", "cannot", "()V"⟩, 63), (⟨"TrampOfficeModel", "either", "()V"⟩, 63)]
theorem lw_r3 : ∀ q ∈ lw_privs_3, lw_okq q := List.forall_mem_cons.mpr ⟨lw_p32, List.forall_mem_cons.mpr ⟨lw_p33, List.forall_mem_cons.mpr ⟨lw_p34, List.forall_mem_cons.mpr ⟨lw_p35, List.forall_mem_cons.mpr ⟨lw_p36, List.forall_mem_cons.mpr ⟨lw_p37, List.forall_mem_cons.mpr ⟨lw_p38, List.forall_mem_cons.mpr ⟨lw_p39, List.forall_mem_cons.mpr ⟨lw_p40, List.forall_mem_cons.mpr ⟨lw_p41, List.forall_mem_cons.mpr ⟨lw_p42, List.forall_mem_cons.mpr ⟨lw_p43, List.forall_mem_cons.mpr ⟨lw_p44, List.forall_mem_cons.mpr ⟨lw_p45, List.forall_mem_cons.mpr ⟨lw_p46, List.forall_mem_cons.mpr ⟨lw_p47, fun _ h => absurd h List.not_mem_nil⟩⟩⟩⟩⟩⟩⟩⟩⟩⟩⟩⟩⟩⟩⟩⟩
theorem lw_p48 : lw_okq (⟨"TrampOfficeModel", "both", "()V"⟩, 63) := ⟨⟨by decide +kernel, by decide +kernel⟩, List.mem_of_getElem? (i := 1004) (by decide +kernel), List.mem_of_getElem? (i := 1052) (by decide +kernel), List.mem_of_getElem? (i := 1053) (by decide +kernel)⟩
theorem lw_p49 : lw_okq (⟨"TrampOfficeModel", "not", "()V"⟩, 63) := ⟨⟨by decide +kernel, by decide +kernel⟩, List.mem_of_getElem? (i := 1004) (by decide +kernel), List.mem_of_getElem? (i := 1056) (by decide +kernel), List.mem_of_getElem? (i := 1057) (by decide +kernel)⟩
theorem lw_p50 : lw_okq (⟨"TrampOfficeModel", "opens", "()V"⟩, 63) := ⟨⟨by decide +kernel, by decide +kernel⟩, List.mem_of_getElem? (i := 1004) (by decide +kernel), List.mem_of_getElem? (i := 1060) (by decide +kernel), List.mem_of_getElem? (i := 1061) (by decide +kernel)⟩
theorem lw_p51 : lw_okq (⟨"TrampOfficeModel", "emit", "(II)V"⟩, 63) := ⟨⟨by decide +kernel, by decide +kernel⟩, List.mem_of_getElem? (i := 1004) (by decide +kernel), List.mem_of_getElem? (i := 1064) (by decide +kernel), List.mem_of_getElem? (i := 1065) (by decide +kernel)⟩
theorem lw_p52 : lw_okq (⟨"TrampOfficeModel", "added", "()V"⟩, 63) := ⟨⟨by decide +kernel, by decide +kernel⟩, List.mem_of_getElem? (i := 1004) (by decide +kernel), List.mem_of_getElem? (i := 1068) (by decide +kernel), List.mem_of_getElem? (i := 1069) (by decide +kernel)⟩
theorem lw_p53 : lw_okq (⟨"TrampOfficeModel", "term", "()V"⟩, 63) := ⟨⟨by decide +kernel, by decide +kernel⟩, List.mem_of_getElem? (i := 1004) (by decide +kernel), List.mem_of_getElem? (i := 1072) (by decide +kernel), List.mem_of_getElem? (i := 1073) (by decide +kernel)⟩
theorem lw_p54 : lw_okq (⟨"TrampOfficeModel", "one", "()V"⟩, 63) := ⟨⟨by decide +kernel, by decide +kernel⟩, List.mem_of_getElem? (i := 1004) (by decide +kernel), List.mem_of_getElem? (i := 1076) (by decide +kernel), List.mem_of_getElem? (i := 1077) (by decide +kernel)⟩
theorem lw_p55 : lw_okq (⟨"TrampOfficeModel", "isPort", "(I)Z"⟩, 63) := ⟨⟨by decide +kernel, by decide +kernel⟩, List.mem_of_getElem? (i := 1004) (by decide +kernel), List.mem_of_getElem? (i := 1282) (by decide +kernel), List.mem_of_getElem? (i := 1283) (by decide +kernel)⟩
theorem lw_p56 : lw_okq (⟨"TrampOfficeModel", "isShip", "(I)Z"⟩, 63) := ⟨⟨by decide +kernel, by decide +kernel⟩, List.mem_of_getElem? (i := 1004) (by decide +kernel), List.mem_of_getElem? (i := 1298) (by decide +kernel), List.mem_of_getElem? (i := 1299) (by decide +kernel)⟩
theorem lw_p57 : lw_okq (⟨"TrampOfficeModel", "isOffer", "(I)Z"⟩, 63) := ⟨⟨by decide +kernel, by decide +kernel⟩, List.mem_of_getElem? (i := 1004) (by decide +kernel), List.mem_of_getElem? (i := 1321) (by decide +kernel), List.mem_of_getElem? (i := 1322) (by decide +kernel)⟩
theorem lw_p58 : lw_okq (⟨"TrampOfficeModel", "hinders", "(IIII)I"⟩, 63) := ⟨⟨by decide +kernel, by decide +kernel⟩, List.mem_of_getElem? (i := 1004) (by decide +kernel), List.mem_of_getElem? (i := 1325) (by decide +kernel), List.mem_of_getElem? (i := 1326) (by decide +kernel)⟩
theorem lw_p59 : lw_okq (⟨"TrampOfficeModel", "lacks", "(II)Z"⟩, 63) := ⟨⟨by decide +kernel, by decide +kernel⟩, List.mem_of_getElem? (i := 1004) (by decide +kernel), List.mem_of_getElem? (i := 1329) (by decide +kernel), List.mem_of_getElem? (i := 1330) (by decide +kernel)⟩
theorem lw_p60 : lw_okq (⟨"TrampOfficeModel", "begins", "(IIII)I"⟩, 63) := ⟨⟨by decide +kernel, by decide +kernel⟩, List.mem_of_getElem? (i := 1004) (by decide +kernel), List.mem_of_getElem? (i := 1333) (by decide +kernel), List.mem_of_getElem? (i := 1334) (by decide +kernel)⟩
theorem lw_p61 : lw_okq (⟨"TrampOfficeModel", "hours", "(III)I"⟩, 63) := ⟨⟨by decide +kernel, by decide +kernel⟩, List.mem_of_getElem? (i := 1004) (by decide +kernel), List.mem_of_getElem? (i := 1337) (by decide +kernel), List.mem_of_getElem? (i := 1338) (by decide +kernel)⟩
theorem lw_p62 : lw_okq (⟨"TrampOfficeModel", "burns", "(III)I"⟩, 63) := ⟨⟨by decide +kernel, by decide +kernel⟩, List.mem_of_getElem? (i := 1004) (by decide +kernel), List.mem_of_getElem? (i := 1344) (by decide +kernel), List.mem_of_getElem? (i := 1345) (by decide +kernel)⟩
theorem lw_p63 : lw_okq (⟨"TrampOfficeModel", "ends", "(IIII)I"⟩, 63) := ⟨⟨by decide +kernel, by decide +kernel⟩, List.mem_of_getElem? (i := 1004) (by decide +kernel), List.mem_of_getElem? (i := 1348) (by decide +kernel), List.mem_of_getElem? (i := 1349) (by decide +kernel)⟩
def lw_privs_4 : List (MethodName × Nat) := [(⟨"TrampOfficeModel", "both", "()V"⟩, 63), (⟨"TrampOfficeModel", "not", "()V"⟩, 63), (⟨"TrampOfficeModel", "opens", "()V"⟩, 63), (⟨"TrampOfficeModel", "emit", "(II)V"⟩, 63), (⟨"TrampOfficeModel", "added", "()V"⟩, 63), (⟨"TrampOfficeModel", "term", "()V"⟩, 63), (⟨"TrampOfficeModel", "one", "()V"⟩, 63), (⟨"TrampOfficeModel", "isPort", "(I)Z"⟩, 63), (⟨"TrampOfficeModel", "isShip", "(I)Z"⟩, 63), (⟨"TrampOfficeModel", "isOffer", "(I)Z"⟩, 63), (⟨"TrampOfficeModel", "hinders", "(IIII)I"⟩, 63), (⟨"TrampOfficeModel", "lacks", "(II)Z"⟩, 63), (⟨"TrampOfficeModel", "begins", "(IIII)I"⟩, 63), (⟨"TrampOfficeModel", "hours", "(III)I"⟩, 63), (⟨"TrampOfficeModel", "burns", "(III)I"⟩, 63), (⟨"TrampOfficeModel", "ends", "(IIII)I"⟩, 63)]
theorem lw_r4 : ∀ q ∈ lw_privs_4, lw_okq q := List.forall_mem_cons.mpr ⟨lw_p48, List.forall_mem_cons.mpr ⟨lw_p49, List.forall_mem_cons.mpr ⟨lw_p50, List.forall_mem_cons.mpr ⟨lw_p51, List.forall_mem_cons.mpr ⟨lw_p52, List.forall_mem_cons.mpr ⟨lw_p53, List.forall_mem_cons.mpr ⟨lw_p54, List.forall_mem_cons.mpr ⟨lw_p55, List.forall_mem_cons.mpr ⟨lw_p56, List.forall_mem_cons.mpr ⟨lw_p57, List.forall_mem_cons.mpr ⟨lw_p58, List.forall_mem_cons.mpr ⟨lw_p59, List.forall_mem_cons.mpr ⟨lw_p60, List.forall_mem_cons.mpr ⟨lw_p61, List.forall_mem_cons.mpr ⟨lw_p62, List.forall_mem_cons.mpr ⟨lw_p63, fun _ h => absurd h List.not_mem_nil⟩⟩⟩⟩⟩⟩⟩⟩⟩⟩⟩⟩⟩⟩⟩⟩
theorem lw_p64 : lw_okq (⟨"TrampOfficeModel", "burnt", "(III)I"⟩, 63) := ⟨⟨by decide +kernel, by decide +kernel⟩, List.mem_of_getElem? (i := 1004) (by decide +kernel), List.mem_of_getElem? (i := 1357) (by decide +kernel), List.mem_of_getElem? (i := 1358) (by decide +kernel)⟩
theorem lw_p65 : lw_okq (⟨"TrampOfficeModel", "earns", "(III)J"⟩, 63) := ⟨⟨by decide +kernel, by decide +kernel⟩, List.mem_of_getElem? (i := 1004) (by decide +kernel), List.mem_of_getElem? (i := 1361) (by decide +kernel), List.mem_of_getElem? (i := 1362) (by decide +kernel)⟩
theorem lw_p66 : lw_okq (⟨"TrampOfficeModel", "seeks", "(II)V"⟩, 63) := ⟨⟨by decide +kernel, by decide +kernel⟩, List.mem_of_getElem? (i := 1004) (by decide +kernel), List.mem_of_getElem? (i := 1369) (by decide +kernel), List.mem_of_getElem? (i := 1370) (by decide +kernel)⟩
theorem lw_p67 : lw_okq (⟨"TrampOfficeModel", "chains", "(IIIIIJ)V"⟩, 63) := ⟨⟨by decide +kernel, by decide +kernel⟩, List.mem_of_getElem? (i := 1004) (by decide +kernel), List.mem_of_getElem? (i := 1373) (by decide +kernel), List.mem_of_getElem? (i := 1374) (by decide +kernel)⟩
theorem lw_p68 : lw_okq (⟨"TrampOfficeModel", "reckons", "(I)Z"⟩, 63) := ⟨⟨by decide +kernel, by decide +kernel⟩, List.mem_of_getElem? (i := 1004) (by decide +kernel), List.mem_of_getElem? (i := 1397) (by decide +kernel), List.mem_of_getElem? (i := 1398) (by decide +kernel)⟩
theorem lw_p69 : lw_okq (⟨"TrampOfficeModel", "behind", "(III)I"⟩, 63) := ⟨⟨by decide +kernel, by decide +kernel⟩, List.mem_of_getElem? (i := 1004) (by decide +kernel), List.mem_of_getElem? (i := 1401) (by decide +kernel), List.mem_of_getElem? (i := 1402) (by decide +kernel)⟩
theorem lw_p70 : lw_okq (⟨"TrampOfficeModel", "has", "(III)Z"⟩, 63) := ⟨⟨by decide +kernel, by decide +kernel⟩, List.mem_of_getElem? (i := 1004) (by decide +kernel), List.mem_of_getElem? (i := 1446) (by decide +kernel), List.mem_of_getElem? (i := 1447) (by decide +kernel)⟩
theorem lw_p71 : lw_okq (⟨"TrampOfficeModel", "isCharter", "(I)Z"⟩, 63) := ⟨⟨by decide +kernel, by decide +kernel⟩, List.mem_of_getElem? (i := 1004) (by decide +kernel), List.mem_of_getElem? (i := 1455) (by decide +kernel), List.mem_of_getElem? (i := 1456) (by decide +kernel)⟩
theorem lw_p72 : lw_okq (⟨"TrampOfficeModel", "looks", "(II)I"⟩, 63) := ⟨⟨by decide +kernel, by decide +kernel⟩, List.mem_of_getElem? (i := 1004) (by decide +kernel), List.mem_of_getElem? (i := 1463) (by decide +kernel), List.mem_of_getElem? (i := 1464) (by decide +kernel)⟩
theorem lw_p73 : lw_okq (⟨"TrampOfficeModel", "worked", "(IIII)I"⟩, 63) := ⟨⟨by decide +kernel, by decide +kernel⟩, List.mem_of_getElem? (i := 1004) (by decide +kernel), List.mem_of_getElem? (i := 1467) (by decide +kernel), List.mem_of_getElem? (i := 1468) (by decide +kernel)⟩
theorem lw_p74 : lw_okq (⟨"TrampOfficeModel", "named", "(IIII)I"⟩, 63) := ⟨⟨by decide +kernel, by decide +kernel⟩, List.mem_of_getElem? (i := 1004) (by decide +kernel), List.mem_of_getElem? (i := 1471) (by decide +kernel), List.mem_of_getElem? (i := 1472) (by decide +kernel)⟩
theorem lw_p75 : lw_okq (⟨"TrampOfficeModel", "voyage", "(I)J"⟩, 63) := ⟨⟨by decide +kernel, by decide +kernel⟩, List.mem_of_getElem? (i := 1004) (by decide +kernel), List.mem_of_getElem? (i := 1483) (by decide +kernel), List.mem_of_getElem? (i := 1484) (by decide +kernel)⟩
theorem lw_p76 : lw_okq (⟨"TrampOfficeModel", "accountOf", "(II)I"⟩, 63) := ⟨⟨by decide +kernel, by decide +kernel⟩, List.mem_of_getElem? (i := 1004) (by decide +kernel), List.mem_of_getElem? (i := 1495) (by decide +kernel), List.mem_of_getElem? (i := 1496) (by decide +kernel)⟩
def lw_privs_5 : List (MethodName × Nat) := [(⟨"TrampOfficeModel", "burnt", "(III)I"⟩, 63), (⟨"TrampOfficeModel", "earns", "(III)J"⟩, 63), (⟨"TrampOfficeModel", "seeks", "(II)V"⟩, 63), (⟨"TrampOfficeModel", "chains", "(IIIIIJ)V"⟩, 63), (⟨"TrampOfficeModel", "reckons", "(I)Z"⟩, 63), (⟨"TrampOfficeModel", "behind", "(III)I"⟩, 63), (⟨"TrampOfficeModel", "has", "(III)Z"⟩, 63), (⟨"TrampOfficeModel", "isCharter", "(I)Z"⟩, 63), (⟨"TrampOfficeModel", "looks", "(II)I"⟩, 63), (⟨"TrampOfficeModel", "worked", "(IIII)I"⟩, 63), (⟨"TrampOfficeModel", "named", "(IIII)I"⟩, 63), (⟨"TrampOfficeModel", "voyage", "(I)J"⟩, 63), (⟨"TrampOfficeModel", "accountOf", "(II)I"⟩, 63)]
theorem lw_r5 : ∀ q ∈ lw_privs_5, lw_okq q := List.forall_mem_cons.mpr ⟨lw_p64, List.forall_mem_cons.mpr ⟨lw_p65, List.forall_mem_cons.mpr ⟨lw_p66, List.forall_mem_cons.mpr ⟨lw_p67, List.forall_mem_cons.mpr ⟨lw_p68, List.forall_mem_cons.mpr ⟨lw_p69, List.forall_mem_cons.mpr ⟨lw_p70, List.forall_mem_cons.mpr ⟨lw_p71, List.forall_mem_cons.mpr ⟨lw_p72, List.forall_mem_cons.mpr ⟨lw_p73, List.forall_mem_cons.mpr ⟨lw_p74, List.forall_mem_cons.mpr ⟨lw_p75, List.forall_mem_cons.mpr ⟨lw_p76, fun _ h => absurd h List.not_mem_nil⟩⟩⟩⟩⟩⟩⟩⟩⟩⟩⟩⟩⟩
def lw_privs : List (MethodName × Nat) := lw_privs_1 ++ (lw_privs_2 ++ (lw_privs_3 ++ (lw_privs_4 ++ (lw_privs_5))))
def lw_tbl : List Cond := k2_sels lw_privs ++ tables_1
theorem lw_privs_ok : ∀ q ∈ lw_privs, lw_okq q := by
  show ∀ q ∈ lw_privs_1 ++ (lw_privs_2 ++ (lw_privs_3 ++ (lw_privs_4 ++ (lw_privs_5)))), lw_okq q
  exact List.forall_mem_append.mpr ⟨lw_r1, List.forall_mem_append.mpr ⟨lw_r2, List.forall_mem_append.mpr ⟨lw_r3, List.forall_mem_append.mpr ⟨lw_r4, lw_r5⟩⟩⟩⟩
-- ===== end of PART A; then your names; then what follows =====
end
section
def RX0 : String := "TrampOffice$Bunkering"
def TX0 : u_T := fun k => match k with
  | 0 => ("TrampOffice$Bunkering", "legs", "I", false)
  | 1 => ("TrampOffice$Bunkering", "burns", "[I", true)
  | 2 => ("TrampOffice$Bunkering", "tons", "[I", true)
  | 3 => ("TrampOffice$Bunkering", "buys", "[[I", true)
  | 4 => ("TrampOffice$Bunkering", "costs", "[I", true)
  | _ => ("TrampOffice$Bunkering", "costsNext", "[I", true)
def tyX0 : Nat → FieldType := fun k => match k with
  | 0 => .int
  | 1 => .array .int
  | 2 => .array .int
  | 3 => .array (.array .int)
  | 4 => .array .int
  | _ => .array .int
theorem nmX0 : ∀ a, a < 6 → ∀ b, b < 6 → a ≠ b → (TX0 a).2.1 ≠ (TX0 b).2.1 := by decide +kernel
theorem tyX0_ok : ∀ k, k < 6 → parseFieldDescriptor (TX0 k).2.2.1 = some (tyX0 k) := by decide +kernel
abbrev cX0_init : ByteArray := prog_2_method_1_code
def yX0_init : MethodName := ⟨RX0, "<init>", "()V"⟩
abbrev cX0_plan : ByteArray := prog_2_method_2_code
def yX0_plan : MethodName := ⟨RX0, "plan", "(LTrampOffice$Ship;[LTrampOffice$Port;I)I"⟩
abbrev cX0_tonsAt : ByteArray := prog_2_method_3_code
def yX0_tonsAt : MethodName := ⟨RX0, "tonsAt", "(I)I"⟩
abbrev cX0_planWithout : ByteArray := prog_2_method_4_code
def yX0_planWithout : MethodName := ⟨RX0, "planWithout", "(II)V"⟩
abbrev cX0_planBuying : ByteArray := prog_2_method_5_code
def yX0_planBuying : MethodName := ⟨RX0, "planBuying", "(III)V"⟩
abbrev cX0_costBehind : ByteArray := prog_2_method_6_code
def yX0_costBehind : MethodName := ⟨RX0, "costBehind", "(II)I"⟩
abbrev cX0_follow : ByteArray := prog_2_method_7_code
def yX0_follow : MethodName := ⟨RX0, "follow", "()V"⟩
def RX1 : String := "TrampOffice$Charter"
def TX1 : u_T := fun k => match k with
  | 0 => ("TrampOffice$Charter", "kind", "I", true)
  | 1 => ("TrampOffice$Charter", "ship", "LTrampOffice$Ship;", true)
  | 2 => ("TrampOffice$Charter", "from", "I", true)
  | 3 => ("TrampOffice$Charter", "to", "I", true)
  | 4 => ("TrampOffice$Charter", "text", "LTrampOffice$Text;", true)
  | 5 => ("TrampOffice$Charter", "amount", "I", true)
  | 6 => ("TrampOffice$Charter", "rate", "I", true)
  | 7 => ("TrampOffice$Charter", "free", "I", true)
  | _ => ("TrampOffice$Charter", "state", "I", false)
def tyX1 : Nat → FieldType := fun k => match k with
  | 0 => .int
  | 1 => .object "TrampOffice$Ship"
  | 2 => .int
  | 3 => .int
  | 4 => .object "TrampOffice$Text"
  | 5 => .int
  | 6 => .int
  | 7 => .int
  | _ => .int
theorem nmX1 : ∀ a, a < 9 → ∀ b, b < 9 → a ≠ b → (TX1 a).2.1 ≠ (TX1 b).2.1 := by decide +kernel
theorem tyX1_ok : ∀ k, k < 9 → parseFieldDescriptor (TX1 k).2.2.1 = some (tyX1 k) := by decide +kernel
abbrev cX1_init : ByteArray := prog_3_method_1_code
def yX1_init : MethodName := ⟨RX1, "<init>", "(ILTrampOffice$Ship;IILTrampOffice$Text;J)V"⟩
abbrev cX1_isKind : ByteArray := prog_3_method_2_code
def yX1_isKind : MethodName := ⟨RX1, "isKind", "(I)Z"⟩
abbrev cX1_isOf : ByteArray := prog_3_method_3_code
def yX1_isOf : MethodName := ⟨RX1, "isOf", "(LTrampOffice$Ship;)Z"⟩
abbrev cX1_has : ByteArray := prog_3_method_4_code
def yX1_has : MethodName := ⟨RX1, "has", "(I)Z"⟩
abbrev cX1_isUnder : ByteArray := prog_3_method_5_code
def yX1_isUnder : MethodName := ⟨RX1, "isUnder", "(I)Z"⟩
abbrev cX1_loggedHours : ByteArray := prog_3_method_6_code
def yX1_loggedHours : MethodName := ⟨RX1, "loggedHours", "()I"⟩
abbrev cX1_payFor : ByteArray := prog_3_method_7_code
def yX1_payFor : MethodName := ⟨RX1, "payFor", "(LTrampOffice$Tally;)J"⟩
abbrev cX1_voyagePay : ByteArray := prog_3_method_8_code
def yX1_voyagePay : MethodName := ⟨RX1, "voyagePay", "(LTrampOffice$Tally;)J"⟩
abbrev cX1_timePay : ByteArray := prog_3_method_9_code
def yX1_timePay : MethodName := ⟨RX1, "timePay", "(LTrampOffice$Tally;)J"⟩
def RX2 : String := "TrampOffice$Offer"
def TX2 : u_T := fun k => match k with
  | 0 => ("TrampOffice$Offer", "from", "LTrampOffice$Port;", true)
  | 1 => ("TrampOffice$Offer", "to", "LTrampOffice$Port;", true)
  | 2 => ("TrampOffice$Offer", "tons", "I", true)
  | 3 => ("TrampOffice$Offer", "rate", "I", true)
  | 4 => ("TrampOffice$Offer", "open", "I", true)
  | 5 => ("TrampOffice$Offer", "close", "I", true)
  | _ => ("TrampOffice$Offer", "gone", "Z", false)
def tyX2 : Nat → FieldType := fun k => match k with
  | 0 => .object "TrampOffice$Port"
  | 1 => .object "TrampOffice$Port"
  | 2 => .int
  | 3 => .int
  | 4 => .int
  | 5 => .int
  | _ => .boolean
theorem nmX2 : ∀ a, a < 7 → ∀ b, b < 7 → a ≠ b → (TX2 a).2.1 ≠ (TX2 b).2.1 := by decide +kernel
theorem tyX2_ok : ∀ k, k < 7 → parseFieldDescriptor (TX2 k).2.2.1 = some (tyX2 k) := by decide +kernel
abbrev cX2_init : ByteArray := prog_4_method_1_code
def yX2_init : MethodName := ⟨RX2, "<init>", "(LTrampOffice$Port;LTrampOffice$Port;IIII)V"⟩
def RX3 : String := "TrampOffice$Port"
def TX3 : u_T := fun k => match k with
  | 0 => ("TrampOffice$Port", "number", "I", true)
  | 1 => ("TrampOffice$Port", "gang", "I", true)
  | 2 => ("TrampOffice$Port", "price", "I", false)
  | _ => ("TrampOffice$Port", "miles", "[I", true)
def tyX3 : Nat → FieldType := fun k => match k with
  | 0 => .int
  | 1 => .int
  | 2 => .int
  | _ => .array .int
theorem nmX3 : ∀ a, a < 4 → ∀ b, b < 4 → a ≠ b → (TX3 a).2.1 ≠ (TX3 b).2.1 := by decide +kernel
theorem tyX3_ok : ∀ k, k < 4 → parseFieldDescriptor (TX3 k).2.2.1 = some (tyX3 k) := by decide +kernel
abbrev cX3_init : ByteArray := prog_5_method_1_code
def yX3_init : MethodName := ⟨RX3, "<init>", "(III)V"⟩
abbrev cX3_milesTo : ByteArray := prog_5_method_2_code
def yX3_milesTo : MethodName := ⟨RX3, "milesTo", "(LTrampOffice$Port;)I"⟩
abbrev cX3_putMiles : ByteArray := prog_5_method_3_code
def yX3_putMiles : MethodName := ⟨RX3, "putMiles", "(LTrampOffice$Port;I)V"⟩
abbrev cX3_lacksWayTo : ByteArray := prog_5_method_4_code
def yX3_lacksWayTo : MethodName := ⟨RX3, "lacksWayTo", "(LTrampOffice$Port;)Z"⟩
def RX4 : String := "TrampOffice$Reach"
def TX4 : u_T := fun k => match k with
  | 0 => ("TrampOffice$Reach", "why", "I", false)
  | 1 => ("TrampOffice$Reach", "begin", "I", false)
  | 2 => ("TrampOffice$Reach", "end", "I", false)
  | 3 => ("TrampOffice$Reach", "burned", "I", false)
  | _ => ("TrampOffice$Reach", "earned", "J", false)
def tyX4 : Nat → FieldType := fun k => match k with
  | 0 => .int
  | 1 => .int
  | 2 => .int
  | 3 => .int
  | _ => .long
theorem nmX4 : ∀ a, a < 5 → ∀ b, b < 5 → a ≠ b → (TX4 a).2.1 ≠ (TX4 b).2.1 := by decide +kernel
theorem tyX4_ok : ∀ k, k < 5 → parseFieldDescriptor (TX4 k).2.2.1 = some (tyX4 k) := by decide +kernel
abbrev cX4_init : ByteArray := prog_6_method_1_code
def yX4_init : MethodName := ⟨RX4, "<init>", "()V"⟩
abbrev cX4_reckon : ByteArray := prog_6_method_2_code
def yX4_reckon : MethodName := ⟨RX4, "reckon", "(LTrampOffice$Ship;LTrampOffice$Port;ILTrampOffice$Offer;)V"⟩
abbrev cX4_refusal : ByteArray := prog_6_method_3_code
def yX4_refusal : MethodName := ⟨RX4, "refusal", "(LTrampOffice$Ship;LTrampOffice$Port;LTrampOffice$Offer;II)I"⟩
abbrev cX4_lacksCoal : ByteArray := prog_6_method_4_code
def yX4_lacksCoal : MethodName := ⟨RX4, "lacksCoal", "(LTrampOffice$Port;I)Z"⟩
def RX5 : String := "TrampOffice$Reader"
def TX5 : u_T := fun k => match k with
  | 0 => ("TrampOffice$Reader", "size", "I", false)
  | 1 => ("TrampOffice$Reader", "tape", "[I", true)
  | 2 => ("TrampOffice$Reader", "count", "I", false)
  | 3 => ("TrampOffice$Reader", "tokens", "[I", true)
  | 4 => ("TrampOffice$Reader", "places", "[I", true)
  | 5 => ("TrampOffice$Reader", "at", "I", false)
  | 6 => ("TrampOffice$Reader", "token", "I", false)
  | _ => ("TrampOffice$Reader", "fault", "I", false)
def tyX5 : Nat → FieldType := fun k => match k with
  | 0 => .int
  | 1 => .array .int
  | 2 => .int
  | 3 => .array .int
  | 4 => .array .int
  | 5 => .int
  | 6 => .int
  | _ => .int
theorem nmX5 : ∀ a, a < 8 → ∀ b, b < 8 → a ≠ b → (TX5 a).2.1 ≠ (TX5 b).2.1 := by decide +kernel
theorem tyX5_ok : ∀ k, k < 8 → parseFieldDescriptor (TX5 k).2.2.1 = some (tyX5 k) := by decide +kernel
abbrev cX5_init : ByteArray := prog_7_method_1_code
def yX5_init : MethodName := ⟨RX5, "<init>", "()V"⟩
abbrev cX5_append : ByteArray := prog_7_method_2_code
def yX5_append : MethodName := ⟨RX5, "append", "(I)V"⟩
abbrev cX5_emptyTape : ByteArray := prog_7_method_3_code
def yX5_emptyTape : MethodName := ⟨RX5, "emptyTape", "()V"⟩
abbrev cX5_read : ByteArray := prog_7_method_4_code
def yX5_read : MethodName := ⟨RX5, "read", "(LTrampOffice$Text;)I"⟩
abbrev cX5_readPart : ByteArray := prog_7_method_5_code
def yX5_readPart : MethodName := ⟨RX5, "readPart", "(ILTrampOffice$Text;)V"⟩
abbrev cX5_readLevel : ByteArray := prog_7_method_6_code
def yX5_readLevel : MethodName := ⟨RX5, "readLevel", "(LTrampOffice$Text;II)V"⟩
abbrev cX5_readOne : ByteArray := prog_7_method_7_code
def yX5_readOne : MethodName := ⟨RX5, "readOne", "(LTrampOffice$Text;I)V"⟩
abbrev cX5_readInside : ByteArray := prog_7_method_8_code
def yX5_readInside : MethodName := ⟨RX5, "readInside", "(LTrampOffice$Text;II)V"⟩
abbrev cX5_expect : ByteArray := prog_7_method_9_code
def yX5_expect : MethodName := ⟨RX5, "expect", "(I)V"⟩
abbrev cX5_refuse : ByteArray := prog_7_method_10_code
def yX5_refuse : MethodName := ⟨RX5, "refuse", "()V"⟩
abbrev cX5_stepTo : ByteArray := prog_7_method_11_code
def yX5_stepTo : MethodName := ⟨RX5, "stepTo", "(I)V"⟩
abbrev cX5_levelOf : ByteArray := prog_7_method_12_code
def yX5_levelOf : MethodName := ⟨RX5, "levelOf", "(I)I"⟩
abbrev cX5_split : ByteArray := prog_7_method_13_code
def yX5_split : MethodName := ⟨RX5, "split", "()V"⟩
abbrev cX5_endOf : ByteArray := prog_7_method_14_code
def yX5_endOf : MethodName := ⟨RX5, "endOf", "(I)I"⟩
abbrev cX5_tokenOf : ByteArray := prog_7_method_15_code
def yX5_tokenOf : MethodName := ⟨RX5, "tokenOf", "(II)I"⟩
abbrev cX5_numberToken : ByteArray := prog_7_method_16_code
def yX5_numberToken : MethodName := ⟨RX5, "numberToken", "(II)I"⟩
abbrev cX5_wordToken : ByteArray := prog_7_method_17_code
def yX5_wordToken : MethodName := ⟨RX5, "wordToken", "(II)I"⟩
abbrev cX5_isWord : ByteArray := prog_7_method_18_code
def yX5_isWord : MethodName := ⟨RX5, "isWord", "(Ljava/lang/String;II)Z"⟩
abbrev cX5_signToken : ByteArray := prog_7_method_19_code
def yX5_signToken : MethodName := ⟨RX5, "signToken", "(I)I"⟩
abbrev cX5_kindOf : ByteArray := prog_7_method_20_code
def yX5_kindOf : MethodName := ⟨RX5, "kindOf", "(I)I"⟩
abbrev cX5_byteAt : ByteArray := prog_7_method_21_code
def yX5_byteAt : MethodName := ⟨RX5, "byteAt", "(I)I"⟩
def RX6 : String := "TrampOffice$Search"
def TX6 : u_T := fun k => match k with
  | 0 => ("TrampOffice$Search", "size", "I", false)
  | 1 => ("TrampOffice$Search", "earned", "J", false)
  | 2 => ("TrampOffice$Search", "hours", "I", false)
  | 3 => ("TrampOffice$Search", "links", "[I", true)
  | 4 => ("TrampOffice$Search", "trial", "[I", true)
  | 5 => ("TrampOffice$Search", "reach", "LTrampOffice$Reach;", true)
  | 6 => ("TrampOffice$Search", "count", "I", false)
  | _ => ("TrampOffice$Search", "depth", "I", false)
def tyX6 : Nat → FieldType := fun k => match k with
  | 0 => .int
  | 1 => .long
  | 2 => .int
  | 3 => .array .int
  | 4 => .array .int
  | 5 => .object "TrampOffice$Reach"
  | 6 => .int
  | _ => .int
theorem nmX6 : ∀ a, a < 8 → ∀ b, b < 8 → a ≠ b → (TX6 a).2.1 ≠ (TX6 b).2.1 := by decide +kernel
theorem tyX6_ok : ∀ k, k < 8 → parseFieldDescriptor (TX6 k).2.2.1 = some (tyX6 k) := by decide +kernel
abbrev cX6_init : ByteArray := prog_8_method_1_code
def yX6_init : MethodName := ⟨RX6, "<init>", "()V"⟩
abbrev cX6_run : ByteArray := prog_8_method_2_code
def yX6_run : MethodName := ⟨RX6, "run", "(LTrampOffice$Ship;[LTrampOffice$Offer;II)V"⟩
abbrev cX6_link : ByteArray := prog_8_method_3_code
def yX6_link : MethodName := ⟨RX6, "link", "(I)I"⟩
abbrev cX6_extend : ByteArray := prog_8_method_4_code
def yX6_extend : MethodName := ⟨RX6, "extend", "(LTrampOffice$Ship;[LTrampOffice$Offer;LTrampOffice$Port;IJI)V"⟩
abbrev cX6_isTried : ByteArray := prog_8_method_5_code
def yX6_isTried : MethodName := ⟨RX6, "isTried", "(II)Z"⟩
abbrev cX6_keepIfBetter : ByteArray := prog_8_method_6_code
def yX6_keepIfBetter : MethodName := ⟨RX6, "keepIfBetter", "(IJI)V"⟩
def RX7 : String := "TrampOffice$Sheet"
def TX7 : u_T := fun k => match k with
  | 0 => ("TrampOffice$Sheet", "sort", "I", false)
  | 1 => ("TrampOffice$Sheet", "size", "I", false)
  | _ => ("TrampOffice$Sheet", "items", "[I", true)
def tyX7 : Nat → FieldType := fun k => match k with
  | 0 => .int
  | 1 => .int
  | _ => .array .int
theorem nmX7 : ∀ a, a < 3 → ∀ b, b < 3 → a ≠ b → (TX7 a).2.1 ≠ (TX7 b).2.1 := by decide +kernel
theorem tyX7_ok : ∀ k, k < 3 → parseFieldDescriptor (TX7 k).2.2.1 = some (tyX7 k) := by decide +kernel
abbrev cX7_init : ByteArray := prog_9_method_1_code
def yX7_init : MethodName := ⟨RX7, "<init>", "()V"⟩
abbrev cX7_become : ByteArray := prog_9_method_2_code
def yX7_become : MethodName := ⟨RX7, "become", "(II)V"⟩
abbrev cX7_has : ByteArray := prog_9_method_3_code
def yX7_has : MethodName := ⟨RX7, "has", "(I)Z"⟩
abbrev cX7_item : ByteArray := prog_9_method_4_code
def yX7_item : MethodName := ⟨RX7, "item", "(I)I"⟩
abbrev cX7_write : ByteArray := prog_9_method_5_code
def yX7_write : MethodName := ⟨RX7, "write", "(II)V"⟩
def RX8 : String := "TrampOffice$Ship"
def TX8 : u_T := fun k => match k with
  | 0 => ("TrampOffice$Ship", "number", "I", true)
  | 1 => ("TrampOffice$Ship", "hold", "I", true)
  | 2 => ("TrampOffice$Ship", "bunkers", "I", true)
  | 3 => ("TrampOffice$Ship", "base", "I", true)
  | 4 => ("TrampOffice$Ship", "at", "LTrampOffice$Port;", false)
  | 5 => ("TrampOffice$Ship", "hour", "I", false)
  | 6 => ("TrampOffice$Ship", "speed", "I", false)
  | 7 => ("TrampOffice$Ship", "logged", "I", false)
  | _ => ("TrampOffice$Ship", "sorts", "[B", true)
def tyX8 : Nat → FieldType := fun k => match k with
  | 0 => .int
  | 1 => .int
  | 2 => .int
  | 3 => .int
  | 4 => .object "TrampOffice$Port"
  | 5 => .int
  | 6 => .int
  | 7 => .int
  | _ => .array .byte
theorem nmX8 : ∀ a, a < 9 → ∀ b, b < 9 → a ≠ b → (TX8 a).2.1 ≠ (TX8 b).2.1 := by decide +kernel
theorem tyX8_ok : ∀ k, k < 9 → parseFieldDescriptor (TX8 k).2.2.1 = some (tyX8 k) := by decide +kernel
abbrev cX8_init : ByteArray := prog_10_method_1_code
def yX8_init : MethodName := ⟨RX8, "<init>", "(ILTrampOffice$Port;III)V"⟩
abbrev cX8_hoursFor : ByteArray := prog_10_method_2_code
def yX8_hoursFor : MethodName := ⟨RX8, "hoursFor", "(I)I"⟩
abbrev cX8_burnFor : ByteArray := prog_10_method_3_code
def yX8_burnFor : MethodName := ⟨RX8, "burnFor", "(I)I"⟩
abbrev cX8_sortAt : ByteArray := prog_10_method_4_code
def yX8_sortAt : MethodName := ⟨RX8, "sortAt", "(I)I"⟩
abbrev cX8_append : ByteArray := prog_10_method_5_code
def yX8_append : MethodName := ⟨RX8, "append", "(I)V"⟩
abbrev cX8_correct : ByteArray := prog_10_method_6_code
def yX8_correct : MethodName := ⟨RX8, "correct", "(II)V"⟩
def RX9 : String := "TrampOffice$Tally"
def TX9 : u_T := fun k => match k with
  | 0 => ("TrampOffice$Tally", "lay", "I", false)
  | 1 => ("TrampOffice$Tally", "off", "I", false)
  | 2 => ("TrampOffice$Tally", "other", "I", false)
  | 3 => ("TrampOffice$Tally", "sort", "I", false)
  | 4 => ("TrampOffice$Tally", "hour", "I", false)
  | 5 => ("TrampOffice$Tally", "since", "I", false)
  | _ => ("TrampOffice$Tally", "stack", "[I", true)
def tyX9 : Nat → FieldType := fun k => match k with
  | 0 => .int
  | 1 => .int
  | 2 => .int
  | 3 => .int
  | 4 => .int
  | 5 => .int
  | _ => .array .int
theorem nmX9 : ∀ a, a < 7 → ∀ b, b < 7 → a ≠ b → (TX9 a).2.1 ≠ (TX9 b).2.1 := by decide +kernel
theorem tyX9_ok : ∀ k, k < 7 → parseFieldDescriptor (TX9 k).2.2.1 = some (tyX9 k) := by decide +kernel
abbrev cX9_init : ByteArray := prog_11_method_1_code
def yX9_init : MethodName := ⟨RX9, "<init>", "()V"⟩
abbrev cX9_run : ByteArray := prog_11_method_2_code
def yX9_run : MethodName := ⟨RX9, "run", "(LTrampOffice$Charter;I)I"⟩
abbrev cX9_countHour : ByteArray := prog_11_method_3_code
def yX9_countHour : MethodName := ⟨RX9, "countHour", "(LTrampOffice$Text;)I"⟩
abbrev cX9_worth : ByteArray := prog_11_method_4_code
def yX9_worth : MethodName := ⟨RX9, "worth", "(LTrampOffice$Text;II)I"⟩
abbrev cX9_step : ByteArray := prog_11_method_5_code
def yX9_step : MethodName := ⟨RX9, "step", "(II)I"⟩
abbrev cX9_turn : ByteArray := prog_11_method_6_code
def yX9_turn : MethodName := ⟨RX9, "turn", "(II)I"⟩
abbrev cX9_join : ByteArray := prog_11_method_7_code
def yX9_join : MethodName := ⟨RX9, "join", "(II)I"⟩
abbrev cX9_named : ByteArray := prog_11_method_8_code
def yX9_named : MethodName := ⟨RX9, "named", "(I)I"⟩
abbrev cX9_joined : ByteArray := prog_11_method_9_code
def yX9_joined : MethodName := ⟨RX9, "joined", "(III)I"⟩
def RX10 : String := "TrampOffice$Text"
def TX10 : u_T := fun k => match k with
  | 0 => ("TrampOffice$Text", "number", "I", true)
  | 1 => ("TrampOffice$Text", "laySize", "I", false)
  | 2 => ("TrampOffice$Text", "size", "I", false)
  | _ => ("TrampOffice$Text", "codes", "[I", true)
def tyX10 : Nat → FieldType := fun k => match k with
  | 0 => .int
  | 1 => .int
  | 2 => .int
  | _ => .array .int
theorem nmX10 : ∀ a, a < 4 → ∀ b, b < 4 → a ≠ b → (TX10 a).2.1 ≠ (TX10 b).2.1 := by decide +kernel
theorem tyX10_ok : ∀ k, k < 4 → parseFieldDescriptor (TX10 k).2.2.1 = some (tyX10 k) := by decide +kernel
abbrev cX10_init : ByteArray := prog_12_method_1_code
def yX10_init : MethodName := ⟨RX10, "<init>", "(I)V"⟩
abbrev cX10_codeAt : ByteArray := prog_12_method_2_code
def yX10_codeAt : MethodName := ⟨RX10, "codeAt", "(I)I"⟩
abbrev cX10_add : ByteArray := prog_12_method_3_code
def yX10_add : MethodName := ⟨RX10, "add", "(I)V"⟩
abbrev cX10_empty : ByteArray := prog_12_method_4_code
def yX10_empty : MethodName := ⟨RX10, "empty", "()V"⟩
abbrev cX10_endLay : ByteArray := prog_12_method_5_code
def yX10_endLay : MethodName := ⟨RX10, "endLay", "()V"⟩
abbrev cX10_isName : ByteArray := prog_12_method_6_code
def yX10_isName : MethodName := ⟨RX10, "isName", "(I)Z"⟩
abbrev cX10_joinsTwo : ByteArray := prog_12_method_7_code
def yX10_joinsTwo : MethodName := ⟨RX10, "joinsTwo", "(I)Z"⟩
def RX11 : String := "TrampOffice"
def TX11 : u_T := fun k => match k with
  | 0 => ("TrampOffice", "ports", "[LTrampOffice$Port;", true)
  | 1 => ("TrampOffice", "ships", "[LTrampOffice$Ship;", true)
  | 2 => ("TrampOffice", "offers", "[LTrampOffice$Offer;", true)
  | 3 => ("TrampOffice", "texts", "[LTrampOffice$Text;", true)
  | 4 => ("TrampOffice", "charters", "[LTrampOffice$Charter;", true)
  | 5 => ("TrampOffice", "sheets", "[LTrampOffice$Sheet;", true)
  | 6 => ("TrampOffice", "route", "[LTrampOffice$Port;", true)
  | 7 => ("TrampOffice", "portCount", "I", false)
  | 8 => ("TrampOffice", "shipCount", "I", false)
  | 9 => ("TrampOffice", "offerCount", "I", false)
  | 10 => ("TrampOffice", "textCount", "I", false)
  | 11 => ("TrampOffice", "charterCount", "I", false)
  | 12 => ("TrampOffice", "routeCount", "I", false)
  | 13 => ("TrampOffice", "reach", "LTrampOffice$Reach;", true)
  | 14 => ("TrampOffice", "search", "LTrampOffice$Search;", true)
  | 15 => ("TrampOffice", "bunkering", "LTrampOffice$Bunkering;", true)
  | 16 => ("TrampOffice", "reader", "LTrampOffice$Reader;", true)
  | 17 => ("TrampOffice", "spare", "LTrampOffice$Text;", false)
  | _ => ("TrampOffice", "tally", "LTrampOffice$Tally;", true)
def tyX11 : Nat → FieldType := fun k => match k with
  | 0 => .array (.object "TrampOffice$Port")
  | 1 => .array (.object "TrampOffice$Ship")
  | 2 => .array (.object "TrampOffice$Offer")
  | 3 => .array (.object "TrampOffice$Text")
  | 4 => .array (.object "TrampOffice$Charter")
  | 5 => .array (.object "TrampOffice$Sheet")
  | 6 => .array (.object "TrampOffice$Port")
  | 7 => .int
  | 8 => .int
  | 9 => .int
  | 10 => .int
  | 11 => .int
  | 12 => .int
  | 13 => .object "TrampOffice$Reach"
  | 14 => .object "TrampOffice$Search"
  | 15 => .object "TrampOffice$Bunkering"
  | 16 => .object "TrampOffice$Reader"
  | 17 => .object "TrampOffice$Text"
  | _ => .object "TrampOffice$Tally"
theorem nmX11 : ∀ a, a < 19 → ∀ b, b < 19 → a ≠ b → (TX11 a).2.1 ≠ (TX11 b).2.1 := by decide +kernel
theorem tyX11_ok : ∀ k, k < 19 → parseFieldDescriptor (TX11 k).2.2.1 = some (tyX11 k) := by decide +kernel
abbrev cX11_init : ByteArray := prog_1_method_1_code
def yX11_init : MethodName := ⟨RX11, "<init>", "()V"⟩
abbrev cX11_port : ByteArray := prog_1_method_2_code
def yX11_port : MethodName := ⟨RX11, "port", "(II)I"⟩
abbrev cX11_way : ByteArray := prog_1_method_3_code
def yX11_way : MethodName := ⟨RX11, "way", "(III)I"⟩
abbrev cX11_price : ByteArray := prog_1_method_4_code
def yX11_price : MethodName := ⟨RX11, "price", "(II)I"⟩
abbrev cX11_ship : ByteArray := prog_1_method_5_code
def yX11_ship : MethodName := ⟨RX11, "ship", "(IIII)I"⟩
abbrev cX11_speed : ByteArray := prog_1_method_6_code
def yX11_speed : MethodName := ⟨RX11, "speed", "(II)I"⟩
abbrev cX11_free : ByteArray := prog_1_method_7_code
def yX11_free : MethodName := ⟨RX11, "free", "(III)I"⟩
abbrev cX11_shipTold : ByteArray := prog_1_method_8_code
def yX11_shipTold : MethodName := ⟨RX11, "shipTold", "(II)I"⟩
abbrev cX11_offer : ByteArray := prog_1_method_9_code
def yX11_offer : MethodName := ⟨RX11, "offer", "(IIIIII)I"⟩
abbrev cX11_why : ByteArray := prog_1_method_10_code
def yX11_why : MethodName := ⟨RX11, "why", "(II)I"⟩
abbrev cX11_estimate : ByteArray := prog_1_method_11_code
def yX11_estimate : MethodName := ⟨RX11, "estimate", "(III)J"⟩
abbrev cX11_best : ByteArray := prog_1_method_12_code
def yX11_best : MethodName := ⟨RX11, "best", "(III)J"⟩
abbrev cX11_chain : ByteArray := prog_1_method_13_code
def yX11_chain : MethodName := ⟨RX11, "chain", "(III)I"⟩
abbrev cX11_fix : ByteArray := prog_1_method_14_code
def yX11_fix : MethodName := ⟨RX11, "fix", "(II)I"⟩
abbrev cX11_go : ByteArray := prog_1_method_15_code
def yX11_go : MethodName := ⟨RX11, "go", "(I)I"⟩
abbrev cX11_clear : ByteArray := prog_1_method_16_code
def yX11_clear : MethodName := ⟨RX11, "clear", "()I"⟩
abbrev cX11_bunker : ByteArray := prog_1_method_17_code
def yX11_bunker : MethodName := ⟨RX11, "bunker", "(I)I"⟩
abbrev cX11_bought : ByteArray := prog_1_method_18_code
def yX11_bought : MethodName := ⟨RX11, "bought", "(II)I"⟩
abbrev cX11_log : ByteArray := prog_1_method_19_code
def yX11_log : MethodName := ⟨RX11, "log", "(III)I"⟩
abbrev cX11_lay : ByteArray := prog_1_method_20_code
def yX11_lay : MethodName := ⟨RX11, "lay", "(IIIII)I"⟩
abbrev cX11_right : ByteArray := prog_1_method_21_code
def yX11_right : MethodName := ⟨RX11, "right", "(III)I"⟩
abbrev cX11_sort : ByteArray := prog_1_method_22_code
def yX11_sort : MethodName := ⟨RX11, "sort", "(II)I"⟩
abbrev cX11_feed : ByteArray := prog_1_method_23_code
def yX11_feed : MethodName := ⟨RX11, "feed", "(IJ)I"⟩
abbrev cX11_text : ByteArray := prog_1_method_24_code
def yX11_text : MethodName := ⟨RX11, "text", "()I"⟩
abbrev cX11_charter : ByteArray := prog_1_method_25_code
def yX11_charter : MethodName := ⟨RX11, "charter", "(IIIIIJ)I"⟩
abbrev cX11_lift : ByteArray := prog_1_method_26_code
def yX11_lift : MethodName := ⟨RX11, "lift", "(IZ)I"⟩
abbrev cX11_charterTold : ByteArray := prog_1_method_27_code
def yX11_charterTold : MethodName := ⟨RX11, "charterTold", "(II)I"⟩
abbrev cX11_pays : ByteArray := prog_1_method_28_code
def yX11_pays : MethodName := ⟨RX11, "pays", "(I)J"⟩
abbrev cX11_counts : ByteArray := prog_1_method_29_code
def yX11_counts : MethodName := ⟨RX11, "counts", "(II)I"⟩
abbrev cX11_account : ByteArray := prog_1_method_30_code
def yX11_account : MethodName := ⟨RX11, "account", "(II)I"⟩
abbrev cX11_owners : ByteArray := prog_1_method_31_code
def yX11_owners : MethodName := ⟨RX11, "owners", "(I)I"⟩
abbrev cX11_count : ByteArray := prog_1_method_32_code
def yX11_count : MethodName := ⟨RX11, "count", "(I)I"⟩
abbrev cX11_sheet : ByteArray := prog_1_method_33_code
def yX11_sheet : MethodName := ⟨RX11, "sheet", "(III)I"⟩
abbrev cX11_cell : ByteArray := prog_1_method_34_code
def yX11_cell : MethodName := ⟨RX11, "cell", "(III)I"⟩
abbrev cX11_taken : ByteArray := prog_1_method_35_code
def yX11_taken : MethodName := ⟨RX11, "taken", "(II)I"⟩
abbrev cX11_within : ByteArray := prog_1_method_36_code
def yX11_within : MethodName := ⟨RX11, "within", "(III)Z"⟩
abbrev cX11_isHour : ByteArray := prog_1_method_37_code
def yX11_isHour : MethodName := ⟨RX11, "isHour", "(I)Z"⟩
abbrev cX11_isSort : ByteArray := prog_1_method_38_code
def yX11_isSort : MethodName := ⟨RX11, "isSort", "(I)Z"⟩
abbrev cX11_roundedUp : ByteArray := prog_1_method_39_code
def yX11_roundedUp : MethodName := ⟨RX11, "roundedUp", "(II)I"⟩
abbrev cX11_portAt : ByteArray := prog_1_method_40_code
def yX11_portAt : MethodName := ⟨RX11, "portAt", "(I)LTrampOffice$Port;"⟩
abbrev cX11_shipAt : ByteArray := prog_1_method_41_code
def yX11_shipAt : MethodName := ⟨RX11, "shipAt", "(I)LTrampOffice$Ship;"⟩
abbrev cX11_offerAt : ByteArray := prog_1_method_42_code
def yX11_offerAt : MethodName := ⟨RX11, "offerAt", "(I)LTrampOffice$Offer;"⟩
abbrev cX11_textAt : ByteArray := prog_1_method_43_code
def yX11_textAt : MethodName := ⟨RX11, "textAt", "(I)LTrampOffice$Text;"⟩
abbrev cX11_charterAt : ByteArray := prog_1_method_44_code
def yX11_charterAt : MethodName := ⟨RX11, "charterAt", "(I)LTrampOffice$Charter;"⟩
abbrev cX11_sheetAt : ByteArray := prog_1_method_45_code
def yX11_sheetAt : MethodName := ⟨RX11, "sheetAt", "(I)LTrampOffice$Sheet;"⟩
abbrev cX11_endsRoute : ByteArray := prog_1_method_46_code
def yX11_endsRoute : MethodName := ⟨RX11, "endsRoute", "(LTrampOffice$Port;)Z"⟩
abbrev cX11_layItem : ByteArray := prog_1_method_47_code
def yX11_layItem : MethodName := ⟨RX11, "layItem", "(LTrampOffice$Ship;LTrampOffice$Sheet;I)I"⟩
abbrev cX11_meets : ByteArray := prog_1_method_48_code
def yX11_meets : MethodName := ⟨RX11, "meets", "(LTrampOffice$Ship;II)Z"⟩
abbrev cX11_hoursOf : ByteArray := prog_1_method_49_code
def yX11_hoursOf : MethodName := ⟨RX11, "hoursOf", "(LTrampOffice$Charter;I)I"⟩
def RX12 : String := "TrampOfficeModel"
def TX12 : u_T := fun k => match k with
  | 0 => ("TrampOfficeModel", "ports", "I", false)
  | 1 => ("TrampOfficeModel", "gang", "[I", true)
  | 2 => ("TrampOfficeModel", "price", "[I", true)
  | 3 => ("TrampOfficeModel", "miles", "[I", true)
  | 4 => ("TrampOfficeModel", "ships", "I", false)
  | 5 => ("TrampOfficeModel", "lies", "[I", true)
  | 6 => ("TrampOfficeModel", "freeAt", "[I", true)
  | 7 => ("TrampOfficeModel", "hold", "[I", true)
  | 8 => ("TrampOfficeModel", "bunkers", "[I", true)
  | 9 => ("TrampOfficeModel", "base", "[I", true)
  | 10 => ("TrampOfficeModel", "speed", "[I", true)
  | 11 => ("TrampOfficeModel", "logged", "[I", true)
  | 12 => ("TrampOfficeModel", "logs", "[B", true)
  | 13 => ("TrampOfficeModel", "offers", "I", false)
  | 14 => ("TrampOfficeModel", "from", "[I", true)
  | 15 => ("TrampOfficeModel", "to", "[I", true)
  | 16 => ("TrampOfficeModel", "tons", "[I", true)
  | 17 => ("TrampOfficeModel", "rate", "[I", true)
  | 18 => ("TrampOfficeModel", "open", "[I", true)
  | 19 => ("TrampOfficeModel", "close", "[I", true)
  | 20 => ("TrampOfficeModel", "isTaken", "[Z", true)
  | 21 => ("TrampOfficeModel", "routed", "I", false)
  | 22 => ("TrampOfficeModel", "route", "[I", true)
  | 23 => ("TrampOfficeModel", "tape", "[I", true)
  | 24 => ("TrampOfficeModel", "taped", "I", false)
  | 25 => ("TrampOfficeModel", "texts", "I", false)
  | 26 => ("TrampOfficeModel", "op", "[I", true)
  | 27 => ("TrampOfficeModel", "value", "[I", true)
  | 28 => ("TrampOfficeModel", "part", "[I", true)
  | 29 => ("TrampOfficeModel", "charters", "I", false)
  | 30 => ("TrampOfficeModel", "kind", "[I", true)
  | 31 => ("TrampOfficeModel", "shipOf", "[I", true)
  | 32 => ("TrampOfficeModel", "first", "[I", true)
  | 33 => ("TrampOfficeModel", "last", "[I", true)
  | 34 => ("TrampOfficeModel", "textOf", "[I", true)
  | 35 => ("TrampOfficeModel", "amount", "[I", true)
  | 36 => ("TrampOfficeModel", "rateOf", "[I", true)
  | 37 => ("TrampOfficeModel", "freeHours", "[I", true)
  | 38 => ("TrampOfficeModel", "how", "[I", true)
  | 39 => ("TrampOfficeModel", "sheetSort", "[I", true)
  | 40 => ("TrampOfficeModel", "many", "[I", true)
  | 41 => ("TrampOfficeModel", "cells", "[I", true)
  | 42 => ("TrampOfficeModel", "plain", "[I", true)
  | 43 => ("TrampOfficeModel", "bestMany", "I", false)
  | 44 => ("TrampOfficeModel", "bestEarns", "J", false)
  | 45 => ("TrampOfficeModel", "bestHours", "I", false)
  | 46 => ("TrampOfficeModel", "bestRow", "[I", true)
  | 47 => ("TrampOfficeModel", "row", "[I", true)
  | 48 => ("TrampOfficeModel", "cost", "[I", true)
  | 49 => ("TrampOfficeModel", "known", "[I", true)
  | 50 => ("TrampOfficeModel", "textSize", "I", false)
  | 51 => ("TrampOfficeModel", "reading", "I", false)
  | 52 => ("TrampOfficeModel", "at", "I", false)
  | 53 => ("TrampOfficeModel", "begin", "I", false)
  | 54 => ("TrampOfficeModel", "token", "I", false)
  | 55 => ("TrampOfficeModel", "told", "I", false)
  | 56 => ("TrampOfficeModel", "wrong", "I", false)
  | 57 => ("TrampOfficeModel", "opened", "I", false)
  | 58 => ("TrampOfficeModel", "codes", "I", false)
  | 59 => ("TrampOfficeModel", "pile", "[I", true)
  | 60 => ("TrampOfficeModel", "lays", "I", false)
  | 61 => ("TrampOfficeModel", "offs", "I", false)
  | _ => ("TrampOfficeModel", "others", "I", false)
def tyX12 : Nat → FieldType := fun k => match k with
  | 0 => .int
  | 1 => .array .int
  | 2 => .array .int
  | 3 => .array .int
  | 4 => .int
  | 5 => .array .int
  | 6 => .array .int
  | 7 => .array .int
  | 8 => .array .int
  | 9 => .array .int
  | 10 => .array .int
  | 11 => .array .int
  | 12 => .array .byte
  | 13 => .int
  | 14 => .array .int
  | 15 => .array .int
  | 16 => .array .int
  | 17 => .array .int
  | 18 => .array .int
  | 19 => .array .int
  | 20 => .array .boolean
  | 21 => .int
  | 22 => .array .int
  | 23 => .array .int
  | 24 => .int
  | 25 => .int
  | 26 => .array .int
  | 27 => .array .int
  | 28 => .array .int
  | 29 => .int
  | 30 => .array .int
  | 31 => .array .int
  | 32 => .array .int
  | 33 => .array .int
  | 34 => .array .int
  | 35 => .array .int
  | 36 => .array .int
  | 37 => .array .int
  | 38 => .array .int
  | 39 => .array .int
  | 40 => .array .int
  | 41 => .array .int
  | 42 => .array .int
  | 43 => .int
  | 44 => .long
  | 45 => .int
  | 46 => .array .int
  | 47 => .array .int
  | 48 => .array .int
  | 49 => .array .int
  | 50 => .int
  | 51 => .int
  | 52 => .int
  | 53 => .int
  | 54 => .int
  | 55 => .int
  | 56 => .int
  | 57 => .int
  | 58 => .int
  | 59 => .array .int
  | 60 => .int
  | 61 => .int
  | _ => .int
theorem nmX12 : ∀ a, a < 63 → ∀ b, b < 63 → a ≠ b → (TX12 a).2.1 ≠ (TX12 b).2.1 := by decide +kernel
theorem tyX12_ok : ∀ k, k < 63 → parseFieldDescriptor (TX12 k).2.2.1 = some (tyX12 k) := by decide +kernel
abbrev cX12_init : ByteArray := prog_14_method_1_code
def yX12_init : MethodName := ⟨RX12, "<init>", "()V"⟩
abbrev cX12_in : ByteArray := prog_14_method_2_code
def yX12_in : MethodName := ⟨RX12, "in", "(III)Z"⟩
abbrev cX12_isPort : ByteArray := prog_14_method_3_code
def yX12_isPort : MethodName := ⟨RX12, "isPort", "(I)Z"⟩
abbrev cX12_isShip : ByteArray := prog_14_method_4_code
def yX12_isShip : MethodName := ⟨RX12, "isShip", "(I)Z"⟩
abbrev cX12_isOffer : ByteArray := prog_14_method_5_code
def yX12_isOffer : MethodName := ⟨RX12, "isOffer", "(I)Z"⟩
abbrev cX12_isHour : ByteArray := prog_14_method_6_code
def yX12_isHour : MethodName := ⟨RX12, "isHour", "(I)Z"⟩
abbrev cX12_port : ByteArray := prog_14_method_7_code
def yX12_port : MethodName := ⟨RX12, "port", "(II)I"⟩
abbrev cX12_way : ByteArray := prog_14_method_8_code
def yX12_way : MethodName := ⟨RX12, "way", "(III)I"⟩
abbrev cX12_price : ByteArray := prog_14_method_9_code
def yX12_price : MethodName := ⟨RX12, "price", "(II)I"⟩
abbrev cX12_ship : ByteArray := prog_14_method_10_code
def yX12_ship : MethodName := ⟨RX12, "ship", "(IIII)I"⟩
abbrev cX12_speed : ByteArray := prog_14_method_11_code
def yX12_speed : MethodName := ⟨RX12, "speed", "(II)I"⟩
abbrev cX12_free : ByteArray := prog_14_method_12_code
def yX12_free : MethodName := ⟨RX12, "free", "(III)I"⟩
abbrev cX12_shipTold : ByteArray := prog_14_method_13_code
def yX12_shipTold : MethodName := ⟨RX12, "shipTold", "(II)I"⟩
abbrev cX12_up : ByteArray := prog_14_method_14_code
def yX12_up : MethodName := ⟨RX12, "up", "(II)I"⟩
abbrev cX12_lacks : ByteArray := prog_14_method_15_code
def yX12_lacks : MethodName := ⟨RX12, "lacks", "(II)Z"⟩
abbrev cX12_hours : ByteArray := prog_14_method_16_code
def yX12_hours : MethodName := ⟨RX12, "hours", "(III)I"⟩
abbrev cX12_burns : ByteArray := prog_14_method_17_code
def yX12_burns : MethodName := ⟨RX12, "burns", "(III)I"⟩
abbrev cX12_offer : ByteArray := prog_14_method_18_code
def yX12_offer : MethodName := ⟨RX12, "offer", "(IIIIII)I"⟩
abbrev cX12_begins : ByteArray := prog_14_method_19_code
def yX12_begins : MethodName := ⟨RX12, "begins", "(IIII)I"⟩
abbrev cX12_ends : ByteArray := prog_14_method_20_code
def yX12_ends : MethodName := ⟨RX12, "ends", "(IIII)I"⟩
abbrev cX12_burnt : ByteArray := prog_14_method_21_code
def yX12_burnt : MethodName := ⟨RX12, "burnt", "(III)I"⟩
abbrev cX12_earns : ByteArray := prog_14_method_22_code
def yX12_earns : MethodName := ⟨RX12, "earns", "(III)J"⟩
abbrev cX12_hinders : ByteArray := prog_14_method_23_code
def yX12_hinders : MethodName := ⟨RX12, "hinders", "(IIII)I"⟩
abbrev cX12_why : ByteArray := prog_14_method_24_code
def yX12_why : MethodName := ⟨RX12, "why", "(II)I"⟩
abbrev cX12_estimate : ByteArray := prog_14_method_25_code
def yX12_estimate : MethodName := ⟨RX12, "estimate", "(III)J"⟩
abbrev cX12_chains : ByteArray := prog_14_method_26_code
def yX12_chains : MethodName := ⟨RX12, "chains", "(IIIIIJ)V"⟩
abbrev cX12_seeks : ByteArray := prog_14_method_27_code
def yX12_seeks : MethodName := ⟨RX12, "seeks", "(II)V"⟩
abbrev cX12_best : ByteArray := prog_14_method_28_code
def yX12_best : MethodName := ⟨RX12, "best", "(III)J"⟩
abbrev cX12_chain : ByteArray := prog_14_method_29_code
def yX12_chain : MethodName := ⟨RX12, "chain", "(III)I"⟩
abbrev cX12_fix : ByteArray := prog_14_method_30_code
def yX12_fix : MethodName := ⟨RX12, "fix", "(II)I"⟩
abbrev cX12_go : ByteArray := prog_14_method_31_code
def yX12_go : MethodName := ⟨RX12, "go", "(I)I"⟩
abbrev cX12_clear : ByteArray := prog_14_method_32_code
def yX12_clear : MethodName := ⟨RX12, "clear", "()I"⟩
abbrev cX12_behind : ByteArray := prog_14_method_33_code
def yX12_behind : MethodName := ⟨RX12, "behind", "(III)I"⟩
abbrev cX12_reckons : ByteArray := prog_14_method_34_code
def yX12_reckons : MethodName := ⟨RX12, "reckons", "(I)Z"⟩
abbrev cX12_bunker : ByteArray := prog_14_method_35_code
def yX12_bunker : MethodName := ⟨RX12, "bunker", "(I)I"⟩
abbrev cX12_bought : ByteArray := prog_14_method_36_code
def yX12_bought : MethodName := ⟨RX12, "bought", "(II)I"⟩
abbrev cX12_isSort : ByteArray := prog_14_method_37_code
def yX12_isSort : MethodName := ⟨RX12, "isSort", "(I)Z"⟩
abbrev cX12_log : ByteArray := prog_14_method_38_code
def yX12_log : MethodName := ⟨RX12, "log", "(III)I"⟩
abbrev cX12_lay : ByteArray := prog_14_method_39_code
def yX12_lay : MethodName := ⟨RX12, "lay", "(IIIII)I"⟩
abbrev cX12_right : ByteArray := prog_14_method_40_code
def yX12_right : MethodName := ⟨RX12, "right", "(III)I"⟩
abbrev cX12_sort : ByteArray := prog_14_method_41_code
def yX12_sort : MethodName := ⟨RX12, "sort", "(II)I"⟩
abbrev cX12_byteAt : ByteArray := prog_14_method_42_code
def yX12_byteAt : MethodName := ⟨RX12, "byteAt", "(I)I"⟩
abbrev cX12_isLetter : ByteArray := prog_14_method_43_code
def yX12_isLetter : MethodName := ⟨RX12, "isLetter", "(I)Z"⟩
abbrev cX12_isDigit : ByteArray := prog_14_method_44_code
def yX12_isDigit : MethodName := ⟨RX12, "isDigit", "(I)Z"⟩
abbrev cX12_next : ByteArray := prog_14_method_45_code
def yX12_next : MethodName := ⟨RX12, "next", "()V"⟩
abbrev cX12_number : ByteArray := prog_14_method_46_code
def yX12_number : MethodName := ⟨RX12, "number", "()V"⟩
abbrev cX12_spelled : ByteArray := prog_14_method_47_code
def yX12_spelled : MethodName := ⟨RX12, "spelled", "()V"⟩
abbrev cX12_isWrong : ByteArray := prog_14_method_48_code
def yX12_isWrong : MethodName := ⟨RX12, "isWrong", "()Z"⟩
abbrev cX12_cannot : ByteArray := prog_14_method_49_code
def yX12_cannot : MethodName := ⟨RX12, "cannot", "()V"⟩
abbrev cX12_need : ByteArray := prog_14_method_50_code
def yX12_need : MethodName := ⟨RX12, "need", "(I)V"⟩
abbrev cX12_opens : ByteArray := prog_14_method_51_code
def yX12_opens : MethodName := ⟨RX12, "opens", "()V"⟩
abbrev cX12_emit : ByteArray := prog_14_method_52_code
def yX12_emit : MethodName := ⟨RX12, "emit", "(II)V"⟩
abbrev cX12_reads : ByteArray := prog_14_method_53_code
def yX12_reads : MethodName := ⟨RX12, "reads", "(I)V"⟩
abbrev cX12_either : ByteArray := prog_14_method_54_code
def yX12_either : MethodName := ⟨RX12, "either", "()V"⟩
abbrev cX12_both : ByteArray := prog_14_method_55_code
def yX12_both : MethodName := ⟨RX12, "both", "()V"⟩
abbrev cX12_not : ByteArray := prog_14_method_56_code
def yX12_not : MethodName := ⟨RX12, "not", "()V"⟩
abbrev cX12_added : ByteArray := prog_14_method_57_code
def yX12_added : MethodName := ⟨RX12, "added", "()V"⟩
abbrev cX12_term : ByteArray := prog_14_method_58_code
def yX12_term : MethodName := ⟨RX12, "term", "()V"⟩
abbrev cX12_one : ByteArray := prog_14_method_59_code
def yX12_one : MethodName := ⟨RX12, "one", "()V"⟩
abbrev cX12_feed : ByteArray := prog_14_method_60_code
def yX12_feed : MethodName := ⟨RX12, "feed", "(IJ)I"⟩
abbrev cX12_text : ByteArray := prog_14_method_61_code
def yX12_text : MethodName := ⟨RX12, "text", "()I"⟩
abbrev cX12_two : ByteArray := prog_14_method_62_code
def yX12_two : MethodName := ⟨RX12, "two", "(III)I"⟩
abbrev cX12_named : ByteArray := prog_14_method_63_code
def yX12_named : MethodName := ⟨RX12, "named", "(IIII)I"⟩
abbrev cX12_worked : ByteArray := prog_14_method_64_code
def yX12_worked : MethodName := ⟨RX12, "worked", "(IIII)I"⟩
abbrev cX12_isCharter : ByteArray := prog_14_method_65_code
def yX12_isCharter : MethodName := ⟨RX12, "isCharter", "(I)Z"⟩
abbrev cX12_has : ByteArray := prog_14_method_66_code
def yX12_has : MethodName := ⟨RX12, "has", "(III)Z"⟩
abbrev cX12_charter : ByteArray := prog_14_method_67_code
def yX12_charter : MethodName := ⟨RX12, "charter", "(IIIIIJ)I"⟩
abbrev cX12_lift : ByteArray := prog_14_method_68_code
def yX12_lift : MethodName := ⟨RX12, "lift", "(IZ)I"⟩
abbrev cX12_looks : ByteArray := prog_14_method_69_code
def yX12_looks : MethodName := ⟨RX12, "looks", "(II)I"⟩
abbrev cX12_charterTold : ByteArray := prog_14_method_70_code
def yX12_charterTold : MethodName := ⟨RX12, "charterTold", "(II)I"⟩
abbrev cX12_voyage : ByteArray := prog_14_method_71_code
def yX12_voyage : MethodName := ⟨RX12, "voyage", "(I)J"⟩
abbrev cX12_pays : ByteArray := prog_14_method_72_code
def yX12_pays : MethodName := ⟨RX12, "pays", "(I)J"⟩
abbrev cX12_counts : ByteArray := prog_14_method_73_code
def yX12_counts : MethodName := ⟨RX12, "counts", "(II)I"⟩
abbrev cX12_accountOf : ByteArray := prog_14_method_74_code
def yX12_accountOf : MethodName := ⟨RX12, "accountOf", "(II)I"⟩
abbrev cX12_account : ByteArray := prog_14_method_75_code
def yX12_account : MethodName := ⟨RX12, "account", "(II)I"⟩
abbrev cX12_owners : ByteArray := prog_14_method_76_code
def yX12_owners : MethodName := ⟨RX12, "owners", "(I)I"⟩
abbrev cX12_count : ByteArray := prog_14_method_77_code
def yX12_count : MethodName := ⟨RX12, "count", "(I)I"⟩
abbrev cX12_isSheet : ByteArray := prog_14_method_78_code
def yX12_isSheet : MethodName := ⟨RX12, "isSheet", "(I)Z"⟩
abbrev cX12_sheet : ByteArray := prog_14_method_79_code
def yX12_sheet : MethodName := ⟨RX12, "sheet", "(III)I"⟩
abbrev cX12_cell : ByteArray := prog_14_method_80_code
def yX12_cell : MethodName := ⟨RX12, "cell", "(III)I"⟩
abbrev cX12_taken : ByteArray := prog_14_method_81_code
def yX12_taken : MethodName := ⟨RX12, "taken", "(II)I"⟩
def RJ9 : String := "java/lang/Math"
abbrev cJ9_max_7cf53 : ByteArray := prog_15_method_65_code
def yJ9_max_7cf53 : MethodName := ⟨RJ9, "max", "(II)I"⟩
abbrev cJ9_min_7cf53 : ByteArray := prog_15_method_69_code
def yJ9_min_7cf53 : MethodName := ⟨RJ9, "min", "(II)I"⟩
def RJ0 : String := "java/lang/String"
abbrev cJ0_length_8abf5 : ByteArray := prog_16_method_54_code
def yJ0_length_8abf5 : MethodName := ⟨RJ0, "length", "()I"⟩
abbrev cJ0_charAt_5068e : ByteArray := prog_16_method_56_code
def yJ0_charAt_5068e : MethodName := ⟨RJ0, "charAt", "(I)C"⟩
abbrev cJ0_coder_7d493 : ByteArray := prog_16_method_152_code
def yJ0_coder_7d493 : MethodName := ⟨RJ0, "coder", "()B"⟩
abbrev cJ0_isLatin1_aae02 : ByteArray := prog_16_method_154_code
def yJ0_isLatin1_aae02 : MethodName := ⟨RJ0, "isLatin1", "()Z"⟩
abbrev cJ0_checkIndex_df160 : ByteArray := prog_16_method_155_code
def yJ0_checkIndex_df160 : MethodName := ⟨RJ0, "checkIndex", "(II)V"⟩
def RJ1 : String := "java/lang/StringLatin1"
abbrev cJ1_charAt_3b067 : ByteArray := prog_17_method_2_code
def yJ1_charAt_3b067 : MethodName := ⟨RJ1, "charAt", "([BI)C"⟩
def RJ2 : String := "java/lang/StringUTF16"
abbrev cJ2_getChar_3b067 : ByteArray := prog_18_method_5_code
def yJ2_getChar_3b067 : MethodName := ⟨RJ2, "getChar", "([BI)C"⟩
abbrev cJ2_length_9d52b : ByteArray := prog_18_method_6_code
def yJ2_length_9d52b : MethodName := ⟨RJ2, "length", "([B)I"⟩
abbrev cJ2_charAt_3b067 : ByteArray := prog_18_method_83_code
def yJ2_charAt_3b067 : MethodName := ⟨RJ2, "charAt", "([BI)C"⟩
abbrev cJ2_checkIndex_2214a : ByteArray := prog_18_method_91_code
def yJ2_checkIndex_2214a : MethodName := ⟨RJ2, "checkIndex", "(I[B)V"⟩
def RJ10 : String := "java/lang/System"
def RJ7 : String := "java/util/Arrays"
abbrev cJ7_fill_53178 : ByteArray := prog_20_method_103_code
def yJ7_fill_53178 : MethodName := ⟨RJ7, "fill", "([II)V"⟩
def RJ3 : String := "jdk/internal/util/Preconditions"
abbrev cJ3_checkIndex_8e157 : ByteArray := prog_21_method_11_code
def yJ3_checkIndex_8e157 : MethodName := ⟨RJ3, "checkIndex", "(IILjava/util/function/BiFunction;)I"⟩
def RL : String := "TrampOfficeLaw"
abbrev cL_law : ByteArray := code
def yL_law : MethodName := ⟨RL, "law", "([I)Z"⟩
abbrev vwCl : List vw_C := [(RX0, TX0, 6), (RX1, TX1, 9), (RX2, TX2, 7), (RX3, TX3, 4), (RX4, TX4, 5), (RX5, TX5, 8), (RX6, TX6, 8), (RX7, TX7, 3), (RX8, TX8, 9), (RX9, TX9, 7), (RX10, TX10, 4), (RX11, TX11, 19), (RX12, TX12, 63)]
end
section
theorem dJ0_length_8abf5_0 : decode cJ0_length_8abf5 0 = .ok (.aload_n 0, 1) := by decide +kernel
theorem dJ0_length_8abf5_1 : decode cJ0_length_8abf5 1 = .ok (.getfield 9, 3) := by decide +kernel
theorem dJ0_length_8abf5_4 : decode cJ0_length_8abf5 4 = .ok (.arraylength, 1) := by decide +kernel
theorem dJ0_length_8abf5_5 : decode cJ0_length_8abf5 5 = .ok (.aload_n 0, 1) := by decide +kernel
theorem dJ0_length_8abf5_6 : decode cJ0_length_8abf5 6 = .ok (.invokevirtual 335, 3) := by decide +kernel
theorem dJ0_length_8abf5_9 : decode cJ0_length_8abf5 9 = .ok (.ishr, 1) := by decide +kernel
theorem dJ0_length_8abf5_10 : decode cJ0_length_8abf5 10 = .ok (.ireturn, 1) := by decide +kernel
theorem dJ0_charAt_5068e_0 : decode cJ0_charAt_5068e 0 = .ok (.aload_n 0, 1) := by decide +kernel
theorem dJ0_charAt_5068e_1 : decode cJ0_charAt_5068e 1 = .ok (.invokevirtual 492, 3) := by decide +kernel
theorem dJ0_charAt_5068e_4 : decode cJ0_charAt_5068e 4 = .ok (.ifCond .eq 12, 3) := by decide +kernel
theorem dJ0_charAt_5068e_7 : decode cJ0_charAt_5068e 7 = .ok (.aload_n 0, 1) := by decide +kernel
theorem dJ0_charAt_5068e_8 : decode cJ0_charAt_5068e 8 = .ok (.getfield 9, 3) := by decide +kernel
theorem dJ0_charAt_5068e_11 : decode cJ0_charAt_5068e 11 = .ok (.iload_n 1, 1) := by decide +kernel
theorem dJ0_charAt_5068e_12 : decode cJ0_charAt_5068e 12 = .ok (.invokestatic 495, 3) := by decide +kernel
theorem dJ0_charAt_5068e_15 : decode cJ0_charAt_5068e 15 = .ok (.ireturn, 1) := by decide +kernel
theorem dJ0_charAt_5068e_16 : decode cJ0_charAt_5068e 16 = .ok (.aload_n 0, 1) := by decide +kernel
theorem dJ0_charAt_5068e_17 : decode cJ0_charAt_5068e 17 = .ok (.getfield 9, 3) := by decide +kernel
theorem dJ0_charAt_5068e_20 : decode cJ0_charAt_5068e 20 = .ok (.iload_n 1, 1) := by decide +kernel
theorem dJ0_charAt_5068e_21 : decode cJ0_charAt_5068e 21 = .ok (.invokestatic 498, 3) := by decide +kernel
theorem dJ0_charAt_5068e_24 : decode cJ0_charAt_5068e 24 = .ok (.ireturn, 1) := by decide +kernel
theorem dJ0_coder_7d493_0 : decode cJ0_coder_7d493 0 = .ok (.getstatic 38, 3) := by decide +kernel
theorem dJ0_coder_7d493_3 : decode cJ0_coder_7d493 3 = .ok (.ifCond .eq 10, 3) := by decide +kernel
theorem dJ0_coder_7d493_6 : decode cJ0_coder_7d493 6 = .ok (.aload_n 0, 1) := by decide +kernel
theorem dJ0_coder_7d493_7 : decode cJ0_coder_7d493 7 = .ok (.getfield 15, 3) := by decide +kernel
theorem dJ0_coder_7d493_10 : decode cJ0_coder_7d493 10 = .ok (.goto 4, 3) := by decide +kernel
theorem dJ0_coder_7d493_13 : decode cJ0_coder_7d493 13 = .ok (.iconst 1, 1) := by decide +kernel
theorem dJ0_coder_7d493_14 : decode cJ0_coder_7d493 14 = .ok (.ireturn, 1) := by decide +kernel
theorem dJ0_isLatin1_aae02_0 : decode cJ0_isLatin1_aae02 0 = .ok (.getstatic 38, 3) := by decide +kernel
theorem dJ0_isLatin1_aae02_3 : decode cJ0_isLatin1_aae02 3 = .ok (.ifCond .eq 14, 3) := by decide +kernel
theorem dJ0_isLatin1_aae02_6 : decode cJ0_isLatin1_aae02 6 = .ok (.aload_n 0, 1) := by decide +kernel
theorem dJ0_isLatin1_aae02_7 : decode cJ0_isLatin1_aae02 7 = .ok (.getfield 15, 3) := by decide +kernel
theorem dJ0_isLatin1_aae02_10 : decode cJ0_isLatin1_aae02 10 = .ok (.ifCond .ne 7, 3) := by decide +kernel
theorem dJ0_isLatin1_aae02_13 : decode cJ0_isLatin1_aae02 13 = .ok (.iconst 1, 1) := by decide +kernel
theorem dJ0_isLatin1_aae02_14 : decode cJ0_isLatin1_aae02 14 = .ok (.goto 4, 3) := by decide +kernel
theorem dJ0_isLatin1_aae02_17 : decode cJ0_isLatin1_aae02 17 = .ok (.iconst 0, 1) := by decide +kernel
theorem dJ0_isLatin1_aae02_18 : decode cJ0_isLatin1_aae02 18 = .ok (.ireturn, 1) := by decide +kernel
theorem dJ0_checkIndex_df160_0 : decode cJ0_checkIndex_df160 0 = .ok (.iload_n 0, 1) := by decide +kernel
theorem dJ0_checkIndex_df160_1 : decode cJ0_checkIndex_df160 1 = .ok (.iload_n 1, 1) := by decide +kernel
theorem dJ0_checkIndex_df160_2 : decode cJ0_checkIndex_df160 2 = .ok (.getstatic 1053, 3) := by decide +kernel
theorem dJ0_checkIndex_df160_5 : decode cJ0_checkIndex_df160 5 = .ok (.invokestatic 1059, 3) := by decide +kernel
theorem dJ0_checkIndex_df160_8 : decode cJ0_checkIndex_df160 8 = .ok (.pop, 1) := by decide +kernel
theorem dJ0_checkIndex_df160_9 : decode cJ0_checkIndex_df160 9 = .ok (.return_, 1) := by decide +kernel
theorem dJ1_charAt_3b067_0 : decode cJ1_charAt_3b067 0 = .ok (.iload_n 1, 1) := by decide +kernel
theorem dJ1_charAt_3b067_1 : decode cJ1_charAt_3b067 1 = .ok (.aload_n 0, 1) := by decide +kernel
theorem dJ1_charAt_3b067_2 : decode cJ1_charAt_3b067 2 = .ok (.arraylength, 1) := by decide +kernel
theorem dJ1_charAt_3b067_3 : decode cJ1_charAt_3b067 3 = .ok (.invokestatic 9, 3) := by decide +kernel
theorem dJ1_charAt_3b067_6 : decode cJ1_charAt_3b067 6 = .ok (.aload_n 0, 1) := by decide +kernel
theorem dJ1_charAt_3b067_7 : decode cJ1_charAt_3b067 7 = .ok (.iload_n 1, 1) := by decide +kernel
theorem dJ1_charAt_3b067_8 : decode cJ1_charAt_3b067 8 = .ok (.baload, 1) := by decide +kernel
theorem dJ1_charAt_3b067_9 : decode cJ1_charAt_3b067 9 = .ok (.sipush 255, 3) := by decide +kernel
theorem dJ1_charAt_3b067_12 : decode cJ1_charAt_3b067 12 = .ok (.iand, 1) := by decide +kernel
theorem dJ1_charAt_3b067_13 : decode cJ1_charAt_3b067 13 = .ok (.i2c, 1) := by decide +kernel
theorem dJ1_charAt_3b067_14 : decode cJ1_charAt_3b067 14 = .ok (.ireturn, 1) := by decide +kernel
theorem dJ2_getChar_3b067_0 : decode cJ2_getChar_3b067 0 = .ok (.getstatic 44, 3) := by decide +kernel
theorem dJ2_getChar_3b067_3 : decode cJ2_getChar_3b067 3 = .ok (.ifCond .ne 25, 3) := by decide +kernel
theorem dJ2_getChar_3b067_6 : decode cJ2_getChar_3b067 6 = .ok (.iload_n 1, 1) := by decide +kernel
theorem dJ2_getChar_3b067_7 : decode cJ2_getChar_3b067 7 = .ok (.ifCond .lt 11, 3) := by decide +kernel
theorem dJ2_getChar_3b067_10 : decode cJ2_getChar_3b067 10 = .ok (.iload_n 1, 1) := by decide +kernel
theorem dJ2_getChar_3b067_11 : decode cJ2_getChar_3b067 11 = .ok (.aload_n 0, 1) := by decide +kernel
theorem dJ2_getChar_3b067_12 : decode cJ2_getChar_3b067 12 = .ok (.invokestatic 48, 3) := by decide +kernel
theorem dJ2_getChar_3b067_15 : decode cJ2_getChar_3b067 15 = .ok (.if_icmp .lt 13, 3) := by decide +kernel
theorem dJ2_getChar_3b067_18 : decode cJ2_getChar_3b067 18 = .ok (.new 52, 3) := by decide +kernel
theorem dJ2_getChar_3b067_21 : decode cJ2_getChar_3b067 21 = .ok (.dup, 1) := by decide +kernel
theorem dJ2_getChar_3b067_22 : decode cJ2_getChar_3b067 22 = .ok (.ldc 54, 2) := by decide +kernel
theorem dJ2_getChar_3b067_24 : decode cJ2_getChar_3b067 24 = .ok (.invokespecial 56, 3) := by decide +kernel
theorem dJ2_getChar_3b067_27 : decode cJ2_getChar_3b067 27 = .ok (.athrow, 1) := by decide +kernel
theorem dJ2_getChar_3b067_28 : decode cJ2_getChar_3b067 28 = .ok (.iload_n 1, 1) := by decide +kernel
theorem dJ2_getChar_3b067_29 : decode cJ2_getChar_3b067 29 = .ok (.iconst 1, 1) := by decide +kernel
theorem dJ2_getChar_3b067_30 : decode cJ2_getChar_3b067 30 = .ok (.ishl, 1) := by decide +kernel
theorem dJ2_getChar_3b067_31 : decode cJ2_getChar_3b067 31 = .ok (.istore_n 1, 1) := by decide +kernel
theorem dJ2_getChar_3b067_32 : decode cJ2_getChar_3b067 32 = .ok (.aload_n 0, 1) := by decide +kernel
theorem dJ2_getChar_3b067_33 : decode cJ2_getChar_3b067 33 = .ok (.iload_n 1, 1) := by decide +kernel
theorem dJ2_getChar_3b067_34 : decode cJ2_getChar_3b067 34 = .ok (.iinc 1 1, 3) := by decide +kernel
theorem dJ2_getChar_3b067_37 : decode cJ2_getChar_3b067 37 = .ok (.baload, 1) := by decide +kernel
theorem dJ2_getChar_3b067_38 : decode cJ2_getChar_3b067 38 = .ok (.sipush 255, 3) := by decide +kernel
theorem dJ2_getChar_3b067_41 : decode cJ2_getChar_3b067 41 = .ok (.iand, 1) := by decide +kernel
theorem dJ2_getChar_3b067_42 : decode cJ2_getChar_3b067 42 = .ok (.getstatic 59, 3) := by decide +kernel
theorem dJ2_getChar_3b067_45 : decode cJ2_getChar_3b067 45 = .ok (.ishl, 1) := by decide +kernel
theorem dJ2_getChar_3b067_46 : decode cJ2_getChar_3b067 46 = .ok (.aload_n 0, 1) := by decide +kernel
theorem dJ2_getChar_3b067_47 : decode cJ2_getChar_3b067 47 = .ok (.iload_n 1, 1) := by decide +kernel
theorem dJ2_getChar_3b067_48 : decode cJ2_getChar_3b067 48 = .ok (.baload, 1) := by decide +kernel
theorem dJ2_getChar_3b067_49 : decode cJ2_getChar_3b067 49 = .ok (.sipush 255, 3) := by decide +kernel
theorem dJ2_getChar_3b067_52 : decode cJ2_getChar_3b067 52 = .ok (.iand, 1) := by decide +kernel
theorem dJ2_getChar_3b067_53 : decode cJ2_getChar_3b067 53 = .ok (.getstatic 63, 3) := by decide +kernel
theorem dJ2_getChar_3b067_56 : decode cJ2_getChar_3b067 56 = .ok (.ishl, 1) := by decide +kernel
theorem dJ2_getChar_3b067_57 : decode cJ2_getChar_3b067 57 = .ok (.ior, 1) := by decide +kernel
theorem dJ2_getChar_3b067_58 : decode cJ2_getChar_3b067 58 = .ok (.i2c, 1) := by decide +kernel
theorem dJ2_getChar_3b067_59 : decode cJ2_getChar_3b067 59 = .ok (.ireturn, 1) := by decide +kernel
theorem dJ2_length_9d52b_0 : decode cJ2_length_9d52b 0 = .ok (.aload_n 0, 1) := by decide +kernel
theorem dJ2_length_9d52b_1 : decode cJ2_length_9d52b 1 = .ok (.arraylength, 1) := by decide +kernel
theorem dJ2_length_9d52b_2 : decode cJ2_length_9d52b 2 = .ok (.iconst 1, 1) := by decide +kernel
theorem dJ2_length_9d52b_3 : decode cJ2_length_9d52b 3 = .ok (.ishr, 1) := by decide +kernel
theorem dJ2_length_9d52b_4 : decode cJ2_length_9d52b 4 = .ok (.ireturn, 1) := by decide +kernel
theorem dJ2_charAt_3b067_0 : decode cJ2_charAt_3b067 0 = .ok (.iload_n 1, 1) := by decide +kernel
theorem dJ2_charAt_3b067_1 : decode cJ2_charAt_3b067 1 = .ok (.aload_n 0, 1) := by decide +kernel
theorem dJ2_charAt_3b067_2 : decode cJ2_charAt_3b067 2 = .ok (.invokestatic 67, 3) := by decide +kernel
theorem dJ2_charAt_3b067_5 : decode cJ2_charAt_3b067 5 = .ok (.aload_n 0, 1) := by decide +kernel
theorem dJ2_charAt_3b067_6 : decode cJ2_charAt_3b067 6 = .ok (.iload_n 1, 1) := by decide +kernel
theorem dJ2_charAt_3b067_7 : decode cJ2_charAt_3b067 7 = .ok (.invokestatic 71, 3) := by decide +kernel
theorem dJ2_charAt_3b067_10 : decode cJ2_charAt_3b067 10 = .ok (.ireturn, 1) := by decide +kernel
theorem dJ2_checkIndex_2214a_0 : decode cJ2_checkIndex_2214a 0 = .ok (.iload_n 0, 1) := by decide +kernel
theorem dJ2_checkIndex_2214a_1 : decode cJ2_checkIndex_2214a 1 = .ok (.aload_n 1, 1) := by decide +kernel
theorem dJ2_checkIndex_2214a_2 : decode cJ2_checkIndex_2214a 2 = .ok (.invokestatic 48, 3) := by decide +kernel
theorem dJ2_checkIndex_2214a_5 : decode cJ2_checkIndex_2214a 5 = .ok (.invokestatic 414, 3) := by decide +kernel
theorem dJ2_checkIndex_2214a_8 : decode cJ2_checkIndex_2214a 8 = .ok (.return_, 1) := by decide +kernel
theorem dJ3_checkIndex_8e157_0 : decode cJ3_checkIndex_8e157 0 = .ok (.iload_n 0, 1) := by decide +kernel
theorem dJ3_checkIndex_8e157_1 : decode cJ3_checkIndex_8e157 1 = .ok (.ifCond .lt 8, 3) := by decide +kernel
theorem dJ3_checkIndex_8e157_4 : decode cJ3_checkIndex_8e157 4 = .ok (.iload_n 0, 1) := by decide +kernel
theorem dJ3_checkIndex_8e157_5 : decode cJ3_checkIndex_8e157 5 = .ok (.iload_n 1, 1) := by decide +kernel
theorem dJ3_checkIndex_8e157_6 : decode cJ3_checkIndex_8e157 6 = .ok (.if_icmp .lt 10, 3) := by decide +kernel
theorem dJ3_checkIndex_8e157_9 : decode cJ3_checkIndex_8e157 9 = .ok (.aload_n 2, 1) := by decide +kernel
theorem dJ3_checkIndex_8e157_10 : decode cJ3_checkIndex_8e157 10 = .ok (.iload_n 0, 1) := by decide +kernel
theorem dJ3_checkIndex_8e157_11 : decode cJ3_checkIndex_8e157 11 = .ok (.iload_n 1, 1) := by decide +kernel
theorem dJ3_checkIndex_8e157_12 : decode cJ3_checkIndex_8e157 12 = .ok (.invokestatic 95, 3) := by decide +kernel
theorem dJ3_checkIndex_8e157_15 : decode cJ3_checkIndex_8e157 15 = .ok (.athrow, 1) := by decide +kernel
theorem dJ3_checkIndex_8e157_16 : decode cJ3_checkIndex_8e157 16 = .ok (.iload_n 0, 1) := by decide +kernel
theorem dJ3_checkIndex_8e157_17 : decode cJ3_checkIndex_8e157 17 = .ok (.ireturn, 1) := by decide +kernel
theorem dJ7_fill_53178_0 : decode cJ7_fill_53178 0 = .ok (.iconst 0, 1) := by decide +kernel
theorem dJ7_fill_53178_1 : decode cJ7_fill_53178 1 = .ok (.istore_n 2, 1) := by decide +kernel
theorem dJ7_fill_53178_2 : decode cJ7_fill_53178 2 = .ok (.aload_n 0, 1) := by decide +kernel
theorem dJ7_fill_53178_3 : decode cJ7_fill_53178 3 = .ok (.arraylength, 1) := by decide +kernel
theorem dJ7_fill_53178_4 : decode cJ7_fill_53178 4 = .ok (.istore_n 3, 1) := by decide +kernel
theorem dJ7_fill_53178_5 : decode cJ7_fill_53178 5 = .ok (.iload_n 2, 1) := by decide +kernel
theorem dJ7_fill_53178_6 : decode cJ7_fill_53178 6 = .ok (.iload_n 3, 1) := by decide +kernel
theorem dJ7_fill_53178_7 : decode cJ7_fill_53178 7 = .ok (.if_icmp .ge 13, 3) := by decide +kernel
theorem dJ7_fill_53178_10 : decode cJ7_fill_53178 10 = .ok (.aload_n 0, 1) := by decide +kernel
theorem dJ7_fill_53178_11 : decode cJ7_fill_53178 11 = .ok (.iload_n 2, 1) := by decide +kernel
theorem dJ7_fill_53178_12 : decode cJ7_fill_53178 12 = .ok (.iload_n 1, 1) := by decide +kernel
theorem dJ7_fill_53178_13 : decode cJ7_fill_53178 13 = .ok (.iastore, 1) := by decide +kernel
theorem dJ7_fill_53178_14 : decode cJ7_fill_53178 14 = .ok (.iinc 2 1, 3) := by decide +kernel
theorem dJ7_fill_53178_17 : decode cJ7_fill_53178 17 = .ok (.goto (-12), 3) := by decide +kernel
theorem dJ7_fill_53178_20 : decode cJ7_fill_53178 20 = .ok (.return_, 1) := by decide +kernel
theorem dJ9_max_7cf53_0 : decode cJ9_max_7cf53 0 = .ok (.iload_n 0, 1) := by decide +kernel
theorem dJ9_max_7cf53_1 : decode cJ9_max_7cf53 1 = .ok (.iload_n 1, 1) := by decide +kernel
theorem dJ9_max_7cf53_2 : decode cJ9_max_7cf53 2 = .ok (.if_icmp .lt 7, 3) := by decide +kernel
theorem dJ9_max_7cf53_5 : decode cJ9_max_7cf53 5 = .ok (.iload_n 0, 1) := by decide +kernel
theorem dJ9_max_7cf53_6 : decode cJ9_max_7cf53 6 = .ok (.goto 4, 3) := by decide +kernel
theorem dJ9_max_7cf53_9 : decode cJ9_max_7cf53 9 = .ok (.iload_n 1, 1) := by decide +kernel
theorem dJ9_max_7cf53_10 : decode cJ9_max_7cf53 10 = .ok (.ireturn, 1) := by decide +kernel
theorem dJ9_min_7cf53_0 : decode cJ9_min_7cf53 0 = .ok (.iload_n 0, 1) := by decide +kernel
theorem dJ9_min_7cf53_1 : decode cJ9_min_7cf53 1 = .ok (.iload_n 1, 1) := by decide +kernel
theorem dJ9_min_7cf53_2 : decode cJ9_min_7cf53 2 = .ok (.if_icmp .gt 7, 3) := by decide +kernel
theorem dJ9_min_7cf53_5 : decode cJ9_min_7cf53 5 = .ok (.iload_n 0, 1) := by decide +kernel
theorem dJ9_min_7cf53_6 : decode cJ9_min_7cf53 6 = .ok (.goto 4, 3) := by decide +kernel
theorem dJ9_min_7cf53_9 : decode cJ9_min_7cf53 9 = .ok (.iload_n 1, 1) := by decide +kernel
theorem dJ9_min_7cf53_10 : decode cJ9_min_7cf53 10 = .ok (.ireturn, 1) := by decide +kernel
theorem dL_law_0 : decode cL_law 0 = .ok (.new 7, 3) := by decide +kernel
theorem dL_law_3 : decode cL_law 3 = .ok (.dup, 1) := by decide +kernel
theorem dL_law_4 : decode cL_law 4 = .ok (.invokespecial 9, 3) := by decide +kernel
theorem dL_law_7 : decode cL_law 7 = .ok (.astore_n 1, 1) := by decide +kernel
theorem dL_law_8 : decode cL_law 8 = .ok (.new 10, 3) := by decide +kernel
theorem dL_law_11 : decode cL_law 11 = .ok (.dup, 1) := by decide +kernel
theorem dL_law_12 : decode cL_law 12 = .ok (.invokespecial 12, 3) := by decide +kernel
theorem dL_law_15 : decode cL_law 15 = .ok (.astore_n 2, 1) := by decide +kernel
theorem dL_law_16 : decode cL_law 16 = .ok (.iconst 0, 1) := by decide +kernel
theorem dL_law_17 : decode cL_law 17 = .ok (.istore_n 3, 1) := by decide +kernel
theorem dL_law_18 : decode cL_law 18 = .ok (.iload_n 3, 1) := by decide +kernel
theorem dL_law_19 : decode cL_law 19 = .ok (.aload_n 0, 1) := by decide +kernel
theorem dL_law_20 : decode cL_law 20 = .ok (.arraylength, 1) := by decide +kernel
theorem dL_law_21 : decode cL_law 21 = .ok (.bipush 8, 2) := by decide +kernel
theorem dL_law_23 : decode cL_law 23 = .ok (.isub, 1) := by decide +kernel
theorem dL_law_24 : decode cL_law 24 = .ok (.if_icmp .gt 1503, 3) := by decide +kernel
theorem dL_law_27 : decode cL_law 27 = .ok (.aload_n 0, 1) := by decide +kernel
theorem dL_law_28 : decode cL_law 28 = .ok (.iload_n 3, 1) := by decide +kernel
theorem dL_law_29 : decode cL_law 29 = .ok (.iaload, 1) := by decide +kernel
theorem dL_law_30 : decode cL_law 30 = .ok (.bipush 63, 2) := by decide +kernel
theorem dL_law_32 : decode cL_law 32 = .ok (.iand, 1) := by decide +kernel
theorem dL_law_33 : decode cL_law 33 = .ok (.tableswitch 1488 0 33 #[151, 184, 227, 260, 313, 346, 389, 422, 497, 530, 574, 618, 661, 694, 717, 730, 753, 786, 829, 892, 935, 968, 1031, 1044, 1151, 1200, 1233, 1257, 1290, 1323, 1346, 1369, 1412, 1455], 151) := by decide +kernel
theorem dL_law_184 : decode cL_law 184 = .ok (.aload_n 1, 1) := by decide +kernel
theorem dL_law_185 : decode cL_law 185 = .ok (.aload_n 0, 1) := by decide +kernel
theorem dL_law_186 : decode cL_law 186 = .ok (.iload_n 3, 1) := by decide +kernel
theorem dL_law_187 : decode cL_law 187 = .ok (.iconst 1, 1) := by decide +kernel
theorem dL_law_188 : decode cL_law 188 = .ok (.iadd, 1) := by decide +kernel
theorem dL_law_189 : decode cL_law 189 = .ok (.iaload, 1) := by decide +kernel
theorem dL_law_190 : decode cL_law 190 = .ok (.aload_n 0, 1) := by decide +kernel
theorem dL_law_191 : decode cL_law 191 = .ok (.iload_n 3, 1) := by decide +kernel
theorem dL_law_192 : decode cL_law 192 = .ok (.iconst 2, 1) := by decide +kernel
theorem dL_law_193 : decode cL_law 193 = .ok (.iadd, 1) := by decide +kernel
theorem dL_law_194 : decode cL_law 194 = .ok (.iaload, 1) := by decide +kernel
theorem dL_law_195 : decode cL_law 195 = .ok (.invokevirtual 13, 3) := by decide +kernel
theorem dL_law_198 : decode cL_law 198 = .ok (.aload_n 2, 1) := by decide +kernel
theorem dL_law_199 : decode cL_law 199 = .ok (.aload_n 0, 1) := by decide +kernel
theorem dL_law_200 : decode cL_law 200 = .ok (.iload_n 3, 1) := by decide +kernel
theorem dL_law_201 : decode cL_law 201 = .ok (.iconst 1, 1) := by decide +kernel
theorem dL_law_202 : decode cL_law 202 = .ok (.iadd, 1) := by decide +kernel
theorem dL_law_203 : decode cL_law 203 = .ok (.iaload, 1) := by decide +kernel
theorem dL_law_204 : decode cL_law 204 = .ok (.aload_n 0, 1) := by decide +kernel
theorem dL_law_205 : decode cL_law 205 = .ok (.iload_n 3, 1) := by decide +kernel
theorem dL_law_206 : decode cL_law 206 = .ok (.iconst 2, 1) := by decide +kernel
theorem dL_law_207 : decode cL_law 207 = .ok (.iadd, 1) := by decide +kernel
theorem dL_law_208 : decode cL_law 208 = .ok (.iaload, 1) := by decide +kernel
theorem dL_law_209 : decode cL_law 209 = .ok (.invokevirtual 17, 3) := by decide +kernel
theorem dL_law_212 : decode cL_law 212 = .ok (.if_icmp .eq 1309, 3) := by decide +kernel
theorem dL_law_215 : decode cL_law 215 = .ok (.iconst 0, 1) := by decide +kernel
theorem dL_law_216 : decode cL_law 216 = .ok (.ireturn, 1) := by decide +kernel
theorem dL_law_217 : decode cL_law 217 = .ok (.aload_n 1, 1) := by decide +kernel
theorem dL_law_218 : decode cL_law 218 = .ok (.aload_n 0, 1) := by decide +kernel
theorem dL_law_219 : decode cL_law 219 = .ok (.iload_n 3, 1) := by decide +kernel
theorem dL_law_220 : decode cL_law 220 = .ok (.iconst 1, 1) := by decide +kernel
theorem dL_law_221 : decode cL_law 221 = .ok (.iadd, 1) := by decide +kernel
theorem dL_law_222 : decode cL_law 222 = .ok (.iaload, 1) := by decide +kernel
theorem dL_law_223 : decode cL_law 223 = .ok (.aload_n 0, 1) := by decide +kernel
theorem dL_law_224 : decode cL_law 224 = .ok (.iload_n 3, 1) := by decide +kernel
theorem dL_law_225 : decode cL_law 225 = .ok (.iconst 2, 1) := by decide +kernel
theorem dL_law_226 : decode cL_law 226 = .ok (.iadd, 1) := by decide +kernel
theorem dL_law_227 : decode cL_law 227 = .ok (.iaload, 1) := by decide +kernel
theorem dL_law_228 : decode cL_law 228 = .ok (.aload_n 0, 1) := by decide +kernel
theorem dL_law_229 : decode cL_law 229 = .ok (.iload_n 3, 1) := by decide +kernel
theorem dL_law_230 : decode cL_law 230 = .ok (.iconst 3, 1) := by decide +kernel
theorem dL_law_231 : decode cL_law 231 = .ok (.iadd, 1) := by decide +kernel
theorem dL_law_232 : decode cL_law 232 = .ok (.iaload, 1) := by decide +kernel
theorem dL_law_233 : decode cL_law 233 = .ok (.invokevirtual 18, 3) := by decide +kernel
theorem dL_law_236 : decode cL_law 236 = .ok (.aload_n 2, 1) := by decide +kernel
theorem dL_law_237 : decode cL_law 237 = .ok (.aload_n 0, 1) := by decide +kernel
theorem dL_law_238 : decode cL_law 238 = .ok (.iload_n 3, 1) := by decide +kernel
theorem dL_law_239 : decode cL_law 239 = .ok (.iconst 1, 1) := by decide +kernel
theorem dL_law_240 : decode cL_law 240 = .ok (.iadd, 1) := by decide +kernel
theorem dL_law_241 : decode cL_law 241 = .ok (.iaload, 1) := by decide +kernel
theorem dL_law_242 : decode cL_law 242 = .ok (.aload_n 0, 1) := by decide +kernel
theorem dL_law_243 : decode cL_law 243 = .ok (.iload_n 3, 1) := by decide +kernel
theorem dL_law_244 : decode cL_law 244 = .ok (.iconst 2, 1) := by decide +kernel
theorem dL_law_245 : decode cL_law 245 = .ok (.iadd, 1) := by decide +kernel
theorem dL_law_246 : decode cL_law 246 = .ok (.iaload, 1) := by decide +kernel
theorem dL_law_247 : decode cL_law 247 = .ok (.aload_n 0, 1) := by decide +kernel
theorem dL_law_248 : decode cL_law 248 = .ok (.iload_n 3, 1) := by decide +kernel
theorem dL_law_249 : decode cL_law 249 = .ok (.iconst 3, 1) := by decide +kernel
theorem dL_law_250 : decode cL_law 250 = .ok (.iadd, 1) := by decide +kernel
theorem dL_law_251 : decode cL_law 251 = .ok (.iaload, 1) := by decide +kernel
theorem dL_law_252 : decode cL_law 252 = .ok (.invokevirtual 22, 3) := by decide +kernel
theorem dL_law_255 : decode cL_law 255 = .ok (.if_icmp .eq 1266, 3) := by decide +kernel
theorem dL_law_258 : decode cL_law 258 = .ok (.iconst 0, 1) := by decide +kernel
theorem dL_law_259 : decode cL_law 259 = .ok (.ireturn, 1) := by decide +kernel
theorem dL_law_260 : decode cL_law 260 = .ok (.aload_n 1, 1) := by decide +kernel
theorem dL_law_261 : decode cL_law 261 = .ok (.aload_n 0, 1) := by decide +kernel
theorem dL_law_262 : decode cL_law 262 = .ok (.iload_n 3, 1) := by decide +kernel
theorem dL_law_263 : decode cL_law 263 = .ok (.iconst 1, 1) := by decide +kernel
theorem dL_law_264 : decode cL_law 264 = .ok (.iadd, 1) := by decide +kernel
theorem dL_law_265 : decode cL_law 265 = .ok (.iaload, 1) := by decide +kernel
theorem dL_law_266 : decode cL_law 266 = .ok (.aload_n 0, 1) := by decide +kernel
theorem dL_law_267 : decode cL_law 267 = .ok (.iload_n 3, 1) := by decide +kernel
theorem dL_law_268 : decode cL_law 268 = .ok (.iconst 2, 1) := by decide +kernel
theorem dL_law_269 : decode cL_law 269 = .ok (.iadd, 1) := by decide +kernel
theorem dL_law_270 : decode cL_law 270 = .ok (.iaload, 1) := by decide +kernel
theorem dL_law_271 : decode cL_law 271 = .ok (.invokevirtual 23, 3) := by decide +kernel
theorem dL_law_274 : decode cL_law 274 = .ok (.aload_n 2, 1) := by decide +kernel
theorem dL_law_275 : decode cL_law 275 = .ok (.aload_n 0, 1) := by decide +kernel
theorem dL_law_276 : decode cL_law 276 = .ok (.iload_n 3, 1) := by decide +kernel
theorem dL_law_277 : decode cL_law 277 = .ok (.iconst 1, 1) := by decide +kernel
theorem dL_law_278 : decode cL_law 278 = .ok (.iadd, 1) := by decide +kernel
theorem dL_law_279 : decode cL_law 279 = .ok (.iaload, 1) := by decide +kernel
theorem dL_law_280 : decode cL_law 280 = .ok (.aload_n 0, 1) := by decide +kernel
theorem dL_law_281 : decode cL_law 281 = .ok (.iload_n 3, 1) := by decide +kernel
theorem dL_law_282 : decode cL_law 282 = .ok (.iconst 2, 1) := by decide +kernel
theorem dL_law_283 : decode cL_law 283 = .ok (.iadd, 1) := by decide +kernel
theorem dL_law_284 : decode cL_law 284 = .ok (.iaload, 1) := by decide +kernel
theorem dL_law_285 : decode cL_law 285 = .ok (.invokevirtual 26, 3) := by decide +kernel
theorem dL_law_288 : decode cL_law 288 = .ok (.if_icmp .eq 1233, 3) := by decide +kernel
theorem dL_law_291 : decode cL_law 291 = .ok (.iconst 0, 1) := by decide +kernel
theorem dL_law_292 : decode cL_law 292 = .ok (.ireturn, 1) := by decide +kernel
theorem dL_law_293 : decode cL_law 293 = .ok (.aload_n 1, 1) := by decide +kernel
theorem dL_law_294 : decode cL_law 294 = .ok (.aload_n 0, 1) := by decide +kernel
theorem dL_law_295 : decode cL_law 295 = .ok (.iload_n 3, 1) := by decide +kernel
theorem dL_law_296 : decode cL_law 296 = .ok (.iconst 1, 1) := by decide +kernel
theorem dL_law_297 : decode cL_law 297 = .ok (.iadd, 1) := by decide +kernel
theorem dL_law_298 : decode cL_law 298 = .ok (.iaload, 1) := by decide +kernel
theorem dL_law_299 : decode cL_law 299 = .ok (.aload_n 0, 1) := by decide +kernel
theorem dL_law_300 : decode cL_law 300 = .ok (.iload_n 3, 1) := by decide +kernel
theorem dL_law_301 : decode cL_law 301 = .ok (.iconst 2, 1) := by decide +kernel
theorem dL_law_302 : decode cL_law 302 = .ok (.iadd, 1) := by decide +kernel
theorem dL_law_303 : decode cL_law 303 = .ok (.iaload, 1) := by decide +kernel
theorem dL_law_304 : decode cL_law 304 = .ok (.aload_n 0, 1) := by decide +kernel
theorem dL_law_305 : decode cL_law 305 = .ok (.iload_n 3, 1) := by decide +kernel
theorem dL_law_306 : decode cL_law 306 = .ok (.iconst 3, 1) := by decide +kernel
theorem dL_law_307 : decode cL_law 307 = .ok (.iadd, 1) := by decide +kernel
theorem dL_law_308 : decode cL_law 308 = .ok (.iaload, 1) := by decide +kernel
theorem dL_law_309 : decode cL_law 309 = .ok (.aload_n 0, 1) := by decide +kernel
theorem dL_law_310 : decode cL_law 310 = .ok (.iload_n 3, 1) := by decide +kernel
theorem dL_law_311 : decode cL_law 311 = .ok (.iconst 4, 1) := by decide +kernel
theorem dL_law_312 : decode cL_law 312 = .ok (.iadd, 1) := by decide +kernel
theorem dL_law_313 : decode cL_law 313 = .ok (.iaload, 1) := by decide +kernel
theorem dL_law_314 : decode cL_law 314 = .ok (.invokevirtual 27, 3) := by decide +kernel
theorem dL_law_317 : decode cL_law 317 = .ok (.aload_n 2, 1) := by decide +kernel
theorem dL_law_318 : decode cL_law 318 = .ok (.aload_n 0, 1) := by decide +kernel
theorem dL_law_319 : decode cL_law 319 = .ok (.iload_n 3, 1) := by decide +kernel
theorem dL_law_320 : decode cL_law 320 = .ok (.iconst 1, 1) := by decide +kernel
theorem dL_law_321 : decode cL_law 321 = .ok (.iadd, 1) := by decide +kernel
theorem dL_law_322 : decode cL_law 322 = .ok (.iaload, 1) := by decide +kernel
theorem dL_law_323 : decode cL_law 323 = .ok (.aload_n 0, 1) := by decide +kernel
theorem dL_law_324 : decode cL_law 324 = .ok (.iload_n 3, 1) := by decide +kernel
theorem dL_law_325 : decode cL_law 325 = .ok (.iconst 2, 1) := by decide +kernel
theorem dL_law_326 : decode cL_law 326 = .ok (.iadd, 1) := by decide +kernel
theorem dL_law_327 : decode cL_law 327 = .ok (.iaload, 1) := by decide +kernel
theorem dL_law_328 : decode cL_law 328 = .ok (.aload_n 0, 1) := by decide +kernel
theorem dL_law_329 : decode cL_law 329 = .ok (.iload_n 3, 1) := by decide +kernel
theorem dL_law_330 : decode cL_law 330 = .ok (.iconst 3, 1) := by decide +kernel
theorem dL_law_331 : decode cL_law 331 = .ok (.iadd, 1) := by decide +kernel
theorem dL_law_332 : decode cL_law 332 = .ok (.iaload, 1) := by decide +kernel
theorem dL_law_333 : decode cL_law 333 = .ok (.aload_n 0, 1) := by decide +kernel
theorem dL_law_334 : decode cL_law 334 = .ok (.iload_n 3, 1) := by decide +kernel
theorem dL_law_335 : decode cL_law 335 = .ok (.iconst 4, 1) := by decide +kernel
theorem dL_law_336 : decode cL_law 336 = .ok (.iadd, 1) := by decide +kernel
theorem dL_law_337 : decode cL_law 337 = .ok (.iaload, 1) := by decide +kernel
theorem dL_law_338 : decode cL_law 338 = .ok (.invokevirtual 31, 3) := by decide +kernel
theorem dL_law_341 : decode cL_law 341 = .ok (.if_icmp .eq 1180, 3) := by decide +kernel
theorem dL_law_344 : decode cL_law 344 = .ok (.iconst 0, 1) := by decide +kernel
theorem dL_law_345 : decode cL_law 345 = .ok (.ireturn, 1) := by decide +kernel
theorem dL_law_346 : decode cL_law 346 = .ok (.aload_n 1, 1) := by decide +kernel
theorem dL_law_347 : decode cL_law 347 = .ok (.aload_n 0, 1) := by decide +kernel
theorem dL_law_348 : decode cL_law 348 = .ok (.iload_n 3, 1) := by decide +kernel
theorem dL_law_349 : decode cL_law 349 = .ok (.iconst 1, 1) := by decide +kernel
theorem dL_law_350 : decode cL_law 350 = .ok (.iadd, 1) := by decide +kernel
theorem dL_law_351 : decode cL_law 351 = .ok (.iaload, 1) := by decide +kernel
theorem dL_law_352 : decode cL_law 352 = .ok (.aload_n 0, 1) := by decide +kernel
theorem dL_law_353 : decode cL_law 353 = .ok (.iload_n 3, 1) := by decide +kernel
theorem dL_law_354 : decode cL_law 354 = .ok (.iconst 2, 1) := by decide +kernel
theorem dL_law_355 : decode cL_law 355 = .ok (.iadd, 1) := by decide +kernel
theorem dL_law_356 : decode cL_law 356 = .ok (.iaload, 1) := by decide +kernel
theorem dL_law_357 : decode cL_law 357 = .ok (.invokevirtual 32, 3) := by decide +kernel
theorem dL_law_360 : decode cL_law 360 = .ok (.aload_n 2, 1) := by decide +kernel
theorem dL_law_361 : decode cL_law 361 = .ok (.aload_n 0, 1) := by decide +kernel
theorem dL_law_362 : decode cL_law 362 = .ok (.iload_n 3, 1) := by decide +kernel
theorem dL_law_363 : decode cL_law 363 = .ok (.iconst 1, 1) := by decide +kernel
theorem dL_law_364 : decode cL_law 364 = .ok (.iadd, 1) := by decide +kernel
theorem dL_law_365 : decode cL_law 365 = .ok (.iaload, 1) := by decide +kernel
theorem dL_law_366 : decode cL_law 366 = .ok (.aload_n 0, 1) := by decide +kernel
theorem dL_law_367 : decode cL_law 367 = .ok (.iload_n 3, 1) := by decide +kernel
theorem dL_law_368 : decode cL_law 368 = .ok (.iconst 2, 1) := by decide +kernel
theorem dL_law_369 : decode cL_law 369 = .ok (.iadd, 1) := by decide +kernel
theorem dL_law_370 : decode cL_law 370 = .ok (.iaload, 1) := by decide +kernel
theorem dL_law_371 : decode cL_law 371 = .ok (.invokevirtual 35, 3) := by decide +kernel
theorem dL_law_374 : decode cL_law 374 = .ok (.if_icmp .eq 1147, 3) := by decide +kernel
theorem dL_law_377 : decode cL_law 377 = .ok (.iconst 0, 1) := by decide +kernel
theorem dL_law_378 : decode cL_law 378 = .ok (.ireturn, 1) := by decide +kernel
theorem dL_law_379 : decode cL_law 379 = .ok (.aload_n 1, 1) := by decide +kernel
theorem dL_law_380 : decode cL_law 380 = .ok (.aload_n 0, 1) := by decide +kernel
theorem dL_law_381 : decode cL_law 381 = .ok (.iload_n 3, 1) := by decide +kernel
theorem dL_law_382 : decode cL_law 382 = .ok (.iconst 1, 1) := by decide +kernel
theorem dL_law_383 : decode cL_law 383 = .ok (.iadd, 1) := by decide +kernel
theorem dL_law_384 : decode cL_law 384 = .ok (.iaload, 1) := by decide +kernel
theorem dL_law_385 : decode cL_law 385 = .ok (.aload_n 0, 1) := by decide +kernel
theorem dL_law_386 : decode cL_law 386 = .ok (.iload_n 3, 1) := by decide +kernel
theorem dL_law_387 : decode cL_law 387 = .ok (.iconst 2, 1) := by decide +kernel
theorem dL_law_388 : decode cL_law 388 = .ok (.iadd, 1) := by decide +kernel
theorem dL_law_389 : decode cL_law 389 = .ok (.iaload, 1) := by decide +kernel
theorem dL_law_390 : decode cL_law 390 = .ok (.aload_n 0, 1) := by decide +kernel
theorem dL_law_391 : decode cL_law 391 = .ok (.iload_n 3, 1) := by decide +kernel
theorem dL_law_392 : decode cL_law 392 = .ok (.iconst 3, 1) := by decide +kernel
theorem dL_law_393 : decode cL_law 393 = .ok (.iadd, 1) := by decide +kernel
theorem dL_law_394 : decode cL_law 394 = .ok (.iaload, 1) := by decide +kernel
theorem dL_law_395 : decode cL_law 395 = .ok (.invokevirtual 36, 3) := by decide +kernel
theorem dL_law_398 : decode cL_law 398 = .ok (.aload_n 2, 1) := by decide +kernel
theorem dL_law_399 : decode cL_law 399 = .ok (.aload_n 0, 1) := by decide +kernel
theorem dL_law_400 : decode cL_law 400 = .ok (.iload_n 3, 1) := by decide +kernel
theorem dL_law_401 : decode cL_law 401 = .ok (.iconst 1, 1) := by decide +kernel
theorem dL_law_402 : decode cL_law 402 = .ok (.iadd, 1) := by decide +kernel
theorem dL_law_403 : decode cL_law 403 = .ok (.iaload, 1) := by decide +kernel
theorem dL_law_404 : decode cL_law 404 = .ok (.aload_n 0, 1) := by decide +kernel
theorem dL_law_405 : decode cL_law 405 = .ok (.iload_n 3, 1) := by decide +kernel
theorem dL_law_406 : decode cL_law 406 = .ok (.iconst 2, 1) := by decide +kernel
theorem dL_law_407 : decode cL_law 407 = .ok (.iadd, 1) := by decide +kernel
theorem dL_law_408 : decode cL_law 408 = .ok (.iaload, 1) := by decide +kernel
theorem dL_law_409 : decode cL_law 409 = .ok (.aload_n 0, 1) := by decide +kernel
theorem dL_law_410 : decode cL_law 410 = .ok (.iload_n 3, 1) := by decide +kernel
theorem dL_law_411 : decode cL_law 411 = .ok (.iconst 3, 1) := by decide +kernel
theorem dL_law_412 : decode cL_law 412 = .ok (.iadd, 1) := by decide +kernel
theorem dL_law_413 : decode cL_law 413 = .ok (.iaload, 1) := by decide +kernel
theorem dL_law_414 : decode cL_law 414 = .ok (.invokevirtual 39, 3) := by decide +kernel
theorem dL_law_417 : decode cL_law 417 = .ok (.if_icmp .eq 1104, 3) := by decide +kernel
theorem dL_law_420 : decode cL_law 420 = .ok (.iconst 0, 1) := by decide +kernel
theorem dL_law_421 : decode cL_law 421 = .ok (.ireturn, 1) := by decide +kernel
theorem dL_law_422 : decode cL_law 422 = .ok (.aload_n 1, 1) := by decide +kernel
theorem dL_law_423 : decode cL_law 423 = .ok (.aload_n 0, 1) := by decide +kernel
theorem dL_law_424 : decode cL_law 424 = .ok (.iload_n 3, 1) := by decide +kernel
theorem dL_law_425 : decode cL_law 425 = .ok (.iconst 1, 1) := by decide +kernel
theorem dL_law_426 : decode cL_law 426 = .ok (.iadd, 1) := by decide +kernel
theorem dL_law_427 : decode cL_law 427 = .ok (.iaload, 1) := by decide +kernel
theorem dL_law_428 : decode cL_law 428 = .ok (.aload_n 0, 1) := by decide +kernel
theorem dL_law_429 : decode cL_law 429 = .ok (.iload_n 3, 1) := by decide +kernel
theorem dL_law_430 : decode cL_law 430 = .ok (.iconst 2, 1) := by decide +kernel
theorem dL_law_431 : decode cL_law 431 = .ok (.iadd, 1) := by decide +kernel
theorem dL_law_432 : decode cL_law 432 = .ok (.iaload, 1) := by decide +kernel
theorem dL_law_433 : decode cL_law 433 = .ok (.invokevirtual 40, 3) := by decide +kernel
theorem dL_law_436 : decode cL_law 436 = .ok (.aload_n 2, 1) := by decide +kernel
theorem dL_law_437 : decode cL_law 437 = .ok (.aload_n 0, 1) := by decide +kernel
theorem dL_law_438 : decode cL_law 438 = .ok (.iload_n 3, 1) := by decide +kernel
theorem dL_law_439 : decode cL_law 439 = .ok (.iconst 1, 1) := by decide +kernel
theorem dL_law_440 : decode cL_law 440 = .ok (.iadd, 1) := by decide +kernel
theorem dL_law_441 : decode cL_law 441 = .ok (.iaload, 1) := by decide +kernel
theorem dL_law_442 : decode cL_law 442 = .ok (.aload_n 0, 1) := by decide +kernel
theorem dL_law_443 : decode cL_law 443 = .ok (.iload_n 3, 1) := by decide +kernel
theorem dL_law_444 : decode cL_law 444 = .ok (.iconst 2, 1) := by decide +kernel
theorem dL_law_445 : decode cL_law 445 = .ok (.iadd, 1) := by decide +kernel
theorem dL_law_446 : decode cL_law 446 = .ok (.iaload, 1) := by decide +kernel
theorem dL_law_447 : decode cL_law 447 = .ok (.invokevirtual 43, 3) := by decide +kernel
theorem dL_law_450 : decode cL_law 450 = .ok (.if_icmp .eq 1071, 3) := by decide +kernel
theorem dL_law_453 : decode cL_law 453 = .ok (.iconst 0, 1) := by decide +kernel
theorem dL_law_454 : decode cL_law 454 = .ok (.ireturn, 1) := by decide +kernel
theorem dL_law_455 : decode cL_law 455 = .ok (.aload_n 1, 1) := by decide +kernel
theorem dL_law_456 : decode cL_law 456 = .ok (.aload_n 0, 1) := by decide +kernel
theorem dL_law_457 : decode cL_law 457 = .ok (.iload_n 3, 1) := by decide +kernel
theorem dL_law_458 : decode cL_law 458 = .ok (.iconst 1, 1) := by decide +kernel
theorem dL_law_459 : decode cL_law 459 = .ok (.iadd, 1) := by decide +kernel
theorem dL_law_460 : decode cL_law 460 = .ok (.iaload, 1) := by decide +kernel
theorem dL_law_461 : decode cL_law 461 = .ok (.aload_n 0, 1) := by decide +kernel
theorem dL_law_462 : decode cL_law 462 = .ok (.iload_n 3, 1) := by decide +kernel
theorem dL_law_463 : decode cL_law 463 = .ok (.iconst 2, 1) := by decide +kernel
theorem dL_law_464 : decode cL_law 464 = .ok (.iadd, 1) := by decide +kernel
theorem dL_law_465 : decode cL_law 465 = .ok (.iaload, 1) := by decide +kernel
theorem dL_law_466 : decode cL_law 466 = .ok (.aload_n 0, 1) := by decide +kernel
theorem dL_law_467 : decode cL_law 467 = .ok (.iload_n 3, 1) := by decide +kernel
theorem dL_law_468 : decode cL_law 468 = .ok (.iconst 3, 1) := by decide +kernel
theorem dL_law_469 : decode cL_law 469 = .ok (.iadd, 1) := by decide +kernel
theorem dL_law_470 : decode cL_law 470 = .ok (.iaload, 1) := by decide +kernel
theorem dL_law_471 : decode cL_law 471 = .ok (.aload_n 0, 1) := by decide +kernel
theorem dL_law_472 : decode cL_law 472 = .ok (.iload_n 3, 1) := by decide +kernel
theorem dL_law_473 : decode cL_law 473 = .ok (.iconst 4, 1) := by decide +kernel
theorem dL_law_474 : decode cL_law 474 = .ok (.iadd, 1) := by decide +kernel
theorem dL_law_475 : decode cL_law 475 = .ok (.iaload, 1) := by decide +kernel
theorem dL_law_476 : decode cL_law 476 = .ok (.aload_n 0, 1) := by decide +kernel
theorem dL_law_477 : decode cL_law 477 = .ok (.iload_n 3, 1) := by decide +kernel
theorem dL_law_478 : decode cL_law 478 = .ok (.iconst 5, 1) := by decide +kernel
theorem dL_law_479 : decode cL_law 479 = .ok (.iadd, 1) := by decide +kernel
theorem dL_law_480 : decode cL_law 480 = .ok (.iaload, 1) := by decide +kernel
theorem dL_law_481 : decode cL_law 481 = .ok (.aload_n 0, 1) := by decide +kernel
theorem dL_law_482 : decode cL_law 482 = .ok (.iload_n 3, 1) := by decide +kernel
theorem dL_law_483 : decode cL_law 483 = .ok (.bipush 6, 2) := by decide +kernel
theorem dL_law_485 : decode cL_law 485 = .ok (.iadd, 1) := by decide +kernel
theorem dL_law_486 : decode cL_law 486 = .ok (.iaload, 1) := by decide +kernel
theorem dL_law_487 : decode cL_law 487 = .ok (.invokevirtual 44, 3) := by decide +kernel
theorem dL_law_490 : decode cL_law 490 = .ok (.aload_n 2, 1) := by decide +kernel
theorem dL_law_491 : decode cL_law 491 = .ok (.aload_n 0, 1) := by decide +kernel
theorem dL_law_492 : decode cL_law 492 = .ok (.iload_n 3, 1) := by decide +kernel
theorem dL_law_493 : decode cL_law 493 = .ok (.iconst 1, 1) := by decide +kernel
theorem dL_law_494 : decode cL_law 494 = .ok (.iadd, 1) := by decide +kernel
theorem dL_law_495 : decode cL_law 495 = .ok (.iaload, 1) := by decide +kernel
theorem dL_law_496 : decode cL_law 496 = .ok (.aload_n 0, 1) := by decide +kernel
theorem dL_law_497 : decode cL_law 497 = .ok (.iload_n 3, 1) := by decide +kernel
theorem dL_law_498 : decode cL_law 498 = .ok (.iconst 2, 1) := by decide +kernel
theorem dL_law_499 : decode cL_law 499 = .ok (.iadd, 1) := by decide +kernel
theorem dL_law_500 : decode cL_law 500 = .ok (.iaload, 1) := by decide +kernel
theorem dL_law_501 : decode cL_law 501 = .ok (.aload_n 0, 1) := by decide +kernel
theorem dL_law_502 : decode cL_law 502 = .ok (.iload_n 3, 1) := by decide +kernel
theorem dL_law_503 : decode cL_law 503 = .ok (.iconst 3, 1) := by decide +kernel
theorem dL_law_504 : decode cL_law 504 = .ok (.iadd, 1) := by decide +kernel
theorem dL_law_505 : decode cL_law 505 = .ok (.iaload, 1) := by decide +kernel
theorem dL_law_506 : decode cL_law 506 = .ok (.aload_n 0, 1) := by decide +kernel
theorem dL_law_507 : decode cL_law 507 = .ok (.iload_n 3, 1) := by decide +kernel
theorem dL_law_508 : decode cL_law 508 = .ok (.iconst 4, 1) := by decide +kernel
theorem dL_law_509 : decode cL_law 509 = .ok (.iadd, 1) := by decide +kernel
theorem dL_law_510 : decode cL_law 510 = .ok (.iaload, 1) := by decide +kernel
theorem dL_law_511 : decode cL_law 511 = .ok (.aload_n 0, 1) := by decide +kernel
theorem dL_law_512 : decode cL_law 512 = .ok (.iload_n 3, 1) := by decide +kernel
theorem dL_law_513 : decode cL_law 513 = .ok (.iconst 5, 1) := by decide +kernel
theorem dL_law_514 : decode cL_law 514 = .ok (.iadd, 1) := by decide +kernel
theorem dL_law_515 : decode cL_law 515 = .ok (.iaload, 1) := by decide +kernel
theorem dL_law_516 : decode cL_law 516 = .ok (.aload_n 0, 1) := by decide +kernel
theorem dL_law_517 : decode cL_law 517 = .ok (.iload_n 3, 1) := by decide +kernel
theorem dL_law_518 : decode cL_law 518 = .ok (.bipush 6, 2) := by decide +kernel
theorem dL_law_520 : decode cL_law 520 = .ok (.iadd, 1) := by decide +kernel
theorem dL_law_521 : decode cL_law 521 = .ok (.iaload, 1) := by decide +kernel
theorem dL_law_522 : decode cL_law 522 = .ok (.invokevirtual 48, 3) := by decide +kernel
theorem dL_law_525 : decode cL_law 525 = .ok (.if_icmp .eq 996, 3) := by decide +kernel
theorem dL_law_528 : decode cL_law 528 = .ok (.iconst 0, 1) := by decide +kernel
theorem dL_law_529 : decode cL_law 529 = .ok (.ireturn, 1) := by decide +kernel
theorem dL_law_530 : decode cL_law 530 = .ok (.aload_n 1, 1) := by decide +kernel
theorem dL_law_531 : decode cL_law 531 = .ok (.aload_n 0, 1) := by decide +kernel
theorem dL_law_532 : decode cL_law 532 = .ok (.iload_n 3, 1) := by decide +kernel
theorem dL_law_533 : decode cL_law 533 = .ok (.iconst 1, 1) := by decide +kernel
theorem dL_law_534 : decode cL_law 534 = .ok (.iadd, 1) := by decide +kernel
theorem dL_law_535 : decode cL_law 535 = .ok (.iaload, 1) := by decide +kernel
theorem dL_law_536 : decode cL_law 536 = .ok (.aload_n 0, 1) := by decide +kernel
theorem dL_law_537 : decode cL_law 537 = .ok (.iload_n 3, 1) := by decide +kernel
theorem dL_law_538 : decode cL_law 538 = .ok (.iconst 2, 1) := by decide +kernel
theorem dL_law_539 : decode cL_law 539 = .ok (.iadd, 1) := by decide +kernel
theorem dL_law_540 : decode cL_law 540 = .ok (.iaload, 1) := by decide +kernel
theorem dL_law_541 : decode cL_law 541 = .ok (.invokevirtual 49, 3) := by decide +kernel
theorem dL_law_544 : decode cL_law 544 = .ok (.aload_n 2, 1) := by decide +kernel
theorem dL_law_545 : decode cL_law 545 = .ok (.aload_n 0, 1) := by decide +kernel
theorem dL_law_546 : decode cL_law 546 = .ok (.iload_n 3, 1) := by decide +kernel
theorem dL_law_547 : decode cL_law 547 = .ok (.iconst 1, 1) := by decide +kernel
theorem dL_law_548 : decode cL_law 548 = .ok (.iadd, 1) := by decide +kernel
theorem dL_law_549 : decode cL_law 549 = .ok (.iaload, 1) := by decide +kernel
theorem dL_law_550 : decode cL_law 550 = .ok (.aload_n 0, 1) := by decide +kernel
theorem dL_law_551 : decode cL_law 551 = .ok (.iload_n 3, 1) := by decide +kernel
theorem dL_law_552 : decode cL_law 552 = .ok (.iconst 2, 1) := by decide +kernel
theorem dL_law_553 : decode cL_law 553 = .ok (.iadd, 1) := by decide +kernel
theorem dL_law_554 : decode cL_law 554 = .ok (.iaload, 1) := by decide +kernel
theorem dL_law_555 : decode cL_law 555 = .ok (.invokevirtual 52, 3) := by decide +kernel
theorem dL_law_558 : decode cL_law 558 = .ok (.if_icmp .eq 963, 3) := by decide +kernel
theorem dL_law_561 : decode cL_law 561 = .ok (.iconst 0, 1) := by decide +kernel
theorem dL_law_562 : decode cL_law 562 = .ok (.ireturn, 1) := by decide +kernel
theorem dL_law_563 : decode cL_law 563 = .ok (.aload_n 1, 1) := by decide +kernel
theorem dL_law_564 : decode cL_law 564 = .ok (.aload_n 0, 1) := by decide +kernel
theorem dL_law_565 : decode cL_law 565 = .ok (.iload_n 3, 1) := by decide +kernel
theorem dL_law_566 : decode cL_law 566 = .ok (.iconst 1, 1) := by decide +kernel
theorem dL_law_567 : decode cL_law 567 = .ok (.iadd, 1) := by decide +kernel
theorem dL_law_568 : decode cL_law 568 = .ok (.iaload, 1) := by decide +kernel
theorem dL_law_569 : decode cL_law 569 = .ok (.aload_n 0, 1) := by decide +kernel
theorem dL_law_570 : decode cL_law 570 = .ok (.iload_n 3, 1) := by decide +kernel
theorem dL_law_571 : decode cL_law 571 = .ok (.iconst 2, 1) := by decide +kernel
theorem dL_law_572 : decode cL_law 572 = .ok (.iadd, 1) := by decide +kernel
theorem dL_law_573 : decode cL_law 573 = .ok (.iaload, 1) := by decide +kernel
theorem dL_law_574 : decode cL_law 574 = .ok (.aload_n 0, 1) := by decide +kernel
theorem dL_law_575 : decode cL_law 575 = .ok (.iload_n 3, 1) := by decide +kernel
theorem dL_law_576 : decode cL_law 576 = .ok (.iconst 3, 1) := by decide +kernel
theorem dL_law_577 : decode cL_law 577 = .ok (.iadd, 1) := by decide +kernel
theorem dL_law_578 : decode cL_law 578 = .ok (.iaload, 1) := by decide +kernel
theorem dL_law_579 : decode cL_law 579 = .ok (.invokevirtual 53, 3) := by decide +kernel
theorem dL_law_582 : decode cL_law 582 = .ok (.aload_n 2, 1) := by decide +kernel
theorem dL_law_583 : decode cL_law 583 = .ok (.aload_n 0, 1) := by decide +kernel
theorem dL_law_584 : decode cL_law 584 = .ok (.iload_n 3, 1) := by decide +kernel
theorem dL_law_585 : decode cL_law 585 = .ok (.iconst 1, 1) := by decide +kernel
theorem dL_law_586 : decode cL_law 586 = .ok (.iadd, 1) := by decide +kernel
theorem dL_law_587 : decode cL_law 587 = .ok (.iaload, 1) := by decide +kernel
theorem dL_law_588 : decode cL_law 588 = .ok (.aload_n 0, 1) := by decide +kernel
theorem dL_law_589 : decode cL_law 589 = .ok (.iload_n 3, 1) := by decide +kernel
theorem dL_law_590 : decode cL_law 590 = .ok (.iconst 2, 1) := by decide +kernel
theorem dL_law_591 : decode cL_law 591 = .ok (.iadd, 1) := by decide +kernel
theorem dL_law_592 : decode cL_law 592 = .ok (.iaload, 1) := by decide +kernel
theorem dL_law_593 : decode cL_law 593 = .ok (.aload_n 0, 1) := by decide +kernel
theorem dL_law_594 : decode cL_law 594 = .ok (.iload_n 3, 1) := by decide +kernel
theorem dL_law_595 : decode cL_law 595 = .ok (.iconst 3, 1) := by decide +kernel
theorem dL_law_596 : decode cL_law 596 = .ok (.iadd, 1) := by decide +kernel
theorem dL_law_597 : decode cL_law 597 = .ok (.iaload, 1) := by decide +kernel
theorem dL_law_598 : decode cL_law 598 = .ok (.invokevirtual 57, 3) := by decide +kernel
theorem dL_law_601 : decode cL_law 601 = .ok (.lcmp, 1) := by decide +kernel
theorem dL_law_602 : decode cL_law 602 = .ok (.ifCond .eq 919, 3) := by decide +kernel
theorem dL_law_605 : decode cL_law 605 = .ok (.iconst 0, 1) := by decide +kernel
theorem dL_law_606 : decode cL_law 606 = .ok (.ireturn, 1) := by decide +kernel
theorem dL_law_607 : decode cL_law 607 = .ok (.aload_n 1, 1) := by decide +kernel
theorem dL_law_608 : decode cL_law 608 = .ok (.aload_n 0, 1) := by decide +kernel
theorem dL_law_609 : decode cL_law 609 = .ok (.iload_n 3, 1) := by decide +kernel
theorem dL_law_610 : decode cL_law 610 = .ok (.iconst 1, 1) := by decide +kernel
theorem dL_law_611 : decode cL_law 611 = .ok (.iadd, 1) := by decide +kernel
theorem dL_law_612 : decode cL_law 612 = .ok (.iaload, 1) := by decide +kernel
theorem dL_law_613 : decode cL_law 613 = .ok (.aload_n 0, 1) := by decide +kernel
theorem dL_law_614 : decode cL_law 614 = .ok (.iload_n 3, 1) := by decide +kernel
theorem dL_law_615 : decode cL_law 615 = .ok (.iconst 2, 1) := by decide +kernel
theorem dL_law_616 : decode cL_law 616 = .ok (.iadd, 1) := by decide +kernel
theorem dL_law_617 : decode cL_law 617 = .ok (.iaload, 1) := by decide +kernel
theorem dL_law_618 : decode cL_law 618 = .ok (.aload_n 0, 1) := by decide +kernel
theorem dL_law_619 : decode cL_law 619 = .ok (.iload_n 3, 1) := by decide +kernel
theorem dL_law_620 : decode cL_law 620 = .ok (.iconst 3, 1) := by decide +kernel
theorem dL_law_621 : decode cL_law 621 = .ok (.iadd, 1) := by decide +kernel
theorem dL_law_622 : decode cL_law 622 = .ok (.iaload, 1) := by decide +kernel
theorem dL_law_623 : decode cL_law 623 = .ok (.invokevirtual 58, 3) := by decide +kernel
theorem dL_law_626 : decode cL_law 626 = .ok (.aload_n 2, 1) := by decide +kernel
theorem dL_law_627 : decode cL_law 627 = .ok (.aload_n 0, 1) := by decide +kernel
theorem dL_law_628 : decode cL_law 628 = .ok (.iload_n 3, 1) := by decide +kernel
theorem dL_law_629 : decode cL_law 629 = .ok (.iconst 1, 1) := by decide +kernel
theorem dL_law_630 : decode cL_law 630 = .ok (.iadd, 1) := by decide +kernel
theorem dL_law_631 : decode cL_law 631 = .ok (.iaload, 1) := by decide +kernel
theorem dL_law_632 : decode cL_law 632 = .ok (.aload_n 0, 1) := by decide +kernel
theorem dL_law_633 : decode cL_law 633 = .ok (.iload_n 3, 1) := by decide +kernel
theorem dL_law_634 : decode cL_law 634 = .ok (.iconst 2, 1) := by decide +kernel
theorem dL_law_635 : decode cL_law 635 = .ok (.iadd, 1) := by decide +kernel
theorem dL_law_636 : decode cL_law 636 = .ok (.iaload, 1) := by decide +kernel
theorem dL_law_637 : decode cL_law 637 = .ok (.aload_n 0, 1) := by decide +kernel
theorem dL_law_638 : decode cL_law 638 = .ok (.iload_n 3, 1) := by decide +kernel
theorem dL_law_639 : decode cL_law 639 = .ok (.iconst 3, 1) := by decide +kernel
theorem dL_law_640 : decode cL_law 640 = .ok (.iadd, 1) := by decide +kernel
theorem dL_law_641 : decode cL_law 641 = .ok (.iaload, 1) := by decide +kernel
theorem dL_law_642 : decode cL_law 642 = .ok (.invokevirtual 61, 3) := by decide +kernel
theorem dL_law_645 : decode cL_law 645 = .ok (.lcmp, 1) := by decide +kernel
theorem dL_law_646 : decode cL_law 646 = .ok (.ifCond .eq 875, 3) := by decide +kernel
theorem dL_law_649 : decode cL_law 649 = .ok (.iconst 0, 1) := by decide +kernel
theorem dL_law_650 : decode cL_law 650 = .ok (.ireturn, 1) := by decide +kernel
theorem dL_law_651 : decode cL_law 651 = .ok (.aload_n 1, 1) := by decide +kernel
theorem dL_law_652 : decode cL_law 652 = .ok (.aload_n 0, 1) := by decide +kernel
theorem dL_law_653 : decode cL_law 653 = .ok (.iload_n 3, 1) := by decide +kernel
theorem dL_law_654 : decode cL_law 654 = .ok (.iconst 1, 1) := by decide +kernel
theorem dL_law_655 : decode cL_law 655 = .ok (.iadd, 1) := by decide +kernel
theorem dL_law_656 : decode cL_law 656 = .ok (.iaload, 1) := by decide +kernel
theorem dL_law_657 : decode cL_law 657 = .ok (.aload_n 0, 1) := by decide +kernel
theorem dL_law_658 : decode cL_law 658 = .ok (.iload_n 3, 1) := by decide +kernel
theorem dL_law_659 : decode cL_law 659 = .ok (.iconst 2, 1) := by decide +kernel
theorem dL_law_660 : decode cL_law 660 = .ok (.iadd, 1) := by decide +kernel
theorem dL_law_661 : decode cL_law 661 = .ok (.iaload, 1) := by decide +kernel
theorem dL_law_662 : decode cL_law 662 = .ok (.aload_n 0, 1) := by decide +kernel
theorem dL_law_663 : decode cL_law 663 = .ok (.iload_n 3, 1) := by decide +kernel
theorem dL_law_664 : decode cL_law 664 = .ok (.iconst 3, 1) := by decide +kernel
theorem dL_law_665 : decode cL_law 665 = .ok (.iadd, 1) := by decide +kernel
theorem dL_law_666 : decode cL_law 666 = .ok (.iaload, 1) := by decide +kernel
theorem dL_law_667 : decode cL_law 667 = .ok (.invokevirtual 62, 3) := by decide +kernel
theorem dL_law_670 : decode cL_law 670 = .ok (.aload_n 2, 1) := by decide +kernel
theorem dL_law_671 : decode cL_law 671 = .ok (.aload_n 0, 1) := by decide +kernel
theorem dL_law_672 : decode cL_law 672 = .ok (.iload_n 3, 1) := by decide +kernel
theorem dL_law_673 : decode cL_law 673 = .ok (.iconst 1, 1) := by decide +kernel
theorem dL_law_674 : decode cL_law 674 = .ok (.iadd, 1) := by decide +kernel
theorem dL_law_675 : decode cL_law 675 = .ok (.iaload, 1) := by decide +kernel
theorem dL_law_676 : decode cL_law 676 = .ok (.aload_n 0, 1) := by decide +kernel
theorem dL_law_677 : decode cL_law 677 = .ok (.iload_n 3, 1) := by decide +kernel
theorem dL_law_678 : decode cL_law 678 = .ok (.iconst 2, 1) := by decide +kernel
theorem dL_law_679 : decode cL_law 679 = .ok (.iadd, 1) := by decide +kernel
theorem dL_law_680 : decode cL_law 680 = .ok (.iaload, 1) := by decide +kernel
theorem dL_law_681 : decode cL_law 681 = .ok (.aload_n 0, 1) := by decide +kernel
theorem dL_law_682 : decode cL_law 682 = .ok (.iload_n 3, 1) := by decide +kernel
theorem dL_law_683 : decode cL_law 683 = .ok (.iconst 3, 1) := by decide +kernel
theorem dL_law_684 : decode cL_law 684 = .ok (.iadd, 1) := by decide +kernel
theorem dL_law_685 : decode cL_law 685 = .ok (.iaload, 1) := by decide +kernel
theorem dL_law_686 : decode cL_law 686 = .ok (.invokevirtual 65, 3) := by decide +kernel
theorem dL_law_689 : decode cL_law 689 = .ok (.if_icmp .eq 832, 3) := by decide +kernel
theorem dL_law_692 : decode cL_law 692 = .ok (.iconst 0, 1) := by decide +kernel
theorem dL_law_693 : decode cL_law 693 = .ok (.ireturn, 1) := by decide +kernel
theorem dL_law_694 : decode cL_law 694 = .ok (.aload_n 1, 1) := by decide +kernel
theorem dL_law_695 : decode cL_law 695 = .ok (.aload_n 0, 1) := by decide +kernel
theorem dL_law_696 : decode cL_law 696 = .ok (.iload_n 3, 1) := by decide +kernel
theorem dL_law_697 : decode cL_law 697 = .ok (.iconst 1, 1) := by decide +kernel
theorem dL_law_698 : decode cL_law 698 = .ok (.iadd, 1) := by decide +kernel
theorem dL_law_699 : decode cL_law 699 = .ok (.iaload, 1) := by decide +kernel
theorem dL_law_700 : decode cL_law 700 = .ok (.aload_n 0, 1) := by decide +kernel
theorem dL_law_701 : decode cL_law 701 = .ok (.iload_n 3, 1) := by decide +kernel
theorem dL_law_702 : decode cL_law 702 = .ok (.iconst 2, 1) := by decide +kernel
theorem dL_law_703 : decode cL_law 703 = .ok (.iadd, 1) := by decide +kernel
theorem dL_law_704 : decode cL_law 704 = .ok (.iaload, 1) := by decide +kernel
theorem dL_law_705 : decode cL_law 705 = .ok (.invokevirtual 66, 3) := by decide +kernel
theorem dL_law_708 : decode cL_law 708 = .ok (.aload_n 2, 1) := by decide +kernel
theorem dL_law_709 : decode cL_law 709 = .ok (.aload_n 0, 1) := by decide +kernel
theorem dL_law_710 : decode cL_law 710 = .ok (.iload_n 3, 1) := by decide +kernel
theorem dL_law_711 : decode cL_law 711 = .ok (.iconst 1, 1) := by decide +kernel
theorem dL_law_712 : decode cL_law 712 = .ok (.iadd, 1) := by decide +kernel
theorem dL_law_713 : decode cL_law 713 = .ok (.iaload, 1) := by decide +kernel
theorem dL_law_714 : decode cL_law 714 = .ok (.aload_n 0, 1) := by decide +kernel
theorem dL_law_715 : decode cL_law 715 = .ok (.iload_n 3, 1) := by decide +kernel
theorem dL_law_716 : decode cL_law 716 = .ok (.iconst 2, 1) := by decide +kernel
theorem dL_law_717 : decode cL_law 717 = .ok (.iadd, 1) := by decide +kernel
theorem dL_law_718 : decode cL_law 718 = .ok (.iaload, 1) := by decide +kernel
theorem dL_law_719 : decode cL_law 719 = .ok (.invokevirtual 69, 3) := by decide +kernel
theorem dL_law_722 : decode cL_law 722 = .ok (.if_icmp .eq 799, 3) := by decide +kernel
theorem dL_law_725 : decode cL_law 725 = .ok (.iconst 0, 1) := by decide +kernel
theorem dL_law_726 : decode cL_law 726 = .ok (.ireturn, 1) := by decide +kernel
theorem dL_law_727 : decode cL_law 727 = .ok (.aload_n 1, 1) := by decide +kernel
theorem dL_law_728 : decode cL_law 728 = .ok (.aload_n 0, 1) := by decide +kernel
theorem dL_law_729 : decode cL_law 729 = .ok (.iload_n 3, 1) := by decide +kernel
theorem dL_law_730 : decode cL_law 730 = .ok (.iconst 1, 1) := by decide +kernel
theorem dL_law_731 : decode cL_law 731 = .ok (.iadd, 1) := by decide +kernel
theorem dL_law_732 : decode cL_law 732 = .ok (.iaload, 1) := by decide +kernel
theorem dL_law_733 : decode cL_law 733 = .ok (.invokevirtual 70, 3) := by decide +kernel
theorem dL_law_736 : decode cL_law 736 = .ok (.aload_n 2, 1) := by decide +kernel
theorem dL_law_737 : decode cL_law 737 = .ok (.aload_n 0, 1) := by decide +kernel
theorem dL_law_738 : decode cL_law 738 = .ok (.iload_n 3, 1) := by decide +kernel
theorem dL_law_739 : decode cL_law 739 = .ok (.iconst 1, 1) := by decide +kernel
theorem dL_law_740 : decode cL_law 740 = .ok (.iadd, 1) := by decide +kernel
theorem dL_law_741 : decode cL_law 741 = .ok (.iaload, 1) := by decide +kernel
theorem dL_law_742 : decode cL_law 742 = .ok (.invokevirtual 74, 3) := by decide +kernel
theorem dL_law_745 : decode cL_law 745 = .ok (.if_icmp .eq 776, 3) := by decide +kernel
theorem dL_law_748 : decode cL_law 748 = .ok (.iconst 0, 1) := by decide +kernel
theorem dL_law_749 : decode cL_law 749 = .ok (.ireturn, 1) := by decide +kernel
theorem dL_law_750 : decode cL_law 750 = .ok (.aload_n 1, 1) := by decide +kernel
theorem dL_law_751 : decode cL_law 751 = .ok (.invokevirtual 75, 3) := by decide +kernel
theorem dL_law_754 : decode cL_law 754 = .ok (.aload_n 2, 1) := by decide +kernel
theorem dL_law_755 : decode cL_law 755 = .ok (.invokevirtual 79, 3) := by decide +kernel
theorem dL_law_758 : decode cL_law 758 = .ok (.if_icmp .eq 763, 3) := by decide +kernel
theorem dL_law_761 : decode cL_law 761 = .ok (.iconst 0, 1) := by decide +kernel
theorem dL_law_762 : decode cL_law 762 = .ok (.ireturn, 1) := by decide +kernel
theorem dL_law_763 : decode cL_law 763 = .ok (.aload_n 1, 1) := by decide +kernel
theorem dL_law_764 : decode cL_law 764 = .ok (.aload_n 0, 1) := by decide +kernel
theorem dL_law_765 : decode cL_law 765 = .ok (.iload_n 3, 1) := by decide +kernel
theorem dL_law_766 : decode cL_law 766 = .ok (.iconst 1, 1) := by decide +kernel
theorem dL_law_767 : decode cL_law 767 = .ok (.iadd, 1) := by decide +kernel
theorem dL_law_768 : decode cL_law 768 = .ok (.iaload, 1) := by decide +kernel
theorem dL_law_769 : decode cL_law 769 = .ok (.invokevirtual 80, 3) := by decide +kernel
theorem dL_law_772 : decode cL_law 772 = .ok (.aload_n 2, 1) := by decide +kernel
theorem dL_law_773 : decode cL_law 773 = .ok (.aload_n 0, 1) := by decide +kernel
theorem dL_law_774 : decode cL_law 774 = .ok (.iload_n 3, 1) := by decide +kernel
theorem dL_law_775 : decode cL_law 775 = .ok (.iconst 1, 1) := by decide +kernel
theorem dL_law_776 : decode cL_law 776 = .ok (.iadd, 1) := by decide +kernel
theorem dL_law_777 : decode cL_law 777 = .ok (.iaload, 1) := by decide +kernel
theorem dL_law_778 : decode cL_law 778 = .ok (.invokevirtual 83, 3) := by decide +kernel
theorem dL_law_781 : decode cL_law 781 = .ok (.if_icmp .eq 740, 3) := by decide +kernel
theorem dL_law_784 : decode cL_law 784 = .ok (.iconst 0, 1) := by decide +kernel
theorem dL_law_785 : decode cL_law 785 = .ok (.ireturn, 1) := by decide +kernel
theorem dL_law_786 : decode cL_law 786 = .ok (.aload_n 1, 1) := by decide +kernel
theorem dL_law_787 : decode cL_law 787 = .ok (.aload_n 0, 1) := by decide +kernel
theorem dL_law_788 : decode cL_law 788 = .ok (.iload_n 3, 1) := by decide +kernel
theorem dL_law_789 : decode cL_law 789 = .ok (.iconst 1, 1) := by decide +kernel
theorem dL_law_790 : decode cL_law 790 = .ok (.iadd, 1) := by decide +kernel
theorem dL_law_791 : decode cL_law 791 = .ok (.iaload, 1) := by decide +kernel
theorem dL_law_792 : decode cL_law 792 = .ok (.aload_n 0, 1) := by decide +kernel
theorem dL_law_793 : decode cL_law 793 = .ok (.iload_n 3, 1) := by decide +kernel
theorem dL_law_794 : decode cL_law 794 = .ok (.iconst 2, 1) := by decide +kernel
theorem dL_law_795 : decode cL_law 795 = .ok (.iadd, 1) := by decide +kernel
theorem dL_law_796 : decode cL_law 796 = .ok (.iaload, 1) := by decide +kernel
theorem dL_law_797 : decode cL_law 797 = .ok (.invokevirtual 84, 3) := by decide +kernel
theorem dL_law_800 : decode cL_law 800 = .ok (.aload_n 2, 1) := by decide +kernel
theorem dL_law_801 : decode cL_law 801 = .ok (.aload_n 0, 1) := by decide +kernel
theorem dL_law_802 : decode cL_law 802 = .ok (.iload_n 3, 1) := by decide +kernel
theorem dL_law_803 : decode cL_law 803 = .ok (.iconst 1, 1) := by decide +kernel
theorem dL_law_804 : decode cL_law 804 = .ok (.iadd, 1) := by decide +kernel
theorem dL_law_805 : decode cL_law 805 = .ok (.iaload, 1) := by decide +kernel
theorem dL_law_806 : decode cL_law 806 = .ok (.aload_n 0, 1) := by decide +kernel
theorem dL_law_807 : decode cL_law 807 = .ok (.iload_n 3, 1) := by decide +kernel
theorem dL_law_808 : decode cL_law 808 = .ok (.iconst 2, 1) := by decide +kernel
theorem dL_law_809 : decode cL_law 809 = .ok (.iadd, 1) := by decide +kernel
theorem dL_law_810 : decode cL_law 810 = .ok (.iaload, 1) := by decide +kernel
theorem dL_law_811 : decode cL_law 811 = .ok (.invokevirtual 87, 3) := by decide +kernel
theorem dL_law_814 : decode cL_law 814 = .ok (.if_icmp .eq 707, 3) := by decide +kernel
theorem dL_law_817 : decode cL_law 817 = .ok (.iconst 0, 1) := by decide +kernel
theorem dL_law_818 : decode cL_law 818 = .ok (.ireturn, 1) := by decide +kernel
theorem dL_law_819 : decode cL_law 819 = .ok (.aload_n 1, 1) := by decide +kernel
theorem dL_law_820 : decode cL_law 820 = .ok (.aload_n 0, 1) := by decide +kernel
theorem dL_law_821 : decode cL_law 821 = .ok (.iload_n 3, 1) := by decide +kernel
theorem dL_law_822 : decode cL_law 822 = .ok (.iconst 1, 1) := by decide +kernel
theorem dL_law_823 : decode cL_law 823 = .ok (.iadd, 1) := by decide +kernel
theorem dL_law_824 : decode cL_law 824 = .ok (.iaload, 1) := by decide +kernel
theorem dL_law_825 : decode cL_law 825 = .ok (.aload_n 0, 1) := by decide +kernel
theorem dL_law_826 : decode cL_law 826 = .ok (.iload_n 3, 1) := by decide +kernel
theorem dL_law_827 : decode cL_law 827 = .ok (.iconst 2, 1) := by decide +kernel
theorem dL_law_828 : decode cL_law 828 = .ok (.iadd, 1) := by decide +kernel
theorem dL_law_829 : decode cL_law 829 = .ok (.iaload, 1) := by decide +kernel
theorem dL_law_830 : decode cL_law 830 = .ok (.aload_n 0, 1) := by decide +kernel
theorem dL_law_831 : decode cL_law 831 = .ok (.iload_n 3, 1) := by decide +kernel
theorem dL_law_832 : decode cL_law 832 = .ok (.iconst 3, 1) := by decide +kernel
theorem dL_law_833 : decode cL_law 833 = .ok (.iadd, 1) := by decide +kernel
theorem dL_law_834 : decode cL_law 834 = .ok (.iaload, 1) := by decide +kernel
theorem dL_law_835 : decode cL_law 835 = .ok (.invokevirtual 88, 3) := by decide +kernel
theorem dL_law_838 : decode cL_law 838 = .ok (.aload_n 2, 1) := by decide +kernel
theorem dL_law_839 : decode cL_law 839 = .ok (.aload_n 0, 1) := by decide +kernel
theorem dL_law_840 : decode cL_law 840 = .ok (.iload_n 3, 1) := by decide +kernel
theorem dL_law_841 : decode cL_law 841 = .ok (.iconst 1, 1) := by decide +kernel
theorem dL_law_842 : decode cL_law 842 = .ok (.iadd, 1) := by decide +kernel
theorem dL_law_843 : decode cL_law 843 = .ok (.iaload, 1) := by decide +kernel
theorem dL_law_844 : decode cL_law 844 = .ok (.aload_n 0, 1) := by decide +kernel
theorem dL_law_845 : decode cL_law 845 = .ok (.iload_n 3, 1) := by decide +kernel
theorem dL_law_846 : decode cL_law 846 = .ok (.iconst 2, 1) := by decide +kernel
theorem dL_law_847 : decode cL_law 847 = .ok (.iadd, 1) := by decide +kernel
theorem dL_law_848 : decode cL_law 848 = .ok (.iaload, 1) := by decide +kernel
theorem dL_law_849 : decode cL_law 849 = .ok (.aload_n 0, 1) := by decide +kernel
theorem dL_law_850 : decode cL_law 850 = .ok (.iload_n 3, 1) := by decide +kernel
theorem dL_law_851 : decode cL_law 851 = .ok (.iconst 3, 1) := by decide +kernel
theorem dL_law_852 : decode cL_law 852 = .ok (.iadd, 1) := by decide +kernel
theorem dL_law_853 : decode cL_law 853 = .ok (.iaload, 1) := by decide +kernel
theorem dL_law_854 : decode cL_law 854 = .ok (.invokevirtual 91, 3) := by decide +kernel
theorem dL_law_857 : decode cL_law 857 = .ok (.if_icmp .eq 664, 3) := by decide +kernel
theorem dL_law_860 : decode cL_law 860 = .ok (.iconst 0, 1) := by decide +kernel
theorem dL_law_861 : decode cL_law 861 = .ok (.ireturn, 1) := by decide +kernel
theorem dL_law_862 : decode cL_law 862 = .ok (.aload_n 1, 1) := by decide +kernel
theorem dL_law_863 : decode cL_law 863 = .ok (.aload_n 0, 1) := by decide +kernel
theorem dL_law_864 : decode cL_law 864 = .ok (.iload_n 3, 1) := by decide +kernel
theorem dL_law_865 : decode cL_law 865 = .ok (.iconst 1, 1) := by decide +kernel
theorem dL_law_866 : decode cL_law 866 = .ok (.iadd, 1) := by decide +kernel
theorem dL_law_867 : decode cL_law 867 = .ok (.iaload, 1) := by decide +kernel
theorem dL_law_868 : decode cL_law 868 = .ok (.aload_n 0, 1) := by decide +kernel
theorem dL_law_869 : decode cL_law 869 = .ok (.iload_n 3, 1) := by decide +kernel
theorem dL_law_870 : decode cL_law 870 = .ok (.iconst 2, 1) := by decide +kernel
theorem dL_law_871 : decode cL_law 871 = .ok (.iadd, 1) := by decide +kernel
theorem dL_law_872 : decode cL_law 872 = .ok (.iaload, 1) := by decide +kernel
theorem dL_law_873 : decode cL_law 873 = .ok (.aload_n 0, 1) := by decide +kernel
theorem dL_law_874 : decode cL_law 874 = .ok (.iload_n 3, 1) := by decide +kernel
theorem dL_law_875 : decode cL_law 875 = .ok (.iconst 3, 1) := by decide +kernel
theorem dL_law_876 : decode cL_law 876 = .ok (.iadd, 1) := by decide +kernel
theorem dL_law_877 : decode cL_law 877 = .ok (.iaload, 1) := by decide +kernel
theorem dL_law_878 : decode cL_law 878 = .ok (.aload_n 0, 1) := by decide +kernel
theorem dL_law_879 : decode cL_law 879 = .ok (.iload_n 3, 1) := by decide +kernel
theorem dL_law_880 : decode cL_law 880 = .ok (.iconst 4, 1) := by decide +kernel
theorem dL_law_881 : decode cL_law 881 = .ok (.iadd, 1) := by decide +kernel
theorem dL_law_882 : decode cL_law 882 = .ok (.iaload, 1) := by decide +kernel
theorem dL_law_883 : decode cL_law 883 = .ok (.aload_n 0, 1) := by decide +kernel
theorem dL_law_884 : decode cL_law 884 = .ok (.iload_n 3, 1) := by decide +kernel
theorem dL_law_885 : decode cL_law 885 = .ok (.iconst 5, 1) := by decide +kernel
theorem dL_law_886 : decode cL_law 886 = .ok (.iadd, 1) := by decide +kernel
theorem dL_law_887 : decode cL_law 887 = .ok (.iaload, 1) := by decide +kernel
theorem dL_law_888 : decode cL_law 888 = .ok (.invokevirtual 92, 3) := by decide +kernel
theorem dL_law_891 : decode cL_law 891 = .ok (.aload_n 2, 1) := by decide +kernel
theorem dL_law_892 : decode cL_law 892 = .ok (.aload_n 0, 1) := by decide +kernel
theorem dL_law_893 : decode cL_law 893 = .ok (.iload_n 3, 1) := by decide +kernel
theorem dL_law_894 : decode cL_law 894 = .ok (.iconst 1, 1) := by decide +kernel
theorem dL_law_895 : decode cL_law 895 = .ok (.iadd, 1) := by decide +kernel
theorem dL_law_896 : decode cL_law 896 = .ok (.iaload, 1) := by decide +kernel
theorem dL_law_897 : decode cL_law 897 = .ok (.aload_n 0, 1) := by decide +kernel
theorem dL_law_898 : decode cL_law 898 = .ok (.iload_n 3, 1) := by decide +kernel
theorem dL_law_899 : decode cL_law 899 = .ok (.iconst 2, 1) := by decide +kernel
theorem dL_law_900 : decode cL_law 900 = .ok (.iadd, 1) := by decide +kernel
theorem dL_law_901 : decode cL_law 901 = .ok (.iaload, 1) := by decide +kernel
theorem dL_law_902 : decode cL_law 902 = .ok (.aload_n 0, 1) := by decide +kernel
theorem dL_law_903 : decode cL_law 903 = .ok (.iload_n 3, 1) := by decide +kernel
theorem dL_law_904 : decode cL_law 904 = .ok (.iconst 3, 1) := by decide +kernel
theorem dL_law_905 : decode cL_law 905 = .ok (.iadd, 1) := by decide +kernel
theorem dL_law_906 : decode cL_law 906 = .ok (.iaload, 1) := by decide +kernel
theorem dL_law_907 : decode cL_law 907 = .ok (.aload_n 0, 1) := by decide +kernel
theorem dL_law_908 : decode cL_law 908 = .ok (.iload_n 3, 1) := by decide +kernel
theorem dL_law_909 : decode cL_law 909 = .ok (.iconst 4, 1) := by decide +kernel
theorem dL_law_910 : decode cL_law 910 = .ok (.iadd, 1) := by decide +kernel
theorem dL_law_911 : decode cL_law 911 = .ok (.iaload, 1) := by decide +kernel
theorem dL_law_912 : decode cL_law 912 = .ok (.aload_n 0, 1) := by decide +kernel
theorem dL_law_913 : decode cL_law 913 = .ok (.iload_n 3, 1) := by decide +kernel
theorem dL_law_914 : decode cL_law 914 = .ok (.iconst 5, 1) := by decide +kernel
theorem dL_law_915 : decode cL_law 915 = .ok (.iadd, 1) := by decide +kernel
theorem dL_law_916 : decode cL_law 916 = .ok (.iaload, 1) := by decide +kernel
theorem dL_law_917 : decode cL_law 917 = .ok (.invokevirtual 96, 3) := by decide +kernel
theorem dL_law_920 : decode cL_law 920 = .ok (.if_icmp .eq 601, 3) := by decide +kernel
theorem dL_law_923 : decode cL_law 923 = .ok (.iconst 0, 1) := by decide +kernel
theorem dL_law_924 : decode cL_law 924 = .ok (.ireturn, 1) := by decide +kernel
theorem dL_law_925 : decode cL_law 925 = .ok (.aload_n 1, 1) := by decide +kernel
theorem dL_law_926 : decode cL_law 926 = .ok (.aload_n 0, 1) := by decide +kernel
theorem dL_law_927 : decode cL_law 927 = .ok (.iload_n 3, 1) := by decide +kernel
theorem dL_law_928 : decode cL_law 928 = .ok (.iconst 1, 1) := by decide +kernel
theorem dL_law_929 : decode cL_law 929 = .ok (.iadd, 1) := by decide +kernel
theorem dL_law_930 : decode cL_law 930 = .ok (.iaload, 1) := by decide +kernel
theorem dL_law_931 : decode cL_law 931 = .ok (.aload_n 0, 1) := by decide +kernel
theorem dL_law_932 : decode cL_law 932 = .ok (.iload_n 3, 1) := by decide +kernel
theorem dL_law_933 : decode cL_law 933 = .ok (.iconst 2, 1) := by decide +kernel
theorem dL_law_934 : decode cL_law 934 = .ok (.iadd, 1) := by decide +kernel
theorem dL_law_935 : decode cL_law 935 = .ok (.iaload, 1) := by decide +kernel
theorem dL_law_936 : decode cL_law 936 = .ok (.aload_n 0, 1) := by decide +kernel
theorem dL_law_937 : decode cL_law 937 = .ok (.iload_n 3, 1) := by decide +kernel
theorem dL_law_938 : decode cL_law 938 = .ok (.iconst 3, 1) := by decide +kernel
theorem dL_law_939 : decode cL_law 939 = .ok (.iadd, 1) := by decide +kernel
theorem dL_law_940 : decode cL_law 940 = .ok (.iaload, 1) := by decide +kernel
theorem dL_law_941 : decode cL_law 941 = .ok (.invokevirtual 97, 3) := by decide +kernel
theorem dL_law_944 : decode cL_law 944 = .ok (.aload_n 2, 1) := by decide +kernel
theorem dL_law_945 : decode cL_law 945 = .ok (.aload_n 0, 1) := by decide +kernel
theorem dL_law_946 : decode cL_law 946 = .ok (.iload_n 3, 1) := by decide +kernel
theorem dL_law_947 : decode cL_law 947 = .ok (.iconst 1, 1) := by decide +kernel
theorem dL_law_948 : decode cL_law 948 = .ok (.iadd, 1) := by decide +kernel
theorem dL_law_949 : decode cL_law 949 = .ok (.iaload, 1) := by decide +kernel
theorem dL_law_950 : decode cL_law 950 = .ok (.aload_n 0, 1) := by decide +kernel
theorem dL_law_951 : decode cL_law 951 = .ok (.iload_n 3, 1) := by decide +kernel
theorem dL_law_952 : decode cL_law 952 = .ok (.iconst 2, 1) := by decide +kernel
theorem dL_law_953 : decode cL_law 953 = .ok (.iadd, 1) := by decide +kernel
theorem dL_law_954 : decode cL_law 954 = .ok (.iaload, 1) := by decide +kernel
theorem dL_law_955 : decode cL_law 955 = .ok (.aload_n 0, 1) := by decide +kernel
theorem dL_law_956 : decode cL_law 956 = .ok (.iload_n 3, 1) := by decide +kernel
theorem dL_law_957 : decode cL_law 957 = .ok (.iconst 3, 1) := by decide +kernel
theorem dL_law_958 : decode cL_law 958 = .ok (.iadd, 1) := by decide +kernel
theorem dL_law_959 : decode cL_law 959 = .ok (.iaload, 1) := by decide +kernel
theorem dL_law_960 : decode cL_law 960 = .ok (.invokevirtual 100, 3) := by decide +kernel
theorem dL_law_963 : decode cL_law 963 = .ok (.if_icmp .eq 558, 3) := by decide +kernel
theorem dL_law_966 : decode cL_law 966 = .ok (.iconst 0, 1) := by decide +kernel
theorem dL_law_967 : decode cL_law 967 = .ok (.ireturn, 1) := by decide +kernel
theorem dL_law_968 : decode cL_law 968 = .ok (.aload_n 1, 1) := by decide +kernel
theorem dL_law_969 : decode cL_law 969 = .ok (.aload_n 0, 1) := by decide +kernel
theorem dL_law_970 : decode cL_law 970 = .ok (.iload_n 3, 1) := by decide +kernel
theorem dL_law_971 : decode cL_law 971 = .ok (.iconst 1, 1) := by decide +kernel
theorem dL_law_972 : decode cL_law 972 = .ok (.iadd, 1) := by decide +kernel
theorem dL_law_973 : decode cL_law 973 = .ok (.iaload, 1) := by decide +kernel
theorem dL_law_974 : decode cL_law 974 = .ok (.aload_n 0, 1) := by decide +kernel
theorem dL_law_975 : decode cL_law 975 = .ok (.iload_n 3, 1) := by decide +kernel
theorem dL_law_976 : decode cL_law 976 = .ok (.iconst 2, 1) := by decide +kernel
theorem dL_law_977 : decode cL_law 977 = .ok (.iadd, 1) := by decide +kernel
theorem dL_law_978 : decode cL_law 978 = .ok (.iaload, 1) := by decide +kernel
theorem dL_law_979 : decode cL_law 979 = .ok (.invokevirtual 101, 3) := by decide +kernel
theorem dL_law_982 : decode cL_law 982 = .ok (.aload_n 2, 1) := by decide +kernel
theorem dL_law_983 : decode cL_law 983 = .ok (.aload_n 0, 1) := by decide +kernel
theorem dL_law_984 : decode cL_law 984 = .ok (.iload_n 3, 1) := by decide +kernel
theorem dL_law_985 : decode cL_law 985 = .ok (.iconst 1, 1) := by decide +kernel
theorem dL_law_986 : decode cL_law 986 = .ok (.iadd, 1) := by decide +kernel
theorem dL_law_987 : decode cL_law 987 = .ok (.iaload, 1) := by decide +kernel
theorem dL_law_988 : decode cL_law 988 = .ok (.aload_n 0, 1) := by decide +kernel
theorem dL_law_989 : decode cL_law 989 = .ok (.iload_n 3, 1) := by decide +kernel
theorem dL_law_990 : decode cL_law 990 = .ok (.iconst 2, 1) := by decide +kernel
theorem dL_law_991 : decode cL_law 991 = .ok (.iadd, 1) := by decide +kernel
theorem dL_law_992 : decode cL_law 992 = .ok (.iaload, 1) := by decide +kernel
theorem dL_law_993 : decode cL_law 993 = .ok (.invokevirtual 104, 3) := by decide +kernel
theorem dL_law_996 : decode cL_law 996 = .ok (.if_icmp .eq 525, 3) := by decide +kernel
theorem dL_law_999 : decode cL_law 999 = .ok (.iconst 0, 1) := by decide +kernel
theorem dL_law_1000 : decode cL_law 1000 = .ok (.ireturn, 1) := by decide +kernel
theorem dL_law_1001 : decode cL_law 1001 = .ok (.aload_n 1, 1) := by decide +kernel
theorem dL_law_1002 : decode cL_law 1002 = .ok (.aload_n 0, 1) := by decide +kernel
theorem dL_law_1003 : decode cL_law 1003 = .ok (.iload_n 3, 1) := by decide +kernel
theorem dL_law_1004 : decode cL_law 1004 = .ok (.iconst 1, 1) := by decide +kernel
theorem dL_law_1005 : decode cL_law 1005 = .ok (.iadd, 1) := by decide +kernel
theorem dL_law_1006 : decode cL_law 1006 = .ok (.iaload, 1) := by decide +kernel
theorem dL_law_1007 : decode cL_law 1007 = .ok (.aload_n 0, 1) := by decide +kernel
theorem dL_law_1008 : decode cL_law 1008 = .ok (.iload_n 3, 1) := by decide +kernel
theorem dL_law_1009 : decode cL_law 1009 = .ok (.iconst 2, 1) := by decide +kernel
theorem dL_law_1010 : decode cL_law 1010 = .ok (.iadd, 1) := by decide +kernel
theorem dL_law_1011 : decode cL_law 1011 = .ok (.iaload, 1) := by decide +kernel
theorem dL_law_1012 : decode cL_law 1012 = .ok (.i2l, 1) := by decide +kernel
theorem dL_law_1013 : decode cL_law 1013 = .ok (.bipush 32, 2) := by decide +kernel
theorem dL_law_1015 : decode cL_law 1015 = .ok (.lshl, 1) := by decide +kernel
theorem dL_law_1016 : decode cL_law 1016 = .ok (.aload_n 0, 1) := by decide +kernel
theorem dL_law_1017 : decode cL_law 1017 = .ok (.iload_n 3, 1) := by decide +kernel
theorem dL_law_1018 : decode cL_law 1018 = .ok (.iconst 3, 1) := by decide +kernel
theorem dL_law_1019 : decode cL_law 1019 = .ok (.iadd, 1) := by decide +kernel
theorem dL_law_1020 : decode cL_law 1020 = .ok (.iaload, 1) := by decide +kernel
theorem dL_law_1021 : decode cL_law 1021 = .ok (.i2l, 1) := by decide +kernel
theorem dL_law_1022 : decode cL_law 1022 = .ok (.ldc2_w 105, 3) := by decide +kernel
theorem dL_law_1025 : decode cL_law 1025 = .ok (.land, 1) := by decide +kernel
theorem dL_law_1026 : decode cL_law 1026 = .ok (.lor, 1) := by decide +kernel
theorem dL_law_1027 : decode cL_law 1027 = .ok (.invokevirtual 107, 3) := by decide +kernel
theorem dL_law_1030 : decode cL_law 1030 = .ok (.aload_n 2, 1) := by decide +kernel
theorem dL_law_1031 : decode cL_law 1031 = .ok (.aload_n 0, 1) := by decide +kernel
theorem dL_law_1032 : decode cL_law 1032 = .ok (.iload_n 3, 1) := by decide +kernel
theorem dL_law_1033 : decode cL_law 1033 = .ok (.iconst 1, 1) := by decide +kernel
theorem dL_law_1034 : decode cL_law 1034 = .ok (.iadd, 1) := by decide +kernel
theorem dL_law_1035 : decode cL_law 1035 = .ok (.iaload, 1) := by decide +kernel
theorem dL_law_1036 : decode cL_law 1036 = .ok (.aload_n 0, 1) := by decide +kernel
theorem dL_law_1037 : decode cL_law 1037 = .ok (.iload_n 3, 1) := by decide +kernel
theorem dL_law_1038 : decode cL_law 1038 = .ok (.iconst 2, 1) := by decide +kernel
theorem dL_law_1039 : decode cL_law 1039 = .ok (.iadd, 1) := by decide +kernel
theorem dL_law_1040 : decode cL_law 1040 = .ok (.iaload, 1) := by decide +kernel
theorem dL_law_1041 : decode cL_law 1041 = .ok (.i2l, 1) := by decide +kernel
theorem dL_law_1042 : decode cL_law 1042 = .ok (.bipush 32, 2) := by decide +kernel
theorem dL_law_1044 : decode cL_law 1044 = .ok (.lshl, 1) := by decide +kernel
theorem dL_law_1045 : decode cL_law 1045 = .ok (.aload_n 0, 1) := by decide +kernel
theorem dL_law_1046 : decode cL_law 1046 = .ok (.iload_n 3, 1) := by decide +kernel
theorem dL_law_1047 : decode cL_law 1047 = .ok (.iconst 3, 1) := by decide +kernel
theorem dL_law_1048 : decode cL_law 1048 = .ok (.iadd, 1) := by decide +kernel
theorem dL_law_1049 : decode cL_law 1049 = .ok (.iaload, 1) := by decide +kernel
theorem dL_law_1050 : decode cL_law 1050 = .ok (.i2l, 1) := by decide +kernel
theorem dL_law_1051 : decode cL_law 1051 = .ok (.ldc2_w 105, 3) := by decide +kernel
theorem dL_law_1054 : decode cL_law 1054 = .ok (.land, 1) := by decide +kernel
theorem dL_law_1055 : decode cL_law 1055 = .ok (.lor, 1) := by decide +kernel
theorem dL_law_1056 : decode cL_law 1056 = .ok (.invokevirtual 111, 3) := by decide +kernel
theorem dL_law_1059 : decode cL_law 1059 = .ok (.if_icmp .eq 462, 3) := by decide +kernel
theorem dL_law_1062 : decode cL_law 1062 = .ok (.iconst 0, 1) := by decide +kernel
theorem dL_law_1063 : decode cL_law 1063 = .ok (.ireturn, 1) := by decide +kernel
theorem dL_law_1064 : decode cL_law 1064 = .ok (.aload_n 1, 1) := by decide +kernel
theorem dL_law_1065 : decode cL_law 1065 = .ok (.invokevirtual 112, 3) := by decide +kernel
theorem dL_law_1068 : decode cL_law 1068 = .ok (.aload_n 2, 1) := by decide +kernel
theorem dL_law_1069 : decode cL_law 1069 = .ok (.invokevirtual 115, 3) := by decide +kernel
theorem dL_law_1072 : decode cL_law 1072 = .ok (.if_icmp .eq 449, 3) := by decide +kernel
theorem dL_law_1075 : decode cL_law 1075 = .ok (.iconst 0, 1) := by decide +kernel
theorem dL_law_1076 : decode cL_law 1076 = .ok (.ireturn, 1) := by decide +kernel
theorem dL_law_1077 : decode cL_law 1077 = .ok (.aload_n 1, 1) := by decide +kernel
theorem dL_law_1078 : decode cL_law 1078 = .ok (.aload_n 0, 1) := by decide +kernel
theorem dL_law_1079 : decode cL_law 1079 = .ok (.iload_n 3, 1) := by decide +kernel
theorem dL_law_1080 : decode cL_law 1080 = .ok (.iconst 1, 1) := by decide +kernel
theorem dL_law_1081 : decode cL_law 1081 = .ok (.iadd, 1) := by decide +kernel
theorem dL_law_1082 : decode cL_law 1082 = .ok (.iaload, 1) := by decide +kernel
theorem dL_law_1083 : decode cL_law 1083 = .ok (.aload_n 0, 1) := by decide +kernel
theorem dL_law_1084 : decode cL_law 1084 = .ok (.iload_n 3, 1) := by decide +kernel
theorem dL_law_1085 : decode cL_law 1085 = .ok (.iconst 2, 1) := by decide +kernel
theorem dL_law_1086 : decode cL_law 1086 = .ok (.iadd, 1) := by decide +kernel
theorem dL_law_1087 : decode cL_law 1087 = .ok (.iaload, 1) := by decide +kernel
theorem dL_law_1088 : decode cL_law 1088 = .ok (.aload_n 0, 1) := by decide +kernel
theorem dL_law_1089 : decode cL_law 1089 = .ok (.iload_n 3, 1) := by decide +kernel
theorem dL_law_1090 : decode cL_law 1090 = .ok (.iconst 3, 1) := by decide +kernel
theorem dL_law_1091 : decode cL_law 1091 = .ok (.iadd, 1) := by decide +kernel
theorem dL_law_1092 : decode cL_law 1092 = .ok (.iaload, 1) := by decide +kernel
theorem dL_law_1093 : decode cL_law 1093 = .ok (.aload_n 0, 1) := by decide +kernel
theorem dL_law_1094 : decode cL_law 1094 = .ok (.iload_n 3, 1) := by decide +kernel
theorem dL_law_1095 : decode cL_law 1095 = .ok (.iconst 4, 1) := by decide +kernel
theorem dL_law_1096 : decode cL_law 1096 = .ok (.iadd, 1) := by decide +kernel
theorem dL_law_1097 : decode cL_law 1097 = .ok (.iaload, 1) := by decide +kernel
theorem dL_law_1098 : decode cL_law 1098 = .ok (.aload_n 0, 1) := by decide +kernel
theorem dL_law_1099 : decode cL_law 1099 = .ok (.iload_n 3, 1) := by decide +kernel
theorem dL_law_1100 : decode cL_law 1100 = .ok (.iconst 5, 1) := by decide +kernel
theorem dL_law_1101 : decode cL_law 1101 = .ok (.iadd, 1) := by decide +kernel
theorem dL_law_1102 : decode cL_law 1102 = .ok (.iaload, 1) := by decide +kernel
theorem dL_law_1103 : decode cL_law 1103 = .ok (.aload_n 0, 1) := by decide +kernel
theorem dL_law_1104 : decode cL_law 1104 = .ok (.iload_n 3, 1) := by decide +kernel
theorem dL_law_1105 : decode cL_law 1105 = .ok (.bipush 6, 2) := by decide +kernel
theorem dL_law_1107 : decode cL_law 1107 = .ok (.iadd, 1) := by decide +kernel
theorem dL_law_1108 : decode cL_law 1108 = .ok (.iaload, 1) := by decide +kernel
theorem dL_law_1109 : decode cL_law 1109 = .ok (.i2l, 1) := by decide +kernel
theorem dL_law_1110 : decode cL_law 1110 = .ok (.bipush 32, 2) := by decide +kernel
theorem dL_law_1112 : decode cL_law 1112 = .ok (.lshl, 1) := by decide +kernel
theorem dL_law_1113 : decode cL_law 1113 = .ok (.aload_n 0, 1) := by decide +kernel
theorem dL_law_1114 : decode cL_law 1114 = .ok (.iload_n 3, 1) := by decide +kernel
theorem dL_law_1115 : decode cL_law 1115 = .ok (.bipush 7, 2) := by decide +kernel
theorem dL_law_1117 : decode cL_law 1117 = .ok (.iadd, 1) := by decide +kernel
theorem dL_law_1118 : decode cL_law 1118 = .ok (.iaload, 1) := by decide +kernel
theorem dL_law_1119 : decode cL_law 1119 = .ok (.i2l, 1) := by decide +kernel
theorem dL_law_1120 : decode cL_law 1120 = .ok (.ldc2_w 105, 3) := by decide +kernel
theorem dL_law_1123 : decode cL_law 1123 = .ok (.land, 1) := by decide +kernel
theorem dL_law_1124 : decode cL_law 1124 = .ok (.lor, 1) := by decide +kernel
theorem dL_law_1125 : decode cL_law 1125 = .ok (.invokevirtual 116, 3) := by decide +kernel
theorem dL_law_1128 : decode cL_law 1128 = .ok (.aload_n 2, 1) := by decide +kernel
theorem dL_law_1129 : decode cL_law 1129 = .ok (.aload_n 0, 1) := by decide +kernel
theorem dL_law_1130 : decode cL_law 1130 = .ok (.iload_n 3, 1) := by decide +kernel
theorem dL_law_1131 : decode cL_law 1131 = .ok (.iconst 1, 1) := by decide +kernel
theorem dL_law_1132 : decode cL_law 1132 = .ok (.iadd, 1) := by decide +kernel
theorem dL_law_1133 : decode cL_law 1133 = .ok (.iaload, 1) := by decide +kernel
theorem dL_law_1134 : decode cL_law 1134 = .ok (.aload_n 0, 1) := by decide +kernel
theorem dL_law_1135 : decode cL_law 1135 = .ok (.iload_n 3, 1) := by decide +kernel
theorem dL_law_1136 : decode cL_law 1136 = .ok (.iconst 2, 1) := by decide +kernel
theorem dL_law_1137 : decode cL_law 1137 = .ok (.iadd, 1) := by decide +kernel
theorem dL_law_1138 : decode cL_law 1138 = .ok (.iaload, 1) := by decide +kernel
theorem dL_law_1139 : decode cL_law 1139 = .ok (.aload_n 0, 1) := by decide +kernel
theorem dL_law_1140 : decode cL_law 1140 = .ok (.iload_n 3, 1) := by decide +kernel
theorem dL_law_1141 : decode cL_law 1141 = .ok (.iconst 3, 1) := by decide +kernel
theorem dL_law_1142 : decode cL_law 1142 = .ok (.iadd, 1) := by decide +kernel
theorem dL_law_1143 : decode cL_law 1143 = .ok (.iaload, 1) := by decide +kernel
theorem dL_law_1144 : decode cL_law 1144 = .ok (.aload_n 0, 1) := by decide +kernel
theorem dL_law_1145 : decode cL_law 1145 = .ok (.iload_n 3, 1) := by decide +kernel
theorem dL_law_1146 : decode cL_law 1146 = .ok (.iconst 4, 1) := by decide +kernel
theorem dL_law_1147 : decode cL_law 1147 = .ok (.iadd, 1) := by decide +kernel
theorem dL_law_1148 : decode cL_law 1148 = .ok (.iaload, 1) := by decide +kernel
theorem dL_law_1149 : decode cL_law 1149 = .ok (.aload_n 0, 1) := by decide +kernel
theorem dL_law_1150 : decode cL_law 1150 = .ok (.iload_n 3, 1) := by decide +kernel
theorem dL_law_1151 : decode cL_law 1151 = .ok (.iconst 5, 1) := by decide +kernel
theorem dL_law_1152 : decode cL_law 1152 = .ok (.iadd, 1) := by decide +kernel
theorem dL_law_1153 : decode cL_law 1153 = .ok (.iaload, 1) := by decide +kernel
theorem dL_law_1154 : decode cL_law 1154 = .ok (.aload_n 0, 1) := by decide +kernel
theorem dL_law_1155 : decode cL_law 1155 = .ok (.iload_n 3, 1) := by decide +kernel
theorem dL_law_1156 : decode cL_law 1156 = .ok (.bipush 6, 2) := by decide +kernel
theorem dL_law_1158 : decode cL_law 1158 = .ok (.iadd, 1) := by decide +kernel
theorem dL_law_1159 : decode cL_law 1159 = .ok (.iaload, 1) := by decide +kernel
theorem dL_law_1160 : decode cL_law 1160 = .ok (.i2l, 1) := by decide +kernel
theorem dL_law_1161 : decode cL_law 1161 = .ok (.bipush 32, 2) := by decide +kernel
theorem dL_law_1163 : decode cL_law 1163 = .ok (.lshl, 1) := by decide +kernel
theorem dL_law_1164 : decode cL_law 1164 = .ok (.aload_n 0, 1) := by decide +kernel
theorem dL_law_1165 : decode cL_law 1165 = .ok (.iload_n 3, 1) := by decide +kernel
theorem dL_law_1166 : decode cL_law 1166 = .ok (.bipush 7, 2) := by decide +kernel
theorem dL_law_1168 : decode cL_law 1168 = .ok (.iadd, 1) := by decide +kernel
theorem dL_law_1169 : decode cL_law 1169 = .ok (.iaload, 1) := by decide +kernel
theorem dL_law_1170 : decode cL_law 1170 = .ok (.i2l, 1) := by decide +kernel
theorem dL_law_1171 : decode cL_law 1171 = .ok (.ldc2_w 105, 3) := by decide +kernel
theorem dL_law_1174 : decode cL_law 1174 = .ok (.land, 1) := by decide +kernel
theorem dL_law_1175 : decode cL_law 1175 = .ok (.lor, 1) := by decide +kernel
theorem dL_law_1176 : decode cL_law 1176 = .ok (.invokevirtual 120, 3) := by decide +kernel
theorem dL_law_1179 : decode cL_law 1179 = .ok (.if_icmp .eq 342, 3) := by decide +kernel
theorem dL_law_1182 : decode cL_law 1182 = .ok (.iconst 0, 1) := by decide +kernel
theorem dL_law_1183 : decode cL_law 1183 = .ok (.ireturn, 1) := by decide +kernel
theorem dL_law_1184 : decode cL_law 1184 = .ok (.aload_n 1, 1) := by decide +kernel
theorem dL_law_1185 : decode cL_law 1185 = .ok (.aload_n 0, 1) := by decide +kernel
theorem dL_law_1186 : decode cL_law 1186 = .ok (.iload_n 3, 1) := by decide +kernel
theorem dL_law_1187 : decode cL_law 1187 = .ok (.iconst 1, 1) := by decide +kernel
theorem dL_law_1188 : decode cL_law 1188 = .ok (.iadd, 1) := by decide +kernel
theorem dL_law_1189 : decode cL_law 1189 = .ok (.iaload, 1) := by decide +kernel
theorem dL_law_1190 : decode cL_law 1190 = .ok (.aload_n 0, 1) := by decide +kernel
theorem dL_law_1191 : decode cL_law 1191 = .ok (.iload_n 3, 1) := by decide +kernel
theorem dL_law_1192 : decode cL_law 1192 = .ok (.iconst 2, 1) := by decide +kernel
theorem dL_law_1193 : decode cL_law 1193 = .ok (.iadd, 1) := by decide +kernel
theorem dL_law_1194 : decode cL_law 1194 = .ok (.iaload, 1) := by decide +kernel
theorem dL_law_1195 : decode cL_law 1195 = .ok (.ifCond .eq 7, 3) := by decide +kernel
theorem dL_law_1198 : decode cL_law 1198 = .ok (.iconst 1, 1) := by decide +kernel
theorem dL_law_1199 : decode cL_law 1199 = .ok (.goto 4, 3) := by decide +kernel
theorem dL_law_1202 : decode cL_law 1202 = .ok (.iconst 0, 1) := by decide +kernel
theorem dL_law_1203 : decode cL_law 1203 = .ok (.invokevirtual 121, 3) := by decide +kernel
theorem dL_law_1206 : decode cL_law 1206 = .ok (.aload_n 2, 1) := by decide +kernel
theorem dL_law_1207 : decode cL_law 1207 = .ok (.aload_n 0, 1) := by decide +kernel
theorem dL_law_1208 : decode cL_law 1208 = .ok (.iload_n 3, 1) := by decide +kernel
theorem dL_law_1209 : decode cL_law 1209 = .ok (.iconst 1, 1) := by decide +kernel
theorem dL_law_1210 : decode cL_law 1210 = .ok (.iadd, 1) := by decide +kernel
theorem dL_law_1211 : decode cL_law 1211 = .ok (.iaload, 1) := by decide +kernel
theorem dL_law_1212 : decode cL_law 1212 = .ok (.aload_n 0, 1) := by decide +kernel
theorem dL_law_1213 : decode cL_law 1213 = .ok (.iload_n 3, 1) := by decide +kernel
theorem dL_law_1214 : decode cL_law 1214 = .ok (.iconst 2, 1) := by decide +kernel
theorem dL_law_1215 : decode cL_law 1215 = .ok (.iadd, 1) := by decide +kernel
theorem dL_law_1216 : decode cL_law 1216 = .ok (.iaload, 1) := by decide +kernel
theorem dL_law_1217 : decode cL_law 1217 = .ok (.ifCond .eq 7, 3) := by decide +kernel
theorem dL_law_1220 : decode cL_law 1220 = .ok (.iconst 1, 1) := by decide +kernel
theorem dL_law_1221 : decode cL_law 1221 = .ok (.goto 4, 3) := by decide +kernel
theorem dL_law_1224 : decode cL_law 1224 = .ok (.iconst 0, 1) := by decide +kernel
theorem dL_law_1225 : decode cL_law 1225 = .ok (.invokevirtual 125, 3) := by decide +kernel
theorem dL_law_1228 : decode cL_law 1228 = .ok (.if_icmp .eq 293, 3) := by decide +kernel
theorem dL_law_1231 : decode cL_law 1231 = .ok (.iconst 0, 1) := by decide +kernel
theorem dL_law_1232 : decode cL_law 1232 = .ok (.ireturn, 1) := by decide +kernel
theorem dL_law_1233 : decode cL_law 1233 = .ok (.aload_n 1, 1) := by decide +kernel
theorem dL_law_1234 : decode cL_law 1234 = .ok (.aload_n 0, 1) := by decide +kernel
theorem dL_law_1235 : decode cL_law 1235 = .ok (.iload_n 3, 1) := by decide +kernel
theorem dL_law_1236 : decode cL_law 1236 = .ok (.iconst 1, 1) := by decide +kernel
theorem dL_law_1237 : decode cL_law 1237 = .ok (.iadd, 1) := by decide +kernel
theorem dL_law_1238 : decode cL_law 1238 = .ok (.iaload, 1) := by decide +kernel
theorem dL_law_1239 : decode cL_law 1239 = .ok (.aload_n 0, 1) := by decide +kernel
theorem dL_law_1240 : decode cL_law 1240 = .ok (.iload_n 3, 1) := by decide +kernel
theorem dL_law_1241 : decode cL_law 1241 = .ok (.iconst 2, 1) := by decide +kernel
theorem dL_law_1242 : decode cL_law 1242 = .ok (.iadd, 1) := by decide +kernel
theorem dL_law_1243 : decode cL_law 1243 = .ok (.iaload, 1) := by decide +kernel
theorem dL_law_1244 : decode cL_law 1244 = .ok (.invokevirtual 126, 3) := by decide +kernel
theorem dL_law_1247 : decode cL_law 1247 = .ok (.aload_n 2, 1) := by decide +kernel
theorem dL_law_1248 : decode cL_law 1248 = .ok (.aload_n 0, 1) := by decide +kernel
theorem dL_law_1249 : decode cL_law 1249 = .ok (.iload_n 3, 1) := by decide +kernel
theorem dL_law_1250 : decode cL_law 1250 = .ok (.iconst 1, 1) := by decide +kernel
theorem dL_law_1251 : decode cL_law 1251 = .ok (.iadd, 1) := by decide +kernel
theorem dL_law_1252 : decode cL_law 1252 = .ok (.iaload, 1) := by decide +kernel
theorem dL_law_1253 : decode cL_law 1253 = .ok (.aload_n 0, 1) := by decide +kernel
theorem dL_law_1254 : decode cL_law 1254 = .ok (.iload_n 3, 1) := by decide +kernel
theorem dL_law_1255 : decode cL_law 1255 = .ok (.iconst 2, 1) := by decide +kernel
theorem dL_law_1256 : decode cL_law 1256 = .ok (.iadd, 1) := by decide +kernel
theorem dL_law_1257 : decode cL_law 1257 = .ok (.iaload, 1) := by decide +kernel
theorem dL_law_1258 : decode cL_law 1258 = .ok (.invokevirtual 129, 3) := by decide +kernel
theorem dL_law_1261 : decode cL_law 1261 = .ok (.if_icmp .eq 260, 3) := by decide +kernel
theorem dL_law_1264 : decode cL_law 1264 = .ok (.iconst 0, 1) := by decide +kernel
theorem dL_law_1265 : decode cL_law 1265 = .ok (.ireturn, 1) := by decide +kernel
theorem dL_law_1266 : decode cL_law 1266 = .ok (.aload_n 1, 1) := by decide +kernel
theorem dL_law_1267 : decode cL_law 1267 = .ok (.aload_n 0, 1) := by decide +kernel
theorem dL_law_1268 : decode cL_law 1268 = .ok (.iload_n 3, 1) := by decide +kernel
theorem dL_law_1269 : decode cL_law 1269 = .ok (.iconst 1, 1) := by decide +kernel
theorem dL_law_1270 : decode cL_law 1270 = .ok (.iadd, 1) := by decide +kernel
theorem dL_law_1271 : decode cL_law 1271 = .ok (.iaload, 1) := by decide +kernel
theorem dL_law_1272 : decode cL_law 1272 = .ok (.invokevirtual 130, 3) := by decide +kernel
theorem dL_law_1275 : decode cL_law 1275 = .ok (.aload_n 2, 1) := by decide +kernel
theorem dL_law_1276 : decode cL_law 1276 = .ok (.aload_n 0, 1) := by decide +kernel
theorem dL_law_1277 : decode cL_law 1277 = .ok (.iload_n 3, 1) := by decide +kernel
theorem dL_law_1278 : decode cL_law 1278 = .ok (.iconst 1, 1) := by decide +kernel
theorem dL_law_1279 : decode cL_law 1279 = .ok (.iadd, 1) := by decide +kernel
theorem dL_law_1280 : decode cL_law 1280 = .ok (.iaload, 1) := by decide +kernel
theorem dL_law_1281 : decode cL_law 1281 = .ok (.invokevirtual 134, 3) := by decide +kernel
theorem dL_law_1284 : decode cL_law 1284 = .ok (.lcmp, 1) := by decide +kernel
theorem dL_law_1285 : decode cL_law 1285 = .ok (.ifCond .eq 236, 3) := by decide +kernel
theorem dL_law_1288 : decode cL_law 1288 = .ok (.iconst 0, 1) := by decide +kernel
theorem dL_law_1289 : decode cL_law 1289 = .ok (.ireturn, 1) := by decide +kernel
theorem dL_law_1290 : decode cL_law 1290 = .ok (.aload_n 1, 1) := by decide +kernel
theorem dL_law_1291 : decode cL_law 1291 = .ok (.aload_n 0, 1) := by decide +kernel
theorem dL_law_1292 : decode cL_law 1292 = .ok (.iload_n 3, 1) := by decide +kernel
theorem dL_law_1293 : decode cL_law 1293 = .ok (.iconst 1, 1) := by decide +kernel
theorem dL_law_1294 : decode cL_law 1294 = .ok (.iadd, 1) := by decide +kernel
theorem dL_law_1295 : decode cL_law 1295 = .ok (.iaload, 1) := by decide +kernel
theorem dL_law_1296 : decode cL_law 1296 = .ok (.aload_n 0, 1) := by decide +kernel
theorem dL_law_1297 : decode cL_law 1297 = .ok (.iload_n 3, 1) := by decide +kernel
theorem dL_law_1298 : decode cL_law 1298 = .ok (.iconst 2, 1) := by decide +kernel
theorem dL_law_1299 : decode cL_law 1299 = .ok (.iadd, 1) := by decide +kernel
theorem dL_law_1300 : decode cL_law 1300 = .ok (.iaload, 1) := by decide +kernel
theorem dL_law_1301 : decode cL_law 1301 = .ok (.invokevirtual 135, 3) := by decide +kernel
theorem dL_law_1304 : decode cL_law 1304 = .ok (.aload_n 2, 1) := by decide +kernel
theorem dL_law_1305 : decode cL_law 1305 = .ok (.aload_n 0, 1) := by decide +kernel
theorem dL_law_1306 : decode cL_law 1306 = .ok (.iload_n 3, 1) := by decide +kernel
theorem dL_law_1307 : decode cL_law 1307 = .ok (.iconst 1, 1) := by decide +kernel
theorem dL_law_1308 : decode cL_law 1308 = .ok (.iadd, 1) := by decide +kernel
theorem dL_law_1309 : decode cL_law 1309 = .ok (.iaload, 1) := by decide +kernel
theorem dL_law_1310 : decode cL_law 1310 = .ok (.aload_n 0, 1) := by decide +kernel
theorem dL_law_1311 : decode cL_law 1311 = .ok (.iload_n 3, 1) := by decide +kernel
theorem dL_law_1312 : decode cL_law 1312 = .ok (.iconst 2, 1) := by decide +kernel
theorem dL_law_1313 : decode cL_law 1313 = .ok (.iadd, 1) := by decide +kernel
theorem dL_law_1314 : decode cL_law 1314 = .ok (.iaload, 1) := by decide +kernel
theorem dL_law_1315 : decode cL_law 1315 = .ok (.invokevirtual 138, 3) := by decide +kernel
theorem dL_law_1318 : decode cL_law 1318 = .ok (.if_icmp .eq 203, 3) := by decide +kernel
theorem dL_law_1321 : decode cL_law 1321 = .ok (.iconst 0, 1) := by decide +kernel
theorem dL_law_1322 : decode cL_law 1322 = .ok (.ireturn, 1) := by decide +kernel
theorem dL_law_1323 : decode cL_law 1323 = .ok (.aload_n 1, 1) := by decide +kernel
theorem dL_law_1324 : decode cL_law 1324 = .ok (.aload_n 0, 1) := by decide +kernel
theorem dL_law_1325 : decode cL_law 1325 = .ok (.iload_n 3, 1) := by decide +kernel
theorem dL_law_1326 : decode cL_law 1326 = .ok (.iconst 1, 1) := by decide +kernel
theorem dL_law_1327 : decode cL_law 1327 = .ok (.iadd, 1) := by decide +kernel
theorem dL_law_1328 : decode cL_law 1328 = .ok (.iaload, 1) := by decide +kernel
theorem dL_law_1329 : decode cL_law 1329 = .ok (.aload_n 0, 1) := by decide +kernel
theorem dL_law_1330 : decode cL_law 1330 = .ok (.iload_n 3, 1) := by decide +kernel
theorem dL_law_1331 : decode cL_law 1331 = .ok (.iconst 2, 1) := by decide +kernel
theorem dL_law_1332 : decode cL_law 1332 = .ok (.iadd, 1) := by decide +kernel
theorem dL_law_1333 : decode cL_law 1333 = .ok (.iaload, 1) := by decide +kernel
theorem dL_law_1334 : decode cL_law 1334 = .ok (.invokevirtual 139, 3) := by decide +kernel
theorem dL_law_1337 : decode cL_law 1337 = .ok (.aload_n 2, 1) := by decide +kernel
theorem dL_law_1338 : decode cL_law 1338 = .ok (.aload_n 0, 1) := by decide +kernel
theorem dL_law_1339 : decode cL_law 1339 = .ok (.iload_n 3, 1) := by decide +kernel
theorem dL_law_1340 : decode cL_law 1340 = .ok (.iconst 1, 1) := by decide +kernel
theorem dL_law_1341 : decode cL_law 1341 = .ok (.iadd, 1) := by decide +kernel
theorem dL_law_1342 : decode cL_law 1342 = .ok (.iaload, 1) := by decide +kernel
theorem dL_law_1343 : decode cL_law 1343 = .ok (.aload_n 0, 1) := by decide +kernel
theorem dL_law_1344 : decode cL_law 1344 = .ok (.iload_n 3, 1) := by decide +kernel
theorem dL_law_1345 : decode cL_law 1345 = .ok (.iconst 2, 1) := by decide +kernel
theorem dL_law_1346 : decode cL_law 1346 = .ok (.iadd, 1) := by decide +kernel
theorem dL_law_1347 : decode cL_law 1347 = .ok (.iaload, 1) := by decide +kernel
theorem dL_law_1348 : decode cL_law 1348 = .ok (.invokevirtual 142, 3) := by decide +kernel
theorem dL_law_1351 : decode cL_law 1351 = .ok (.if_icmp .eq 170, 3) := by decide +kernel
theorem dL_law_1354 : decode cL_law 1354 = .ok (.iconst 0, 1) := by decide +kernel
theorem dL_law_1355 : decode cL_law 1355 = .ok (.ireturn, 1) := by decide +kernel
theorem dL_law_1356 : decode cL_law 1356 = .ok (.aload_n 1, 1) := by decide +kernel
theorem dL_law_1357 : decode cL_law 1357 = .ok (.aload_n 0, 1) := by decide +kernel
theorem dL_law_1358 : decode cL_law 1358 = .ok (.iload_n 3, 1) := by decide +kernel
theorem dL_law_1359 : decode cL_law 1359 = .ok (.iconst 1, 1) := by decide +kernel
theorem dL_law_1360 : decode cL_law 1360 = .ok (.iadd, 1) := by decide +kernel
theorem dL_law_1361 : decode cL_law 1361 = .ok (.iaload, 1) := by decide +kernel
theorem dL_law_1362 : decode cL_law 1362 = .ok (.invokevirtual 143, 3) := by decide +kernel
theorem dL_law_1365 : decode cL_law 1365 = .ok (.aload_n 2, 1) := by decide +kernel
theorem dL_law_1366 : decode cL_law 1366 = .ok (.aload_n 0, 1) := by decide +kernel
theorem dL_law_1367 : decode cL_law 1367 = .ok (.iload_n 3, 1) := by decide +kernel
theorem dL_law_1368 : decode cL_law 1368 = .ok (.iconst 1, 1) := by decide +kernel
theorem dL_law_1369 : decode cL_law 1369 = .ok (.iadd, 1) := by decide +kernel
theorem dL_law_1370 : decode cL_law 1370 = .ok (.iaload, 1) := by decide +kernel
theorem dL_law_1371 : decode cL_law 1371 = .ok (.invokevirtual 146, 3) := by decide +kernel
theorem dL_law_1374 : decode cL_law 1374 = .ok (.if_icmp .eq 147, 3) := by decide +kernel
theorem dL_law_1377 : decode cL_law 1377 = .ok (.iconst 0, 1) := by decide +kernel
theorem dL_law_1378 : decode cL_law 1378 = .ok (.ireturn, 1) := by decide +kernel
theorem dL_law_1379 : decode cL_law 1379 = .ok (.aload_n 1, 1) := by decide +kernel
theorem dL_law_1380 : decode cL_law 1380 = .ok (.aload_n 0, 1) := by decide +kernel
theorem dL_law_1381 : decode cL_law 1381 = .ok (.iload_n 3, 1) := by decide +kernel
theorem dL_law_1382 : decode cL_law 1382 = .ok (.iconst 1, 1) := by decide +kernel
theorem dL_law_1383 : decode cL_law 1383 = .ok (.iadd, 1) := by decide +kernel
theorem dL_law_1384 : decode cL_law 1384 = .ok (.iaload, 1) := by decide +kernel
theorem dL_law_1385 : decode cL_law 1385 = .ok (.invokevirtual 147, 3) := by decide +kernel
theorem dL_law_1388 : decode cL_law 1388 = .ok (.aload_n 2, 1) := by decide +kernel
theorem dL_law_1389 : decode cL_law 1389 = .ok (.aload_n 0, 1) := by decide +kernel
theorem dL_law_1390 : decode cL_law 1390 = .ok (.iload_n 3, 1) := by decide +kernel
theorem dL_law_1391 : decode cL_law 1391 = .ok (.iconst 1, 1) := by decide +kernel
theorem dL_law_1392 : decode cL_law 1392 = .ok (.iadd, 1) := by decide +kernel
theorem dL_law_1393 : decode cL_law 1393 = .ok (.iaload, 1) := by decide +kernel
theorem dL_law_1394 : decode cL_law 1394 = .ok (.invokevirtual 150, 3) := by decide +kernel
theorem dL_law_1397 : decode cL_law 1397 = .ok (.if_icmp .eq 124, 3) := by decide +kernel
theorem dL_law_1400 : decode cL_law 1400 = .ok (.iconst 0, 1) := by decide +kernel
theorem dL_law_1401 : decode cL_law 1401 = .ok (.ireturn, 1) := by decide +kernel
theorem dL_law_1402 : decode cL_law 1402 = .ok (.aload_n 1, 1) := by decide +kernel
theorem dL_law_1403 : decode cL_law 1403 = .ok (.aload_n 0, 1) := by decide +kernel
theorem dL_law_1404 : decode cL_law 1404 = .ok (.iload_n 3, 1) := by decide +kernel
theorem dL_law_1405 : decode cL_law 1405 = .ok (.iconst 1, 1) := by decide +kernel
theorem dL_law_1406 : decode cL_law 1406 = .ok (.iadd, 1) := by decide +kernel
theorem dL_law_1407 : decode cL_law 1407 = .ok (.iaload, 1) := by decide +kernel
theorem dL_law_1408 : decode cL_law 1408 = .ok (.aload_n 0, 1) := by decide +kernel
theorem dL_law_1409 : decode cL_law 1409 = .ok (.iload_n 3, 1) := by decide +kernel
theorem dL_law_1410 : decode cL_law 1410 = .ok (.iconst 2, 1) := by decide +kernel
theorem dL_law_1411 : decode cL_law 1411 = .ok (.iadd, 1) := by decide +kernel
theorem dL_law_1412 : decode cL_law 1412 = .ok (.iaload, 1) := by decide +kernel
theorem dL_law_1413 : decode cL_law 1413 = .ok (.aload_n 0, 1) := by decide +kernel
theorem dL_law_1414 : decode cL_law 1414 = .ok (.iload_n 3, 1) := by decide +kernel
theorem dL_law_1415 : decode cL_law 1415 = .ok (.iconst 3, 1) := by decide +kernel
theorem dL_law_1416 : decode cL_law 1416 = .ok (.iadd, 1) := by decide +kernel
theorem dL_law_1417 : decode cL_law 1417 = .ok (.iaload, 1) := by decide +kernel
theorem dL_law_1418 : decode cL_law 1418 = .ok (.invokevirtual 151, 3) := by decide +kernel
theorem dL_law_1421 : decode cL_law 1421 = .ok (.aload_n 2, 1) := by decide +kernel
theorem dL_law_1422 : decode cL_law 1422 = .ok (.aload_n 0, 1) := by decide +kernel
theorem dL_law_1423 : decode cL_law 1423 = .ok (.iload_n 3, 1) := by decide +kernel
theorem dL_law_1424 : decode cL_law 1424 = .ok (.iconst 1, 1) := by decide +kernel
theorem dL_law_1425 : decode cL_law 1425 = .ok (.iadd, 1) := by decide +kernel
theorem dL_law_1426 : decode cL_law 1426 = .ok (.iaload, 1) := by decide +kernel
theorem dL_law_1427 : decode cL_law 1427 = .ok (.aload_n 0, 1) := by decide +kernel
theorem dL_law_1428 : decode cL_law 1428 = .ok (.iload_n 3, 1) := by decide +kernel
theorem dL_law_1429 : decode cL_law 1429 = .ok (.iconst 2, 1) := by decide +kernel
theorem dL_law_1430 : decode cL_law 1430 = .ok (.iadd, 1) := by decide +kernel
theorem dL_law_1431 : decode cL_law 1431 = .ok (.iaload, 1) := by decide +kernel
theorem dL_law_1432 : decode cL_law 1432 = .ok (.aload_n 0, 1) := by decide +kernel
theorem dL_law_1433 : decode cL_law 1433 = .ok (.iload_n 3, 1) := by decide +kernel
theorem dL_law_1434 : decode cL_law 1434 = .ok (.iconst 3, 1) := by decide +kernel
theorem dL_law_1435 : decode cL_law 1435 = .ok (.iadd, 1) := by decide +kernel
theorem dL_law_1436 : decode cL_law 1436 = .ok (.iaload, 1) := by decide +kernel
theorem dL_law_1437 : decode cL_law 1437 = .ok (.invokevirtual 154, 3) := by decide +kernel
theorem dL_law_1440 : decode cL_law 1440 = .ok (.if_icmp .eq 81, 3) := by decide +kernel
theorem dL_law_1443 : decode cL_law 1443 = .ok (.iconst 0, 1) := by decide +kernel
theorem dL_law_1444 : decode cL_law 1444 = .ok (.ireturn, 1) := by decide +kernel
theorem dL_law_1445 : decode cL_law 1445 = .ok (.aload_n 1, 1) := by decide +kernel
theorem dL_law_1446 : decode cL_law 1446 = .ok (.aload_n 0, 1) := by decide +kernel
theorem dL_law_1447 : decode cL_law 1447 = .ok (.iload_n 3, 1) := by decide +kernel
theorem dL_law_1448 : decode cL_law 1448 = .ok (.iconst 1, 1) := by decide +kernel
theorem dL_law_1449 : decode cL_law 1449 = .ok (.iadd, 1) := by decide +kernel
theorem dL_law_1450 : decode cL_law 1450 = .ok (.iaload, 1) := by decide +kernel
theorem dL_law_1451 : decode cL_law 1451 = .ok (.aload_n 0, 1) := by decide +kernel
theorem dL_law_1452 : decode cL_law 1452 = .ok (.iload_n 3, 1) := by decide +kernel
theorem dL_law_1453 : decode cL_law 1453 = .ok (.iconst 2, 1) := by decide +kernel
theorem dL_law_1454 : decode cL_law 1454 = .ok (.iadd, 1) := by decide +kernel
theorem dL_law_1455 : decode cL_law 1455 = .ok (.iaload, 1) := by decide +kernel
theorem dL_law_1456 : decode cL_law 1456 = .ok (.aload_n 0, 1) := by decide +kernel
theorem dL_law_1457 : decode cL_law 1457 = .ok (.iload_n 3, 1) := by decide +kernel
theorem dL_law_1458 : decode cL_law 1458 = .ok (.iconst 3, 1) := by decide +kernel
theorem dL_law_1459 : decode cL_law 1459 = .ok (.iadd, 1) := by decide +kernel
theorem dL_law_1460 : decode cL_law 1460 = .ok (.iaload, 1) := by decide +kernel
theorem dL_law_1461 : decode cL_law 1461 = .ok (.invokevirtual 155, 3) := by decide +kernel
theorem dL_law_1464 : decode cL_law 1464 = .ok (.aload_n 2, 1) := by decide +kernel
theorem dL_law_1465 : decode cL_law 1465 = .ok (.aload_n 0, 1) := by decide +kernel
theorem dL_law_1466 : decode cL_law 1466 = .ok (.iload_n 3, 1) := by decide +kernel
theorem dL_law_1467 : decode cL_law 1467 = .ok (.iconst 1, 1) := by decide +kernel
theorem dL_law_1468 : decode cL_law 1468 = .ok (.iadd, 1) := by decide +kernel
theorem dL_law_1469 : decode cL_law 1469 = .ok (.iaload, 1) := by decide +kernel
theorem dL_law_1470 : decode cL_law 1470 = .ok (.aload_n 0, 1) := by decide +kernel
theorem dL_law_1471 : decode cL_law 1471 = .ok (.iload_n 3, 1) := by decide +kernel
theorem dL_law_1472 : decode cL_law 1472 = .ok (.iconst 2, 1) := by decide +kernel
theorem dL_law_1473 : decode cL_law 1473 = .ok (.iadd, 1) := by decide +kernel
theorem dL_law_1474 : decode cL_law 1474 = .ok (.iaload, 1) := by decide +kernel
theorem dL_law_1475 : decode cL_law 1475 = .ok (.aload_n 0, 1) := by decide +kernel
theorem dL_law_1476 : decode cL_law 1476 = .ok (.iload_n 3, 1) := by decide +kernel
theorem dL_law_1477 : decode cL_law 1477 = .ok (.iconst 3, 1) := by decide +kernel
theorem dL_law_1478 : decode cL_law 1478 = .ok (.iadd, 1) := by decide +kernel
theorem dL_law_1479 : decode cL_law 1479 = .ok (.iaload, 1) := by decide +kernel
theorem dL_law_1480 : decode cL_law 1480 = .ok (.invokevirtual 158, 3) := by decide +kernel
theorem dL_law_1483 : decode cL_law 1483 = .ok (.if_icmp .eq 38, 3) := by decide +kernel
theorem dL_law_1486 : decode cL_law 1486 = .ok (.iconst 0, 1) := by decide +kernel
theorem dL_law_1487 : decode cL_law 1487 = .ok (.ireturn, 1) := by decide +kernel
theorem dL_law_1488 : decode cL_law 1488 = .ok (.aload_n 1, 1) := by decide +kernel
theorem dL_law_1489 : decode cL_law 1489 = .ok (.aload_n 0, 1) := by decide +kernel
theorem dL_law_1490 : decode cL_law 1490 = .ok (.iload_n 3, 1) := by decide +kernel
theorem dL_law_1491 : decode cL_law 1491 = .ok (.iconst 1, 1) := by decide +kernel
theorem dL_law_1492 : decode cL_law 1492 = .ok (.iadd, 1) := by decide +kernel
theorem dL_law_1493 : decode cL_law 1493 = .ok (.iaload, 1) := by decide +kernel
theorem dL_law_1494 : decode cL_law 1494 = .ok (.aload_n 0, 1) := by decide +kernel
theorem dL_law_1495 : decode cL_law 1495 = .ok (.iload_n 3, 1) := by decide +kernel
theorem dL_law_1496 : decode cL_law 1496 = .ok (.iconst 2, 1) := by decide +kernel
theorem dL_law_1497 : decode cL_law 1497 = .ok (.iadd, 1) := by decide +kernel
theorem dL_law_1498 : decode cL_law 1498 = .ok (.iaload, 1) := by decide +kernel
theorem dL_law_1499 : decode cL_law 1499 = .ok (.invokevirtual 159, 3) := by decide +kernel
theorem dL_law_1502 : decode cL_law 1502 = .ok (.aload_n 2, 1) := by decide +kernel
theorem dL_law_1503 : decode cL_law 1503 = .ok (.aload_n 0, 1) := by decide +kernel
theorem dL_law_1504 : decode cL_law 1504 = .ok (.iload_n 3, 1) := by decide +kernel
theorem dL_law_1505 : decode cL_law 1505 = .ok (.iconst 1, 1) := by decide +kernel
theorem dL_law_1506 : decode cL_law 1506 = .ok (.iadd, 1) := by decide +kernel
theorem dL_law_1507 : decode cL_law 1507 = .ok (.iaload, 1) := by decide +kernel
theorem dL_law_1508 : decode cL_law 1508 = .ok (.aload_n 0, 1) := by decide +kernel
theorem dL_law_1509 : decode cL_law 1509 = .ok (.iload_n 3, 1) := by decide +kernel
theorem dL_law_1510 : decode cL_law 1510 = .ok (.iconst 2, 1) := by decide +kernel
theorem dL_law_1511 : decode cL_law 1511 = .ok (.iadd, 1) := by decide +kernel
theorem dL_law_1512 : decode cL_law 1512 = .ok (.iaload, 1) := by decide +kernel
theorem dL_law_1513 : decode cL_law 1513 = .ok (.invokevirtual 162, 3) := by decide +kernel
theorem dL_law_1516 : decode cL_law 1516 = .ok (.if_icmp .eq 5, 3) := by decide +kernel
theorem dL_law_1519 : decode cL_law 1519 = .ok (.iconst 0, 1) := by decide +kernel
theorem dL_law_1520 : decode cL_law 1520 = .ok (.ireturn, 1) := by decide +kernel
theorem dL_law_1521 : decode cL_law 1521 = .ok (.iinc 3 8, 3) := by decide +kernel
theorem dL_law_1524 : decode cL_law 1524 = .ok (.goto (-1506), 3) := by decide +kernel
theorem dL_law_1527 : decode cL_law 1527 = .ok (.iconst 1, 1) := by decide +kernel
theorem dL_law_1528 : decode cL_law 1528 = .ok (.ireturn, 1) := by decide +kernel
theorem dX0_init_0 : decode cX0_init 0 = .ok (.aload_n 0, 1) := by decide +kernel
theorem dX0_init_1 : decode cX0_init 1 = .ok (.invokespecial 3, 3) := by decide +kernel
theorem dX0_init_4 : decode cX0_init 4 = .ok (.aload_n 0, 1) := by decide +kernel
theorem dX0_init_5 : decode cX0_init 5 = .ok (.bipush 6, 2) := by decide +kernel
theorem dX0_init_7 : decode cX0_init 7 = .ok (.newarray .int, 2) := by decide +kernel
theorem dX0_init_9 : decode cX0_init 9 = .ok (.putfield 9, 3) := by decide +kernel
theorem dX0_init_12 : decode cX0_init 12 = .ok (.aload_n 0, 1) := by decide +kernel
theorem dX0_init_13 : decode cX0_init 13 = .ok (.bipush 6, 2) := by decide +kernel
theorem dX0_init_15 : decode cX0_init 15 = .ok (.newarray .int, 2) := by decide +kernel
theorem dX0_init_17 : decode cX0_init 17 = .ok (.putfield 15, 3) := by decide +kernel
theorem dX0_init_20 : decode cX0_init 20 = .ok (.aload_n 0, 1) := by decide +kernel
theorem dX0_init_21 : decode cX0_init 21 = .ok (.bipush 6, 2) := by decide +kernel
theorem dX0_init_23 : decode cX0_init 23 = .ok (.sipush 1000, 3) := by decide +kernel
theorem dX0_init_26 : decode cX0_init 26 = .ok (.multianewarray 18 2, 4) := by decide +kernel
theorem dX0_init_30 : decode cX0_init 30 = .ok (.putfield 20, 3) := by decide +kernel
theorem dX0_init_33 : decode cX0_init 33 = .ok (.aload_n 0, 1) := by decide +kernel
theorem dX0_init_34 : decode cX0_init 34 = .ok (.sipush 1000, 3) := by decide +kernel
theorem dX0_init_37 : decode cX0_init 37 = .ok (.newarray .int, 2) := by decide +kernel
theorem dX0_init_39 : decode cX0_init 39 = .ok (.putfield 23, 3) := by decide +kernel
theorem dX0_init_42 : decode cX0_init 42 = .ok (.aload_n 0, 1) := by decide +kernel
theorem dX0_init_43 : decode cX0_init 43 = .ok (.sipush 1000, 3) := by decide +kernel
theorem dX0_init_46 : decode cX0_init 46 = .ok (.newarray .int, 2) := by decide +kernel
theorem dX0_init_48 : decode cX0_init 48 = .ok (.putfield 26, 3) := by decide +kernel
theorem dX0_init_51 : decode cX0_init 51 = .ok (.return_, 1) := by decide +kernel
theorem dX0_plan_0 : decode cX0_plan 0 = .ok (.aload_n 0, 1) := by decide +kernel
theorem dX0_plan_1 : decode cX0_plan 1 = .ok (.iload_n 3, 1) := by decide +kernel
theorem dX0_plan_2 : decode cX0_plan 2 = .ok (.aload_n 2, 1) := by decide +kernel
theorem dX0_plan_3 : decode cX0_plan 3 = .ok (.arraylength, 1) := by decide +kernel
theorem dX0_plan_4 : decode cX0_plan 4 = .ok (.invokestatic 29, 3) := by decide +kernel
theorem dX0_plan_7 : decode cX0_plan 7 = .ok (.bipush 6, 2) := by decide +kernel
theorem dX0_plan_9 : decode cX0_plan 9 = .ok (.invokestatic 29, 3) := by decide +kernel
theorem dX0_plan_12 : decode cX0_plan 12 = .ok (.iconst 1, 1) := by decide +kernel
theorem dX0_plan_13 : decode cX0_plan 13 = .ok (.isub, 1) := by decide +kernel
theorem dX0_plan_14 : decode cX0_plan 14 = .ok (.putfield 35, 3) := by decide +kernel
theorem dX0_plan_17 : decode cX0_plan 17 = .ok (.aload_n 0, 1) := by decide +kernel
theorem dX0_plan_18 : decode cX0_plan 18 = .ok (.getfield 35, 3) := by decide +kernel
theorem dX0_plan_21 : decode cX0_plan 21 = .ok (.iconst 1, 1) := by decide +kernel
theorem dX0_plan_22 : decode cX0_plan 22 = .ok (.if_icmp .ge 5, 3) := by decide +kernel
theorem dX0_plan_25 : decode cX0_plan 25 = .ok (.iconst (-1), 1) := by decide +kernel
theorem dX0_plan_26 : decode cX0_plan 26 = .ok (.ireturn, 1) := by decide +kernel
theorem dX0_plan_27 : decode cX0_plan 27 = .ok (.aload_n 1, 1) := by decide +kernel
theorem dX0_plan_28 : decode cX0_plan 28 = .ok (.getfield 39, 3) := by decide +kernel
theorem dX0_plan_31 : decode cX0_plan 31 = .ok (.sipush 999, 3) := by decide +kernel
theorem dX0_plan_34 : decode cX0_plan 34 = .ok (.invokestatic 29, 3) := by decide +kernel
theorem dX0_plan_37 : decode cX0_plan 37 = .ok (.istore 4, 2) := by decide +kernel
theorem dX0_plan_39 : decode cX0_plan 39 = .ok (.aload_n 0, 1) := by decide +kernel
theorem dX0_plan_40 : decode cX0_plan 40 = .ok (.getfield 23, 3) := by decide +kernel
theorem dX0_plan_43 : decode cX0_plan 43 = .ok (.iconst 0, 1) := by decide +kernel
theorem dX0_plan_44 : decode cX0_plan 44 = .ok (.invokestatic 44, 3) := by decide +kernel
theorem dX0_plan_47 : decode cX0_plan 47 = .ok (.aload_n 0, 1) := by decide +kernel
theorem dX0_plan_48 : decode cX0_plan 48 = .ok (.getfield 35, 3) := by decide +kernel
theorem dX0_plan_51 : decode cX0_plan 51 = .ok (.iconst 1, 1) := by decide +kernel
theorem dX0_plan_52 : decode cX0_plan 52 = .ok (.isub, 1) := by decide +kernel
theorem dX0_plan_53 : decode cX0_plan 53 = .ok (.istore 5, 2) := by decide +kernel
theorem dX0_plan_55 : decode cX0_plan 55 = .ok (.iload 5, 2) := by decide +kernel
theorem dX0_plan_57 : decode cX0_plan 57 = .ok (.ifCond .lt 113, 3) := by decide +kernel
theorem dX0_plan_60 : decode cX0_plan 60 = .ok (.aload_n 2, 1) := by decide +kernel
theorem dX0_plan_61 : decode cX0_plan 61 = .ok (.iload 5, 2) := by decide +kernel
theorem dX0_plan_63 : decode cX0_plan 63 = .ok (.aaload, 1) := by decide +kernel
theorem dX0_plan_64 : decode cX0_plan 64 = .ok (.astore 6, 2) := by decide +kernel
theorem dX0_plan_66 : decode cX0_plan 66 = .ok (.aload_n 2, 1) := by decide +kernel
theorem dX0_plan_67 : decode cX0_plan 67 = .ok (.iload 5, 2) := by decide +kernel
theorem dX0_plan_69 : decode cX0_plan 69 = .ok (.iconst 1, 1) := by decide +kernel
theorem dX0_plan_70 : decode cX0_plan 70 = .ok (.iadd, 1) := by decide +kernel
theorem dX0_plan_71 : decode cX0_plan 71 = .ok (.aaload, 1) := by decide +kernel
theorem dX0_plan_72 : decode cX0_plan 72 = .ok (.astore 7, 2) := by decide +kernel
theorem dX0_plan_74 : decode cX0_plan 74 = .ok (.aload 6, 2) := by decide +kernel
theorem dX0_plan_76 : decode cX0_plan 76 = .ok (.ifnull 18, 3) := by decide +kernel
theorem dX0_plan_79 : decode cX0_plan 79 = .ok (.aload 7, 2) := by decide +kernel
theorem dX0_plan_81 : decode cX0_plan 81 = .ok (.ifnull 13, 3) := by decide +kernel
theorem dX0_plan_84 : decode cX0_plan 84 = .ok (.aload 6, 2) := by decide +kernel
theorem dX0_plan_86 : decode cX0_plan 86 = .ok (.aload 7, 2) := by decide +kernel
theorem dX0_plan_88 : decode cX0_plan 88 = .ok (.invokevirtual 50, 3) := by decide +kernel
theorem dX0_plan_91 : decode cX0_plan 91 = .ok (.ifCond .eq 5, 3) := by decide +kernel
theorem dX0_plan_94 : decode cX0_plan 94 = .ok (.iconst (-1), 1) := by decide +kernel
theorem dX0_plan_95 : decode cX0_plan 95 = .ok (.ireturn, 1) := by decide +kernel
theorem dX0_plan_96 : decode cX0_plan 96 = .ok (.aload_n 0, 1) := by decide +kernel
theorem dX0_plan_97 : decode cX0_plan 97 = .ok (.getfield 9, 3) := by decide +kernel
theorem dX0_plan_100 : decode cX0_plan 100 = .ok (.iload 5, 2) := by decide +kernel
theorem dX0_plan_102 : decode cX0_plan 102 = .ok (.aload_n 1, 1) := by decide +kernel
theorem dX0_plan_103 : decode cX0_plan 103 = .ok (.aload 6, 2) := by decide +kernel
theorem dX0_plan_105 : decode cX0_plan 105 = .ok (.aload 7, 2) := by decide +kernel
theorem dX0_plan_107 : decode cX0_plan 107 = .ok (.invokevirtual 56, 3) := by decide +kernel
theorem dX0_plan_110 : decode cX0_plan 110 = .ok (.invokevirtual 60, 3) := by decide +kernel
theorem dX0_plan_113 : decode cX0_plan 113 = .ok (.iastore, 1) := by decide +kernel
theorem dX0_plan_114 : decode cX0_plan 114 = .ok (.aload_n 0, 1) := by decide +kernel
theorem dX0_plan_115 : decode cX0_plan 115 = .ok (.getfield 23, 3) := by decide +kernel
theorem dX0_plan_118 : decode cX0_plan 118 = .ok (.iconst 0, 1) := by decide +kernel
theorem dX0_plan_119 : decode cX0_plan 119 = .ok (.aload_n 0, 1) := by decide +kernel
theorem dX0_plan_120 : decode cX0_plan 120 = .ok (.getfield 26, 3) := by decide +kernel
theorem dX0_plan_123 : decode cX0_plan 123 = .ok (.iconst 0, 1) := by decide +kernel
theorem dX0_plan_124 : decode cX0_plan 124 = .ok (.aload_n 0, 1) := by decide +kernel
theorem dX0_plan_125 : decode cX0_plan 125 = .ok (.getfield 23, 3) := by decide +kernel
theorem dX0_plan_128 : decode cX0_plan 128 = .ok (.arraylength, 1) := by decide +kernel
theorem dX0_plan_129 : decode cX0_plan 129 = .ok (.invokestatic 64, 3) := by decide +kernel
theorem dX0_plan_132 : decode cX0_plan 132 = .ok (.aload 6, 2) := by decide +kernel
theorem dX0_plan_134 : decode cX0_plan 134 = .ok (.getfield 70, 3) := by decide +kernel
theorem dX0_plan_137 : decode cX0_plan 137 = .ok (.ifCond .ne 14, 3) := by decide +kernel
theorem dX0_plan_140 : decode cX0_plan 140 = .ok (.aload_n 0, 1) := by decide +kernel
theorem dX0_plan_141 : decode cX0_plan 141 = .ok (.iload 5, 2) := by decide +kernel
theorem dX0_plan_143 : decode cX0_plan 143 = .ok (.iload 4, 2) := by decide +kernel
theorem dX0_plan_145 : decode cX0_plan 145 = .ok (.invokevirtual 73, 3) := by decide +kernel
theorem dX0_plan_148 : decode cX0_plan 148 = .ok (.goto 16, 3) := by decide +kernel
theorem dX0_plan_151 : decode cX0_plan 151 = .ok (.aload_n 0, 1) := by decide +kernel
theorem dX0_plan_152 : decode cX0_plan 152 = .ok (.iload 5, 2) := by decide +kernel
theorem dX0_plan_154 : decode cX0_plan 154 = .ok (.iload 4, 2) := by decide +kernel
theorem dX0_plan_156 : decode cX0_plan 156 = .ok (.aload 6, 2) := by decide +kernel
theorem dX0_plan_158 : decode cX0_plan 158 = .ok (.getfield 70, 3) := by decide +kernel
theorem dX0_plan_161 : decode cX0_plan 161 = .ok (.invokevirtual 77, 3) := by decide +kernel
theorem dX0_plan_164 : decode cX0_plan 164 = .ok (.iinc 5 (-1), 3) := by decide +kernel
theorem dX0_plan_167 : decode cX0_plan 167 = .ok (.goto (-112), 3) := by decide +kernel
theorem dX0_plan_170 : decode cX0_plan 170 = .ok (.aload_n 0, 1) := by decide +kernel
theorem dX0_plan_171 : decode cX0_plan 171 = .ok (.getfield 23, 3) := by decide +kernel
theorem dX0_plan_174 : decode cX0_plan 174 = .ok (.iconst 0, 1) := by decide +kernel
theorem dX0_plan_175 : decode cX0_plan 175 = .ok (.iaload, 1) := by decide +kernel
theorem dX0_plan_176 : decode cX0_plan 176 = .ok (.ldc 81, 2) := by decide +kernel
theorem dX0_plan_178 : decode cX0_plan 178 = .ok (.if_icmp .lt 5, 3) := by decide +kernel
theorem dX0_plan_181 : decode cX0_plan 181 = .ok (.iconst (-1), 1) := by decide +kernel
theorem dX0_plan_182 : decode cX0_plan 182 = .ok (.ireturn, 1) := by decide +kernel
theorem dX0_plan_183 : decode cX0_plan 183 = .ok (.aload_n 0, 1) := by decide +kernel
theorem dX0_plan_184 : decode cX0_plan 184 = .ok (.invokevirtual 82, 3) := by decide +kernel
theorem dX0_plan_187 : decode cX0_plan 187 = .ok (.aload_n 0, 1) := by decide +kernel
theorem dX0_plan_188 : decode cX0_plan 188 = .ok (.getfield 23, 3) := by decide +kernel
theorem dX0_plan_191 : decode cX0_plan 191 = .ok (.iconst 0, 1) := by decide +kernel
theorem dX0_plan_192 : decode cX0_plan 192 = .ok (.iaload, 1) := by decide +kernel
theorem dX0_plan_193 : decode cX0_plan 193 = .ok (.ireturn, 1) := by decide +kernel
theorem dX0_tonsAt_0 : decode cX0_tonsAt 0 = .ok (.iload_n 1, 1) := by decide +kernel
theorem dX0_tonsAt_1 : decode cX0_tonsAt 1 = .ok (.ifCond .lt 20, 3) := by decide +kernel
theorem dX0_tonsAt_4 : decode cX0_tonsAt 4 = .ok (.iload_n 1, 1) := by decide +kernel
theorem dX0_tonsAt_5 : decode cX0_tonsAt 5 = .ok (.aload_n 0, 1) := by decide +kernel
theorem dX0_tonsAt_6 : decode cX0_tonsAt 6 = .ok (.getfield 35, 3) := by decide +kernel
theorem dX0_tonsAt_9 : decode cX0_tonsAt 9 = .ok (.if_icmp .ge 12, 3) := by decide +kernel
theorem dX0_tonsAt_12 : decode cX0_tonsAt 12 = .ok (.aload_n 0, 1) := by decide +kernel
theorem dX0_tonsAt_13 : decode cX0_tonsAt 13 = .ok (.getfield 15, 3) := by decide +kernel
theorem dX0_tonsAt_16 : decode cX0_tonsAt 16 = .ok (.iload_n 1, 1) := by decide +kernel
theorem dX0_tonsAt_17 : decode cX0_tonsAt 17 = .ok (.iaload, 1) := by decide +kernel
theorem dX0_tonsAt_18 : decode cX0_tonsAt 18 = .ok (.goto 4, 3) := by decide +kernel
theorem dX0_tonsAt_21 : decode cX0_tonsAt 21 = .ok (.iconst (-1), 1) := by decide +kernel
theorem dX0_tonsAt_22 : decode cX0_tonsAt 22 = .ok (.ireturn, 1) := by decide +kernel
theorem dX0_planWithout_0 : decode cX0_planWithout 0 = .ok (.iconst 0, 1) := by decide +kernel
theorem dX0_planWithout_1 : decode cX0_planWithout 1 = .ok (.istore_n 3, 1) := by decide +kernel
theorem dX0_planWithout_2 : decode cX0_planWithout 2 = .ok (.iload_n 3, 1) := by decide +kernel
theorem dX0_planWithout_3 : decode cX0_planWithout 3 = .ok (.iload_n 2, 1) := by decide +kernel
theorem dX0_planWithout_4 : decode cX0_planWithout 4 = .ok (.if_icmp .gt 30, 3) := by decide +kernel
theorem dX0_planWithout_7 : decode cX0_planWithout 7 = .ok (.aload_n 0, 1) := by decide +kernel
theorem dX0_planWithout_8 : decode cX0_planWithout 8 = .ok (.getfield 20, 3) := by decide +kernel
theorem dX0_planWithout_11 : decode cX0_planWithout 11 = .ok (.iload_n 1, 1) := by decide +kernel
theorem dX0_planWithout_12 : decode cX0_planWithout 12 = .ok (.aaload, 1) := by decide +kernel
theorem dX0_planWithout_13 : decode cX0_planWithout 13 = .ok (.iload_n 3, 1) := by decide +kernel
theorem dX0_planWithout_14 : decode cX0_planWithout 14 = .ok (.iconst 0, 1) := by decide +kernel
theorem dX0_planWithout_15 : decode cX0_planWithout 15 = .ok (.iastore, 1) := by decide +kernel
theorem dX0_planWithout_16 : decode cX0_planWithout 16 = .ok (.aload_n 0, 1) := by decide +kernel
theorem dX0_planWithout_17 : decode cX0_planWithout 17 = .ok (.getfield 23, 3) := by decide +kernel
theorem dX0_planWithout_20 : decode cX0_planWithout 20 = .ok (.iload_n 3, 1) := by decide +kernel
theorem dX0_planWithout_21 : decode cX0_planWithout 21 = .ok (.aload_n 0, 1) := by decide +kernel
theorem dX0_planWithout_22 : decode cX0_planWithout 22 = .ok (.iload_n 1, 1) := by decide +kernel
theorem dX0_planWithout_23 : decode cX0_planWithout 23 = .ok (.iload_n 3, 1) := by decide +kernel
theorem dX0_planWithout_24 : decode cX0_planWithout 24 = .ok (.invokevirtual 85, 3) := by decide +kernel
theorem dX0_planWithout_27 : decode cX0_planWithout 27 = .ok (.iastore, 1) := by decide +kernel
theorem dX0_planWithout_28 : decode cX0_planWithout 28 = .ok (.iinc 3 1, 3) := by decide +kernel
theorem dX0_planWithout_31 : decode cX0_planWithout 31 = .ok (.goto (-29), 3) := by decide +kernel
end
section
theorem dX0_planWithout_34 : decode cX0_planWithout 34 = .ok (.return_, 1) := by decide +kernel
theorem dX0_planBuying_0 : decode cX0_planBuying 0 = .ok (.iconst 0, 1) := by decide +kernel
theorem dX0_planBuying_1 : decode cX0_planBuying 1 = .ok (.istore 4, 2) := by decide +kernel
theorem dX0_planBuying_3 : decode cX0_planBuying 3 = .ok (.ldc 81, 2) := by decide +kernel
theorem dX0_planBuying_5 : decode cX0_planBuying 5 = .ok (.istore 5, 2) := by decide +kernel
theorem dX0_planBuying_7 : decode cX0_planBuying 7 = .ok (.iload_n 2, 1) := by decide +kernel
theorem dX0_planBuying_8 : decode cX0_planBuying 8 = .ok (.istore 6, 2) := by decide +kernel
theorem dX0_planBuying_10 : decode cX0_planBuying 10 = .ok (.iload 6, 2) := by decide +kernel
theorem dX0_planBuying_12 : decode cX0_planBuying 12 = .ok (.ifCond .lt 94, 3) := by decide +kernel
theorem dX0_planBuying_15 : decode cX0_planBuying 15 = .ok (.aload_n 0, 1) := by decide +kernel
theorem dX0_planBuying_16 : decode cX0_planBuying 16 = .ok (.iload_n 1, 1) := by decide +kernel
theorem dX0_planBuying_17 : decode cX0_planBuying 17 = .ok (.iload 6, 2) := by decide +kernel
theorem dX0_planBuying_19 : decode cX0_planBuying 19 = .ok (.invokevirtual 85, 3) := by decide +kernel
theorem dX0_planBuying_22 : decode cX0_planBuying 22 = .ok (.istore 7, 2) := by decide +kernel
theorem dX0_planBuying_24 : decode cX0_planBuying 24 = .ok (.iload 7, 2) := by decide +kernel
theorem dX0_planBuying_26 : decode cX0_planBuying 26 = .ok (.ldc 81, 2) := by decide +kernel
theorem dX0_planBuying_28 : decode cX0_planBuying 28 = .ok (.if_icmp .ge 28, 3) := by decide +kernel
theorem dX0_planBuying_31 : decode cX0_planBuying 31 = .ok (.iload 7, 2) := by decide +kernel
theorem dX0_planBuying_33 : decode cX0_planBuying 33 = .ok (.iload 6, 2) := by decide +kernel
theorem dX0_planBuying_35 : decode cX0_planBuying 35 = .ok (.iload_n 3, 1) := by decide +kernel
theorem dX0_planBuying_36 : decode cX0_planBuying 36 = .ok (.imul, 1) := by decide +kernel
theorem dX0_planBuying_37 : decode cX0_planBuying 37 = .ok (.iadd, 1) := by decide +kernel
theorem dX0_planBuying_38 : decode cX0_planBuying 38 = .ok (.iload 5, 2) := by decide +kernel
theorem dX0_planBuying_40 : decode cX0_planBuying 40 = .ok (.if_icmp .gt 16, 3) := by decide +kernel
theorem dX0_planBuying_43 : decode cX0_planBuying 43 = .ok (.iload 7, 2) := by decide +kernel
theorem dX0_planBuying_45 : decode cX0_planBuying 45 = .ok (.iload 6, 2) := by decide +kernel
theorem dX0_planBuying_47 : decode cX0_planBuying 47 = .ok (.iload_n 3, 1) := by decide +kernel
theorem dX0_planBuying_48 : decode cX0_planBuying 48 = .ok (.imul, 1) := by decide +kernel
theorem dX0_planBuying_49 : decode cX0_planBuying 49 = .ok (.iadd, 1) := by decide +kernel
theorem dX0_planBuying_50 : decode cX0_planBuying 50 = .ok (.istore 5, 2) := by decide +kernel
theorem dX0_planBuying_52 : decode cX0_planBuying 52 = .ok (.iload 6, 2) := by decide +kernel
theorem dX0_planBuying_54 : decode cX0_planBuying 54 = .ok (.istore 4, 2) := by decide +kernel
theorem dX0_planBuying_56 : decode cX0_planBuying 56 = .ok (.aload_n 0, 1) := by decide +kernel
theorem dX0_planBuying_57 : decode cX0_planBuying 57 = .ok (.getfield 20, 3) := by decide +kernel
theorem dX0_planBuying_60 : decode cX0_planBuying 60 = .ok (.iload_n 1, 1) := by decide +kernel
theorem dX0_planBuying_61 : decode cX0_planBuying 61 = .ok (.aaload, 1) := by decide +kernel
theorem dX0_planBuying_62 : decode cX0_planBuying 62 = .ok (.iload 6, 2) := by decide +kernel
theorem dX0_planBuying_64 : decode cX0_planBuying 64 = .ok (.iload 4, 2) := by decide +kernel
theorem dX0_planBuying_66 : decode cX0_planBuying 66 = .ok (.iload 6, 2) := by decide +kernel
theorem dX0_planBuying_68 : decode cX0_planBuying 68 = .ok (.isub, 1) := by decide +kernel
theorem dX0_planBuying_69 : decode cX0_planBuying 69 = .ok (.iconst 0, 1) := by decide +kernel
theorem dX0_planBuying_70 : decode cX0_planBuying 70 = .ok (.invokestatic 88, 3) := by decide +kernel
theorem dX0_planBuying_73 : decode cX0_planBuying 73 = .ok (.iastore, 1) := by decide +kernel
theorem dX0_planBuying_74 : decode cX0_planBuying 74 = .ok (.aload_n 0, 1) := by decide +kernel
theorem dX0_planBuying_75 : decode cX0_planBuying 75 = .ok (.getfield 23, 3) := by decide +kernel
theorem dX0_planBuying_78 : decode cX0_planBuying 78 = .ok (.iload 6, 2) := by decide +kernel
theorem dX0_planBuying_80 : decode cX0_planBuying 80 = .ok (.iload 5, 2) := by decide +kernel
theorem dX0_planBuying_82 : decode cX0_planBuying 82 = .ok (.ldc 81, 2) := by decide +kernel
theorem dX0_planBuying_84 : decode cX0_planBuying 84 = .ok (.if_icmp .ge 13, 3) := by decide +kernel
theorem dX0_planBuying_87 : decode cX0_planBuying 87 = .ok (.iload 5, 2) := by decide +kernel
theorem dX0_planBuying_89 : decode cX0_planBuying 89 = .ok (.iload 6, 2) := by decide +kernel
theorem dX0_planBuying_91 : decode cX0_planBuying 91 = .ok (.iload_n 3, 1) := by decide +kernel
theorem dX0_planBuying_92 : decode cX0_planBuying 92 = .ok (.imul, 1) := by decide +kernel
theorem dX0_planBuying_93 : decode cX0_planBuying 93 = .ok (.isub, 1) := by decide +kernel
theorem dX0_planBuying_94 : decode cX0_planBuying 94 = .ok (.goto 5, 3) := by decide +kernel
theorem dX0_planBuying_97 : decode cX0_planBuying 97 = .ok (.ldc 81, 2) := by decide +kernel
theorem dX0_planBuying_99 : decode cX0_planBuying 99 = .ok (.iastore, 1) := by decide +kernel
theorem dX0_planBuying_100 : decode cX0_planBuying 100 = .ok (.iinc 6 (-1), 3) := by decide +kernel
theorem dX0_planBuying_103 : decode cX0_planBuying 103 = .ok (.goto (-93), 3) := by decide +kernel
theorem dX0_planBuying_106 : decode cX0_planBuying 106 = .ok (.return_, 1) := by decide +kernel
theorem dX0_costBehind_0 : decode cX0_costBehind 0 = .ok (.iload_n 2, 1) := by decide +kernel
theorem dX0_costBehind_1 : decode cX0_costBehind 1 = .ok (.aload_n 0, 1) := by decide +kernel
theorem dX0_costBehind_2 : decode cX0_costBehind 2 = .ok (.getfield 9, 3) := by decide +kernel
theorem dX0_costBehind_5 : decode cX0_costBehind 5 = .ok (.iload_n 1, 1) := by decide +kernel
theorem dX0_costBehind_6 : decode cX0_costBehind 6 = .ok (.iaload, 1) := by decide +kernel
theorem dX0_costBehind_7 : decode cX0_costBehind 7 = .ok (.isub, 1) := by decide +kernel
theorem dX0_costBehind_8 : decode cX0_costBehind 8 = .ok (.istore_n 3, 1) := by decide +kernel
theorem dX0_costBehind_9 : decode cX0_costBehind 9 = .ok (.iload_n 3, 1) := by decide +kernel
theorem dX0_costBehind_10 : decode cX0_costBehind 10 = .ok (.ifCond .lt 19, 3) := by decide +kernel
theorem dX0_costBehind_13 : decode cX0_costBehind 13 = .ok (.iload_n 3, 1) := by decide +kernel
theorem dX0_costBehind_14 : decode cX0_costBehind 14 = .ok (.sipush 999, 3) := by decide +kernel
theorem dX0_costBehind_17 : decode cX0_costBehind 17 = .ok (.if_icmp .gt 12, 3) := by decide +kernel
theorem dX0_costBehind_20 : decode cX0_costBehind 20 = .ok (.aload_n 0, 1) := by decide +kernel
theorem dX0_costBehind_21 : decode cX0_costBehind 21 = .ok (.getfield 26, 3) := by decide +kernel
theorem dX0_costBehind_24 : decode cX0_costBehind 24 = .ok (.iload_n 3, 1) := by decide +kernel
theorem dX0_costBehind_25 : decode cX0_costBehind 25 = .ok (.iaload, 1) := by decide +kernel
theorem dX0_costBehind_26 : decode cX0_costBehind 26 = .ok (.goto 5, 3) := by decide +kernel
theorem dX0_costBehind_29 : decode cX0_costBehind 29 = .ok (.ldc 81, 2) := by decide +kernel
theorem dX0_costBehind_31 : decode cX0_costBehind 31 = .ok (.ireturn, 1) := by decide +kernel
theorem dX0_follow_0 : decode cX0_follow 0 = .ok (.iconst 0, 1) := by decide +kernel
theorem dX0_follow_1 : decode cX0_follow 1 = .ok (.istore_n 1, 1) := by decide +kernel
theorem dX0_follow_2 : decode cX0_follow 2 = .ok (.iconst 0, 1) := by decide +kernel
theorem dX0_follow_3 : decode cX0_follow 3 = .ok (.istore_n 2, 1) := by decide +kernel
theorem dX0_follow_4 : decode cX0_follow 4 = .ok (.iload_n 2, 1) := by decide +kernel
theorem dX0_follow_5 : decode cX0_follow 5 = .ok (.aload_n 0, 1) := by decide +kernel
theorem dX0_follow_6 : decode cX0_follow 6 = .ok (.getfield 35, 3) := by decide +kernel
theorem dX0_follow_9 : decode cX0_follow 9 = .ok (.if_icmp .ge 51, 3) := by decide +kernel
theorem dX0_follow_12 : decode cX0_follow 12 = .ok (.iload_n 1, 1) := by decide +kernel
theorem dX0_follow_13 : decode cX0_follow 13 = .ok (.ifCond .lt 10, 3) := by decide +kernel
theorem dX0_follow_16 : decode cX0_follow 16 = .ok (.iload_n 1, 1) := by decide +kernel
theorem dX0_follow_17 : decode cX0_follow 17 = .ok (.sipush 999, 3) := by decide +kernel
theorem dX0_follow_20 : decode cX0_follow 20 = .ok (.if_icmp .le 4, 3) := by decide +kernel
theorem dX0_follow_23 : decode cX0_follow 23 = .ok (.return_, 1) := by decide +kernel
theorem dX0_follow_24 : decode cX0_follow 24 = .ok (.aload_n 0, 1) := by decide +kernel
theorem dX0_follow_25 : decode cX0_follow 25 = .ok (.getfield 15, 3) := by decide +kernel
theorem dX0_follow_28 : decode cX0_follow 28 = .ok (.iload_n 2, 1) := by decide +kernel
theorem dX0_follow_29 : decode cX0_follow 29 = .ok (.aload_n 0, 1) := by decide +kernel
theorem dX0_follow_30 : decode cX0_follow 30 = .ok (.getfield 20, 3) := by decide +kernel
theorem dX0_follow_33 : decode cX0_follow 33 = .ok (.iload_n 2, 1) := by decide +kernel
theorem dX0_follow_34 : decode cX0_follow 34 = .ok (.aaload, 1) := by decide +kernel
theorem dX0_follow_35 : decode cX0_follow 35 = .ok (.iload_n 1, 1) := by decide +kernel
theorem dX0_follow_36 : decode cX0_follow 36 = .ok (.iaload, 1) := by decide +kernel
theorem dX0_follow_37 : decode cX0_follow 37 = .ok (.iastore, 1) := by decide +kernel
theorem dX0_follow_38 : decode cX0_follow 38 = .ok (.iload_n 1, 1) := by decide +kernel
theorem dX0_follow_39 : decode cX0_follow 39 = .ok (.aload_n 0, 1) := by decide +kernel
theorem dX0_follow_40 : decode cX0_follow 40 = .ok (.getfield 15, 3) := by decide +kernel
theorem dX0_follow_43 : decode cX0_follow 43 = .ok (.iload_n 2, 1) := by decide +kernel
theorem dX0_follow_44 : decode cX0_follow 44 = .ok (.iaload, 1) := by decide +kernel
theorem dX0_follow_45 : decode cX0_follow 45 = .ok (.aload_n 0, 1) := by decide +kernel
theorem dX0_follow_46 : decode cX0_follow 46 = .ok (.getfield 9, 3) := by decide +kernel
theorem dX0_follow_49 : decode cX0_follow 49 = .ok (.iload_n 2, 1) := by decide +kernel
theorem dX0_follow_50 : decode cX0_follow 50 = .ok (.iaload, 1) := by decide +kernel
theorem dX0_follow_51 : decode cX0_follow 51 = .ok (.isub, 1) := by decide +kernel
theorem dX0_follow_52 : decode cX0_follow 52 = .ok (.iadd, 1) := by decide +kernel
theorem dX0_follow_53 : decode cX0_follow 53 = .ok (.istore_n 1, 1) := by decide +kernel
theorem dX0_follow_54 : decode cX0_follow 54 = .ok (.iinc 2 1, 3) := by decide +kernel
theorem dX0_follow_57 : decode cX0_follow 57 = .ok (.goto (-53), 3) := by decide +kernel
theorem dX0_follow_60 : decode cX0_follow 60 = .ok (.return_, 1) := by decide +kernel
theorem dX1_init_0 : decode cX1_init 0 = .ok (.aload_n 0, 1) := by decide +kernel
theorem dX1_init_1 : decode cX1_init 1 = .ok (.invokespecial 3, 3) := by decide +kernel
theorem dX1_init_4 : decode cX1_init 4 = .ok (.aload_n 0, 1) := by decide +kernel
theorem dX1_init_5 : decode cX1_init 5 = .ok (.iconst 0, 1) := by decide +kernel
theorem dX1_init_6 : decode cX1_init 6 = .ok (.putfield 11, 3) := by decide +kernel
theorem dX1_init_9 : decode cX1_init 9 = .ok (.aload_n 0, 1) := by decide +kernel
theorem dX1_init_10 : decode cX1_init 10 = .ok (.iload_n 1, 1) := by decide +kernel
theorem dX1_init_11 : decode cX1_init 11 = .ok (.putfield 15, 3) := by decide +kernel
theorem dX1_init_14 : decode cX1_init 14 = .ok (.aload_n 0, 1) := by decide +kernel
theorem dX1_init_15 : decode cX1_init 15 = .ok (.aload_n 2, 1) := by decide +kernel
theorem dX1_init_16 : decode cX1_init 16 = .ok (.putfield 18, 3) := by decide +kernel
theorem dX1_init_19 : decode cX1_init 19 = .ok (.aload_n 0, 1) := by decide +kernel
theorem dX1_init_20 : decode cX1_init 20 = .ok (.iload_n 3, 1) := by decide +kernel
theorem dX1_init_21 : decode cX1_init 21 = .ok (.putfield 22, 3) := by decide +kernel
theorem dX1_init_24 : decode cX1_init 24 = .ok (.aload_n 0, 1) := by decide +kernel
theorem dX1_init_25 : decode cX1_init 25 = .ok (.iload 4, 2) := by decide +kernel
theorem dX1_init_27 : decode cX1_init 27 = .ok (.putfield 25, 3) := by decide +kernel
theorem dX1_init_30 : decode cX1_init 30 = .ok (.aload_n 0, 1) := by decide +kernel
theorem dX1_init_31 : decode cX1_init 31 = .ok (.aload 5, 2) := by decide +kernel
theorem dX1_init_33 : decode cX1_init 33 = .ok (.putfield 28, 3) := by decide +kernel
theorem dX1_init_36 : decode cX1_init 36 = .ok (.aload_n 0, 1) := by decide +kernel
theorem dX1_init_37 : decode cX1_init 37 = .ok (.lload 6, 2) := by decide +kernel
theorem dX1_init_39 : decode cX1_init 39 = .ok (.ldc2_w 32, 3) := by decide +kernel
theorem dX1_init_42 : decode cX1_init 42 = .ok (.ldiv, 1) := by decide +kernel
theorem dX1_init_43 : decode cX1_init 43 = .ok (.l2i, 1) := by decide +kernel
theorem dX1_init_44 : decode cX1_init 44 = .ok (.putfield 34, 3) := by decide +kernel
theorem dX1_init_47 : decode cX1_init 47 = .ok (.aload_n 0, 1) := by decide +kernel
theorem dX1_init_48 : decode cX1_init 48 = .ok (.lload 6, 2) := by decide +kernel
theorem dX1_init_50 : decode cX1_init 50 = .ok (.ldc2_w 37, 3) := by decide +kernel
theorem dX1_init_53 : decode cX1_init 53 = .ok (.ldiv, 1) := by decide +kernel
theorem dX1_init_54 : decode cX1_init 54 = .ok (.ldc2_w 37, 3) := by decide +kernel
theorem dX1_init_57 : decode cX1_init 57 = .ok (.lrem, 1) := by decide +kernel
theorem dX1_init_58 : decode cX1_init 58 = .ok (.l2i, 1) := by decide +kernel
theorem dX1_init_59 : decode cX1_init 59 = .ok (.putfield 39, 3) := by decide +kernel
theorem dX1_init_62 : decode cX1_init 62 = .ok (.aload_n 0, 1) := by decide +kernel
theorem dX1_init_63 : decode cX1_init 63 = .ok (.lload 6, 2) := by decide +kernel
theorem dX1_init_65 : decode cX1_init 65 = .ok (.ldc2_w 37, 3) := by decide +kernel
theorem dX1_init_68 : decode cX1_init 68 = .ok (.lrem, 1) := by decide +kernel
theorem dX1_init_69 : decode cX1_init 69 = .ok (.l2i, 1) := by decide +kernel
theorem dX1_init_70 : decode cX1_init 70 = .ok (.putfield 42, 3) := by decide +kernel
theorem dX1_init_73 : decode cX1_init 73 = .ok (.return_, 1) := by decide +kernel
theorem dX1_isKind_0 : decode cX1_isKind 0 = .ok (.iload_n 0, 1) := by decide +kernel
theorem dX1_isKind_1 : decode cX1_isKind 1 = .ok (.ifCond .lt 15, 3) := by decide +kernel
theorem dX1_isKind_4 : decode cX1_isKind 4 = .ok (.iload_n 0, 1) := by decide +kernel
theorem dX1_isKind_5 : decode cX1_isKind 5 = .ok (.getstatic 45, 3) := by decide +kernel
theorem dX1_isKind_8 : decode cX1_isKind 8 = .ok (.arraylength, 1) := by decide +kernel
theorem dX1_isKind_9 : decode cX1_isKind 9 = .ok (.if_icmp .ge 7, 3) := by decide +kernel
theorem dX1_isKind_12 : decode cX1_isKind 12 = .ok (.iconst 1, 1) := by decide +kernel
theorem dX1_isKind_13 : decode cX1_isKind 13 = .ok (.goto 4, 3) := by decide +kernel
theorem dX1_isKind_16 : decode cX1_isKind 16 = .ok (.iconst 0, 1) := by decide +kernel
theorem dX1_isKind_17 : decode cX1_isKind 17 = .ok (.ireturn, 1) := by decide +kernel
theorem dX1_isOf_0 : decode cX1_isOf 0 = .ok (.aload_n 0, 1) := by decide +kernel
theorem dX1_isOf_1 : decode cX1_isOf 1 = .ok (.getfield 18, 3) := by decide +kernel
theorem dX1_isOf_4 : decode cX1_isOf 4 = .ok (.getfield 49, 3) := by decide +kernel
theorem dX1_isOf_7 : decode cX1_isOf 7 = .ok (.aload_n 1, 1) := by decide +kernel
theorem dX1_isOf_8 : decode cX1_isOf 8 = .ok (.getfield 49, 3) := by decide +kernel
theorem dX1_isOf_11 : decode cX1_isOf 11 = .ok (.if_icmp .ne 7, 3) := by decide +kernel
theorem dX1_isOf_14 : decode cX1_isOf 14 = .ok (.iconst 1, 1) := by decide +kernel
theorem dX1_isOf_15 : decode cX1_isOf 15 = .ok (.goto 4, 3) := by decide +kernel
theorem dX1_isOf_18 : decode cX1_isOf 18 = .ok (.iconst 0, 1) := by decide +kernel
theorem dX1_isOf_19 : decode cX1_isOf 19 = .ok (.ireturn, 1) := by decide +kernel
theorem dX1_has_0 : decode cX1_has 0 = .ok (.aload_n 0, 1) := by decide +kernel
theorem dX1_has_1 : decode cX1_has 1 = .ok (.getfield 11, 3) := by decide +kernel
theorem dX1_has_4 : decode cX1_has 4 = .ok (.iconst 2, 1) := by decide +kernel
theorem dX1_has_5 : decode cX1_has 5 = .ok (.if_icmp .eq 22, 3) := by decide +kernel
theorem dX1_has_8 : decode cX1_has 8 = .ok (.iload_n 1, 1) := by decide +kernel
theorem dX1_has_9 : decode cX1_has 9 = .ok (.aload_n 0, 1) := by decide +kernel
theorem dX1_has_10 : decode cX1_has 10 = .ok (.getfield 22, 3) := by decide +kernel
theorem dX1_has_13 : decode cX1_has 13 = .ok (.aload_n 0, 1) := by decide +kernel
theorem dX1_has_14 : decode cX1_has 14 = .ok (.getfield 25, 3) := by decide +kernel
theorem dX1_has_17 : decode cX1_has 17 = .ok (.invokestatic 54, 3) := by decide +kernel
theorem dX1_has_20 : decode cX1_has 20 = .ok (.ifCond .eq 7, 3) := by decide +kernel
theorem dX1_has_23 : decode cX1_has 23 = .ok (.iconst 1, 1) := by decide +kernel
theorem dX1_has_24 : decode cX1_has 24 = .ok (.goto 4, 3) := by decide +kernel
theorem dX1_has_27 : decode cX1_has 27 = .ok (.iconst 0, 1) := by decide +kernel
theorem dX1_has_28 : decode cX1_has 28 = .ok (.ireturn, 1) := by decide +kernel
theorem dX1_isUnder_0 : decode cX1_isUnder 0 = .ok (.aload_n 0, 1) := by decide +kernel
theorem dX1_isUnder_1 : decode cX1_isUnder 1 = .ok (.getfield 15, 3) := by decide +kernel
theorem dX1_isUnder_4 : decode cX1_isUnder 4 = .ok (.istore_n 2, 1) := by decide +kernel
theorem dX1_isUnder_5 : decode cX1_isUnder 5 = .ok (.iconst 0, 1) := by decide +kernel
theorem dX1_isUnder_6 : decode cX1_isUnder 6 = .ok (.istore_n 3, 1) := by decide +kernel
theorem dX1_isUnder_7 : decode cX1_isUnder 7 = .ok (.iload_n 3, 1) := by decide +kernel
theorem dX1_isUnder_8 : decode cX1_isUnder 8 = .ok (.getstatic 45, 3) := by decide +kernel
theorem dX1_isUnder_11 : decode cX1_isUnder 11 = .ok (.arraylength, 1) := by decide +kernel
theorem dX1_isUnder_12 : decode cX1_isUnder 12 = .ok (.if_icmp .ge 27, 3) := by decide +kernel
theorem dX1_isUnder_15 : decode cX1_isUnder 15 = .ok (.iload_n 2, 1) := by decide +kernel
theorem dX1_isUnder_16 : decode cX1_isUnder 16 = .ok (.invokestatic 58, 3) := by decide +kernel
theorem dX1_isUnder_19 : decode cX1_isUnder 19 = .ok (.ifCond .eq 20, 3) := by decide +kernel
theorem dX1_isUnder_22 : decode cX1_isUnder 22 = .ok (.iload_n 2, 1) := by decide +kernel
theorem dX1_isUnder_23 : decode cX1_isUnder 23 = .ok (.iload_n 1, 1) := by decide +kernel
theorem dX1_isUnder_24 : decode cX1_isUnder 24 = .ok (.if_icmp .eq 15, 3) := by decide +kernel
theorem dX1_isUnder_27 : decode cX1_isUnder 27 = .ok (.getstatic 45, 3) := by decide +kernel
theorem dX1_isUnder_30 : decode cX1_isUnder 30 = .ok (.iload_n 2, 1) := by decide +kernel
theorem dX1_isUnder_31 : decode cX1_isUnder 31 = .ok (.iaload, 1) := by decide +kernel
theorem dX1_isUnder_32 : decode cX1_isUnder 32 = .ok (.istore_n 2, 1) := by decide +kernel
theorem dX1_isUnder_33 : decode cX1_isUnder 33 = .ok (.iinc 3 1, 3) := by decide +kernel
theorem dX1_isUnder_36 : decode cX1_isUnder 36 = .ok (.goto (-29), 3) := by decide +kernel
theorem dX1_isUnder_39 : decode cX1_isUnder 39 = .ok (.iload_n 2, 1) := by decide +kernel
theorem dX1_isUnder_40 : decode cX1_isUnder 40 = .ok (.iload_n 1, 1) := by decide +kernel
theorem dX1_isUnder_41 : decode cX1_isUnder 41 = .ok (.if_icmp .ne 7, 3) := by decide +kernel
theorem dX1_isUnder_44 : decode cX1_isUnder 44 = .ok (.iconst 1, 1) := by decide +kernel
theorem dX1_isUnder_45 : decode cX1_isUnder 45 = .ok (.goto 4, 3) := by decide +kernel
theorem dX1_isUnder_48 : decode cX1_isUnder 48 = .ok (.iconst 0, 1) := by decide +kernel
theorem dX1_isUnder_49 : decode cX1_isUnder 49 = .ok (.ireturn, 1) := by decide +kernel
theorem dX1_loggedHours_0 : decode cX1_loggedHours 0 = .ok (.aload_n 0, 1) := by decide +kernel
theorem dX1_loggedHours_1 : decode cX1_loggedHours 1 = .ok (.getfield 11, 3) := by decide +kernel
theorem dX1_loggedHours_4 : decode cX1_loggedHours 4 = .ok (.iconst 2, 1) := by decide +kernel
theorem dX1_loggedHours_5 : decode cX1_loggedHours 5 = .ok (.if_icmp .ne 5, 3) := by decide +kernel
theorem dX1_loggedHours_8 : decode cX1_loggedHours 8 = .ok (.iconst 0, 1) := by decide +kernel
theorem dX1_loggedHours_9 : decode cX1_loggedHours 9 = .ok (.ireturn, 1) := by decide +kernel
theorem dX1_loggedHours_10 : decode cX1_loggedHours 10 = .ok (.aload_n 0, 1) := by decide +kernel
theorem dX1_loggedHours_11 : decode cX1_loggedHours 11 = .ok (.getfield 25, 3) := by decide +kernel
theorem dX1_loggedHours_14 : decode cX1_loggedHours 14 = .ok (.aload_n 0, 1) := by decide +kernel
theorem dX1_loggedHours_15 : decode cX1_loggedHours 15 = .ok (.getfield 18, 3) := by decide +kernel
theorem dX1_loggedHours_18 : decode cX1_loggedHours 18 = .ok (.getfield 62, 3) := by decide +kernel
theorem dX1_loggedHours_21 : decode cX1_loggedHours 21 = .ok (.iconst 1, 1) := by decide +kernel
theorem dX1_loggedHours_22 : decode cX1_loggedHours 22 = .ok (.isub, 1) := by decide +kernel
theorem dX1_loggedHours_23 : decode cX1_loggedHours 23 = .ok (.invokestatic 65, 3) := by decide +kernel
theorem dX1_loggedHours_26 : decode cX1_loggedHours 26 = .ok (.aload_n 0, 1) := by decide +kernel
theorem dX1_loggedHours_27 : decode cX1_loggedHours 27 = .ok (.getfield 22, 3) := by decide +kernel
theorem dX1_loggedHours_30 : decode cX1_loggedHours 30 = .ok (.isub, 1) := by decide +kernel
theorem dX1_loggedHours_31 : decode cX1_loggedHours 31 = .ok (.iconst 1, 1) := by decide +kernel
theorem dX1_loggedHours_32 : decode cX1_loggedHours 32 = .ok (.iadd, 1) := by decide +kernel
theorem dX1_loggedHours_33 : decode cX1_loggedHours 33 = .ok (.iconst 0, 1) := by decide +kernel
theorem dX1_loggedHours_34 : decode cX1_loggedHours 34 = .ok (.invokestatic 71, 3) := by decide +kernel
theorem dX1_loggedHours_37 : decode cX1_loggedHours 37 = .ok (.ireturn, 1) := by decide +kernel
theorem dX1_payFor_0 : decode cX1_payFor 0 = .ok (.aload_n 0, 1) := by decide +kernel
theorem dX1_payFor_1 : decode cX1_payFor 1 = .ok (.getfield 15, 3) := by decide +kernel
theorem dX1_payFor_4 : decode cX1_payFor 4 = .ok (.tableswitch 84 1 5 #[36, 42, 54, 64, 66], 36) := by decide +kernel
theorem dX1_payFor_40 : decode cX1_payFor 40 = .ok (.aload_n 0, 1) := by decide +kernel
theorem dX1_payFor_41 : decode cX1_payFor 41 = .ok (.aload_n 1, 1) := by decide +kernel
theorem dX1_payFor_42 : decode cX1_payFor 42 = .ok (.invokevirtual 74, 3) := by decide +kernel
theorem dX1_payFor_45 : decode cX1_payFor 45 = .ok (.lreturn, 1) := by decide +kernel
theorem dX1_payFor_46 : decode cX1_payFor 46 = .ok (.aload_n 0, 1) := by decide +kernel
theorem dX1_payFor_47 : decode cX1_payFor 47 = .ok (.getfield 34, 3) := by decide +kernel
theorem dX1_payFor_50 : decode cX1_payFor 50 = .ok (.i2l, 1) := by decide +kernel
theorem dX1_payFor_51 : decode cX1_payFor 51 = .ok (.aload_n 0, 1) := by decide +kernel
theorem dX1_payFor_52 : decode cX1_payFor 52 = .ok (.aload_n 1, 1) := by decide +kernel
theorem dX1_payFor_53 : decode cX1_payFor 53 = .ok (.invokevirtual 74, 3) := by decide +kernel
theorem dX1_payFor_56 : decode cX1_payFor 56 = .ok (.ladd, 1) := by decide +kernel
theorem dX1_payFor_57 : decode cX1_payFor 57 = .ok (.lreturn, 1) := by decide +kernel
theorem dX1_payFor_58 : decode cX1_payFor 58 = .ok (.ldc2_w 78, 3) := by decide +kernel
theorem dX1_payFor_61 : decode cX1_payFor 61 = .ok (.aload_n 0, 1) := by decide +kernel
theorem dX1_payFor_62 : decode cX1_payFor 62 = .ok (.aload_n 1, 1) := by decide +kernel
theorem dX1_payFor_63 : decode cX1_payFor 63 = .ok (.invokevirtual 80, 3) := by decide +kernel
theorem dX1_payFor_66 : decode cX1_payFor 66 = .ok (.lmul, 1) := by decide +kernel
theorem dX1_payFor_67 : decode cX1_payFor 67 = .ok (.lreturn, 1) := by decide +kernel
theorem dX1_payFor_68 : decode cX1_payFor 68 = .ok (.lconst 0, 1) := by decide +kernel
theorem dX1_payFor_69 : decode cX1_payFor 69 = .ok (.lreturn, 1) := by decide +kernel
theorem dX1_payFor_70 : decode cX1_payFor 70 = .ok (.aload_n 0, 1) := by decide +kernel
theorem dX1_payFor_71 : decode cX1_payFor 71 = .ok (.getfield 11, 3) := by decide +kernel
theorem dX1_payFor_74 : decode cX1_payFor 74 = .ok (.iconst 1, 1) := by decide +kernel
theorem dX1_payFor_75 : decode cX1_payFor 75 = .ok (.if_icmp .ne 11, 3) := by decide +kernel
theorem dX1_payFor_78 : decode cX1_payFor 78 = .ok (.aload_n 0, 1) := by decide +kernel
theorem dX1_payFor_79 : decode cX1_payFor 79 = .ok (.aload_n 1, 1) := by decide +kernel
theorem dX1_payFor_80 : decode cX1_payFor 80 = .ok (.invokevirtual 80, 3) := by decide +kernel
theorem dX1_payFor_83 : decode cX1_payFor 83 = .ok (.goto 4, 3) := by decide +kernel
theorem dX1_payFor_86 : decode cX1_payFor 86 = .ok (.lconst 0, 1) := by decide +kernel
theorem dX1_payFor_87 : decode cX1_payFor 87 = .ok (.lreturn, 1) := by decide +kernel
theorem dX1_payFor_88 : decode cX1_payFor 88 = .ok (.aload_n 0, 1) := by decide +kernel
theorem dX1_payFor_89 : decode cX1_payFor 89 = .ok (.aload_n 1, 1) := by decide +kernel
theorem dX1_payFor_90 : decode cX1_payFor 90 = .ok (.invokevirtual 80, 3) := by decide +kernel
theorem dX1_payFor_93 : decode cX1_payFor 93 = .ok (.lreturn, 1) := by decide +kernel
theorem dX1_voyagePay_0 : decode cX1_voyagePay 0 = .ok (.aload_n 1, 1) := by decide +kernel
theorem dX1_voyagePay_1 : decode cX1_voyagePay 1 = .ok (.getfield 83, 3) := by decide +kernel
theorem dX1_voyagePay_4 : decode cX1_voyagePay 4 = .ok (.aload_n 0, 1) := by decide +kernel
theorem dX1_voyagePay_5 : decode cX1_voyagePay 5 = .ok (.getfield 42, 3) := by decide +kernel
theorem dX1_voyagePay_8 : decode cX1_voyagePay 8 = .ok (.isub, 1) := by decide +kernel
theorem dX1_voyagePay_9 : decode cX1_voyagePay 9 = .ok (.i2l, 1) := by decide +kernel
theorem dX1_voyagePay_10 : decode cX1_voyagePay 10 = .ok (.lstore_n 2, 1) := by decide +kernel
theorem dX1_voyagePay_11 : decode cX1_voyagePay 11 = .ok (.aload_n 0, 1) := by decide +kernel
theorem dX1_voyagePay_12 : decode cX1_voyagePay 12 = .ok (.getfield 34, 3) := by decide +kernel
theorem dX1_voyagePay_15 : decode cX1_voyagePay 15 = .ok (.i2l, 1) := by decide +kernel
theorem dX1_voyagePay_16 : decode cX1_voyagePay 16 = .ok (.lload_n 2, 1) := by decide +kernel
theorem dX1_voyagePay_17 : decode cX1_voyagePay 17 = .ok (.lconst 0, 1) := by decide +kernel
theorem dX1_voyagePay_18 : decode cX1_voyagePay 18 = .ok (.lcmp, 1) := by decide +kernel
theorem dX1_voyagePay_19 : decode cX1_voyagePay 19 = .ok (.ifCond .le 13, 3) := by decide +kernel
theorem dX1_voyagePay_22 : decode cX1_voyagePay 22 = .ok (.lload_n 2, 1) := by decide +kernel
theorem dX1_voyagePay_23 : decode cX1_voyagePay 23 = .ok (.aload_n 0, 1) := by decide +kernel
theorem dX1_voyagePay_24 : decode cX1_voyagePay 24 = .ok (.getfield 39, 3) := by decide +kernel
theorem dX1_voyagePay_27 : decode cX1_voyagePay 27 = .ok (.i2l, 1) := by decide +kernel
theorem dX1_voyagePay_28 : decode cX1_voyagePay 28 = .ok (.lmul, 1) := by decide +kernel
theorem dX1_voyagePay_29 : decode cX1_voyagePay 29 = .ok (.goto 12, 3) := by decide +kernel
theorem dX1_voyagePay_32 : decode cX1_voyagePay 32 = .ok (.lload_n 2, 1) := by decide +kernel
theorem dX1_voyagePay_33 : decode cX1_voyagePay 33 = .ok (.aload_n 0, 1) := by decide +kernel
theorem dX1_voyagePay_34 : decode cX1_voyagePay 34 = .ok (.getfield 39, 3) := by decide +kernel
theorem dX1_voyagePay_37 : decode cX1_voyagePay 37 = .ok (.iconst 2, 1) := by decide +kernel
theorem dX1_voyagePay_38 : decode cX1_voyagePay 38 = .ok (.idiv, 1) := by decide +kernel
theorem dX1_voyagePay_39 : decode cX1_voyagePay 39 = .ok (.i2l, 1) := by decide +kernel
theorem dX1_voyagePay_40 : decode cX1_voyagePay 40 = .ok (.lmul, 1) := by decide +kernel
theorem dX1_voyagePay_41 : decode cX1_voyagePay 41 = .ok (.ladd, 1) := by decide +kernel
theorem dX1_voyagePay_42 : decode cX1_voyagePay 42 = .ok (.lreturn, 1) := by decide +kernel
theorem dX1_timePay_0 : decode cX1_timePay 0 = .ok (.aload_n 0, 1) := by decide +kernel
theorem dX1_timePay_1 : decode cX1_timePay 1 = .ok (.getfield 39, 3) := by decide +kernel
theorem dX1_timePay_4 : decode cX1_timePay 4 = .ok (.i2l, 1) := by decide +kernel
theorem dX1_timePay_5 : decode cX1_timePay 5 = .ok (.aload_n 1, 1) := by decide +kernel
theorem dX1_timePay_6 : decode cX1_timePay 6 = .ok (.getfield 83, 3) := by decide +kernel
theorem dX1_timePay_9 : decode cX1_timePay 9 = .ok (.aload_n 1, 1) := by decide +kernel
theorem dX1_timePay_10 : decode cX1_timePay 10 = .ok (.getfield 88, 3) := by decide +kernel
theorem dX1_timePay_13 : decode cX1_timePay 13 = .ok (.iadd, 1) := by decide +kernel
theorem dX1_timePay_14 : decode cX1_timePay 14 = .ok (.i2l, 1) := by decide +kernel
theorem dX1_timePay_15 : decode cX1_timePay 15 = .ok (.lmul, 1) := by decide +kernel
theorem dX1_timePay_16 : decode cX1_timePay 16 = .ok (.lreturn, 1) := by decide +kernel
theorem dX2_init_0 : decode cX2_init 0 = .ok (.aload_n 0, 1) := by decide +kernel
theorem dX2_init_1 : decode cX2_init 1 = .ok (.invokespecial 1, 3) := by decide +kernel
theorem dX2_init_4 : decode cX2_init 4 = .ok (.aload_n 0, 1) := by decide +kernel
theorem dX2_init_5 : decode cX2_init 5 = .ok (.aload_n 1, 1) := by decide +kernel
theorem dX2_init_6 : decode cX2_init 6 = .ok (.putfield 7, 3) := by decide +kernel
theorem dX2_init_9 : decode cX2_init 9 = .ok (.aload_n 0, 1) := by decide +kernel
theorem dX2_init_10 : decode cX2_init 10 = .ok (.aload_n 2, 1) := by decide +kernel
theorem dX2_init_11 : decode cX2_init 11 = .ok (.putfield 13, 3) := by decide +kernel
theorem dX2_init_14 : decode cX2_init 14 = .ok (.aload_n 0, 1) := by decide +kernel
theorem dX2_init_15 : decode cX2_init 15 = .ok (.iload_n 3, 1) := by decide +kernel
theorem dX2_init_16 : decode cX2_init 16 = .ok (.putfield 16, 3) := by decide +kernel
theorem dX2_init_19 : decode cX2_init 19 = .ok (.aload_n 0, 1) := by decide +kernel
theorem dX2_init_20 : decode cX2_init 20 = .ok (.iload 4, 2) := by decide +kernel
theorem dX2_init_22 : decode cX2_init 22 = .ok (.putfield 20, 3) := by decide +kernel
theorem dX2_init_25 : decode cX2_init 25 = .ok (.aload_n 0, 1) := by decide +kernel
theorem dX2_init_26 : decode cX2_init 26 = .ok (.iload 5, 2) := by decide +kernel
theorem dX2_init_28 : decode cX2_init 28 = .ok (.putfield 23, 3) := by decide +kernel
theorem dX2_init_31 : decode cX2_init 31 = .ok (.aload_n 0, 1) := by decide +kernel
theorem dX2_init_32 : decode cX2_init 32 = .ok (.iload 6, 2) := by decide +kernel
theorem dX2_init_34 : decode cX2_init 34 = .ok (.putfield 26, 3) := by decide +kernel
theorem dX2_init_37 : decode cX2_init 37 = .ok (.return_, 1) := by decide +kernel
theorem dX3_init_0 : decode cX3_init 0 = .ok (.aload_n 0, 1) := by decide +kernel
theorem dX3_init_1 : decode cX3_init 1 = .ok (.invokespecial 3, 3) := by decide +kernel
theorem dX3_init_4 : decode cX3_init 4 = .ok (.aload_n 0, 1) := by decide +kernel
theorem dX3_init_5 : decode cX3_init 5 = .ok (.bipush 8, 2) := by decide +kernel
theorem dX3_init_7 : decode cX3_init 7 = .ok (.newarray .int, 2) := by decide +kernel
theorem dX3_init_9 : decode cX3_init 9 = .ok (.putfield 9, 3) := by decide +kernel
theorem dX3_init_12 : decode cX3_init 12 = .ok (.aload_n 0, 1) := by decide +kernel
theorem dX3_init_13 : decode cX3_init 13 = .ok (.iload_n 1, 1) := by decide +kernel
theorem dX3_init_14 : decode cX3_init 14 = .ok (.putfield 15, 3) := by decide +kernel
theorem dX3_init_17 : decode cX3_init 17 = .ok (.aload_n 0, 1) := by decide +kernel
theorem dX3_init_18 : decode cX3_init 18 = .ok (.iload_n 2, 1) := by decide +kernel
theorem dX3_init_19 : decode cX3_init 19 = .ok (.putfield 19, 3) := by decide +kernel
theorem dX3_init_22 : decode cX3_init 22 = .ok (.aload_n 0, 1) := by decide +kernel
theorem dX3_init_23 : decode cX3_init 23 = .ok (.iload_n 3, 1) := by decide +kernel
theorem dX3_init_24 : decode cX3_init 24 = .ok (.putfield 22, 3) := by decide +kernel
theorem dX3_init_27 : decode cX3_init 27 = .ok (.return_, 1) := by decide +kernel
theorem dX3_milesTo_0 : decode cX3_milesTo 0 = .ok (.aload_n 1, 1) := by decide +kernel
theorem dX3_milesTo_1 : decode cX3_milesTo 1 = .ok (.getfield 15, 3) := by decide +kernel
theorem dX3_milesTo_4 : decode cX3_milesTo 4 = .ok (.istore_n 2, 1) := by decide +kernel
theorem dX3_milesTo_5 : decode cX3_milesTo 5 = .ok (.iload_n 2, 1) := by decide +kernel
theorem dX3_milesTo_6 : decode cX3_milesTo 6 = .ok (.ifCond .lt 18, 3) := by decide +kernel
theorem dX3_milesTo_9 : decode cX3_milesTo 9 = .ok (.iload_n 2, 1) := by decide +kernel
theorem dX3_milesTo_10 : decode cX3_milesTo 10 = .ok (.bipush 8, 2) := by decide +kernel
theorem dX3_milesTo_12 : decode cX3_milesTo 12 = .ok (.if_icmp .ge 12, 3) := by decide +kernel
theorem dX3_milesTo_15 : decode cX3_milesTo 15 = .ok (.aload_n 0, 1) := by decide +kernel
theorem dX3_milesTo_16 : decode cX3_milesTo 16 = .ok (.getfield 9, 3) := by decide +kernel
theorem dX3_milesTo_19 : decode cX3_milesTo 19 = .ok (.iload_n 2, 1) := by decide +kernel
theorem dX3_milesTo_20 : decode cX3_milesTo 20 = .ok (.iaload, 1) := by decide +kernel
theorem dX3_milesTo_21 : decode cX3_milesTo 21 = .ok (.goto 4, 3) := by decide +kernel
theorem dX3_milesTo_24 : decode cX3_milesTo 24 = .ok (.iconst 0, 1) := by decide +kernel
theorem dX3_milesTo_25 : decode cX3_milesTo 25 = .ok (.ireturn, 1) := by decide +kernel
theorem dX3_putMiles_0 : decode cX3_putMiles 0 = .ok (.aload_n 1, 1) := by decide +kernel
theorem dX3_putMiles_1 : decode cX3_putMiles 1 = .ok (.getfield 15, 3) := by decide +kernel
theorem dX3_putMiles_4 : decode cX3_putMiles 4 = .ok (.istore_n 3, 1) := by decide +kernel
theorem dX3_putMiles_5 : decode cX3_putMiles 5 = .ok (.iload_n 3, 1) := by decide +kernel
theorem dX3_putMiles_6 : decode cX3_putMiles 6 = .ok (.ifCond .lt 16, 3) := by decide +kernel
theorem dX3_putMiles_9 : decode cX3_putMiles 9 = .ok (.iload_n 3, 1) := by decide +kernel
theorem dX3_putMiles_10 : decode cX3_putMiles 10 = .ok (.bipush 8, 2) := by decide +kernel
theorem dX3_putMiles_12 : decode cX3_putMiles 12 = .ok (.if_icmp .ge 10, 3) := by decide +kernel
theorem dX3_putMiles_15 : decode cX3_putMiles 15 = .ok (.aload_n 0, 1) := by decide +kernel
theorem dX3_putMiles_16 : decode cX3_putMiles 16 = .ok (.getfield 9, 3) := by decide +kernel
theorem dX3_putMiles_19 : decode cX3_putMiles 19 = .ok (.iload_n 3, 1) := by decide +kernel
theorem dX3_putMiles_20 : decode cX3_putMiles 20 = .ok (.iload_n 2, 1) := by decide +kernel
theorem dX3_putMiles_21 : decode cX3_putMiles 21 = .ok (.iastore, 1) := by decide +kernel
theorem dX3_putMiles_22 : decode cX3_putMiles 22 = .ok (.return_, 1) := by decide +kernel
theorem dX3_lacksWayTo_0 : decode cX3_lacksWayTo 0 = .ok (.aload_n 1, 1) := by decide +kernel
theorem dX3_lacksWayTo_1 : decode cX3_lacksWayTo 1 = .ok (.getfield 15, 3) := by decide +kernel
theorem dX3_lacksWayTo_4 : decode cX3_lacksWayTo 4 = .ok (.aload_n 0, 1) := by decide +kernel
theorem dX3_lacksWayTo_5 : decode cX3_lacksWayTo 5 = .ok (.getfield 15, 3) := by decide +kernel
theorem dX3_lacksWayTo_8 : decode cX3_lacksWayTo 8 = .ok (.if_icmp .eq 15, 3) := by decide +kernel
theorem dX3_lacksWayTo_11 : decode cX3_lacksWayTo 11 = .ok (.aload_n 0, 1) := by decide +kernel
theorem dX3_lacksWayTo_12 : decode cX3_lacksWayTo 12 = .ok (.aload_n 1, 1) := by decide +kernel
theorem dX3_lacksWayTo_13 : decode cX3_lacksWayTo 13 = .ok (.invokevirtual 25, 3) := by decide +kernel
theorem dX3_lacksWayTo_16 : decode cX3_lacksWayTo 16 = .ok (.ifCond .ne 7, 3) := by decide +kernel
theorem dX3_lacksWayTo_19 : decode cX3_lacksWayTo 19 = .ok (.iconst 1, 1) := by decide +kernel
theorem dX3_lacksWayTo_20 : decode cX3_lacksWayTo 20 = .ok (.goto 4, 3) := by decide +kernel
theorem dX3_lacksWayTo_23 : decode cX3_lacksWayTo 23 = .ok (.iconst 0, 1) := by decide +kernel
theorem dX3_lacksWayTo_24 : decode cX3_lacksWayTo 24 = .ok (.ireturn, 1) := by decide +kernel
theorem dX4_init_0 : decode cX4_init 0 = .ok (.aload_n 0, 1) := by decide +kernel
theorem dX4_init_1 : decode cX4_init 1 = .ok (.invokespecial 3, 3) := by decide +kernel
theorem dX4_init_4 : decode cX4_init 4 = .ok (.return_, 1) := by decide +kernel
theorem dX4_reckon_0 : decode cX4_reckon 0 = .ok (.aload 4, 2) := by decide +kernel
theorem dX4_reckon_2 : decode cX4_reckon 2 = .ok (.getfield 9, 3) := by decide +kernel
theorem dX4_reckon_5 : decode cX4_reckon 5 = .ok (.astore 5, 2) := by decide +kernel
theorem dX4_reckon_7 : decode cX4_reckon 7 = .ok (.aload_n 2, 1) := by decide +kernel
theorem dX4_reckon_8 : decode cX4_reckon 8 = .ok (.aload 5, 2) := by decide +kernel
theorem dX4_reckon_10 : decode cX4_reckon 10 = .ok (.invokevirtual 15, 3) := by decide +kernel
theorem dX4_reckon_13 : decode cX4_reckon 13 = .ok (.istore 6, 2) := by decide +kernel
theorem dX4_reckon_15 : decode cX4_reckon 15 = .ok (.aload 5, 2) := by decide +kernel
theorem dX4_reckon_17 : decode cX4_reckon 17 = .ok (.aload 4, 2) := by decide +kernel
theorem dX4_reckon_19 : decode cX4_reckon 19 = .ok (.getfield 21, 3) := by decide +kernel
theorem dX4_reckon_22 : decode cX4_reckon 22 = .ok (.invokevirtual 15, 3) := by decide +kernel
theorem dX4_reckon_25 : decode cX4_reckon 25 = .ok (.istore 7, 2) := by decide +kernel
theorem dX4_reckon_27 : decode cX4_reckon 27 = .ok (.aload_n 1, 1) := by decide +kernel
theorem dX4_reckon_28 : decode cX4_reckon 28 = .ok (.iload 6, 2) := by decide +kernel
theorem dX4_reckon_30 : decode cX4_reckon 30 = .ok (.invokevirtual 24, 3) := by decide +kernel
theorem dX4_reckon_33 : decode cX4_reckon 33 = .ok (.istore 8, 2) := by decide +kernel
theorem dX4_reckon_35 : decode cX4_reckon 35 = .ok (.aload_n 1, 1) := by decide +kernel
theorem dX4_reckon_36 : decode cX4_reckon 36 = .ok (.iload 7, 2) := by decide +kernel
theorem dX4_reckon_38 : decode cX4_reckon 38 = .ok (.invokevirtual 24, 3) := by decide +kernel
theorem dX4_reckon_41 : decode cX4_reckon 41 = .ok (.istore 9, 2) := by decide +kernel
theorem dX4_reckon_43 : decode cX4_reckon 43 = .ok (.aload 4, 2) := by decide +kernel
theorem dX4_reckon_45 : decode cX4_reckon 45 = .ok (.getfield 30, 3) := by decide +kernel
theorem dX4_reckon_48 : decode cX4_reckon 48 = .ok (.aload 5, 2) := by decide +kernel
theorem dX4_reckon_50 : decode cX4_reckon 50 = .ok (.getfield 34, 3) := by decide +kernel
theorem dX4_reckon_53 : decode cX4_reckon 53 = .ok (.invokestatic 37, 3) := by decide +kernel
theorem dX4_reckon_56 : decode cX4_reckon 56 = .ok (.istore 10, 2) := by decide +kernel
theorem dX4_reckon_58 : decode cX4_reckon 58 = .ok (.aload 4, 2) := by decide +kernel
theorem dX4_reckon_60 : decode cX4_reckon 60 = .ok (.getfield 30, 3) := by decide +kernel
theorem dX4_reckon_63 : decode cX4_reckon 63 = .ok (.aload 4, 2) := by decide +kernel
theorem dX4_reckon_65 : decode cX4_reckon 65 = .ok (.getfield 21, 3) := by decide +kernel
theorem dX4_reckon_68 : decode cX4_reckon 68 = .ok (.getfield 34, 3) := by decide +kernel
theorem dX4_reckon_71 : decode cX4_reckon 71 = .ok (.invokestatic 37, 3) := by decide +kernel
theorem dX4_reckon_74 : decode cX4_reckon 74 = .ok (.istore 11, 2) := by decide +kernel
theorem dX4_reckon_76 : decode cX4_reckon 76 = .ok (.aload_n 0, 1) := by decide +kernel
theorem dX4_reckon_77 : decode cX4_reckon 77 = .ok (.iload_n 3, 1) := by decide +kernel
theorem dX4_reckon_78 : decode cX4_reckon 78 = .ok (.aload_n 1, 1) := by decide +kernel
theorem dX4_reckon_79 : decode cX4_reckon 79 = .ok (.iload 6, 2) := by decide +kernel
theorem dX4_reckon_81 : decode cX4_reckon 81 = .ok (.invokevirtual 41, 3) := by decide +kernel
theorem dX4_reckon_84 : decode cX4_reckon 84 = .ok (.iadd, 1) := by decide +kernel
theorem dX4_reckon_85 : decode cX4_reckon 85 = .ok (.aload 4, 2) := by decide +kernel
theorem dX4_reckon_87 : decode cX4_reckon 87 = .ok (.getfield 44, 3) := by decide +kernel
theorem dX4_reckon_90 : decode cX4_reckon 90 = .ok (.invokestatic 47, 3) := by decide +kernel
theorem dX4_reckon_93 : decode cX4_reckon 93 = .ok (.putfield 52, 3) := by decide +kernel
theorem dX4_reckon_96 : decode cX4_reckon 96 = .ok (.aload_n 0, 1) := by decide +kernel
theorem dX4_reckon_97 : decode cX4_reckon 97 = .ok (.aload_n 0, 1) := by decide +kernel
theorem dX4_reckon_98 : decode cX4_reckon 98 = .ok (.getfield 52, 3) := by decide +kernel
theorem dX4_reckon_101 : decode cX4_reckon 101 = .ok (.iload 10, 2) := by decide +kernel
theorem dX4_reckon_103 : decode cX4_reckon 103 = .ok (.iadd, 1) := by decide +kernel
theorem dX4_reckon_104 : decode cX4_reckon 104 = .ok (.aload_n 1, 1) := by decide +kernel
theorem dX4_reckon_105 : decode cX4_reckon 105 = .ok (.iload 7, 2) := by decide +kernel
theorem dX4_reckon_107 : decode cX4_reckon 107 = .ok (.invokevirtual 41, 3) := by decide +kernel
theorem dX4_reckon_110 : decode cX4_reckon 110 = .ok (.iadd, 1) := by decide +kernel
theorem dX4_reckon_111 : decode cX4_reckon 111 = .ok (.iload 11, 2) := by decide +kernel
theorem dX4_reckon_113 : decode cX4_reckon 113 = .ok (.iadd, 1) := by decide +kernel
theorem dX4_reckon_114 : decode cX4_reckon 114 = .ok (.putfield 57, 3) := by decide +kernel
theorem dX4_reckon_117 : decode cX4_reckon 117 = .ok (.aload_n 0, 1) := by decide +kernel
theorem dX4_reckon_118 : decode cX4_reckon 118 = .ok (.iload 8, 2) := by decide +kernel
theorem dX4_reckon_120 : decode cX4_reckon 120 = .ok (.iload 9, 2) := by decide +kernel
theorem dX4_reckon_122 : decode cX4_reckon 122 = .ok (.iadd, 1) := by decide +kernel
theorem dX4_reckon_123 : decode cX4_reckon 123 = .ok (.putfield 60, 3) := by decide +kernel
theorem dX4_reckon_126 : decode cX4_reckon 126 = .ok (.aload_n 0, 1) := by decide +kernel
theorem dX4_reckon_127 : decode cX4_reckon 127 = .ok (.aload 4, 2) := by decide +kernel
theorem dX4_reckon_129 : decode cX4_reckon 129 = .ok (.getfield 63, 3) := by decide +kernel
theorem dX4_reckon_132 : decode cX4_reckon 132 = .ok (.i2l, 1) := by decide +kernel
theorem dX4_reckon_133 : decode cX4_reckon 133 = .ok (.aload 4, 2) := by decide +kernel
theorem dX4_reckon_135 : decode cX4_reckon 135 = .ok (.getfield 30, 3) := by decide +kernel
theorem dX4_reckon_138 : decode cX4_reckon 138 = .ok (.i2l, 1) := by decide +kernel
theorem dX4_reckon_139 : decode cX4_reckon 139 = .ok (.lmul, 1) := by decide +kernel
theorem dX4_reckon_140 : decode cX4_reckon 140 = .ok (.iload 8, 2) := by decide +kernel
theorem dX4_reckon_142 : decode cX4_reckon 142 = .ok (.i2l, 1) := by decide +kernel
theorem dX4_reckon_143 : decode cX4_reckon 143 = .ok (.aload_n 2, 1) := by decide +kernel
theorem dX4_reckon_144 : decode cX4_reckon 144 = .ok (.getfield 66, 3) := by decide +kernel
theorem dX4_reckon_147 : decode cX4_reckon 147 = .ok (.i2l, 1) := by decide +kernel
theorem dX4_reckon_148 : decode cX4_reckon 148 = .ok (.lmul, 1) := by decide +kernel
theorem dX4_reckon_149 : decode cX4_reckon 149 = .ok (.lsub, 1) := by decide +kernel
theorem dX4_reckon_150 : decode cX4_reckon 150 = .ok (.iload 9, 2) := by decide +kernel
theorem dX4_reckon_152 : decode cX4_reckon 152 = .ok (.i2l, 1) := by decide +kernel
theorem dX4_reckon_153 : decode cX4_reckon 153 = .ok (.aload 5, 2) := by decide +kernel
theorem dX4_reckon_155 : decode cX4_reckon 155 = .ok (.getfield 66, 3) := by decide +kernel
theorem dX4_reckon_158 : decode cX4_reckon 158 = .ok (.i2l, 1) := by decide +kernel
theorem dX4_reckon_159 : decode cX4_reckon 159 = .ok (.lmul, 1) := by decide +kernel
theorem dX4_reckon_160 : decode cX4_reckon 160 = .ok (.lsub, 1) := by decide +kernel
theorem dX4_reckon_161 : decode cX4_reckon 161 = .ok (.putfield 69, 3) := by decide +kernel
theorem dX4_reckon_164 : decode cX4_reckon 164 = .ok (.aload_n 0, 1) := by decide +kernel
theorem dX4_reckon_165 : decode cX4_reckon 165 = .ok (.aload_n 0, 1) := by decide +kernel
theorem dX4_reckon_166 : decode cX4_reckon 166 = .ok (.aload_n 1, 1) := by decide +kernel
theorem dX4_reckon_167 : decode cX4_reckon 167 = .ok (.aload_n 2, 1) := by decide +kernel
theorem dX4_reckon_168 : decode cX4_reckon 168 = .ok (.aload 4, 2) := by decide +kernel
theorem dX4_reckon_170 : decode cX4_reckon 170 = .ok (.iload 8, 2) := by decide +kernel
theorem dX4_reckon_172 : decode cX4_reckon 172 = .ok (.iload 9, 2) := by decide +kernel
theorem dX4_reckon_174 : decode cX4_reckon 174 = .ok (.invokevirtual 73, 3) := by decide +kernel
theorem dX4_reckon_177 : decode cX4_reckon 177 = .ok (.putfield 77, 3) := by decide +kernel
theorem dX4_reckon_180 : decode cX4_reckon 180 = .ok (.return_, 1) := by decide +kernel
theorem dX4_refusal_0 : decode cX4_refusal 0 = .ok (.aload_n 3, 1) := by decide +kernel
theorem dX4_refusal_1 : decode cX4_refusal 1 = .ok (.getfield 9, 3) := by decide +kernel
theorem dX4_refusal_4 : decode cX4_refusal 4 = .ok (.astore 6, 2) := by decide +kernel
theorem dX4_refusal_6 : decode cX4_refusal 6 = .ok (.aload_n 3, 1) := by decide +kernel
theorem dX4_refusal_7 : decode cX4_refusal 7 = .ok (.getfield 30, 3) := by decide +kernel
theorem dX4_refusal_10 : decode cX4_refusal 10 = .ok (.aload_n 1, 1) := by decide +kernel
theorem dX4_refusal_11 : decode cX4_refusal 11 = .ok (.getfield 80, 3) := by decide +kernel
theorem dX4_refusal_14 : decode cX4_refusal 14 = .ok (.if_icmp .le 5, 3) := by decide +kernel
theorem dX4_refusal_17 : decode cX4_refusal 17 = .ok (.iconst 1, 1) := by decide +kernel
theorem dX4_refusal_18 : decode cX4_refusal 18 = .ok (.ireturn, 1) := by decide +kernel
theorem dX4_refusal_19 : decode cX4_refusal 19 = .ok (.aload_n 2, 1) := by decide +kernel
theorem dX4_refusal_20 : decode cX4_refusal 20 = .ok (.aload 6, 2) := by decide +kernel
theorem dX4_refusal_22 : decode cX4_refusal 22 = .ok (.invokevirtual 83, 3) := by decide +kernel
theorem dX4_refusal_25 : decode cX4_refusal 25 = .ok (.ifCond .ne 15, 3) := by decide +kernel
theorem dX4_refusal_28 : decode cX4_refusal 28 = .ok (.aload 6, 2) := by decide +kernel
theorem dX4_refusal_30 : decode cX4_refusal 30 = .ok (.aload_n 3, 1) := by decide +kernel
theorem dX4_refusal_31 : decode cX4_refusal 31 = .ok (.getfield 21, 3) := by decide +kernel
theorem dX4_refusal_34 : decode cX4_refusal 34 = .ok (.invokevirtual 83, 3) := by decide +kernel
theorem dX4_refusal_37 : decode cX4_refusal 37 = .ok (.ifCond .eq 5, 3) := by decide +kernel
theorem dX4_refusal_40 : decode cX4_refusal 40 = .ok (.iconst 2, 1) := by decide +kernel
theorem dX4_refusal_41 : decode cX4_refusal 41 = .ok (.ireturn, 1) := by decide +kernel
theorem dX4_refusal_42 : decode cX4_refusal 42 = .ok (.aload_n 0, 1) := by decide +kernel
theorem dX4_refusal_43 : decode cX4_refusal 43 = .ok (.getfield 52, 3) := by decide +kernel
theorem dX4_refusal_46 : decode cX4_refusal 46 = .ok (.aload_n 3, 1) := by decide +kernel
theorem dX4_refusal_47 : decode cX4_refusal 47 = .ok (.getfield 87, 3) := by decide +kernel
theorem dX4_refusal_50 : decode cX4_refusal 50 = .ok (.if_icmp .le 5, 3) := by decide +kernel
theorem dX4_refusal_53 : decode cX4_refusal 53 = .ok (.iconst 3, 1) := by decide +kernel
theorem dX4_refusal_54 : decode cX4_refusal 54 = .ok (.ireturn, 1) := by decide +kernel
theorem dX4_refusal_55 : decode cX4_refusal 55 = .ok (.iload 4, 2) := by decide +kernel
theorem dX4_refusal_57 : decode cX4_refusal 57 = .ok (.aload_n 1, 1) := by decide +kernel
theorem dX4_refusal_58 : decode cX4_refusal 58 = .ok (.getfield 90, 3) := by decide +kernel
theorem dX4_refusal_61 : decode cX4_refusal 61 = .ok (.if_icmp .gt 12, 3) := by decide +kernel
theorem dX4_refusal_64 : decode cX4_refusal 64 = .ok (.iload 5, 2) := by decide +kernel
theorem dX4_refusal_66 : decode cX4_refusal 66 = .ok (.aload_n 1, 1) := by decide +kernel
theorem dX4_refusal_67 : decode cX4_refusal 67 = .ok (.getfield 90, 3) := by decide +kernel
theorem dX4_refusal_70 : decode cX4_refusal 70 = .ok (.if_icmp .le 5, 3) := by decide +kernel
theorem dX4_refusal_73 : decode cX4_refusal 73 = .ok (.iconst 4, 1) := by decide +kernel
theorem dX4_refusal_74 : decode cX4_refusal 74 = .ok (.ireturn, 1) := by decide +kernel
theorem dX4_refusal_75 : decode cX4_refusal 75 = .ok (.aload_n 2, 1) := by decide +kernel
theorem dX4_refusal_76 : decode cX4_refusal 76 = .ok (.iload 4, 2) := by decide +kernel
theorem dX4_refusal_78 : decode cX4_refusal 78 = .ok (.invokestatic 93, 3) := by decide +kernel
theorem dX4_refusal_81 : decode cX4_refusal 81 = .ok (.ifCond .ne 13, 3) := by decide +kernel
theorem dX4_refusal_84 : decode cX4_refusal 84 = .ok (.aload 6, 2) := by decide +kernel
theorem dX4_refusal_86 : decode cX4_refusal 86 = .ok (.iload 5, 2) := by decide +kernel
theorem dX4_refusal_88 : decode cX4_refusal 88 = .ok (.invokestatic 93, 3) := by decide +kernel
theorem dX4_refusal_91 : decode cX4_refusal 91 = .ok (.ifCond .eq 5, 3) := by decide +kernel
theorem dX4_refusal_94 : decode cX4_refusal 94 = .ok (.iconst 5, 1) := by decide +kernel
theorem dX4_refusal_95 : decode cX4_refusal 95 = .ok (.ireturn, 1) := by decide +kernel
theorem dX4_refusal_96 : decode cX4_refusal 96 = .ok (.aload_n 0, 1) := by decide +kernel
theorem dX4_refusal_97 : decode cX4_refusal 97 = .ok (.getfield 57, 3) := by decide +kernel
theorem dX4_refusal_100 : decode cX4_refusal 100 = .ok (.sipush 9999, 3) := by decide +kernel
theorem dX4_refusal_103 : decode cX4_refusal 103 = .ok (.if_icmp .le 6, 3) := by decide +kernel
theorem dX4_refusal_106 : decode cX4_refusal 106 = .ok (.bipush 6, 2) := by decide +kernel
theorem dX4_refusal_108 : decode cX4_refusal 108 = .ok (.ireturn, 1) := by decide +kernel
theorem dX4_refusal_109 : decode cX4_refusal 109 = .ok (.aload_n 3, 1) := by decide +kernel
theorem dX4_refusal_110 : decode cX4_refusal 110 = .ok (.getfield 97, 3) := by decide +kernel
theorem dX4_refusal_113 : decode cX4_refusal 113 = .ok (.ifCond .eq 8, 3) := by decide +kernel
theorem dX4_refusal_116 : decode cX4_refusal 116 = .ok (.bipush 7, 2) := by decide +kernel
theorem dX4_refusal_118 : decode cX4_refusal 118 = .ok (.goto 4, 3) := by decide +kernel
theorem dX4_refusal_121 : decode cX4_refusal 121 = .ok (.iconst 0, 1) := by decide +kernel
theorem dX4_refusal_122 : decode cX4_refusal 122 = .ok (.ireturn, 1) := by decide +kernel
theorem dX4_lacksCoal_0 : decode cX4_lacksCoal 0 = .ok (.iload_n 1, 1) := by decide +kernel
theorem dX4_lacksCoal_1 : decode cX4_lacksCoal 1 = .ok (.ifCond .le 14, 3) := by decide +kernel
theorem dX4_lacksCoal_4 : decode cX4_lacksCoal 4 = .ok (.aload_n 0, 1) := by decide +kernel
theorem dX4_lacksCoal_5 : decode cX4_lacksCoal 5 = .ok (.getfield 66, 3) := by decide +kernel
theorem dX4_lacksCoal_8 : decode cX4_lacksCoal 8 = .ok (.ifCond .ne 7, 3) := by decide +kernel
theorem dX4_lacksCoal_11 : decode cX4_lacksCoal 11 = .ok (.iconst 1, 1) := by decide +kernel
theorem dX4_lacksCoal_12 : decode cX4_lacksCoal 12 = .ok (.goto 4, 3) := by decide +kernel
theorem dX4_lacksCoal_15 : decode cX4_lacksCoal 15 = .ok (.iconst 0, 1) := by decide +kernel
theorem dX4_lacksCoal_16 : decode cX4_lacksCoal 16 = .ok (.ireturn, 1) := by decide +kernel
theorem dX5_init_0 : decode cX5_init 0 = .ok (.aload_n 0, 1) := by decide +kernel
theorem dX5_init_1 : decode cX5_init 1 = .ok (.invokespecial 3, 3) := by decide +kernel
theorem dX5_init_4 : decode cX5_init 4 = .ok (.aload_n 0, 1) := by decide +kernel
theorem dX5_init_5 : decode cX5_init 5 = .ok (.sipush 160, 3) := by decide +kernel
theorem dX5_init_8 : decode cX5_init 8 = .ok (.newarray .int, 2) := by decide +kernel
theorem dX5_init_10 : decode cX5_init 10 = .ok (.putfield 9, 3) := by decide +kernel
theorem dX5_init_13 : decode cX5_init 13 = .ok (.aload_n 0, 1) := by decide +kernel
theorem dX5_init_14 : decode cX5_init 14 = .ok (.sipush 160, 3) := by decide +kernel
theorem dX5_init_17 : decode cX5_init 17 = .ok (.newarray .int, 2) := by decide +kernel
theorem dX5_init_19 : decode cX5_init 19 = .ok (.putfield 15, 3) := by decide +kernel
theorem dX5_init_22 : decode cX5_init 22 = .ok (.aload_n 0, 1) := by decide +kernel
theorem dX5_init_23 : decode cX5_init 23 = .ok (.sipush 160, 3) := by decide +kernel
theorem dX5_init_26 : decode cX5_init 26 = .ok (.newarray .int, 2) := by decide +kernel
theorem dX5_init_28 : decode cX5_init 28 = .ok (.putfield 18, 3) := by decide +kernel
theorem dX5_init_31 : decode cX5_init 31 = .ok (.return_, 1) := by decide +kernel
theorem dX5_append_0 : decode cX5_append 0 = .ok (.aload_n 0, 1) := by decide +kernel
theorem dX5_append_1 : decode cX5_append 1 = .ok (.getfield 21, 3) := by decide +kernel
theorem dX5_append_4 : decode cX5_append 4 = .ok (.sipush 160, 3) := by decide +kernel
theorem dX5_append_7 : decode cX5_append 7 = .ok (.if_icmp .ge 23, 3) := by decide +kernel
theorem dX5_append_10 : decode cX5_append 10 = .ok (.aload_n 0, 1) := by decide +kernel
theorem dX5_append_11 : decode cX5_append 11 = .ok (.getfield 9, 3) := by decide +kernel
theorem dX5_append_14 : decode cX5_append 14 = .ok (.aload_n 0, 1) := by decide +kernel
theorem dX5_append_15 : decode cX5_append 15 = .ok (.getfield 21, 3) := by decide +kernel
theorem dX5_append_18 : decode cX5_append 18 = .ok (.iload_n 1, 1) := by decide +kernel
theorem dX5_append_19 : decode cX5_append 19 = .ok (.iastore, 1) := by decide +kernel
theorem dX5_append_20 : decode cX5_append 20 = .ok (.aload_n 0, 1) := by decide +kernel
theorem dX5_append_21 : decode cX5_append 21 = .ok (.dup, 1) := by decide +kernel
theorem dX5_append_22 : decode cX5_append 22 = .ok (.getfield 21, 3) := by decide +kernel
theorem dX5_append_25 : decode cX5_append 25 = .ok (.iconst 1, 1) := by decide +kernel
theorem dX5_append_26 : decode cX5_append 26 = .ok (.iadd, 1) := by decide +kernel
theorem dX5_append_27 : decode cX5_append 27 = .ok (.putfield 21, 3) := by decide +kernel
theorem dX5_append_30 : decode cX5_append 30 = .ok (.return_, 1) := by decide +kernel
theorem dX5_emptyTape_0 : decode cX5_emptyTape 0 = .ok (.aload_n 0, 1) := by decide +kernel
theorem dX5_emptyTape_1 : decode cX5_emptyTape 1 = .ok (.iconst 0, 1) := by decide +kernel
theorem dX5_emptyTape_2 : decode cX5_emptyTape 2 = .ok (.putfield 21, 3) := by decide +kernel
theorem dX5_emptyTape_5 : decode cX5_emptyTape 5 = .ok (.return_, 1) := by decide +kernel
theorem dX5_read_0 : decode cX5_read 0 = .ok (.aload_n 0, 1) := by decide +kernel
theorem dX5_read_1 : decode cX5_read 1 = .ok (.invokevirtual 25, 3) := by decide +kernel
theorem dX5_read_4 : decode cX5_read 4 = .ok (.aload_n 1, 1) := by decide +kernel
theorem dX5_read_5 : decode cX5_read 5 = .ok (.invokevirtual 28, 3) := by decide +kernel
theorem dX5_read_8 : decode cX5_read 8 = .ok (.aload_n 0, 1) := by decide +kernel
theorem dX5_read_9 : decode cX5_read 9 = .ok (.iconst (-1), 1) := by decide +kernel
theorem dX5_read_10 : decode cX5_read 10 = .ok (.putfield 33, 3) := by decide +kernel
theorem dX5_read_13 : decode cX5_read 13 = .ok (.aload_n 0, 1) := by decide +kernel
theorem dX5_read_14 : decode cX5_read 14 = .ok (.iconst 0, 1) := by decide +kernel
theorem dX5_read_15 : decode cX5_read 15 = .ok (.invokevirtual 36, 3) := by decide +kernel
theorem dX5_read_18 : decode cX5_read 18 = .ok (.aload_n 0, 1) := by decide +kernel
theorem dX5_read_19 : decode cX5_read 19 = .ok (.bipush (-21), 2) := by decide +kernel
theorem dX5_read_21 : decode cX5_read 21 = .ok (.aload_n 1, 1) := by decide +kernel
theorem dX5_read_22 : decode cX5_read 22 = .ok (.invokevirtual 40, 3) := by decide +kernel
theorem dX5_read_25 : decode cX5_read 25 = .ok (.aload_n 1, 1) := by decide +kernel
theorem dX5_read_26 : decode cX5_read 26 = .ok (.invokevirtual 44, 3) := by decide +kernel
theorem dX5_read_29 : decode cX5_read 29 = .ok (.aload_n 0, 1) := by decide +kernel
theorem dX5_read_30 : decode cX5_read 30 = .ok (.bipush (-22), 2) := by decide +kernel
theorem dX5_read_32 : decode cX5_read 32 = .ok (.aload_n 1, 1) := by decide +kernel
theorem dX5_read_33 : decode cX5_read 33 = .ok (.invokevirtual 40, 3) := by decide +kernel
theorem dX5_read_36 : decode cX5_read 36 = .ok (.aload_n 0, 1) := by decide +kernel
theorem dX5_read_37 : decode cX5_read 37 = .ok (.getfield 47, 3) := by decide +kernel
theorem dX5_read_40 : decode cX5_read 40 = .ok (.bipush (-26), 2) := by decide +kernel
theorem dX5_read_42 : decode cX5_read 42 = .ok (.if_icmp .eq 7, 3) := by decide +kernel
theorem dX5_read_45 : decode cX5_read 45 = .ok (.aload_n 0, 1) := by decide +kernel
theorem dX5_read_46 : decode cX5_read 46 = .ok (.invokevirtual 50, 3) := by decide +kernel
theorem dX5_read_49 : decode cX5_read 49 = .ok (.aload_n 0, 1) := by decide +kernel
theorem dX5_read_50 : decode cX5_read 50 = .ok (.getfield 33, 3) := by decide +kernel
theorem dX5_read_53 : decode cX5_read 53 = .ok (.ireturn, 1) := by decide +kernel
theorem dX5_readPart_0 : decode cX5_readPart 0 = .ok (.aload_n 0, 1) := by decide +kernel
theorem dX5_readPart_1 : decode cX5_readPart 1 = .ok (.iload_n 1, 1) := by decide +kernel
theorem dX5_readPart_2 : decode cX5_readPart 2 = .ok (.invokevirtual 53, 3) := by decide +kernel
theorem dX5_readPart_5 : decode cX5_readPart 5 = .ok (.aload_n 0, 1) := by decide +kernel
theorem dX5_readPart_6 : decode cX5_readPart 6 = .ok (.aload_n 2, 1) := by decide +kernel
theorem dX5_readPart_7 : decode cX5_readPart 7 = .ok (.iconst 0, 1) := by decide +kernel
theorem dX5_readPart_8 : decode cX5_readPart 8 = .ok (.iconst 0, 1) := by decide +kernel
theorem dX5_readPart_9 : decode cX5_readPart 9 = .ok (.invokevirtual 56, 3) := by decide +kernel
theorem dX5_readPart_12 : decode cX5_readPart 12 = .ok (.aload_n 0, 1) := by decide +kernel
theorem dX5_readPart_13 : decode cX5_readPart 13 = .ok (.bipush (-25), 2) := by decide +kernel
theorem dX5_readPart_15 : decode cX5_readPart 15 = .ok (.invokevirtual 53, 3) := by decide +kernel
theorem dX5_readPart_18 : decode cX5_readPart 18 = .ok (.return_, 1) := by decide +kernel
theorem dX5_readLevel_0 : decode cX5_readLevel 0 = .ok (.iload_n 2, 1) := by decide +kernel
theorem dX5_readLevel_1 : decode cX5_readLevel 1 = .ok (.iconst 5, 1) := by decide +kernel
theorem dX5_readLevel_2 : decode cX5_readLevel 2 = .ok (.if_icmp .lt 10, 3) := by decide +kernel
theorem dX5_readLevel_5 : decode cX5_readLevel 5 = .ok (.aload_n 0, 1) := by decide +kernel
theorem dX5_readLevel_6 : decode cX5_readLevel 6 = .ok (.aload_n 1, 1) := by decide +kernel
theorem dX5_readLevel_7 : decode cX5_readLevel 7 = .ok (.iload_n 3, 1) := by decide +kernel
theorem dX5_readLevel_8 : decode cX5_readLevel 8 = .ok (.invokevirtual 60, 3) := by decide +kernel
theorem dX5_readLevel_11 : decode cX5_readLevel 11 = .ok (.return_, 1) := by decide +kernel
theorem dX5_readLevel_12 : decode cX5_readLevel 12 = .ok (.iload_n 2, 1) := by decide +kernel
theorem dX5_readLevel_13 : decode cX5_readLevel 13 = .ok (.iconst 2, 1) := by decide +kernel
theorem dX5_readLevel_14 : decode cX5_readLevel 14 = .ok (.if_icmp .ne 26, 3) := by decide +kernel
theorem dX5_readLevel_17 : decode cX5_readLevel 17 = .ok (.aload_n 0, 1) := by decide +kernel
theorem dX5_readLevel_18 : decode cX5_readLevel 18 = .ok (.getfield 47, 3) := by decide +kernel
theorem dX5_readLevel_21 : decode cX5_readLevel 21 = .ok (.bipush (-3), 2) := by decide +kernel
theorem dX5_readLevel_23 : decode cX5_readLevel 23 = .ok (.if_icmp .ne 17, 3) := by decide +kernel
theorem dX5_readLevel_26 : decode cX5_readLevel 26 = .ok (.aload_n 0, 1) := by decide +kernel
theorem dX5_readLevel_27 : decode cX5_readLevel 27 = .ok (.aload_n 1, 1) := by decide +kernel
theorem dX5_readLevel_28 : decode cX5_readLevel 28 = .ok (.iconst 2, 1) := by decide +kernel
theorem dX5_readLevel_29 : decode cX5_readLevel 29 = .ok (.iload_n 3, 1) := by decide +kernel
theorem dX5_readLevel_30 : decode cX5_readLevel 30 = .ok (.invokevirtual 64, 3) := by decide +kernel
theorem dX5_readLevel_33 : decode cX5_readLevel 33 = .ok (.aload_n 1, 1) := by decide +kernel
theorem dX5_readLevel_34 : decode cX5_readLevel 34 = .ok (.bipush (-3), 2) := by decide +kernel
theorem dX5_readLevel_36 : decode cX5_readLevel 36 = .ok (.invokevirtual 67, 3) := by decide +kernel
theorem dX5_readLevel_39 : decode cX5_readLevel 39 = .ok (.return_, 1) := by decide +kernel
theorem dX5_readLevel_40 : decode cX5_readLevel 40 = .ok (.aload_n 0, 1) := by decide +kernel
theorem dX5_readLevel_41 : decode cX5_readLevel 41 = .ok (.aload_n 1, 1) := by decide +kernel
theorem dX5_readLevel_42 : decode cX5_readLevel 42 = .ok (.iload_n 2, 1) := by decide +kernel
theorem dX5_readLevel_43 : decode cX5_readLevel 43 = .ok (.iconst 1, 1) := by decide +kernel
theorem dX5_readLevel_44 : decode cX5_readLevel 44 = .ok (.iadd, 1) := by decide +kernel
theorem dX5_readLevel_45 : decode cX5_readLevel 45 = .ok (.iload_n 3, 1) := by decide +kernel
theorem dX5_readLevel_46 : decode cX5_readLevel 46 = .ok (.invokevirtual 56, 3) := by decide +kernel
theorem dX5_readLevel_49 : decode cX5_readLevel 49 = .ok (.iload_n 2, 1) := by decide +kernel
theorem dX5_readLevel_50 : decode cX5_readLevel 50 = .ok (.iconst 2, 1) := by decide +kernel
theorem dX5_readLevel_51 : decode cX5_readLevel 51 = .ok (.if_icmp .ne 7, 3) := by decide +kernel
theorem dX5_readLevel_54 : decode cX5_readLevel 54 = .ok (.iconst 1, 1) := by decide +kernel
theorem dX5_readLevel_55 : decode cX5_readLevel 55 = .ok (.goto 6, 3) := by decide +kernel
theorem dX5_readLevel_58 : decode cX5_readLevel 58 = .ok (.sipush 160, 3) := by decide +kernel
theorem dX5_readLevel_61 : decode cX5_readLevel 61 = .ok (.istore 4, 2) := by decide +kernel
theorem dX5_readLevel_63 : decode cX5_readLevel 63 = .ok (.iconst 0, 1) := by decide +kernel
theorem dX5_readLevel_64 : decode cX5_readLevel 64 = .ok (.istore 5, 2) := by decide +kernel
theorem dX5_readLevel_66 : decode cX5_readLevel 66 = .ok (.iload 5, 2) := by decide +kernel
theorem dX5_readLevel_68 : decode cX5_readLevel 68 = .ok (.iload 4, 2) := by decide +kernel
theorem dX5_readLevel_70 : decode cX5_readLevel 70 = .ok (.if_icmp .ge 51, 3) := by decide +kernel
theorem dX5_readLevel_73 : decode cX5_readLevel 73 = .ok (.aload_n 0, 1) := by decide +kernel
theorem dX5_readLevel_74 : decode cX5_readLevel 74 = .ok (.getfield 47, 3) := by decide +kernel
theorem dX5_readLevel_77 : decode cX5_readLevel 77 = .ok (.invokestatic 70, 3) := by decide +kernel
theorem dX5_readLevel_80 : decode cX5_readLevel 80 = .ok (.iload_n 2, 1) := by decide +kernel
theorem dX5_readLevel_81 : decode cX5_readLevel 81 = .ok (.if_icmp .ne 40, 3) := by decide +kernel
theorem dX5_readLevel_84 : decode cX5_readLevel 84 = .ok (.aload_n 0, 1) := by decide +kernel
theorem dX5_readLevel_85 : decode cX5_readLevel 85 = .ok (.getfield 47, 3) := by decide +kernel
theorem dX5_readLevel_88 : decode cX5_readLevel 88 = .ok (.istore 6, 2) := by decide +kernel
theorem dX5_readLevel_90 : decode cX5_readLevel 90 = .ok (.aload_n 0, 1) := by decide +kernel
theorem dX5_readLevel_91 : decode cX5_readLevel 91 = .ok (.aload_n 0, 1) := by decide +kernel
theorem dX5_readLevel_92 : decode cX5_readLevel 92 = .ok (.getfield 74, 3) := by decide +kernel
theorem dX5_readLevel_95 : decode cX5_readLevel 95 = .ok (.iconst 1, 1) := by decide +kernel
theorem dX5_readLevel_96 : decode cX5_readLevel 96 = .ok (.iadd, 1) := by decide +kernel
theorem dX5_readLevel_97 : decode cX5_readLevel 97 = .ok (.invokevirtual 36, 3) := by decide +kernel
theorem dX5_readLevel_100 : decode cX5_readLevel 100 = .ok (.aload_n 0, 1) := by decide +kernel
theorem dX5_readLevel_101 : decode cX5_readLevel 101 = .ok (.aload_n 1, 1) := by decide +kernel
theorem dX5_readLevel_102 : decode cX5_readLevel 102 = .ok (.iload_n 2, 1) := by decide +kernel
theorem dX5_readLevel_103 : decode cX5_readLevel 103 = .ok (.iconst 1, 1) := by decide +kernel
theorem dX5_readLevel_104 : decode cX5_readLevel 104 = .ok (.iadd, 1) := by decide +kernel
theorem dX5_readLevel_105 : decode cX5_readLevel 105 = .ok (.iload_n 3, 1) := by decide +kernel
theorem dX5_readLevel_106 : decode cX5_readLevel 106 = .ok (.invokevirtual 56, 3) := by decide +kernel
theorem dX5_readLevel_109 : decode cX5_readLevel 109 = .ok (.aload_n 1, 1) := by decide +kernel
theorem dX5_readLevel_110 : decode cX5_readLevel 110 = .ok (.iload 6, 2) := by decide +kernel
theorem dX5_readLevel_112 : decode cX5_readLevel 112 = .ok (.invokevirtual 67, 3) := by decide +kernel
theorem dX5_readLevel_115 : decode cX5_readLevel 115 = .ok (.iinc 5 1, 3) := by decide +kernel
theorem dX5_readLevel_118 : decode cX5_readLevel 118 = .ok (.goto (-52), 3) := by decide +kernel
theorem dX5_readLevel_121 : decode cX5_readLevel 121 = .ok (.return_, 1) := by decide +kernel
theorem dX5_readOne_0 : decode cX5_readOne 0 = .ok (.aload_n 0, 1) := by decide +kernel
theorem dX5_readOne_1 : decode cX5_readOne 1 = .ok (.getfield 47, 3) := by decide +kernel
theorem dX5_readOne_4 : decode cX5_readOne 4 = .ok (.ifCond .ge 13, 3) := by decide +kernel
theorem dX5_readOne_7 : decode cX5_readOne 7 = .ok (.aload_n 0, 1) := by decide +kernel
theorem dX5_readOne_8 : decode cX5_readOne 8 = .ok (.getfield 47, 3) := by decide +kernel
theorem dX5_readOne_11 : decode cX5_readOne 11 = .ok (.invokestatic 77, 3) := by decide +kernel
theorem dX5_readOne_14 : decode cX5_readOne 14 = .ok (.ifCond .eq 24, 3) := by decide +kernel
theorem dX5_readOne_17 : decode cX5_readOne 17 = .ok (.aload_n 1, 1) := by decide +kernel
theorem dX5_readOne_18 : decode cX5_readOne 18 = .ok (.aload_n 0, 1) := by decide +kernel
theorem dX5_readOne_19 : decode cX5_readOne 19 = .ok (.getfield 47, 3) := by decide +kernel
theorem dX5_readOne_22 : decode cX5_readOne 22 = .ok (.invokevirtual 67, 3) := by decide +kernel
theorem dX5_readOne_25 : decode cX5_readOne 25 = .ok (.aload_n 0, 1) := by decide +kernel
theorem dX5_readOne_26 : decode cX5_readOne 26 = .ok (.aload_n 0, 1) := by decide +kernel
theorem dX5_readOne_27 : decode cX5_readOne 27 = .ok (.getfield 74, 3) := by decide +kernel
theorem dX5_readOne_30 : decode cX5_readOne 30 = .ok (.iconst 1, 1) := by decide +kernel
theorem dX5_readOne_31 : decode cX5_readOne 31 = .ok (.iadd, 1) := by decide +kernel
theorem dX5_readOne_32 : decode cX5_readOne 32 = .ok (.invokevirtual 36, 3) := by decide +kernel
theorem dX5_readOne_35 : decode cX5_readOne 35 = .ok (.goto 57, 3) := by decide +kernel
theorem dX5_readOne_38 : decode cX5_readOne 38 = .ok (.aload_n 0, 1) := by decide +kernel
theorem dX5_readOne_39 : decode cX5_readOne 39 = .ok (.getfield 47, 3) := by decide +kernel
theorem dX5_readOne_42 : decode cX5_readOne 42 = .ok (.bipush (-7), 2) := by decide +kernel
theorem dX5_readOne_44 : decode cX5_readOne 44 = .ok (.if_icmp .ne 19, 3) := by decide +kernel
theorem dX5_readOne_47 : decode cX5_readOne 47 = .ok (.aload_n 0, 1) := by decide +kernel
theorem dX5_readOne_48 : decode cX5_readOne 48 = .ok (.aload_n 1, 1) := by decide +kernel
theorem dX5_readOne_49 : decode cX5_readOne 49 = .ok (.iconst 5, 1) := by decide +kernel
theorem dX5_readOne_50 : decode cX5_readOne 50 = .ok (.iload_n 2, 1) := by decide +kernel
theorem dX5_readOne_51 : decode cX5_readOne 51 = .ok (.invokevirtual 64, 3) := by decide +kernel
theorem dX5_readOne_54 : decode cX5_readOne 54 = .ok (.aload_n 1, 1) := by decide +kernel
theorem dX5_readOne_55 : decode cX5_readOne 55 = .ok (.bipush (-9), 2) := by decide +kernel
theorem dX5_readOne_57 : decode cX5_readOne 57 = .ok (.invokevirtual 67, 3) := by decide +kernel
theorem dX5_readOne_60 : decode cX5_readOne 60 = .ok (.goto 32, 3) := by decide +kernel
theorem dX5_readOne_63 : decode cX5_readOne 63 = .ok (.aload_n 0, 1) := by decide +kernel
theorem dX5_readOne_64 : decode cX5_readOne 64 = .ok (.getfield 47, 3) := by decide +kernel
theorem dX5_readOne_67 : decode cX5_readOne 67 = .ok (.bipush (-23), 2) := by decide +kernel
theorem dX5_readOne_69 : decode cX5_readOne 69 = .ok (.if_icmp .ne 19, 3) := by decide +kernel
theorem dX5_readOne_72 : decode cX5_readOne 72 = .ok (.aload_n 0, 1) := by decide +kernel
theorem dX5_readOne_73 : decode cX5_readOne 73 = .ok (.aload_n 1, 1) := by decide +kernel
theorem dX5_readOne_74 : decode cX5_readOne 74 = .ok (.iconst 0, 1) := by decide +kernel
theorem dX5_readOne_75 : decode cX5_readOne 75 = .ok (.iload_n 2, 1) := by decide +kernel
theorem dX5_readOne_76 : decode cX5_readOne 76 = .ok (.invokevirtual 64, 3) := by decide +kernel
theorem dX5_readOne_79 : decode cX5_readOne 79 = .ok (.aload_n 0, 1) := by decide +kernel
theorem dX5_readOne_80 : decode cX5_readOne 80 = .ok (.bipush (-24), 2) := by decide +kernel
theorem dX5_readOne_82 : decode cX5_readOne 82 = .ok (.invokevirtual 53, 3) := by decide +kernel
theorem dX5_readOne_85 : decode cX5_readOne 85 = .ok (.goto 7, 3) := by decide +kernel
theorem dX5_readOne_88 : decode cX5_readOne 88 = .ok (.aload_n 0, 1) := by decide +kernel
theorem dX5_readOne_89 : decode cX5_readOne 89 = .ok (.invokevirtual 50, 3) := by decide +kernel
theorem dX5_readOne_92 : decode cX5_readOne 92 = .ok (.return_, 1) := by decide +kernel
theorem dX5_readInside_0 : decode cX5_readInside 0 = .ok (.iload_n 3, 1) := by decide +kernel
theorem dX5_readInside_1 : decode cX5_readInside 1 = .ok (.iconst 5, 1) := by decide +kernel
theorem dX5_readInside_2 : decode cX5_readInside 2 = .ok (.if_icmp .lt 8, 3) := by decide +kernel
theorem dX5_readInside_5 : decode cX5_readInside 5 = .ok (.aload_n 0, 1) := by decide +kernel
theorem dX5_readInside_6 : decode cX5_readInside 6 = .ok (.invokevirtual 50, 3) := by decide +kernel
theorem dX5_readInside_9 : decode cX5_readInside 9 = .ok (.return_, 1) := by decide +kernel
theorem dX5_readInside_10 : decode cX5_readInside 10 = .ok (.aload_n 0, 1) := by decide +kernel
theorem dX5_readInside_11 : decode cX5_readInside 11 = .ok (.aload_n 0, 1) := by decide +kernel
theorem dX5_readInside_12 : decode cX5_readInside 12 = .ok (.getfield 74, 3) := by decide +kernel
theorem dX5_readInside_15 : decode cX5_readInside 15 = .ok (.iconst 1, 1) := by decide +kernel
theorem dX5_readInside_16 : decode cX5_readInside 16 = .ok (.iadd, 1) := by decide +kernel
theorem dX5_readInside_17 : decode cX5_readInside 17 = .ok (.invokevirtual 36, 3) := by decide +kernel
theorem dX5_readInside_20 : decode cX5_readInside 20 = .ok (.aload_n 0, 1) := by decide +kernel
theorem dX5_readInside_21 : decode cX5_readInside 21 = .ok (.aload_n 1, 1) := by decide +kernel
theorem dX5_readInside_22 : decode cX5_readInside 22 = .ok (.iload_n 2, 1) := by decide +kernel
theorem dX5_readInside_23 : decode cX5_readInside 23 = .ok (.iload_n 3, 1) := by decide +kernel
theorem dX5_readInside_24 : decode cX5_readInside 24 = .ok (.iconst 1, 1) := by decide +kernel
theorem dX5_readInside_25 : decode cX5_readInside 25 = .ok (.iadd, 1) := by decide +kernel
theorem dX5_readInside_26 : decode cX5_readInside 26 = .ok (.invokevirtual 56, 3) := by decide +kernel
theorem dX5_readInside_29 : decode cX5_readInside 29 = .ok (.return_, 1) := by decide +kernel
theorem dX5_expect_0 : decode cX5_expect 0 = .ok (.aload_n 0, 1) := by decide +kernel
theorem dX5_expect_1 : decode cX5_expect 1 = .ok (.getfield 47, 3) := by decide +kernel
theorem dX5_expect_4 : decode cX5_expect 4 = .ok (.iload_n 1, 1) := by decide +kernel
theorem dX5_expect_5 : decode cX5_expect 5 = .ok (.if_icmp .ne 16, 3) := by decide +kernel
theorem dX5_expect_8 : decode cX5_expect 8 = .ok (.aload_n 0, 1) := by decide +kernel
theorem dX5_expect_9 : decode cX5_expect 9 = .ok (.aload_n 0, 1) := by decide +kernel
theorem dX5_expect_10 : decode cX5_expect 10 = .ok (.getfield 74, 3) := by decide +kernel
theorem dX5_expect_13 : decode cX5_expect 13 = .ok (.iconst 1, 1) := by decide +kernel
theorem dX5_expect_14 : decode cX5_expect 14 = .ok (.iadd, 1) := by decide +kernel
theorem dX5_expect_15 : decode cX5_expect 15 = .ok (.invokevirtual 36, 3) := by decide +kernel
theorem dX5_expect_18 : decode cX5_expect 18 = .ok (.goto 7, 3) := by decide +kernel
theorem dX5_expect_21 : decode cX5_expect 21 = .ok (.aload_n 0, 1) := by decide +kernel
theorem dX5_expect_22 : decode cX5_expect 22 = .ok (.invokevirtual 50, 3) := by decide +kernel
theorem dX5_expect_25 : decode cX5_expect 25 = .ok (.return_, 1) := by decide +kernel
theorem dX5_refuse_0 : decode cX5_refuse 0 = .ok (.aload_n 0, 1) := by decide +kernel
theorem dX5_refuse_1 : decode cX5_refuse 1 = .ok (.getfield 33, 3) := by decide +kernel
theorem dX5_refuse_4 : decode cX5_refuse 4 = .ok (.iconst (-1), 1) := by decide +kernel
theorem dX5_refuse_5 : decode cX5_refuse 5 = .ok (.if_icmp .ne 41, 3) := by decide +kernel
theorem dX5_refuse_8 : decode cX5_refuse 8 = .ok (.aload_n 0, 1) := by decide +kernel
theorem dX5_refuse_9 : decode cX5_refuse 9 = .ok (.aload_n 0, 1) := by decide +kernel
theorem dX5_refuse_10 : decode cX5_refuse 10 = .ok (.getfield 74, 3) := by decide +kernel
theorem dX5_refuse_13 : decode cX5_refuse 13 = .ok (.ifCond .lt 26, 3) := by decide +kernel
theorem dX5_refuse_16 : decode cX5_refuse 16 = .ok (.aload_n 0, 1) := by decide +kernel
theorem dX5_refuse_17 : decode cX5_refuse 17 = .ok (.getfield 74, 3) := by decide +kernel
theorem dX5_refuse_20 : decode cX5_refuse 20 = .ok (.aload_n 0, 1) := by decide +kernel
theorem dX5_refuse_21 : decode cX5_refuse 21 = .ok (.getfield 81, 3) := by decide +kernel
theorem dX5_refuse_24 : decode cX5_refuse 24 = .ok (.if_icmp .ge 15, 3) := by decide +kernel
theorem dX5_refuse_27 : decode cX5_refuse 27 = .ok (.aload_n 0, 1) := by decide +kernel
theorem dX5_refuse_28 : decode cX5_refuse 28 = .ok (.getfield 18, 3) := by decide +kernel
theorem dX5_refuse_31 : decode cX5_refuse 31 = .ok (.aload_n 0, 1) := by decide +kernel
theorem dX5_refuse_32 : decode cX5_refuse 32 = .ok (.getfield 74, 3) := by decide +kernel
theorem dX5_refuse_35 : decode cX5_refuse 35 = .ok (.iaload, 1) := by decide +kernel
theorem dX5_refuse_36 : decode cX5_refuse 36 = .ok (.goto 7, 3) := by decide +kernel
theorem dX5_refuse_39 : decode cX5_refuse 39 = .ok (.aload_n 0, 1) := by decide +kernel
theorem dX5_refuse_40 : decode cX5_refuse 40 = .ok (.getfield 21, 3) := by decide +kernel
theorem dX5_refuse_43 : decode cX5_refuse 43 = .ok (.putfield 33, 3) := by decide +kernel
theorem dX5_refuse_46 : decode cX5_refuse 46 = .ok (.aload_n 0, 1) := by decide +kernel
theorem dX5_refuse_47 : decode cX5_refuse 47 = .ok (.bipush (-27), 2) := by decide +kernel
theorem dX5_refuse_49 : decode cX5_refuse 49 = .ok (.putfield 47, 3) := by decide +kernel
theorem dX5_refuse_52 : decode cX5_refuse 52 = .ok (.return_, 1) := by decide +kernel
theorem dX5_stepTo_0 : decode cX5_stepTo 0 = .ok (.aload_n 0, 1) := by decide +kernel
theorem dX5_stepTo_1 : decode cX5_stepTo 1 = .ok (.iload_n 1, 1) := by decide +kernel
theorem dX5_stepTo_2 : decode cX5_stepTo 2 = .ok (.putfield 74, 3) := by decide +kernel
theorem dX5_stepTo_5 : decode cX5_stepTo 5 = .ok (.aload_n 0, 1) := by decide +kernel
theorem dX5_stepTo_6 : decode cX5_stepTo 6 = .ok (.aload_n 0, 1) := by decide +kernel
theorem dX5_stepTo_7 : decode cX5_stepTo 7 = .ok (.getfield 74, 3) := by decide +kernel
theorem dX5_stepTo_10 : decode cX5_stepTo 10 = .ok (.ifCond .lt 26, 3) := by decide +kernel
theorem dX5_stepTo_13 : decode cX5_stepTo 13 = .ok (.aload_n 0, 1) := by decide +kernel
theorem dX5_stepTo_14 : decode cX5_stepTo 14 = .ok (.getfield 74, 3) := by decide +kernel
theorem dX5_stepTo_17 : decode cX5_stepTo 17 = .ok (.aload_n 0, 1) := by decide +kernel
theorem dX5_stepTo_18 : decode cX5_stepTo 18 = .ok (.getfield 81, 3) := by decide +kernel
theorem dX5_stepTo_21 : decode cX5_stepTo 21 = .ok (.if_icmp .ge 15, 3) := by decide +kernel
theorem dX5_stepTo_24 : decode cX5_stepTo 24 = .ok (.aload_n 0, 1) := by decide +kernel
theorem dX5_stepTo_25 : decode cX5_stepTo 25 = .ok (.getfield 15, 3) := by decide +kernel
theorem dX5_stepTo_28 : decode cX5_stepTo 28 = .ok (.aload_n 0, 1) := by decide +kernel
theorem dX5_stepTo_29 : decode cX5_stepTo 29 = .ok (.getfield 74, 3) := by decide +kernel
theorem dX5_stepTo_32 : decode cX5_stepTo 32 = .ok (.iaload, 1) := by decide +kernel
theorem dX5_stepTo_33 : decode cX5_stepTo 33 = .ok (.goto 5, 3) := by decide +kernel
theorem dX5_stepTo_36 : decode cX5_stepTo 36 = .ok (.bipush (-26), 2) := by decide +kernel
theorem dX5_stepTo_38 : decode cX5_stepTo 38 = .ok (.putfield 47, 3) := by decide +kernel
theorem dX5_stepTo_41 : decode cX5_stepTo 41 = .ok (.return_, 1) := by decide +kernel
theorem dX5_levelOf_0 : decode cX5_levelOf 0 = .ok (.iload_n 0, 1) := by decide +kernel
theorem dX5_levelOf_1 : decode cX5_levelOf 1 = .ok (.tableswitch 57 (-8) (-1) #[55, 53, 53, 51, 51, 57, 49, 47], 47) := by decide +kernel
theorem dX5_levelOf_48 : decode cX5_levelOf 48 = .ok (.iconst 0, 1) := by decide +kernel
theorem dX5_levelOf_49 : decode cX5_levelOf 49 = .ok (.ireturn, 1) := by decide +kernel
theorem dX5_levelOf_50 : decode cX5_levelOf 50 = .ok (.iconst 1, 1) := by decide +kernel
theorem dX5_levelOf_51 : decode cX5_levelOf 51 = .ok (.ireturn, 1) := by decide +kernel
theorem dX5_levelOf_52 : decode cX5_levelOf 52 = .ok (.iconst 2, 1) := by decide +kernel
theorem dX5_levelOf_53 : decode cX5_levelOf 53 = .ok (.ireturn, 1) := by decide +kernel
theorem dX5_levelOf_54 : decode cX5_levelOf 54 = .ok (.iconst 3, 1) := by decide +kernel
theorem dX5_levelOf_55 : decode cX5_levelOf 55 = .ok (.ireturn, 1) := by decide +kernel
theorem dX5_levelOf_56 : decode cX5_levelOf 56 = .ok (.iconst 4, 1) := by decide +kernel
theorem dX5_levelOf_57 : decode cX5_levelOf 57 = .ok (.ireturn, 1) := by decide +kernel
theorem dX5_levelOf_58 : decode cX5_levelOf 58 = .ok (.iconst (-1), 1) := by decide +kernel
theorem dX5_levelOf_59 : decode cX5_levelOf 59 = .ok (.ireturn, 1) := by decide +kernel
theorem dX5_split_0 : decode cX5_split 0 = .ok (.aload_n 0, 1) := by decide +kernel
theorem dX5_split_1 : decode cX5_split 1 = .ok (.iconst 0, 1) := by decide +kernel
theorem dX5_split_2 : decode cX5_split 2 = .ok (.putfield 81, 3) := by decide +kernel
theorem dX5_split_5 : decode cX5_split 5 = .ok (.iconst 0, 1) := by decide +kernel
theorem dX5_split_6 : decode cX5_split 6 = .ok (.istore_n 1, 1) := by decide +kernel
theorem dX5_split_7 : decode cX5_split 7 = .ok (.iconst 0, 1) := by decide +kernel
theorem dX5_split_8 : decode cX5_split 8 = .ok (.istore_n 2, 1) := by decide +kernel
theorem dX5_split_9 : decode cX5_split 9 = .ok (.iload_n 2, 1) := by decide +kernel
theorem dX5_split_10 : decode cX5_split 10 = .ok (.sipush 160, 3) := by decide +kernel
theorem dX5_split_13 : decode cX5_split 13 = .ok (.if_icmp .ge 72, 3) := by decide +kernel
theorem dX5_split_16 : decode cX5_split 16 = .ok (.iload_n 1, 1) := by decide +kernel
theorem dX5_split_17 : decode cX5_split 17 = .ok (.aload_n 0, 1) := by decide +kernel
theorem dX5_split_18 : decode cX5_split 18 = .ok (.getfield 21, 3) := by decide +kernel
theorem dX5_split_21 : decode cX5_split 21 = .ok (.if_icmp .ge 64, 3) := by decide +kernel
theorem dX5_split_24 : decode cX5_split 24 = .ok (.aload_n 0, 1) := by decide +kernel
theorem dX5_split_25 : decode cX5_split 25 = .ok (.iload_n 1, 1) := by decide +kernel
theorem dX5_split_26 : decode cX5_split 26 = .ok (.invokevirtual 84, 3) := by decide +kernel
theorem dX5_split_29 : decode cX5_split 29 = .ok (.istore_n 3, 1) := by decide +kernel
theorem dX5_split_30 : decode cX5_split 30 = .ok (.aload_n 0, 1) := by decide +kernel
theorem dX5_split_31 : decode cX5_split 31 = .ok (.iload_n 1, 1) := by decide +kernel
theorem dX5_split_32 : decode cX5_split 32 = .ok (.invokevirtual 87, 3) := by decide +kernel
theorem dX5_split_35 : decode cX5_split 35 = .ok (.invokestatic 90, 3) := by decide +kernel
theorem dX5_split_38 : decode cX5_split 38 = .ok (.iconst 3, 1) := by decide +kernel
theorem dX5_split_39 : decode cX5_split 39 = .ok (.if_icmp .eq 38, 3) := by decide +kernel
theorem dX5_split_42 : decode cX5_split 42 = .ok (.aload_n 0, 1) := by decide +kernel
theorem dX5_split_43 : decode cX5_split 43 = .ok (.getfield 15, 3) := by decide +kernel
theorem dX5_split_46 : decode cX5_split 46 = .ok (.aload_n 0, 1) := by decide +kernel
theorem dX5_split_47 : decode cX5_split 47 = .ok (.getfield 81, 3) := by decide +kernel
theorem dX5_split_50 : decode cX5_split 50 = .ok (.aload_n 0, 1) := by decide +kernel
theorem dX5_split_51 : decode cX5_split 51 = .ok (.iload_n 1, 1) := by decide +kernel
theorem dX5_split_52 : decode cX5_split 52 = .ok (.iload_n 3, 1) := by decide +kernel
theorem dX5_split_53 : decode cX5_split 53 = .ok (.invokevirtual 93, 3) := by decide +kernel
theorem dX5_split_56 : decode cX5_split 56 = .ok (.iastore, 1) := by decide +kernel
theorem dX5_split_57 : decode cX5_split 57 = .ok (.aload_n 0, 1) := by decide +kernel
theorem dX5_split_58 : decode cX5_split 58 = .ok (.getfield 18, 3) := by decide +kernel
theorem dX5_split_61 : decode cX5_split 61 = .ok (.aload_n 0, 1) := by decide +kernel
theorem dX5_split_62 : decode cX5_split 62 = .ok (.getfield 81, 3) := by decide +kernel
theorem dX5_split_65 : decode cX5_split 65 = .ok (.iload_n 1, 1) := by decide +kernel
theorem dX5_split_66 : decode cX5_split 66 = .ok (.iastore, 1) := by decide +kernel
theorem dX5_split_67 : decode cX5_split 67 = .ok (.aload_n 0, 1) := by decide +kernel
theorem dX5_split_68 : decode cX5_split 68 = .ok (.dup, 1) := by decide +kernel
theorem dX5_split_69 : decode cX5_split 69 = .ok (.getfield 81, 3) := by decide +kernel
theorem dX5_split_72 : decode cX5_split 72 = .ok (.iconst 1, 1) := by decide +kernel
theorem dX5_split_73 : decode cX5_split 73 = .ok (.iadd, 1) := by decide +kernel
theorem dX5_split_74 : decode cX5_split 74 = .ok (.putfield 81, 3) := by decide +kernel
theorem dX5_split_77 : decode cX5_split 77 = .ok (.iload_n 3, 1) := by decide +kernel
theorem dX5_split_78 : decode cX5_split 78 = .ok (.istore_n 1, 1) := by decide +kernel
theorem dX5_split_79 : decode cX5_split 79 = .ok (.iinc 2 1, 3) := by decide +kernel
theorem dX5_split_82 : decode cX5_split 82 = .ok (.goto (-73), 3) := by decide +kernel
theorem dX5_split_85 : decode cX5_split 85 = .ok (.return_, 1) := by decide +kernel
theorem dX5_endOf_0 : decode cX5_endOf 0 = .ok (.aload_n 0, 1) := by decide +kernel
theorem dX5_endOf_1 : decode cX5_endOf 1 = .ok (.iload_n 1, 1) := by decide +kernel
theorem dX5_endOf_2 : decode cX5_endOf 2 = .ok (.invokevirtual 87, 3) := by decide +kernel
theorem dX5_endOf_5 : decode cX5_endOf 5 = .ok (.invokestatic 90, 3) := by decide +kernel
theorem dX5_endOf_8 : decode cX5_endOf 8 = .ok (.istore_n 2, 1) := by decide +kernel
theorem dX5_endOf_9 : decode cX5_endOf 9 = .ok (.iload_n 1, 1) := by decide +kernel
theorem dX5_endOf_10 : decode cX5_endOf 10 = .ok (.iconst 1, 1) := by decide +kernel
theorem dX5_endOf_11 : decode cX5_endOf 11 = .ok (.iadd, 1) := by decide +kernel
theorem dX5_endOf_12 : decode cX5_endOf 12 = .ok (.istore_n 3, 1) := by decide +kernel
theorem dX5_endOf_13 : decode cX5_endOf 13 = .ok (.iload_n 3, 1) := by decide +kernel
theorem dX5_endOf_14 : decode cX5_endOf 14 = .ok (.aload_n 0, 1) := by decide +kernel
theorem dX5_endOf_15 : decode cX5_endOf 15 = .ok (.getfield 21, 3) := by decide +kernel
theorem dX5_endOf_18 : decode cX5_endOf 18 = .ok (.if_icmp .ge 25, 3) := by decide +kernel
theorem dX5_endOf_21 : decode cX5_endOf 21 = .ok (.iload_n 2, 1) := by decide +kernel
theorem dX5_endOf_22 : decode cX5_endOf 22 = .ok (.ifCond .eq 21, 3) := by decide +kernel
theorem dX5_endOf_25 : decode cX5_endOf 25 = .ok (.aload_n 0, 1) := by decide +kernel
theorem dX5_endOf_26 : decode cX5_endOf 26 = .ok (.iload_n 3, 1) := by decide +kernel
theorem dX5_endOf_27 : decode cX5_endOf 27 = .ok (.invokevirtual 87, 3) := by decide +kernel
theorem dX5_endOf_30 : decode cX5_endOf 30 = .ok (.invokestatic 90, 3) := by decide +kernel
theorem dX5_endOf_33 : decode cX5_endOf 33 = .ok (.iload_n 2, 1) := by decide +kernel
theorem dX5_endOf_34 : decode cX5_endOf 34 = .ok (.if_icmp .ne 9, 3) := by decide +kernel
theorem dX5_endOf_37 : decode cX5_endOf 37 = .ok (.iinc 3 1, 3) := by decide +kernel
theorem dX5_endOf_40 : decode cX5_endOf 40 = .ok (.goto (-27), 3) := by decide +kernel
theorem dX5_endOf_43 : decode cX5_endOf 43 = .ok (.iload_n 3, 1) := by decide +kernel
theorem dX5_endOf_44 : decode cX5_endOf 44 = .ok (.ireturn, 1) := by decide +kernel
theorem dX5_tokenOf_0 : decode cX5_tokenOf 0 = .ok (.aload_n 0, 1) := by decide +kernel
theorem dX5_tokenOf_1 : decode cX5_tokenOf 1 = .ok (.iload_n 1, 1) := by decide +kernel
theorem dX5_tokenOf_2 : decode cX5_tokenOf 2 = .ok (.invokevirtual 87, 3) := by decide +kernel
theorem dX5_tokenOf_5 : decode cX5_tokenOf 5 = .ok (.istore_n 3, 1) := by decide +kernel
theorem dX5_tokenOf_6 : decode cX5_tokenOf 6 = .ok (.iload_n 3, 1) := by decide +kernel
theorem dX5_tokenOf_7 : decode cX5_tokenOf 7 = .ok (.invokestatic 90, 3) := by decide +kernel
theorem dX5_tokenOf_10 : decode cX5_tokenOf 10 = .ok (.lookupswitch 52 #[(1, 26), (2, 33)], 26) := by decide +kernel
theorem dX5_tokenOf_36 : decode cX5_tokenOf 36 = .ok (.aload_n 0, 1) := by decide +kernel
theorem dX5_tokenOf_37 : decode cX5_tokenOf 37 = .ok (.iload_n 1, 1) := by decide +kernel
theorem dX5_tokenOf_38 : decode cX5_tokenOf 38 = .ok (.iload_n 2, 1) := by decide +kernel
theorem dX5_tokenOf_39 : decode cX5_tokenOf 39 = .ok (.invokevirtual 97, 3) := by decide +kernel
theorem dX5_tokenOf_42 : decode cX5_tokenOf 42 = .ok (.ireturn, 1) := by decide +kernel
theorem dX5_tokenOf_43 : decode cX5_tokenOf 43 = .ok (.iload_n 2, 1) := by decide +kernel
theorem dX5_tokenOf_44 : decode cX5_tokenOf 44 = .ok (.iload_n 1, 1) := by decide +kernel
theorem dX5_tokenOf_45 : decode cX5_tokenOf 45 = .ok (.isub, 1) := by decide +kernel
theorem dX5_tokenOf_46 : decode cX5_tokenOf 46 = .ok (.iconst 4, 1) := by decide +kernel
theorem dX5_tokenOf_47 : decode cX5_tokenOf 47 = .ok (.if_icmp .le 8, 3) := by decide +kernel
theorem dX5_tokenOf_50 : decode cX5_tokenOf 50 = .ok (.bipush (-27), 2) := by decide +kernel
theorem dX5_tokenOf_52 : decode cX5_tokenOf 52 = .ok (.goto 9, 3) := by decide +kernel
theorem dX5_tokenOf_55 : decode cX5_tokenOf 55 = .ok (.aload_n 0, 1) := by decide +kernel
theorem dX5_tokenOf_56 : decode cX5_tokenOf 56 = .ok (.iload_n 1, 1) := by decide +kernel
theorem dX5_tokenOf_57 : decode cX5_tokenOf 57 = .ok (.iload_n 2, 1) := by decide +kernel
theorem dX5_tokenOf_58 : decode cX5_tokenOf 58 = .ok (.invokevirtual 100, 3) := by decide +kernel
theorem dX5_tokenOf_61 : decode cX5_tokenOf 61 = .ok (.ireturn, 1) := by decide +kernel
theorem dX5_tokenOf_62 : decode cX5_tokenOf 62 = .ok (.iload_n 3, 1) := by decide +kernel
theorem dX5_tokenOf_63 : decode cX5_tokenOf 63 = .ok (.invokestatic 103, 3) := by decide +kernel
theorem dX5_tokenOf_66 : decode cX5_tokenOf 66 = .ok (.ireturn, 1) := by decide +kernel
theorem dX5_numberToken_0 : decode cX5_numberToken 0 = .ok (.iconst 0, 1) := by decide +kernel
theorem dX5_numberToken_1 : decode cX5_numberToken 1 = .ok (.istore_n 3, 1) := by decide +kernel
theorem dX5_numberToken_2 : decode cX5_numberToken 2 = .ok (.iload_n 1, 1) := by decide +kernel
theorem dX5_numberToken_3 : decode cX5_numberToken 3 = .ok (.istore 4, 2) := by decide +kernel
theorem dX5_numberToken_5 : decode cX5_numberToken 5 = .ok (.iload 4, 2) := by decide +kernel
theorem dX5_numberToken_7 : decode cX5_numberToken 7 = .ok (.iload_n 2, 1) := by decide +kernel
theorem dX5_numberToken_8 : decode cX5_numberToken 8 = .ok (.if_icmp .ge 24, 3) := by decide +kernel
theorem dX5_numberToken_11 : decode cX5_numberToken 11 = .ok (.bipush 10, 2) := by decide +kernel
theorem dX5_numberToken_13 : decode cX5_numberToken 13 = .ok (.iload_n 3, 1) := by decide +kernel
theorem dX5_numberToken_14 : decode cX5_numberToken 14 = .ok (.imul, 1) := by decide +kernel
theorem dX5_numberToken_15 : decode cX5_numberToken 15 = .ok (.aload_n 0, 1) := by decide +kernel
theorem dX5_numberToken_16 : decode cX5_numberToken 16 = .ok (.iload 4, 2) := by decide +kernel
theorem dX5_numberToken_18 : decode cX5_numberToken 18 = .ok (.invokevirtual 87, 3) := by decide +kernel
theorem dX5_numberToken_21 : decode cX5_numberToken 21 = .ok (.iadd, 1) := by decide +kernel
theorem dX5_numberToken_22 : decode cX5_numberToken 22 = .ok (.bipush 48, 2) := by decide +kernel
theorem dX5_numberToken_24 : decode cX5_numberToken 24 = .ok (.isub, 1) := by decide +kernel
theorem dX5_numberToken_25 : decode cX5_numberToken 25 = .ok (.istore_n 3, 1) := by decide +kernel
theorem dX5_numberToken_26 : decode cX5_numberToken 26 = .ok (.iinc 4 1, 3) := by decide +kernel
theorem dX5_numberToken_29 : decode cX5_numberToken 29 = .ok (.goto (-24), 3) := by decide +kernel
theorem dX5_numberToken_32 : decode cX5_numberToken 32 = .ok (.iload_n 3, 1) := by decide +kernel
theorem dX5_numberToken_33 : decode cX5_numberToken 33 = .ok (.ireturn, 1) := by decide +kernel
theorem dX5_wordToken_0 : decode cX5_wordToken 0 = .ok (.aload_n 0, 1) := by decide +kernel
theorem dX5_wordToken_1 : decode cX5_wordToken 1 = .ok (.ldc 106, 2) := by decide +kernel
theorem dX5_wordToken_3 : decode cX5_wordToken 3 = .ok (.iload_n 1, 1) := by decide +kernel
theorem dX5_wordToken_4 : decode cX5_wordToken 4 = .ok (.iload_n 2, 1) := by decide +kernel
theorem dX5_wordToken_5 : decode cX5_wordToken 5 = .ok (.invokevirtual 108, 3) := by decide +kernel
theorem dX5_wordToken_8 : decode cX5_wordToken 8 = .ok (.ifCond .eq 6, 3) := by decide +kernel
theorem dX5_wordToken_11 : decode cX5_wordToken 11 = .ok (.bipush (-21), 2) := by decide +kernel
theorem dX5_wordToken_13 : decode cX5_wordToken 13 = .ok (.ireturn, 1) := by decide +kernel
theorem dX5_wordToken_14 : decode cX5_wordToken 14 = .ok (.aload_n 0, 1) := by decide +kernel
theorem dX5_wordToken_15 : decode cX5_wordToken 15 = .ok (.ldc 112, 2) := by decide +kernel
theorem dX5_wordToken_17 : decode cX5_wordToken 17 = .ok (.iload_n 1, 1) := by decide +kernel
theorem dX5_wordToken_18 : decode cX5_wordToken 18 = .ok (.iload_n 2, 1) := by decide +kernel
theorem dX5_wordToken_19 : decode cX5_wordToken 19 = .ok (.invokevirtual 108, 3) := by decide +kernel
theorem dX5_wordToken_22 : decode cX5_wordToken 22 = .ok (.ifCond .eq 6, 3) := by decide +kernel
theorem dX5_wordToken_25 : decode cX5_wordToken 25 = .ok (.bipush (-22), 2) := by decide +kernel
theorem dX5_wordToken_27 : decode cX5_wordToken 27 = .ok (.ireturn, 1) := by decide +kernel
theorem dX5_wordToken_28 : decode cX5_wordToken 28 = .ok (.aload_n 0, 1) := by decide +kernel
theorem dX5_wordToken_29 : decode cX5_wordToken 29 = .ok (.ldc 114, 2) := by decide +kernel
theorem dX5_wordToken_31 : decode cX5_wordToken 31 = .ok (.iload_n 1, 1) := by decide +kernel
theorem dX5_wordToken_32 : decode cX5_wordToken 32 = .ok (.iload_n 2, 1) := by decide +kernel
theorem dX5_wordToken_33 : decode cX5_wordToken 33 = .ok (.invokevirtual 108, 3) := by decide +kernel
theorem dX5_wordToken_36 : decode cX5_wordToken 36 = .ok (.ifCond .eq 5, 3) := by decide +kernel
theorem dX5_wordToken_39 : decode cX5_wordToken 39 = .ok (.iconst (-1), 1) := by decide +kernel
theorem dX5_wordToken_40 : decode cX5_wordToken 40 = .ok (.ireturn, 1) := by decide +kernel
theorem dX5_wordToken_41 : decode cX5_wordToken 41 = .ok (.aload_n 0, 1) := by decide +kernel
theorem dX5_wordToken_42 : decode cX5_wordToken 42 = .ok (.ldc 116, 2) := by decide +kernel
theorem dX5_wordToken_44 : decode cX5_wordToken 44 = .ok (.iload_n 1, 1) := by decide +kernel
theorem dX5_wordToken_45 : decode cX5_wordToken 45 = .ok (.iload_n 2, 1) := by decide +kernel
theorem dX5_wordToken_46 : decode cX5_wordToken 46 = .ok (.invokevirtual 108, 3) := by decide +kernel
theorem dX5_wordToken_49 : decode cX5_wordToken 49 = .ok (.ifCond .eq 6, 3) := by decide +kernel
theorem dX5_wordToken_52 : decode cX5_wordToken 52 = .ok (.bipush (-2), 2) := by decide +kernel
theorem dX5_wordToken_54 : decode cX5_wordToken 54 = .ok (.ireturn, 1) := by decide +kernel
theorem dX5_wordToken_55 : decode cX5_wordToken 55 = .ok (.aload_n 0, 1) := by decide +kernel
theorem dX5_wordToken_56 : decode cX5_wordToken 56 = .ok (.ldc 118, 2) := by decide +kernel
theorem dX5_wordToken_58 : decode cX5_wordToken 58 = .ok (.iload_n 1, 1) := by decide +kernel
theorem dX5_wordToken_59 : decode cX5_wordToken 59 = .ok (.iload_n 2, 1) := by decide +kernel
theorem dX5_wordToken_60 : decode cX5_wordToken 60 = .ok (.invokevirtual 108, 3) := by decide +kernel
theorem dX5_wordToken_63 : decode cX5_wordToken 63 = .ok (.ifCond .eq 6, 3) := by decide +kernel
theorem dX5_wordToken_66 : decode cX5_wordToken 66 = .ok (.bipush (-3), 2) := by decide +kernel
theorem dX5_wordToken_68 : decode cX5_wordToken 68 = .ok (.ireturn, 1) := by decide +kernel
theorem dX5_wordToken_69 : decode cX5_wordToken 69 = .ok (.aload_n 0, 1) := by decide +kernel
theorem dX5_wordToken_70 : decode cX5_wordToken 70 = .ok (.ldc 120, 2) := by decide +kernel
theorem dX5_wordToken_72 : decode cX5_wordToken 72 = .ok (.iload_n 1, 1) := by decide +kernel
theorem dX5_wordToken_73 : decode cX5_wordToken 73 = .ok (.iload_n 2, 1) := by decide +kernel
theorem dX5_wordToken_74 : decode cX5_wordToken 74 = .ok (.invokevirtual 108, 3) := by decide +kernel
theorem dX5_wordToken_77 : decode cX5_wordToken 77 = .ok (.ifCond .eq 6, 3) := by decide +kernel
theorem dX5_wordToken_80 : decode cX5_wordToken 80 = .ok (.bipush (-10), 2) := by decide +kernel
theorem dX5_wordToken_82 : decode cX5_wordToken 82 = .ok (.ireturn, 1) := by decide +kernel
theorem dX5_wordToken_83 : decode cX5_wordToken 83 = .ok (.aload_n 0, 1) := by decide +kernel
theorem dX5_wordToken_84 : decode cX5_wordToken 84 = .ok (.ldc 122, 2) := by decide +kernel
theorem dX5_wordToken_86 : decode cX5_wordToken 86 = .ok (.iload_n 1, 1) := by decide +kernel
theorem dX5_wordToken_87 : decode cX5_wordToken 87 = .ok (.iload_n 2, 1) := by decide +kernel
theorem dX5_wordToken_88 : decode cX5_wordToken 88 = .ok (.invokevirtual 108, 3) := by decide +kernel
theorem dX5_wordToken_91 : decode cX5_wordToken 91 = .ok (.ifCond .eq 6, 3) := by decide +kernel
theorem dX5_wordToken_94 : decode cX5_wordToken 94 = .ok (.bipush (-11), 2) := by decide +kernel
theorem dX5_wordToken_96 : decode cX5_wordToken 96 = .ok (.ireturn, 1) := by decide +kernel
theorem dX5_wordToken_97 : decode cX5_wordToken 97 = .ok (.aload_n 0, 1) := by decide +kernel
theorem dX5_wordToken_98 : decode cX5_wordToken 98 = .ok (.ldc 124, 2) := by decide +kernel
theorem dX5_wordToken_100 : decode cX5_wordToken 100 = .ok (.iload_n 1, 1) := by decide +kernel
theorem dX5_wordToken_101 : decode cX5_wordToken 101 = .ok (.iload_n 2, 1) := by decide +kernel
theorem dX5_wordToken_102 : decode cX5_wordToken 102 = .ok (.invokevirtual 108, 3) := by decide +kernel
theorem dX5_wordToken_105 : decode cX5_wordToken 105 = .ok (.ifCond .eq 6, 3) := by decide +kernel
theorem dX5_wordToken_108 : decode cX5_wordToken 108 = .ok (.bipush (-12), 2) := by decide +kernel
theorem dX5_wordToken_110 : decode cX5_wordToken 110 = .ok (.ireturn, 1) := by decide +kernel
theorem dX5_wordToken_111 : decode cX5_wordToken 111 = .ok (.aload_n 0, 1) := by decide +kernel
theorem dX5_wordToken_112 : decode cX5_wordToken 112 = .ok (.ldc 126, 2) := by decide +kernel
theorem dX5_wordToken_114 : decode cX5_wordToken 114 = .ok (.iload_n 1, 1) := by decide +kernel
theorem dX5_wordToken_115 : decode cX5_wordToken 115 = .ok (.iload_n 2, 1) := by decide +kernel
theorem dX5_wordToken_116 : decode cX5_wordToken 116 = .ok (.invokevirtual 108, 3) := by decide +kernel
theorem dX5_wordToken_119 : decode cX5_wordToken 119 = .ok (.ifCond .eq 6, 3) := by decide +kernel
theorem dX5_wordToken_122 : decode cX5_wordToken 122 = .ok (.bipush (-13), 2) := by decide +kernel
theorem dX5_wordToken_124 : decode cX5_wordToken 124 = .ok (.ireturn, 1) := by decide +kernel
theorem dX5_wordToken_125 : decode cX5_wordToken 125 = .ok (.aload_n 0, 1) := by decide +kernel
theorem dX5_wordToken_126 : decode cX5_wordToken 126 = .ok (.ldc 128, 2) := by decide +kernel
theorem dX5_wordToken_128 : decode cX5_wordToken 128 = .ok (.iload_n 1, 1) := by decide +kernel
theorem dX5_wordToken_129 : decode cX5_wordToken 129 = .ok (.iload_n 2, 1) := by decide +kernel
theorem dX5_wordToken_130 : decode cX5_wordToken 130 = .ok (.invokevirtual 108, 3) := by decide +kernel
theorem dX5_wordToken_133 : decode cX5_wordToken 133 = .ok (.ifCond .eq 8, 3) := by decide +kernel
theorem dX5_wordToken_136 : decode cX5_wordToken 136 = .ok (.bipush (-14), 2) := by decide +kernel
theorem dX5_wordToken_138 : decode cX5_wordToken 138 = .ok (.goto 5, 3) := by decide +kernel
theorem dX5_wordToken_141 : decode cX5_wordToken 141 = .ok (.bipush (-27), 2) := by decide +kernel
theorem dX5_wordToken_143 : decode cX5_wordToken 143 = .ok (.ireturn, 1) := by decide +kernel
theorem dX5_isWord_0 : decode cX5_isWord 0 = .ok (.iload_n 3, 1) := by decide +kernel
theorem dX5_isWord_1 : decode cX5_isWord 1 = .ok (.iload_n 2, 1) := by decide +kernel
theorem dX5_isWord_2 : decode cX5_isWord 2 = .ok (.isub, 1) := by decide +kernel
theorem dX5_isWord_3 : decode cX5_isWord 3 = .ok (.aload_n 1, 1) := by decide +kernel
theorem dX5_isWord_4 : decode cX5_isWord 4 = .ok (.invokevirtual 130, 3) := by decide +kernel
theorem dX5_isWord_7 : decode cX5_isWord 7 = .ok (.if_icmp .eq 5, 3) := by decide +kernel
theorem dX5_isWord_10 : decode cX5_isWord 10 = .ok (.iconst 0, 1) := by decide +kernel
theorem dX5_isWord_11 : decode cX5_isWord 11 = .ok (.ireturn, 1) := by decide +kernel
theorem dX5_isWord_12 : decode cX5_isWord 12 = .ok (.iconst 0, 1) := by decide +kernel
theorem dX5_isWord_13 : decode cX5_isWord 13 = .ok (.istore 4, 2) := by decide +kernel
theorem dX5_isWord_15 : decode cX5_isWord 15 = .ok (.iload 4, 2) := by decide +kernel
theorem dX5_isWord_17 : decode cX5_isWord 17 = .ok (.aload_n 1, 1) := by decide +kernel
theorem dX5_isWord_18 : decode cX5_isWord 18 = .ok (.invokevirtual 130, 3) := by decide +kernel
theorem dX5_isWord_21 : decode cX5_isWord 21 = .ok (.if_icmp .ge 28, 3) := by decide +kernel
theorem dX5_isWord_24 : decode cX5_isWord 24 = .ok (.aload_n 0, 1) := by decide +kernel
theorem dX5_isWord_25 : decode cX5_isWord 25 = .ok (.iload_n 2, 1) := by decide +kernel
theorem dX5_isWord_26 : decode cX5_isWord 26 = .ok (.iload 4, 2) := by decide +kernel
theorem dX5_isWord_28 : decode cX5_isWord 28 = .ok (.iadd, 1) := by decide +kernel
theorem dX5_isWord_29 : decode cX5_isWord 29 = .ok (.invokevirtual 87, 3) := by decide +kernel
theorem dX5_isWord_32 : decode cX5_isWord 32 = .ok (.aload_n 1, 1) := by decide +kernel
theorem dX5_isWord_33 : decode cX5_isWord 33 = .ok (.iload 4, 2) := by decide +kernel
theorem dX5_isWord_35 : decode cX5_isWord 35 = .ok (.invokevirtual 136, 3) := by decide +kernel
theorem dX5_isWord_38 : decode cX5_isWord 38 = .ok (.if_icmp .eq 5, 3) := by decide +kernel
theorem dX5_isWord_41 : decode cX5_isWord 41 = .ok (.iconst 0, 1) := by decide +kernel
theorem dX5_isWord_42 : decode cX5_isWord 42 = .ok (.ireturn, 1) := by decide +kernel
theorem dX5_isWord_43 : decode cX5_isWord 43 = .ok (.iinc 4 1, 3) := by decide +kernel
theorem dX5_isWord_46 : decode cX5_isWord 46 = .ok (.goto (-31), 3) := by decide +kernel
theorem dX5_isWord_49 : decode cX5_isWord 49 = .ok (.iconst 1, 1) := by decide +kernel
theorem dX5_isWord_50 : decode cX5_isWord 50 = .ok (.ireturn, 1) := by decide +kernel
theorem dX5_signToken_0 : decode cX5_signToken 0 = .ok (.iload_n 0, 1) := by decide +kernel
theorem dX5_signToken_1 : decode cX5_signToken 1 = .ok (.tableswitch 127 40 61 #[103, 106, 118, 112, 127, 115, 127, 127, 127, 127, 127, 127, 127, 127, 127, 127, 127, 127, 127, 109, 121, 124], 103) := by decide +kernel
theorem dX5_signToken_104 : decode cX5_signToken 104 = .ok (.bipush (-23), 2) := by decide +kernel
theorem dX5_signToken_106 : decode cX5_signToken 106 = .ok (.ireturn, 1) := by decide +kernel
theorem dX5_signToken_107 : decode cX5_signToken 107 = .ok (.bipush (-24), 2) := by decide +kernel
theorem dX5_signToken_109 : decode cX5_signToken 109 = .ok (.ireturn, 1) := by decide +kernel
theorem dX5_signToken_110 : decode cX5_signToken 110 = .ok (.bipush (-25), 2) := by decide +kernel
theorem dX5_signToken_112 : decode cX5_signToken 112 = .ok (.ireturn, 1) := by decide +kernel
theorem dX5_signToken_113 : decode cX5_signToken 113 = .ok (.bipush (-6), 2) := by decide +kernel
theorem dX5_signToken_115 : decode cX5_signToken 115 = .ok (.ireturn, 1) := by decide +kernel
theorem dX5_signToken_116 : decode cX5_signToken 116 = .ok (.bipush (-7), 2) := by decide +kernel
theorem dX5_signToken_118 : decode cX5_signToken 118 = .ok (.ireturn, 1) := by decide +kernel
theorem dX5_signToken_119 : decode cX5_signToken 119 = .ok (.bipush (-8), 2) := by decide +kernel
theorem dX5_signToken_121 : decode cX5_signToken 121 = .ok (.ireturn, 1) := by decide +kernel
theorem dX5_signToken_122 : decode cX5_signToken 122 = .ok (.bipush (-4), 2) := by decide +kernel
theorem dX5_signToken_124 : decode cX5_signToken 124 = .ok (.ireturn, 1) := by decide +kernel
theorem dX5_signToken_125 : decode cX5_signToken 125 = .ok (.bipush (-5), 2) := by decide +kernel
theorem dX5_signToken_127 : decode cX5_signToken 127 = .ok (.ireturn, 1) := by decide +kernel
theorem dX5_signToken_128 : decode cX5_signToken 128 = .ok (.bipush (-27), 2) := by decide +kernel
theorem dX5_signToken_130 : decode cX5_signToken 130 = .ok (.ireturn, 1) := by decide +kernel
theorem dX5_kindOf_0 : decode cX5_kindOf 0 = .ok (.iload_n 0, 1) := by decide +kernel
theorem dX5_kindOf_1 : decode cX5_kindOf 1 = .ok (.bipush 97, 2) := by decide +kernel
theorem dX5_kindOf_3 : decode cX5_kindOf 3 = .ok (.bipush 122, 2) := by decide +kernel
theorem dX5_kindOf_5 : decode cX5_kindOf 5 = .ok (.invokestatic 140, 3) := by decide +kernel
theorem dX5_kindOf_8 : decode cX5_kindOf 8 = .ok (.ifCond .eq 5, 3) := by decide +kernel
theorem dX5_kindOf_11 : decode cX5_kindOf 11 = .ok (.iconst 1, 1) := by decide +kernel
theorem dX5_kindOf_12 : decode cX5_kindOf 12 = .ok (.ireturn, 1) := by decide +kernel
theorem dX5_kindOf_13 : decode cX5_kindOf 13 = .ok (.iload_n 0, 1) := by decide +kernel
theorem dX5_kindOf_14 : decode cX5_kindOf 14 = .ok (.bipush 48, 2) := by decide +kernel
theorem dX5_kindOf_16 : decode cX5_kindOf 16 = .ok (.bipush 57, 2) := by decide +kernel
theorem dX5_kindOf_18 : decode cX5_kindOf 18 = .ok (.invokestatic 140, 3) := by decide +kernel
theorem dX5_kindOf_21 : decode cX5_kindOf 21 = .ok (.ifCond .eq 5, 3) := by decide +kernel
theorem dX5_kindOf_24 : decode cX5_kindOf 24 = .ok (.iconst 2, 1) := by decide +kernel
theorem dX5_kindOf_25 : decode cX5_kindOf 25 = .ok (.ireturn, 1) := by decide +kernel
theorem dX5_kindOf_26 : decode cX5_kindOf 26 = .ok (.iload_n 0, 1) := by decide +kernel
theorem dX5_kindOf_27 : decode cX5_kindOf 27 = .ok (.bipush 32, 2) := by decide +kernel
theorem dX5_kindOf_29 : decode cX5_kindOf 29 = .ok (.if_icmp .eq 9, 3) := by decide +kernel
theorem dX5_kindOf_32 : decode cX5_kindOf 32 = .ok (.iload_n 0, 1) := by decide +kernel
theorem dX5_kindOf_33 : decode cX5_kindOf 33 = .ok (.bipush 10, 2) := by decide +kernel
theorem dX5_kindOf_35 : decode cX5_kindOf 35 = .ok (.if_icmp .ne 7, 3) := by decide +kernel
theorem dX5_kindOf_38 : decode cX5_kindOf 38 = .ok (.iconst 3, 1) := by decide +kernel
theorem dX5_kindOf_39 : decode cX5_kindOf 39 = .ok (.goto 4, 3) := by decide +kernel
theorem dX5_kindOf_42 : decode cX5_kindOf 42 = .ok (.iconst 0, 1) := by decide +kernel
theorem dX5_kindOf_43 : decode cX5_kindOf 43 = .ok (.ireturn, 1) := by decide +kernel
theorem dX5_byteAt_0 : decode cX5_byteAt 0 = .ok (.iload_n 1, 1) := by decide +kernel
theorem dX5_byteAt_1 : decode cX5_byteAt 1 = .ok (.ifCond .lt 20, 3) := by decide +kernel
theorem dX5_byteAt_4 : decode cX5_byteAt 4 = .ok (.iload_n 1, 1) := by decide +kernel
theorem dX5_byteAt_5 : decode cX5_byteAt 5 = .ok (.aload_n 0, 1) := by decide +kernel
theorem dX5_byteAt_6 : decode cX5_byteAt 6 = .ok (.getfield 21, 3) := by decide +kernel
theorem dX5_byteAt_9 : decode cX5_byteAt 9 = .ok (.if_icmp .ge 12, 3) := by decide +kernel
theorem dX5_byteAt_12 : decode cX5_byteAt 12 = .ok (.aload_n 0, 1) := by decide +kernel
theorem dX5_byteAt_13 : decode cX5_byteAt 13 = .ok (.getfield 9, 3) := by decide +kernel
theorem dX5_byteAt_16 : decode cX5_byteAt 16 = .ok (.iload_n 1, 1) := by decide +kernel
theorem dX5_byteAt_17 : decode cX5_byteAt 17 = .ok (.iaload, 1) := by decide +kernel
theorem dX5_byteAt_18 : decode cX5_byteAt 18 = .ok (.goto 4, 3) := by decide +kernel
theorem dX5_byteAt_21 : decode cX5_byteAt 21 = .ok (.iconst (-1), 1) := by decide +kernel
theorem dX5_byteAt_22 : decode cX5_byteAt 22 = .ok (.ireturn, 1) := by decide +kernel
theorem dX6_init_0 : decode cX6_init 0 = .ok (.aload_n 0, 1) := by decide +kernel
theorem dX6_init_1 : decode cX6_init 1 = .ok (.invokespecial 3, 3) := by decide +kernel
theorem dX6_init_4 : decode cX6_init 4 = .ok (.aload_n 0, 1) := by decide +kernel
theorem dX6_init_5 : decode cX6_init 5 = .ok (.iconst 3, 1) := by decide +kernel
theorem dX6_init_6 : decode cX6_init 6 = .ok (.newarray .int, 2) := by decide +kernel
theorem dX6_init_8 : decode cX6_init 8 = .ok (.putfield 9, 3) := by decide +kernel
theorem dX6_init_11 : decode cX6_init 11 = .ok (.aload_n 0, 1) := by decide +kernel
theorem dX6_init_12 : decode cX6_init 12 = .ok (.iconst 3, 1) := by decide +kernel
theorem dX6_init_13 : decode cX6_init 13 = .ok (.newarray .int, 2) := by decide +kernel
theorem dX6_init_15 : decode cX6_init 15 = .ok (.putfield 15, 3) := by decide +kernel
theorem dX6_init_18 : decode cX6_init 18 = .ok (.aload_n 0, 1) := by decide +kernel
theorem dX6_init_19 : decode cX6_init 19 = .ok (.new 18, 3) := by decide +kernel
theorem dX6_init_22 : decode cX6_init 22 = .ok (.dup, 1) := by decide +kernel
theorem dX6_init_23 : decode cX6_init 23 = .ok (.invokespecial 20, 3) := by decide +kernel
theorem dX6_init_26 : decode cX6_init 26 = .ok (.putfield 21, 3) := by decide +kernel
theorem dX6_init_29 : decode cX6_init 29 = .ok (.return_, 1) := by decide +kernel
theorem dX6_run_0 : decode cX6_run 0 = .ok (.aload_n 0, 1) := by decide +kernel
theorem dX6_run_1 : decode cX6_run 1 = .ok (.iload_n 3, 1) := by decide +kernel
theorem dX6_run_2 : decode cX6_run 2 = .ok (.aload_n 2, 1) := by decide +kernel
theorem dX6_run_3 : decode cX6_run 3 = .ok (.arraylength, 1) := by decide +kernel
theorem dX6_run_4 : decode cX6_run 4 = .ok (.invokestatic 25, 3) := by decide +kernel
theorem dX6_run_7 : decode cX6_run 7 = .ok (.putfield 31, 3) := by decide +kernel
theorem dX6_run_10 : decode cX6_run 10 = .ok (.aload_n 0, 1) := by decide +kernel
theorem dX6_run_11 : decode cX6_run 11 = .ok (.iload 4, 2) := by decide +kernel
theorem dX6_run_13 : decode cX6_run 13 = .ok (.iconst 3, 1) := by decide +kernel
theorem dX6_run_14 : decode cX6_run 14 = .ok (.invokestatic 25, 3) := by decide +kernel
theorem dX6_run_17 : decode cX6_run 17 = .ok (.putfield 35, 3) := by decide +kernel
theorem dX6_run_20 : decode cX6_run 20 = .ok (.aload_n 0, 1) := by decide +kernel
theorem dX6_run_21 : decode cX6_run 21 = .ok (.iconst 0, 1) := by decide +kernel
theorem dX6_run_22 : decode cX6_run 22 = .ok (.putfield 38, 3) := by decide +kernel
theorem dX6_run_25 : decode cX6_run 25 = .ok (.aload_n 0, 1) := by decide +kernel
theorem dX6_run_26 : decode cX6_run 26 = .ok (.lconst 0, 1) := by decide +kernel
theorem dX6_run_27 : decode cX6_run 27 = .ok (.putfield 41, 3) := by decide +kernel
theorem dX6_run_30 : decode cX6_run 30 = .ok (.aload_n 0, 1) := by decide +kernel
theorem dX6_run_31 : decode cX6_run 31 = .ok (.iconst 0, 1) := by decide +kernel
theorem dX6_run_32 : decode cX6_run 32 = .ok (.putfield 45, 3) := by decide +kernel
theorem dX6_run_35 : decode cX6_run 35 = .ok (.aload_n 0, 1) := by decide +kernel
theorem dX6_run_36 : decode cX6_run 36 = .ok (.aload_n 1, 1) := by decide +kernel
theorem dX6_run_37 : decode cX6_run 37 = .ok (.aload_n 2, 1) := by decide +kernel
theorem dX6_run_38 : decode cX6_run 38 = .ok (.aload_n 1, 1) := by decide +kernel
theorem dX6_run_39 : decode cX6_run 39 = .ok (.getfield 48, 3) := by decide +kernel
theorem dX6_run_42 : decode cX6_run 42 = .ok (.aload_n 1, 1) := by decide +kernel
theorem dX6_run_43 : decode cX6_run 43 = .ok (.getfield 54, 3) := by decide +kernel
theorem dX6_run_46 : decode cX6_run 46 = .ok (.lconst 0, 1) := by decide +kernel
theorem dX6_run_47 : decode cX6_run 47 = .ok (.iconst 0, 1) := by decide +kernel
theorem dX6_run_48 : decode cX6_run 48 = .ok (.invokevirtual 57, 3) := by decide +kernel
theorem dX6_run_51 : decode cX6_run 51 = .ok (.return_, 1) := by decide +kernel
theorem dX6_link_0 : decode cX6_link 0 = .ok (.iload_n 1, 1) := by decide +kernel
theorem dX6_link_1 : decode cX6_link 1 = .ok (.ifCond .lt 20, 3) := by decide +kernel
theorem dX6_link_4 : decode cX6_link 4 = .ok (.iload_n 1, 1) := by decide +kernel
theorem dX6_link_5 : decode cX6_link 5 = .ok (.aload_n 0, 1) := by decide +kernel
theorem dX6_link_6 : decode cX6_link 6 = .ok (.getfield 38, 3) := by decide +kernel
theorem dX6_link_9 : decode cX6_link 9 = .ok (.if_icmp .ge 12, 3) := by decide +kernel
theorem dX6_link_12 : decode cX6_link 12 = .ok (.aload_n 0, 1) := by decide +kernel
theorem dX6_link_13 : decode cX6_link 13 = .ok (.getfield 9, 3) := by decide +kernel
theorem dX6_link_16 : decode cX6_link 16 = .ok (.iload_n 1, 1) := by decide +kernel
theorem dX6_link_17 : decode cX6_link 17 = .ok (.iaload, 1) := by decide +kernel
theorem dX6_link_18 : decode cX6_link 18 = .ok (.goto 4, 3) := by decide +kernel
theorem dX6_link_21 : decode cX6_link 21 = .ok (.iconst (-1), 1) := by decide +kernel
theorem dX6_link_22 : decode cX6_link 22 = .ok (.ireturn, 1) := by decide +kernel
theorem dX6_extend_0 : decode cX6_extend 0 = .ok (.iload 7, 2) := by decide +kernel
theorem dX6_extend_2 : decode cX6_extend 2 = .ok (.ifCond .lt 12, 3) := by decide +kernel
theorem dX6_extend_5 : decode cX6_extend 5 = .ok (.iload 7, 2) := by decide +kernel
theorem dX6_extend_7 : decode cX6_extend 7 = .ok (.aload_n 0, 1) := by decide +kernel
theorem dX6_extend_8 : decode cX6_extend 8 = .ok (.getfield 35, 3) := by decide +kernel
theorem dX6_extend_11 : decode cX6_extend 11 = .ok (.if_icmp .lt 4, 3) := by decide +kernel
theorem dX6_extend_14 : decode cX6_extend 14 = .ok (.return_, 1) := by decide +kernel
theorem dX6_extend_15 : decode cX6_extend 15 = .ok (.iconst 0, 1) := by decide +kernel
theorem dX6_extend_16 : decode cX6_extend 16 = .ok (.istore 8, 2) := by decide +kernel
theorem dX6_extend_18 : decode cX6_extend 18 = .ok (.iload 8, 2) := by decide +kernel
theorem dX6_extend_20 : decode cX6_extend 20 = .ok (.aload_n 0, 1) := by decide +kernel
theorem dX6_extend_21 : decode cX6_extend 21 = .ok (.getfield 31, 3) := by decide +kernel
theorem dX6_extend_24 : decode cX6_extend 24 = .ok (.if_icmp .ge 126, 3) := by decide +kernel
theorem dX6_extend_27 : decode cX6_extend 27 = .ok (.aload_n 2, 1) := by decide +kernel
theorem dX6_extend_28 : decode cX6_extend 28 = .ok (.iload 8, 2) := by decide +kernel
theorem dX6_extend_30 : decode cX6_extend 30 = .ok (.aaload, 1) := by decide +kernel
theorem dX6_extend_31 : decode cX6_extend 31 = .ok (.astore 9, 2) := by decide +kernel
theorem dX6_extend_33 : decode cX6_extend 33 = .ok (.aload 9, 2) := by decide +kernel
theorem dX6_extend_35 : decode cX6_extend 35 = .ok (.ifnull 109, 3) := by decide +kernel
theorem dX6_extend_38 : decode cX6_extend 38 = .ok (.aload_n 0, 1) := by decide +kernel
theorem dX6_extend_39 : decode cX6_extend 39 = .ok (.iload 8, 2) := by decide +kernel
theorem dX6_extend_41 : decode cX6_extend 41 = .ok (.iload 7, 2) := by decide +kernel
theorem dX6_extend_43 : decode cX6_extend 43 = .ok (.invokevirtual 61, 3) := by decide +kernel
theorem dX6_extend_46 : decode cX6_extend 46 = .ok (.ifCond .eq 6, 3) := by decide +kernel
theorem dX6_extend_49 : decode cX6_extend 49 = .ok (.goto 95, 3) := by decide +kernel
theorem dX6_extend_52 : decode cX6_extend 52 = .ok (.aload_n 0, 1) := by decide +kernel
theorem dX6_extend_53 : decode cX6_extend 53 = .ok (.getfield 21, 3) := by decide +kernel
theorem dX6_extend_56 : decode cX6_extend 56 = .ok (.aload_n 1, 1) := by decide +kernel
theorem dX6_extend_57 : decode cX6_extend 57 = .ok (.aload_n 3, 1) := by decide +kernel
theorem dX6_extend_58 : decode cX6_extend 58 = .ok (.iload 4, 2) := by decide +kernel
theorem dX6_extend_60 : decode cX6_extend 60 = .ok (.aload 9, 2) := by decide +kernel
theorem dX6_extend_62 : decode cX6_extend 62 = .ok (.invokevirtual 65, 3) := by decide +kernel
theorem dX6_extend_65 : decode cX6_extend 65 = .ok (.aload_n 0, 1) := by decide +kernel
theorem dX6_extend_66 : decode cX6_extend 66 = .ok (.getfield 21, 3) := by decide +kernel
theorem dX6_extend_69 : decode cX6_extend 69 = .ok (.getfield 69, 3) := by decide +kernel
theorem dX6_extend_72 : decode cX6_extend 72 = .ok (.ifCond .eq 6, 3) := by decide +kernel
theorem dX6_extend_75 : decode cX6_extend 75 = .ok (.goto 69, 3) := by decide +kernel
theorem dX6_extend_78 : decode cX6_extend 78 = .ok (.aload_n 0, 1) := by decide +kernel
theorem dX6_extend_79 : decode cX6_extend 79 = .ok (.getfield 21, 3) := by decide +kernel
theorem dX6_extend_82 : decode cX6_extend 82 = .ok (.getfield 72, 3) := by decide +kernel
theorem dX6_extend_85 : decode cX6_extend 85 = .ok (.istore 10, 2) := by decide +kernel
theorem dX6_extend_87 : decode cX6_extend 87 = .ok (.lload 5, 2) := by decide +kernel
theorem dX6_extend_89 : decode cX6_extend 89 = .ok (.aload_n 0, 1) := by decide +kernel
theorem dX6_extend_90 : decode cX6_extend 90 = .ok (.getfield 21, 3) := by decide +kernel
theorem dX6_extend_93 : decode cX6_extend 93 = .ok (.getfield 75, 3) := by decide +kernel
theorem dX6_extend_96 : decode cX6_extend 96 = .ok (.ladd, 1) := by decide +kernel
theorem dX6_extend_97 : decode cX6_extend 97 = .ok (.lstore 11, 2) := by decide +kernel
theorem dX6_extend_99 : decode cX6_extend 99 = .ok (.aload_n 0, 1) := by decide +kernel
theorem dX6_extend_100 : decode cX6_extend 100 = .ok (.getfield 15, 3) := by decide +kernel
theorem dX6_extend_103 : decode cX6_extend 103 = .ok (.iload 7, 2) := by decide +kernel
theorem dX6_extend_105 : decode cX6_extend 105 = .ok (.iload 8, 2) := by decide +kernel
theorem dX6_extend_107 : decode cX6_extend 107 = .ok (.iastore, 1) := by decide +kernel
theorem dX6_extend_108 : decode cX6_extend 108 = .ok (.aload_n 0, 1) := by decide +kernel
theorem dX6_extend_109 : decode cX6_extend 109 = .ok (.iload 7, 2) := by decide +kernel
theorem dX6_extend_111 : decode cX6_extend 111 = .ok (.iconst 1, 1) := by decide +kernel
theorem dX6_extend_112 : decode cX6_extend 112 = .ok (.iadd, 1) := by decide +kernel
theorem dX6_extend_113 : decode cX6_extend 113 = .ok (.lload 11, 2) := by decide +kernel
theorem dX6_extend_115 : decode cX6_extend 115 = .ok (.iload 10, 2) := by decide +kernel
theorem dX6_extend_117 : decode cX6_extend 117 = .ok (.aload_n 1, 1) := by decide +kernel
theorem dX6_extend_118 : decode cX6_extend 118 = .ok (.getfield 54, 3) := by decide +kernel
theorem dX6_extend_121 : decode cX6_extend 121 = .ok (.isub, 1) := by decide +kernel
theorem dX6_extend_122 : decode cX6_extend 122 = .ok (.invokevirtual 76, 3) := by decide +kernel
theorem dX6_extend_125 : decode cX6_extend 125 = .ok (.aload_n 0, 1) := by decide +kernel
theorem dX6_extend_126 : decode cX6_extend 126 = .ok (.aload_n 1, 1) := by decide +kernel
theorem dX6_extend_127 : decode cX6_extend 127 = .ok (.aload_n 2, 1) := by decide +kernel
theorem dX6_extend_128 : decode cX6_extend 128 = .ok (.aload 9, 2) := by decide +kernel
theorem dX6_extend_130 : decode cX6_extend 130 = .ok (.getfield 80, 3) := by decide +kernel
theorem dX6_extend_133 : decode cX6_extend 133 = .ok (.iload 10, 2) := by decide +kernel
theorem dX6_extend_135 : decode cX6_extend 135 = .ok (.lload 11, 2) := by decide +kernel
theorem dX6_extend_137 : decode cX6_extend 137 = .ok (.iload 7, 2) := by decide +kernel
theorem dX6_extend_139 : decode cX6_extend 139 = .ok (.iconst 1, 1) := by decide +kernel
theorem dX6_extend_140 : decode cX6_extend 140 = .ok (.iadd, 1) := by decide +kernel
theorem dX6_extend_141 : decode cX6_extend 141 = .ok (.invokevirtual 57, 3) := by decide +kernel
theorem dX6_extend_144 : decode cX6_extend 144 = .ok (.iinc 8 1, 3) := by decide +kernel
theorem dX6_extend_147 : decode cX6_extend 147 = .ok (.goto (-129), 3) := by decide +kernel
theorem dX6_extend_150 : decode cX6_extend 150 = .ok (.return_, 1) := by decide +kernel
theorem dX6_isTried_0 : decode cX6_isTried 0 = .ok (.iconst 0, 1) := by decide +kernel
theorem dX6_isTried_1 : decode cX6_isTried 1 = .ok (.istore_n 3, 1) := by decide +kernel
theorem dX6_isTried_2 : decode cX6_isTried 2 = .ok (.iload_n 3, 1) := by decide +kernel
theorem dX6_isTried_3 : decode cX6_isTried 3 = .ok (.iload_n 2, 1) := by decide +kernel
theorem dX6_isTried_4 : decode cX6_isTried 4 = .ok (.if_icmp .ge 21, 3) := by decide +kernel
theorem dX6_isTried_7 : decode cX6_isTried 7 = .ok (.aload_n 0, 1) := by decide +kernel
theorem dX6_isTried_8 : decode cX6_isTried 8 = .ok (.getfield 15, 3) := by decide +kernel
theorem dX6_isTried_11 : decode cX6_isTried 11 = .ok (.iload_n 3, 1) := by decide +kernel
theorem dX6_isTried_12 : decode cX6_isTried 12 = .ok (.iaload, 1) := by decide +kernel
theorem dX6_isTried_13 : decode cX6_isTried 13 = .ok (.iload_n 1, 1) := by decide +kernel
theorem dX6_isTried_14 : decode cX6_isTried 14 = .ok (.if_icmp .ne 5, 3) := by decide +kernel
theorem dX6_isTried_17 : decode cX6_isTried 17 = .ok (.iconst 1, 1) := by decide +kernel
theorem dX6_isTried_18 : decode cX6_isTried 18 = .ok (.ireturn, 1) := by decide +kernel
theorem dX6_isTried_19 : decode cX6_isTried 19 = .ok (.iinc 3 1, 3) := by decide +kernel
theorem dX6_isTried_22 : decode cX6_isTried 22 = .ok (.goto (-20), 3) := by decide +kernel
theorem dX6_isTried_25 : decode cX6_isTried 25 = .ok (.iconst 0, 1) := by decide +kernel
theorem dX6_isTried_26 : decode cX6_isTried 26 = .ok (.ireturn, 1) := by decide +kernel
theorem dX6_keepIfBetter_0 : decode cX6_keepIfBetter 0 = .ok (.lload_n 2, 1) := by decide +kernel
theorem dX6_keepIfBetter_1 : decode cX6_keepIfBetter 1 = .ok (.aload_n 0, 1) := by decide +kernel
theorem dX6_keepIfBetter_2 : decode cX6_keepIfBetter 2 = .ok (.getfield 45, 3) := by decide +kernel
theorem dX6_keepIfBetter_5 : decode cX6_keepIfBetter 5 = .ok (.i2l, 1) := by decide +kernel
theorem dX6_keepIfBetter_6 : decode cX6_keepIfBetter 6 = .ok (.lmul, 1) := by decide +kernel
theorem dX6_keepIfBetter_7 : decode cX6_keepIfBetter 7 = .ok (.aload_n 0, 1) := by decide +kernel
theorem dX6_keepIfBetter_8 : decode cX6_keepIfBetter 8 = .ok (.getfield 41, 3) := by decide +kernel
theorem dX6_keepIfBetter_11 : decode cX6_keepIfBetter 11 = .ok (.iload 4, 2) := by decide +kernel
theorem dX6_keepIfBetter_13 : decode cX6_keepIfBetter 13 = .ok (.i2l, 1) := by decide +kernel
theorem dX6_keepIfBetter_14 : decode cX6_keepIfBetter 14 = .ok (.lmul, 1) := by decide +kernel
theorem dX6_keepIfBetter_15 : decode cX6_keepIfBetter 15 = .ok (.lsub, 1) := by decide +kernel
theorem dX6_keepIfBetter_16 : decode cX6_keepIfBetter 16 = .ok (.lstore 5, 2) := by decide +kernel
theorem dX6_keepIfBetter_18 : decode cX6_keepIfBetter 18 = .ok (.aload_n 0, 1) := by decide +kernel
theorem dX6_keepIfBetter_19 : decode cX6_keepIfBetter 19 = .ok (.getfield 38, 3) := by decide +kernel
theorem dX6_keepIfBetter_22 : decode cX6_keepIfBetter 22 = .ok (.ifCond .eq 25, 3) := by decide +kernel
theorem dX6_keepIfBetter_25 : decode cX6_keepIfBetter 25 = .ok (.lload 5, 2) := by decide +kernel
theorem dX6_keepIfBetter_27 : decode cX6_keepIfBetter 27 = .ok (.lconst 0, 1) := by decide +kernel
theorem dX6_keepIfBetter_28 : decode cX6_keepIfBetter 28 = .ok (.lcmp, 1) := by decide +kernel
theorem dX6_keepIfBetter_29 : decode cX6_keepIfBetter 29 = .ok (.ifCond .gt 18, 3) := by decide +kernel
theorem dX6_keepIfBetter_32 : decode cX6_keepIfBetter 32 = .ok (.lload 5, 2) := by decide +kernel
theorem dX6_keepIfBetter_34 : decode cX6_keepIfBetter 34 = .ok (.lconst 0, 1) := by decide +kernel
theorem dX6_keepIfBetter_35 : decode cX6_keepIfBetter 35 = .ok (.lcmp, 1) := by decide +kernel
theorem dX6_keepIfBetter_36 : decode cX6_keepIfBetter 36 = .ok (.ifCond .ne 41, 3) := by decide +kernel
theorem dX6_keepIfBetter_39 : decode cX6_keepIfBetter 39 = .ok (.iload_n 1, 1) := by decide +kernel
theorem dX6_keepIfBetter_40 : decode cX6_keepIfBetter 40 = .ok (.aload_n 0, 1) := by decide +kernel
theorem dX6_keepIfBetter_41 : decode cX6_keepIfBetter 41 = .ok (.getfield 38, 3) := by decide +kernel
theorem dX6_keepIfBetter_44 : decode cX6_keepIfBetter 44 = .ok (.if_icmp .ge 33, 3) := by decide +kernel
theorem dX6_keepIfBetter_47 : decode cX6_keepIfBetter 47 = .ok (.aload_n 0, 1) := by decide +kernel
theorem dX6_keepIfBetter_48 : decode cX6_keepIfBetter 48 = .ok (.iload_n 1, 1) := by decide +kernel
theorem dX6_keepIfBetter_49 : decode cX6_keepIfBetter 49 = .ok (.putfield 38, 3) := by decide +kernel
theorem dX6_keepIfBetter_52 : decode cX6_keepIfBetter 52 = .ok (.aload_n 0, 1) := by decide +kernel
theorem dX6_keepIfBetter_53 : decode cX6_keepIfBetter 53 = .ok (.lload_n 2, 1) := by decide +kernel
theorem dX6_keepIfBetter_54 : decode cX6_keepIfBetter 54 = .ok (.putfield 41, 3) := by decide +kernel
theorem dX6_keepIfBetter_57 : decode cX6_keepIfBetter 57 = .ok (.aload_n 0, 1) := by decide +kernel
theorem dX6_keepIfBetter_58 : decode cX6_keepIfBetter 58 = .ok (.iload 4, 2) := by decide +kernel
theorem dX6_keepIfBetter_60 : decode cX6_keepIfBetter 60 = .ok (.putfield 45, 3) := by decide +kernel
theorem dX6_keepIfBetter_63 : decode cX6_keepIfBetter 63 = .ok (.aload_n 0, 1) := by decide +kernel
theorem dX6_keepIfBetter_64 : decode cX6_keepIfBetter 64 = .ok (.getfield 15, 3) := by decide +kernel
theorem dX6_keepIfBetter_67 : decode cX6_keepIfBetter 67 = .ok (.iconst 0, 1) := by decide +kernel
theorem dX6_keepIfBetter_68 : decode cX6_keepIfBetter 68 = .ok (.aload_n 0, 1) := by decide +kernel
theorem dX6_keepIfBetter_69 : decode cX6_keepIfBetter 69 = .ok (.getfield 9, 3) := by decide +kernel
theorem dX6_keepIfBetter_72 : decode cX6_keepIfBetter 72 = .ok (.iconst 0, 1) := by decide +kernel
theorem dX6_keepIfBetter_73 : decode cX6_keepIfBetter 73 = .ok (.iload_n 1, 1) := by decide +kernel
theorem dX6_keepIfBetter_74 : decode cX6_keepIfBetter 74 = .ok (.invokestatic 85, 3) := by decide +kernel
theorem dX6_keepIfBetter_77 : decode cX6_keepIfBetter 77 = .ok (.return_, 1) := by decide +kernel
theorem dX7_init_0 : decode cX7_init 0 = .ok (.aload_n 0, 1) := by decide +kernel
theorem dX7_init_1 : decode cX7_init 1 = .ok (.invokespecial 3, 3) := by decide +kernel
theorem dX7_init_4 : decode cX7_init 4 = .ok (.aload_n 0, 1) := by decide +kernel
theorem dX7_init_5 : decode cX7_init 5 = .ok (.iconst (-1), 1) := by decide +kernel
theorem dX7_init_6 : decode cX7_init 6 = .ok (.putfield 11, 3) := by decide +kernel
theorem dX7_init_9 : decode cX7_init 9 = .ok (.aload_n 0, 1) := by decide +kernel
theorem dX7_init_10 : decode cX7_init 10 = .ok (.bipush 40, 2) := by decide +kernel
theorem dX7_init_12 : decode cX7_init 12 = .ok (.newarray .int, 2) := by decide +kernel
theorem dX7_init_14 : decode cX7_init 14 = .ok (.putfield 15, 3) := by decide +kernel
theorem dX7_init_17 : decode cX7_init 17 = .ok (.return_, 1) := by decide +kernel
theorem dX7_become_0 : decode cX7_become 0 = .ok (.aload_n 0, 1) := by decide +kernel
theorem dX7_become_1 : decode cX7_become 1 = .ok (.iload_n 1, 1) := by decide +kernel
theorem dX7_become_2 : decode cX7_become 2 = .ok (.putfield 11, 3) := by decide +kernel
theorem dX7_become_5 : decode cX7_become 5 = .ok (.aload_n 0, 1) := by decide +kernel
theorem dX7_become_6 : decode cX7_become 6 = .ok (.iload_n 2, 1) := by decide +kernel
theorem dX7_become_7 : decode cX7_become 7 = .ok (.bipush 40, 2) := by decide +kernel
theorem dX7_become_9 : decode cX7_become 9 = .ok (.invokestatic 19, 3) := by decide +kernel
theorem dX7_become_12 : decode cX7_become 12 = .ok (.iconst 0, 1) := by decide +kernel
theorem dX7_become_13 : decode cX7_become 13 = .ok (.invokestatic 25, 3) := by decide +kernel
theorem dX7_become_16 : decode cX7_become 16 = .ok (.putfield 28, 3) := by decide +kernel
theorem dX7_become_19 : decode cX7_become 19 = .ok (.aload_n 0, 1) := by decide +kernel
theorem dX7_become_20 : decode cX7_become 20 = .ok (.getfield 15, 3) := by decide +kernel
theorem dX7_become_23 : decode cX7_become 23 = .ok (.iconst 0, 1) := by decide +kernel
theorem dX7_become_24 : decode cX7_become 24 = .ok (.invokestatic 31, 3) := by decide +kernel
theorem dX7_become_27 : decode cX7_become 27 = .ok (.return_, 1) := by decide +kernel
theorem dX7_has_0 : decode cX7_has 0 = .ok (.iload_n 1, 1) := by decide +kernel
theorem dX7_has_1 : decode cX7_has 1 = .ok (.ifCond .lt 15, 3) := by decide +kernel
theorem dX7_has_4 : decode cX7_has 4 = .ok (.iload_n 1, 1) := by decide +kernel
theorem dX7_has_5 : decode cX7_has 5 = .ok (.aload_n 0, 1) := by decide +kernel
theorem dX7_has_6 : decode cX7_has 6 = .ok (.getfield 28, 3) := by decide +kernel
theorem dX7_has_9 : decode cX7_has 9 = .ok (.if_icmp .ge 7, 3) := by decide +kernel
theorem dX7_has_12 : decode cX7_has 12 = .ok (.iconst 1, 1) := by decide +kernel
theorem dX7_has_13 : decode cX7_has 13 = .ok (.goto 4, 3) := by decide +kernel
theorem dX7_has_16 : decode cX7_has 16 = .ok (.iconst 0, 1) := by decide +kernel
theorem dX7_has_17 : decode cX7_has 17 = .ok (.ireturn, 1) := by decide +kernel
theorem dX7_item_0 : decode cX7_item 0 = .ok (.aload_n 0, 1) := by decide +kernel
theorem dX7_item_1 : decode cX7_item 1 = .ok (.iload_n 1, 1) := by decide +kernel
theorem dX7_item_2 : decode cX7_item 2 = .ok (.invokevirtual 37, 3) := by decide +kernel
theorem dX7_item_5 : decode cX7_item 5 = .ok (.ifCond .eq 12, 3) := by decide +kernel
theorem dX7_item_8 : decode cX7_item 8 = .ok (.aload_n 0, 1) := by decide +kernel
theorem dX7_item_9 : decode cX7_item 9 = .ok (.getfield 15, 3) := by decide +kernel
theorem dX7_item_12 : decode cX7_item 12 = .ok (.iload_n 1, 1) := by decide +kernel
theorem dX7_item_13 : decode cX7_item 13 = .ok (.iaload, 1) := by decide +kernel
theorem dX7_item_14 : decode cX7_item 14 = .ok (.goto 4, 3) := by decide +kernel
theorem dX7_item_17 : decode cX7_item 17 = .ok (.iconst 0, 1) := by decide +kernel
theorem dX7_item_18 : decode cX7_item 18 = .ok (.ireturn, 1) := by decide +kernel
theorem dX7_write_0 : decode cX7_write 0 = .ok (.aload_n 0, 1) := by decide +kernel
theorem dX7_write_1 : decode cX7_write 1 = .ok (.iload_n 1, 1) := by decide +kernel
theorem dX7_write_2 : decode cX7_write 2 = .ok (.invokevirtual 37, 3) := by decide +kernel
theorem dX7_write_5 : decode cX7_write 5 = .ok (.ifCond .eq 35, 3) := by decide +kernel
theorem dX7_write_8 : decode cX7_write 8 = .ok (.aload_n 0, 1) := by decide +kernel
theorem dX7_write_9 : decode cX7_write 9 = .ok (.getfield 15, 3) := by decide +kernel
theorem dX7_write_12 : decode cX7_write 12 = .ok (.iload_n 1, 1) := by decide +kernel
theorem dX7_write_13 : decode cX7_write 13 = .ok (.aload_n 0, 1) := by decide +kernel
theorem dX7_write_14 : decode cX7_write 14 = .ok (.getfield 11, 3) := by decide +kernel
theorem dX7_write_17 : decode cX7_write 17 = .ok (.ifCond .ne 8, 3) := by decide +kernel
theorem dX7_write_20 : decode cX7_write 20 = .ok (.iload_n 2, 1) := by decide +kernel
theorem dX7_write_21 : decode cX7_write 21 = .ok (.i2b, 1) := by decide +kernel
theorem dX7_write_22 : decode cX7_write 22 = .ok (.goto 17, 3) := by decide +kernel
theorem dX7_write_25 : decode cX7_write 25 = .ok (.aload_n 0, 1) := by decide +kernel
theorem dX7_write_26 : decode cX7_write 26 = .ok (.getfield 11, 3) := by decide +kernel
theorem dX7_write_29 : decode cX7_write 29 = .ok (.iconst 1, 1) := by decide +kernel
theorem dX7_write_30 : decode cX7_write 30 = .ok (.if_icmp .ne 8, 3) := by decide +kernel
theorem dX7_write_33 : decode cX7_write 33 = .ok (.iload_n 2, 1) := by decide +kernel
theorem dX7_write_34 : decode cX7_write 34 = .ok (.i2s, 1) := by decide +kernel
theorem dX7_write_35 : decode cX7_write 35 = .ok (.goto 4, 3) := by decide +kernel
theorem dX7_write_38 : decode cX7_write 38 = .ok (.iload_n 2, 1) := by decide +kernel
theorem dX7_write_39 : decode cX7_write 39 = .ok (.iastore, 1) := by decide +kernel
theorem dX7_write_40 : decode cX7_write 40 = .ok (.return_, 1) := by decide +kernel
theorem dX8_init_0 : decode cX8_init 0 = .ok (.aload_n 0, 1) := by decide +kernel
theorem dX8_init_1 : decode cX8_init 1 = .ok (.invokespecial 3, 3) := by decide +kernel
theorem dX8_init_4 : decode cX8_init 4 = .ok (.aload_n 0, 1) := by decide +kernel
theorem dX8_init_5 : decode cX8_init 5 = .ok (.bipush 10, 2) := by decide +kernel
theorem dX8_init_7 : decode cX8_init 7 = .ok (.putfield 9, 3) := by decide +kernel
theorem dX8_init_10 : decode cX8_init 10 = .ok (.aload_n 0, 1) := by decide +kernel
theorem dX8_init_11 : decode cX8_init 11 = .ok (.sipush 2000, 3) := by decide +kernel
theorem dX8_init_14 : decode cX8_init 14 = .ok (.newarray .byte, 2) := by decide +kernel
theorem dX8_init_16 : decode cX8_init 16 = .ok (.putfield 15, 3) := by decide +kernel
theorem dX8_init_19 : decode cX8_init 19 = .ok (.aload_n 0, 1) := by decide +kernel
theorem dX8_init_20 : decode cX8_init 20 = .ok (.iload_n 1, 1) := by decide +kernel
theorem dX8_init_21 : decode cX8_init 21 = .ok (.putfield 19, 3) := by decide +kernel
theorem dX8_init_24 : decode cX8_init 24 = .ok (.aload_n 0, 1) := by decide +kernel
theorem dX8_init_25 : decode cX8_init 25 = .ok (.aload_n 2, 1) := by decide +kernel
theorem dX8_init_26 : decode cX8_init 26 = .ok (.putfield 22, 3) := by decide +kernel
theorem dX8_init_29 : decode cX8_init 29 = .ok (.aload_n 0, 1) := by decide +kernel
theorem dX8_init_30 : decode cX8_init 30 = .ok (.iload_n 3, 1) := by decide +kernel
theorem dX8_init_31 : decode cX8_init 31 = .ok (.putfield 26, 3) := by decide +kernel
theorem dX8_init_34 : decode cX8_init 34 = .ok (.aload_n 0, 1) := by decide +kernel
theorem dX8_init_35 : decode cX8_init 35 = .ok (.iload 4, 2) := by decide +kernel
theorem dX8_init_37 : decode cX8_init 37 = .ok (.putfield 29, 3) := by decide +kernel
theorem dX8_init_40 : decode cX8_init 40 = .ok (.aload_n 0, 1) := by decide +kernel
theorem dX8_init_41 : decode cX8_init 41 = .ok (.iload 5, 2) := by decide +kernel
theorem dX8_init_43 : decode cX8_init 43 = .ok (.putfield 32, 3) := by decide +kernel
theorem dX8_init_46 : decode cX8_init 46 = .ok (.return_, 1) := by decide +kernel
theorem dX8_hoursFor_0 : decode cX8_hoursFor 0 = .ok (.iload_n 1, 1) := by decide +kernel
theorem dX8_hoursFor_1 : decode cX8_hoursFor 1 = .ok (.aload_n 0, 1) := by decide +kernel
end
section
theorem dX8_hoursFor_2 : decode cX8_hoursFor 2 = .ok (.getfield 9, 3) := by decide +kernel
theorem dX8_hoursFor_5 : decode cX8_hoursFor 5 = .ok (.invokestatic 35, 3) := by decide +kernel
theorem dX8_hoursFor_8 : decode cX8_hoursFor 8 = .ok (.ireturn, 1) := by decide +kernel
theorem dX8_burnFor_0 : decode cX8_burnFor 0 = .ok (.aload_n 0, 1) := by decide +kernel
theorem dX8_burnFor_1 : decode cX8_burnFor 1 = .ok (.iload_n 1, 1) := by decide +kernel
theorem dX8_burnFor_2 : decode cX8_burnFor 2 = .ok (.invokevirtual 39, 3) := by decide +kernel
theorem dX8_burnFor_5 : decode cX8_burnFor 5 = .ok (.aload_n 0, 1) := by decide +kernel
theorem dX8_burnFor_6 : decode cX8_burnFor 6 = .ok (.getfield 32, 3) := by decide +kernel
theorem dX8_burnFor_9 : decode cX8_burnFor 9 = .ok (.aload_n 0, 1) := by decide +kernel
theorem dX8_burnFor_10 : decode cX8_burnFor 10 = .ok (.getfield 9, 3) := by decide +kernel
theorem dX8_burnFor_13 : decode cX8_burnFor 13 = .ok (.aload_n 0, 1) := by decide +kernel
theorem dX8_burnFor_14 : decode cX8_burnFor 14 = .ok (.getfield 9, 3) := by decide +kernel
theorem dX8_burnFor_17 : decode cX8_burnFor 17 = .ok (.imul, 1) := by decide +kernel
theorem dX8_burnFor_18 : decode cX8_burnFor 18 = .ok (.aload_n 0, 1) := by decide +kernel
theorem dX8_burnFor_19 : decode cX8_burnFor 19 = .ok (.getfield 9, 3) := by decide +kernel
theorem dX8_burnFor_22 : decode cX8_burnFor 22 = .ok (.imul, 1) := by decide +kernel
theorem dX8_burnFor_23 : decode cX8_burnFor 23 = .ok (.bipush 100, 2) := by decide +kernel
theorem dX8_burnFor_25 : decode cX8_burnFor 25 = .ok (.idiv, 1) := by decide +kernel
theorem dX8_burnFor_26 : decode cX8_burnFor 26 = .ok (.iadd, 1) := by decide +kernel
theorem dX8_burnFor_27 : decode cX8_burnFor 27 = .ok (.imul, 1) := by decide +kernel
theorem dX8_burnFor_28 : decode cX8_burnFor 28 = .ok (.bipush 24, 2) := by decide +kernel
theorem dX8_burnFor_30 : decode cX8_burnFor 30 = .ok (.invokestatic 35, 3) := by decide +kernel
theorem dX8_burnFor_33 : decode cX8_burnFor 33 = .ok (.ireturn, 1) := by decide +kernel
theorem dX8_sortAt_0 : decode cX8_sortAt 0 = .ok (.iload_n 1, 1) := by decide +kernel
theorem dX8_sortAt_1 : decode cX8_sortAt 1 = .ok (.ifCond .lt 20, 3) := by decide +kernel
theorem dX8_sortAt_4 : decode cX8_sortAt 4 = .ok (.iload_n 1, 1) := by decide +kernel
theorem dX8_sortAt_5 : decode cX8_sortAt 5 = .ok (.aload_n 0, 1) := by decide +kernel
theorem dX8_sortAt_6 : decode cX8_sortAt 6 = .ok (.getfield 43, 3) := by decide +kernel
theorem dX8_sortAt_9 : decode cX8_sortAt 9 = .ok (.if_icmp .ge 12, 3) := by decide +kernel
theorem dX8_sortAt_12 : decode cX8_sortAt 12 = .ok (.aload_n 0, 1) := by decide +kernel
theorem dX8_sortAt_13 : decode cX8_sortAt 13 = .ok (.getfield 15, 3) := by decide +kernel
theorem dX8_sortAt_16 : decode cX8_sortAt 16 = .ok (.iload_n 1, 1) := by decide +kernel
theorem dX8_sortAt_17 : decode cX8_sortAt 17 = .ok (.baload, 1) := by decide +kernel
theorem dX8_sortAt_18 : decode cX8_sortAt 18 = .ok (.goto 4, 3) := by decide +kernel
theorem dX8_sortAt_21 : decode cX8_sortAt 21 = .ok (.iconst (-1), 1) := by decide +kernel
theorem dX8_sortAt_22 : decode cX8_sortAt 22 = .ok (.ireturn, 1) := by decide +kernel
theorem dX8_append_0 : decode cX8_append 0 = .ok (.aload_n 0, 1) := by decide +kernel
theorem dX8_append_1 : decode cX8_append 1 = .ok (.getfield 43, 3) := by decide +kernel
theorem dX8_append_4 : decode cX8_append 4 = .ok (.sipush 2000, 3) := by decide +kernel
theorem dX8_append_7 : decode cX8_append 7 = .ok (.if_icmp .ge 24, 3) := by decide +kernel
theorem dX8_append_10 : decode cX8_append 10 = .ok (.aload_n 0, 1) := by decide +kernel
theorem dX8_append_11 : decode cX8_append 11 = .ok (.getfield 15, 3) := by decide +kernel
theorem dX8_append_14 : decode cX8_append 14 = .ok (.aload_n 0, 1) := by decide +kernel
theorem dX8_append_15 : decode cX8_append 15 = .ok (.getfield 43, 3) := by decide +kernel
theorem dX8_append_18 : decode cX8_append 18 = .ok (.iload_n 1, 1) := by decide +kernel
theorem dX8_append_19 : decode cX8_append 19 = .ok (.i2b, 1) := by decide +kernel
theorem dX8_append_20 : decode cX8_append 20 = .ok (.bastore, 1) := by decide +kernel
theorem dX8_append_21 : decode cX8_append 21 = .ok (.aload_n 0, 1) := by decide +kernel
theorem dX8_append_22 : decode cX8_append 22 = .ok (.dup, 1) := by decide +kernel
theorem dX8_append_23 : decode cX8_append 23 = .ok (.getfield 43, 3) := by decide +kernel
theorem dX8_append_26 : decode cX8_append 26 = .ok (.iconst 1, 1) := by decide +kernel
theorem dX8_append_27 : decode cX8_append 27 = .ok (.iadd, 1) := by decide +kernel
theorem dX8_append_28 : decode cX8_append 28 = .ok (.putfield 43, 3) := by decide +kernel
theorem dX8_append_31 : decode cX8_append 31 = .ok (.return_, 1) := by decide +kernel
theorem dX8_correct_0 : decode cX8_correct 0 = .ok (.iload_n 1, 1) := by decide +kernel
theorem dX8_correct_1 : decode cX8_correct 1 = .ok (.ifCond .lt 19, 3) := by decide +kernel
theorem dX8_correct_4 : decode cX8_correct 4 = .ok (.iload_n 1, 1) := by decide +kernel
theorem dX8_correct_5 : decode cX8_correct 5 = .ok (.aload_n 0, 1) := by decide +kernel
theorem dX8_correct_6 : decode cX8_correct 6 = .ok (.getfield 43, 3) := by decide +kernel
theorem dX8_correct_9 : decode cX8_correct 9 = .ok (.if_icmp .ge 11, 3) := by decide +kernel
theorem dX8_correct_12 : decode cX8_correct 12 = .ok (.aload_n 0, 1) := by decide +kernel
theorem dX8_correct_13 : decode cX8_correct 13 = .ok (.getfield 15, 3) := by decide +kernel
theorem dX8_correct_16 : decode cX8_correct 16 = .ok (.iload_n 1, 1) := by decide +kernel
theorem dX8_correct_17 : decode cX8_correct 17 = .ok (.iload_n 2, 1) := by decide +kernel
theorem dX8_correct_18 : decode cX8_correct 18 = .ok (.i2b, 1) := by decide +kernel
theorem dX8_correct_19 : decode cX8_correct 19 = .ok (.bastore, 1) := by decide +kernel
theorem dX8_correct_20 : decode cX8_correct 20 = .ok (.return_, 1) := by decide +kernel
theorem dX9_init_0 : decode cX9_init 0 = .ok (.aload_n 0, 1) := by decide +kernel
theorem dX9_init_1 : decode cX9_init 1 = .ok (.invokespecial 3, 3) := by decide +kernel
theorem dX9_init_4 : decode cX9_init 4 = .ok (.aload_n 0, 1) := by decide +kernel
theorem dX9_init_5 : decode cX9_init 5 = .ok (.sipush 160, 3) := by decide +kernel
theorem dX9_init_8 : decode cX9_init 8 = .ok (.newarray .int, 2) := by decide +kernel
theorem dX9_init_10 : decode cX9_init 10 = .ok (.putfield 9, 3) := by decide +kernel
theorem dX9_init_13 : decode cX9_init 13 = .ok (.return_, 1) := by decide +kernel
theorem dX9_run_0 : decode cX9_run 0 = .ok (.aload_n 0, 1) := by decide +kernel
theorem dX9_run_1 : decode cX9_run 1 = .ok (.iconst 0, 1) := by decide +kernel
theorem dX9_run_2 : decode cX9_run 2 = .ok (.putfield 15, 3) := by decide +kernel
theorem dX9_run_5 : decode cX9_run 5 = .ok (.aload_n 0, 1) := by decide +kernel
theorem dX9_run_6 : decode cX9_run 6 = .ok (.iconst 0, 1) := by decide +kernel
theorem dX9_run_7 : decode cX9_run 7 = .ok (.putfield 19, 3) := by decide +kernel
theorem dX9_run_10 : decode cX9_run 10 = .ok (.aload_n 0, 1) := by decide +kernel
theorem dX9_run_11 : decode cX9_run 11 = .ok (.iconst 0, 1) := by decide +kernel
theorem dX9_run_12 : decode cX9_run 12 = .ok (.putfield 22, 3) := by decide +kernel
theorem dX9_run_15 : decode cX9_run 15 = .ok (.iconst (-1), 1) := by decide +kernel
theorem dX9_run_16 : decode cX9_run 16 = .ok (.istore_n 3, 1) := by decide +kernel
theorem dX9_run_17 : decode cX9_run 17 = .ok (.aload_n 1, 1) := by decide +kernel
theorem dX9_run_18 : decode cX9_run 18 = .ok (.invokevirtual 25, 3) := by decide +kernel
theorem dX9_run_21 : decode cX9_run 21 = .ok (.iload_n 2, 1) := by decide +kernel
theorem dX9_run_22 : decode cX9_run 22 = .ok (.aload_n 1, 1) := by decide +kernel
theorem dX9_run_23 : decode cX9_run 23 = .ok (.getfield 31, 3) := by decide +kernel
theorem dX9_run_26 : decode cX9_run 26 = .ok (.isub, 1) := by decide +kernel
theorem dX9_run_27 : decode cX9_run 27 = .ok (.iconst 1, 1) := by decide +kernel
theorem dX9_run_28 : decode cX9_run 28 = .ok (.iadd, 1) := by decide +kernel
theorem dX9_run_29 : decode cX9_run 29 = .ok (.invokestatic 34, 3) := by decide +kernel
theorem dX9_run_32 : decode cX9_run 32 = .ok (.istore 4, 2) := by decide +kernel
theorem dX9_run_34 : decode cX9_run 34 = .ok (.iconst 0, 1) := by decide +kernel
theorem dX9_run_35 : decode cX9_run 35 = .ok (.istore 5, 2) := by decide +kernel
theorem dX9_run_37 : decode cX9_run 37 = .ok (.iload 5, 2) := by decide +kernel
theorem dX9_run_39 : decode cX9_run 39 = .ok (.iload 4, 2) := by decide +kernel
theorem dX9_run_41 : decode cX9_run 41 = .ok (.if_icmp .ge 50, 3) := by decide +kernel
theorem dX9_run_44 : decode cX9_run 44 = .ok (.aload_n 0, 1) := by decide +kernel
theorem dX9_run_45 : decode cX9_run 45 = .ok (.iload 5, 2) := by decide +kernel
theorem dX9_run_47 : decode cX9_run 47 = .ok (.putfield 40, 3) := by decide +kernel
theorem dX9_run_50 : decode cX9_run 50 = .ok (.aload_n 0, 1) := by decide +kernel
theorem dX9_run_51 : decode cX9_run 51 = .ok (.aload_n 1, 1) := by decide +kernel
theorem dX9_run_52 : decode cX9_run 52 = .ok (.getfield 31, 3) := by decide +kernel
theorem dX9_run_55 : decode cX9_run 55 = .ok (.iload 5, 2) := by decide +kernel
theorem dX9_run_57 : decode cX9_run 57 = .ok (.iadd, 1) := by decide +kernel
theorem dX9_run_58 : decode cX9_run 58 = .ok (.putfield 43, 3) := by decide +kernel
theorem dX9_run_61 : decode cX9_run 61 = .ok (.aload_n 0, 1) := by decide +kernel
theorem dX9_run_62 : decode cX9_run 62 = .ok (.aload_n 1, 1) := by decide +kernel
theorem dX9_run_63 : decode cX9_run 63 = .ok (.getfield 46, 3) := by decide +kernel
theorem dX9_run_66 : decode cX9_run 66 = .ok (.aload_n 0, 1) := by decide +kernel
theorem dX9_run_67 : decode cX9_run 67 = .ok (.getfield 43, 3) := by decide +kernel
theorem dX9_run_70 : decode cX9_run 70 = .ok (.invokevirtual 50, 3) := by decide +kernel
theorem dX9_run_73 : decode cX9_run 73 = .ok (.putfield 56, 3) := by decide +kernel
theorem dX9_run_76 : decode cX9_run 76 = .ok (.aload_n 0, 1) := by decide +kernel
theorem dX9_run_77 : decode cX9_run 77 = .ok (.aload_n 1, 1) := by decide +kernel
theorem dX9_run_78 : decode cX9_run 78 = .ok (.getfield 59, 3) := by decide +kernel
theorem dX9_run_81 : decode cX9_run 81 = .ok (.invokevirtual 63, 3) := by decide +kernel
theorem dX9_run_84 : decode cX9_run 84 = .ok (.istore_n 3, 1) := by decide +kernel
theorem dX9_run_85 : decode cX9_run 85 = .ok (.iinc 5 1, 3) := by decide +kernel
theorem dX9_run_88 : decode cX9_run 88 = .ok (.goto (-51), 3) := by decide +kernel
theorem dX9_run_91 : decode cX9_run 91 = .ok (.iload_n 3, 1) := by decide +kernel
theorem dX9_run_92 : decode cX9_run 92 = .ok (.ireturn, 1) := by decide +kernel
theorem dX9_countHour_0 : decode cX9_countHour 0 = .ok (.aload_n 0, 1) := by decide +kernel
theorem dX9_countHour_1 : decode cX9_countHour 1 = .ok (.aload_n 1, 1) := by decide +kernel
theorem dX9_countHour_2 : decode cX9_countHour 2 = .ok (.iconst 0, 1) := by decide +kernel
theorem dX9_countHour_3 : decode cX9_countHour 3 = .ok (.aload_n 1, 1) := by decide +kernel
theorem dX9_countHour_4 : decode cX9_countHour 4 = .ok (.getfield 67, 3) := by decide +kernel
theorem dX9_countHour_7 : decode cX9_countHour 7 = .ok (.invokevirtual 72, 3) := by decide +kernel
theorem dX9_countHour_10 : decode cX9_countHour 10 = .ok (.ifCond .eq 15, 3) := by decide +kernel
theorem dX9_countHour_13 : decode cX9_countHour 13 = .ok (.aload_n 0, 1) := by decide +kernel
theorem dX9_countHour_14 : decode cX9_countHour 14 = .ok (.dup, 1) := by decide +kernel
theorem dX9_countHour_15 : decode cX9_countHour 15 = .ok (.getfield 15, 3) := by decide +kernel
theorem dX9_countHour_18 : decode cX9_countHour 18 = .ok (.iconst 1, 1) := by decide +kernel
theorem dX9_countHour_19 : decode cX9_countHour 19 = .ok (.iadd, 1) := by decide +kernel
theorem dX9_countHour_20 : decode cX9_countHour 20 = .ok (.putfield 15, 3) := by decide +kernel
theorem dX9_countHour_23 : decode cX9_countHour 23 = .ok (.iconst 0, 1) := by decide +kernel
theorem dX9_countHour_24 : decode cX9_countHour 24 = .ok (.ireturn, 1) := by decide +kernel
theorem dX9_countHour_25 : decode cX9_countHour 25 = .ok (.aload_n 0, 1) := by decide +kernel
theorem dX9_countHour_26 : decode cX9_countHour 26 = .ok (.aload_n 1, 1) := by decide +kernel
theorem dX9_countHour_27 : decode cX9_countHour 27 = .ok (.aload_n 1, 1) := by decide +kernel
theorem dX9_countHour_28 : decode cX9_countHour 28 = .ok (.getfield 67, 3) := by decide +kernel
theorem dX9_countHour_31 : decode cX9_countHour 31 = .ok (.aload_n 1, 1) := by decide +kernel
theorem dX9_countHour_32 : decode cX9_countHour 32 = .ok (.getfield 76, 3) := by decide +kernel
theorem dX9_countHour_35 : decode cX9_countHour 35 = .ok (.invokevirtual 72, 3) := by decide +kernel
theorem dX9_countHour_38 : decode cX9_countHour 38 = .ok (.ifCond .eq 15, 3) := by decide +kernel
theorem dX9_countHour_41 : decode cX9_countHour 41 = .ok (.aload_n 0, 1) := by decide +kernel
theorem dX9_countHour_42 : decode cX9_countHour 42 = .ok (.dup, 1) := by decide +kernel
theorem dX9_countHour_43 : decode cX9_countHour 43 = .ok (.getfield 19, 3) := by decide +kernel
theorem dX9_countHour_46 : decode cX9_countHour 46 = .ok (.iconst 1, 1) := by decide +kernel
theorem dX9_countHour_47 : decode cX9_countHour 47 = .ok (.iadd, 1) := by decide +kernel
theorem dX9_countHour_48 : decode cX9_countHour 48 = .ok (.putfield 19, 3) := by decide +kernel
theorem dX9_countHour_51 : decode cX9_countHour 51 = .ok (.iconst 1, 1) := by decide +kernel
theorem dX9_countHour_52 : decode cX9_countHour 52 = .ok (.ireturn, 1) := by decide +kernel
theorem dX9_countHour_53 : decode cX9_countHour 53 = .ok (.aload_n 0, 1) := by decide +kernel
theorem dX9_countHour_54 : decode cX9_countHour 54 = .ok (.dup, 1) := by decide +kernel
theorem dX9_countHour_55 : decode cX9_countHour 55 = .ok (.getfield 22, 3) := by decide +kernel
theorem dX9_countHour_58 : decode cX9_countHour 58 = .ok (.iconst 1, 1) := by decide +kernel
theorem dX9_countHour_59 : decode cX9_countHour 59 = .ok (.iadd, 1) := by decide +kernel
theorem dX9_countHour_60 : decode cX9_countHour 60 = .ok (.putfield 22, 3) := by decide +kernel
theorem dX9_countHour_63 : decode cX9_countHour 63 = .ok (.iconst 2, 1) := by decide +kernel
theorem dX9_countHour_64 : decode cX9_countHour 64 = .ok (.ireturn, 1) := by decide +kernel
theorem dX9_worth_0 : decode cX9_worth 0 = .ok (.iconst 0, 1) := by decide +kernel
theorem dX9_worth_1 : decode cX9_worth 1 = .ok (.istore 4, 2) := by decide +kernel
theorem dX9_worth_3 : decode cX9_worth 3 = .ok (.iload_n 2, 1) := by decide +kernel
theorem dX9_worth_4 : decode cX9_worth 4 = .ok (.istore 5, 2) := by decide +kernel
theorem dX9_worth_6 : decode cX9_worth 6 = .ok (.iload 5, 2) := by decide +kernel
theorem dX9_worth_8 : decode cX9_worth 8 = .ok (.iload_n 3, 1) := by decide +kernel
theorem dX9_worth_9 : decode cX9_worth 9 = .ok (.if_icmp .ge 23, 3) := by decide +kernel
theorem dX9_worth_12 : decode cX9_worth 12 = .ok (.aload_n 0, 1) := by decide +kernel
theorem dX9_worth_13 : decode cX9_worth 13 = .ok (.aload_n 1, 1) := by decide +kernel
theorem dX9_worth_14 : decode cX9_worth 14 = .ok (.iload 5, 2) := by decide +kernel
theorem dX9_worth_16 : decode cX9_worth 16 = .ok (.invokevirtual 79, 3) := by decide +kernel
theorem dX9_worth_19 : decode cX9_worth 19 = .ok (.iload 4, 2) := by decide +kernel
theorem dX9_worth_21 : decode cX9_worth 21 = .ok (.invokevirtual 82, 3) := by decide +kernel
theorem dX9_worth_24 : decode cX9_worth 24 = .ok (.istore 4, 2) := by decide +kernel
theorem dX9_worth_26 : decode cX9_worth 26 = .ok (.iinc 5 1, 3) := by decide +kernel
theorem dX9_worth_29 : decode cX9_worth 29 = .ok (.goto (-23), 3) := by decide +kernel
theorem dX9_worth_32 : decode cX9_worth 32 = .ok (.iload 4, 2) := by decide +kernel
theorem dX9_worth_34 : decode cX9_worth 34 = .ok (.iconst 1, 1) := by decide +kernel
theorem dX9_worth_35 : decode cX9_worth 35 = .ok (.sipush 160, 3) := by decide +kernel
theorem dX9_worth_38 : decode cX9_worth 38 = .ok (.invokestatic 85, 3) := by decide +kernel
theorem dX9_worth_41 : decode cX9_worth 41 = .ok (.ifCond .eq 15, 3) := by decide +kernel
theorem dX9_worth_44 : decode cX9_worth 44 = .ok (.aload_n 0, 1) := by decide +kernel
theorem dX9_worth_45 : decode cX9_worth 45 = .ok (.getfield 9, 3) := by decide +kernel
theorem dX9_worth_48 : decode cX9_worth 48 = .ok (.iload 4, 2) := by decide +kernel
theorem dX9_worth_50 : decode cX9_worth 50 = .ok (.iconst 1, 1) := by decide +kernel
theorem dX9_worth_51 : decode cX9_worth 51 = .ok (.isub, 1) := by decide +kernel
theorem dX9_worth_52 : decode cX9_worth 52 = .ok (.iaload, 1) := by decide +kernel
theorem dX9_worth_53 : decode cX9_worth 53 = .ok (.goto 4, 3) := by decide +kernel
theorem dX9_worth_56 : decode cX9_worth 56 = .ok (.iconst 0, 1) := by decide +kernel
theorem dX9_worth_57 : decode cX9_worth 57 = .ok (.ireturn, 1) := by decide +kernel
theorem dX9_step_0 : decode cX9_step 0 = .ok (.iload_n 1, 1) := by decide +kernel
theorem dX9_step_1 : decode cX9_step 1 = .ok (.bipush (-3), 2) := by decide +kernel
theorem dX9_step_3 : decode cX9_step 3 = .ok (.if_icmp .eq 9, 3) := by decide +kernel
theorem dX9_step_6 : decode cX9_step 6 = .ok (.iload_n 1, 1) := by decide +kernel
theorem dX9_step_7 : decode cX9_step 7 = .ok (.bipush (-9), 2) := by decide +kernel
theorem dX9_step_9 : decode cX9_step 9 = .ok (.if_icmp .ne 10, 3) := by decide +kernel
theorem dX9_step_12 : decode cX9_step 12 = .ok (.aload_n 0, 1) := by decide +kernel
theorem dX9_step_13 : decode cX9_step 13 = .ok (.iload_n 1, 1) := by decide +kernel
theorem dX9_step_14 : decode cX9_step 14 = .ok (.iload_n 2, 1) := by decide +kernel
theorem dX9_step_15 : decode cX9_step 15 = .ok (.invokevirtual 89, 3) := by decide +kernel
theorem dX9_step_18 : decode cX9_step 18 = .ok (.ireturn, 1) := by decide +kernel
theorem dX9_step_19 : decode cX9_step 19 = .ok (.iload_n 1, 1) := by decide +kernel
theorem dX9_step_20 : decode cX9_step 20 = .ok (.invokestatic 92, 3) := by decide +kernel
theorem dX9_step_23 : decode cX9_step 23 = .ok (.ifCond .eq 10, 3) := by decide +kernel
theorem dX9_step_26 : decode cX9_step 26 = .ok (.aload_n 0, 1) := by decide +kernel
theorem dX9_step_27 : decode cX9_step 27 = .ok (.iload_n 1, 1) := by decide +kernel
theorem dX9_step_28 : decode cX9_step 28 = .ok (.iload_n 2, 1) := by decide +kernel
theorem dX9_step_29 : decode cX9_step 29 = .ok (.invokevirtual 96, 3) := by decide +kernel
theorem dX9_step_32 : decode cX9_step 32 = .ok (.ireturn, 1) := by decide +kernel
theorem dX9_step_33 : decode cX9_step 33 = .ok (.iload_n 2, 1) := by decide +kernel
theorem dX9_step_34 : decode cX9_step 34 = .ok (.iconst 0, 1) := by decide +kernel
theorem dX9_step_35 : decode cX9_step 35 = .ok (.sipush 159, 3) := by decide +kernel
theorem dX9_step_38 : decode cX9_step 38 = .ok (.invokestatic 85, 3) := by decide +kernel
theorem dX9_step_41 : decode cX9_step 41 = .ok (.ifCond .ne 5, 3) := by decide +kernel
theorem dX9_step_44 : decode cX9_step 44 = .ok (.iload_n 2, 1) := by decide +kernel
theorem dX9_step_45 : decode cX9_step 45 = .ok (.ireturn, 1) := by decide +kernel
theorem dX9_step_46 : decode cX9_step 46 = .ok (.aload_n 0, 1) := by decide +kernel
theorem dX9_step_47 : decode cX9_step 47 = .ok (.getfield 9, 3) := by decide +kernel
theorem dX9_step_50 : decode cX9_step 50 = .ok (.iload_n 2, 1) := by decide +kernel
theorem dX9_step_51 : decode cX9_step 51 = .ok (.iload_n 1, 1) := by decide +kernel
theorem dX9_step_52 : decode cX9_step 52 = .ok (.ifCond .lt 7, 3) := by decide +kernel
theorem dX9_step_55 : decode cX9_step 55 = .ok (.iload_n 1, 1) := by decide +kernel
theorem dX9_step_56 : decode cX9_step 56 = .ok (.goto 8, 3) := by decide +kernel
theorem dX9_step_59 : decode cX9_step 59 = .ok (.aload_n 0, 1) := by decide +kernel
theorem dX9_step_60 : decode cX9_step 60 = .ok (.iload_n 1, 1) := by decide +kernel
theorem dX9_step_61 : decode cX9_step 61 = .ok (.invokevirtual 99, 3) := by decide +kernel
theorem dX9_step_64 : decode cX9_step 64 = .ok (.iastore, 1) := by decide +kernel
theorem dX9_step_65 : decode cX9_step 65 = .ok (.iload_n 2, 1) := by decide +kernel
theorem dX9_step_66 : decode cX9_step 66 = .ok (.iconst 1, 1) := by decide +kernel
theorem dX9_step_67 : decode cX9_step 67 = .ok (.iadd, 1) := by decide +kernel
theorem dX9_step_68 : decode cX9_step 68 = .ok (.ireturn, 1) := by decide +kernel
theorem dX9_turn_0 : decode cX9_turn 0 = .ok (.iload_n 2, 1) := by decide +kernel
theorem dX9_turn_1 : decode cX9_turn 1 = .ok (.iconst 1, 1) := by decide +kernel
theorem dX9_turn_2 : decode cX9_turn 2 = .ok (.sipush 160, 3) := by decide +kernel
theorem dX9_turn_5 : decode cX9_turn 5 = .ok (.invokestatic 85, 3) := by decide +kernel
theorem dX9_turn_8 : decode cX9_turn 8 = .ok (.ifCond .eq 40, 3) := by decide +kernel
theorem dX9_turn_11 : decode cX9_turn 11 = .ok (.aload_n 0, 1) := by decide +kernel
theorem dX9_turn_12 : decode cX9_turn 12 = .ok (.getfield 9, 3) := by decide +kernel
theorem dX9_turn_15 : decode cX9_turn 15 = .ok (.iload_n 2, 1) := by decide +kernel
theorem dX9_turn_16 : decode cX9_turn 16 = .ok (.iconst 1, 1) := by decide +kernel
theorem dX9_turn_17 : decode cX9_turn 17 = .ok (.isub, 1) := by decide +kernel
theorem dX9_turn_18 : decode cX9_turn 18 = .ok (.iaload, 1) := by decide +kernel
theorem dX9_turn_19 : decode cX9_turn 19 = .ok (.istore_n 3, 1) := by decide +kernel
theorem dX9_turn_20 : decode cX9_turn 20 = .ok (.aload_n 0, 1) := by decide +kernel
theorem dX9_turn_21 : decode cX9_turn 21 = .ok (.getfield 9, 3) := by decide +kernel
theorem dX9_turn_24 : decode cX9_turn 24 = .ok (.iload_n 2, 1) := by decide +kernel
theorem dX9_turn_25 : decode cX9_turn 25 = .ok (.iconst 1, 1) := by decide +kernel
theorem dX9_turn_26 : decode cX9_turn 26 = .ok (.isub, 1) := by decide +kernel
theorem dX9_turn_27 : decode cX9_turn 27 = .ok (.iload_n 1, 1) := by decide +kernel
theorem dX9_turn_28 : decode cX9_turn 28 = .ok (.bipush (-9), 2) := by decide +kernel
theorem dX9_turn_30 : decode cX9_turn 30 = .ok (.if_icmp .ne 8, 3) := by decide +kernel
theorem dX9_turn_33 : decode cX9_turn 33 = .ok (.iload_n 3, 1) := by decide +kernel
theorem dX9_turn_34 : decode cX9_turn 34 = .ok (.ineg, 1) := by decide +kernel
theorem dX9_turn_35 : decode cX9_turn 35 = .ok (.goto 12, 3) := by decide +kernel
theorem dX9_turn_38 : decode cX9_turn 38 = .ok (.iload_n 3, 1) := by decide +kernel
theorem dX9_turn_39 : decode cX9_turn 39 = .ok (.ifCond .ne 7, 3) := by decide +kernel
theorem dX9_turn_42 : decode cX9_turn 42 = .ok (.iconst 1, 1) := by decide +kernel
theorem dX9_turn_43 : decode cX9_turn 43 = .ok (.goto 4, 3) := by decide +kernel
theorem dX9_turn_46 : decode cX9_turn 46 = .ok (.iconst 0, 1) := by decide +kernel
theorem dX9_turn_47 : decode cX9_turn 47 = .ok (.iastore, 1) := by decide +kernel
theorem dX9_turn_48 : decode cX9_turn 48 = .ok (.iload_n 2, 1) := by decide +kernel
theorem dX9_turn_49 : decode cX9_turn 49 = .ok (.ireturn, 1) := by decide +kernel
theorem dX9_join_0 : decode cX9_join 0 = .ok (.iload_n 2, 1) := by decide +kernel
theorem dX9_join_1 : decode cX9_join 1 = .ok (.iconst 2, 1) := by decide +kernel
theorem dX9_join_2 : decode cX9_join 2 = .ok (.sipush 160, 3) := by decide +kernel
theorem dX9_join_5 : decode cX9_join 5 = .ok (.invokestatic 85, 3) := by decide +kernel
theorem dX9_join_8 : decode cX9_join 8 = .ok (.ifCond .ne 5, 3) := by decide +kernel
theorem dX9_join_11 : decode cX9_join 11 = .ok (.iload_n 2, 1) := by decide +kernel
theorem dX9_join_12 : decode cX9_join 12 = .ok (.ireturn, 1) := by decide +kernel
theorem dX9_join_13 : decode cX9_join 13 = .ok (.aload_n 0, 1) := by decide +kernel
theorem dX9_join_14 : decode cX9_join 14 = .ok (.getfield 9, 3) := by decide +kernel
theorem dX9_join_17 : decode cX9_join 17 = .ok (.iload_n 2, 1) := by decide +kernel
theorem dX9_join_18 : decode cX9_join 18 = .ok (.iconst 2, 1) := by decide +kernel
theorem dX9_join_19 : decode cX9_join 19 = .ok (.isub, 1) := by decide +kernel
theorem dX9_join_20 : decode cX9_join 20 = .ok (.iload_n 1, 1) := by decide +kernel
theorem dX9_join_21 : decode cX9_join 21 = .ok (.aload_n 0, 1) := by decide +kernel
theorem dX9_join_22 : decode cX9_join 22 = .ok (.getfield 9, 3) := by decide +kernel
theorem dX9_join_25 : decode cX9_join 25 = .ok (.iload_n 2, 1) := by decide +kernel
theorem dX9_join_26 : decode cX9_join 26 = .ok (.iconst 2, 1) := by decide +kernel
theorem dX9_join_27 : decode cX9_join 27 = .ok (.isub, 1) := by decide +kernel
theorem dX9_join_28 : decode cX9_join 28 = .ok (.iaload, 1) := by decide +kernel
theorem dX9_join_29 : decode cX9_join 29 = .ok (.aload_n 0, 1) := by decide +kernel
theorem dX9_join_30 : decode cX9_join 30 = .ok (.getfield 9, 3) := by decide +kernel
theorem dX9_join_33 : decode cX9_join 33 = .ok (.iload_n 2, 1) := by decide +kernel
theorem dX9_join_34 : decode cX9_join 34 = .ok (.iconst 1, 1) := by decide +kernel
theorem dX9_join_35 : decode cX9_join 35 = .ok (.isub, 1) := by decide +kernel
theorem dX9_join_36 : decode cX9_join 36 = .ok (.iaload, 1) := by decide +kernel
theorem dX9_join_37 : decode cX9_join 37 = .ok (.invokestatic 102, 3) := by decide +kernel
theorem dX9_join_40 : decode cX9_join 40 = .ok (.iastore, 1) := by decide +kernel
theorem dX9_join_41 : decode cX9_join 41 = .ok (.iload_n 2, 1) := by decide +kernel
theorem dX9_join_42 : decode cX9_join 42 = .ok (.iconst 1, 1) := by decide +kernel
theorem dX9_join_43 : decode cX9_join 43 = .ok (.isub, 1) := by decide +kernel
theorem dX9_join_44 : decode cX9_join 44 = .ok (.ireturn, 1) := by decide +kernel
theorem dX9_named_0 : decode cX9_named 0 = .ok (.iload_n 1, 1) := by decide +kernel
theorem dX9_named_1 : decode cX9_named 1 = .ok (.tableswitch 69 (-14) (-10) #[64, 59, 51, 40, 35], 35) := by decide +kernel
theorem dX9_named_36 : decode cX9_named 36 = .ok (.aload_n 0, 1) := by decide +kernel
theorem dX9_named_37 : decode cX9_named 37 = .ok (.getfield 56, 3) := by decide +kernel
theorem dX9_named_40 : decode cX9_named 40 = .ok (.ireturn, 1) := by decide +kernel
theorem dX9_named_41 : decode cX9_named 41 = .ok (.aload_n 0, 1) := by decide +kernel
theorem dX9_named_42 : decode cX9_named 42 = .ok (.getfield 43, 3) := by decide +kernel
theorem dX9_named_45 : decode cX9_named 45 = .ok (.bipush 24, 2) := by decide +kernel
theorem dX9_named_47 : decode cX9_named 47 = .ok (.idiv, 1) := by decide +kernel
theorem dX9_named_48 : decode cX9_named 48 = .ok (.bipush 7, 2) := by decide +kernel
theorem dX9_named_50 : decode cX9_named 50 = .ok (.irem, 1) := by decide +kernel
theorem dX9_named_51 : decode cX9_named 51 = .ok (.ireturn, 1) := by decide +kernel
theorem dX9_named_52 : decode cX9_named 52 = .ok (.aload_n 0, 1) := by decide +kernel
theorem dX9_named_53 : decode cX9_named 53 = .ok (.getfield 43, 3) := by decide +kernel
theorem dX9_named_56 : decode cX9_named 56 = .ok (.bipush 24, 2) := by decide +kernel
theorem dX9_named_58 : decode cX9_named 58 = .ok (.irem, 1) := by decide +kernel
theorem dX9_named_59 : decode cX9_named 59 = .ok (.ireturn, 1) := by decide +kernel
theorem dX9_named_60 : decode cX9_named 60 = .ok (.aload_n 0, 1) := by decide +kernel
theorem dX9_named_61 : decode cX9_named 61 = .ok (.getfield 40, 3) := by decide +kernel
theorem dX9_named_64 : decode cX9_named 64 = .ok (.ireturn, 1) := by decide +kernel
theorem dX9_named_65 : decode cX9_named 65 = .ok (.aload_n 0, 1) := by decide +kernel
theorem dX9_named_66 : decode cX9_named 66 = .ok (.getfield 15, 3) := by decide +kernel
theorem dX9_named_69 : decode cX9_named 69 = .ok (.ireturn, 1) := by decide +kernel
theorem dX9_named_70 : decode cX9_named 70 = .ok (.iconst 0, 1) := by decide +kernel
theorem dX9_named_71 : decode cX9_named 71 = .ok (.ireturn, 1) := by decide +kernel
theorem dX9_joined_0 : decode cX9_joined 0 = .ok (.iload_n 0, 1) := by decide +kernel
theorem dX9_joined_1 : decode cX9_joined 1 = .ok (.tableswitch 109 (-8) (-1) #[105, 101, 97, 86, 75, 109, 61, 47], 47) := by decide +kernel
theorem dX9_joined_48 : decode cX9_joined 48 = .ok (.iload_n 1, 1) := by decide +kernel
theorem dX9_joined_49 : decode cX9_joined 49 = .ok (.ifCond .ne 7, 3) := by decide +kernel
theorem dX9_joined_52 : decode cX9_joined 52 = .ok (.iload_n 2, 1) := by decide +kernel
theorem dX9_joined_53 : decode cX9_joined 53 = .ok (.ifCond .eq 7, 3) := by decide +kernel
theorem dX9_joined_56 : decode cX9_joined 56 = .ok (.iconst 1, 1) := by decide +kernel
theorem dX9_joined_57 : decode cX9_joined 57 = .ok (.goto 4, 3) := by decide +kernel
theorem dX9_joined_60 : decode cX9_joined 60 = .ok (.iconst 0, 1) := by decide +kernel
theorem dX9_joined_61 : decode cX9_joined 61 = .ok (.ireturn, 1) := by decide +kernel
theorem dX9_joined_62 : decode cX9_joined 62 = .ok (.iload_n 1, 1) := by decide +kernel
theorem dX9_joined_63 : decode cX9_joined 63 = .ok (.ifCond .eq 11, 3) := by decide +kernel
theorem dX9_joined_66 : decode cX9_joined 66 = .ok (.iload_n 2, 1) := by decide +kernel
theorem dX9_joined_67 : decode cX9_joined 67 = .ok (.ifCond .eq 7, 3) := by decide +kernel
theorem dX9_joined_70 : decode cX9_joined 70 = .ok (.iconst 1, 1) := by decide +kernel
theorem dX9_joined_71 : decode cX9_joined 71 = .ok (.goto 4, 3) := by decide +kernel
theorem dX9_joined_74 : decode cX9_joined 74 = .ok (.iconst 0, 1) := by decide +kernel
theorem dX9_joined_75 : decode cX9_joined 75 = .ok (.ireturn, 1) := by decide +kernel
theorem dX9_joined_76 : decode cX9_joined 76 = .ok (.iload_n 1, 1) := by decide +kernel
theorem dX9_joined_77 : decode cX9_joined 77 = .ok (.iload_n 2, 1) := by decide +kernel
theorem dX9_joined_78 : decode cX9_joined 78 = .ok (.if_icmp .ge 7, 3) := by decide +kernel
theorem dX9_joined_81 : decode cX9_joined 81 = .ok (.iconst 1, 1) := by decide +kernel
theorem dX9_joined_82 : decode cX9_joined 82 = .ok (.goto 4, 3) := by decide +kernel
theorem dX9_joined_85 : decode cX9_joined 85 = .ok (.iconst 0, 1) := by decide +kernel
theorem dX9_joined_86 : decode cX9_joined 86 = .ok (.ireturn, 1) := by decide +kernel
theorem dX9_joined_87 : decode cX9_joined 87 = .ok (.iload_n 1, 1) := by decide +kernel
theorem dX9_joined_88 : decode cX9_joined 88 = .ok (.iload_n 2, 1) := by decide +kernel
theorem dX9_joined_89 : decode cX9_joined 89 = .ok (.if_icmp .ne 7, 3) := by decide +kernel
theorem dX9_joined_92 : decode cX9_joined 92 = .ok (.iconst 1, 1) := by decide +kernel
theorem dX9_joined_93 : decode cX9_joined 93 = .ok (.goto 4, 3) := by decide +kernel
theorem dX9_joined_96 : decode cX9_joined 96 = .ok (.iconst 0, 1) := by decide +kernel
theorem dX9_joined_97 : decode cX9_joined 97 = .ok (.ireturn, 1) := by decide +kernel
theorem dX9_joined_98 : decode cX9_joined 98 = .ok (.iload_n 1, 1) := by decide +kernel
theorem dX9_joined_99 : decode cX9_joined 99 = .ok (.iload_n 2, 1) := by decide +kernel
theorem dX9_joined_100 : decode cX9_joined 100 = .ok (.iadd, 1) := by decide +kernel
theorem dX9_joined_101 : decode cX9_joined 101 = .ok (.ireturn, 1) := by decide +kernel
theorem dX9_joined_102 : decode cX9_joined 102 = .ok (.iload_n 1, 1) := by decide +kernel
theorem dX9_joined_103 : decode cX9_joined 103 = .ok (.iload_n 2, 1) := by decide +kernel
theorem dX9_joined_104 : decode cX9_joined 104 = .ok (.isub, 1) := by decide +kernel
theorem dX9_joined_105 : decode cX9_joined 105 = .ok (.ireturn, 1) := by decide +kernel
theorem dX9_joined_106 : decode cX9_joined 106 = .ok (.iload_n 1, 1) := by decide +kernel
theorem dX9_joined_107 : decode cX9_joined 107 = .ok (.iload_n 2, 1) := by decide +kernel
theorem dX9_joined_108 : decode cX9_joined 108 = .ok (.imul, 1) := by decide +kernel
theorem dX9_joined_109 : decode cX9_joined 109 = .ok (.ireturn, 1) := by decide +kernel
theorem dX9_joined_110 : decode cX9_joined 110 = .ok (.iconst 0, 1) := by decide +kernel
theorem dX9_joined_111 : decode cX9_joined 111 = .ok (.ireturn, 1) := by decide +kernel
theorem dX10_init_0 : decode cX10_init 0 = .ok (.aload_n 0, 1) := by decide +kernel
theorem dX10_init_1 : decode cX10_init 1 = .ok (.invokespecial 3, 3) := by decide +kernel
theorem dX10_init_4 : decode cX10_init 4 = .ok (.aload_n 0, 1) := by decide +kernel
theorem dX10_init_5 : decode cX10_init 5 = .ok (.sipush 160, 3) := by decide +kernel
theorem dX10_init_8 : decode cX10_init 8 = .ok (.newarray .int, 2) := by decide +kernel
theorem dX10_init_10 : decode cX10_init 10 = .ok (.putfield 9, 3) := by decide +kernel
theorem dX10_init_13 : decode cX10_init 13 = .ok (.aload_n 0, 1) := by decide +kernel
theorem dX10_init_14 : decode cX10_init 14 = .ok (.iload_n 1, 1) := by decide +kernel
theorem dX10_init_15 : decode cX10_init 15 = .ok (.putfield 15, 3) := by decide +kernel
theorem dX10_init_18 : decode cX10_init 18 = .ok (.return_, 1) := by decide +kernel
theorem dX10_codeAt_0 : decode cX10_codeAt 0 = .ok (.iload_n 1, 1) := by decide +kernel
theorem dX10_codeAt_1 : decode cX10_codeAt 1 = .ok (.ifCond .lt 20, 3) := by decide +kernel
theorem dX10_codeAt_4 : decode cX10_codeAt 4 = .ok (.iload_n 1, 1) := by decide +kernel
theorem dX10_codeAt_5 : decode cX10_codeAt 5 = .ok (.aload_n 0, 1) := by decide +kernel
theorem dX10_codeAt_6 : decode cX10_codeAt 6 = .ok (.getfield 19, 3) := by decide +kernel
theorem dX10_codeAt_9 : decode cX10_codeAt 9 = .ok (.if_icmp .ge 12, 3) := by decide +kernel
theorem dX10_codeAt_12 : decode cX10_codeAt 12 = .ok (.aload_n 0, 1) := by decide +kernel
theorem dX10_codeAt_13 : decode cX10_codeAt 13 = .ok (.getfield 9, 3) := by decide +kernel
theorem dX10_codeAt_16 : decode cX10_codeAt 16 = .ok (.iload_n 1, 1) := by decide +kernel
theorem dX10_codeAt_17 : decode cX10_codeAt 17 = .ok (.iaload, 1) := by decide +kernel
theorem dX10_codeAt_18 : decode cX10_codeAt 18 = .ok (.goto 4, 3) := by decide +kernel
theorem dX10_codeAt_21 : decode cX10_codeAt 21 = .ok (.iconst 0, 1) := by decide +kernel
theorem dX10_codeAt_22 : decode cX10_codeAt 22 = .ok (.ireturn, 1) := by decide +kernel
theorem dX10_add_0 : decode cX10_add 0 = .ok (.aload_n 0, 1) := by decide +kernel
theorem dX10_add_1 : decode cX10_add 1 = .ok (.getfield 19, 3) := by decide +kernel
theorem dX10_add_4 : decode cX10_add 4 = .ok (.sipush 160, 3) := by decide +kernel
theorem dX10_add_7 : decode cX10_add 7 = .ok (.if_icmp .ge 23, 3) := by decide +kernel
theorem dX10_add_10 : decode cX10_add 10 = .ok (.aload_n 0, 1) := by decide +kernel
theorem dX10_add_11 : decode cX10_add 11 = .ok (.getfield 9, 3) := by decide +kernel
theorem dX10_add_14 : decode cX10_add 14 = .ok (.aload_n 0, 1) := by decide +kernel
theorem dX10_add_15 : decode cX10_add 15 = .ok (.getfield 19, 3) := by decide +kernel
theorem dX10_add_18 : decode cX10_add 18 = .ok (.iload_n 1, 1) := by decide +kernel
theorem dX10_add_19 : decode cX10_add 19 = .ok (.iastore, 1) := by decide +kernel
theorem dX10_add_20 : decode cX10_add 20 = .ok (.aload_n 0, 1) := by decide +kernel
theorem dX10_add_21 : decode cX10_add 21 = .ok (.dup, 1) := by decide +kernel
theorem dX10_add_22 : decode cX10_add 22 = .ok (.getfield 19, 3) := by decide +kernel
theorem dX10_add_25 : decode cX10_add 25 = .ok (.iconst 1, 1) := by decide +kernel
theorem dX10_add_26 : decode cX10_add 26 = .ok (.iadd, 1) := by decide +kernel
theorem dX10_add_27 : decode cX10_add 27 = .ok (.putfield 19, 3) := by decide +kernel
theorem dX10_add_30 : decode cX10_add 30 = .ok (.return_, 1) := by decide +kernel
theorem dX10_empty_0 : decode cX10_empty 0 = .ok (.aload_n 0, 1) := by decide +kernel
theorem dX10_empty_1 : decode cX10_empty 1 = .ok (.iconst 0, 1) := by decide +kernel
theorem dX10_empty_2 : decode cX10_empty 2 = .ok (.putfield 22, 3) := by decide +kernel
theorem dX10_empty_5 : decode cX10_empty 5 = .ok (.aload_n 0, 1) := by decide +kernel
theorem dX10_empty_6 : decode cX10_empty 6 = .ok (.iconst 0, 1) := by decide +kernel
theorem dX10_empty_7 : decode cX10_empty 7 = .ok (.putfield 19, 3) := by decide +kernel
theorem dX10_empty_10 : decode cX10_empty 10 = .ok (.return_, 1) := by decide +kernel
theorem dX10_endLay_0 : decode cX10_endLay 0 = .ok (.aload_n 0, 1) := by decide +kernel
theorem dX10_endLay_1 : decode cX10_endLay 1 = .ok (.aload_n 0, 1) := by decide +kernel
theorem dX10_endLay_2 : decode cX10_endLay 2 = .ok (.getfield 19, 3) := by decide +kernel
theorem dX10_endLay_5 : decode cX10_endLay 5 = .ok (.putfield 22, 3) := by decide +kernel
theorem dX10_endLay_8 : decode cX10_endLay 8 = .ok (.return_, 1) := by decide +kernel
theorem dX10_isName_0 : decode cX10_isName 0 = .ok (.iload_n 0, 1) := by decide +kernel
theorem dX10_isName_1 : decode cX10_isName 1 = .ok (.bipush (-14), 2) := by decide +kernel
theorem dX10_isName_3 : decode cX10_isName 3 = .ok (.bipush (-10), 2) := by decide +kernel
theorem dX10_isName_5 : decode cX10_isName 5 = .ok (.invokestatic 25, 3) := by decide +kernel
theorem dX10_isName_8 : decode cX10_isName 8 = .ok (.ireturn, 1) := by decide +kernel
theorem dX10_joinsTwo_0 : decode cX10_joinsTwo 0 = .ok (.iload_n 0, 1) := by decide +kernel
theorem dX10_joinsTwo_1 : decode cX10_joinsTwo 1 = .ok (.bipush (-8), 2) := by decide +kernel
theorem dX10_joinsTwo_3 : decode cX10_joinsTwo 3 = .ok (.iconst (-1), 1) := by decide +kernel
theorem dX10_joinsTwo_4 : decode cX10_joinsTwo 4 = .ok (.invokestatic 25, 3) := by decide +kernel
theorem dX10_joinsTwo_7 : decode cX10_joinsTwo 7 = .ok (.ireturn, 1) := by decide +kernel
theorem dX11_init_0 : decode cX11_init 0 = .ok (.aload_n 0, 1) := by decide +kernel
theorem dX11_init_1 : decode cX11_init 1 = .ok (.invokespecial 1, 3) := by decide +kernel
theorem dX11_init_4 : decode cX11_init 4 = .ok (.aload_n 0, 1) := by decide +kernel
theorem dX11_init_5 : decode cX11_init 5 = .ok (.bipush 8, 2) := by decide +kernel
theorem dX11_init_7 : decode cX11_init 7 = .ok (.anewarray 9, 3) := by decide +kernel
theorem dX11_init_10 : decode cX11_init 10 = .ok (.putfield 11, 3) := by decide +kernel
theorem dX11_init_13 : decode cX11_init 13 = .ok (.aload_n 0, 1) := by decide +kernel
theorem dX11_init_14 : decode cX11_init 14 = .ok (.iconst 5, 1) := by decide +kernel
theorem dX11_init_15 : decode cX11_init 15 = .ok (.anewarray 15, 3) := by decide +kernel
theorem dX11_init_18 : decode cX11_init 18 = .ok (.putfield 17, 3) := by decide +kernel
theorem dX11_init_21 : decode cX11_init 21 = .ok (.aload_n 0, 1) := by decide +kernel
theorem dX11_init_22 : decode cX11_init 22 = .ok (.bipush 10, 2) := by decide +kernel
theorem dX11_init_24 : decode cX11_init 24 = .ok (.anewarray 21, 3) := by decide +kernel
theorem dX11_init_27 : decode cX11_init 27 = .ok (.putfield 23, 3) := by decide +kernel
theorem dX11_init_30 : decode cX11_init 30 = .ok (.aload_n 0, 1) := by decide +kernel
theorem dX11_init_31 : decode cX11_init 31 = .ok (.bipush 6, 2) := by decide +kernel
theorem dX11_init_33 : decode cX11_init 33 = .ok (.anewarray 27, 3) := by decide +kernel
theorem dX11_init_36 : decode cX11_init 36 = .ok (.putfield 29, 3) := by decide +kernel
theorem dX11_init_39 : decode cX11_init 39 = .ok (.aload_n 0, 1) := by decide +kernel
theorem dX11_init_40 : decode cX11_init 40 = .ok (.bipush 12, 2) := by decide +kernel
theorem dX11_init_42 : decode cX11_init 42 = .ok (.anewarray 33, 3) := by decide +kernel
theorem dX11_init_45 : decode cX11_init 45 = .ok (.putfield 35, 3) := by decide +kernel
theorem dX11_init_48 : decode cX11_init 48 = .ok (.aload_n 0, 1) := by decide +kernel
theorem dX11_init_49 : decode cX11_init 49 = .ok (.iconst 4, 1) := by decide +kernel
theorem dX11_init_50 : decode cX11_init 50 = .ok (.anewarray 39, 3) := by decide +kernel
theorem dX11_init_53 : decode cX11_init 53 = .ok (.putfield 41, 3) := by decide +kernel
theorem dX11_init_56 : decode cX11_init 56 = .ok (.aload_n 0, 1) := by decide +kernel
theorem dX11_init_57 : decode cX11_init 57 = .ok (.bipush 6, 2) := by decide +kernel
theorem dX11_init_59 : decode cX11_init 59 = .ok (.anewarray 9, 3) := by decide +kernel
theorem dX11_init_62 : decode cX11_init 62 = .ok (.putfield 45, 3) := by decide +kernel
theorem dX11_init_65 : decode cX11_init 65 = .ok (.aload_n 0, 1) := by decide +kernel
theorem dX11_init_66 : decode cX11_init 66 = .ok (.new 48, 3) := by decide +kernel
theorem dX11_init_69 : decode cX11_init 69 = .ok (.dup, 1) := by decide +kernel
theorem dX11_init_70 : decode cX11_init 70 = .ok (.invokespecial 50, 3) := by decide +kernel
theorem dX11_init_73 : decode cX11_init 73 = .ok (.putfield 51, 3) := by decide +kernel
theorem dX11_init_76 : decode cX11_init 76 = .ok (.aload_n 0, 1) := by decide +kernel
theorem dX11_init_77 : decode cX11_init 77 = .ok (.new 55, 3) := by decide +kernel
theorem dX11_init_80 : decode cX11_init 80 = .ok (.dup, 1) := by decide +kernel
theorem dX11_init_81 : decode cX11_init 81 = .ok (.invokespecial 57, 3) := by decide +kernel
theorem dX11_init_84 : decode cX11_init 84 = .ok (.putfield 58, 3) := by decide +kernel
theorem dX11_init_87 : decode cX11_init 87 = .ok (.aload_n 0, 1) := by decide +kernel
theorem dX11_init_88 : decode cX11_init 88 = .ok (.new 62, 3) := by decide +kernel
theorem dX11_init_91 : decode cX11_init 91 = .ok (.dup, 1) := by decide +kernel
theorem dX11_init_92 : decode cX11_init 92 = .ok (.invokespecial 64, 3) := by decide +kernel
theorem dX11_init_95 : decode cX11_init 95 = .ok (.putfield 65, 3) := by decide +kernel
theorem dX11_init_98 : decode cX11_init 98 = .ok (.aload_n 0, 1) := by decide +kernel
theorem dX11_init_99 : decode cX11_init 99 = .ok (.new 69, 3) := by decide +kernel
theorem dX11_init_102 : decode cX11_init 102 = .ok (.dup, 1) := by decide +kernel
theorem dX11_init_103 : decode cX11_init 103 = .ok (.invokespecial 71, 3) := by decide +kernel
theorem dX11_init_106 : decode cX11_init 106 = .ok (.putfield 72, 3) := by decide +kernel
theorem dX11_init_109 : decode cX11_init 109 = .ok (.aload_n 0, 1) := by decide +kernel
theorem dX11_init_110 : decode cX11_init 110 = .ok (.new 27, 3) := by decide +kernel
theorem dX11_init_113 : decode cX11_init 113 = .ok (.dup, 1) := by decide +kernel
theorem dX11_init_114 : decode cX11_init 114 = .ok (.iconst 0, 1) := by decide +kernel
theorem dX11_init_115 : decode cX11_init 115 = .ok (.invokespecial 76, 3) := by decide +kernel
theorem dX11_init_118 : decode cX11_init 118 = .ok (.putfield 79, 3) := by decide +kernel
theorem dX11_init_121 : decode cX11_init 121 = .ok (.aload_n 0, 1) := by decide +kernel
theorem dX11_init_122 : decode cX11_init 122 = .ok (.new 83, 3) := by decide +kernel
theorem dX11_init_125 : decode cX11_init 125 = .ok (.dup, 1) := by decide +kernel
theorem dX11_init_126 : decode cX11_init 126 = .ok (.invokespecial 85, 3) := by decide +kernel
theorem dX11_init_129 : decode cX11_init 129 = .ok (.putfield 86, 3) := by decide +kernel
theorem dX11_init_132 : decode cX11_init 132 = .ok (.iconst 0, 1) := by decide +kernel
theorem dX11_init_133 : decode cX11_init 133 = .ok (.istore_n 1, 1) := by decide +kernel
theorem dX11_init_134 : decode cX11_init 134 = .ok (.iload_n 1, 1) := by decide +kernel
theorem dX11_init_135 : decode cX11_init 135 = .ok (.iconst 4, 1) := by decide +kernel
theorem dX11_init_136 : decode cX11_init 136 = .ok (.if_icmp .ge 22, 3) := by decide +kernel
theorem dX11_init_139 : decode cX11_init 139 = .ok (.aload_n 0, 1) := by decide +kernel
theorem dX11_init_140 : decode cX11_init 140 = .ok (.getfield 41, 3) := by decide +kernel
theorem dX11_init_143 : decode cX11_init 143 = .ok (.iload_n 1, 1) := by decide +kernel
theorem dX11_init_144 : decode cX11_init 144 = .ok (.new 39, 3) := by decide +kernel
theorem dX11_init_147 : decode cX11_init 147 = .ok (.dup, 1) := by decide +kernel
theorem dX11_init_148 : decode cX11_init 148 = .ok (.invokespecial 90, 3) := by decide +kernel
theorem dX11_init_151 : decode cX11_init 151 = .ok (.aastore, 1) := by decide +kernel
theorem dX11_init_152 : decode cX11_init 152 = .ok (.iinc 1 1, 3) := by decide +kernel
theorem dX11_init_155 : decode cX11_init 155 = .ok (.goto (-21), 3) := by decide +kernel
theorem dX11_init_158 : decode cX11_init 158 = .ok (.iconst 0, 1) := by decide +kernel
theorem dX11_init_159 : decode cX11_init 159 = .ok (.istore_n 1, 1) := by decide +kernel
theorem dX11_init_160 : decode cX11_init 160 = .ok (.iload_n 1, 1) := by decide +kernel
theorem dX11_init_161 : decode cX11_init 161 = .ok (.ldc 91, 2) := by decide +kernel
theorem dX11_init_163 : decode cX11_init 163 = .ok (.invokevirtual 93, 3) := by decide +kernel
theorem dX11_init_166 : decode cX11_init 166 = .ok (.if_icmp .ge 22, 3) := by decide +kernel
theorem dX11_init_169 : decode cX11_init 169 = .ok (.aload_n 0, 1) := by decide +kernel
theorem dX11_init_170 : decode cX11_init 170 = .ok (.getfield 72, 3) := by decide +kernel
theorem dX11_init_173 : decode cX11_init 173 = .ok (.ldc 91, 2) := by decide +kernel
theorem dX11_init_175 : decode cX11_init 175 = .ok (.iload_n 1, 1) := by decide +kernel
theorem dX11_init_176 : decode cX11_init 176 = .ok (.invokevirtual 99, 3) := by decide +kernel
theorem dX11_init_179 : decode cX11_init 179 = .ok (.invokevirtual 103, 3) := by decide +kernel
theorem dX11_init_182 : decode cX11_init 182 = .ok (.iinc 1 1, 3) := by decide +kernel
theorem dX11_init_185 : decode cX11_init 185 = .ok (.goto (-25), 3) := by decide +kernel
theorem dX11_init_188 : decode cX11_init 188 = .ok (.aload_n 0, 1) := by decide +kernel
theorem dX11_init_189 : decode cX11_init 189 = .ok (.invokevirtual 106, 3) := by decide +kernel
theorem dX11_init_192 : decode cX11_init 192 = .ok (.pop, 1) := by decide +kernel
theorem dX11_init_193 : decode cX11_init 193 = .ok (.return_, 1) := by decide +kernel
theorem dX11_port_0 : decode cX11_port 0 = .ok (.iload_n 1, 1) := by decide +kernel
theorem dX11_port_1 : decode cX11_port 1 = .ok (.bipush 10, 2) := by decide +kernel
theorem dX11_port_3 : decode cX11_port 3 = .ok (.sipush 999, 3) := by decide +kernel
theorem dX11_port_6 : decode cX11_port 6 = .ok (.invokestatic 109, 3) := by decide +kernel
theorem dX11_port_9 : decode cX11_port 9 = .ok (.ifCond .eq 13, 3) := by decide +kernel
theorem dX11_port_12 : decode cX11_port 12 = .ok (.iload_n 2, 1) := by decide +kernel
theorem dX11_port_13 : decode cX11_port 13 = .ok (.iconst 0, 1) := by decide +kernel
theorem dX11_port_14 : decode cX11_port 14 = .ok (.bipush 99, 2) := by decide +kernel
theorem dX11_port_16 : decode cX11_port 16 = .ok (.invokestatic 109, 3) := by decide +kernel
theorem dX11_port_19 : decode cX11_port 19 = .ok (.ifCond .ne 6, 3) := by decide +kernel
theorem dX11_port_22 : decode cX11_port 22 = .ok (.bipush (-2), 2) := by decide +kernel
theorem dX11_port_24 : decode cX11_port 24 = .ok (.ireturn, 1) := by decide +kernel
theorem dX11_port_25 : decode cX11_port 25 = .ok (.aload_n 0, 1) := by decide +kernel
theorem dX11_port_26 : decode cX11_port 26 = .ok (.getfield 113, 3) := by decide +kernel
theorem dX11_port_29 : decode cX11_port 29 = .ok (.bipush 8, 2) := by decide +kernel
theorem dX11_port_31 : decode cX11_port 31 = .ok (.if_icmp .lt 6, 3) := by decide +kernel
theorem dX11_port_34 : decode cX11_port 34 = .ok (.bipush (-4), 2) := by decide +kernel
theorem dX11_port_36 : decode cX11_port 36 = .ok (.ireturn, 1) := by decide +kernel
theorem dX11_port_37 : decode cX11_port 37 = .ok (.aload_n 0, 1) := by decide +kernel
theorem dX11_port_38 : decode cX11_port 38 = .ok (.getfield 11, 3) := by decide +kernel
theorem dX11_port_41 : decode cX11_port 41 = .ok (.aload_n 0, 1) := by decide +kernel
theorem dX11_port_42 : decode cX11_port 42 = .ok (.getfield 113, 3) := by decide +kernel
theorem dX11_port_45 : decode cX11_port 45 = .ok (.new 9, 3) := by decide +kernel
theorem dX11_port_48 : decode cX11_port 48 = .ok (.dup, 1) := by decide +kernel
theorem dX11_port_49 : decode cX11_port 49 = .ok (.aload_n 0, 1) := by decide +kernel
theorem dX11_port_50 : decode cX11_port 50 = .ok (.getfield 113, 3) := by decide +kernel
theorem dX11_port_53 : decode cX11_port 53 = .ok (.iload_n 1, 1) := by decide +kernel
theorem dX11_port_54 : decode cX11_port 54 = .ok (.iload_n 2, 1) := by decide +kernel
theorem dX11_port_55 : decode cX11_port 55 = .ok (.invokespecial 117, 3) := by decide +kernel
theorem dX11_port_58 : decode cX11_port 58 = .ok (.aastore, 1) := by decide +kernel
theorem dX11_port_59 : decode cX11_port 59 = .ok (.aload_n 0, 1) := by decide +kernel
theorem dX11_port_60 : decode cX11_port 60 = .ok (.dup, 1) := by decide +kernel
theorem dX11_port_61 : decode cX11_port 61 = .ok (.getfield 113, 3) := by decide +kernel
theorem dX11_port_64 : decode cX11_port 64 = .ok (.iconst 1, 1) := by decide +kernel
theorem dX11_port_65 : decode cX11_port 65 = .ok (.iadd, 1) := by decide +kernel
theorem dX11_port_66 : decode cX11_port 66 = .ok (.putfield 113, 3) := by decide +kernel
theorem dX11_port_69 : decode cX11_port 69 = .ok (.aload_n 0, 1) := by decide +kernel
theorem dX11_port_70 : decode cX11_port 70 = .ok (.getfield 113, 3) := by decide +kernel
theorem dX11_port_73 : decode cX11_port 73 = .ok (.iconst 1, 1) := by decide +kernel
theorem dX11_port_74 : decode cX11_port 74 = .ok (.isub, 1) := by decide +kernel
theorem dX11_port_75 : decode cX11_port 75 = .ok (.ireturn, 1) := by decide +kernel
theorem dX11_way_0 : decode cX11_way 0 = .ok (.aload_n 0, 1) := by decide +kernel
theorem dX11_way_1 : decode cX11_way 1 = .ok (.iload_n 1, 1) := by decide +kernel
theorem dX11_way_2 : decode cX11_way 2 = .ok (.invokevirtual 120, 3) := by decide +kernel
theorem dX11_way_5 : decode cX11_way 5 = .ok (.astore 4, 2) := by decide +kernel
theorem dX11_way_7 : decode cX11_way 7 = .ok (.aload_n 0, 1) := by decide +kernel
theorem dX11_way_8 : decode cX11_way 8 = .ok (.iload_n 2, 1) := by decide +kernel
theorem dX11_way_9 : decode cX11_way 9 = .ok (.invokevirtual 120, 3) := by decide +kernel
theorem dX11_way_12 : decode cX11_way 12 = .ok (.astore 5, 2) := by decide +kernel
theorem dX11_way_14 : decode cX11_way 14 = .ok (.aload 4, 2) := by decide +kernel
theorem dX11_way_16 : decode cX11_way 16 = .ok (.ifnull 24, 3) := by decide +kernel
theorem dX11_way_19 : decode cX11_way 19 = .ok (.aload 5, 2) := by decide +kernel
theorem dX11_way_21 : decode cX11_way 21 = .ok (.ifnull 19, 3) := by decide +kernel
theorem dX11_way_24 : decode cX11_way 24 = .ok (.iload_n 1, 1) := by decide +kernel
theorem dX11_way_25 : decode cX11_way 25 = .ok (.iload_n 2, 1) := by decide +kernel
theorem dX11_way_26 : decode cX11_way 26 = .ok (.if_icmp .eq 14, 3) := by decide +kernel
theorem dX11_way_29 : decode cX11_way 29 = .ok (.iload_n 3, 1) := by decide +kernel
theorem dX11_way_30 : decode cX11_way 30 = .ok (.iconst 1, 1) := by decide +kernel
theorem dX11_way_31 : decode cX11_way 31 = .ok (.sipush 9999, 3) := by decide +kernel
theorem dX11_way_34 : decode cX11_way 34 = .ok (.invokestatic 109, 3) := by decide +kernel
theorem dX11_way_37 : decode cX11_way 37 = .ok (.ifCond .ne 6, 3) := by decide +kernel
theorem dX11_way_40 : decode cX11_way 40 = .ok (.bipush (-2), 2) := by decide +kernel
theorem dX11_way_42 : decode cX11_way 42 = .ok (.ireturn, 1) := by decide +kernel
theorem dX11_way_43 : decode cX11_way 43 = .ok (.aload 4, 2) := by decide +kernel
theorem dX11_way_45 : decode cX11_way 45 = .ok (.aload 5, 2) := by decide +kernel
theorem dX11_way_47 : decode cX11_way 47 = .ok (.invokevirtual 124, 3) := by decide +kernel
theorem dX11_way_50 : decode cX11_way 50 = .ok (.istore 6, 2) := by decide +kernel
theorem dX11_way_52 : decode cX11_way 52 = .ok (.aload 4, 2) := by decide +kernel
theorem dX11_way_54 : decode cX11_way 54 = .ok (.aload 5, 2) := by decide +kernel
theorem dX11_way_56 : decode cX11_way 56 = .ok (.iload_n 3, 1) := by decide +kernel
theorem dX11_way_57 : decode cX11_way 57 = .ok (.invokevirtual 128, 3) := by decide +kernel
theorem dX11_way_60 : decode cX11_way 60 = .ok (.aload 5, 2) := by decide +kernel
theorem dX11_way_62 : decode cX11_way 62 = .ok (.aload 4, 2) := by decide +kernel
theorem dX11_way_64 : decode cX11_way 64 = .ok (.iload_n 3, 1) := by decide +kernel
theorem dX11_way_65 : decode cX11_way 65 = .ok (.invokevirtual 128, 3) := by decide +kernel
theorem dX11_way_68 : decode cX11_way 68 = .ok (.iload 6, 2) := by decide +kernel
theorem dX11_way_70 : decode cX11_way 70 = .ok (.ireturn, 1) := by decide +kernel
theorem dX11_price_0 : decode cX11_price 0 = .ok (.aload_n 0, 1) := by decide +kernel
theorem dX11_price_1 : decode cX11_price 1 = .ok (.iload_n 1, 1) := by decide +kernel
theorem dX11_price_2 : decode cX11_price 2 = .ok (.invokevirtual 120, 3) := by decide +kernel
theorem dX11_price_5 : decode cX11_price 5 = .ok (.astore_n 3, 1) := by decide +kernel
theorem dX11_price_6 : decode cX11_price 6 = .ok (.aload_n 3, 1) := by decide +kernel
theorem dX11_price_7 : decode cX11_price 7 = .ok (.ifnull 13, 3) := by decide +kernel
theorem dX11_price_10 : decode cX11_price 10 = .ok (.iload_n 2, 1) := by decide +kernel
theorem dX11_price_11 : decode cX11_price 11 = .ok (.iconst 0, 1) := by decide +kernel
theorem dX11_price_12 : decode cX11_price 12 = .ok (.bipush 99, 2) := by decide +kernel
theorem dX11_price_14 : decode cX11_price 14 = .ok (.invokestatic 109, 3) := by decide +kernel
theorem dX11_price_17 : decode cX11_price 17 = .ok (.ifCond .ne 6, 3) := by decide +kernel
theorem dX11_price_20 : decode cX11_price 20 = .ok (.bipush (-2), 2) := by decide +kernel
theorem dX11_price_22 : decode cX11_price 22 = .ok (.ireturn, 1) := by decide +kernel
theorem dX11_price_23 : decode cX11_price 23 = .ok (.aload_n 3, 1) := by decide +kernel
theorem dX11_price_24 : decode cX11_price 24 = .ok (.getfield 132, 3) := by decide +kernel
theorem dX11_price_27 : decode cX11_price 27 = .ok (.istore 4, 2) := by decide +kernel
theorem dX11_price_29 : decode cX11_price 29 = .ok (.aload_n 3, 1) := by decide +kernel
theorem dX11_price_30 : decode cX11_price 30 = .ok (.iload_n 2, 1) := by decide +kernel
theorem dX11_price_31 : decode cX11_price 31 = .ok (.putfield 132, 3) := by decide +kernel
theorem dX11_price_34 : decode cX11_price 34 = .ok (.iload 4, 2) := by decide +kernel
theorem dX11_price_36 : decode cX11_price 36 = .ok (.ireturn, 1) := by decide +kernel
theorem dX11_ship_0 : decode cX11_ship 0 = .ok (.aload_n 0, 1) := by decide +kernel
theorem dX11_ship_1 : decode cX11_ship 1 = .ok (.iload_n 1, 1) := by decide +kernel
theorem dX11_ship_2 : decode cX11_ship 2 = .ok (.invokevirtual 120, 3) := by decide +kernel
theorem dX11_ship_5 : decode cX11_ship 5 = .ok (.astore 5, 2) := by decide +kernel
theorem dX11_ship_7 : decode cX11_ship 7 = .ok (.aload 5, 2) := by decide +kernel
theorem dX11_ship_9 : decode cX11_ship 9 = .ok (.ifnull 38, 3) := by decide +kernel
theorem dX11_ship_12 : decode cX11_ship 12 = .ok (.iload_n 2, 1) := by decide +kernel
theorem dX11_ship_13 : decode cX11_ship 13 = .ok (.bipush 100, 2) := by decide +kernel
theorem dX11_ship_15 : decode cX11_ship 15 = .ok (.sipush 9999, 3) := by decide +kernel
theorem dX11_ship_18 : decode cX11_ship 18 = .ok (.invokestatic 109, 3) := by decide +kernel
theorem dX11_ship_21 : decode cX11_ship 21 = .ok (.ifCond .eq 26, 3) := by decide +kernel
theorem dX11_ship_24 : decode cX11_ship 24 = .ok (.iload_n 3, 1) := by decide +kernel
theorem dX11_ship_25 : decode cX11_ship 25 = .ok (.bipush 10, 2) := by decide +kernel
theorem dX11_ship_27 : decode cX11_ship 27 = .ok (.sipush 999, 3) := by decide +kernel
theorem dX11_ship_30 : decode cX11_ship 30 = .ok (.invokestatic 109, 3) := by decide +kernel
theorem dX11_ship_33 : decode cX11_ship 33 = .ok (.ifCond .eq 14, 3) := by decide +kernel
theorem dX11_ship_36 : decode cX11_ship 36 = .ok (.iload 4, 2) := by decide +kernel
theorem dX11_ship_38 : decode cX11_ship 38 = .ok (.iconst 1, 1) := by decide +kernel
theorem dX11_ship_39 : decode cX11_ship 39 = .ok (.bipush 50, 2) := by decide +kernel
theorem dX11_ship_41 : decode cX11_ship 41 = .ok (.invokestatic 109, 3) := by decide +kernel
theorem dX11_ship_44 : decode cX11_ship 44 = .ok (.ifCond .ne 6, 3) := by decide +kernel
theorem dX11_ship_47 : decode cX11_ship 47 = .ok (.bipush (-2), 2) := by decide +kernel
theorem dX11_ship_49 : decode cX11_ship 49 = .ok (.ireturn, 1) := by decide +kernel
theorem dX11_ship_50 : decode cX11_ship 50 = .ok (.aload_n 0, 1) := by decide +kernel
theorem dX11_ship_51 : decode cX11_ship 51 = .ok (.getfield 135, 3) := by decide +kernel
theorem dX11_ship_54 : decode cX11_ship 54 = .ok (.iconst 5, 1) := by decide +kernel
theorem dX11_ship_55 : decode cX11_ship 55 = .ok (.if_icmp .lt 6, 3) := by decide +kernel
theorem dX11_ship_58 : decode cX11_ship 58 = .ok (.bipush (-4), 2) := by decide +kernel
theorem dX11_ship_60 : decode cX11_ship 60 = .ok (.ireturn, 1) := by decide +kernel
theorem dX11_ship_61 : decode cX11_ship 61 = .ok (.aload_n 0, 1) := by decide +kernel
theorem dX11_ship_62 : decode cX11_ship 62 = .ok (.getfield 17, 3) := by decide +kernel
theorem dX11_ship_65 : decode cX11_ship 65 = .ok (.aload_n 0, 1) := by decide +kernel
theorem dX11_ship_66 : decode cX11_ship 66 = .ok (.getfield 135, 3) := by decide +kernel
theorem dX11_ship_69 : decode cX11_ship 69 = .ok (.new 15, 3) := by decide +kernel
theorem dX11_ship_72 : decode cX11_ship 72 = .ok (.dup, 1) := by decide +kernel
theorem dX11_ship_73 : decode cX11_ship 73 = .ok (.aload_n 0, 1) := by decide +kernel
theorem dX11_ship_74 : decode cX11_ship 74 = .ok (.getfield 135, 3) := by decide +kernel
theorem dX11_ship_77 : decode cX11_ship 77 = .ok (.aload 5, 2) := by decide +kernel
theorem dX11_ship_79 : decode cX11_ship 79 = .ok (.iload_n 2, 1) := by decide +kernel
theorem dX11_ship_80 : decode cX11_ship 80 = .ok (.iload_n 3, 1) := by decide +kernel
theorem dX11_ship_81 : decode cX11_ship 81 = .ok (.iload 4, 2) := by decide +kernel
theorem dX11_ship_83 : decode cX11_ship 83 = .ok (.invokespecial 138, 3) := by decide +kernel
theorem dX11_ship_86 : decode cX11_ship 86 = .ok (.aastore, 1) := by decide +kernel
theorem dX11_ship_87 : decode cX11_ship 87 = .ok (.aload_n 0, 1) := by decide +kernel
theorem dX11_ship_88 : decode cX11_ship 88 = .ok (.dup, 1) := by decide +kernel
theorem dX11_ship_89 : decode cX11_ship 89 = .ok (.getfield 135, 3) := by decide +kernel
theorem dX11_ship_92 : decode cX11_ship 92 = .ok (.iconst 1, 1) := by decide +kernel
theorem dX11_ship_93 : decode cX11_ship 93 = .ok (.iadd, 1) := by decide +kernel
theorem dX11_ship_94 : decode cX11_ship 94 = .ok (.putfield 135, 3) := by decide +kernel
theorem dX11_ship_97 : decode cX11_ship 97 = .ok (.aload_n 0, 1) := by decide +kernel
theorem dX11_ship_98 : decode cX11_ship 98 = .ok (.getfield 135, 3) := by decide +kernel
theorem dX11_ship_101 : decode cX11_ship 101 = .ok (.iconst 1, 1) := by decide +kernel
theorem dX11_ship_102 : decode cX11_ship 102 = .ok (.isub, 1) := by decide +kernel
theorem dX11_ship_103 : decode cX11_ship 103 = .ok (.ireturn, 1) := by decide +kernel
theorem dX11_speed_0 : decode cX11_speed 0 = .ok (.aload_n 0, 1) := by decide +kernel
theorem dX11_speed_1 : decode cX11_speed 1 = .ok (.iload_n 1, 1) := by decide +kernel
theorem dX11_speed_2 : decode cX11_speed 2 = .ok (.invokevirtual 141, 3) := by decide +kernel
theorem dX11_speed_5 : decode cX11_speed 5 = .ok (.astore_n 3, 1) := by decide +kernel
theorem dX11_speed_6 : decode cX11_speed 6 = .ok (.aload_n 3, 1) := by decide +kernel
theorem dX11_speed_7 : decode cX11_speed 7 = .ok (.ifnull 14, 3) := by decide +kernel
theorem dX11_speed_10 : decode cX11_speed 10 = .ok (.iload_n 2, 1) := by decide +kernel
theorem dX11_speed_11 : decode cX11_speed 11 = .ok (.bipush 6, 2) := by decide +kernel
theorem dX11_speed_13 : decode cX11_speed 13 = .ok (.bipush 14, 2) := by decide +kernel
theorem dX11_speed_15 : decode cX11_speed 15 = .ok (.invokestatic 109, 3) := by decide +kernel
theorem dX11_speed_18 : decode cX11_speed 18 = .ok (.ifCond .ne 6, 3) := by decide +kernel
theorem dX11_speed_21 : decode cX11_speed 21 = .ok (.bipush (-2), 2) := by decide +kernel
theorem dX11_speed_23 : decode cX11_speed 23 = .ok (.ireturn, 1) := by decide +kernel
theorem dX11_speed_24 : decode cX11_speed 24 = .ok (.aload_n 3, 1) := by decide +kernel
theorem dX11_speed_25 : decode cX11_speed 25 = .ok (.getfield 145, 3) := by decide +kernel
theorem dX11_speed_28 : decode cX11_speed 28 = .ok (.istore 4, 2) := by decide +kernel
theorem dX11_speed_30 : decode cX11_speed 30 = .ok (.aload_n 3, 1) := by decide +kernel
theorem dX11_speed_31 : decode cX11_speed 31 = .ok (.iload_n 2, 1) := by decide +kernel
theorem dX11_speed_32 : decode cX11_speed 32 = .ok (.putfield 145, 3) := by decide +kernel
theorem dX11_speed_35 : decode cX11_speed 35 = .ok (.iload 4, 2) := by decide +kernel
theorem dX11_speed_37 : decode cX11_speed 37 = .ok (.ireturn, 1) := by decide +kernel
theorem dX11_free_0 : decode cX11_free 0 = .ok (.aload_n 0, 1) := by decide +kernel
theorem dX11_free_1 : decode cX11_free 1 = .ok (.iload_n 1, 1) := by decide +kernel
theorem dX11_free_2 : decode cX11_free 2 = .ok (.invokevirtual 141, 3) := by decide +kernel
theorem dX11_free_5 : decode cX11_free 5 = .ok (.astore 4, 2) := by decide +kernel
theorem dX11_free_7 : decode cX11_free 7 = .ok (.aload_n 0, 1) := by decide +kernel
theorem dX11_free_8 : decode cX11_free 8 = .ok (.iload_n 2, 1) := by decide +kernel
theorem dX11_free_9 : decode cX11_free 9 = .ok (.invokevirtual 120, 3) := by decide +kernel
theorem dX11_free_12 : decode cX11_free 12 = .ok (.astore 5, 2) := by decide +kernel
theorem dX11_free_14 : decode cX11_free 14 = .ok (.aload 4, 2) := by decide +kernel
theorem dX11_free_16 : decode cX11_free 16 = .ok (.ifnull 15, 3) := by decide +kernel
theorem dX11_free_19 : decode cX11_free 19 = .ok (.aload 5, 2) := by decide +kernel
theorem dX11_free_21 : decode cX11_free 21 = .ok (.ifnull 10, 3) := by decide +kernel
theorem dX11_free_24 : decode cX11_free 24 = .ok (.iload_n 3, 1) := by decide +kernel
theorem dX11_free_25 : decode cX11_free 25 = .ok (.invokestatic 148, 3) := by decide +kernel
theorem dX11_free_28 : decode cX11_free 28 = .ok (.ifCond .ne 6, 3) := by decide +kernel
theorem dX11_free_31 : decode cX11_free 31 = .ok (.bipush (-2), 2) := by decide +kernel
theorem dX11_free_33 : decode cX11_free 33 = .ok (.ireturn, 1) := by decide +kernel
theorem dX11_free_34 : decode cX11_free 34 = .ok (.aload 4, 2) := by decide +kernel
theorem dX11_free_36 : decode cX11_free 36 = .ok (.aload 5, 2) := by decide +kernel
theorem dX11_free_38 : decode cX11_free 38 = .ok (.putfield 152, 3) := by decide +kernel
theorem dX11_free_41 : decode cX11_free 41 = .ok (.aload 4, 2) := by decide +kernel
theorem dX11_free_43 : decode cX11_free 43 = .ok (.iload_n 3, 1) := by decide +kernel
theorem dX11_free_44 : decode cX11_free 44 = .ok (.putfield 156, 3) := by decide +kernel
theorem dX11_free_47 : decode cX11_free 47 = .ok (.iconst 1, 1) := by decide +kernel
theorem dX11_free_48 : decode cX11_free 48 = .ok (.ireturn, 1) := by decide +kernel
theorem dX11_shipTold_0 : decode cX11_shipTold 0 = .ok (.aload_n 0, 1) := by decide +kernel
theorem dX11_shipTold_1 : decode cX11_shipTold 1 = .ok (.iload_n 1, 1) := by decide +kernel
theorem dX11_shipTold_2 : decode cX11_shipTold 2 = .ok (.invokevirtual 141, 3) := by decide +kernel
theorem dX11_shipTold_5 : decode cX11_shipTold 5 = .ok (.astore_n 3, 1) := by decide +kernel
theorem dX11_shipTold_6 : decode cX11_shipTold 6 = .ok (.aload_n 3, 1) := by decide +kernel
theorem dX11_shipTold_7 : decode cX11_shipTold 7 = .ok (.ifnonnull 6, 3) := by decide +kernel
theorem dX11_shipTold_10 : decode cX11_shipTold 10 = .ok (.bipush (-2), 2) := by decide +kernel
theorem dX11_shipTold_12 : decode cX11_shipTold 12 = .ok (.ireturn, 1) := by decide +kernel
theorem dX11_shipTold_13 : decode cX11_shipTold 13 = .ok (.iload_n 2, 1) := by decide +kernel
theorem dX11_shipTold_14 : decode cX11_shipTold 14 = .ok (.tableswitch 80 0 6 #[42, 50, 55, 60, 65, 70, 75], 42) := by decide +kernel
theorem dX11_shipTold_56 : decode cX11_shipTold 56 = .ok (.aload_n 3, 1) := by decide +kernel
theorem dX11_shipTold_57 : decode cX11_shipTold 57 = .ok (.getfield 152, 3) := by decide +kernel
theorem dX11_shipTold_60 : decode cX11_shipTold 60 = .ok (.getfield 159, 3) := by decide +kernel
theorem dX11_shipTold_63 : decode cX11_shipTold 63 = .ok (.ireturn, 1) := by decide +kernel
theorem dX11_shipTold_64 : decode cX11_shipTold 64 = .ok (.aload_n 3, 1) := by decide +kernel
theorem dX11_shipTold_65 : decode cX11_shipTold 65 = .ok (.getfield 156, 3) := by decide +kernel
theorem dX11_shipTold_68 : decode cX11_shipTold 68 = .ok (.ireturn, 1) := by decide +kernel
theorem dX11_shipTold_69 : decode cX11_shipTold 69 = .ok (.aload_n 3, 1) := by decide +kernel
theorem dX11_shipTold_70 : decode cX11_shipTold 70 = .ok (.getfield 162, 3) := by decide +kernel
theorem dX11_shipTold_73 : decode cX11_shipTold 73 = .ok (.ireturn, 1) := by decide +kernel
theorem dX11_shipTold_74 : decode cX11_shipTold 74 = .ok (.aload_n 3, 1) := by decide +kernel
theorem dX11_shipTold_75 : decode cX11_shipTold 75 = .ok (.getfield 165, 3) := by decide +kernel
theorem dX11_shipTold_78 : decode cX11_shipTold 78 = .ok (.ireturn, 1) := by decide +kernel
theorem dX11_shipTold_79 : decode cX11_shipTold 79 = .ok (.aload_n 3, 1) := by decide +kernel
theorem dX11_shipTold_80 : decode cX11_shipTold 80 = .ok (.getfield 168, 3) := by decide +kernel
theorem dX11_shipTold_83 : decode cX11_shipTold 83 = .ok (.ireturn, 1) := by decide +kernel
theorem dX11_shipTold_84 : decode cX11_shipTold 84 = .ok (.aload_n 3, 1) := by decide +kernel
theorem dX11_shipTold_85 : decode cX11_shipTold 85 = .ok (.getfield 145, 3) := by decide +kernel
theorem dX11_shipTold_88 : decode cX11_shipTold 88 = .ok (.ireturn, 1) := by decide +kernel
theorem dX11_shipTold_89 : decode cX11_shipTold 89 = .ok (.aload_n 3, 1) := by decide +kernel
theorem dX11_shipTold_90 : decode cX11_shipTold 90 = .ok (.getfield 171, 3) := by decide +kernel
theorem dX11_shipTold_93 : decode cX11_shipTold 93 = .ok (.ireturn, 1) := by decide +kernel
theorem dX11_shipTold_94 : decode cX11_shipTold 94 = .ok (.bipush (-2), 2) := by decide +kernel
theorem dX11_shipTold_96 : decode cX11_shipTold 96 = .ok (.ireturn, 1) := by decide +kernel
theorem dX11_offer_0 : decode cX11_offer 0 = .ok (.aload_n 0, 1) := by decide +kernel
theorem dX11_offer_1 : decode cX11_offer 1 = .ok (.iload_n 1, 1) := by decide +kernel
theorem dX11_offer_2 : decode cX11_offer 2 = .ok (.invokevirtual 120, 3) := by decide +kernel
theorem dX11_offer_5 : decode cX11_offer 5 = .ok (.astore 7, 2) := by decide +kernel
theorem dX11_offer_7 : decode cX11_offer 7 = .ok (.aload_n 0, 1) := by decide +kernel
theorem dX11_offer_8 : decode cX11_offer 8 = .ok (.iload_n 2, 1) := by decide +kernel
theorem dX11_offer_9 : decode cX11_offer 9 = .ok (.invokevirtual 120, 3) := by decide +kernel
theorem dX11_offer_12 : decode cX11_offer 12 = .ok (.astore 8, 2) := by decide +kernel
theorem dX11_offer_14 : decode cX11_offer 14 = .ok (.aload 7, 2) := by decide +kernel
theorem dX11_offer_16 : decode cX11_offer 16 = .ok (.ifnull 36, 3) := by decide +kernel
theorem dX11_offer_19 : decode cX11_offer 19 = .ok (.aload 8, 2) := by decide +kernel
theorem dX11_offer_21 : decode cX11_offer 21 = .ok (.ifnull 31, 3) := by decide +kernel
theorem dX11_offer_24 : decode cX11_offer 24 = .ok (.iload_n 1, 1) := by decide +kernel
theorem dX11_offer_25 : decode cX11_offer 25 = .ok (.iload_n 2, 1) := by decide +kernel
theorem dX11_offer_26 : decode cX11_offer 26 = .ok (.if_icmp .eq 26, 3) := by decide +kernel
theorem dX11_offer_29 : decode cX11_offer 29 = .ok (.iload_n 3, 1) := by decide +kernel
theorem dX11_offer_30 : decode cX11_offer 30 = .ok (.iconst 1, 1) := by decide +kernel
theorem dX11_offer_31 : decode cX11_offer 31 = .ok (.sipush 9999, 3) := by decide +kernel
theorem dX11_offer_34 : decode cX11_offer 34 = .ok (.invokestatic 109, 3) := by decide +kernel
theorem dX11_offer_37 : decode cX11_offer 37 = .ok (.ifCond .eq 15, 3) := by decide +kernel
theorem dX11_offer_40 : decode cX11_offer 40 = .ok (.iload 4, 2) := by decide +kernel
theorem dX11_offer_42 : decode cX11_offer 42 = .ok (.iconst 0, 1) := by decide +kernel
theorem dX11_offer_43 : decode cX11_offer 43 = .ok (.sipush 9999, 3) := by decide +kernel
theorem dX11_offer_46 : decode cX11_offer 46 = .ok (.invokestatic 109, 3) := by decide +kernel
theorem dX11_offer_49 : decode cX11_offer 49 = .ok (.ifCond .ne 6, 3) := by decide +kernel
theorem dX11_offer_52 : decode cX11_offer 52 = .ok (.bipush (-2), 2) := by decide +kernel
theorem dX11_offer_54 : decode cX11_offer 54 = .ok (.ireturn, 1) := by decide +kernel
theorem dX11_offer_55 : decode cX11_offer 55 = .ok (.iload 5, 2) := by decide +kernel
theorem dX11_offer_57 : decode cX11_offer 57 = .ok (.invokestatic 148, 3) := by decide +kernel
theorem dX11_offer_60 : decode cX11_offer 60 = .ok (.ifCond .eq 18, 3) := by decide +kernel
theorem dX11_offer_63 : decode cX11_offer 63 = .ok (.iload 6, 2) := by decide +kernel
theorem dX11_offer_65 : decode cX11_offer 65 = .ok (.invokestatic 148, 3) := by decide +kernel
theorem dX11_offer_68 : decode cX11_offer 68 = .ok (.ifCond .eq 10, 3) := by decide +kernel
theorem dX11_offer_71 : decode cX11_offer 71 = .ok (.iload 5, 2) := by decide +kernel
theorem dX11_offer_73 : decode cX11_offer 73 = .ok (.iload 6, 2) := by decide +kernel
theorem dX11_offer_75 : decode cX11_offer 75 = .ok (.if_icmp .le 6, 3) := by decide +kernel
theorem dX11_offer_78 : decode cX11_offer 78 = .ok (.bipush (-2), 2) := by decide +kernel
theorem dX11_offer_80 : decode cX11_offer 80 = .ok (.ireturn, 1) := by decide +kernel
theorem dX11_offer_81 : decode cX11_offer 81 = .ok (.aload_n 0, 1) := by decide +kernel
theorem dX11_offer_82 : decode cX11_offer 82 = .ok (.getfield 174, 3) := by decide +kernel
theorem dX11_offer_85 : decode cX11_offer 85 = .ok (.bipush 10, 2) := by decide +kernel
theorem dX11_offer_87 : decode cX11_offer 87 = .ok (.if_icmp .lt 6, 3) := by decide +kernel
theorem dX11_offer_90 : decode cX11_offer 90 = .ok (.bipush (-4), 2) := by decide +kernel
theorem dX11_offer_92 : decode cX11_offer 92 = .ok (.ireturn, 1) := by decide +kernel
theorem dX11_offer_93 : decode cX11_offer 93 = .ok (.aload_n 0, 1) := by decide +kernel
theorem dX11_offer_94 : decode cX11_offer 94 = .ok (.getfield 23, 3) := by decide +kernel
theorem dX11_offer_97 : decode cX11_offer 97 = .ok (.aload_n 0, 1) := by decide +kernel
theorem dX11_offer_98 : decode cX11_offer 98 = .ok (.getfield 174, 3) := by decide +kernel
theorem dX11_offer_101 : decode cX11_offer 101 = .ok (.new 21, 3) := by decide +kernel
theorem dX11_offer_104 : decode cX11_offer 104 = .ok (.dup, 1) := by decide +kernel
theorem dX11_offer_105 : decode cX11_offer 105 = .ok (.aload 7, 2) := by decide +kernel
theorem dX11_offer_107 : decode cX11_offer 107 = .ok (.aload 8, 2) := by decide +kernel
theorem dX11_offer_109 : decode cX11_offer 109 = .ok (.iload_n 3, 1) := by decide +kernel
theorem dX11_offer_110 : decode cX11_offer 110 = .ok (.iload 4, 2) := by decide +kernel
theorem dX11_offer_112 : decode cX11_offer 112 = .ok (.iload 5, 2) := by decide +kernel
theorem dX11_offer_114 : decode cX11_offer 114 = .ok (.iload 6, 2) := by decide +kernel
theorem dX11_offer_116 : decode cX11_offer 116 = .ok (.invokespecial 177, 3) := by decide +kernel
theorem dX11_offer_119 : decode cX11_offer 119 = .ok (.aastore, 1) := by decide +kernel
theorem dX11_offer_120 : decode cX11_offer 120 = .ok (.aload_n 0, 1) := by decide +kernel
theorem dX11_offer_121 : decode cX11_offer 121 = .ok (.dup, 1) := by decide +kernel
theorem dX11_offer_122 : decode cX11_offer 122 = .ok (.getfield 174, 3) := by decide +kernel
theorem dX11_offer_125 : decode cX11_offer 125 = .ok (.iconst 1, 1) := by decide +kernel
theorem dX11_offer_126 : decode cX11_offer 126 = .ok (.iadd, 1) := by decide +kernel
theorem dX11_offer_127 : decode cX11_offer 127 = .ok (.putfield 174, 3) := by decide +kernel
theorem dX11_offer_130 : decode cX11_offer 130 = .ok (.aload_n 0, 1) := by decide +kernel
theorem dX11_offer_131 : decode cX11_offer 131 = .ok (.getfield 174, 3) := by decide +kernel
theorem dX11_offer_134 : decode cX11_offer 134 = .ok (.iconst 1, 1) := by decide +kernel
theorem dX11_offer_135 : decode cX11_offer 135 = .ok (.isub, 1) := by decide +kernel
theorem dX11_offer_136 : decode cX11_offer 136 = .ok (.ireturn, 1) := by decide +kernel
theorem dX11_why_0 : decode cX11_why 0 = .ok (.aload_n 0, 1) := by decide +kernel
theorem dX11_why_1 : decode cX11_why 1 = .ok (.iload_n 1, 1) := by decide +kernel
theorem dX11_why_2 : decode cX11_why 2 = .ok (.invokevirtual 141, 3) := by decide +kernel
theorem dX11_why_5 : decode cX11_why 5 = .ok (.astore_n 3, 1) := by decide +kernel
theorem dX11_why_6 : decode cX11_why 6 = .ok (.aload_n 0, 1) := by decide +kernel
theorem dX11_why_7 : decode cX11_why 7 = .ok (.iload_n 2, 1) := by decide +kernel
theorem dX11_why_8 : decode cX11_why 8 = .ok (.invokevirtual 180, 3) := by decide +kernel
theorem dX11_why_11 : decode cX11_why 11 = .ok (.astore 4, 2) := by decide +kernel
theorem dX11_why_13 : decode cX11_why 13 = .ok (.aload_n 3, 1) := by decide +kernel
theorem dX11_why_14 : decode cX11_why 14 = .ok (.ifnull 8, 3) := by decide +kernel
theorem dX11_why_17 : decode cX11_why 17 = .ok (.aload 4, 2) := by decide +kernel
theorem dX11_why_19 : decode cX11_why 19 = .ok (.ifnonnull 6, 3) := by decide +kernel
theorem dX11_why_22 : decode cX11_why 22 = .ok (.bipush (-2), 2) := by decide +kernel
theorem dX11_why_24 : decode cX11_why 24 = .ok (.ireturn, 1) := by decide +kernel
theorem dX11_why_25 : decode cX11_why 25 = .ok (.aload_n 0, 1) := by decide +kernel
theorem dX11_why_26 : decode cX11_why 26 = .ok (.getfield 51, 3) := by decide +kernel
theorem dX11_why_29 : decode cX11_why 29 = .ok (.aload_n 3, 1) := by decide +kernel
theorem dX11_why_30 : decode cX11_why 30 = .ok (.aload_n 3, 1) := by decide +kernel
theorem dX11_why_31 : decode cX11_why 31 = .ok (.getfield 152, 3) := by decide +kernel
theorem dX11_why_34 : decode cX11_why 34 = .ok (.aload_n 3, 1) := by decide +kernel
theorem dX11_why_35 : decode cX11_why 35 = .ok (.getfield 156, 3) := by decide +kernel
theorem dX11_why_38 : decode cX11_why 38 = .ok (.aload 4, 2) := by decide +kernel
theorem dX11_why_40 : decode cX11_why 40 = .ok (.invokevirtual 184, 3) := by decide +kernel
theorem dX11_why_43 : decode cX11_why 43 = .ok (.aload_n 0, 1) := by decide +kernel
theorem dX11_why_44 : decode cX11_why 44 = .ok (.getfield 51, 3) := by decide +kernel
theorem dX11_why_47 : decode cX11_why 47 = .ok (.getfield 188, 3) := by decide +kernel
theorem dX11_why_50 : decode cX11_why 50 = .ok (.ireturn, 1) := by decide +kernel
theorem dX11_estimate_0 : decode cX11_estimate 0 = .ok (.aload_n 0, 1) := by decide +kernel
theorem dX11_estimate_1 : decode cX11_estimate 1 = .ok (.iload_n 1, 1) := by decide +kernel
theorem dX11_estimate_2 : decode cX11_estimate 2 = .ok (.iload_n 2, 1) := by decide +kernel
theorem dX11_estimate_3 : decode cX11_estimate 3 = .ok (.invokevirtual 191, 3) := by decide +kernel
theorem dX11_estimate_6 : decode cX11_estimate 6 = .ok (.ifCond .eq 7, 3) := by decide +kernel
theorem dX11_estimate_9 : decode cX11_estimate 9 = .ok (.ldc2_w 194, 3) := by decide +kernel
theorem dX11_estimate_12 : decode cX11_estimate 12 = .ok (.lreturn, 1) := by decide +kernel
theorem dX11_estimate_13 : decode cX11_estimate 13 = .ok (.iload_n 3, 1) := by decide +kernel
theorem dX11_estimate_14 : decode cX11_estimate 14 = .ok (.tableswitch 65 0 3 #[30, 39, 48, 57], 30) := by decide +kernel
theorem dX11_estimate_44 : decode cX11_estimate 44 = .ok (.aload_n 0, 1) := by decide +kernel
theorem dX11_estimate_45 : decode cX11_estimate 45 = .ok (.getfield 51, 3) := by decide +kernel
theorem dX11_estimate_48 : decode cX11_estimate 48 = .ok (.getfield 196, 3) := by decide +kernel
theorem dX11_estimate_51 : decode cX11_estimate 51 = .ok (.i2l, 1) := by decide +kernel
theorem dX11_estimate_52 : decode cX11_estimate 52 = .ok (.lreturn, 1) := by decide +kernel
theorem dX11_estimate_53 : decode cX11_estimate 53 = .ok (.aload_n 0, 1) := by decide +kernel
theorem dX11_estimate_54 : decode cX11_estimate 54 = .ok (.getfield 51, 3) := by decide +kernel
theorem dX11_estimate_57 : decode cX11_estimate 57 = .ok (.getfield 199, 3) := by decide +kernel
theorem dX11_estimate_60 : decode cX11_estimate 60 = .ok (.i2l, 1) := by decide +kernel
theorem dX11_estimate_61 : decode cX11_estimate 61 = .ok (.lreturn, 1) := by decide +kernel
theorem dX11_estimate_62 : decode cX11_estimate 62 = .ok (.aload_n 0, 1) := by decide +kernel
theorem dX11_estimate_63 : decode cX11_estimate 63 = .ok (.getfield 51, 3) := by decide +kernel
theorem dX11_estimate_66 : decode cX11_estimate 66 = .ok (.getfield 202, 3) := by decide +kernel
theorem dX11_estimate_69 : decode cX11_estimate 69 = .ok (.i2l, 1) := by decide +kernel
theorem dX11_estimate_70 : decode cX11_estimate 70 = .ok (.lreturn, 1) := by decide +kernel
theorem dX11_estimate_71 : decode cX11_estimate 71 = .ok (.aload_n 0, 1) := by decide +kernel
theorem dX11_estimate_72 : decode cX11_estimate 72 = .ok (.getfield 51, 3) := by decide +kernel
theorem dX11_estimate_75 : decode cX11_estimate 75 = .ok (.getfield 205, 3) := by decide +kernel
theorem dX11_estimate_78 : decode cX11_estimate 78 = .ok (.lreturn, 1) := by decide +kernel
theorem dX11_estimate_79 : decode cX11_estimate 79 = .ok (.ldc2_w 194, 3) := by decide +kernel
theorem dX11_estimate_82 : decode cX11_estimate 82 = .ok (.lreturn, 1) := by decide +kernel
theorem dX11_best_0 : decode cX11_best 0 = .ok (.aload_n 0, 1) := by decide +kernel
theorem dX11_best_1 : decode cX11_best 1 = .ok (.iload_n 1, 1) := by decide +kernel
theorem dX11_best_2 : decode cX11_best 2 = .ok (.invokevirtual 141, 3) := by decide +kernel
theorem dX11_best_5 : decode cX11_best 5 = .ok (.astore 4, 2) := by decide +kernel
theorem dX11_best_7 : decode cX11_best 7 = .ok (.aload 4, 2) := by decide +kernel
theorem dX11_best_9 : decode cX11_best 9 = .ok (.ifnull 12, 3) := by decide +kernel
theorem dX11_best_12 : decode cX11_best 12 = .ok (.iload_n 2, 1) := by decide +kernel
theorem dX11_best_13 : decode cX11_best 13 = .ok (.iconst 1, 1) := by decide +kernel
theorem dX11_best_14 : decode cX11_best 14 = .ok (.iconst 3, 1) := by decide +kernel
theorem dX11_best_15 : decode cX11_best 15 = .ok (.invokestatic 109, 3) := by decide +kernel
theorem dX11_best_18 : decode cX11_best 18 = .ok (.ifCond .ne 7, 3) := by decide +kernel
theorem dX11_best_21 : decode cX11_best 21 = .ok (.ldc2_w 194, 3) := by decide +kernel
theorem dX11_best_24 : decode cX11_best 24 = .ok (.lreturn, 1) := by decide +kernel
theorem dX11_best_25 : decode cX11_best 25 = .ok (.aload_n 0, 1) := by decide +kernel
theorem dX11_best_26 : decode cX11_best 26 = .ok (.getfield 58, 3) := by decide +kernel
theorem dX11_best_29 : decode cX11_best 29 = .ok (.aload 4, 2) := by decide +kernel
theorem dX11_best_31 : decode cX11_best 31 = .ok (.aload_n 0, 1) := by decide +kernel
theorem dX11_best_32 : decode cX11_best 32 = .ok (.getfield 23, 3) := by decide +kernel
theorem dX11_best_35 : decode cX11_best 35 = .ok (.aload_n 0, 1) := by decide +kernel
theorem dX11_best_36 : decode cX11_best 36 = .ok (.getfield 174, 3) := by decide +kernel
theorem dX11_best_39 : decode cX11_best 39 = .ok (.iload_n 2, 1) := by decide +kernel
theorem dX11_best_40 : decode cX11_best 40 = .ok (.invokevirtual 209, 3) := by decide +kernel
theorem dX11_best_43 : decode cX11_best 43 = .ok (.aload_n 0, 1) := by decide +kernel
theorem dX11_best_44 : decode cX11_best 44 = .ok (.getfield 58, 3) := by decide +kernel
theorem dX11_best_47 : decode cX11_best 47 = .ok (.getfield 213, 3) := by decide +kernel
theorem dX11_best_50 : decode cX11_best 50 = .ok (.ifCond .ne 7, 3) := by decide +kernel
theorem dX11_best_53 : decode cX11_best 53 = .ok (.ldc2_w 194, 3) := by decide +kernel
theorem dX11_best_56 : decode cX11_best 56 = .ok (.lreturn, 1) := by decide +kernel
theorem dX11_best_57 : decode cX11_best 57 = .ok (.iload_n 3, 1) := by decide +kernel
theorem dX11_best_58 : decode cX11_best 58 = .ok (.tableswitch 52 0 2 #[26, 34, 43], 26) := by decide +kernel
theorem dX11_best_84 : decode cX11_best 84 = .ok (.aload_n 0, 1) := by decide +kernel
theorem dX11_best_85 : decode cX11_best 85 = .ok (.getfield 58, 3) := by decide +kernel
theorem dX11_best_88 : decode cX11_best 88 = .ok (.getfield 216, 3) := by decide +kernel
theorem dX11_best_91 : decode cX11_best 91 = .ok (.lreturn, 1) := by decide +kernel
theorem dX11_best_92 : decode cX11_best 92 = .ok (.aload_n 0, 1) := by decide +kernel
theorem dX11_best_93 : decode cX11_best 93 = .ok (.getfield 58, 3) := by decide +kernel
theorem dX11_best_96 : decode cX11_best 96 = .ok (.getfield 217, 3) := by decide +kernel
theorem dX11_best_99 : decode cX11_best 99 = .ok (.i2l, 1) := by decide +kernel
theorem dX11_best_100 : decode cX11_best 100 = .ok (.lreturn, 1) := by decide +kernel
theorem dX11_best_101 : decode cX11_best 101 = .ok (.aload_n 0, 1) := by decide +kernel
theorem dX11_best_102 : decode cX11_best 102 = .ok (.getfield 58, 3) := by decide +kernel
theorem dX11_best_105 : decode cX11_best 105 = .ok (.getfield 213, 3) := by decide +kernel
theorem dX11_best_108 : decode cX11_best 108 = .ok (.i2l, 1) := by decide +kernel
theorem dX11_best_109 : decode cX11_best 109 = .ok (.lreturn, 1) := by decide +kernel
theorem dX11_best_110 : decode cX11_best 110 = .ok (.ldc2_w 194, 3) := by decide +kernel
theorem dX11_best_113 : decode cX11_best 113 = .ok (.lreturn, 1) := by decide +kernel
theorem dX11_chain_0 : decode cX11_chain 0 = .ok (.aload_n 0, 1) := by decide +kernel
theorem dX11_chain_1 : decode cX11_chain 1 = .ok (.iload_n 1, 1) := by decide +kernel
theorem dX11_chain_2 : decode cX11_chain 2 = .ok (.invokevirtual 141, 3) := by decide +kernel
theorem dX11_chain_5 : decode cX11_chain 5 = .ok (.astore 4, 2) := by decide +kernel
theorem dX11_chain_7 : decode cX11_chain 7 = .ok (.aload 4, 2) := by decide +kernel
theorem dX11_chain_9 : decode cX11_chain 9 = .ok (.ifnull 12, 3) := by decide +kernel
theorem dX11_chain_12 : decode cX11_chain 12 = .ok (.iload_n 2, 1) := by decide +kernel
theorem dX11_chain_13 : decode cX11_chain 13 = .ok (.iconst 1, 1) := by decide +kernel
theorem dX11_chain_14 : decode cX11_chain 14 = .ok (.iconst 3, 1) := by decide +kernel
theorem dX11_chain_15 : decode cX11_chain 15 = .ok (.invokestatic 109, 3) := by decide +kernel
theorem dX11_chain_18 : decode cX11_chain 18 = .ok (.ifCond .ne 6, 3) := by decide +kernel
theorem dX11_chain_21 : decode cX11_chain 21 = .ok (.bipush (-2), 2) := by decide +kernel
theorem dX11_chain_23 : decode cX11_chain 23 = .ok (.ireturn, 1) := by decide +kernel
theorem dX11_chain_24 : decode cX11_chain 24 = .ok (.aload_n 0, 1) := by decide +kernel
theorem dX11_chain_25 : decode cX11_chain 25 = .ok (.getfield 58, 3) := by decide +kernel
theorem dX11_chain_28 : decode cX11_chain 28 = .ok (.aload 4, 2) := by decide +kernel
theorem dX11_chain_30 : decode cX11_chain 30 = .ok (.aload_n 0, 1) := by decide +kernel
theorem dX11_chain_31 : decode cX11_chain 31 = .ok (.getfield 23, 3) := by decide +kernel
theorem dX11_chain_34 : decode cX11_chain 34 = .ok (.aload_n 0, 1) := by decide +kernel
theorem dX11_chain_35 : decode cX11_chain 35 = .ok (.getfield 174, 3) := by decide +kernel
theorem dX11_chain_38 : decode cX11_chain 38 = .ok (.iload_n 2, 1) := by decide +kernel
theorem dX11_chain_39 : decode cX11_chain 39 = .ok (.invokevirtual 209, 3) := by decide +kernel
theorem dX11_chain_42 : decode cX11_chain 42 = .ok (.aload_n 0, 1) := by decide +kernel
theorem dX11_chain_43 : decode cX11_chain 43 = .ok (.getfield 58, 3) := by decide +kernel
theorem dX11_chain_46 : decode cX11_chain 46 = .ok (.iload_n 3, 1) := by decide +kernel
theorem dX11_chain_47 : decode cX11_chain 47 = .ok (.invokevirtual 220, 3) := by decide +kernel
theorem dX11_chain_50 : decode cX11_chain 50 = .ok (.ireturn, 1) := by decide +kernel
theorem dX11_fix_0 : decode cX11_fix 0 = .ok (.aload_n 0, 1) := by decide +kernel
theorem dX11_fix_1 : decode cX11_fix 1 = .ok (.iload_n 1, 1) := by decide +kernel
theorem dX11_fix_2 : decode cX11_fix 2 = .ok (.invokevirtual 141, 3) := by decide +kernel
theorem dX11_fix_5 : decode cX11_fix 5 = .ok (.astore_n 3, 1) := by decide +kernel
theorem dX11_fix_6 : decode cX11_fix 6 = .ok (.aload_n 0, 1) := by decide +kernel
theorem dX11_fix_7 : decode cX11_fix 7 = .ok (.iload_n 2, 1) := by decide +kernel
theorem dX11_fix_8 : decode cX11_fix 8 = .ok (.invokevirtual 180, 3) := by decide +kernel
theorem dX11_fix_11 : decode cX11_fix 11 = .ok (.astore 4, 2) := by decide +kernel
theorem dX11_fix_13 : decode cX11_fix 13 = .ok (.aload_n 3, 1) := by decide +kernel
theorem dX11_fix_14 : decode cX11_fix 14 = .ok (.ifnull 8, 3) := by decide +kernel
theorem dX11_fix_17 : decode cX11_fix 17 = .ok (.aload 4, 2) := by decide +kernel
theorem dX11_fix_19 : decode cX11_fix 19 = .ok (.ifnonnull 6, 3) := by decide +kernel
theorem dX11_fix_22 : decode cX11_fix 22 = .ok (.bipush (-2), 2) := by decide +kernel
theorem dX11_fix_24 : decode cX11_fix 24 = .ok (.ireturn, 1) := by decide +kernel
theorem dX11_fix_25 : decode cX11_fix 25 = .ok (.aload_n 0, 1) := by decide +kernel
theorem dX11_fix_26 : decode cX11_fix 26 = .ok (.getfield 51, 3) := by decide +kernel
theorem dX11_fix_29 : decode cX11_fix 29 = .ok (.aload_n 3, 1) := by decide +kernel
theorem dX11_fix_30 : decode cX11_fix 30 = .ok (.aload_n 3, 1) := by decide +kernel
theorem dX11_fix_31 : decode cX11_fix 31 = .ok (.getfield 152, 3) := by decide +kernel
theorem dX11_fix_34 : decode cX11_fix 34 = .ok (.aload_n 3, 1) := by decide +kernel
theorem dX11_fix_35 : decode cX11_fix 35 = .ok (.getfield 156, 3) := by decide +kernel
theorem dX11_fix_38 : decode cX11_fix 38 = .ok (.aload 4, 2) := by decide +kernel
theorem dX11_fix_40 : decode cX11_fix 40 = .ok (.invokevirtual 184, 3) := by decide +kernel
theorem dX11_fix_43 : decode cX11_fix 43 = .ok (.aload_n 0, 1) := by decide +kernel
theorem dX11_fix_44 : decode cX11_fix 44 = .ok (.getfield 51, 3) := by decide +kernel
theorem dX11_fix_47 : decode cX11_fix 47 = .ok (.getfield 188, 3) := by decide +kernel
theorem dX11_fix_50 : decode cX11_fix 50 = .ok (.ifCond .eq 14, 3) := by decide +kernel
theorem dX11_fix_53 : decode cX11_fix 53 = .ok (.bipush (-20), 2) := by decide +kernel
theorem dX11_fix_55 : decode cX11_fix 55 = .ok (.aload_n 0, 1) := by decide +kernel
theorem dX11_fix_56 : decode cX11_fix 56 = .ok (.getfield 51, 3) := by decide +kernel
theorem dX11_fix_59 : decode cX11_fix 59 = .ok (.getfield 188, 3) := by decide +kernel
theorem dX11_fix_62 : decode cX11_fix 62 = .ok (.isub, 1) := by decide +kernel
theorem dX11_fix_63 : decode cX11_fix 63 = .ok (.ireturn, 1) := by decide +kernel
theorem dX11_fix_64 : decode cX11_fix 64 = .ok (.aload_n 3, 1) := by decide +kernel
theorem dX11_fix_65 : decode cX11_fix 65 = .ok (.aload 4, 2) := by decide +kernel
theorem dX11_fix_67 : decode cX11_fix 67 = .ok (.getfield 224, 3) := by decide +kernel
theorem dX11_fix_70 : decode cX11_fix 70 = .ok (.putfield 152, 3) := by decide +kernel
theorem dX11_fix_73 : decode cX11_fix 73 = .ok (.aload_n 3, 1) := by decide +kernel
theorem dX11_fix_74 : decode cX11_fix 74 = .ok (.aload_n 0, 1) := by decide +kernel
theorem dX11_fix_75 : decode cX11_fix 75 = .ok (.getfield 51, 3) := by decide +kernel
theorem dX11_fix_78 : decode cX11_fix 78 = .ok (.getfield 199, 3) := by decide +kernel
theorem dX11_fix_81 : decode cX11_fix 81 = .ok (.putfield 156, 3) := by decide +kernel
theorem dX11_fix_84 : decode cX11_fix 84 = .ok (.aload 4, 2) := by decide +kernel
theorem dX11_fix_86 : decode cX11_fix 86 = .ok (.iconst 1, 1) := by decide +kernel
theorem dX11_fix_87 : decode cX11_fix 87 = .ok (.putfield 227, 3) := by decide +kernel
theorem dX11_fix_90 : decode cX11_fix 90 = .ok (.iconst 1, 1) := by decide +kernel
theorem dX11_fix_91 : decode cX11_fix 91 = .ok (.ireturn, 1) := by decide +kernel
theorem dX11_go_0 : decode cX11_go 0 = .ok (.aload_n 0, 1) := by decide +kernel
theorem dX11_go_1 : decode cX11_go 1 = .ok (.iload_n 1, 1) := by decide +kernel
theorem dX11_go_2 : decode cX11_go 2 = .ok (.invokevirtual 120, 3) := by decide +kernel
theorem dX11_go_5 : decode cX11_go 5 = .ok (.astore_n 2, 1) := by decide +kernel
theorem dX11_go_6 : decode cX11_go 6 = .ok (.aload_n 2, 1) := by decide +kernel
theorem dX11_go_7 : decode cX11_go 7 = .ok (.ifnull 11, 3) := by decide +kernel
theorem dX11_go_10 : decode cX11_go 10 = .ok (.aload_n 0, 1) := by decide +kernel
theorem dX11_go_11 : decode cX11_go 11 = .ok (.aload_n 2, 1) := by decide +kernel
theorem dX11_go_12 : decode cX11_go 12 = .ok (.invokevirtual 231, 3) := by decide +kernel
theorem dX11_go_15 : decode cX11_go 15 = .ok (.ifCond .eq 6, 3) := by decide +kernel
theorem dX11_go_18 : decode cX11_go 18 = .ok (.bipush (-2), 2) := by decide +kernel
theorem dX11_go_20 : decode cX11_go 20 = .ok (.ireturn, 1) := by decide +kernel
theorem dX11_go_21 : decode cX11_go 21 = .ok (.aload_n 0, 1) := by decide +kernel
theorem dX11_go_22 : decode cX11_go 22 = .ok (.getfield 235, 3) := by decide +kernel
theorem dX11_go_25 : decode cX11_go 25 = .ok (.bipush 6, 2) := by decide +kernel
theorem dX11_go_27 : decode cX11_go 27 = .ok (.if_icmp .lt 6, 3) := by decide +kernel
theorem dX11_go_30 : decode cX11_go 30 = .ok (.bipush (-4), 2) := by decide +kernel
theorem dX11_go_32 : decode cX11_go 32 = .ok (.ireturn, 1) := by decide +kernel
theorem dX11_go_33 : decode cX11_go 33 = .ok (.aload_n 0, 1) := by decide +kernel
theorem dX11_go_34 : decode cX11_go 34 = .ok (.getfield 45, 3) := by decide +kernel
theorem dX11_go_37 : decode cX11_go 37 = .ok (.aload_n 0, 1) := by decide +kernel
theorem dX11_go_38 : decode cX11_go 38 = .ok (.getfield 235, 3) := by decide +kernel
theorem dX11_go_41 : decode cX11_go 41 = .ok (.aload_n 2, 1) := by decide +kernel
theorem dX11_go_42 : decode cX11_go 42 = .ok (.aastore, 1) := by decide +kernel
theorem dX11_go_43 : decode cX11_go 43 = .ok (.aload_n 0, 1) := by decide +kernel
theorem dX11_go_44 : decode cX11_go 44 = .ok (.dup, 1) := by decide +kernel
theorem dX11_go_45 : decode cX11_go 45 = .ok (.getfield 235, 3) := by decide +kernel
theorem dX11_go_48 : decode cX11_go 48 = .ok (.iconst 1, 1) := by decide +kernel
theorem dX11_go_49 : decode cX11_go 49 = .ok (.iadd, 1) := by decide +kernel
theorem dX11_go_50 : decode cX11_go 50 = .ok (.putfield 235, 3) := by decide +kernel
theorem dX11_go_53 : decode cX11_go 53 = .ok (.aload_n 0, 1) := by decide +kernel
theorem dX11_go_54 : decode cX11_go 54 = .ok (.getfield 235, 3) := by decide +kernel
theorem dX11_go_57 : decode cX11_go 57 = .ok (.ireturn, 1) := by decide +kernel
theorem dX11_clear_0 : decode cX11_clear 0 = .ok (.aload_n 0, 1) := by decide +kernel
theorem dX11_clear_1 : decode cX11_clear 1 = .ok (.getfield 235, 3) := by decide +kernel
theorem dX11_clear_4 : decode cX11_clear 4 = .ok (.istore_n 1, 1) := by decide +kernel
theorem dX11_clear_5 : decode cX11_clear 5 = .ok (.aload_n 0, 1) := by decide +kernel
theorem dX11_clear_6 : decode cX11_clear 6 = .ok (.iconst 0, 1) := by decide +kernel
theorem dX11_clear_7 : decode cX11_clear 7 = .ok (.putfield 235, 3) := by decide +kernel
theorem dX11_clear_10 : decode cX11_clear 10 = .ok (.iload_n 1, 1) := by decide +kernel
theorem dX11_clear_11 : decode cX11_clear 11 = .ok (.ireturn, 1) := by decide +kernel
theorem dX11_bunker_0 : decode cX11_bunker 0 = .ok (.aload_n 0, 1) := by decide +kernel
theorem dX11_bunker_1 : decode cX11_bunker 1 = .ok (.iload_n 1, 1) := by decide +kernel
theorem dX11_bunker_2 : decode cX11_bunker 2 = .ok (.invokevirtual 141, 3) := by decide +kernel
theorem dX11_bunker_5 : decode cX11_bunker 5 = .ok (.astore_n 2, 1) := by decide +kernel
theorem dX11_bunker_6 : decode cX11_bunker 6 = .ok (.aload_n 2, 1) := by decide +kernel
theorem dX11_bunker_7 : decode cX11_bunker 7 = .ok (.ifnonnull 6, 3) := by decide +kernel
theorem dX11_bunker_10 : decode cX11_bunker 10 = .ok (.bipush (-2), 2) := by decide +kernel
theorem dX11_bunker_12 : decode cX11_bunker 12 = .ok (.ireturn, 1) := by decide +kernel
theorem dX11_bunker_13 : decode cX11_bunker 13 = .ok (.aload_n 0, 1) := by decide +kernel
theorem dX11_bunker_14 : decode cX11_bunker 14 = .ok (.getfield 65, 3) := by decide +kernel
theorem dX11_bunker_17 : decode cX11_bunker 17 = .ok (.aload_n 2, 1) := by decide +kernel
theorem dX11_bunker_18 : decode cX11_bunker 18 = .ok (.aload_n 0, 1) := by decide +kernel
theorem dX11_bunker_19 : decode cX11_bunker 19 = .ok (.getfield 45, 3) := by decide +kernel
theorem dX11_bunker_22 : decode cX11_bunker 22 = .ok (.aload_n 0, 1) := by decide +kernel
theorem dX11_bunker_23 : decode cX11_bunker 23 = .ok (.getfield 235, 3) := by decide +kernel
theorem dX11_bunker_26 : decode cX11_bunker 26 = .ok (.invokevirtual 238, 3) := by decide +kernel
theorem dX11_bunker_29 : decode cX11_bunker 29 = .ok (.ireturn, 1) := by decide +kernel
theorem dX11_bought_0 : decode cX11_bought 0 = .ok (.aload_n 0, 1) := by decide +kernel
theorem dX11_bought_1 : decode cX11_bought 1 = .ok (.iload_n 1, 1) := by decide +kernel
theorem dX11_bought_2 : decode cX11_bought 2 = .ok (.invokevirtual 141, 3) := by decide +kernel
theorem dX11_bought_5 : decode cX11_bought 5 = .ok (.astore_n 3, 1) := by decide +kernel
theorem dX11_bought_6 : decode cX11_bought 6 = .ok (.aload_n 3, 1) := by decide +kernel
theorem dX11_bought_7 : decode cX11_bought 7 = .ok (.ifnonnull 6, 3) := by decide +kernel
theorem dX11_bought_10 : decode cX11_bought 10 = .ok (.bipush (-2), 2) := by decide +kernel
theorem dX11_bought_12 : decode cX11_bought 12 = .ok (.ireturn, 1) := by decide +kernel
theorem dX11_bought_13 : decode cX11_bought 13 = .ok (.aload_n 0, 1) := by decide +kernel
theorem dX11_bought_14 : decode cX11_bought 14 = .ok (.getfield 65, 3) := by decide +kernel
theorem dX11_bought_17 : decode cX11_bought 17 = .ok (.aload_n 3, 1) := by decide +kernel
theorem dX11_bought_18 : decode cX11_bought 18 = .ok (.aload_n 0, 1) := by decide +kernel
theorem dX11_bought_19 : decode cX11_bought 19 = .ok (.getfield 45, 3) := by decide +kernel
theorem dX11_bought_22 : decode cX11_bought 22 = .ok (.aload_n 0, 1) := by decide +kernel
theorem dX11_bought_23 : decode cX11_bought 23 = .ok (.getfield 235, 3) := by decide +kernel
theorem dX11_bought_26 : decode cX11_bought 26 = .ok (.invokevirtual 238, 3) := by decide +kernel
theorem dX11_bought_29 : decode cX11_bought 29 = .ok (.iconst (-1), 1) := by decide +kernel
theorem dX11_bought_30 : decode cX11_bought 30 = .ok (.if_icmp .ne 5, 3) := by decide +kernel
theorem dX11_bought_33 : decode cX11_bought 33 = .ok (.iconst (-1), 1) := by decide +kernel
theorem dX11_bought_34 : decode cX11_bought 34 = .ok (.ireturn, 1) := by decide +kernel
theorem dX11_bought_35 : decode cX11_bought 35 = .ok (.aload_n 0, 1) := by decide +kernel
theorem dX11_bought_36 : decode cX11_bought 36 = .ok (.getfield 65, 3) := by decide +kernel
theorem dX11_bought_39 : decode cX11_bought 39 = .ok (.iload_n 2, 1) := by decide +kernel
theorem dX11_bought_40 : decode cX11_bought 40 = .ok (.invokevirtual 242, 3) := by decide +kernel
theorem dX11_bought_43 : decode cX11_bought 43 = .ok (.ireturn, 1) := by decide +kernel
theorem dX11_log_0 : decode cX11_log 0 = .ok (.aload_n 0, 1) := by decide +kernel
theorem dX11_log_1 : decode cX11_log 1 = .ok (.iload_n 1, 1) := by decide +kernel
theorem dX11_log_2 : decode cX11_log 2 = .ok (.invokevirtual 141, 3) := by decide +kernel
theorem dX11_log_5 : decode cX11_log 5 = .ok (.astore 4, 2) := by decide +kernel
theorem dX11_log_7 : decode cX11_log 7 = .ok (.aload 4, 2) := by decide +kernel
theorem dX11_log_9 : decode cX11_log 9 = .ok (.ifnull 21, 3) := by decide +kernel
theorem dX11_log_12 : decode cX11_log 12 = .ok (.iload_n 2, 1) := by decide +kernel
theorem dX11_log_13 : decode cX11_log 13 = .ok (.invokestatic 245, 3) := by decide +kernel
theorem dX11_log_16 : decode cX11_log 16 = .ok (.ifCond .eq 14, 3) := by decide +kernel
theorem dX11_log_19 : decode cX11_log 19 = .ok (.iload_n 3, 1) := by decide +kernel
theorem dX11_log_20 : decode cX11_log 20 = .ok (.iconst 1, 1) := by decide +kernel
theorem dX11_log_21 : decode cX11_log 21 = .ok (.sipush 500, 3) := by decide +kernel
theorem dX11_log_24 : decode cX11_log 24 = .ok (.invokestatic 109, 3) := by decide +kernel
theorem dX11_log_27 : decode cX11_log 27 = .ok (.ifCond .ne 6, 3) := by decide +kernel
theorem dX11_log_30 : decode cX11_log 30 = .ok (.bipush (-2), 2) := by decide +kernel
theorem dX11_log_32 : decode cX11_log 32 = .ok (.ireturn, 1) := by decide +kernel
theorem dX11_log_33 : decode cX11_log 33 = .ok (.iload_n 3, 1) := by decide +kernel
theorem dX11_log_34 : decode cX11_log 34 = .ok (.sipush 2000, 3) := by decide +kernel
theorem dX11_log_37 : decode cX11_log 37 = .ok (.aload 4, 2) := by decide +kernel
theorem dX11_log_39 : decode cX11_log 39 = .ok (.getfield 171, 3) := by decide +kernel
theorem dX11_log_42 : decode cX11_log 42 = .ok (.isub, 1) := by decide +kernel
theorem dX11_log_43 : decode cX11_log 43 = .ok (.if_icmp .le 6, 3) := by decide +kernel
theorem dX11_log_46 : decode cX11_log 46 = .ok (.bipush (-4), 2) := by decide +kernel
theorem dX11_log_48 : decode cX11_log 48 = .ok (.ireturn, 1) := by decide +kernel
theorem dX11_log_49 : decode cX11_log 49 = .ok (.iconst 0, 1) := by decide +kernel
theorem dX11_log_50 : decode cX11_log 50 = .ok (.istore 5, 2) := by decide +kernel
theorem dX11_log_52 : decode cX11_log 52 = .ok (.iload 5, 2) := by decide +kernel
theorem dX11_log_54 : decode cX11_log 54 = .ok (.iload_n 3, 1) := by decide +kernel
theorem dX11_log_55 : decode cX11_log 55 = .ok (.if_icmp .ge 15, 3) := by decide +kernel
theorem dX11_log_58 : decode cX11_log 58 = .ok (.aload 4, 2) := by decide +kernel
theorem dX11_log_60 : decode cX11_log 60 = .ok (.iload_n 2, 1) := by decide +kernel
theorem dX11_log_61 : decode cX11_log 61 = .ok (.invokevirtual 248, 3) := by decide +kernel
theorem dX11_log_64 : decode cX11_log 64 = .ok (.iinc 5 1, 3) := by decide +kernel
theorem dX11_log_67 : decode cX11_log 67 = .ok (.goto (-15), 3) := by decide +kernel
theorem dX11_log_70 : decode cX11_log 70 = .ok (.aload 4, 2) := by decide +kernel
theorem dX11_log_72 : decode cX11_log 72 = .ok (.getfield 171, 3) := by decide +kernel
theorem dX11_log_75 : decode cX11_log 75 = .ok (.ireturn, 1) := by decide +kernel
theorem dX11_lay_0 : decode cX11_lay 0 = .ok (.aload_n 0, 1) := by decide +kernel
theorem dX11_lay_1 : decode cX11_lay 1 = .ok (.iload_n 1, 1) := by decide +kernel
theorem dX11_lay_2 : decode cX11_lay 2 = .ok (.invokevirtual 141, 3) := by decide +kernel
theorem dX11_lay_5 : decode cX11_lay 5 = .ok (.astore 6, 2) := by decide +kernel
theorem dX11_lay_7 : decode cX11_lay 7 = .ok (.aload_n 0, 1) := by decide +kernel
theorem dX11_lay_8 : decode cX11_lay 8 = .ok (.iload_n 2, 1) := by decide +kernel
theorem dX11_lay_9 : decode cX11_lay 9 = .ok (.invokevirtual 249, 3) := by decide +kernel
theorem dX11_lay_12 : decode cX11_lay 12 = .ok (.astore 7, 2) := by decide +kernel
theorem dX11_lay_14 : decode cX11_lay 14 = .ok (.aload 6, 2) := by decide +kernel
theorem dX11_lay_16 : decode cX11_lay 16 = .ok (.ifnull 22, 3) := by decide +kernel
theorem dX11_lay_19 : decode cX11_lay 19 = .ok (.aload 7, 2) := by decide +kernel
theorem dX11_lay_21 : decode cX11_lay 21 = .ok (.ifnull 17, 3) := by decide +kernel
theorem dX11_lay_24 : decode cX11_lay 24 = .ok (.iload_n 3, 1) := by decide +kernel
theorem dX11_lay_25 : decode cX11_lay 25 = .ok (.iconst 0, 1) := by decide +kernel
theorem dX11_lay_26 : decode cX11_lay 26 = .ok (.iconst 2, 1) := by decide +kernel
theorem dX11_lay_27 : decode cX11_lay 27 = .ok (.invokestatic 109, 3) := by decide +kernel
theorem dX11_lay_30 : decode cX11_lay 30 = .ok (.ifCond .eq 8, 3) := by decide +kernel
theorem dX11_lay_33 : decode cX11_lay 33 = .ok (.iload 5, 2) := by decide +kernel
theorem dX11_lay_35 : decode cX11_lay 35 = .ok (.ifCond .ge 6, 3) := by decide +kernel
theorem dX11_lay_38 : decode cX11_lay 38 = .ok (.bipush (-2), 2) := by decide +kernel
theorem dX11_lay_40 : decode cX11_lay 40 = .ok (.ireturn, 1) := by decide +kernel
theorem dX11_lay_41 : decode cX11_lay 41 = .ok (.aload 7, 2) := by decide +kernel
theorem dX11_lay_43 : decode cX11_lay 43 = .ok (.getfield 253, 3) := by decide +kernel
theorem dX11_lay_46 : decode cX11_lay 46 = .ok (.iconst (-1), 1) := by decide +kernel
theorem dX11_lay_47 : decode cX11_lay 47 = .ok (.if_icmp .ne 6, 3) := by decide +kernel
theorem dX11_lay_50 : decode cX11_lay 50 = .ok (.bipush (-11), 2) := by decide +kernel
theorem dX11_lay_52 : decode cX11_lay 52 = .ok (.ireturn, 1) := by decide +kernel
theorem dX11_lay_53 : decode cX11_lay 53 = .ok (.aload 7, 2) := by decide +kernel
theorem dX11_lay_55 : decode cX11_lay 55 = .ok (.getfield 253, 3) := by decide +kernel
theorem dX11_lay_58 : decode cX11_lay 58 = .ok (.iload_n 3, 1) := by decide +kernel
theorem dX11_lay_59 : decode cX11_lay 59 = .ok (.if_icmp .eq 6, 3) := by decide +kernel
theorem dX11_lay_62 : decode cX11_lay 62 = .ok (.bipush (-13), 2) := by decide +kernel
theorem dX11_lay_64 : decode cX11_lay 64 = .ok (.ireturn, 1) := by decide +kernel
theorem dX11_lay_65 : decode cX11_lay 65 = .ok (.iconst 0, 1) := by decide +kernel
theorem dX11_lay_66 : decode cX11_lay 66 = .ok (.istore 8, 2) := by decide +kernel
theorem dX11_lay_68 : decode cX11_lay 68 = .ok (.iload 8, 2) := by decide +kernel
theorem dX11_lay_70 : decode cX11_lay 70 = .ok (.iload 5, 2) := by decide +kernel
theorem dX11_lay_72 : decode cX11_lay 72 = .ok (.if_icmp .ge 31, 3) := by decide +kernel
theorem dX11_lay_75 : decode cX11_lay 75 = .ok (.aload 6, 2) := by decide +kernel
theorem dX11_lay_77 : decode cX11_lay 77 = .ok (.aload 7, 2) := by decide +kernel
theorem dX11_lay_79 : decode cX11_lay 79 = .ok (.iload 4, 2) := by decide +kernel
theorem dX11_lay_81 : decode cX11_lay 81 = .ok (.iload 8, 2) := by decide +kernel
theorem dX11_lay_83 : decode cX11_lay 83 = .ok (.iadd, 1) := by decide +kernel
theorem dX11_lay_84 : decode cX11_lay 84 = .ok (.invokestatic 256, 3) := by decide +kernel
theorem dX11_lay_87 : decode cX11_lay 87 = .ok (.istore 9, 2) := by decide +kernel
theorem dX11_lay_89 : decode cX11_lay 89 = .ok (.iload 9, 2) := by decide +kernel
theorem dX11_lay_91 : decode cX11_lay 91 = .ok (.ifCond .eq 6, 3) := by decide +kernel
theorem dX11_lay_94 : decode cX11_lay 94 = .ok (.iload 9, 2) := by decide +kernel
theorem dX11_lay_96 : decode cX11_lay 96 = .ok (.ireturn, 1) := by decide +kernel
theorem dX11_lay_97 : decode cX11_lay 97 = .ok (.iinc 8 1, 3) := by decide +kernel
theorem dX11_lay_100 : decode cX11_lay 100 = .ok (.goto (-32), 3) := by decide +kernel
theorem dX11_lay_103 : decode cX11_lay 103 = .ok (.aload 6, 2) := by decide +kernel
theorem dX11_lay_105 : decode cX11_lay 105 = .ok (.getfield 171, 3) := by decide +kernel
theorem dX11_lay_108 : decode cX11_lay 108 = .ok (.ireturn, 1) := by decide +kernel
theorem dX11_right_0 : decode cX11_right 0 = .ok (.aload_n 0, 1) := by decide +kernel
theorem dX11_right_1 : decode cX11_right 1 = .ok (.iload_n 1, 1) := by decide +kernel
theorem dX11_right_2 : decode cX11_right 2 = .ok (.invokevirtual 141, 3) := by decide +kernel
theorem dX11_right_5 : decode cX11_right 5 = .ok (.astore 4, 2) := by decide +kernel
theorem dX11_right_7 : decode cX11_right 7 = .ok (.aload 4, 2) := by decide +kernel
theorem dX11_right_9 : decode cX11_right 9 = .ok (.ifnull 17, 3) := by decide +kernel
theorem dX11_right_12 : decode cX11_right 12 = .ok (.iload_n 2, 1) := by decide +kernel
theorem dX11_right_13 : decode cX11_right 13 = .ok (.invokestatic 148, 3) := by decide +kernel
theorem dX11_right_16 : decode cX11_right 16 = .ok (.ifCond .eq 10, 3) := by decide +kernel
theorem dX11_right_19 : decode cX11_right 19 = .ok (.iload_n 3, 1) := by decide +kernel
theorem dX11_right_20 : decode cX11_right 20 = .ok (.invokestatic 245, 3) := by decide +kernel
theorem dX11_right_23 : decode cX11_right 23 = .ok (.ifCond .ne 6, 3) := by decide +kernel
theorem dX11_right_26 : decode cX11_right 26 = .ok (.bipush (-2), 2) := by decide +kernel
theorem dX11_right_28 : decode cX11_right 28 = .ok (.ireturn, 1) := by decide +kernel
theorem dX11_right_29 : decode cX11_right 29 = .ok (.aload 4, 2) := by decide +kernel
theorem dX11_right_31 : decode cX11_right 31 = .ok (.iload_n 2, 1) := by decide +kernel
theorem dX11_right_32 : decode cX11_right 32 = .ok (.invokevirtual 260, 3) := by decide +kernel
theorem dX11_right_35 : decode cX11_right 35 = .ok (.istore 5, 2) := by decide +kernel
theorem dX11_right_37 : decode cX11_right 37 = .ok (.iload 5, 2) := by decide +kernel
theorem dX11_right_39 : decode cX11_right 39 = .ok (.iconst (-1), 1) := by decide +kernel
theorem dX11_right_40 : decode cX11_right 40 = .ok (.if_icmp .ne 6, 3) := by decide +kernel
theorem dX11_right_43 : decode cX11_right 43 = .ok (.bipush (-3), 2) := by decide +kernel
theorem dX11_right_45 : decode cX11_right 45 = .ok (.ireturn, 1) := by decide +kernel
theorem dX11_right_46 : decode cX11_right 46 = .ok (.aload 4, 2) := by decide +kernel
theorem dX11_right_48 : decode cX11_right 48 = .ok (.iload_n 2, 1) := by decide +kernel
theorem dX11_right_49 : decode cX11_right 49 = .ok (.iload_n 3, 1) := by decide +kernel
theorem dX11_right_50 : decode cX11_right 50 = .ok (.invokevirtual 263, 3) := by decide +kernel
theorem dX11_right_53 : decode cX11_right 53 = .ok (.iload 5, 2) := by decide +kernel
theorem dX11_right_55 : decode cX11_right 55 = .ok (.ireturn, 1) := by decide +kernel
theorem dX11_sort_0 : decode cX11_sort 0 = .ok (.aload_n 0, 1) := by decide +kernel
theorem dX11_sort_1 : decode cX11_sort 1 = .ok (.iload_n 1, 1) := by decide +kernel
theorem dX11_sort_2 : decode cX11_sort 2 = .ok (.invokevirtual 141, 3) := by decide +kernel
theorem dX11_sort_5 : decode cX11_sort 5 = .ok (.astore_n 3, 1) := by decide +kernel
theorem dX11_sort_6 : decode cX11_sort 6 = .ok (.aload_n 3, 1) := by decide +kernel
theorem dX11_sort_7 : decode cX11_sort 7 = .ok (.ifnonnull 8, 3) := by decide +kernel
theorem dX11_sort_10 : decode cX11_sort 10 = .ok (.bipush (-2), 2) := by decide +kernel
theorem dX11_sort_12 : decode cX11_sort 12 = .ok (.goto 8, 3) := by decide +kernel
theorem dX11_sort_15 : decode cX11_sort 15 = .ok (.aload_n 3, 1) := by decide +kernel
theorem dX11_sort_16 : decode cX11_sort 16 = .ok (.iload_n 2, 1) := by decide +kernel
theorem dX11_sort_17 : decode cX11_sort 17 = .ok (.invokevirtual 260, 3) := by decide +kernel
theorem dX11_sort_20 : decode cX11_sort 20 = .ok (.ireturn, 1) := by decide +kernel
theorem dX11_feed_0 : decode cX11_feed 0 = .ok (.iload_n 1, 1) := by decide +kernel
theorem dX11_feed_1 : decode cX11_feed 1 = .ok (.iconst 1, 1) := by decide +kernel
theorem dX11_feed_2 : decode cX11_feed 2 = .ok (.bipush 8, 2) := by decide +kernel
theorem dX11_feed_4 : decode cX11_feed 4 = .ok (.invokestatic 109, 3) := by decide +kernel
theorem dX11_feed_7 : decode cX11_feed 7 = .ok (.ifCond .ne 6, 3) := by decide +kernel
theorem dX11_feed_10 : decode cX11_feed 10 = .ok (.bipush (-2), 2) := by decide +kernel
theorem dX11_feed_12 : decode cX11_feed 12 = .ok (.ireturn, 1) := by decide +kernel
theorem dX11_feed_13 : decode cX11_feed 13 = .ok (.iload_n 1, 1) := by decide +kernel
theorem dX11_feed_14 : decode cX11_feed 14 = .ok (.sipush 160, 3) := by decide +kernel
theorem dX11_feed_17 : decode cX11_feed 17 = .ok (.aload_n 0, 1) := by decide +kernel
theorem dX11_feed_18 : decode cX11_feed 18 = .ok (.getfield 72, 3) := by decide +kernel
theorem dX11_feed_21 : decode cX11_feed 21 = .ok (.getfield 267, 3) := by decide +kernel
theorem dX11_feed_24 : decode cX11_feed 24 = .ok (.isub, 1) := by decide +kernel
theorem dX11_feed_25 : decode cX11_feed 25 = .ok (.if_icmp .le 6, 3) := by decide +kernel
theorem dX11_feed_28 : decode cX11_feed 28 = .ok (.bipush (-4), 2) := by decide +kernel
theorem dX11_feed_30 : decode cX11_feed 30 = .ok (.ireturn, 1) := by decide +kernel
theorem dX11_feed_31 : decode cX11_feed 31 = .ok (.iconst 0, 1) := by decide +kernel
theorem dX11_feed_32 : decode cX11_feed 32 = .ok (.istore 4, 2) := by decide +kernel
theorem dX11_feed_34 : decode cX11_feed 34 = .ok (.iload 4, 2) := by decide +kernel
theorem dX11_feed_36 : decode cX11_feed 36 = .ok (.iload_n 1, 1) := by decide +kernel
theorem dX11_feed_37 : decode cX11_feed 37 = .ok (.if_icmp .ge 28, 3) := by decide +kernel
theorem dX11_feed_40 : decode cX11_feed 40 = .ok (.aload_n 0, 1) := by decide +kernel
theorem dX11_feed_41 : decode cX11_feed 41 = .ok (.getfield 72, 3) := by decide +kernel
theorem dX11_feed_44 : decode cX11_feed 44 = .ok (.lload_n 2, 1) := by decide +kernel
theorem dX11_feed_45 : decode cX11_feed 45 = .ok (.bipush 8, 2) := by decide +kernel
theorem dX11_feed_47 : decode cX11_feed 47 = .ok (.iload 4, 2) := by decide +kernel
theorem dX11_feed_49 : decode cX11_feed 49 = .ok (.imul, 1) := by decide +kernel
theorem dX11_feed_50 : decode cX11_feed 50 = .ok (.lshr, 1) := by decide +kernel
theorem dX11_feed_51 : decode cX11_feed 51 = .ok (.l2i, 1) := by decide +kernel
theorem dX11_feed_52 : decode cX11_feed 52 = .ok (.sipush 255, 3) := by decide +kernel
theorem dX11_feed_55 : decode cX11_feed 55 = .ok (.iand, 1) := by decide +kernel
theorem dX11_feed_56 : decode cX11_feed 56 = .ok (.invokevirtual 103, 3) := by decide +kernel
theorem dX11_feed_59 : decode cX11_feed 59 = .ok (.iinc 4 1, 3) := by decide +kernel
theorem dX11_feed_62 : decode cX11_feed 62 = .ok (.goto (-28), 3) := by decide +kernel
theorem dX11_feed_65 : decode cX11_feed 65 = .ok (.aload_n 0, 1) := by decide +kernel
theorem dX11_feed_66 : decode cX11_feed 66 = .ok (.getfield 72, 3) := by decide +kernel
theorem dX11_feed_69 : decode cX11_feed 69 = .ok (.getfield 267, 3) := by decide +kernel
theorem dX11_feed_72 : decode cX11_feed 72 = .ok (.ireturn, 1) := by decide +kernel
theorem dX11_text_0 : decode cX11_text 0 = .ok (.aload_n 0, 1) := by decide +kernel
theorem dX11_text_1 : decode cX11_text 1 = .ok (.getfield 268, 3) := by decide +kernel
theorem dX11_text_4 : decode cX11_text 4 = .ok (.bipush 6, 2) := by decide +kernel
theorem dX11_text_6 : decode cX11_text 6 = .ok (.if_icmp .lt 6, 3) := by decide +kernel
theorem dX11_text_9 : decode cX11_text 9 = .ok (.bipush (-4), 2) := by decide +kernel
theorem dX11_text_11 : decode cX11_text 11 = .ok (.ireturn, 1) := by decide +kernel
theorem dX11_text_12 : decode cX11_text 12 = .ok (.aload_n 0, 1) := by decide +kernel
theorem dX11_text_13 : decode cX11_text 13 = .ok (.getfield 72, 3) := by decide +kernel
theorem dX11_text_16 : decode cX11_text 16 = .ok (.aload_n 0, 1) := by decide +kernel
theorem dX11_text_17 : decode cX11_text 17 = .ok (.getfield 79, 3) := by decide +kernel
theorem dX11_text_20 : decode cX11_text 20 = .ok (.invokevirtual 271, 3) := by decide +kernel
theorem dX11_text_23 : decode cX11_text 23 = .ok (.istore_n 1, 1) := by decide +kernel
theorem dX11_text_24 : decode cX11_text 24 = .ok (.aload_n 0, 1) := by decide +kernel
theorem dX11_text_25 : decode cX11_text 25 = .ok (.getfield 72, 3) := by decide +kernel
theorem dX11_text_28 : decode cX11_text 28 = .ok (.invokevirtual 275, 3) := by decide +kernel
theorem dX11_text_31 : decode cX11_text 31 = .ok (.iload_n 1, 1) := by decide +kernel
theorem dX11_text_32 : decode cX11_text 32 = .ok (.iconst (-1), 1) := by decide +kernel
theorem dX11_text_33 : decode cX11_text 33 = .ok (.if_icmp .eq 8, 3) := by decide +kernel
theorem dX11_text_36 : decode cX11_text 36 = .ok (.bipush (-100), 2) := by decide +kernel
theorem dX11_text_38 : decode cX11_text 38 = .ok (.iload_n 1, 1) := by decide +kernel
theorem dX11_text_39 : decode cX11_text 39 = .ok (.isub, 1) := by decide +kernel
theorem dX11_text_40 : decode cX11_text 40 = .ok (.ireturn, 1) := by decide +kernel
theorem dX11_text_41 : decode cX11_text 41 = .ok (.aload_n 0, 1) := by decide +kernel
theorem dX11_text_42 : decode cX11_text 42 = .ok (.getfield 29, 3) := by decide +kernel
theorem dX11_text_45 : decode cX11_text 45 = .ok (.aload_n 0, 1) := by decide +kernel
theorem dX11_text_46 : decode cX11_text 46 = .ok (.getfield 268, 3) := by decide +kernel
theorem dX11_text_49 : decode cX11_text 49 = .ok (.aload_n 0, 1) := by decide +kernel
theorem dX11_text_50 : decode cX11_text 50 = .ok (.getfield 79, 3) := by decide +kernel
theorem dX11_text_53 : decode cX11_text 53 = .ok (.aastore, 1) := by decide +kernel
theorem dX11_text_54 : decode cX11_text 54 = .ok (.aload_n 0, 1) := by decide +kernel
theorem dX11_text_55 : decode cX11_text 55 = .ok (.dup, 1) := by decide +kernel
theorem dX11_text_56 : decode cX11_text 56 = .ok (.getfield 268, 3) := by decide +kernel
theorem dX11_text_59 : decode cX11_text 59 = .ok (.iconst 1, 1) := by decide +kernel
theorem dX11_text_60 : decode cX11_text 60 = .ok (.iadd, 1) := by decide +kernel
theorem dX11_text_61 : decode cX11_text 61 = .ok (.putfield 268, 3) := by decide +kernel
theorem dX11_text_64 : decode cX11_text 64 = .ok (.aload_n 0, 1) := by decide +kernel
theorem dX11_text_65 : decode cX11_text 65 = .ok (.new 27, 3) := by decide +kernel
theorem dX11_text_68 : decode cX11_text 68 = .ok (.dup, 1) := by decide +kernel
theorem dX11_text_69 : decode cX11_text 69 = .ok (.aload_n 0, 1) := by decide +kernel
theorem dX11_text_70 : decode cX11_text 70 = .ok (.getfield 268, 3) := by decide +kernel
theorem dX11_text_73 : decode cX11_text 73 = .ok (.invokespecial 76, 3) := by decide +kernel
theorem dX11_text_76 : decode cX11_text 76 = .ok (.putfield 79, 3) := by decide +kernel
theorem dX11_text_79 : decode cX11_text 79 = .ok (.aload_n 0, 1) := by decide +kernel
theorem dX11_text_80 : decode cX11_text 80 = .ok (.getfield 268, 3) := by decide +kernel
theorem dX11_text_83 : decode cX11_text 83 = .ok (.iconst 1, 1) := by decide +kernel
theorem dX11_text_84 : decode cX11_text 84 = .ok (.isub, 1) := by decide +kernel
theorem dX11_text_85 : decode cX11_text 85 = .ok (.ireturn, 1) := by decide +kernel
theorem dX11_charter_0 : decode cX11_charter 0 = .ok (.aload_n 0, 1) := by decide +kernel
theorem dX11_charter_1 : decode cX11_charter 1 = .ok (.iload_n 2, 1) := by decide +kernel
theorem dX11_charter_2 : decode cX11_charter 2 = .ok (.invokevirtual 141, 3) := by decide +kernel
theorem dX11_charter_5 : decode cX11_charter 5 = .ok (.astore 8, 2) := by decide +kernel
theorem dX11_charter_7 : decode cX11_charter 7 = .ok (.aload_n 0, 1) := by decide +kernel
theorem dX11_charter_8 : decode cX11_charter 8 = .ok (.iload 5, 2) := by decide +kernel
theorem dX11_charter_10 : decode cX11_charter 10 = .ok (.invokevirtual 278, 3) := by decide +kernel
theorem dX11_charter_13 : decode cX11_charter 13 = .ok (.astore 9, 2) := by decide +kernel
theorem dX11_charter_15 : decode cX11_charter 15 = .ok (.iload_n 1, 1) := by decide +kernel
theorem dX11_charter_16 : decode cX11_charter 16 = .ok (.invokestatic 282, 3) := by decide +kernel
theorem dX11_charter_19 : decode cX11_charter 19 = .ok (.ifCond .eq 29, 3) := by decide +kernel
theorem dX11_charter_22 : decode cX11_charter 22 = .ok (.aload 8, 2) := by decide +kernel
theorem dX11_charter_24 : decode cX11_charter 24 = .ok (.ifnull 24, 3) := by decide +kernel
theorem dX11_charter_27 : decode cX11_charter 27 = .ok (.iload_n 3, 1) := by decide +kernel
theorem dX11_charter_28 : decode cX11_charter 28 = .ok (.invokestatic 148, 3) := by decide +kernel
theorem dX11_charter_31 : decode cX11_charter 31 = .ok (.ifCond .eq 17, 3) := by decide +kernel
theorem dX11_charter_34 : decode cX11_charter 34 = .ok (.iload 4, 2) := by decide +kernel
theorem dX11_charter_36 : decode cX11_charter 36 = .ok (.invokestatic 148, 3) := by decide +kernel
theorem dX11_charter_39 : decode cX11_charter 39 = .ok (.ifCond .eq 9, 3) := by decide +kernel
theorem dX11_charter_42 : decode cX11_charter 42 = .ok (.iload_n 3, 1) := by decide +kernel
theorem dX11_charter_43 : decode cX11_charter 43 = .ok (.iload 4, 2) := by decide +kernel
theorem dX11_charter_45 : decode cX11_charter 45 = .ok (.if_icmp .le 6, 3) := by decide +kernel
theorem dX11_charter_48 : decode cX11_charter 48 = .ok (.bipush (-2), 2) := by decide +kernel
theorem dX11_charter_50 : decode cX11_charter 50 = .ok (.ireturn, 1) := by decide +kernel
theorem dX11_charter_51 : decode cX11_charter 51 = .ok (.aload 9, 2) := by decide +kernel
theorem dX11_charter_53 : decode cX11_charter 53 = .ok (.ifnull 19, 3) := by decide +kernel
theorem dX11_charter_56 : decode cX11_charter 56 = .ok (.lload 6, 2) := by decide +kernel
theorem dX11_charter_58 : decode cX11_charter 58 = .ok (.lconst 0, 1) := by decide +kernel
theorem dX11_charter_59 : decode cX11_charter 59 = .ok (.lcmp, 1) := by decide +kernel
theorem dX11_charter_60 : decode cX11_charter 60 = .ok (.ifCond .lt 12, 3) := by decide +kernel
theorem dX11_charter_63 : decode cX11_charter 63 = .ok (.lload 6, 2) := by decide +kernel
theorem dX11_charter_65 : decode cX11_charter 65 = .ok (.ldc2_w 285, 3) := by decide +kernel
theorem dX11_charter_68 : decode cX11_charter 68 = .ok (.lcmp, 1) := by decide +kernel
theorem dX11_charter_69 : decode cX11_charter 69 = .ok (.ifCond .le 6, 3) := by decide +kernel
theorem dX11_charter_72 : decode cX11_charter 72 = .ok (.bipush (-2), 2) := by decide +kernel
theorem dX11_charter_74 : decode cX11_charter 74 = .ok (.ireturn, 1) := by decide +kernel
theorem dX11_charter_75 : decode cX11_charter 75 = .ok (.aload_n 0, 1) := by decide +kernel
theorem dX11_charter_76 : decode cX11_charter 76 = .ok (.aload 8, 2) := by decide +kernel
theorem dX11_charter_78 : decode cX11_charter 78 = .ok (.iload_n 3, 1) := by decide +kernel
theorem dX11_charter_79 : decode cX11_charter 79 = .ok (.iload 4, 2) := by decide +kernel
theorem dX11_charter_81 : decode cX11_charter 81 = .ok (.invokevirtual 287, 3) := by decide +kernel
theorem dX11_charter_84 : decode cX11_charter 84 = .ok (.ifCond .eq 6, 3) := by decide +kernel
theorem dX11_charter_87 : decode cX11_charter 87 = .ok (.bipush (-3), 2) := by decide +kernel
theorem dX11_charter_89 : decode cX11_charter 89 = .ok (.ireturn, 1) := by decide +kernel
theorem dX11_charter_90 : decode cX11_charter 90 = .ok (.aload_n 0, 1) := by decide +kernel
theorem dX11_charter_91 : decode cX11_charter 91 = .ok (.getfield 291, 3) := by decide +kernel
theorem dX11_charter_94 : decode cX11_charter 94 = .ok (.bipush 12, 2) := by decide +kernel
theorem dX11_charter_96 : decode cX11_charter 96 = .ok (.if_icmp .lt 6, 3) := by decide +kernel
theorem dX11_charter_99 : decode cX11_charter 99 = .ok (.bipush (-4), 2) := by decide +kernel
theorem dX11_charter_101 : decode cX11_charter 101 = .ok (.ireturn, 1) := by decide +kernel
theorem dX11_charter_102 : decode cX11_charter 102 = .ok (.aload_n 0, 1) := by decide +kernel
theorem dX11_charter_103 : decode cX11_charter 103 = .ok (.getfield 35, 3) := by decide +kernel
theorem dX11_charter_106 : decode cX11_charter 106 = .ok (.aload_n 0, 1) := by decide +kernel
theorem dX11_charter_107 : decode cX11_charter 107 = .ok (.getfield 291, 3) := by decide +kernel
theorem dX11_charter_110 : decode cX11_charter 110 = .ok (.new 33, 3) := by decide +kernel
theorem dX11_charter_113 : decode cX11_charter 113 = .ok (.dup, 1) := by decide +kernel
theorem dX11_charter_114 : decode cX11_charter 114 = .ok (.iload_n 1, 1) := by decide +kernel
theorem dX11_charter_115 : decode cX11_charter 115 = .ok (.aload 8, 2) := by decide +kernel
theorem dX11_charter_117 : decode cX11_charter 117 = .ok (.iload_n 3, 1) := by decide +kernel
theorem dX11_charter_118 : decode cX11_charter 118 = .ok (.iload 4, 2) := by decide +kernel
theorem dX11_charter_120 : decode cX11_charter 120 = .ok (.aload 9, 2) := by decide +kernel
theorem dX11_charter_122 : decode cX11_charter 122 = .ok (.lload 6, 2) := by decide +kernel
theorem dX11_charter_124 : decode cX11_charter 124 = .ok (.invokespecial 294, 3) := by decide +kernel
theorem dX11_charter_127 : decode cX11_charter 127 = .ok (.aastore, 1) := by decide +kernel
theorem dX11_charter_128 : decode cX11_charter 128 = .ok (.aload_n 0, 1) := by decide +kernel
theorem dX11_charter_129 : decode cX11_charter 129 = .ok (.dup, 1) := by decide +kernel
theorem dX11_charter_130 : decode cX11_charter 130 = .ok (.getfield 291, 3) := by decide +kernel
theorem dX11_charter_133 : decode cX11_charter 133 = .ok (.iconst 1, 1) := by decide +kernel
theorem dX11_charter_134 : decode cX11_charter 134 = .ok (.iadd, 1) := by decide +kernel
theorem dX11_charter_135 : decode cX11_charter 135 = .ok (.putfield 291, 3) := by decide +kernel
theorem dX11_charter_138 : decode cX11_charter 138 = .ok (.aload_n 0, 1) := by decide +kernel
theorem dX11_charter_139 : decode cX11_charter 139 = .ok (.getfield 291, 3) := by decide +kernel
theorem dX11_charter_142 : decode cX11_charter 142 = .ok (.iconst 1, 1) := by decide +kernel
theorem dX11_charter_143 : decode cX11_charter 143 = .ok (.isub, 1) := by decide +kernel
theorem dX11_charter_144 : decode cX11_charter 144 = .ok (.ireturn, 1) := by decide +kernel
theorem dX11_lift_0 : decode cX11_lift 0 = .ok (.aload_n 0, 1) := by decide +kernel
theorem dX11_lift_1 : decode cX11_lift 1 = .ok (.iload_n 1, 1) := by decide +kernel
theorem dX11_lift_2 : decode cX11_lift 2 = .ok (.invokevirtual 297, 3) := by decide +kernel
theorem dX11_lift_5 : decode cX11_lift 5 = .ok (.astore_n 3, 1) := by decide +kernel
theorem dX11_lift_6 : decode cX11_lift 6 = .ok (.aload_n 3, 1) := by decide +kernel
theorem dX11_lift_7 : decode cX11_lift 7 = .ok (.ifnull 11, 3) := by decide +kernel
theorem dX11_lift_10 : decode cX11_lift 10 = .ok (.aload_n 3, 1) := by decide +kernel
theorem dX11_lift_11 : decode cX11_lift 11 = .ok (.getfield 301, 3) := by decide +kernel
theorem dX11_lift_14 : decode cX11_lift 14 = .ok (.iconst 5, 1) := by decide +kernel
theorem dX11_lift_15 : decode cX11_lift 15 = .ok (.if_icmp .eq 6, 3) := by decide +kernel
theorem dX11_lift_18 : decode cX11_lift 18 = .ok (.bipush (-2), 2) := by decide +kernel
theorem dX11_lift_20 : decode cX11_lift 20 = .ok (.ireturn, 1) := by decide +kernel
theorem dX11_lift_21 : decode cX11_lift 21 = .ok (.aload_n 3, 1) := by decide +kernel
theorem dX11_lift_22 : decode cX11_lift 22 = .ok (.getfield 304, 3) := by decide +kernel
theorem dX11_lift_25 : decode cX11_lift 25 = .ok (.ifCond .eq 6, 3) := by decide +kernel
theorem dX11_lift_28 : decode cX11_lift 28 = .ok (.bipush (-3), 2) := by decide +kernel
theorem dX11_lift_30 : decode cX11_lift 30 = .ok (.ireturn, 1) := by decide +kernel
theorem dX11_lift_31 : decode cX11_lift 31 = .ok (.aload_n 3, 1) := by decide +kernel
theorem dX11_lift_32 : decode cX11_lift 32 = .ok (.iload_n 2, 1) := by decide +kernel
theorem dX11_lift_33 : decode cX11_lift 33 = .ok (.ifCond .eq 7, 3) := by decide +kernel
theorem dX11_lift_36 : decode cX11_lift 36 = .ok (.iconst 1, 1) := by decide +kernel
theorem dX11_lift_37 : decode cX11_lift 37 = .ok (.goto 4, 3) := by decide +kernel
theorem dX11_lift_40 : decode cX11_lift 40 = .ok (.iconst 2, 1) := by decide +kernel
theorem dX11_lift_41 : decode cX11_lift 41 = .ok (.putfield 304, 3) := by decide +kernel
theorem dX11_lift_44 : decode cX11_lift 44 = .ok (.iconst 1, 1) := by decide +kernel
theorem dX11_lift_45 : decode cX11_lift 45 = .ok (.ireturn, 1) := by decide +kernel
theorem dX11_charterTold_0 : decode cX11_charterTold 0 = .ok (.aload_n 0, 1) := by decide +kernel
theorem dX11_charterTold_1 : decode cX11_charterTold 1 = .ok (.iload_n 1, 1) := by decide +kernel
theorem dX11_charterTold_2 : decode cX11_charterTold 2 = .ok (.invokevirtual 297, 3) := by decide +kernel
theorem dX11_charterTold_5 : decode cX11_charterTold 5 = .ok (.astore_n 3, 1) := by decide +kernel
theorem dX11_charterTold_6 : decode cX11_charterTold 6 = .ok (.aload_n 3, 1) := by decide +kernel
theorem dX11_charterTold_7 : decode cX11_charterTold 7 = .ok (.ifnonnull 6, 3) := by decide +kernel
theorem dX11_charterTold_10 : decode cX11_charterTold 10 = .ok (.bipush (-2), 2) := by decide +kernel
theorem dX11_charterTold_12 : decode cX11_charterTold 12 = .ok (.ireturn, 1) := by decide +kernel
theorem dX11_charterTold_13 : decode cX11_charterTold 13 = .ok (.iload_n 2, 1) := by decide +kernel
theorem dX11_charterTold_14 : decode cX11_charterTold 14 = .ok (.tableswitch 95 0 8 #[50, 55, 63, 68, 73, 81, 81, 81, 90], 50) := by decide +kernel
theorem dX11_charterTold_64 : decode cX11_charterTold 64 = .ok (.aload_n 3, 1) := by decide +kernel
theorem dX11_charterTold_65 : decode cX11_charterTold 65 = .ok (.getfield 301, 3) := by decide +kernel
theorem dX11_charterTold_68 : decode cX11_charterTold 68 = .ok (.ireturn, 1) := by decide +kernel
theorem dX11_charterTold_69 : decode cX11_charterTold 69 = .ok (.aload_n 3, 1) := by decide +kernel
theorem dX11_charterTold_70 : decode cX11_charterTold 70 = .ok (.getfield 307, 3) := by decide +kernel
theorem dX11_charterTold_73 : decode cX11_charterTold 73 = .ok (.getfield 311, 3) := by decide +kernel
theorem dX11_charterTold_76 : decode cX11_charterTold 76 = .ok (.ireturn, 1) := by decide +kernel
theorem dX11_charterTold_77 : decode cX11_charterTold 77 = .ok (.aload_n 3, 1) := by decide +kernel
theorem dX11_charterTold_78 : decode cX11_charterTold 78 = .ok (.getfield 312, 3) := by decide +kernel
theorem dX11_charterTold_81 : decode cX11_charterTold 81 = .ok (.ireturn, 1) := by decide +kernel
theorem dX11_charterTold_82 : decode cX11_charterTold 82 = .ok (.aload_n 3, 1) := by decide +kernel
theorem dX11_charterTold_83 : decode cX11_charterTold 83 = .ok (.getfield 315, 3) := by decide +kernel
theorem dX11_charterTold_86 : decode cX11_charterTold 86 = .ok (.ireturn, 1) := by decide +kernel
theorem dX11_charterTold_87 : decode cX11_charterTold 87 = .ok (.aload_n 3, 1) := by decide +kernel
theorem dX11_charterTold_88 : decode cX11_charterTold 88 = .ok (.getfield 317, 3) := by decide +kernel
theorem dX11_charterTold_91 : decode cX11_charterTold 91 = .ok (.getfield 319, 3) := by decide +kernel
theorem dX11_charterTold_94 : decode cX11_charterTold 94 = .ok (.ireturn, 1) := by decide +kernel
theorem dX11_charterTold_95 : decode cX11_charterTold 95 = .ok (.aload_n 0, 1) := by decide +kernel
theorem dX11_charterTold_96 : decode cX11_charterTold 96 = .ok (.aload_n 3, 1) := by decide +kernel
theorem dX11_charterTold_97 : decode cX11_charterTold 97 = .ok (.iload_n 2, 1) := by decide +kernel
theorem dX11_charterTold_98 : decode cX11_charterTold 98 = .ok (.iconst 5, 1) := by decide +kernel
theorem dX11_charterTold_99 : decode cX11_charterTold 99 = .ok (.isub, 1) := by decide +kernel
theorem dX11_charterTold_100 : decode cX11_charterTold 100 = .ok (.invokevirtual 320, 3) := by decide +kernel
theorem dX11_charterTold_103 : decode cX11_charterTold 103 = .ok (.ireturn, 1) := by decide +kernel
theorem dX11_charterTold_104 : decode cX11_charterTold 104 = .ok (.aload_n 3, 1) := by decide +kernel
theorem dX11_charterTold_105 : decode cX11_charterTold 105 = .ok (.getfield 304, 3) := by decide +kernel
theorem dX11_charterTold_108 : decode cX11_charterTold 108 = .ok (.ireturn, 1) := by decide +kernel
theorem dX11_charterTold_109 : decode cX11_charterTold 109 = .ok (.bipush (-2), 2) := by decide +kernel
end
section
theorem dX11_charterTold_111 : decode cX11_charterTold 111 = .ok (.ireturn, 1) := by decide +kernel
theorem dX11_pays_0 : decode cX11_pays 0 = .ok (.aload_n 0, 1) := by decide +kernel
theorem dX11_pays_1 : decode cX11_pays 1 = .ok (.iload_n 1, 1) := by decide +kernel
theorem dX11_pays_2 : decode cX11_pays 2 = .ok (.invokevirtual 297, 3) := by decide +kernel
theorem dX11_pays_5 : decode cX11_pays 5 = .ok (.astore_n 2, 1) := by decide +kernel
theorem dX11_pays_6 : decode cX11_pays 6 = .ok (.aload_n 2, 1) := by decide +kernel
theorem dX11_pays_7 : decode cX11_pays 7 = .ok (.ifnonnull 7, 3) := by decide +kernel
theorem dX11_pays_10 : decode cX11_pays 10 = .ok (.ldc2_w 194, 3) := by decide +kernel
theorem dX11_pays_13 : decode cX11_pays 13 = .ok (.lreturn, 1) := by decide +kernel
theorem dX11_pays_14 : decode cX11_pays 14 = .ok (.aload_n 0, 1) := by decide +kernel
theorem dX11_pays_15 : decode cX11_pays 15 = .ok (.getfield 86, 3) := by decide +kernel
theorem dX11_pays_18 : decode cX11_pays 18 = .ok (.aload_n 2, 1) := by decide +kernel
theorem dX11_pays_19 : decode cX11_pays 19 = .ok (.aload_n 2, 1) := by decide +kernel
theorem dX11_pays_20 : decode cX11_pays 20 = .ok (.getfield 315, 3) := by decide +kernel
theorem dX11_pays_23 : decode cX11_pays 23 = .ok (.invokevirtual 324, 3) := by decide +kernel
theorem dX11_pays_26 : decode cX11_pays 26 = .ok (.pop, 1) := by decide +kernel
theorem dX11_pays_27 : decode cX11_pays 27 = .ok (.aload_n 2, 1) := by decide +kernel
theorem dX11_pays_28 : decode cX11_pays 28 = .ok (.aload_n 0, 1) := by decide +kernel
theorem dX11_pays_29 : decode cX11_pays 29 = .ok (.getfield 86, 3) := by decide +kernel
theorem dX11_pays_32 : decode cX11_pays 32 = .ok (.invokevirtual 326, 3) := by decide +kernel
theorem dX11_pays_35 : decode cX11_pays 35 = .ok (.lreturn, 1) := by decide +kernel
theorem dX11_counts_0 : decode cX11_counts 0 = .ok (.aload_n 0, 1) := by decide +kernel
theorem dX11_counts_1 : decode cX11_counts 1 = .ok (.iload_n 1, 1) := by decide +kernel
theorem dX11_counts_2 : decode cX11_counts 2 = .ok (.invokevirtual 297, 3) := by decide +kernel
theorem dX11_counts_5 : decode cX11_counts 5 = .ok (.astore_n 3, 1) := by decide +kernel
theorem dX11_counts_6 : decode cX11_counts 6 = .ok (.aload_n 3, 1) := by decide +kernel
theorem dX11_counts_7 : decode cX11_counts 7 = .ok (.ifnonnull 6, 3) := by decide +kernel
theorem dX11_counts_10 : decode cX11_counts 10 = .ok (.bipush (-2), 2) := by decide +kernel
theorem dX11_counts_12 : decode cX11_counts 12 = .ok (.ireturn, 1) := by decide +kernel
theorem dX11_counts_13 : decode cX11_counts 13 = .ok (.aload_n 3, 1) := by decide +kernel
theorem dX11_counts_14 : decode cX11_counts 14 = .ok (.iload_n 2, 1) := by decide +kernel
theorem dX11_counts_15 : decode cX11_counts 15 = .ok (.invokevirtual 330, 3) := by decide +kernel
theorem dX11_counts_18 : decode cX11_counts 18 = .ok (.ifCond .eq 15, 3) := by decide +kernel
theorem dX11_counts_21 : decode cX11_counts 21 = .ok (.aload_n 3, 1) := by decide +kernel
theorem dX11_counts_22 : decode cX11_counts 22 = .ok (.getfield 307, 3) := by decide +kernel
theorem dX11_counts_25 : decode cX11_counts 25 = .ok (.iload_n 2, 1) := by decide +kernel
theorem dX11_counts_26 : decode cX11_counts 26 = .ok (.invokevirtual 260, 3) := by decide +kernel
theorem dX11_counts_29 : decode cX11_counts 29 = .ok (.iconst (-1), 1) := by decide +kernel
theorem dX11_counts_30 : decode cX11_counts 30 = .ok (.if_icmp .ne 5, 3) := by decide +kernel
theorem dX11_counts_33 : decode cX11_counts 33 = .ok (.iconst (-1), 1) := by decide +kernel
theorem dX11_counts_34 : decode cX11_counts 34 = .ok (.ireturn, 1) := by decide +kernel
theorem dX11_counts_35 : decode cX11_counts 35 = .ok (.aload_n 0, 1) := by decide +kernel
theorem dX11_counts_36 : decode cX11_counts 36 = .ok (.getfield 86, 3) := by decide +kernel
theorem dX11_counts_39 : decode cX11_counts 39 = .ok (.aload_n 3, 1) := by decide +kernel
theorem dX11_counts_40 : decode cX11_counts 40 = .ok (.iload_n 2, 1) := by decide +kernel
theorem dX11_counts_41 : decode cX11_counts 41 = .ok (.invokevirtual 324, 3) := by decide +kernel
theorem dX11_counts_44 : decode cX11_counts 44 = .ok (.ireturn, 1) := by decide +kernel
theorem dX11_account_0 : decode cX11_account 0 = .ok (.aload_n 0, 1) := by decide +kernel
theorem dX11_account_1 : decode cX11_account 1 = .ok (.iload_n 1, 1) := by decide +kernel
theorem dX11_account_2 : decode cX11_account 2 = .ok (.invokevirtual 141, 3) := by decide +kernel
theorem dX11_account_5 : decode cX11_account 5 = .ok (.astore_n 3, 1) := by decide +kernel
theorem dX11_account_6 : decode cX11_account 6 = .ok (.aload_n 3, 1) := by decide +kernel
theorem dX11_account_7 : decode cX11_account 7 = .ok (.ifnull 10, 3) := by decide +kernel
theorem dX11_account_10 : decode cX11_account 10 = .ok (.iload_n 2, 1) := by decide +kernel
theorem dX11_account_11 : decode cX11_account 11 = .ok (.invokestatic 148, 3) := by decide +kernel
theorem dX11_account_14 : decode cX11_account 14 = .ok (.ifCond .ne 6, 3) := by decide +kernel
theorem dX11_account_17 : decode cX11_account 17 = .ok (.bipush (-2), 2) := by decide +kernel
theorem dX11_account_19 : decode cX11_account 19 = .ok (.ireturn, 1) := by decide +kernel
theorem dX11_account_20 : decode cX11_account 20 = .ok (.iconst 0, 1) := by decide +kernel
theorem dX11_account_21 : decode cX11_account 21 = .ok (.istore 4, 2) := by decide +kernel
theorem dX11_account_23 : decode cX11_account 23 = .ok (.iload 4, 2) := by decide +kernel
theorem dX11_account_25 : decode cX11_account 25 = .ok (.aload_n 0, 1) := by decide +kernel
theorem dX11_account_26 : decode cX11_account 26 = .ok (.getfield 291, 3) := by decide +kernel
theorem dX11_account_29 : decode cX11_account 29 = .ok (.if_icmp .ge 43, 3) := by decide +kernel
theorem dX11_account_32 : decode cX11_account 32 = .ok (.aload_n 0, 1) := by decide +kernel
theorem dX11_account_33 : decode cX11_account 33 = .ok (.iload 4, 2) := by decide +kernel
theorem dX11_account_35 : decode cX11_account 35 = .ok (.invokevirtual 297, 3) := by decide +kernel
theorem dX11_account_38 : decode cX11_account 38 = .ok (.astore 5, 2) := by decide +kernel
theorem dX11_account_40 : decode cX11_account 40 = .ok (.aload 5, 2) := by decide +kernel
theorem dX11_account_42 : decode cX11_account 42 = .ok (.ifnull 24, 3) := by decide +kernel
theorem dX11_account_45 : decode cX11_account 45 = .ok (.aload 5, 2) := by decide +kernel
theorem dX11_account_47 : decode cX11_account 47 = .ok (.aload_n 3, 1) := by decide +kernel
theorem dX11_account_48 : decode cX11_account 48 = .ok (.invokevirtual 333, 3) := by decide +kernel
theorem dX11_account_51 : decode cX11_account 51 = .ok (.ifCond .eq 15, 3) := by decide +kernel
theorem dX11_account_54 : decode cX11_account 54 = .ok (.aload 5, 2) := by decide +kernel
theorem dX11_account_56 : decode cX11_account 56 = .ok (.iload_n 2, 1) := by decide +kernel
theorem dX11_account_57 : decode cX11_account 57 = .ok (.invokevirtual 330, 3) := by decide +kernel
theorem dX11_account_60 : decode cX11_account 60 = .ok (.ifCond .eq 6, 3) := by decide +kernel
theorem dX11_account_63 : decode cX11_account 63 = .ok (.iload 4, 2) := by decide +kernel
theorem dX11_account_65 : decode cX11_account 65 = .ok (.ireturn, 1) := by decide +kernel
theorem dX11_account_66 : decode cX11_account 66 = .ok (.iinc 4 1, 3) := by decide +kernel
theorem dX11_account_69 : decode cX11_account 69 = .ok (.goto (-46), 3) := by decide +kernel
theorem dX11_account_72 : decode cX11_account 72 = .ok (.iconst (-1), 1) := by decide +kernel
theorem dX11_account_73 : decode cX11_account 73 = .ok (.ireturn, 1) := by decide +kernel
theorem dX11_owners_0 : decode cX11_owners 0 = .ok (.aload_n 0, 1) := by decide +kernel
theorem dX11_owners_1 : decode cX11_owners 1 = .ok (.iload_n 1, 1) := by decide +kernel
theorem dX11_owners_2 : decode cX11_owners 2 = .ok (.invokevirtual 141, 3) := by decide +kernel
theorem dX11_owners_5 : decode cX11_owners 5 = .ok (.astore_n 2, 1) := by decide +kernel
theorem dX11_owners_6 : decode cX11_owners 6 = .ok (.aload_n 2, 1) := by decide +kernel
theorem dX11_owners_7 : decode cX11_owners 7 = .ok (.ifnonnull 6, 3) := by decide +kernel
theorem dX11_owners_10 : decode cX11_owners 10 = .ok (.bipush (-2), 2) := by decide +kernel
theorem dX11_owners_12 : decode cX11_owners 12 = .ok (.ireturn, 1) := by decide +kernel
theorem dX11_owners_13 : decode cX11_owners 13 = .ok (.aload_n 2, 1) := by decide +kernel
theorem dX11_owners_14 : decode cX11_owners 14 = .ok (.getfield 171, 3) := by decide +kernel
theorem dX11_owners_17 : decode cX11_owners 17 = .ok (.istore_n 3, 1) := by decide +kernel
theorem dX11_owners_18 : decode cX11_owners 18 = .ok (.iconst 0, 1) := by decide +kernel
theorem dX11_owners_19 : decode cX11_owners 19 = .ok (.istore 4, 2) := by decide +kernel
theorem dX11_owners_21 : decode cX11_owners 21 = .ok (.iload 4, 2) := by decide +kernel
theorem dX11_owners_23 : decode cX11_owners 23 = .ok (.aload_n 0, 1) := by decide +kernel
theorem dX11_owners_24 : decode cX11_owners 24 = .ok (.getfield 291, 3) := by decide +kernel
theorem dX11_owners_27 : decode cX11_owners 27 = .ok (.if_icmp .ge 39, 3) := by decide +kernel
theorem dX11_owners_30 : decode cX11_owners 30 = .ok (.aload_n 0, 1) := by decide +kernel
theorem dX11_owners_31 : decode cX11_owners 31 = .ok (.iload 4, 2) := by decide +kernel
theorem dX11_owners_33 : decode cX11_owners 33 = .ok (.invokevirtual 297, 3) := by decide +kernel
theorem dX11_owners_36 : decode cX11_owners 36 = .ok (.astore 5, 2) := by decide +kernel
theorem dX11_owners_38 : decode cX11_owners 38 = .ok (.aload 5, 2) := by decide +kernel
theorem dX11_owners_40 : decode cX11_owners 40 = .ok (.ifnull 20, 3) := by decide +kernel
theorem dX11_owners_43 : decode cX11_owners 43 = .ok (.aload 5, 2) := by decide +kernel
theorem dX11_owners_45 : decode cX11_owners 45 = .ok (.aload_n 2, 1) := by decide +kernel
theorem dX11_owners_46 : decode cX11_owners 46 = .ok (.invokevirtual 333, 3) := by decide +kernel
theorem dX11_owners_49 : decode cX11_owners 49 = .ok (.ifCond .eq 11, 3) := by decide +kernel
theorem dX11_owners_52 : decode cX11_owners 52 = .ok (.iload_n 3, 1) := by decide +kernel
theorem dX11_owners_53 : decode cX11_owners 53 = .ok (.aload 5, 2) := by decide +kernel
theorem dX11_owners_55 : decode cX11_owners 55 = .ok (.invokevirtual 337, 3) := by decide +kernel
theorem dX11_owners_58 : decode cX11_owners 58 = .ok (.isub, 1) := by decide +kernel
theorem dX11_owners_59 : decode cX11_owners 59 = .ok (.istore_n 3, 1) := by decide +kernel
theorem dX11_owners_60 : decode cX11_owners 60 = .ok (.iinc 4 1, 3) := by decide +kernel
theorem dX11_owners_63 : decode cX11_owners 63 = .ok (.goto (-42), 3) := by decide +kernel
theorem dX11_owners_66 : decode cX11_owners 66 = .ok (.iload_n 3, 1) := by decide +kernel
theorem dX11_owners_67 : decode cX11_owners 67 = .ok (.ireturn, 1) := by decide +kernel
theorem dX11_count_0 : decode cX11_count 0 = .ok (.iload_n 1, 1) := by decide +kernel
theorem dX11_count_1 : decode cX11_count 1 = .ok (.tableswitch 81 0 6 #[43, 48, 53, 58, 63, 68, 76], 43) := by decide +kernel
theorem dX11_count_44 : decode cX11_count 44 = .ok (.aload_n 0, 1) := by decide +kernel
theorem dX11_count_45 : decode cX11_count 45 = .ok (.getfield 113, 3) := by decide +kernel
theorem dX11_count_48 : decode cX11_count 48 = .ok (.ireturn, 1) := by decide +kernel
theorem dX11_count_49 : decode cX11_count 49 = .ok (.aload_n 0, 1) := by decide +kernel
theorem dX11_count_50 : decode cX11_count 50 = .ok (.getfield 135, 3) := by decide +kernel
theorem dX11_count_53 : decode cX11_count 53 = .ok (.ireturn, 1) := by decide +kernel
theorem dX11_count_54 : decode cX11_count 54 = .ok (.aload_n 0, 1) := by decide +kernel
theorem dX11_count_55 : decode cX11_count 55 = .ok (.getfield 174, 3) := by decide +kernel
theorem dX11_count_58 : decode cX11_count 58 = .ok (.ireturn, 1) := by decide +kernel
theorem dX11_count_59 : decode cX11_count 59 = .ok (.aload_n 0, 1) := by decide +kernel
theorem dX11_count_60 : decode cX11_count 60 = .ok (.getfield 268, 3) := by decide +kernel
theorem dX11_count_63 : decode cX11_count 63 = .ok (.ireturn, 1) := by decide +kernel
theorem dX11_count_64 : decode cX11_count 64 = .ok (.aload_n 0, 1) := by decide +kernel
theorem dX11_count_65 : decode cX11_count 65 = .ok (.getfield 291, 3) := by decide +kernel
theorem dX11_count_68 : decode cX11_count 68 = .ok (.ireturn, 1) := by decide +kernel
theorem dX11_count_69 : decode cX11_count 69 = .ok (.aload_n 0, 1) := by decide +kernel
theorem dX11_count_70 : decode cX11_count 70 = .ok (.getfield 72, 3) := by decide +kernel
theorem dX11_count_73 : decode cX11_count 73 = .ok (.getfield 267, 3) := by decide +kernel
theorem dX11_count_76 : decode cX11_count 76 = .ok (.ireturn, 1) := by decide +kernel
theorem dX11_count_77 : decode cX11_count 77 = .ok (.aload_n 0, 1) := by decide +kernel
theorem dX11_count_78 : decode cX11_count 78 = .ok (.getfield 235, 3) := by decide +kernel
theorem dX11_count_81 : decode cX11_count 81 = .ok (.ireturn, 1) := by decide +kernel
theorem dX11_count_82 : decode cX11_count 82 = .ok (.bipush (-2), 2) := by decide +kernel
theorem dX11_count_84 : decode cX11_count 84 = .ok (.ireturn, 1) := by decide +kernel
theorem dX11_sheet_0 : decode cX11_sheet 0 = .ok (.aload_n 0, 1) := by decide +kernel
theorem dX11_sheet_1 : decode cX11_sheet 1 = .ok (.iload_n 1, 1) := by decide +kernel
theorem dX11_sheet_2 : decode cX11_sheet 2 = .ok (.invokevirtual 249, 3) := by decide +kernel
theorem dX11_sheet_5 : decode cX11_sheet 5 = .ok (.astore 4, 2) := by decide +kernel
theorem dX11_sheet_7 : decode cX11_sheet 7 = .ok (.aload 4, 2) := by decide +kernel
theorem dX11_sheet_9 : decode cX11_sheet 9 = .ok (.ifnull 12, 3) := by decide +kernel
theorem dX11_sheet_12 : decode cX11_sheet 12 = .ok (.iload_n 2, 1) := by decide +kernel
theorem dX11_sheet_13 : decode cX11_sheet 13 = .ok (.iconst (-1), 1) := by decide +kernel
theorem dX11_sheet_14 : decode cX11_sheet 14 = .ok (.iconst 2, 1) := by decide +kernel
theorem dX11_sheet_15 : decode cX11_sheet 15 = .ok (.invokestatic 109, 3) := by decide +kernel
theorem dX11_sheet_18 : decode cX11_sheet 18 = .ok (.ifCond .ne 6, 3) := by decide +kernel
theorem dX11_sheet_21 : decode cX11_sheet 21 = .ok (.bipush (-2), 2) := by decide +kernel
theorem dX11_sheet_23 : decode cX11_sheet 23 = .ok (.ireturn, 1) := by decide +kernel
theorem dX11_sheet_24 : decode cX11_sheet 24 = .ok (.iload_n 2, 1) := by decide +kernel
theorem dX11_sheet_25 : decode cX11_sheet 25 = .ok (.iconst (-1), 1) := by decide +kernel
theorem dX11_sheet_26 : decode cX11_sheet 26 = .ok (.if_icmp .ne 12, 3) := by decide +kernel
theorem dX11_sheet_29 : decode cX11_sheet 29 = .ok (.aload 4, 2) := by decide +kernel
theorem dX11_sheet_31 : decode cX11_sheet 31 = .ok (.iload_n 2, 1) := by decide +kernel
theorem dX11_sheet_32 : decode cX11_sheet 32 = .ok (.iconst 0, 1) := by decide +kernel
theorem dX11_sheet_33 : decode cX11_sheet 33 = .ok (.invokevirtual 340, 3) := by decide +kernel
theorem dX11_sheet_36 : decode cX11_sheet 36 = .ok (.iconst 1, 1) := by decide +kernel
theorem dX11_sheet_37 : decode cX11_sheet 37 = .ok (.ireturn, 1) := by decide +kernel
theorem dX11_sheet_38 : decode cX11_sheet 38 = .ok (.iload_n 3, 1) := by decide +kernel
theorem dX11_sheet_39 : decode cX11_sheet 39 = .ok (.bipush 40, 2) := by decide +kernel
theorem dX11_sheet_41 : decode cX11_sheet 41 = .ok (.if_icmp .le 6, 3) := by decide +kernel
theorem dX11_sheet_44 : decode cX11_sheet 44 = .ok (.bipush (-2), 2) := by decide +kernel
theorem dX11_sheet_46 : decode cX11_sheet 46 = .ok (.ireturn, 1) := by decide +kernel
theorem dX11_sheet_47 : decode cX11_sheet 47 = .ok (.iload_n 3, 1) := by decide +kernel
theorem dX11_sheet_48 : decode cX11_sheet 48 = .ok (.ifCond .ge 6, 3) := by decide +kernel
theorem dX11_sheet_51 : decode cX11_sheet 51 = .ok (.bipush (-14), 2) := by decide +kernel
theorem dX11_sheet_53 : decode cX11_sheet 53 = .ok (.ireturn, 1) := by decide +kernel
theorem dX11_sheet_54 : decode cX11_sheet 54 = .ok (.aload 4, 2) := by decide +kernel
theorem dX11_sheet_56 : decode cX11_sheet 56 = .ok (.iload_n 2, 1) := by decide +kernel
theorem dX11_sheet_57 : decode cX11_sheet 57 = .ok (.iload_n 3, 1) := by decide +kernel
theorem dX11_sheet_58 : decode cX11_sheet 58 = .ok (.invokevirtual 340, 3) := by decide +kernel
theorem dX11_sheet_61 : decode cX11_sheet 61 = .ok (.iconst 1, 1) := by decide +kernel
theorem dX11_sheet_62 : decode cX11_sheet 62 = .ok (.ireturn, 1) := by decide +kernel
theorem dX11_cell_0 : decode cX11_cell 0 = .ok (.aload_n 0, 1) := by decide +kernel
theorem dX11_cell_1 : decode cX11_cell 1 = .ok (.iload_n 1, 1) := by decide +kernel
theorem dX11_cell_2 : decode cX11_cell 2 = .ok (.invokevirtual 249, 3) := by decide +kernel
theorem dX11_cell_5 : decode cX11_cell 5 = .ok (.astore 4, 2) := by decide +kernel
theorem dX11_cell_7 : decode cX11_cell 7 = .ok (.aload 4, 2) := by decide +kernel
theorem dX11_cell_9 : decode cX11_cell 9 = .ok (.ifnonnull 6, 3) := by decide +kernel
theorem dX11_cell_12 : decode cX11_cell 12 = .ok (.bipush (-2), 2) := by decide +kernel
theorem dX11_cell_14 : decode cX11_cell 14 = .ok (.ireturn, 1) := by decide +kernel
theorem dX11_cell_15 : decode cX11_cell 15 = .ok (.aload 4, 2) := by decide +kernel
theorem dX11_cell_17 : decode cX11_cell 17 = .ok (.getfield 253, 3) := by decide +kernel
theorem dX11_cell_20 : decode cX11_cell 20 = .ok (.iconst (-1), 1) := by decide +kernel
theorem dX11_cell_21 : decode cX11_cell 21 = .ok (.if_icmp .ne 6, 3) := by decide +kernel
theorem dX11_cell_24 : decode cX11_cell 24 = .ok (.bipush (-11), 2) := by decide +kernel
theorem dX11_cell_26 : decode cX11_cell 26 = .ok (.ireturn, 1) := by decide +kernel
theorem dX11_cell_27 : decode cX11_cell 27 = .ok (.aload 4, 2) := by decide +kernel
theorem dX11_cell_29 : decode cX11_cell 29 = .ok (.iload_n 2, 1) := by decide +kernel
theorem dX11_cell_30 : decode cX11_cell 30 = .ok (.invokevirtual 343, 3) := by decide +kernel
theorem dX11_cell_33 : decode cX11_cell 33 = .ok (.ifCond .ne 6, 3) := by decide +kernel
theorem dX11_cell_36 : decode cX11_cell 36 = .ok (.bipush (-12), 2) := by decide +kernel
theorem dX11_cell_38 : decode cX11_cell 38 = .ok (.ireturn, 1) := by decide +kernel
theorem dX11_cell_39 : decode cX11_cell 39 = .ok (.aload 4, 2) := by decide +kernel
theorem dX11_cell_41 : decode cX11_cell 41 = .ok (.iload_n 2, 1) := by decide +kernel
theorem dX11_cell_42 : decode cX11_cell 42 = .ok (.iload_n 3, 1) := by decide +kernel
theorem dX11_cell_43 : decode cX11_cell 43 = .ok (.invokevirtual 344, 3) := by decide +kernel
theorem dX11_cell_46 : decode cX11_cell 46 = .ok (.iconst 1, 1) := by decide +kernel
theorem dX11_cell_47 : decode cX11_cell 47 = .ok (.ireturn, 1) := by decide +kernel
theorem dX11_taken_0 : decode cX11_taken 0 = .ok (.iload_n 2, 1) := by decide +kernel
theorem dX11_taken_1 : decode cX11_taken 1 = .ok (.invokestatic 282, 3) := by decide +kernel
theorem dX11_taken_4 : decode cX11_taken 4 = .ok (.ifCond .ne 6, 3) := by decide +kernel
theorem dX11_taken_7 : decode cX11_taken 7 = .ok (.bipush (-2), 2) := by decide +kernel
theorem dX11_taken_9 : decode cX11_taken 9 = .ok (.ireturn, 1) := by decide +kernel
theorem dX11_taken_10 : decode cX11_taken 10 = .ok (.aload_n 0, 1) := by decide +kernel
theorem dX11_taken_11 : decode cX11_taken 11 = .ok (.iload_n 1, 1) := by decide +kernel
theorem dX11_taken_12 : decode cX11_taken 12 = .ok (.invokevirtual 297, 3) := by decide +kernel
theorem dX11_taken_15 : decode cX11_taken 15 = .ok (.astore_n 3, 1) := by decide +kernel
theorem dX11_taken_16 : decode cX11_taken 16 = .ok (.aload_n 3, 1) := by decide +kernel
theorem dX11_taken_17 : decode cX11_taken 17 = .ok (.ifnonnull 6, 3) := by decide +kernel
theorem dX11_taken_20 : decode cX11_taken 20 = .ok (.bipush (-11), 2) := by decide +kernel
theorem dX11_taken_22 : decode cX11_taken 22 = .ok (.ireturn, 1) := by decide +kernel
theorem dX11_taken_23 : decode cX11_taken 23 = .ok (.aload_n 3, 1) := by decide +kernel
theorem dX11_taken_24 : decode cX11_taken 24 = .ok (.iload_n 2, 1) := by decide +kernel
theorem dX11_taken_25 : decode cX11_taken 25 = .ok (.invokevirtual 347, 3) := by decide +kernel
theorem dX11_taken_28 : decode cX11_taken 28 = .ok (.ifCond .eq 13, 3) := by decide +kernel
theorem dX11_taken_31 : decode cX11_taken 31 = .ok (.aload_n 3, 1) := by decide +kernel
theorem dX11_taken_32 : decode cX11_taken 32 = .ok (.getfield 307, 3) := by decide +kernel
theorem dX11_taken_35 : decode cX11_taken 35 = .ok (.getfield 311, 3) := by decide +kernel
theorem dX11_taken_38 : decode cX11_taken 38 = .ok (.goto 5, 3) := by decide +kernel
theorem dX11_taken_41 : decode cX11_taken 41 = .ok (.bipush (-13), 2) := by decide +kernel
theorem dX11_taken_43 : decode cX11_taken 43 = .ok (.ireturn, 1) := by decide +kernel
theorem dX11_within_0 : decode cX11_within 0 = .ok (.iload_n 0, 1) := by decide +kernel
theorem dX11_within_1 : decode cX11_within 1 = .ok (.iload_n 1, 1) := by decide +kernel
theorem dX11_within_2 : decode cX11_within 2 = .ok (.if_icmp .lt 12, 3) := by decide +kernel
theorem dX11_within_5 : decode cX11_within 5 = .ok (.iload_n 0, 1) := by decide +kernel
theorem dX11_within_6 : decode cX11_within 6 = .ok (.iload_n 2, 1) := by decide +kernel
theorem dX11_within_7 : decode cX11_within 7 = .ok (.if_icmp .gt 7, 3) := by decide +kernel
theorem dX11_within_10 : decode cX11_within 10 = .ok (.iconst 1, 1) := by decide +kernel
theorem dX11_within_11 : decode cX11_within 11 = .ok (.goto 4, 3) := by decide +kernel
theorem dX11_within_14 : decode cX11_within 14 = .ok (.iconst 0, 1) := by decide +kernel
theorem dX11_within_15 : decode cX11_within 15 = .ok (.ireturn, 1) := by decide +kernel
theorem dX11_isHour_0 : decode cX11_isHour 0 = .ok (.iload_n 0, 1) := by decide +kernel
theorem dX11_isHour_1 : decode cX11_isHour 1 = .ok (.iconst 0, 1) := by decide +kernel
theorem dX11_isHour_2 : decode cX11_isHour 2 = .ok (.sipush 9999, 3) := by decide +kernel
theorem dX11_isHour_5 : decode cX11_isHour 5 = .ok (.invokestatic 109, 3) := by decide +kernel
theorem dX11_isHour_8 : decode cX11_isHour 8 = .ok (.ireturn, 1) := by decide +kernel
theorem dX11_isSort_0 : decode cX11_isSort 0 = .ok (.iload_n 0, 1) := by decide +kernel
theorem dX11_isSort_1 : decode cX11_isSort 1 = .ok (.iconst 0, 1) := by decide +kernel
theorem dX11_isSort_2 : decode cX11_isSort 2 = .ok (.iconst 5, 1) := by decide +kernel
theorem dX11_isSort_3 : decode cX11_isSort 3 = .ok (.invokestatic 109, 3) := by decide +kernel
theorem dX11_isSort_6 : decode cX11_isSort 6 = .ok (.ireturn, 1) := by decide +kernel
theorem dX11_roundedUp_0 : decode cX11_roundedUp 0 = .ok (.iload_n 1, 1) := by decide +kernel
theorem dX11_roundedUp_1 : decode cX11_roundedUp 1 = .ok (.iconst 1, 1) := by decide +kernel
theorem dX11_roundedUp_2 : decode cX11_roundedUp 2 = .ok (.if_icmp .ge 7, 3) := by decide +kernel
theorem dX11_roundedUp_5 : decode cX11_roundedUp 5 = .ok (.iconst 0, 1) := by decide +kernel
theorem dX11_roundedUp_6 : decode cX11_roundedUp 6 = .ok (.goto 10, 3) := by decide +kernel
theorem dX11_roundedUp_9 : decode cX11_roundedUp 9 = .ok (.iload_n 0, 1) := by decide +kernel
theorem dX11_roundedUp_10 : decode cX11_roundedUp 10 = .ok (.iload_n 1, 1) := by decide +kernel
theorem dX11_roundedUp_11 : decode cX11_roundedUp 11 = .ok (.iadd, 1) := by decide +kernel
theorem dX11_roundedUp_12 : decode cX11_roundedUp 12 = .ok (.iconst 1, 1) := by decide +kernel
theorem dX11_roundedUp_13 : decode cX11_roundedUp 13 = .ok (.isub, 1) := by decide +kernel
theorem dX11_roundedUp_14 : decode cX11_roundedUp 14 = .ok (.iload_n 1, 1) := by decide +kernel
theorem dX11_roundedUp_15 : decode cX11_roundedUp 15 = .ok (.idiv, 1) := by decide +kernel
theorem dX11_roundedUp_16 : decode cX11_roundedUp 16 = .ok (.ireturn, 1) := by decide +kernel
theorem dX11_portAt_0 : decode cX11_portAt 0 = .ok (.iload_n 1, 1) := by decide +kernel
theorem dX11_portAt_1 : decode cX11_portAt 1 = .ok (.ifCond .lt 20, 3) := by decide +kernel
theorem dX11_portAt_4 : decode cX11_portAt 4 = .ok (.iload_n 1, 1) := by decide +kernel
theorem dX11_portAt_5 : decode cX11_portAt 5 = .ok (.aload_n 0, 1) := by decide +kernel
theorem dX11_portAt_6 : decode cX11_portAt 6 = .ok (.getfield 113, 3) := by decide +kernel
theorem dX11_portAt_9 : decode cX11_portAt 9 = .ok (.if_icmp .ge 12, 3) := by decide +kernel
theorem dX11_portAt_12 : decode cX11_portAt 12 = .ok (.aload_n 0, 1) := by decide +kernel
theorem dX11_portAt_13 : decode cX11_portAt 13 = .ok (.getfield 11, 3) := by decide +kernel
theorem dX11_portAt_16 : decode cX11_portAt 16 = .ok (.iload_n 1, 1) := by decide +kernel
theorem dX11_portAt_17 : decode cX11_portAt 17 = .ok (.aaload, 1) := by decide +kernel
theorem dX11_portAt_18 : decode cX11_portAt 18 = .ok (.goto 4, 3) := by decide +kernel
theorem dX11_portAt_21 : decode cX11_portAt 21 = .ok (.aconst_null, 1) := by decide +kernel
theorem dX11_portAt_22 : decode cX11_portAt 22 = .ok (.areturn, 1) := by decide +kernel
theorem dX11_shipAt_0 : decode cX11_shipAt 0 = .ok (.iload_n 1, 1) := by decide +kernel
theorem dX11_shipAt_1 : decode cX11_shipAt 1 = .ok (.ifCond .lt 20, 3) := by decide +kernel
theorem dX11_shipAt_4 : decode cX11_shipAt 4 = .ok (.iload_n 1, 1) := by decide +kernel
theorem dX11_shipAt_5 : decode cX11_shipAt 5 = .ok (.aload_n 0, 1) := by decide +kernel
theorem dX11_shipAt_6 : decode cX11_shipAt 6 = .ok (.getfield 135, 3) := by decide +kernel
theorem dX11_shipAt_9 : decode cX11_shipAt 9 = .ok (.if_icmp .ge 12, 3) := by decide +kernel
theorem dX11_shipAt_12 : decode cX11_shipAt 12 = .ok (.aload_n 0, 1) := by decide +kernel
theorem dX11_shipAt_13 : decode cX11_shipAt 13 = .ok (.getfield 17, 3) := by decide +kernel
theorem dX11_shipAt_16 : decode cX11_shipAt 16 = .ok (.iload_n 1, 1) := by decide +kernel
theorem dX11_shipAt_17 : decode cX11_shipAt 17 = .ok (.aaload, 1) := by decide +kernel
theorem dX11_shipAt_18 : decode cX11_shipAt 18 = .ok (.goto 4, 3) := by decide +kernel
theorem dX11_shipAt_21 : decode cX11_shipAt 21 = .ok (.aconst_null, 1) := by decide +kernel
theorem dX11_shipAt_22 : decode cX11_shipAt 22 = .ok (.areturn, 1) := by decide +kernel
theorem dX11_offerAt_0 : decode cX11_offerAt 0 = .ok (.iload_n 1, 1) := by decide +kernel
theorem dX11_offerAt_1 : decode cX11_offerAt 1 = .ok (.ifCond .lt 20, 3) := by decide +kernel
theorem dX11_offerAt_4 : decode cX11_offerAt 4 = .ok (.iload_n 1, 1) := by decide +kernel
theorem dX11_offerAt_5 : decode cX11_offerAt 5 = .ok (.aload_n 0, 1) := by decide +kernel
theorem dX11_offerAt_6 : decode cX11_offerAt 6 = .ok (.getfield 174, 3) := by decide +kernel
theorem dX11_offerAt_9 : decode cX11_offerAt 9 = .ok (.if_icmp .ge 12, 3) := by decide +kernel
theorem dX11_offerAt_12 : decode cX11_offerAt 12 = .ok (.aload_n 0, 1) := by decide +kernel
theorem dX11_offerAt_13 : decode cX11_offerAt 13 = .ok (.getfield 23, 3) := by decide +kernel
theorem dX11_offerAt_16 : decode cX11_offerAt 16 = .ok (.iload_n 1, 1) := by decide +kernel
theorem dX11_offerAt_17 : decode cX11_offerAt 17 = .ok (.aaload, 1) := by decide +kernel
theorem dX11_offerAt_18 : decode cX11_offerAt 18 = .ok (.goto 4, 3) := by decide +kernel
theorem dX11_offerAt_21 : decode cX11_offerAt 21 = .ok (.aconst_null, 1) := by decide +kernel
theorem dX11_offerAt_22 : decode cX11_offerAt 22 = .ok (.areturn, 1) := by decide +kernel
theorem dX11_textAt_0 : decode cX11_textAt 0 = .ok (.iload_n 1, 1) := by decide +kernel
theorem dX11_textAt_1 : decode cX11_textAt 1 = .ok (.ifCond .lt 20, 3) := by decide +kernel
theorem dX11_textAt_4 : decode cX11_textAt 4 = .ok (.iload_n 1, 1) := by decide +kernel
theorem dX11_textAt_5 : decode cX11_textAt 5 = .ok (.aload_n 0, 1) := by decide +kernel
theorem dX11_textAt_6 : decode cX11_textAt 6 = .ok (.getfield 268, 3) := by decide +kernel
theorem dX11_textAt_9 : decode cX11_textAt 9 = .ok (.if_icmp .ge 12, 3) := by decide +kernel
theorem dX11_textAt_12 : decode cX11_textAt 12 = .ok (.aload_n 0, 1) := by decide +kernel
theorem dX11_textAt_13 : decode cX11_textAt 13 = .ok (.getfield 29, 3) := by decide +kernel
theorem dX11_textAt_16 : decode cX11_textAt 16 = .ok (.iload_n 1, 1) := by decide +kernel
theorem dX11_textAt_17 : decode cX11_textAt 17 = .ok (.aaload, 1) := by decide +kernel
theorem dX11_textAt_18 : decode cX11_textAt 18 = .ok (.goto 4, 3) := by decide +kernel
theorem dX11_textAt_21 : decode cX11_textAt 21 = .ok (.aconst_null, 1) := by decide +kernel
theorem dX11_textAt_22 : decode cX11_textAt 22 = .ok (.areturn, 1) := by decide +kernel
theorem dX11_charterAt_0 : decode cX11_charterAt 0 = .ok (.iload_n 1, 1) := by decide +kernel
theorem dX11_charterAt_1 : decode cX11_charterAt 1 = .ok (.ifCond .lt 20, 3) := by decide +kernel
theorem dX11_charterAt_4 : decode cX11_charterAt 4 = .ok (.iload_n 1, 1) := by decide +kernel
theorem dX11_charterAt_5 : decode cX11_charterAt 5 = .ok (.aload_n 0, 1) := by decide +kernel
theorem dX11_charterAt_6 : decode cX11_charterAt 6 = .ok (.getfield 291, 3) := by decide +kernel
theorem dX11_charterAt_9 : decode cX11_charterAt 9 = .ok (.if_icmp .ge 12, 3) := by decide +kernel
theorem dX11_charterAt_12 : decode cX11_charterAt 12 = .ok (.aload_n 0, 1) := by decide +kernel
theorem dX11_charterAt_13 : decode cX11_charterAt 13 = .ok (.getfield 35, 3) := by decide +kernel
theorem dX11_charterAt_16 : decode cX11_charterAt 16 = .ok (.iload_n 1, 1) := by decide +kernel
theorem dX11_charterAt_17 : decode cX11_charterAt 17 = .ok (.aaload, 1) := by decide +kernel
theorem dX11_charterAt_18 : decode cX11_charterAt 18 = .ok (.goto 4, 3) := by decide +kernel
theorem dX11_charterAt_21 : decode cX11_charterAt 21 = .ok (.aconst_null, 1) := by decide +kernel
theorem dX11_charterAt_22 : decode cX11_charterAt 22 = .ok (.areturn, 1) := by decide +kernel
theorem dX11_sheetAt_0 : decode cX11_sheetAt 0 = .ok (.iload_n 1, 1) := by decide +kernel
theorem dX11_sheetAt_1 : decode cX11_sheetAt 1 = .ok (.ifCond .lt 17, 3) := by decide +kernel
theorem dX11_sheetAt_4 : decode cX11_sheetAt 4 = .ok (.iload_n 1, 1) := by decide +kernel
theorem dX11_sheetAt_5 : decode cX11_sheetAt 5 = .ok (.iconst 4, 1) := by decide +kernel
theorem dX11_sheetAt_6 : decode cX11_sheetAt 6 = .ok (.if_icmp .ge 12, 3) := by decide +kernel
theorem dX11_sheetAt_9 : decode cX11_sheetAt 9 = .ok (.aload_n 0, 1) := by decide +kernel
theorem dX11_sheetAt_10 : decode cX11_sheetAt 10 = .ok (.getfield 41, 3) := by decide +kernel
theorem dX11_sheetAt_13 : decode cX11_sheetAt 13 = .ok (.iload_n 1, 1) := by decide +kernel
theorem dX11_sheetAt_14 : decode cX11_sheetAt 14 = .ok (.aaload, 1) := by decide +kernel
theorem dX11_sheetAt_15 : decode cX11_sheetAt 15 = .ok (.goto 4, 3) := by decide +kernel
theorem dX11_sheetAt_18 : decode cX11_sheetAt 18 = .ok (.aconst_null, 1) := by decide +kernel
theorem dX11_sheetAt_19 : decode cX11_sheetAt 19 = .ok (.areturn, 1) := by decide +kernel
theorem dX11_endsRoute_0 : decode cX11_endsRoute 0 = .ok (.aload_n 0, 1) := by decide +kernel
theorem dX11_endsRoute_1 : decode cX11_endsRoute 1 = .ok (.getfield 235, 3) := by decide +kernel
theorem dX11_endsRoute_4 : decode cX11_endsRoute 4 = .ok (.iconst 1, 1) := by decide +kernel
theorem dX11_endsRoute_5 : decode cX11_endsRoute 5 = .ok (.if_icmp .ge 5, 3) := by decide +kernel
theorem dX11_endsRoute_8 : decode cX11_endsRoute 8 = .ok (.iconst 0, 1) := by decide +kernel
theorem dX11_endsRoute_9 : decode cX11_endsRoute 9 = .ok (.ireturn, 1) := by decide +kernel
theorem dX11_endsRoute_10 : decode cX11_endsRoute 10 = .ok (.aload_n 0, 1) := by decide +kernel
theorem dX11_endsRoute_11 : decode cX11_endsRoute 11 = .ok (.getfield 45, 3) := by decide +kernel
theorem dX11_endsRoute_14 : decode cX11_endsRoute 14 = .ok (.aload_n 0, 1) := by decide +kernel
theorem dX11_endsRoute_15 : decode cX11_endsRoute 15 = .ok (.getfield 235, 3) := by decide +kernel
theorem dX11_endsRoute_18 : decode cX11_endsRoute 18 = .ok (.iconst 1, 1) := by decide +kernel
theorem dX11_endsRoute_19 : decode cX11_endsRoute 19 = .ok (.isub, 1) := by decide +kernel
theorem dX11_endsRoute_20 : decode cX11_endsRoute 20 = .ok (.aaload, 1) := by decide +kernel
theorem dX11_endsRoute_21 : decode cX11_endsRoute 21 = .ok (.astore_n 2, 1) := by decide +kernel
theorem dX11_endsRoute_22 : decode cX11_endsRoute 22 = .ok (.aload_n 2, 1) := by decide +kernel
theorem dX11_endsRoute_23 : decode cX11_endsRoute 23 = .ok (.ifnull 18, 3) := by decide +kernel
theorem dX11_endsRoute_26 : decode cX11_endsRoute 26 = .ok (.aload_n 2, 1) := by decide +kernel
theorem dX11_endsRoute_27 : decode cX11_endsRoute 27 = .ok (.getfield 159, 3) := by decide +kernel
theorem dX11_endsRoute_30 : decode cX11_endsRoute 30 = .ok (.aload_n 1, 1) := by decide +kernel
theorem dX11_endsRoute_31 : decode cX11_endsRoute 31 = .ok (.getfield 159, 3) := by decide +kernel
theorem dX11_endsRoute_34 : decode cX11_endsRoute 34 = .ok (.if_icmp .ne 7, 3) := by decide +kernel
theorem dX11_endsRoute_37 : decode cX11_endsRoute 37 = .ok (.iconst 1, 1) := by decide +kernel
theorem dX11_endsRoute_38 : decode cX11_endsRoute 38 = .ok (.goto 4, 3) := by decide +kernel
theorem dX11_endsRoute_41 : decode cX11_endsRoute 41 = .ok (.iconst 0, 1) := by decide +kernel
theorem dX11_endsRoute_42 : decode cX11_endsRoute 42 = .ok (.ireturn, 1) := by decide +kernel
theorem dX11_layItem_0 : decode cX11_layItem 0 = .ok (.aload_n 1, 1) := by decide +kernel
theorem dX11_layItem_1 : decode cX11_layItem 1 = .ok (.iload_n 2, 1) := by decide +kernel
theorem dX11_layItem_2 : decode cX11_layItem 2 = .ok (.invokevirtual 343, 3) := by decide +kernel
theorem dX11_layItem_5 : decode cX11_layItem 5 = .ok (.ifCond .ne 6, 3) := by decide +kernel
theorem dX11_layItem_8 : decode cX11_layItem 8 = .ok (.bipush (-12), 2) := by decide +kernel
theorem dX11_layItem_10 : decode cX11_layItem 10 = .ok (.ireturn, 1) := by decide +kernel
theorem dX11_layItem_11 : decode cX11_layItem 11 = .ok (.aload_n 1, 1) := by decide +kernel
theorem dX11_layItem_12 : decode cX11_layItem 12 = .ok (.iload_n 2, 1) := by decide +kernel
theorem dX11_layItem_13 : decode cX11_layItem 13 = .ok (.invokevirtual 350, 3) := by decide +kernel
theorem dX11_layItem_16 : decode cX11_layItem 16 = .ok (.istore_n 3, 1) := by decide +kernel
theorem dX11_layItem_17 : decode cX11_layItem 17 = .ok (.iload_n 3, 1) := by decide +kernel
theorem dX11_layItem_18 : decode cX11_layItem 18 = .ok (.invokestatic 245, 3) := by decide +kernel
theorem dX11_layItem_21 : decode cX11_layItem 21 = .ok (.ifCond .ne 6, 3) := by decide +kernel
theorem dX11_layItem_24 : decode cX11_layItem 24 = .ok (.bipush (-2), 2) := by decide +kernel
theorem dX11_layItem_26 : decode cX11_layItem 26 = .ok (.ireturn, 1) := by decide +kernel
theorem dX11_layItem_27 : decode cX11_layItem 27 = .ok (.aload_n 0, 1) := by decide +kernel
theorem dX11_layItem_28 : decode cX11_layItem 28 = .ok (.getfield 171, 3) := by decide +kernel
theorem dX11_layItem_31 : decode cX11_layItem 31 = .ok (.sipush 2000, 3) := by decide +kernel
theorem dX11_layItem_34 : decode cX11_layItem 34 = .ok (.if_icmp .lt 6, 3) := by decide +kernel
theorem dX11_layItem_37 : decode cX11_layItem 37 = .ok (.bipush (-4), 2) := by decide +kernel
theorem dX11_layItem_39 : decode cX11_layItem 39 = .ok (.ireturn, 1) := by decide +kernel
theorem dX11_layItem_40 : decode cX11_layItem 40 = .ok (.aload_n 0, 1) := by decide +kernel
theorem dX11_layItem_41 : decode cX11_layItem 41 = .ok (.iload_n 3, 1) := by decide +kernel
theorem dX11_layItem_42 : decode cX11_layItem 42 = .ok (.invokevirtual 248, 3) := by decide +kernel
theorem dX11_layItem_45 : decode cX11_layItem 45 = .ok (.iconst 0, 1) := by decide +kernel
theorem dX11_layItem_46 : decode cX11_layItem 46 = .ok (.ireturn, 1) := by decide +kernel
theorem dX11_meets_0 : decode cX11_meets 0 = .ok (.iconst 0, 1) := by decide +kernel
theorem dX11_meets_1 : decode cX11_meets 1 = .ok (.istore 4, 2) := by decide +kernel
theorem dX11_meets_3 : decode cX11_meets 3 = .ok (.iload 4, 2) := by decide +kernel
theorem dX11_meets_5 : decode cX11_meets 5 = .ok (.aload_n 0, 1) := by decide +kernel
theorem dX11_meets_6 : decode cX11_meets 6 = .ok (.getfield 291, 3) := by decide +kernel
theorem dX11_meets_9 : decode cX11_meets 9 = .ok (.if_icmp .ge 60, 3) := by decide +kernel
theorem dX11_meets_12 : decode cX11_meets 12 = .ok (.aload_n 0, 1) := by decide +kernel
theorem dX11_meets_13 : decode cX11_meets 13 = .ok (.iload 4, 2) := by decide +kernel
theorem dX11_meets_15 : decode cX11_meets 15 = .ok (.invokevirtual 297, 3) := by decide +kernel
theorem dX11_meets_18 : decode cX11_meets 18 = .ok (.astore 5, 2) := by decide +kernel
theorem dX11_meets_20 : decode cX11_meets 20 = .ok (.aload 5, 2) := by decide +kernel
theorem dX11_meets_22 : decode cX11_meets 22 = .ok (.ifnull 41, 3) := by decide +kernel
theorem dX11_meets_25 : decode cX11_meets 25 = .ok (.aload 5, 2) := by decide +kernel
theorem dX11_meets_27 : decode cX11_meets 27 = .ok (.aload_n 1, 1) := by decide +kernel
theorem dX11_meets_28 : decode cX11_meets 28 = .ok (.invokevirtual 333, 3) := by decide +kernel
theorem dX11_meets_31 : decode cX11_meets 31 = .ok (.ifCond .eq 32, 3) := by decide +kernel
theorem dX11_meets_34 : decode cX11_meets 34 = .ok (.aload 5, 2) := by decide +kernel
theorem dX11_meets_36 : decode cX11_meets 36 = .ok (.getfield 304, 3) := by decide +kernel
theorem dX11_meets_39 : decode cX11_meets 39 = .ok (.iconst 2, 1) := by decide +kernel
theorem dX11_meets_40 : decode cX11_meets 40 = .ok (.if_icmp .eq 23, 3) := by decide +kernel
theorem dX11_meets_43 : decode cX11_meets 43 = .ok (.aload 5, 2) := by decide +kernel
theorem dX11_meets_45 : decode cX11_meets 45 = .ok (.getfield 312, 3) := by decide +kernel
theorem dX11_meets_48 : decode cX11_meets 48 = .ok (.iload_n 3, 1) := by decide +kernel
theorem dX11_meets_49 : decode cX11_meets 49 = .ok (.if_icmp .gt 14, 3) := by decide +kernel
theorem dX11_meets_52 : decode cX11_meets 52 = .ok (.iload_n 2, 1) := by decide +kernel
theorem dX11_meets_53 : decode cX11_meets 53 = .ok (.aload 5, 2) := by decide +kernel
theorem dX11_meets_55 : decode cX11_meets 55 = .ok (.getfield 315, 3) := by decide +kernel
theorem dX11_meets_58 : decode cX11_meets 58 = .ok (.if_icmp .gt 5, 3) := by decide +kernel
theorem dX11_meets_61 : decode cX11_meets 61 = .ok (.iconst 1, 1) := by decide +kernel
theorem dX11_meets_62 : decode cX11_meets 62 = .ok (.ireturn, 1) := by decide +kernel
theorem dX11_meets_63 : decode cX11_meets 63 = .ok (.iinc 4 1, 3) := by decide +kernel
theorem dX11_meets_66 : decode cX11_meets 66 = .ok (.goto (-63), 3) := by decide +kernel
theorem dX11_meets_69 : decode cX11_meets 69 = .ok (.iconst 0, 1) := by decide +kernel
theorem dX11_meets_70 : decode cX11_meets 70 = .ok (.ireturn, 1) := by decide +kernel
theorem dX11_hoursOf_0 : decode cX11_hoursOf 0 = .ok (.aload_n 0, 1) := by decide +kernel
theorem dX11_hoursOf_1 : decode cX11_hoursOf 1 = .ok (.getfield 86, 3) := by decide +kernel
theorem dX11_hoursOf_4 : decode cX11_hoursOf 4 = .ok (.aload_n 1, 1) := by decide +kernel
theorem dX11_hoursOf_5 : decode cX11_hoursOf 5 = .ok (.aload_n 1, 1) := by decide +kernel
theorem dX11_hoursOf_6 : decode cX11_hoursOf 6 = .ok (.getfield 315, 3) := by decide +kernel
theorem dX11_hoursOf_9 : decode cX11_hoursOf 9 = .ok (.invokevirtual 324, 3) := by decide +kernel
theorem dX11_hoursOf_12 : decode cX11_hoursOf 12 = .ok (.pop, 1) := by decide +kernel
theorem dX11_hoursOf_13 : decode cX11_hoursOf 13 = .ok (.iload_n 2, 1) := by decide +kernel
theorem dX11_hoursOf_14 : decode cX11_hoursOf 14 = .ok (.lookupswitch 42 #[(0, 26), (1, 34)], 26) := by decide +kernel
theorem dX11_hoursOf_40 : decode cX11_hoursOf 40 = .ok (.aload_n 0, 1) := by decide +kernel
theorem dX11_hoursOf_41 : decode cX11_hoursOf 41 = .ok (.getfield 86, 3) := by decide +kernel
theorem dX11_hoursOf_44 : decode cX11_hoursOf 44 = .ok (.getfield 353, 3) := by decide +kernel
theorem dX11_hoursOf_47 : decode cX11_hoursOf 47 = .ok (.ireturn, 1) := by decide +kernel
theorem dX11_hoursOf_48 : decode cX11_hoursOf 48 = .ok (.aload_n 0, 1) := by decide +kernel
theorem dX11_hoursOf_49 : decode cX11_hoursOf 49 = .ok (.getfield 86, 3) := by decide +kernel
theorem dX11_hoursOf_52 : decode cX11_hoursOf 52 = .ok (.getfield 356, 3) := by decide +kernel
theorem dX11_hoursOf_55 : decode cX11_hoursOf 55 = .ok (.ireturn, 1) := by decide +kernel
theorem dX11_hoursOf_56 : decode cX11_hoursOf 56 = .ok (.aload_n 0, 1) := by decide +kernel
theorem dX11_hoursOf_57 : decode cX11_hoursOf 57 = .ok (.getfield 86, 3) := by decide +kernel
theorem dX11_hoursOf_60 : decode cX11_hoursOf 60 = .ok (.getfield 359, 3) := by decide +kernel
theorem dX11_hoursOf_63 : decode cX11_hoursOf 63 = .ok (.ireturn, 1) := by decide +kernel
theorem dX12_init_0 : decode cX12_init 0 = .ok (.aload_n 0, 1) := by decide +kernel
theorem dX12_init_1 : decode cX12_init 1 = .ok (.invokespecial 1, 3) := by decide +kernel
theorem dX12_init_4 : decode cX12_init 4 = .ok (.aload_n 0, 1) := by decide +kernel
theorem dX12_init_5 : decode cX12_init 5 = .ok (.bipush 8, 2) := by decide +kernel
theorem dX12_init_7 : decode cX12_init 7 = .ok (.newarray .int, 2) := by decide +kernel
theorem dX12_init_9 : decode cX12_init 9 = .ok (.putfield 7, 3) := by decide +kernel
theorem dX12_init_12 : decode cX12_init 12 = .ok (.aload_n 0, 1) := by decide +kernel
theorem dX12_init_13 : decode cX12_init 13 = .ok (.bipush 8, 2) := by decide +kernel
theorem dX12_init_15 : decode cX12_init 15 = .ok (.newarray .int, 2) := by decide +kernel
theorem dX12_init_17 : decode cX12_init 17 = .ok (.putfield 13, 3) := by decide +kernel
theorem dX12_init_20 : decode cX12_init 20 = .ok (.aload_n 0, 1) := by decide +kernel
theorem dX12_init_21 : decode cX12_init 21 = .ok (.bipush 64, 2) := by decide +kernel
theorem dX12_init_23 : decode cX12_init 23 = .ok (.newarray .int, 2) := by decide +kernel
theorem dX12_init_25 : decode cX12_init 25 = .ok (.putfield 16, 3) := by decide +kernel
theorem dX12_init_28 : decode cX12_init 28 = .ok (.aload_n 0, 1) := by decide +kernel
theorem dX12_init_29 : decode cX12_init 29 = .ok (.iconst 5, 1) := by decide +kernel
theorem dX12_init_30 : decode cX12_init 30 = .ok (.newarray .int, 2) := by decide +kernel
theorem dX12_init_32 : decode cX12_init 32 = .ok (.putfield 19, 3) := by decide +kernel
theorem dX12_init_35 : decode cX12_init 35 = .ok (.aload_n 0, 1) := by decide +kernel
theorem dX12_init_36 : decode cX12_init 36 = .ok (.iconst 5, 1) := by decide +kernel
theorem dX12_init_37 : decode cX12_init 37 = .ok (.newarray .int, 2) := by decide +kernel
theorem dX12_init_39 : decode cX12_init 39 = .ok (.putfield 22, 3) := by decide +kernel
theorem dX12_init_42 : decode cX12_init 42 = .ok (.aload_n 0, 1) := by decide +kernel
theorem dX12_init_43 : decode cX12_init 43 = .ok (.iconst 5, 1) := by decide +kernel
theorem dX12_init_44 : decode cX12_init 44 = .ok (.newarray .int, 2) := by decide +kernel
theorem dX12_init_46 : decode cX12_init 46 = .ok (.putfield 25, 3) := by decide +kernel
theorem dX12_init_49 : decode cX12_init 49 = .ok (.aload_n 0, 1) := by decide +kernel
theorem dX12_init_50 : decode cX12_init 50 = .ok (.iconst 5, 1) := by decide +kernel
theorem dX12_init_51 : decode cX12_init 51 = .ok (.newarray .int, 2) := by decide +kernel
theorem dX12_init_53 : decode cX12_init 53 = .ok (.putfield 28, 3) := by decide +kernel
theorem dX12_init_56 : decode cX12_init 56 = .ok (.aload_n 0, 1) := by decide +kernel
theorem dX12_init_57 : decode cX12_init 57 = .ok (.iconst 5, 1) := by decide +kernel
theorem dX12_init_58 : decode cX12_init 58 = .ok (.newarray .int, 2) := by decide +kernel
theorem dX12_init_60 : decode cX12_init 60 = .ok (.putfield 31, 3) := by decide +kernel
theorem dX12_init_63 : decode cX12_init 63 = .ok (.aload_n 0, 1) := by decide +kernel
theorem dX12_init_64 : decode cX12_init 64 = .ok (.iconst 5, 1) := by decide +kernel
theorem dX12_init_65 : decode cX12_init 65 = .ok (.newarray .int, 2) := by decide +kernel
theorem dX12_init_67 : decode cX12_init 67 = .ok (.putfield 34, 3) := by decide +kernel
theorem dX12_init_70 : decode cX12_init 70 = .ok (.aload_n 0, 1) := by decide +kernel
theorem dX12_init_71 : decode cX12_init 71 = .ok (.iconst 5, 1) := by decide +kernel
theorem dX12_init_72 : decode cX12_init 72 = .ok (.newarray .int, 2) := by decide +kernel
theorem dX12_init_74 : decode cX12_init 74 = .ok (.putfield 37, 3) := by decide +kernel
theorem dX12_init_77 : decode cX12_init 77 = .ok (.aload_n 0, 1) := by decide +kernel
theorem dX12_init_78 : decode cX12_init 78 = .ok (.sipush 10000, 3) := by decide +kernel
theorem dX12_init_81 : decode cX12_init 81 = .ok (.newarray .byte, 2) := by decide +kernel
theorem dX12_init_83 : decode cX12_init 83 = .ok (.putfield 40, 3) := by decide +kernel
theorem dX12_init_86 : decode cX12_init 86 = .ok (.aload_n 0, 1) := by decide +kernel
theorem dX12_init_87 : decode cX12_init 87 = .ok (.bipush 10, 2) := by decide +kernel
theorem dX12_init_89 : decode cX12_init 89 = .ok (.newarray .int, 2) := by decide +kernel
theorem dX12_init_91 : decode cX12_init 91 = .ok (.putfield 44, 3) := by decide +kernel
theorem dX12_init_94 : decode cX12_init 94 = .ok (.aload_n 0, 1) := by decide +kernel
theorem dX12_init_95 : decode cX12_init 95 = .ok (.bipush 10, 2) := by decide +kernel
theorem dX12_init_97 : decode cX12_init 97 = .ok (.newarray .int, 2) := by decide +kernel
theorem dX12_init_99 : decode cX12_init 99 = .ok (.putfield 47, 3) := by decide +kernel
theorem dX12_init_102 : decode cX12_init 102 = .ok (.aload_n 0, 1) := by decide +kernel
theorem dX12_init_103 : decode cX12_init 103 = .ok (.bipush 10, 2) := by decide +kernel
theorem dX12_init_105 : decode cX12_init 105 = .ok (.newarray .int, 2) := by decide +kernel
theorem dX12_init_107 : decode cX12_init 107 = .ok (.putfield 50, 3) := by decide +kernel
theorem dX12_init_110 : decode cX12_init 110 = .ok (.aload_n 0, 1) := by decide +kernel
theorem dX12_init_111 : decode cX12_init 111 = .ok (.bipush 10, 2) := by decide +kernel
theorem dX12_init_113 : decode cX12_init 113 = .ok (.newarray .int, 2) := by decide +kernel
theorem dX12_init_115 : decode cX12_init 115 = .ok (.putfield 53, 3) := by decide +kernel
theorem dX12_init_118 : decode cX12_init 118 = .ok (.aload_n 0, 1) := by decide +kernel
theorem dX12_init_119 : decode cX12_init 119 = .ok (.bipush 10, 2) := by decide +kernel
theorem dX12_init_121 : decode cX12_init 121 = .ok (.newarray .int, 2) := by decide +kernel
theorem dX12_init_123 : decode cX12_init 123 = .ok (.putfield 56, 3) := by decide +kernel
theorem dX12_init_126 : decode cX12_init 126 = .ok (.aload_n 0, 1) := by decide +kernel
theorem dX12_init_127 : decode cX12_init 127 = .ok (.bipush 10, 2) := by decide +kernel
theorem dX12_init_129 : decode cX12_init 129 = .ok (.newarray .int, 2) := by decide +kernel
theorem dX12_init_131 : decode cX12_init 131 = .ok (.putfield 59, 3) := by decide +kernel
theorem dX12_init_134 : decode cX12_init 134 = .ok (.aload_n 0, 1) := by decide +kernel
theorem dX12_init_135 : decode cX12_init 135 = .ok (.bipush 10, 2) := by decide +kernel
theorem dX12_init_137 : decode cX12_init 137 = .ok (.newarray .boolean, 2) := by decide +kernel
theorem dX12_init_139 : decode cX12_init 139 = .ok (.putfield 62, 3) := by decide +kernel
theorem dX12_init_142 : decode cX12_init 142 = .ok (.aload_n 0, 1) := by decide +kernel
theorem dX12_init_143 : decode cX12_init 143 = .ok (.bipush 6, 2) := by decide +kernel
theorem dX12_init_145 : decode cX12_init 145 = .ok (.newarray .int, 2) := by decide +kernel
theorem dX12_init_147 : decode cX12_init 147 = .ok (.putfield 66, 3) := by decide +kernel
theorem dX12_init_150 : decode cX12_init 150 = .ok (.aload_n 0, 1) := by decide +kernel
theorem dX12_init_151 : decode cX12_init 151 = .ok (.sipush 160, 3) := by decide +kernel
theorem dX12_init_154 : decode cX12_init 154 = .ok (.newarray .int, 2) := by decide +kernel
theorem dX12_init_156 : decode cX12_init 156 = .ok (.putfield 69, 3) := by decide +kernel
theorem dX12_init_159 : decode cX12_init 159 = .ok (.aload_n 0, 1) := by decide +kernel
theorem dX12_init_160 : decode cX12_init 160 = .ok (.sipush 1120, 3) := by decide +kernel
theorem dX12_init_163 : decode cX12_init 163 = .ok (.newarray .int, 2) := by decide +kernel
theorem dX12_init_165 : decode cX12_init 165 = .ok (.putfield 72, 3) := by decide +kernel
theorem dX12_init_168 : decode cX12_init 168 = .ok (.aload_n 0, 1) := by decide +kernel
theorem dX12_init_169 : decode cX12_init 169 = .ok (.sipush 1120, 3) := by decide +kernel
theorem dX12_init_172 : decode cX12_init 172 = .ok (.newarray .int, 2) := by decide +kernel
theorem dX12_init_174 : decode cX12_init 174 = .ok (.putfield 75, 3) := by decide +kernel
theorem dX12_init_177 : decode cX12_init 177 = .ok (.aload_n 0, 1) := by decide +kernel
theorem dX12_init_178 : decode cX12_init 178 = .ok (.bipush 21, 2) := by decide +kernel
theorem dX12_init_180 : decode cX12_init 180 = .ok (.newarray .int, 2) := by decide +kernel
theorem dX12_init_182 : decode cX12_init 182 = .ok (.putfield 78, 3) := by decide +kernel
theorem dX12_init_185 : decode cX12_init 185 = .ok (.aload_n 0, 1) := by decide +kernel
theorem dX12_init_186 : decode cX12_init 186 = .ok (.bipush 12, 2) := by decide +kernel
theorem dX12_init_188 : decode cX12_init 188 = .ok (.newarray .int, 2) := by decide +kernel
theorem dX12_init_190 : decode cX12_init 190 = .ok (.putfield 81, 3) := by decide +kernel
theorem dX12_init_193 : decode cX12_init 193 = .ok (.aload_n 0, 1) := by decide +kernel
theorem dX12_init_194 : decode cX12_init 194 = .ok (.bipush 12, 2) := by decide +kernel
theorem dX12_init_196 : decode cX12_init 196 = .ok (.newarray .int, 2) := by decide +kernel
theorem dX12_init_198 : decode cX12_init 198 = .ok (.putfield 84, 3) := by decide +kernel
theorem dX12_init_201 : decode cX12_init 201 = .ok (.aload_n 0, 1) := by decide +kernel
theorem dX12_init_202 : decode cX12_init 202 = .ok (.bipush 12, 2) := by decide +kernel
theorem dX12_init_204 : decode cX12_init 204 = .ok (.newarray .int, 2) := by decide +kernel
theorem dX12_init_206 : decode cX12_init 206 = .ok (.putfield 87, 3) := by decide +kernel
theorem dX12_init_209 : decode cX12_init 209 = .ok (.aload_n 0, 1) := by decide +kernel
theorem dX12_init_210 : decode cX12_init 210 = .ok (.bipush 12, 2) := by decide +kernel
theorem dX12_init_212 : decode cX12_init 212 = .ok (.newarray .int, 2) := by decide +kernel
theorem dX12_init_214 : decode cX12_init 214 = .ok (.putfield 90, 3) := by decide +kernel
theorem dX12_init_217 : decode cX12_init 217 = .ok (.aload_n 0, 1) := by decide +kernel
theorem dX12_init_218 : decode cX12_init 218 = .ok (.bipush 12, 2) := by decide +kernel
theorem dX12_init_220 : decode cX12_init 220 = .ok (.newarray .int, 2) := by decide +kernel
theorem dX12_init_222 : decode cX12_init 222 = .ok (.putfield 93, 3) := by decide +kernel
theorem dX12_init_225 : decode cX12_init 225 = .ok (.aload_n 0, 1) := by decide +kernel
theorem dX12_init_226 : decode cX12_init 226 = .ok (.bipush 12, 2) := by decide +kernel
theorem dX12_init_228 : decode cX12_init 228 = .ok (.newarray .int, 2) := by decide +kernel
theorem dX12_init_230 : decode cX12_init 230 = .ok (.putfield 96, 3) := by decide +kernel
theorem dX12_init_233 : decode cX12_init 233 = .ok (.aload_n 0, 1) := by decide +kernel
theorem dX12_init_234 : decode cX12_init 234 = .ok (.bipush 12, 2) := by decide +kernel
theorem dX12_init_236 : decode cX12_init 236 = .ok (.newarray .int, 2) := by decide +kernel
theorem dX12_init_238 : decode cX12_init 238 = .ok (.putfield 99, 3) := by decide +kernel
theorem dX12_init_241 : decode cX12_init 241 = .ok (.aload_n 0, 1) := by decide +kernel
theorem dX12_init_242 : decode cX12_init 242 = .ok (.bipush 12, 2) := by decide +kernel
theorem dX12_init_244 : decode cX12_init 244 = .ok (.newarray .int, 2) := by decide +kernel
theorem dX12_init_246 : decode cX12_init 246 = .ok (.putfield 102, 3) := by decide +kernel
theorem dX12_init_249 : decode cX12_init 249 = .ok (.aload_n 0, 1) := by decide +kernel
theorem dX12_init_250 : decode cX12_init 250 = .ok (.bipush 12, 2) := by decide +kernel
theorem dX12_init_252 : decode cX12_init 252 = .ok (.newarray .int, 2) := by decide +kernel
theorem dX12_init_254 : decode cX12_init 254 = .ok (.putfield 105, 3) := by decide +kernel
theorem dX12_init_257 : decode cX12_init 257 = .ok (.aload_n 0, 1) := by decide +kernel
theorem dX12_init_258 : decode cX12_init 258 = .ok (.iconst 4, 1) := by decide +kernel
theorem dX12_init_259 : decode cX12_init 259 = .ok (.newarray .int, 2) := by decide +kernel
theorem dX12_init_261 : decode cX12_init 261 = .ok (.putfield 108, 3) := by decide +kernel
theorem dX12_init_264 : decode cX12_init 264 = .ok (.aload_n 0, 1) := by decide +kernel
theorem dX12_init_265 : decode cX12_init 265 = .ok (.iconst 4, 1) := by decide +kernel
theorem dX12_init_266 : decode cX12_init 266 = .ok (.newarray .int, 2) := by decide +kernel
theorem dX12_init_268 : decode cX12_init 268 = .ok (.putfield 111, 3) := by decide +kernel
theorem dX12_init_271 : decode cX12_init 271 = .ok (.aload_n 0, 1) := by decide +kernel
theorem dX12_init_272 : decode cX12_init 272 = .ok (.sipush 160, 3) := by decide +kernel
theorem dX12_init_275 : decode cX12_init 275 = .ok (.newarray .int, 2) := by decide +kernel
theorem dX12_init_277 : decode cX12_init 277 = .ok (.putfield 114, 3) := by decide +kernel
theorem dX12_init_280 : decode cX12_init 280 = .ok (.aload_n 0, 1) := by decide +kernel
theorem dX12_init_281 : decode cX12_init 281 = .ok (.bipush 32, 2) := by decide +kernel
theorem dX12_init_283 : decode cX12_init 283 = .ok (.newarray .int, 2) := by decide +kernel
theorem dX12_init_285 : decode cX12_init 285 = .ok (.dup, 1) := by decide +kernel
theorem dX12_init_286 : decode cX12_init 286 = .ok (.iconst 0, 1) := by decide +kernel
theorem dX12_init_287 : decode cX12_init 287 = .ok (.bipush 108, 2) := by decide +kernel
theorem dX12_init_289 : decode cX12_init 289 = .ok (.iastore, 1) := by decide +kernel
theorem dX12_init_290 : decode cX12_init 290 = .ok (.dup, 1) := by decide +kernel
theorem dX12_init_291 : decode cX12_init 291 = .ok (.iconst 1, 1) := by decide +kernel
theorem dX12_init_292 : decode cX12_init 292 = .ok (.bipush 97, 2) := by decide +kernel
theorem dX12_init_294 : decode cX12_init 294 = .ok (.iastore, 1) := by decide +kernel
theorem dX12_init_295 : decode cX12_init 295 = .ok (.dup, 1) := by decide +kernel
theorem dX12_init_296 : decode cX12_init 296 = .ok (.iconst 2, 1) := by decide +kernel
theorem dX12_init_297 : decode cX12_init 297 = .ok (.bipush 121, 2) := by decide +kernel
theorem dX12_init_299 : decode cX12_init 299 = .ok (.iastore, 1) := by decide +kernel
theorem dX12_init_300 : decode cX12_init 300 = .ok (.dup, 1) := by decide +kernel
theorem dX12_init_301 : decode cX12_init 301 = .ok (.iconst 3, 1) := by decide +kernel
theorem dX12_init_302 : decode cX12_init 302 = .ok (.bipush 32, 2) := by decide +kernel
theorem dX12_init_304 : decode cX12_init 304 = .ok (.iastore, 1) := by decide +kernel
theorem dX12_init_305 : decode cX12_init 305 = .ok (.dup, 1) := by decide +kernel
theorem dX12_init_306 : decode cX12_init 306 = .ok (.iconst 4, 1) := by decide +kernel
theorem dX12_init_307 : decode cX12_init 307 = .ok (.bipush 115, 2) := by decide +kernel
theorem dX12_init_309 : decode cX12_init 309 = .ok (.iastore, 1) := by decide +kernel
theorem dX12_init_310 : decode cX12_init 310 = .ok (.dup, 1) := by decide +kernel
theorem dX12_init_311 : decode cX12_init 311 = .ok (.iconst 5, 1) := by decide +kernel
theorem dX12_init_312 : decode cX12_init 312 = .ok (.bipush 111, 2) := by decide +kernel
theorem dX12_init_314 : decode cX12_init 314 = .ok (.iastore, 1) := by decide +kernel
theorem dX12_init_315 : decode cX12_init 315 = .ok (.dup, 1) := by decide +kernel
theorem dX12_init_316 : decode cX12_init 316 = .ok (.bipush 6, 2) := by decide +kernel
theorem dX12_init_318 : decode cX12_init 318 = .ok (.bipush 114, 2) := by decide +kernel
theorem dX12_init_320 : decode cX12_init 320 = .ok (.iastore, 1) := by decide +kernel
theorem dX12_init_321 : decode cX12_init 321 = .ok (.dup, 1) := by decide +kernel
theorem dX12_init_322 : decode cX12_init 322 = .ok (.bipush 7, 2) := by decide +kernel
theorem dX12_init_324 : decode cX12_init 324 = .ok (.bipush 116, 2) := by decide +kernel
theorem dX12_init_326 : decode cX12_init 326 = .ok (.iastore, 1) := by decide +kernel
theorem dX12_init_327 : decode cX12_init 327 = .ok (.dup, 1) := by decide +kernel
theorem dX12_init_328 : decode cX12_init 328 = .ok (.bipush 8, 2) := by decide +kernel
theorem dX12_init_330 : decode cX12_init 330 = .ok (.bipush 61, 2) := by decide +kernel
theorem dX12_init_332 : decode cX12_init 332 = .ok (.iastore, 1) := by decide +kernel
theorem dX12_init_333 : decode cX12_init 333 = .ok (.dup, 1) := by decide +kernel
theorem dX12_init_334 : decode cX12_init 334 = .ok (.bipush 9, 2) := by decide +kernel
theorem dX12_init_336 : decode cX12_init 336 = .ok (.bipush 49, 2) := by decide +kernel
theorem dX12_init_338 : decode cX12_init 338 = .ok (.iastore, 1) := by decide +kernel
theorem dX12_init_339 : decode cX12_init 339 = .ok (.dup, 1) := by decide +kernel
theorem dX12_init_340 : decode cX12_init 340 = .ok (.bipush 10, 2) := by decide +kernel
theorem dX12_init_342 : decode cX12_init 342 = .ok (.bipush 32, 2) := by decide +kernel
theorem dX12_init_344 : decode cX12_init 344 = .ok (.iastore, 1) := by decide +kernel
theorem dX12_init_345 : decode cX12_init 345 = .ok (.dup, 1) := by decide +kernel
theorem dX12_init_346 : decode cX12_init 346 = .ok (.bipush 11, 2) := by decide +kernel
theorem dX12_init_348 : decode cX12_init 348 = .ok (.bipush 111, 2) := by decide +kernel
theorem dX12_init_350 : decode cX12_init 350 = .ok (.iastore, 1) := by decide +kernel
theorem dX12_init_351 : decode cX12_init 351 = .ok (.dup, 1) := by decide +kernel
theorem dX12_init_352 : decode cX12_init 352 = .ok (.bipush 12, 2) := by decide +kernel
theorem dX12_init_354 : decode cX12_init 354 = .ok (.bipush 114, 2) := by decide +kernel
theorem dX12_init_356 : decode cX12_init 356 = .ok (.iastore, 1) := by decide +kernel
theorem dX12_init_357 : decode cX12_init 357 = .ok (.dup, 1) := by decide +kernel
theorem dX12_init_358 : decode cX12_init 358 = .ok (.bipush 13, 2) := by decide +kernel
theorem dX12_init_360 : decode cX12_init 360 = .ok (.bipush 32, 2) := by decide +kernel
theorem dX12_init_362 : decode cX12_init 362 = .ok (.iastore, 1) := by decide +kernel
theorem dX12_init_363 : decode cX12_init 363 = .ok (.dup, 1) := by decide +kernel
theorem dX12_init_364 : decode cX12_init 364 = .ok (.bipush 14, 2) := by decide +kernel
theorem dX12_init_366 : decode cX12_init 366 = .ok (.bipush 115, 2) := by decide +kernel
theorem dX12_init_368 : decode cX12_init 368 = .ok (.iastore, 1) := by decide +kernel
theorem dX12_init_369 : decode cX12_init 369 = .ok (.dup, 1) := by decide +kernel
theorem dX12_init_370 : decode cX12_init 370 = .ok (.bipush 15, 2) := by decide +kernel
theorem dX12_init_372 : decode cX12_init 372 = .ok (.bipush 111, 2) := by decide +kernel
theorem dX12_init_374 : decode cX12_init 374 = .ok (.iastore, 1) := by decide +kernel
theorem dX12_init_375 : decode cX12_init 375 = .ok (.dup, 1) := by decide +kernel
theorem dX12_init_376 : decode cX12_init 376 = .ok (.bipush 16, 2) := by decide +kernel
theorem dX12_init_378 : decode cX12_init 378 = .ok (.bipush 114, 2) := by decide +kernel
theorem dX12_init_380 : decode cX12_init 380 = .ok (.iastore, 1) := by decide +kernel
theorem dX12_init_381 : decode cX12_init 381 = .ok (.dup, 1) := by decide +kernel
theorem dX12_init_382 : decode cX12_init 382 = .ok (.bipush 17, 2) := by decide +kernel
theorem dX12_init_384 : decode cX12_init 384 = .ok (.bipush 116, 2) := by decide +kernel
theorem dX12_init_386 : decode cX12_init 386 = .ok (.iastore, 1) := by decide +kernel
theorem dX12_init_387 : decode cX12_init 387 = .ok (.dup, 1) := by decide +kernel
theorem dX12_init_388 : decode cX12_init 388 = .ok (.bipush 18, 2) := by decide +kernel
theorem dX12_init_390 : decode cX12_init 390 = .ok (.bipush 61, 2) := by decide +kernel
theorem dX12_init_392 : decode cX12_init 392 = .ok (.iastore, 1) := by decide +kernel
theorem dX12_init_393 : decode cX12_init 393 = .ok (.dup, 1) := by decide +kernel
theorem dX12_init_394 : decode cX12_init 394 = .ok (.bipush 19, 2) := by decide +kernel
theorem dX12_init_396 : decode cX12_init 396 = .ok (.bipush 50, 2) := by decide +kernel
theorem dX12_init_398 : decode cX12_init 398 = .ok (.iastore, 1) := by decide +kernel
theorem dX12_init_399 : decode cX12_init 399 = .ok (.dup, 1) := by decide +kernel
theorem dX12_init_400 : decode cX12_init 400 = .ok (.bipush 20, 2) := by decide +kernel
theorem dX12_init_402 : decode cX12_init 402 = .ok (.bipush 59, 2) := by decide +kernel
theorem dX12_init_404 : decode cX12_init 404 = .ok (.iastore, 1) := by decide +kernel
theorem dX12_init_405 : decode cX12_init 405 = .ok (.dup, 1) := by decide +kernel
theorem dX12_init_406 : decode cX12_init 406 = .ok (.bipush 21, 2) := by decide +kernel
theorem dX12_init_408 : decode cX12_init 408 = .ok (.bipush 111, 2) := by decide +kernel
theorem dX12_init_410 : decode cX12_init 410 = .ok (.iastore, 1) := by decide +kernel
theorem dX12_init_411 : decode cX12_init 411 = .ok (.dup, 1) := by decide +kernel
theorem dX12_init_412 : decode cX12_init 412 = .ok (.bipush 22, 2) := by decide +kernel
theorem dX12_init_414 : decode cX12_init 414 = .ok (.bipush 102, 2) := by decide +kernel
theorem dX12_init_416 : decode cX12_init 416 = .ok (.iastore, 1) := by decide +kernel
theorem dX12_init_417 : decode cX12_init 417 = .ok (.dup, 1) := by decide +kernel
theorem dX12_init_418 : decode cX12_init 418 = .ok (.bipush 23, 2) := by decide +kernel
theorem dX12_init_420 : decode cX12_init 420 = .ok (.bipush 102, 2) := by decide +kernel
theorem dX12_init_422 : decode cX12_init 422 = .ok (.iastore, 1) := by decide +kernel
theorem dX12_init_423 : decode cX12_init 423 = .ok (.dup, 1) := by decide +kernel
theorem dX12_init_424 : decode cX12_init 424 = .ok (.bipush 24, 2) := by decide +kernel
theorem dX12_init_426 : decode cX12_init 426 = .ok (.bipush 32, 2) := by decide +kernel
theorem dX12_init_428 : decode cX12_init 428 = .ok (.iastore, 1) := by decide +kernel
theorem dX12_init_429 : decode cX12_init 429 = .ok (.dup, 1) := by decide +kernel
theorem dX12_init_430 : decode cX12_init 430 = .ok (.bipush 25, 2) := by decide +kernel
theorem dX12_init_432 : decode cX12_init 432 = .ok (.bipush 115, 2) := by decide +kernel
theorem dX12_init_434 : decode cX12_init 434 = .ok (.iastore, 1) := by decide +kernel
theorem dX12_init_435 : decode cX12_init 435 = .ok (.dup, 1) := by decide +kernel
theorem dX12_init_436 : decode cX12_init 436 = .ok (.bipush 26, 2) := by decide +kernel
theorem dX12_init_438 : decode cX12_init 438 = .ok (.bipush 111, 2) := by decide +kernel
theorem dX12_init_440 : decode cX12_init 440 = .ok (.iastore, 1) := by decide +kernel
theorem dX12_init_441 : decode cX12_init 441 = .ok (.dup, 1) := by decide +kernel
theorem dX12_init_442 : decode cX12_init 442 = .ok (.bipush 27, 2) := by decide +kernel
theorem dX12_init_444 : decode cX12_init 444 = .ok (.bipush 114, 2) := by decide +kernel
theorem dX12_init_446 : decode cX12_init 446 = .ok (.iastore, 1) := by decide +kernel
theorem dX12_init_447 : decode cX12_init 447 = .ok (.dup, 1) := by decide +kernel
theorem dX12_init_448 : decode cX12_init 448 = .ok (.bipush 28, 2) := by decide +kernel
theorem dX12_init_450 : decode cX12_init 450 = .ok (.bipush 116, 2) := by decide +kernel
theorem dX12_init_452 : decode cX12_init 452 = .ok (.iastore, 1) := by decide +kernel
theorem dX12_init_453 : decode cX12_init 453 = .ok (.dup, 1) := by decide +kernel
theorem dX12_init_454 : decode cX12_init 454 = .ok (.bipush 29, 2) := by decide +kernel
theorem dX12_init_456 : decode cX12_init 456 = .ok (.bipush 61, 2) := by decide +kernel
theorem dX12_init_458 : decode cX12_init 458 = .ok (.iastore, 1) := by decide +kernel
theorem dX12_init_459 : decode cX12_init 459 = .ok (.dup, 1) := by decide +kernel
theorem dX12_init_460 : decode cX12_init 460 = .ok (.bipush 30, 2) := by decide +kernel
theorem dX12_init_462 : decode cX12_init 462 = .ok (.bipush 52, 2) := by decide +kernel
theorem dX12_init_464 : decode cX12_init 464 = .ok (.iastore, 1) := by decide +kernel
theorem dX12_init_465 : decode cX12_init 465 = .ok (.dup, 1) := by decide +kernel
theorem dX12_init_466 : decode cX12_init 466 = .ok (.bipush 31, 2) := by decide +kernel
theorem dX12_init_468 : decode cX12_init 468 = .ok (.bipush 59, 2) := by decide +kernel
theorem dX12_init_470 : decode cX12_init 470 = .ok (.iastore, 1) := by decide +kernel
theorem dX12_init_471 : decode cX12_init 471 = .ok (.putfield 117, 3) := by decide +kernel
theorem dX12_init_474 : decode cX12_init 474 = .ok (.aload_n 0, 1) := by decide +kernel
theorem dX12_init_475 : decode cX12_init 475 = .ok (.iconst 3, 1) := by decide +kernel
theorem dX12_init_476 : decode cX12_init 476 = .ok (.newarray .int, 2) := by decide +kernel
theorem dX12_init_478 : decode cX12_init 478 = .ok (.putfield 120, 3) := by decide +kernel
theorem dX12_init_481 : decode cX12_init 481 = .ok (.aload_n 0, 1) := by decide +kernel
theorem dX12_init_482 : decode cX12_init 482 = .ok (.iconst 3, 1) := by decide +kernel
theorem dX12_init_483 : decode cX12_init 483 = .ok (.newarray .int, 2) := by decide +kernel
theorem dX12_init_485 : decode cX12_init 485 = .ok (.putfield 123, 3) := by decide +kernel
theorem dX12_init_488 : decode cX12_init 488 = .ok (.aload_n 0, 1) := by decide +kernel
theorem dX12_init_489 : decode cX12_init 489 = .ok (.sipush 6000, 3) := by decide +kernel
theorem dX12_init_492 : decode cX12_init 492 = .ok (.newarray .int, 2) := by decide +kernel
theorem dX12_init_494 : decode cX12_init 494 = .ok (.putfield 126, 3) := by decide +kernel
theorem dX12_init_497 : decode cX12_init 497 = .ok (.aload_n 0, 1) := by decide +kernel
theorem dX12_init_498 : decode cX12_init 498 = .ok (.bipush 48, 2) := by decide +kernel
theorem dX12_init_500 : decode cX12_init 500 = .ok (.newarray .int, 2) := by decide +kernel
theorem dX12_init_502 : decode cX12_init 502 = .ok (.dup, 1) := by decide +kernel
theorem dX12_init_503 : decode cX12_init 503 = .ok (.iconst 0, 1) := by decide +kernel
theorem dX12_init_504 : decode cX12_init 504 = .ok (.bipush 115, 2) := by decide +kernel
theorem dX12_init_506 : decode cX12_init 506 = .ok (.iastore, 1) := by decide +kernel
theorem dX12_init_507 : decode cX12_init 507 = .ok (.dup, 1) := by decide +kernel
theorem dX12_init_508 : decode cX12_init 508 = .ok (.iconst 1, 1) := by decide +kernel
theorem dX12_init_509 : decode cX12_init 509 = .ok (.bipush 111, 2) := by decide +kernel
theorem dX12_init_511 : decode cX12_init 511 = .ok (.iastore, 1) := by decide +kernel
theorem dX12_init_512 : decode cX12_init 512 = .ok (.dup, 1) := by decide +kernel
theorem dX12_init_513 : decode cX12_init 513 = .ok (.iconst 2, 1) := by decide +kernel
theorem dX12_init_514 : decode cX12_init 514 = .ok (.bipush 114, 2) := by decide +kernel
theorem dX12_init_516 : decode cX12_init 516 = .ok (.iastore, 1) := by decide +kernel
theorem dX12_init_517 : decode cX12_init 517 = .ok (.dup, 1) := by decide +kernel
theorem dX12_init_518 : decode cX12_init 518 = .ok (.iconst 3, 1) := by decide +kernel
theorem dX12_init_519 : decode cX12_init 519 = .ok (.bipush 116, 2) := by decide +kernel
theorem dX12_init_521 : decode cX12_init 521 = .ok (.iastore, 1) := by decide +kernel
theorem dX12_init_522 : decode cX12_init 522 = .ok (.dup, 1) := by decide +kernel
theorem dX12_init_523 : decode cX12_init 523 = .ok (.iconst 4, 1) := by decide +kernel
theorem dX12_init_524 : decode cX12_init 524 = .ok (.iconst 0, 1) := by decide +kernel
theorem dX12_init_525 : decode cX12_init 525 = .ok (.iastore, 1) := by decide +kernel
theorem dX12_init_526 : decode cX12_init 526 = .ok (.dup, 1) := by decide +kernel
theorem dX12_init_527 : decode cX12_init 527 = .ok (.iconst 5, 1) := by decide +kernel
theorem dX12_init_528 : decode cX12_init 528 = .ok (.bipush 119, 2) := by decide +kernel
theorem dX12_init_530 : decode cX12_init 530 = .ok (.iastore, 1) := by decide +kernel
theorem dX12_init_531 : decode cX12_init 531 = .ok (.dup, 1) := by decide +kernel
theorem dX12_init_532 : decode cX12_init 532 = .ok (.bipush 6, 2) := by decide +kernel
theorem dX12_init_534 : decode cX12_init 534 = .ok (.bipush 101, 2) := by decide +kernel
theorem dX12_init_536 : decode cX12_init 536 = .ok (.iastore, 1) := by decide +kernel
theorem dX12_init_537 : decode cX12_init 537 = .ok (.dup, 1) := by decide +kernel
theorem dX12_init_538 : decode cX12_init 538 = .ok (.bipush 7, 2) := by decide +kernel
theorem dX12_init_540 : decode cX12_init 540 = .ok (.bipush 101, 2) := by decide +kernel
theorem dX12_init_542 : decode cX12_init 542 = .ok (.iastore, 1) := by decide +kernel
theorem dX12_init_543 : decode cX12_init 543 = .ok (.dup, 1) := by decide +kernel
theorem dX12_init_544 : decode cX12_init 544 = .ok (.bipush 8, 2) := by decide +kernel
theorem dX12_init_546 : decode cX12_init 546 = .ok (.bipush 107, 2) := by decide +kernel
theorem dX12_init_548 : decode cX12_init 548 = .ok (.iastore, 1) := by decide +kernel
theorem dX12_init_549 : decode cX12_init 549 = .ok (.dup, 1) := by decide +kernel
theorem dX12_init_550 : decode cX12_init 550 = .ok (.bipush 9, 2) := by decide +kernel
theorem dX12_init_552 : decode cX12_init 552 = .ok (.bipush 100, 2) := by decide +kernel
theorem dX12_init_554 : decode cX12_init 554 = .ok (.iastore, 1) := by decide +kernel
theorem dX12_init_555 : decode cX12_init 555 = .ok (.dup, 1) := by decide +kernel
theorem dX12_init_556 : decode cX12_init 556 = .ok (.bipush 10, 2) := by decide +kernel
theorem dX12_init_558 : decode cX12_init 558 = .ok (.bipush 97, 2) := by decide +kernel
theorem dX12_init_560 : decode cX12_init 560 = .ok (.iastore, 1) := by decide +kernel
theorem dX12_init_561 : decode cX12_init 561 = .ok (.dup, 1) := by decide +kernel
theorem dX12_init_562 : decode cX12_init 562 = .ok (.bipush 11, 2) := by decide +kernel
theorem dX12_init_564 : decode cX12_init 564 = .ok (.bipush 121, 2) := by decide +kernel
theorem dX12_init_566 : decode cX12_init 566 = .ok (.iastore, 1) := by decide +kernel
theorem dX12_init_567 : decode cX12_init 567 = .ok (.dup, 1) := by decide +kernel
theorem dX12_init_568 : decode cX12_init 568 = .ok (.bipush 12, 2) := by decide +kernel
theorem dX12_init_570 : decode cX12_init 570 = .ok (.iconst 0, 1) := by decide +kernel
theorem dX12_init_571 : decode cX12_init 571 = .ok (.iastore, 1) := by decide +kernel
theorem dX12_init_572 : decode cX12_init 572 = .ok (.dup, 1) := by decide +kernel
theorem dX12_init_573 : decode cX12_init 573 = .ok (.bipush 13, 2) := by decide +kernel
theorem dX12_init_575 : decode cX12_init 575 = .ok (.bipush 99, 2) := by decide +kernel
theorem dX12_init_577 : decode cX12_init 577 = .ok (.iastore, 1) := by decide +kernel
theorem dX12_init_578 : decode cX12_init 578 = .ok (.dup, 1) := by decide +kernel
theorem dX12_init_579 : decode cX12_init 579 = .ok (.bipush 14, 2) := by decide +kernel
theorem dX12_init_581 : decode cX12_init 581 = .ok (.bipush 108, 2) := by decide +kernel
theorem dX12_init_583 : decode cX12_init 583 = .ok (.iastore, 1) := by decide +kernel
theorem dX12_init_584 : decode cX12_init 584 = .ok (.dup, 1) := by decide +kernel
theorem dX12_init_585 : decode cX12_init 585 = .ok (.bipush 15, 2) := by decide +kernel
theorem dX12_init_587 : decode cX12_init 587 = .ok (.bipush 111, 2) := by decide +kernel
theorem dX12_init_589 : decode cX12_init 589 = .ok (.iastore, 1) := by decide +kernel
theorem dX12_init_590 : decode cX12_init 590 = .ok (.dup, 1) := by decide +kernel
theorem dX12_init_591 : decode cX12_init 591 = .ok (.bipush 16, 2) := by decide +kernel
theorem dX12_init_593 : decode cX12_init 593 = .ok (.bipush 99, 2) := by decide +kernel
theorem dX12_init_595 : decode cX12_init 595 = .ok (.iastore, 1) := by decide +kernel
theorem dX12_init_596 : decode cX12_init 596 = .ok (.dup, 1) := by decide +kernel
theorem dX12_init_597 : decode cX12_init 597 = .ok (.bipush 17, 2) := by decide +kernel
theorem dX12_init_599 : decode cX12_init 599 = .ok (.bipush 107, 2) := by decide +kernel
theorem dX12_init_601 : decode cX12_init 601 = .ok (.iastore, 1) := by decide +kernel
theorem dX12_init_602 : decode cX12_init 602 = .ok (.dup, 1) := by decide +kernel
theorem dX12_init_603 : decode cX12_init 603 = .ok (.bipush 18, 2) := by decide +kernel
theorem dX12_init_605 : decode cX12_init 605 = .ok (.iconst 0, 1) := by decide +kernel
theorem dX12_init_606 : decode cX12_init 606 = .ok (.iastore, 1) := by decide +kernel
theorem dX12_init_607 : decode cX12_init 607 = .ok (.dup, 1) := by decide +kernel
theorem dX12_init_608 : decode cX12_init 608 = .ok (.bipush 19, 2) := by decide +kernel
theorem dX12_init_610 : decode cX12_init 610 = .ok (.bipush 104, 2) := by decide +kernel
theorem dX12_init_612 : decode cX12_init 612 = .ok (.iastore, 1) := by decide +kernel
theorem dX12_init_613 : decode cX12_init 613 = .ok (.dup, 1) := by decide +kernel
theorem dX12_init_614 : decode cX12_init 614 = .ok (.bipush 20, 2) := by decide +kernel
theorem dX12_init_616 : decode cX12_init 616 = .ok (.bipush 111, 2) := by decide +kernel
theorem dX12_init_618 : decode cX12_init 618 = .ok (.iastore, 1) := by decide +kernel
theorem dX12_init_619 : decode cX12_init 619 = .ok (.dup, 1) := by decide +kernel
theorem dX12_init_620 : decode cX12_init 620 = .ok (.bipush 21, 2) := by decide +kernel
theorem dX12_init_622 : decode cX12_init 622 = .ok (.bipush 117, 2) := by decide +kernel
theorem dX12_init_624 : decode cX12_init 624 = .ok (.iastore, 1) := by decide +kernel
theorem dX12_init_625 : decode cX12_init 625 = .ok (.dup, 1) := by decide +kernel
theorem dX12_init_626 : decode cX12_init 626 = .ok (.bipush 22, 2) := by decide +kernel
theorem dX12_init_628 : decode cX12_init 628 = .ok (.bipush 114, 2) := by decide +kernel
theorem dX12_init_630 : decode cX12_init 630 = .ok (.iastore, 1) := by decide +kernel
theorem dX12_init_631 : decode cX12_init 631 = .ok (.dup, 1) := by decide +kernel
theorem dX12_init_632 : decode cX12_init 632 = .ok (.bipush 23, 2) := by decide +kernel
theorem dX12_init_634 : decode cX12_init 634 = .ok (.iconst 0, 1) := by decide +kernel
theorem dX12_init_635 : decode cX12_init 635 = .ok (.iastore, 1) := by decide +kernel
theorem dX12_init_636 : decode cX12_init 636 = .ok (.dup, 1) := by decide +kernel
theorem dX12_init_637 : decode cX12_init 637 = .ok (.bipush 24, 2) := by decide +kernel
theorem dX12_init_639 : decode cX12_init 639 = .ok (.bipush 111, 2) := by decide +kernel
theorem dX12_init_641 : decode cX12_init 641 = .ok (.iastore, 1) := by decide +kernel
theorem dX12_init_642 : decode cX12_init 642 = .ok (.dup, 1) := by decide +kernel
theorem dX12_init_643 : decode cX12_init 643 = .ok (.bipush 25, 2) := by decide +kernel
theorem dX12_init_645 : decode cX12_init 645 = .ok (.bipush 118, 2) := by decide +kernel
theorem dX12_init_647 : decode cX12_init 647 = .ok (.iastore, 1) := by decide +kernel
theorem dX12_init_648 : decode cX12_init 648 = .ok (.dup, 1) := by decide +kernel
theorem dX12_init_649 : decode cX12_init 649 = .ok (.bipush 26, 2) := by decide +kernel
theorem dX12_init_651 : decode cX12_init 651 = .ok (.bipush 101, 2) := by decide +kernel
theorem dX12_init_653 : decode cX12_init 653 = .ok (.iastore, 1) := by decide +kernel
theorem dX12_init_654 : decode cX12_init 654 = .ok (.dup, 1) := by decide +kernel
theorem dX12_init_655 : decode cX12_init 655 = .ok (.bipush 27, 2) := by decide +kernel
theorem dX12_init_657 : decode cX12_init 657 = .ok (.bipush 114, 2) := by decide +kernel
theorem dX12_init_659 : decode cX12_init 659 = .ok (.iastore, 1) := by decide +kernel
theorem dX12_init_660 : decode cX12_init 660 = .ok (.dup, 1) := by decide +kernel
theorem dX12_init_661 : decode cX12_init 661 = .ok (.bipush 28, 2) := by decide +kernel
theorem dX12_init_663 : decode cX12_init 663 = .ok (.iconst 0, 1) := by decide +kernel
theorem dX12_init_664 : decode cX12_init 664 = .ok (.iastore, 1) := by decide +kernel
theorem dX12_init_665 : decode cX12_init 665 = .ok (.dup, 1) := by decide +kernel
theorem dX12_init_666 : decode cX12_init 666 = .ok (.bipush 29, 2) := by decide +kernel
theorem dX12_init_668 : decode cX12_init 668 = .ok (.bipush 108, 2) := by decide +kernel
theorem dX12_init_670 : decode cX12_init 670 = .ok (.iastore, 1) := by decide +kernel
theorem dX12_init_671 : decode cX12_init 671 = .ok (.dup, 1) := by decide +kernel
theorem dX12_init_672 : decode cX12_init 672 = .ok (.bipush 30, 2) := by decide +kernel
theorem dX12_init_674 : decode cX12_init 674 = .ok (.bipush 97, 2) := by decide +kernel
theorem dX12_init_676 : decode cX12_init 676 = .ok (.iastore, 1) := by decide +kernel
theorem dX12_init_677 : decode cX12_init 677 = .ok (.dup, 1) := by decide +kernel
theorem dX12_init_678 : decode cX12_init 678 = .ok (.bipush 31, 2) := by decide +kernel
theorem dX12_init_680 : decode cX12_init 680 = .ok (.bipush 121, 2) := by decide +kernel
theorem dX12_init_682 : decode cX12_init 682 = .ok (.iastore, 1) := by decide +kernel
theorem dX12_init_683 : decode cX12_init 683 = .ok (.dup, 1) := by decide +kernel
theorem dX12_init_684 : decode cX12_init 684 = .ok (.bipush 32, 2) := by decide +kernel
theorem dX12_init_686 : decode cX12_init 686 = .ok (.iconst 0, 1) := by decide +kernel
theorem dX12_init_687 : decode cX12_init 687 = .ok (.iastore, 1) := by decide +kernel
theorem dX12_init_688 : decode cX12_init 688 = .ok (.dup, 1) := by decide +kernel
theorem dX12_init_689 : decode cX12_init 689 = .ok (.bipush 33, 2) := by decide +kernel
theorem dX12_init_691 : decode cX12_init 691 = .ok (.bipush 111, 2) := by decide +kernel
theorem dX12_init_693 : decode cX12_init 693 = .ok (.iastore, 1) := by decide +kernel
theorem dX12_init_694 : decode cX12_init 694 = .ok (.dup, 1) := by decide +kernel
theorem dX12_init_695 : decode cX12_init 695 = .ok (.bipush 34, 2) := by decide +kernel
theorem dX12_init_697 : decode cX12_init 697 = .ok (.bipush 102, 2) := by decide +kernel
theorem dX12_init_699 : decode cX12_init 699 = .ok (.iastore, 1) := by decide +kernel
theorem dX12_init_700 : decode cX12_init 700 = .ok (.dup, 1) := by decide +kernel
theorem dX12_init_701 : decode cX12_init 701 = .ok (.bipush 35, 2) := by decide +kernel
theorem dX12_init_703 : decode cX12_init 703 = .ok (.bipush 102, 2) := by decide +kernel
theorem dX12_init_705 : decode cX12_init 705 = .ok (.iastore, 1) := by decide +kernel
theorem dX12_init_706 : decode cX12_init 706 = .ok (.dup, 1) := by decide +kernel
theorem dX12_init_707 : decode cX12_init 707 = .ok (.bipush 36, 2) := by decide +kernel
theorem dX12_init_709 : decode cX12_init 709 = .ok (.iconst 0, 1) := by decide +kernel
theorem dX12_init_710 : decode cX12_init 710 = .ok (.iastore, 1) := by decide +kernel
theorem dX12_init_711 : decode cX12_init 711 = .ok (.dup, 1) := by decide +kernel
theorem dX12_init_712 : decode cX12_init 712 = .ok (.bipush 37, 2) := by decide +kernel
theorem dX12_init_714 : decode cX12_init 714 = .ok (.bipush 111, 2) := by decide +kernel
theorem dX12_init_716 : decode cX12_init 716 = .ok (.iastore, 1) := by decide +kernel
theorem dX12_init_717 : decode cX12_init 717 = .ok (.dup, 1) := by decide +kernel
theorem dX12_init_718 : decode cX12_init 718 = .ok (.bipush 38, 2) := by decide +kernel
theorem dX12_init_720 : decode cX12_init 720 = .ok (.bipush 114, 2) := by decide +kernel
theorem dX12_init_722 : decode cX12_init 722 = .ok (.iastore, 1) := by decide +kernel
theorem dX12_init_723 : decode cX12_init 723 = .ok (.dup, 1) := by decide +kernel
theorem dX12_init_724 : decode cX12_init 724 = .ok (.bipush 39, 2) := by decide +kernel
theorem dX12_init_726 : decode cX12_init 726 = .ok (.iconst 0, 1) := by decide +kernel
theorem dX12_init_727 : decode cX12_init 727 = .ok (.iastore, 1) := by decide +kernel
theorem dX12_init_728 : decode cX12_init 728 = .ok (.dup, 1) := by decide +kernel
theorem dX12_init_729 : decode cX12_init 729 = .ok (.bipush 40, 2) := by decide +kernel
theorem dX12_init_731 : decode cX12_init 731 = .ok (.bipush 97, 2) := by decide +kernel
theorem dX12_init_733 : decode cX12_init 733 = .ok (.iastore, 1) := by decide +kernel
theorem dX12_init_734 : decode cX12_init 734 = .ok (.dup, 1) := by decide +kernel
theorem dX12_init_735 : decode cX12_init 735 = .ok (.bipush 41, 2) := by decide +kernel
theorem dX12_init_737 : decode cX12_init 737 = .ok (.bipush 110, 2) := by decide +kernel
theorem dX12_init_739 : decode cX12_init 739 = .ok (.iastore, 1) := by decide +kernel
theorem dX12_init_740 : decode cX12_init 740 = .ok (.dup, 1) := by decide +kernel
theorem dX12_init_741 : decode cX12_init 741 = .ok (.bipush 42, 2) := by decide +kernel
theorem dX12_init_743 : decode cX12_init 743 = .ok (.bipush 100, 2) := by decide +kernel
theorem dX12_init_745 : decode cX12_init 745 = .ok (.iastore, 1) := by decide +kernel
theorem dX12_init_746 : decode cX12_init 746 = .ok (.dup, 1) := by decide +kernel
theorem dX12_init_747 : decode cX12_init 747 = .ok (.bipush 43, 2) := by decide +kernel
theorem dX12_init_749 : decode cX12_init 749 = .ok (.iconst 0, 1) := by decide +kernel
theorem dX12_init_750 : decode cX12_init 750 = .ok (.iastore, 1) := by decide +kernel
theorem dX12_init_751 : decode cX12_init 751 = .ok (.dup, 1) := by decide +kernel
theorem dX12_init_752 : decode cX12_init 752 = .ok (.bipush 44, 2) := by decide +kernel
theorem dX12_init_754 : decode cX12_init 754 = .ok (.bipush 110, 2) := by decide +kernel
theorem dX12_init_756 : decode cX12_init 756 = .ok (.iastore, 1) := by decide +kernel
theorem dX12_init_757 : decode cX12_init 757 = .ok (.dup, 1) := by decide +kernel
theorem dX12_init_758 : decode cX12_init 758 = .ok (.bipush 45, 2) := by decide +kernel
theorem dX12_init_760 : decode cX12_init 760 = .ok (.bipush 111, 2) := by decide +kernel
theorem dX12_init_762 : decode cX12_init 762 = .ok (.iastore, 1) := by decide +kernel
theorem dX12_init_763 : decode cX12_init 763 = .ok (.dup, 1) := by decide +kernel
theorem dX12_init_764 : decode cX12_init 764 = .ok (.bipush 46, 2) := by decide +kernel
theorem dX12_init_766 : decode cX12_init 766 = .ok (.bipush 116, 2) := by decide +kernel
theorem dX12_init_768 : decode cX12_init 768 = .ok (.iastore, 1) := by decide +kernel
theorem dX12_init_769 : decode cX12_init 769 = .ok (.dup, 1) := by decide +kernel
theorem dX12_init_770 : decode cX12_init 770 = .ok (.bipush 47, 2) := by decide +kernel
theorem dX12_init_772 : decode cX12_init 772 = .ok (.iconst 0, 1) := by decide +kernel
theorem dX12_init_773 : decode cX12_init 773 = .ok (.iastore, 1) := by decide +kernel
theorem dX12_init_774 : decode cX12_init 774 = .ok (.putfield 129, 3) := by decide +kernel
theorem dX12_init_777 : decode cX12_init 777 = .ok (.aload_n 0, 1) := by decide +kernel
theorem dX12_init_778 : decode cX12_init 778 = .ok (.sipush 180, 3) := by decide +kernel
theorem dX12_init_781 : decode cX12_init 781 = .ok (.newarray .int, 2) := by decide +kernel
theorem dX12_init_783 : decode cX12_init 783 = .ok (.putfield 132, 3) := by decide +kernel
theorem dX12_init_786 : decode cX12_init 786 = .ok (.iconst 0, 1) := by decide +kernel
theorem dX12_init_787 : decode cX12_init 787 = .ok (.istore_n 1, 1) := by decide +kernel
theorem dX12_init_788 : decode cX12_init 788 = .ok (.iload_n 1, 1) := by decide +kernel
theorem dX12_init_789 : decode cX12_init 789 = .ok (.aload_n 0, 1) := by decide +kernel
theorem dX12_init_790 : decode cX12_init 790 = .ok (.getfield 117, 3) := by decide +kernel
theorem dX12_init_793 : decode cX12_init 793 = .ok (.arraylength, 1) := by decide +kernel
theorem dX12_init_794 : decode cX12_init 794 = .ok (.if_icmp .ge 21, 3) := by decide +kernel
theorem dX12_init_797 : decode cX12_init 797 = .ok (.aload_n 0, 1) := by decide +kernel
theorem dX12_init_798 : decode cX12_init 798 = .ok (.getfield 69, 3) := by decide +kernel
theorem dX12_init_801 : decode cX12_init 801 = .ok (.iload_n 1, 1) := by decide +kernel
theorem dX12_init_802 : decode cX12_init 802 = .ok (.aload_n 0, 1) := by decide +kernel
theorem dX12_init_803 : decode cX12_init 803 = .ok (.getfield 117, 3) := by decide +kernel
theorem dX12_init_806 : decode cX12_init 806 = .ok (.iload_n 1, 1) := by decide +kernel
theorem dX12_init_807 : decode cX12_init 807 = .ok (.iaload, 1) := by decide +kernel
theorem dX12_init_808 : decode cX12_init 808 = .ok (.iastore, 1) := by decide +kernel
theorem dX12_init_809 : decode cX12_init 809 = .ok (.iinc 1 1, 3) := by decide +kernel
theorem dX12_init_812 : decode cX12_init 812 = .ok (.goto (-24), 3) := by decide +kernel
theorem dX12_init_815 : decode cX12_init 815 = .ok (.aload_n 0, 1) := by decide +kernel
theorem dX12_init_816 : decode cX12_init 816 = .ok (.aload_n 0, 1) := by decide +kernel
theorem dX12_init_817 : decode cX12_init 817 = .ok (.getfield 117, 3) := by decide +kernel
theorem dX12_init_820 : decode cX12_init 820 = .ok (.arraylength, 1) := by decide +kernel
theorem dX12_init_821 : decode cX12_init 821 = .ok (.putfield 135, 3) := by decide +kernel
theorem dX12_init_824 : decode cX12_init 824 = .ok (.aload_n 0, 1) := by decide +kernel
theorem dX12_init_825 : decode cX12_init 825 = .ok (.iconst 0, 1) := by decide +kernel
theorem dX12_init_826 : decode cX12_init 826 = .ok (.invokevirtual 139, 3) := by decide +kernel
theorem dX12_init_829 : decode cX12_init 829 = .ok (.aload_n 0, 1) := by decide +kernel
theorem dX12_init_830 : decode cX12_init 830 = .ok (.iconst 1, 1) := by decide +kernel
theorem dX12_init_831 : decode cX12_init 831 = .ok (.putfield 143, 3) := by decide +kernel
theorem dX12_init_834 : decode cX12_init 834 = .ok (.iconst 0, 1) := by decide +kernel
theorem dX12_init_835 : decode cX12_init 835 = .ok (.istore_n 1, 1) := by decide +kernel
theorem dX12_init_836 : decode cX12_init 836 = .ok (.iload_n 1, 1) := by decide +kernel
theorem dX12_init_837 : decode cX12_init 837 = .ok (.iconst 4, 1) := by decide +kernel
theorem dX12_init_838 : decode cX12_init 838 = .ok (.if_icmp .ge 16, 3) := by decide +kernel
theorem dX12_init_841 : decode cX12_init 841 = .ok (.aload_n 0, 1) := by decide +kernel
theorem dX12_init_842 : decode cX12_init 842 = .ok (.getfield 108, 3) := by decide +kernel
theorem dX12_init_845 : decode cX12_init 845 = .ok (.iload_n 1, 1) := by decide +kernel
theorem dX12_init_846 : decode cX12_init 846 = .ok (.iconst (-1), 1) := by decide +kernel
theorem dX12_init_847 : decode cX12_init 847 = .ok (.iastore, 1) := by decide +kernel
theorem dX12_init_848 : decode cX12_init 848 = .ok (.iinc 1 1, 3) := by decide +kernel
theorem dX12_init_851 : decode cX12_init 851 = .ok (.goto (-15), 3) := by decide +kernel
theorem dX12_init_854 : decode cX12_init 854 = .ok (.return_, 1) := by decide +kernel
theorem dX12_in_0 : decode cX12_in 0 = .ok (.iload_n 0, 1) := by decide +kernel
theorem dX12_in_1 : decode cX12_in 1 = .ok (.iload_n 1, 1) := by decide +kernel
theorem dX12_in_2 : decode cX12_in 2 = .ok (.if_icmp .lt 12, 3) := by decide +kernel
theorem dX12_in_5 : decode cX12_in 5 = .ok (.iload_n 0, 1) := by decide +kernel
theorem dX12_in_6 : decode cX12_in 6 = .ok (.iload_n 2, 1) := by decide +kernel
theorem dX12_in_7 : decode cX12_in 7 = .ok (.if_icmp .gt 7, 3) := by decide +kernel
theorem dX12_in_10 : decode cX12_in 10 = .ok (.iconst 1, 1) := by decide +kernel
theorem dX12_in_11 : decode cX12_in 11 = .ok (.goto 4, 3) := by decide +kernel
theorem dX12_in_14 : decode cX12_in 14 = .ok (.iconst 0, 1) := by decide +kernel
theorem dX12_in_15 : decode cX12_in 15 = .ok (.ireturn, 1) := by decide +kernel
theorem dX12_isPort_0 : decode cX12_isPort 0 = .ok (.iload_n 1, 1) := by decide +kernel
theorem dX12_isPort_1 : decode cX12_isPort 1 = .ok (.iconst 0, 1) := by decide +kernel
theorem dX12_isPort_2 : decode cX12_isPort 2 = .ok (.aload_n 0, 1) := by decide +kernel
theorem dX12_isPort_3 : decode cX12_isPort 3 = .ok (.getfield 146, 3) := by decide +kernel
theorem dX12_isPort_6 : decode cX12_isPort 6 = .ok (.iconst 1, 1) := by decide +kernel
theorem dX12_isPort_7 : decode cX12_isPort 7 = .ok (.isub, 1) := by decide +kernel
theorem dX12_isPort_8 : decode cX12_isPort 8 = .ok (.invokestatic 149, 3) := by decide +kernel
theorem dX12_isPort_11 : decode cX12_isPort 11 = .ok (.ireturn, 1) := by decide +kernel
theorem dX12_isShip_0 : decode cX12_isShip 0 = .ok (.iload_n 1, 1) := by decide +kernel
theorem dX12_isShip_1 : decode cX12_isShip 1 = .ok (.iconst 0, 1) := by decide +kernel
theorem dX12_isShip_2 : decode cX12_isShip 2 = .ok (.aload_n 0, 1) := by decide +kernel
theorem dX12_isShip_3 : decode cX12_isShip 3 = .ok (.getfield 153, 3) := by decide +kernel
theorem dX12_isShip_6 : decode cX12_isShip 6 = .ok (.iconst 1, 1) := by decide +kernel
theorem dX12_isShip_7 : decode cX12_isShip 7 = .ok (.isub, 1) := by decide +kernel
theorem dX12_isShip_8 : decode cX12_isShip 8 = .ok (.invokestatic 149, 3) := by decide +kernel
theorem dX12_isShip_11 : decode cX12_isShip 11 = .ok (.ireturn, 1) := by decide +kernel
theorem dX12_isOffer_0 : decode cX12_isOffer 0 = .ok (.iload_n 1, 1) := by decide +kernel
theorem dX12_isOffer_1 : decode cX12_isOffer 1 = .ok (.iconst 0, 1) := by decide +kernel
theorem dX12_isOffer_2 : decode cX12_isOffer 2 = .ok (.aload_n 0, 1) := by decide +kernel
theorem dX12_isOffer_3 : decode cX12_isOffer 3 = .ok (.getfield 156, 3) := by decide +kernel
theorem dX12_isOffer_6 : decode cX12_isOffer 6 = .ok (.iconst 1, 1) := by decide +kernel
theorem dX12_isOffer_7 : decode cX12_isOffer 7 = .ok (.isub, 1) := by decide +kernel
theorem dX12_isOffer_8 : decode cX12_isOffer 8 = .ok (.invokestatic 149, 3) := by decide +kernel
theorem dX12_isOffer_11 : decode cX12_isOffer 11 = .ok (.ireturn, 1) := by decide +kernel
theorem dX12_isHour_0 : decode cX12_isHour 0 = .ok (.iload_n 0, 1) := by decide +kernel
theorem dX12_isHour_1 : decode cX12_isHour 1 = .ok (.iconst 0, 1) := by decide +kernel
theorem dX12_isHour_2 : decode cX12_isHour 2 = .ok (.sipush 9999, 3) := by decide +kernel
theorem dX12_isHour_5 : decode cX12_isHour 5 = .ok (.invokestatic 149, 3) := by decide +kernel
theorem dX12_isHour_8 : decode cX12_isHour 8 = .ok (.ireturn, 1) := by decide +kernel
theorem dX12_port_0 : decode cX12_port 0 = .ok (.iload_n 1, 1) := by decide +kernel
theorem dX12_port_1 : decode cX12_port 1 = .ok (.bipush 10, 2) := by decide +kernel
theorem dX12_port_3 : decode cX12_port 3 = .ok (.sipush 999, 3) := by decide +kernel
theorem dX12_port_6 : decode cX12_port 6 = .ok (.invokestatic 149, 3) := by decide +kernel
theorem dX12_port_9 : decode cX12_port 9 = .ok (.ifCond .eq 13, 3) := by decide +kernel
theorem dX12_port_12 : decode cX12_port 12 = .ok (.iload_n 2, 1) := by decide +kernel
theorem dX12_port_13 : decode cX12_port 13 = .ok (.iconst 0, 1) := by decide +kernel
theorem dX12_port_14 : decode cX12_port 14 = .ok (.bipush 99, 2) := by decide +kernel
theorem dX12_port_16 : decode cX12_port 16 = .ok (.invokestatic 149, 3) := by decide +kernel
theorem dX12_port_19 : decode cX12_port 19 = .ok (.ifCond .ne 6, 3) := by decide +kernel
theorem dX12_port_22 : decode cX12_port 22 = .ok (.bipush (-2), 2) := by decide +kernel
theorem dX12_port_24 : decode cX12_port 24 = .ok (.ireturn, 1) := by decide +kernel
theorem dX12_port_25 : decode cX12_port 25 = .ok (.aload_n 0, 1) := by decide +kernel
theorem dX12_port_26 : decode cX12_port 26 = .ok (.getfield 146, 3) := by decide +kernel
theorem dX12_port_29 : decode cX12_port 29 = .ok (.bipush 8, 2) := by decide +kernel
theorem dX12_port_31 : decode cX12_port 31 = .ok (.if_icmp .ne 6, 3) := by decide +kernel
theorem dX12_port_34 : decode cX12_port 34 = .ok (.bipush (-4), 2) := by decide +kernel
theorem dX12_port_36 : decode cX12_port 36 = .ok (.ireturn, 1) := by decide +kernel
theorem dX12_port_37 : decode cX12_port 37 = .ok (.aload_n 0, 1) := by decide +kernel
theorem dX12_port_38 : decode cX12_port 38 = .ok (.getfield 7, 3) := by decide +kernel
theorem dX12_port_41 : decode cX12_port 41 = .ok (.aload_n 0, 1) := by decide +kernel
theorem dX12_port_42 : decode cX12_port 42 = .ok (.getfield 146, 3) := by decide +kernel
theorem dX12_port_45 : decode cX12_port 45 = .ok (.iload_n 1, 1) := by decide +kernel
theorem dX12_port_46 : decode cX12_port 46 = .ok (.iastore, 1) := by decide +kernel
theorem dX12_port_47 : decode cX12_port 47 = .ok (.aload_n 0, 1) := by decide +kernel
theorem dX12_port_48 : decode cX12_port 48 = .ok (.getfield 13, 3) := by decide +kernel
theorem dX12_port_51 : decode cX12_port 51 = .ok (.aload_n 0, 1) := by decide +kernel
theorem dX12_port_52 : decode cX12_port 52 = .ok (.getfield 146, 3) := by decide +kernel
theorem dX12_port_55 : decode cX12_port 55 = .ok (.iload_n 2, 1) := by decide +kernel
theorem dX12_port_56 : decode cX12_port 56 = .ok (.iastore, 1) := by decide +kernel
theorem dX12_port_57 : decode cX12_port 57 = .ok (.aload_n 0, 1) := by decide +kernel
theorem dX12_port_58 : decode cX12_port 58 = .ok (.dup, 1) := by decide +kernel
theorem dX12_port_59 : decode cX12_port 59 = .ok (.getfield 146, 3) := by decide +kernel
theorem dX12_port_62 : decode cX12_port 62 = .ok (.iconst 1, 1) := by decide +kernel
theorem dX12_port_63 : decode cX12_port 63 = .ok (.iadd, 1) := by decide +kernel
theorem dX12_port_64 : decode cX12_port 64 = .ok (.putfield 146, 3) := by decide +kernel
theorem dX12_port_67 : decode cX12_port 67 = .ok (.aload_n 0, 1) := by decide +kernel
theorem dX12_port_68 : decode cX12_port 68 = .ok (.getfield 146, 3) := by decide +kernel
theorem dX12_port_71 : decode cX12_port 71 = .ok (.iconst 1, 1) := by decide +kernel
theorem dX12_port_72 : decode cX12_port 72 = .ok (.isub, 1) := by decide +kernel
theorem dX12_port_73 : decode cX12_port 73 = .ok (.ireturn, 1) := by decide +kernel
theorem dX12_way_0 : decode cX12_way 0 = .ok (.aload_n 0, 1) := by decide +kernel
theorem dX12_way_1 : decode cX12_way 1 = .ok (.iload_n 1, 1) := by decide +kernel
theorem dX12_way_2 : decode cX12_way 2 = .ok (.invokevirtual 159, 3) := by decide +kernel
theorem dX12_way_5 : decode cX12_way 5 = .ok (.ifCond .eq 27, 3) := by decide +kernel
theorem dX12_way_8 : decode cX12_way 8 = .ok (.aload_n 0, 1) := by decide +kernel
theorem dX12_way_9 : decode cX12_way 9 = .ok (.iload_n 2, 1) := by decide +kernel
theorem dX12_way_10 : decode cX12_way 10 = .ok (.invokevirtual 159, 3) := by decide +kernel
theorem dX12_way_13 : decode cX12_way 13 = .ok (.ifCond .eq 19, 3) := by decide +kernel
theorem dX12_way_16 : decode cX12_way 16 = .ok (.iload_n 1, 1) := by decide +kernel
theorem dX12_way_17 : decode cX12_way 17 = .ok (.iload_n 2, 1) := by decide +kernel
theorem dX12_way_18 : decode cX12_way 18 = .ok (.if_icmp .eq 14, 3) := by decide +kernel
theorem dX12_way_21 : decode cX12_way 21 = .ok (.iload_n 3, 1) := by decide +kernel
theorem dX12_way_22 : decode cX12_way 22 = .ok (.iconst 1, 1) := by decide +kernel
theorem dX12_way_23 : decode cX12_way 23 = .ok (.sipush 9999, 3) := by decide +kernel
theorem dX12_way_26 : decode cX12_way 26 = .ok (.invokestatic 149, 3) := by decide +kernel
theorem dX12_way_29 : decode cX12_way 29 = .ok (.ifCond .ne 6, 3) := by decide +kernel
theorem dX12_way_32 : decode cX12_way 32 = .ok (.bipush (-2), 2) := by decide +kernel
theorem dX12_way_34 : decode cX12_way 34 = .ok (.ireturn, 1) := by decide +kernel
theorem dX12_way_35 : decode cX12_way 35 = .ok (.aload_n 0, 1) := by decide +kernel
theorem dX12_way_36 : decode cX12_way 36 = .ok (.getfield 16, 3) := by decide +kernel
theorem dX12_way_39 : decode cX12_way 39 = .ok (.bipush 8, 2) := by decide +kernel
theorem dX12_way_41 : decode cX12_way 41 = .ok (.iload_n 1, 1) := by decide +kernel
theorem dX12_way_42 : decode cX12_way 42 = .ok (.imul, 1) := by decide +kernel
theorem dX12_way_43 : decode cX12_way 43 = .ok (.iload_n 2, 1) := by decide +kernel
theorem dX12_way_44 : decode cX12_way 44 = .ok (.iadd, 1) := by decide +kernel
theorem dX12_way_45 : decode cX12_way 45 = .ok (.iaload, 1) := by decide +kernel
theorem dX12_way_46 : decode cX12_way 46 = .ok (.istore 4, 2) := by decide +kernel
theorem dX12_way_48 : decode cX12_way 48 = .ok (.aload_n 0, 1) := by decide +kernel
theorem dX12_way_49 : decode cX12_way 49 = .ok (.getfield 16, 3) := by decide +kernel
theorem dX12_way_52 : decode cX12_way 52 = .ok (.bipush 8, 2) := by decide +kernel
theorem dX12_way_54 : decode cX12_way 54 = .ok (.iload_n 1, 1) := by decide +kernel
theorem dX12_way_55 : decode cX12_way 55 = .ok (.imul, 1) := by decide +kernel
theorem dX12_way_56 : decode cX12_way 56 = .ok (.iload_n 2, 1) := by decide +kernel
theorem dX12_way_57 : decode cX12_way 57 = .ok (.iadd, 1) := by decide +kernel
theorem dX12_way_58 : decode cX12_way 58 = .ok (.iload_n 3, 1) := by decide +kernel
theorem dX12_way_59 : decode cX12_way 59 = .ok (.iastore, 1) := by decide +kernel
theorem dX12_way_60 : decode cX12_way 60 = .ok (.aload_n 0, 1) := by decide +kernel
theorem dX12_way_61 : decode cX12_way 61 = .ok (.getfield 16, 3) := by decide +kernel
theorem dX12_way_64 : decode cX12_way 64 = .ok (.bipush 8, 2) := by decide +kernel
theorem dX12_way_66 : decode cX12_way 66 = .ok (.iload_n 2, 1) := by decide +kernel
theorem dX12_way_67 : decode cX12_way 67 = .ok (.imul, 1) := by decide +kernel
theorem dX12_way_68 : decode cX12_way 68 = .ok (.iload_n 1, 1) := by decide +kernel
theorem dX12_way_69 : decode cX12_way 69 = .ok (.iadd, 1) := by decide +kernel
theorem dX12_way_70 : decode cX12_way 70 = .ok (.iload_n 3, 1) := by decide +kernel
theorem dX12_way_71 : decode cX12_way 71 = .ok (.iastore, 1) := by decide +kernel
theorem dX12_way_72 : decode cX12_way 72 = .ok (.iload 4, 2) := by decide +kernel
theorem dX12_way_74 : decode cX12_way 74 = .ok (.ireturn, 1) := by decide +kernel
theorem dX12_price_0 : decode cX12_price 0 = .ok (.aload_n 0, 1) := by decide +kernel
theorem dX12_price_1 : decode cX12_price 1 = .ok (.iload_n 1, 1) := by decide +kernel
theorem dX12_price_2 : decode cX12_price 2 = .ok (.invokevirtual 159, 3) := by decide +kernel
theorem dX12_price_5 : decode cX12_price 5 = .ok (.ifCond .eq 13, 3) := by decide +kernel
theorem dX12_price_8 : decode cX12_price 8 = .ok (.iload_n 2, 1) := by decide +kernel
theorem dX12_price_9 : decode cX12_price 9 = .ok (.iconst 0, 1) := by decide +kernel
theorem dX12_price_10 : decode cX12_price 10 = .ok (.bipush 99, 2) := by decide +kernel
theorem dX12_price_12 : decode cX12_price 12 = .ok (.invokestatic 149, 3) := by decide +kernel
theorem dX12_price_15 : decode cX12_price 15 = .ok (.ifCond .ne 6, 3) := by decide +kernel
theorem dX12_price_18 : decode cX12_price 18 = .ok (.bipush (-2), 2) := by decide +kernel
theorem dX12_price_20 : decode cX12_price 20 = .ok (.ireturn, 1) := by decide +kernel
theorem dX12_price_21 : decode cX12_price 21 = .ok (.aload_n 0, 1) := by decide +kernel
theorem dX12_price_22 : decode cX12_price 22 = .ok (.getfield 13, 3) := by decide +kernel
theorem dX12_price_25 : decode cX12_price 25 = .ok (.iload_n 1, 1) := by decide +kernel
theorem dX12_price_26 : decode cX12_price 26 = .ok (.iaload, 1) := by decide +kernel
theorem dX12_price_27 : decode cX12_price 27 = .ok (.istore_n 3, 1) := by decide +kernel
theorem dX12_price_28 : decode cX12_price 28 = .ok (.aload_n 0, 1) := by decide +kernel
theorem dX12_price_29 : decode cX12_price 29 = .ok (.getfield 13, 3) := by decide +kernel
theorem dX12_price_32 : decode cX12_price 32 = .ok (.iload_n 1, 1) := by decide +kernel
theorem dX12_price_33 : decode cX12_price 33 = .ok (.iload_n 2, 1) := by decide +kernel
theorem dX12_price_34 : decode cX12_price 34 = .ok (.iastore, 1) := by decide +kernel
theorem dX12_price_35 : decode cX12_price 35 = .ok (.iload_n 3, 1) := by decide +kernel
theorem dX12_price_36 : decode cX12_price 36 = .ok (.ireturn, 1) := by decide +kernel
theorem dX12_ship_0 : decode cX12_ship 0 = .ok (.aload_n 0, 1) := by decide +kernel
theorem dX12_ship_1 : decode cX12_ship 1 = .ok (.iload_n 1, 1) := by decide +kernel
theorem dX12_ship_2 : decode cX12_ship 2 = .ok (.invokevirtual 159, 3) := by decide +kernel
theorem dX12_ship_5 : decode cX12_ship 5 = .ok (.ifCond .eq 38, 3) := by decide +kernel
theorem dX12_ship_8 : decode cX12_ship 8 = .ok (.iload_n 2, 1) := by decide +kernel
theorem dX12_ship_9 : decode cX12_ship 9 = .ok (.bipush 100, 2) := by decide +kernel
theorem dX12_ship_11 : decode cX12_ship 11 = .ok (.sipush 9999, 3) := by decide +kernel
theorem dX12_ship_14 : decode cX12_ship 14 = .ok (.invokestatic 149, 3) := by decide +kernel
theorem dX12_ship_17 : decode cX12_ship 17 = .ok (.ifCond .eq 26, 3) := by decide +kernel
theorem dX12_ship_20 : decode cX12_ship 20 = .ok (.iload_n 3, 1) := by decide +kernel
theorem dX12_ship_21 : decode cX12_ship 21 = .ok (.bipush 10, 2) := by decide +kernel
theorem dX12_ship_23 : decode cX12_ship 23 = .ok (.sipush 999, 3) := by decide +kernel
theorem dX12_ship_26 : decode cX12_ship 26 = .ok (.invokestatic 149, 3) := by decide +kernel
theorem dX12_ship_29 : decode cX12_ship 29 = .ok (.ifCond .eq 14, 3) := by decide +kernel
theorem dX12_ship_32 : decode cX12_ship 32 = .ok (.iload 4, 2) := by decide +kernel
theorem dX12_ship_34 : decode cX12_ship 34 = .ok (.iconst 1, 1) := by decide +kernel
theorem dX12_ship_35 : decode cX12_ship 35 = .ok (.bipush 50, 2) := by decide +kernel
theorem dX12_ship_37 : decode cX12_ship 37 = .ok (.invokestatic 149, 3) := by decide +kernel
theorem dX12_ship_40 : decode cX12_ship 40 = .ok (.ifCond .ne 6, 3) := by decide +kernel
theorem dX12_ship_43 : decode cX12_ship 43 = .ok (.bipush (-2), 2) := by decide +kernel
theorem dX12_ship_45 : decode cX12_ship 45 = .ok (.ireturn, 1) := by decide +kernel
theorem dX12_ship_46 : decode cX12_ship 46 = .ok (.aload_n 0, 1) := by decide +kernel
theorem dX12_ship_47 : decode cX12_ship 47 = .ok (.getfield 153, 3) := by decide +kernel
theorem dX12_ship_50 : decode cX12_ship 50 = .ok (.iconst 5, 1) := by decide +kernel
theorem dX12_ship_51 : decode cX12_ship 51 = .ok (.if_icmp .ne 6, 3) := by decide +kernel
theorem dX12_ship_54 : decode cX12_ship 54 = .ok (.bipush (-4), 2) := by decide +kernel
theorem dX12_ship_56 : decode cX12_ship 56 = .ok (.ireturn, 1) := by decide +kernel
theorem dX12_ship_57 : decode cX12_ship 57 = .ok (.aload_n 0, 1) := by decide +kernel
theorem dX12_ship_58 : decode cX12_ship 58 = .ok (.getfield 19, 3) := by decide +kernel
theorem dX12_ship_61 : decode cX12_ship 61 = .ok (.aload_n 0, 1) := by decide +kernel
theorem dX12_ship_62 : decode cX12_ship 62 = .ok (.getfield 153, 3) := by decide +kernel
theorem dX12_ship_65 : decode cX12_ship 65 = .ok (.iload_n 1, 1) := by decide +kernel
theorem dX12_ship_66 : decode cX12_ship 66 = .ok (.iastore, 1) := by decide +kernel
theorem dX12_ship_67 : decode cX12_ship 67 = .ok (.aload_n 0, 1) := by decide +kernel
theorem dX12_ship_68 : decode cX12_ship 68 = .ok (.getfield 25, 3) := by decide +kernel
theorem dX12_ship_71 : decode cX12_ship 71 = .ok (.aload_n 0, 1) := by decide +kernel
theorem dX12_ship_72 : decode cX12_ship 72 = .ok (.getfield 153, 3) := by decide +kernel
theorem dX12_ship_75 : decode cX12_ship 75 = .ok (.iload_n 2, 1) := by decide +kernel
theorem dX12_ship_76 : decode cX12_ship 76 = .ok (.iastore, 1) := by decide +kernel
theorem dX12_ship_77 : decode cX12_ship 77 = .ok (.aload_n 0, 1) := by decide +kernel
theorem dX12_ship_78 : decode cX12_ship 78 = .ok (.getfield 28, 3) := by decide +kernel
theorem dX12_ship_81 : decode cX12_ship 81 = .ok (.aload_n 0, 1) := by decide +kernel
theorem dX12_ship_82 : decode cX12_ship 82 = .ok (.getfield 153, 3) := by decide +kernel
theorem dX12_ship_85 : decode cX12_ship 85 = .ok (.iload_n 3, 1) := by decide +kernel
theorem dX12_ship_86 : decode cX12_ship 86 = .ok (.iastore, 1) := by decide +kernel
theorem dX12_ship_87 : decode cX12_ship 87 = .ok (.aload_n 0, 1) := by decide +kernel
theorem dX12_ship_88 : decode cX12_ship 88 = .ok (.getfield 31, 3) := by decide +kernel
theorem dX12_ship_91 : decode cX12_ship 91 = .ok (.aload_n 0, 1) := by decide +kernel
theorem dX12_ship_92 : decode cX12_ship 92 = .ok (.getfield 153, 3) := by decide +kernel
theorem dX12_ship_95 : decode cX12_ship 95 = .ok (.iload 4, 2) := by decide +kernel
theorem dX12_ship_97 : decode cX12_ship 97 = .ok (.iastore, 1) := by decide +kernel
theorem dX12_ship_98 : decode cX12_ship 98 = .ok (.aload_n 0, 1) := by decide +kernel
theorem dX12_ship_99 : decode cX12_ship 99 = .ok (.getfield 34, 3) := by decide +kernel
theorem dX12_ship_102 : decode cX12_ship 102 = .ok (.aload_n 0, 1) := by decide +kernel
theorem dX12_ship_103 : decode cX12_ship 103 = .ok (.getfield 153, 3) := by decide +kernel
theorem dX12_ship_106 : decode cX12_ship 106 = .ok (.bipush 10, 2) := by decide +kernel
theorem dX12_ship_108 : decode cX12_ship 108 = .ok (.iastore, 1) := by decide +kernel
theorem dX12_ship_109 : decode cX12_ship 109 = .ok (.aload_n 0, 1) := by decide +kernel
theorem dX12_ship_110 : decode cX12_ship 110 = .ok (.dup, 1) := by decide +kernel
theorem dX12_ship_111 : decode cX12_ship 111 = .ok (.getfield 153, 3) := by decide +kernel
theorem dX12_ship_114 : decode cX12_ship 114 = .ok (.iconst 1, 1) := by decide +kernel
theorem dX12_ship_115 : decode cX12_ship 115 = .ok (.iadd, 1) := by decide +kernel
theorem dX12_ship_116 : decode cX12_ship 116 = .ok (.putfield 153, 3) := by decide +kernel
theorem dX12_ship_119 : decode cX12_ship 119 = .ok (.aload_n 0, 1) := by decide +kernel
theorem dX12_ship_120 : decode cX12_ship 120 = .ok (.getfield 153, 3) := by decide +kernel
theorem dX12_ship_123 : decode cX12_ship 123 = .ok (.iconst 1, 1) := by decide +kernel
theorem dX12_ship_124 : decode cX12_ship 124 = .ok (.isub, 1) := by decide +kernel
theorem dX12_ship_125 : decode cX12_ship 125 = .ok (.ireturn, 1) := by decide +kernel
theorem dX12_speed_0 : decode cX12_speed 0 = .ok (.aload_n 0, 1) := by decide +kernel
theorem dX12_speed_1 : decode cX12_speed 1 = .ok (.iload_n 1, 1) := by decide +kernel
theorem dX12_speed_2 : decode cX12_speed 2 = .ok (.invokevirtual 163, 3) := by decide +kernel
theorem dX12_speed_5 : decode cX12_speed 5 = .ok (.ifCond .eq 14, 3) := by decide +kernel
theorem dX12_speed_8 : decode cX12_speed 8 = .ok (.iload_n 2, 1) := by decide +kernel
theorem dX12_speed_9 : decode cX12_speed 9 = .ok (.bipush 6, 2) := by decide +kernel
theorem dX12_speed_11 : decode cX12_speed 11 = .ok (.bipush 14, 2) := by decide +kernel
theorem dX12_speed_13 : decode cX12_speed 13 = .ok (.invokestatic 149, 3) := by decide +kernel
theorem dX12_speed_16 : decode cX12_speed 16 = .ok (.ifCond .ne 6, 3) := by decide +kernel
theorem dX12_speed_19 : decode cX12_speed 19 = .ok (.bipush (-2), 2) := by decide +kernel
theorem dX12_speed_21 : decode cX12_speed 21 = .ok (.ireturn, 1) := by decide +kernel
theorem dX12_speed_22 : decode cX12_speed 22 = .ok (.aload_n 0, 1) := by decide +kernel
theorem dX12_speed_23 : decode cX12_speed 23 = .ok (.getfield 34, 3) := by decide +kernel
theorem dX12_speed_26 : decode cX12_speed 26 = .ok (.iload_n 1, 1) := by decide +kernel
theorem dX12_speed_27 : decode cX12_speed 27 = .ok (.iaload, 1) := by decide +kernel
theorem dX12_speed_28 : decode cX12_speed 28 = .ok (.istore_n 3, 1) := by decide +kernel
theorem dX12_speed_29 : decode cX12_speed 29 = .ok (.aload_n 0, 1) := by decide +kernel
theorem dX12_speed_30 : decode cX12_speed 30 = .ok (.getfield 34, 3) := by decide +kernel
theorem dX12_speed_33 : decode cX12_speed 33 = .ok (.iload_n 1, 1) := by decide +kernel
theorem dX12_speed_34 : decode cX12_speed 34 = .ok (.iload_n 2, 1) := by decide +kernel
theorem dX12_speed_35 : decode cX12_speed 35 = .ok (.iastore, 1) := by decide +kernel
theorem dX12_speed_36 : decode cX12_speed 36 = .ok (.iload_n 3, 1) := by decide +kernel
theorem dX12_speed_37 : decode cX12_speed 37 = .ok (.ireturn, 1) := by decide +kernel
theorem dX12_free_0 : decode cX12_free 0 = .ok (.aload_n 0, 1) := by decide +kernel
theorem dX12_free_1 : decode cX12_free 1 = .ok (.iload_n 1, 1) := by decide +kernel
theorem dX12_free_2 : decode cX12_free 2 = .ok (.invokevirtual 163, 3) := by decide +kernel
theorem dX12_free_5 : decode cX12_free 5 = .ok (.ifCond .eq 18, 3) := by decide +kernel
theorem dX12_free_8 : decode cX12_free 8 = .ok (.aload_n 0, 1) := by decide +kernel
theorem dX12_free_9 : decode cX12_free 9 = .ok (.iload_n 2, 1) := by decide +kernel
theorem dX12_free_10 : decode cX12_free 10 = .ok (.invokevirtual 159, 3) := by decide +kernel
theorem dX12_free_13 : decode cX12_free 13 = .ok (.ifCond .eq 10, 3) := by decide +kernel
theorem dX12_free_16 : decode cX12_free 16 = .ok (.iload_n 3, 1) := by decide +kernel
theorem dX12_free_17 : decode cX12_free 17 = .ok (.invokestatic 166, 3) := by decide +kernel
theorem dX12_free_20 : decode cX12_free 20 = .ok (.ifCond .ne 6, 3) := by decide +kernel
theorem dX12_free_23 : decode cX12_free 23 = .ok (.bipush (-2), 2) := by decide +kernel
theorem dX12_free_25 : decode cX12_free 25 = .ok (.ireturn, 1) := by decide +kernel
theorem dX12_free_26 : decode cX12_free 26 = .ok (.aload_n 0, 1) := by decide +kernel
theorem dX12_free_27 : decode cX12_free 27 = .ok (.getfield 19, 3) := by decide +kernel
theorem dX12_free_30 : decode cX12_free 30 = .ok (.iload_n 1, 1) := by decide +kernel
theorem dX12_free_31 : decode cX12_free 31 = .ok (.iload_n 2, 1) := by decide +kernel
theorem dX12_free_32 : decode cX12_free 32 = .ok (.iastore, 1) := by decide +kernel
theorem dX12_free_33 : decode cX12_free 33 = .ok (.aload_n 0, 1) := by decide +kernel
theorem dX12_free_34 : decode cX12_free 34 = .ok (.getfield 22, 3) := by decide +kernel
theorem dX12_free_37 : decode cX12_free 37 = .ok (.iload_n 1, 1) := by decide +kernel
theorem dX12_free_38 : decode cX12_free 38 = .ok (.iload_n 3, 1) := by decide +kernel
theorem dX12_free_39 : decode cX12_free 39 = .ok (.iastore, 1) := by decide +kernel
theorem dX12_free_40 : decode cX12_free 40 = .ok (.iconst 1, 1) := by decide +kernel
theorem dX12_free_41 : decode cX12_free 41 = .ok (.ireturn, 1) := by decide +kernel
theorem dX12_shipTold_0 : decode cX12_shipTold 0 = .ok (.aload_n 0, 1) := by decide +kernel
theorem dX12_shipTold_1 : decode cX12_shipTold 1 = .ok (.iload_n 1, 1) := by decide +kernel
theorem dX12_shipTold_2 : decode cX12_shipTold 2 = .ok (.invokevirtual 163, 3) := by decide +kernel
theorem dX12_shipTold_5 : decode cX12_shipTold 5 = .ok (.ifCond .ne 6, 3) := by decide +kernel
theorem dX12_shipTold_8 : decode cX12_shipTold 8 = .ok (.bipush (-2), 2) := by decide +kernel
theorem dX12_shipTold_10 : decode cX12_shipTold 10 = .ok (.ireturn, 1) := by decide +kernel
theorem dX12_shipTold_11 : decode cX12_shipTold 11 = .ok (.iload_n 2, 1) := by decide +kernel
theorem dX12_shipTold_12 : decode cX12_shipTold 12 = .ok (.tableswitch 93 0 6 #[44, 51, 58, 65, 72, 79, 86], 44) := by decide +kernel
theorem dX12_shipTold_56 : decode cX12_shipTold 56 = .ok (.aload_n 0, 1) := by decide +kernel
theorem dX12_shipTold_57 : decode cX12_shipTold 57 = .ok (.getfield 19, 3) := by decide +kernel
theorem dX12_shipTold_60 : decode cX12_shipTold 60 = .ok (.iload_n 1, 1) := by decide +kernel
theorem dX12_shipTold_61 : decode cX12_shipTold 61 = .ok (.iaload, 1) := by decide +kernel
theorem dX12_shipTold_62 : decode cX12_shipTold 62 = .ok (.ireturn, 1) := by decide +kernel
theorem dX12_shipTold_63 : decode cX12_shipTold 63 = .ok (.aload_n 0, 1) := by decide +kernel
theorem dX12_shipTold_64 : decode cX12_shipTold 64 = .ok (.getfield 22, 3) := by decide +kernel
theorem dX12_shipTold_67 : decode cX12_shipTold 67 = .ok (.iload_n 1, 1) := by decide +kernel
theorem dX12_shipTold_68 : decode cX12_shipTold 68 = .ok (.iaload, 1) := by decide +kernel
theorem dX12_shipTold_69 : decode cX12_shipTold 69 = .ok (.ireturn, 1) := by decide +kernel
theorem dX12_shipTold_70 : decode cX12_shipTold 70 = .ok (.aload_n 0, 1) := by decide +kernel
theorem dX12_shipTold_71 : decode cX12_shipTold 71 = .ok (.getfield 25, 3) := by decide +kernel
theorem dX12_shipTold_74 : decode cX12_shipTold 74 = .ok (.iload_n 1, 1) := by decide +kernel
theorem dX12_shipTold_75 : decode cX12_shipTold 75 = .ok (.iaload, 1) := by decide +kernel
theorem dX12_shipTold_76 : decode cX12_shipTold 76 = .ok (.ireturn, 1) := by decide +kernel
theorem dX12_shipTold_77 : decode cX12_shipTold 77 = .ok (.aload_n 0, 1) := by decide +kernel
theorem dX12_shipTold_78 : decode cX12_shipTold 78 = .ok (.getfield 28, 3) := by decide +kernel
theorem dX12_shipTold_81 : decode cX12_shipTold 81 = .ok (.iload_n 1, 1) := by decide +kernel
theorem dX12_shipTold_82 : decode cX12_shipTold 82 = .ok (.iaload, 1) := by decide +kernel
theorem dX12_shipTold_83 : decode cX12_shipTold 83 = .ok (.ireturn, 1) := by decide +kernel
theorem dX12_shipTold_84 : decode cX12_shipTold 84 = .ok (.aload_n 0, 1) := by decide +kernel
theorem dX12_shipTold_85 : decode cX12_shipTold 85 = .ok (.getfield 31, 3) := by decide +kernel
theorem dX12_shipTold_88 : decode cX12_shipTold 88 = .ok (.iload_n 1, 1) := by decide +kernel
theorem dX12_shipTold_89 : decode cX12_shipTold 89 = .ok (.iaload, 1) := by decide +kernel
theorem dX12_shipTold_90 : decode cX12_shipTold 90 = .ok (.ireturn, 1) := by decide +kernel
theorem dX12_shipTold_91 : decode cX12_shipTold 91 = .ok (.aload_n 0, 1) := by decide +kernel
theorem dX12_shipTold_92 : decode cX12_shipTold 92 = .ok (.getfield 34, 3) := by decide +kernel
theorem dX12_shipTold_95 : decode cX12_shipTold 95 = .ok (.iload_n 1, 1) := by decide +kernel
theorem dX12_shipTold_96 : decode cX12_shipTold 96 = .ok (.iaload, 1) := by decide +kernel
theorem dX12_shipTold_97 : decode cX12_shipTold 97 = .ok (.ireturn, 1) := by decide +kernel
theorem dX12_shipTold_98 : decode cX12_shipTold 98 = .ok (.aload_n 0, 1) := by decide +kernel
theorem dX12_shipTold_99 : decode cX12_shipTold 99 = .ok (.getfield 37, 3) := by decide +kernel
theorem dX12_shipTold_102 : decode cX12_shipTold 102 = .ok (.iload_n 1, 1) := by decide +kernel
theorem dX12_shipTold_103 : decode cX12_shipTold 103 = .ok (.iaload, 1) := by decide +kernel
theorem dX12_shipTold_104 : decode cX12_shipTold 104 = .ok (.ireturn, 1) := by decide +kernel
theorem dX12_shipTold_105 : decode cX12_shipTold 105 = .ok (.bipush (-2), 2) := by decide +kernel
theorem dX12_shipTold_107 : decode cX12_shipTold 107 = .ok (.ireturn, 1) := by decide +kernel
theorem dX12_up_0 : decode cX12_up 0 = .ok (.iload_n 0, 1) := by decide +kernel
theorem dX12_up_1 : decode cX12_up 1 = .ok (.iload_n 1, 1) := by decide +kernel
theorem dX12_up_2 : decode cX12_up 2 = .ok (.iadd, 1) := by decide +kernel
theorem dX12_up_3 : decode cX12_up 3 = .ok (.iconst 1, 1) := by decide +kernel
theorem dX12_up_4 : decode cX12_up 4 = .ok (.isub, 1) := by decide +kernel
theorem dX12_up_5 : decode cX12_up 5 = .ok (.iload_n 1, 1) := by decide +kernel
theorem dX12_up_6 : decode cX12_up 6 = .ok (.idiv, 1) := by decide +kernel
theorem dX12_up_7 : decode cX12_up 7 = .ok (.ireturn, 1) := by decide +kernel
theorem dX12_lacks_0 : decode cX12_lacks 0 = .ok (.iload_n 1, 1) := by decide +kernel
theorem dX12_lacks_1 : decode cX12_lacks 1 = .ok (.iload_n 2, 1) := by decide +kernel
theorem dX12_lacks_2 : decode cX12_lacks 2 = .ok (.if_icmp .eq 21, 3) := by decide +kernel
theorem dX12_lacks_5 : decode cX12_lacks 5 = .ok (.aload_n 0, 1) := by decide +kernel
theorem dX12_lacks_6 : decode cX12_lacks 6 = .ok (.getfield 16, 3) := by decide +kernel
theorem dX12_lacks_9 : decode cX12_lacks 9 = .ok (.bipush 8, 2) := by decide +kernel
theorem dX12_lacks_11 : decode cX12_lacks 11 = .ok (.iload_n 1, 1) := by decide +kernel
theorem dX12_lacks_12 : decode cX12_lacks 12 = .ok (.imul, 1) := by decide +kernel
theorem dX12_lacks_13 : decode cX12_lacks 13 = .ok (.iload_n 2, 1) := by decide +kernel
theorem dX12_lacks_14 : decode cX12_lacks 14 = .ok (.iadd, 1) := by decide +kernel
theorem dX12_lacks_15 : decode cX12_lacks 15 = .ok (.iaload, 1) := by decide +kernel
theorem dX12_lacks_16 : decode cX12_lacks 16 = .ok (.ifCond .ne 7, 3) := by decide +kernel
theorem dX12_lacks_19 : decode cX12_lacks 19 = .ok (.iconst 1, 1) := by decide +kernel
theorem dX12_lacks_20 : decode cX12_lacks 20 = .ok (.goto 4, 3) := by decide +kernel
theorem dX12_lacks_23 : decode cX12_lacks 23 = .ok (.iconst 0, 1) := by decide +kernel
theorem dX12_lacks_24 : decode cX12_lacks 24 = .ok (.ireturn, 1) := by decide +kernel
theorem dX12_hours_0 : decode cX12_hours 0 = .ok (.aload_n 0, 1) := by decide +kernel
theorem dX12_hours_1 : decode cX12_hours 1 = .ok (.getfield 16, 3) := by decide +kernel
theorem dX12_hours_4 : decode cX12_hours 4 = .ok (.bipush 8, 2) := by decide +kernel
theorem dX12_hours_6 : decode cX12_hours 6 = .ok (.iload_n 2, 1) := by decide +kernel
theorem dX12_hours_7 : decode cX12_hours 7 = .ok (.imul, 1) := by decide +kernel
theorem dX12_hours_8 : decode cX12_hours 8 = .ok (.iload_n 3, 1) := by decide +kernel
theorem dX12_hours_9 : decode cX12_hours 9 = .ok (.iadd, 1) := by decide +kernel
theorem dX12_hours_10 : decode cX12_hours 10 = .ok (.iaload, 1) := by decide +kernel
theorem dX12_hours_11 : decode cX12_hours 11 = .ok (.aload_n 0, 1) := by decide +kernel
theorem dX12_hours_12 : decode cX12_hours 12 = .ok (.getfield 34, 3) := by decide +kernel
theorem dX12_hours_15 : decode cX12_hours 15 = .ok (.iload_n 1, 1) := by decide +kernel
theorem dX12_hours_16 : decode cX12_hours 16 = .ok (.iaload, 1) := by decide +kernel
theorem dX12_hours_17 : decode cX12_hours 17 = .ok (.invokestatic 169, 3) := by decide +kernel
theorem dX12_hours_20 : decode cX12_hours 20 = .ok (.ireturn, 1) := by decide +kernel
theorem dX12_burns_0 : decode cX12_burns 0 = .ok (.aload_n 0, 1) := by decide +kernel
theorem dX12_burns_1 : decode cX12_burns 1 = .ok (.getfield 34, 3) := by decide +kernel
theorem dX12_burns_4 : decode cX12_burns 4 = .ok (.iload_n 1, 1) := by decide +kernel
theorem dX12_burns_5 : decode cX12_burns 5 = .ok (.iaload, 1) := by decide +kernel
theorem dX12_burns_6 : decode cX12_burns 6 = .ok (.istore 4, 2) := by decide +kernel
theorem dX12_burns_8 : decode cX12_burns 8 = .ok (.aload_n 0, 1) := by decide +kernel
theorem dX12_burns_9 : decode cX12_burns 9 = .ok (.iload_n 1, 1) := by decide +kernel
theorem dX12_burns_10 : decode cX12_burns 10 = .ok (.iload_n 2, 1) := by decide +kernel
theorem dX12_burns_11 : decode cX12_burns 11 = .ok (.iload_n 3, 1) := by decide +kernel
theorem dX12_burns_12 : decode cX12_burns 12 = .ok (.invokevirtual 173, 3) := by decide +kernel
theorem dX12_burns_15 : decode cX12_burns 15 = .ok (.aload_n 0, 1) := by decide +kernel
theorem dX12_burns_16 : decode cX12_burns 16 = .ok (.getfield 31, 3) := by decide +kernel
theorem dX12_burns_19 : decode cX12_burns 19 = .ok (.iload_n 1, 1) := by decide +kernel
theorem dX12_burns_20 : decode cX12_burns 20 = .ok (.iaload, 1) := by decide +kernel
theorem dX12_burns_21 : decode cX12_burns 21 = .ok (.iload 4, 2) := by decide +kernel
theorem dX12_burns_23 : decode cX12_burns 23 = .ok (.iload 4, 2) := by decide +kernel
theorem dX12_burns_25 : decode cX12_burns 25 = .ok (.imul, 1) := by decide +kernel
theorem dX12_burns_26 : decode cX12_burns 26 = .ok (.iload 4, 2) := by decide +kernel
theorem dX12_burns_28 : decode cX12_burns 28 = .ok (.imul, 1) := by decide +kernel
theorem dX12_burns_29 : decode cX12_burns 29 = .ok (.bipush 100, 2) := by decide +kernel
theorem dX12_burns_31 : decode cX12_burns 31 = .ok (.idiv, 1) := by decide +kernel
theorem dX12_burns_32 : decode cX12_burns 32 = .ok (.iadd, 1) := by decide +kernel
theorem dX12_burns_33 : decode cX12_burns 33 = .ok (.imul, 1) := by decide +kernel
theorem dX12_burns_34 : decode cX12_burns 34 = .ok (.bipush 24, 2) := by decide +kernel
theorem dX12_burns_36 : decode cX12_burns 36 = .ok (.invokestatic 169, 3) := by decide +kernel
theorem dX12_burns_39 : decode cX12_burns 39 = .ok (.ireturn, 1) := by decide +kernel
theorem dX12_offer_0 : decode cX12_offer 0 = .ok (.aload_n 0, 1) := by decide +kernel
theorem dX12_offer_1 : decode cX12_offer 1 = .ok (.iload_n 1, 1) := by decide +kernel
theorem dX12_offer_2 : decode cX12_offer 2 = .ok (.invokevirtual 159, 3) := by decide +kernel
theorem dX12_offer_5 : decode cX12_offer 5 = .ok (.ifCond .eq 43, 3) := by decide +kernel
theorem dX12_offer_8 : decode cX12_offer 8 = .ok (.aload_n 0, 1) := by decide +kernel
theorem dX12_offer_9 : decode cX12_offer 9 = .ok (.iload_n 2, 1) := by decide +kernel
theorem dX12_offer_10 : decode cX12_offer 10 = .ok (.invokevirtual 159, 3) := by decide +kernel
theorem dX12_offer_13 : decode cX12_offer 13 = .ok (.ifCond .eq 35, 3) := by decide +kernel
theorem dX12_offer_16 : decode cX12_offer 16 = .ok (.iload_n 1, 1) := by decide +kernel
theorem dX12_offer_17 : decode cX12_offer 17 = .ok (.iload_n 2, 1) := by decide +kernel
theorem dX12_offer_18 : decode cX12_offer 18 = .ok (.if_icmp .eq 30, 3) := by decide +kernel
theorem dX12_offer_21 : decode cX12_offer 21 = .ok (.iload_n 3, 1) := by decide +kernel
theorem dX12_offer_22 : decode cX12_offer 22 = .ok (.iconst 1, 1) := by decide +kernel
theorem dX12_offer_23 : decode cX12_offer 23 = .ok (.sipush 9999, 3) := by decide +kernel
theorem dX12_offer_26 : decode cX12_offer 26 = .ok (.invokestatic 149, 3) := by decide +kernel
theorem dX12_offer_29 : decode cX12_offer 29 = .ok (.ifCond .eq 19, 3) := by decide +kernel
theorem dX12_offer_32 : decode cX12_offer 32 = .ok (.iload 4, 2) := by decide +kernel
theorem dX12_offer_34 : decode cX12_offer 34 = .ok (.iconst 0, 1) := by decide +kernel
theorem dX12_offer_35 : decode cX12_offer 35 = .ok (.sipush 9999, 3) := by decide +kernel
theorem dX12_offer_38 : decode cX12_offer 38 = .ok (.invokestatic 149, 3) := by decide +kernel
theorem dX12_offer_41 : decode cX12_offer 41 = .ok (.ifCond .eq 7, 3) := by decide +kernel
theorem dX12_offer_44 : decode cX12_offer 44 = .ok (.iconst 1, 1) := by decide +kernel
theorem dX12_offer_45 : decode cX12_offer 45 = .ok (.goto 4, 3) := by decide +kernel
theorem dX12_offer_48 : decode cX12_offer 48 = .ok (.iconst 0, 1) := by decide +kernel
theorem dX12_offer_49 : decode cX12_offer 49 = .ok (.istore 7, 2) := by decide +kernel
theorem dX12_offer_51 : decode cX12_offer 51 = .ok (.iload 7, 2) := by decide +kernel
theorem dX12_offer_53 : decode cX12_offer 53 = .ok (.ifCond .eq 26, 3) := by decide +kernel
theorem dX12_offer_56 : decode cX12_offer 56 = .ok (.iload 5, 2) := by decide +kernel
theorem dX12_offer_58 : decode cX12_offer 58 = .ok (.invokestatic 166, 3) := by decide +kernel
theorem dX12_offer_61 : decode cX12_offer 61 = .ok (.ifCond .eq 18, 3) := by decide +kernel
theorem dX12_offer_64 : decode cX12_offer 64 = .ok (.iload 6, 2) := by decide +kernel
theorem dX12_offer_66 : decode cX12_offer 66 = .ok (.invokestatic 166, 3) := by decide +kernel
theorem dX12_offer_69 : decode cX12_offer 69 = .ok (.ifCond .eq 10, 3) := by decide +kernel
theorem dX12_offer_72 : decode cX12_offer 72 = .ok (.iload 5, 2) := by decide +kernel
theorem dX12_offer_74 : decode cX12_offer 74 = .ok (.iload 6, 2) := by decide +kernel
theorem dX12_offer_76 : decode cX12_offer 76 = .ok (.if_icmp .le 6, 3) := by decide +kernel
theorem dX12_offer_79 : decode cX12_offer 79 = .ok (.bipush (-2), 2) := by decide +kernel
theorem dX12_offer_81 : decode cX12_offer 81 = .ok (.ireturn, 1) := by decide +kernel
theorem dX12_offer_82 : decode cX12_offer 82 = .ok (.aload_n 0, 1) := by decide +kernel
theorem dX12_offer_83 : decode cX12_offer 83 = .ok (.getfield 156, 3) := by decide +kernel
theorem dX12_offer_86 : decode cX12_offer 86 = .ok (.bipush 10, 2) := by decide +kernel
theorem dX12_offer_88 : decode cX12_offer 88 = .ok (.if_icmp .ne 6, 3) := by decide +kernel
theorem dX12_offer_91 : decode cX12_offer 91 = .ok (.bipush (-4), 2) := by decide +kernel
theorem dX12_offer_93 : decode cX12_offer 93 = .ok (.ireturn, 1) := by decide +kernel
theorem dX12_offer_94 : decode cX12_offer 94 = .ok (.aload_n 0, 1) := by decide +kernel
theorem dX12_offer_95 : decode cX12_offer 95 = .ok (.getfield 44, 3) := by decide +kernel
theorem dX12_offer_98 : decode cX12_offer 98 = .ok (.aload_n 0, 1) := by decide +kernel
theorem dX12_offer_99 : decode cX12_offer 99 = .ok (.getfield 156, 3) := by decide +kernel
theorem dX12_offer_102 : decode cX12_offer 102 = .ok (.iload_n 1, 1) := by decide +kernel
theorem dX12_offer_103 : decode cX12_offer 103 = .ok (.iastore, 1) := by decide +kernel
theorem dX12_offer_104 : decode cX12_offer 104 = .ok (.aload_n 0, 1) := by decide +kernel
theorem dX12_offer_105 : decode cX12_offer 105 = .ok (.getfield 47, 3) := by decide +kernel
theorem dX12_offer_108 : decode cX12_offer 108 = .ok (.aload_n 0, 1) := by decide +kernel
theorem dX12_offer_109 : decode cX12_offer 109 = .ok (.getfield 156, 3) := by decide +kernel
theorem dX12_offer_112 : decode cX12_offer 112 = .ok (.iload_n 2, 1) := by decide +kernel
theorem dX12_offer_113 : decode cX12_offer 113 = .ok (.iastore, 1) := by decide +kernel
theorem dX12_offer_114 : decode cX12_offer 114 = .ok (.aload_n 0, 1) := by decide +kernel
theorem dX12_offer_115 : decode cX12_offer 115 = .ok (.getfield 50, 3) := by decide +kernel
theorem dX12_offer_118 : decode cX12_offer 118 = .ok (.aload_n 0, 1) := by decide +kernel
theorem dX12_offer_119 : decode cX12_offer 119 = .ok (.getfield 156, 3) := by decide +kernel
theorem dX12_offer_122 : decode cX12_offer 122 = .ok (.iload_n 3, 1) := by decide +kernel
theorem dX12_offer_123 : decode cX12_offer 123 = .ok (.iastore, 1) := by decide +kernel
theorem dX12_offer_124 : decode cX12_offer 124 = .ok (.aload_n 0, 1) := by decide +kernel
theorem dX12_offer_125 : decode cX12_offer 125 = .ok (.getfield 53, 3) := by decide +kernel
theorem dX12_offer_128 : decode cX12_offer 128 = .ok (.aload_n 0, 1) := by decide +kernel
theorem dX12_offer_129 : decode cX12_offer 129 = .ok (.getfield 156, 3) := by decide +kernel
theorem dX12_offer_132 : decode cX12_offer 132 = .ok (.iload 4, 2) := by decide +kernel
theorem dX12_offer_134 : decode cX12_offer 134 = .ok (.iastore, 1) := by decide +kernel
theorem dX12_offer_135 : decode cX12_offer 135 = .ok (.aload_n 0, 1) := by decide +kernel
theorem dX12_offer_136 : decode cX12_offer 136 = .ok (.getfield 56, 3) := by decide +kernel
theorem dX12_offer_139 : decode cX12_offer 139 = .ok (.aload_n 0, 1) := by decide +kernel
theorem dX12_offer_140 : decode cX12_offer 140 = .ok (.getfield 156, 3) := by decide +kernel
theorem dX12_offer_143 : decode cX12_offer 143 = .ok (.iload 5, 2) := by decide +kernel
theorem dX12_offer_145 : decode cX12_offer 145 = .ok (.iastore, 1) := by decide +kernel
theorem dX12_offer_146 : decode cX12_offer 146 = .ok (.aload_n 0, 1) := by decide +kernel
theorem dX12_offer_147 : decode cX12_offer 147 = .ok (.getfield 59, 3) := by decide +kernel
theorem dX12_offer_150 : decode cX12_offer 150 = .ok (.aload_n 0, 1) := by decide +kernel
theorem dX12_offer_151 : decode cX12_offer 151 = .ok (.getfield 156, 3) := by decide +kernel
theorem dX12_offer_154 : decode cX12_offer 154 = .ok (.iload 6, 2) := by decide +kernel
theorem dX12_offer_156 : decode cX12_offer 156 = .ok (.iastore, 1) := by decide +kernel
theorem dX12_offer_157 : decode cX12_offer 157 = .ok (.aload_n 0, 1) := by decide +kernel
theorem dX12_offer_158 : decode cX12_offer 158 = .ok (.dup, 1) := by decide +kernel
theorem dX12_offer_159 : decode cX12_offer 159 = .ok (.getfield 156, 3) := by decide +kernel
theorem dX12_offer_162 : decode cX12_offer 162 = .ok (.iconst 1, 1) := by decide +kernel
theorem dX12_offer_163 : decode cX12_offer 163 = .ok (.iadd, 1) := by decide +kernel
theorem dX12_offer_164 : decode cX12_offer 164 = .ok (.putfield 156, 3) := by decide +kernel
theorem dX12_offer_167 : decode cX12_offer 167 = .ok (.aload_n 0, 1) := by decide +kernel
theorem dX12_offer_168 : decode cX12_offer 168 = .ok (.getfield 156, 3) := by decide +kernel
theorem dX12_offer_171 : decode cX12_offer 171 = .ok (.iconst 1, 1) := by decide +kernel
theorem dX12_offer_172 : decode cX12_offer 172 = .ok (.isub, 1) := by decide +kernel
end
section
theorem dX12_offer_173 : decode cX12_offer 173 = .ok (.ireturn, 1) := by decide +kernel
theorem dX12_begins_0 : decode cX12_begins 0 = .ok (.iload 4, 2) := by decide +kernel
theorem dX12_begins_2 : decode cX12_begins 2 = .ok (.aload_n 0, 1) := by decide +kernel
theorem dX12_begins_3 : decode cX12_begins 3 = .ok (.iload_n 1, 1) := by decide +kernel
theorem dX12_begins_4 : decode cX12_begins 4 = .ok (.iload_n 3, 1) := by decide +kernel
theorem dX12_begins_5 : decode cX12_begins 5 = .ok (.aload_n 0, 1) := by decide +kernel
theorem dX12_begins_6 : decode cX12_begins 6 = .ok (.getfield 44, 3) := by decide +kernel
theorem dX12_begins_9 : decode cX12_begins 9 = .ok (.iload_n 2, 1) := by decide +kernel
theorem dX12_begins_10 : decode cX12_begins 10 = .ok (.iaload, 1) := by decide +kernel
theorem dX12_begins_11 : decode cX12_begins 11 = .ok (.invokevirtual 173, 3) := by decide +kernel
theorem dX12_begins_14 : decode cX12_begins 14 = .ok (.iadd, 1) := by decide +kernel
theorem dX12_begins_15 : decode cX12_begins 15 = .ok (.istore 5, 2) := by decide +kernel
theorem dX12_begins_17 : decode cX12_begins 17 = .ok (.iload 5, 2) := by decide +kernel
theorem dX12_begins_19 : decode cX12_begins 19 = .ok (.aload_n 0, 1) := by decide +kernel
theorem dX12_begins_20 : decode cX12_begins 20 = .ok (.getfield 56, 3) := by decide +kernel
theorem dX12_begins_23 : decode cX12_begins 23 = .ok (.iload_n 2, 1) := by decide +kernel
theorem dX12_begins_24 : decode cX12_begins 24 = .ok (.iaload, 1) := by decide +kernel
theorem dX12_begins_25 : decode cX12_begins 25 = .ok (.if_icmp .le 8, 3) := by decide +kernel
theorem dX12_begins_28 : decode cX12_begins 28 = .ok (.iload 5, 2) := by decide +kernel
theorem dX12_begins_30 : decode cX12_begins 30 = .ok (.goto 9, 3) := by decide +kernel
theorem dX12_begins_33 : decode cX12_begins 33 = .ok (.aload_n 0, 1) := by decide +kernel
theorem dX12_begins_34 : decode cX12_begins 34 = .ok (.getfield 56, 3) := by decide +kernel
theorem dX12_begins_37 : decode cX12_begins 37 = .ok (.iload_n 2, 1) := by decide +kernel
theorem dX12_begins_38 : decode cX12_begins 38 = .ok (.iaload, 1) := by decide +kernel
theorem dX12_begins_39 : decode cX12_begins 39 = .ok (.ireturn, 1) := by decide +kernel
theorem dX12_ends_0 : decode cX12_ends 0 = .ok (.aload_n 0, 1) := by decide +kernel
theorem dX12_ends_1 : decode cX12_ends 1 = .ok (.iload_n 1, 1) := by decide +kernel
theorem dX12_ends_2 : decode cX12_ends 2 = .ok (.iload_n 2, 1) := by decide +kernel
theorem dX12_ends_3 : decode cX12_ends 3 = .ok (.iload_n 3, 1) := by decide +kernel
theorem dX12_ends_4 : decode cX12_ends 4 = .ok (.iload 4, 2) := by decide +kernel
theorem dX12_ends_6 : decode cX12_ends 6 = .ok (.invokevirtual 177, 3) := by decide +kernel
theorem dX12_ends_9 : decode cX12_ends 9 = .ok (.aload_n 0, 1) := by decide +kernel
theorem dX12_ends_10 : decode cX12_ends 10 = .ok (.getfield 50, 3) := by decide +kernel
theorem dX12_ends_13 : decode cX12_ends 13 = .ok (.iload_n 2, 1) := by decide +kernel
theorem dX12_ends_14 : decode cX12_ends 14 = .ok (.iaload, 1) := by decide +kernel
theorem dX12_ends_15 : decode cX12_ends 15 = .ok (.aload_n 0, 1) := by decide +kernel
theorem dX12_ends_16 : decode cX12_ends 16 = .ok (.getfield 7, 3) := by decide +kernel
theorem dX12_ends_19 : decode cX12_ends 19 = .ok (.aload_n 0, 1) := by decide +kernel
theorem dX12_ends_20 : decode cX12_ends 20 = .ok (.getfield 44, 3) := by decide +kernel
theorem dX12_ends_23 : decode cX12_ends 23 = .ok (.iload_n 2, 1) := by decide +kernel
theorem dX12_ends_24 : decode cX12_ends 24 = .ok (.iaload, 1) := by decide +kernel
theorem dX12_ends_25 : decode cX12_ends 25 = .ok (.iaload, 1) := by decide +kernel
theorem dX12_ends_26 : decode cX12_ends 26 = .ok (.invokestatic 169, 3) := by decide +kernel
theorem dX12_ends_29 : decode cX12_ends 29 = .ok (.iadd, 1) := by decide +kernel
theorem dX12_ends_30 : decode cX12_ends 30 = .ok (.aload_n 0, 1) := by decide +kernel
theorem dX12_ends_31 : decode cX12_ends 31 = .ok (.iload_n 1, 1) := by decide +kernel
theorem dX12_ends_32 : decode cX12_ends 32 = .ok (.aload_n 0, 1) := by decide +kernel
theorem dX12_ends_33 : decode cX12_ends 33 = .ok (.getfield 44, 3) := by decide +kernel
theorem dX12_ends_36 : decode cX12_ends 36 = .ok (.iload_n 2, 1) := by decide +kernel
theorem dX12_ends_37 : decode cX12_ends 37 = .ok (.iaload, 1) := by decide +kernel
theorem dX12_ends_38 : decode cX12_ends 38 = .ok (.aload_n 0, 1) := by decide +kernel
theorem dX12_ends_39 : decode cX12_ends 39 = .ok (.getfield 47, 3) := by decide +kernel
theorem dX12_ends_42 : decode cX12_ends 42 = .ok (.iload_n 2, 1) := by decide +kernel
theorem dX12_ends_43 : decode cX12_ends 43 = .ok (.iaload, 1) := by decide +kernel
theorem dX12_ends_44 : decode cX12_ends 44 = .ok (.invokevirtual 173, 3) := by decide +kernel
theorem dX12_ends_47 : decode cX12_ends 47 = .ok (.iadd, 1) := by decide +kernel
theorem dX12_ends_48 : decode cX12_ends 48 = .ok (.aload_n 0, 1) := by decide +kernel
theorem dX12_ends_49 : decode cX12_ends 49 = .ok (.getfield 50, 3) := by decide +kernel
theorem dX12_ends_52 : decode cX12_ends 52 = .ok (.iload_n 2, 1) := by decide +kernel
theorem dX12_ends_53 : decode cX12_ends 53 = .ok (.iaload, 1) := by decide +kernel
theorem dX12_ends_54 : decode cX12_ends 54 = .ok (.aload_n 0, 1) := by decide +kernel
theorem dX12_ends_55 : decode cX12_ends 55 = .ok (.getfield 7, 3) := by decide +kernel
theorem dX12_ends_58 : decode cX12_ends 58 = .ok (.aload_n 0, 1) := by decide +kernel
theorem dX12_ends_59 : decode cX12_ends 59 = .ok (.getfield 47, 3) := by decide +kernel
theorem dX12_ends_62 : decode cX12_ends 62 = .ok (.iload_n 2, 1) := by decide +kernel
theorem dX12_ends_63 : decode cX12_ends 63 = .ok (.iaload, 1) := by decide +kernel
theorem dX12_ends_64 : decode cX12_ends 64 = .ok (.iaload, 1) := by decide +kernel
theorem dX12_ends_65 : decode cX12_ends 65 = .ok (.invokestatic 169, 3) := by decide +kernel
theorem dX12_ends_68 : decode cX12_ends 68 = .ok (.iadd, 1) := by decide +kernel
theorem dX12_ends_69 : decode cX12_ends 69 = .ok (.ireturn, 1) := by decide +kernel
theorem dX12_burnt_0 : decode cX12_burnt 0 = .ok (.aload_n 0, 1) := by decide +kernel
theorem dX12_burnt_1 : decode cX12_burnt 1 = .ok (.iload_n 1, 1) := by decide +kernel
theorem dX12_burnt_2 : decode cX12_burnt 2 = .ok (.iload_n 3, 1) := by decide +kernel
theorem dX12_burnt_3 : decode cX12_burnt 3 = .ok (.aload_n 0, 1) := by decide +kernel
theorem dX12_burnt_4 : decode cX12_burnt 4 = .ok (.getfield 44, 3) := by decide +kernel
theorem dX12_burnt_7 : decode cX12_burnt 7 = .ok (.iload_n 2, 1) := by decide +kernel
theorem dX12_burnt_8 : decode cX12_burnt 8 = .ok (.iaload, 1) := by decide +kernel
theorem dX12_burnt_9 : decode cX12_burnt 9 = .ok (.invokevirtual 181, 3) := by decide +kernel
theorem dX12_burnt_12 : decode cX12_burnt 12 = .ok (.aload_n 0, 1) := by decide +kernel
theorem dX12_burnt_13 : decode cX12_burnt 13 = .ok (.iload_n 1, 1) := by decide +kernel
theorem dX12_burnt_14 : decode cX12_burnt 14 = .ok (.aload_n 0, 1) := by decide +kernel
theorem dX12_burnt_15 : decode cX12_burnt 15 = .ok (.getfield 44, 3) := by decide +kernel
theorem dX12_burnt_18 : decode cX12_burnt 18 = .ok (.iload_n 2, 1) := by decide +kernel
theorem dX12_burnt_19 : decode cX12_burnt 19 = .ok (.iaload, 1) := by decide +kernel
theorem dX12_burnt_20 : decode cX12_burnt 20 = .ok (.aload_n 0, 1) := by decide +kernel
theorem dX12_burnt_21 : decode cX12_burnt 21 = .ok (.getfield 47, 3) := by decide +kernel
theorem dX12_burnt_24 : decode cX12_burnt 24 = .ok (.iload_n 2, 1) := by decide +kernel
theorem dX12_burnt_25 : decode cX12_burnt 25 = .ok (.iaload, 1) := by decide +kernel
theorem dX12_burnt_26 : decode cX12_burnt 26 = .ok (.invokevirtual 181, 3) := by decide +kernel
theorem dX12_burnt_29 : decode cX12_burnt 29 = .ok (.iadd, 1) := by decide +kernel
theorem dX12_burnt_30 : decode cX12_burnt 30 = .ok (.ireturn, 1) := by decide +kernel
theorem dX12_earns_0 : decode cX12_earns 0 = .ok (.aload_n 0, 1) := by decide +kernel
theorem dX12_earns_1 : decode cX12_earns 1 = .ok (.getfield 53, 3) := by decide +kernel
theorem dX12_earns_4 : decode cX12_earns 4 = .ok (.iload_n 2, 1) := by decide +kernel
theorem dX12_earns_5 : decode cX12_earns 5 = .ok (.iaload, 1) := by decide +kernel
theorem dX12_earns_6 : decode cX12_earns 6 = .ok (.i2l, 1) := by decide +kernel
theorem dX12_earns_7 : decode cX12_earns 7 = .ok (.aload_n 0, 1) := by decide +kernel
theorem dX12_earns_8 : decode cX12_earns 8 = .ok (.getfield 50, 3) := by decide +kernel
theorem dX12_earns_11 : decode cX12_earns 11 = .ok (.iload_n 2, 1) := by decide +kernel
theorem dX12_earns_12 : decode cX12_earns 12 = .ok (.iaload, 1) := by decide +kernel
theorem dX12_earns_13 : decode cX12_earns 13 = .ok (.i2l, 1) := by decide +kernel
theorem dX12_earns_14 : decode cX12_earns 14 = .ok (.lmul, 1) := by decide +kernel
theorem dX12_earns_15 : decode cX12_earns 15 = .ok (.aload_n 0, 1) := by decide +kernel
theorem dX12_earns_16 : decode cX12_earns 16 = .ok (.iload_n 1, 1) := by decide +kernel
theorem dX12_earns_17 : decode cX12_earns 17 = .ok (.iload_n 3, 1) := by decide +kernel
theorem dX12_earns_18 : decode cX12_earns 18 = .ok (.aload_n 0, 1) := by decide +kernel
theorem dX12_earns_19 : decode cX12_earns 19 = .ok (.getfield 44, 3) := by decide +kernel
theorem dX12_earns_22 : decode cX12_earns 22 = .ok (.iload_n 2, 1) := by decide +kernel
theorem dX12_earns_23 : decode cX12_earns 23 = .ok (.iaload, 1) := by decide +kernel
theorem dX12_earns_24 : decode cX12_earns 24 = .ok (.invokevirtual 181, 3) := by decide +kernel
theorem dX12_earns_27 : decode cX12_earns 27 = .ok (.i2l, 1) := by decide +kernel
theorem dX12_earns_28 : decode cX12_earns 28 = .ok (.aload_n 0, 1) := by decide +kernel
theorem dX12_earns_29 : decode cX12_earns 29 = .ok (.getfield 13, 3) := by decide +kernel
theorem dX12_earns_32 : decode cX12_earns 32 = .ok (.iload_n 3, 1) := by decide +kernel
theorem dX12_earns_33 : decode cX12_earns 33 = .ok (.iaload, 1) := by decide +kernel
theorem dX12_earns_34 : decode cX12_earns 34 = .ok (.i2l, 1) := by decide +kernel
theorem dX12_earns_35 : decode cX12_earns 35 = .ok (.lmul, 1) := by decide +kernel
theorem dX12_earns_36 : decode cX12_earns 36 = .ok (.lsub, 1) := by decide +kernel
theorem dX12_earns_37 : decode cX12_earns 37 = .ok (.aload_n 0, 1) := by decide +kernel
theorem dX12_earns_38 : decode cX12_earns 38 = .ok (.iload_n 1, 1) := by decide +kernel
theorem dX12_earns_39 : decode cX12_earns 39 = .ok (.aload_n 0, 1) := by decide +kernel
theorem dX12_earns_40 : decode cX12_earns 40 = .ok (.getfield 44, 3) := by decide +kernel
theorem dX12_earns_43 : decode cX12_earns 43 = .ok (.iload_n 2, 1) := by decide +kernel
theorem dX12_earns_44 : decode cX12_earns 44 = .ok (.iaload, 1) := by decide +kernel
theorem dX12_earns_45 : decode cX12_earns 45 = .ok (.aload_n 0, 1) := by decide +kernel
theorem dX12_earns_46 : decode cX12_earns 46 = .ok (.getfield 47, 3) := by decide +kernel
theorem dX12_earns_49 : decode cX12_earns 49 = .ok (.iload_n 2, 1) := by decide +kernel
theorem dX12_earns_50 : decode cX12_earns 50 = .ok (.iaload, 1) := by decide +kernel
theorem dX12_earns_51 : decode cX12_earns 51 = .ok (.invokevirtual 181, 3) := by decide +kernel
theorem dX12_earns_54 : decode cX12_earns 54 = .ok (.i2l, 1) := by decide +kernel
theorem dX12_earns_55 : decode cX12_earns 55 = .ok (.aload_n 0, 1) := by decide +kernel
theorem dX12_earns_56 : decode cX12_earns 56 = .ok (.getfield 13, 3) := by decide +kernel
theorem dX12_earns_59 : decode cX12_earns 59 = .ok (.aload_n 0, 1) := by decide +kernel
theorem dX12_earns_60 : decode cX12_earns 60 = .ok (.getfield 44, 3) := by decide +kernel
theorem dX12_earns_63 : decode cX12_earns 63 = .ok (.iload_n 2, 1) := by decide +kernel
theorem dX12_earns_64 : decode cX12_earns 64 = .ok (.iaload, 1) := by decide +kernel
theorem dX12_earns_65 : decode cX12_earns 65 = .ok (.iaload, 1) := by decide +kernel
theorem dX12_earns_66 : decode cX12_earns 66 = .ok (.i2l, 1) := by decide +kernel
theorem dX12_earns_67 : decode cX12_earns 67 = .ok (.lmul, 1) := by decide +kernel
theorem dX12_earns_68 : decode cX12_earns 68 = .ok (.lsub, 1) := by decide +kernel
theorem dX12_earns_69 : decode cX12_earns 69 = .ok (.lreturn, 1) := by decide +kernel
theorem dX12_hinders_0 : decode cX12_hinders 0 = .ok (.aload_n 0, 1) := by decide +kernel
theorem dX12_hinders_1 : decode cX12_hinders 1 = .ok (.getfield 50, 3) := by decide +kernel
theorem dX12_hinders_4 : decode cX12_hinders 4 = .ok (.iload_n 2, 1) := by decide +kernel
theorem dX12_hinders_5 : decode cX12_hinders 5 = .ok (.iaload, 1) := by decide +kernel
theorem dX12_hinders_6 : decode cX12_hinders 6 = .ok (.aload_n 0, 1) := by decide +kernel
theorem dX12_hinders_7 : decode cX12_hinders 7 = .ok (.getfield 25, 3) := by decide +kernel
theorem dX12_hinders_10 : decode cX12_hinders 10 = .ok (.iload_n 1, 1) := by decide +kernel
theorem dX12_hinders_11 : decode cX12_hinders 11 = .ok (.iaload, 1) := by decide +kernel
theorem dX12_hinders_12 : decode cX12_hinders 12 = .ok (.if_icmp .le 5, 3) := by decide +kernel
theorem dX12_hinders_15 : decode cX12_hinders 15 = .ok (.iconst 1, 1) := by decide +kernel
theorem dX12_hinders_16 : decode cX12_hinders 16 = .ok (.ireturn, 1) := by decide +kernel
theorem dX12_hinders_17 : decode cX12_hinders 17 = .ok (.aload_n 0, 1) := by decide +kernel
theorem dX12_hinders_18 : decode cX12_hinders 18 = .ok (.iload_n 3, 1) := by decide +kernel
theorem dX12_hinders_19 : decode cX12_hinders 19 = .ok (.aload_n 0, 1) := by decide +kernel
theorem dX12_hinders_20 : decode cX12_hinders 20 = .ok (.getfield 44, 3) := by decide +kernel
theorem dX12_hinders_23 : decode cX12_hinders 23 = .ok (.iload_n 2, 1) := by decide +kernel
theorem dX12_hinders_24 : decode cX12_hinders 24 = .ok (.iaload, 1) := by decide +kernel
theorem dX12_hinders_25 : decode cX12_hinders 25 = .ok (.invokevirtual 184, 3) := by decide +kernel
theorem dX12_hinders_28 : decode cX12_hinders 28 = .ok (.ifCond .ne 22, 3) := by decide +kernel
theorem dX12_hinders_31 : decode cX12_hinders 31 = .ok (.aload_n 0, 1) := by decide +kernel
theorem dX12_hinders_32 : decode cX12_hinders 32 = .ok (.aload_n 0, 1) := by decide +kernel
theorem dX12_hinders_33 : decode cX12_hinders 33 = .ok (.getfield 44, 3) := by decide +kernel
theorem dX12_hinders_36 : decode cX12_hinders 36 = .ok (.iload_n 2, 1) := by decide +kernel
theorem dX12_hinders_37 : decode cX12_hinders 37 = .ok (.iaload, 1) := by decide +kernel
theorem dX12_hinders_38 : decode cX12_hinders 38 = .ok (.aload_n 0, 1) := by decide +kernel
theorem dX12_hinders_39 : decode cX12_hinders 39 = .ok (.getfield 47, 3) := by decide +kernel
theorem dX12_hinders_42 : decode cX12_hinders 42 = .ok (.iload_n 2, 1) := by decide +kernel
theorem dX12_hinders_43 : decode cX12_hinders 43 = .ok (.iaload, 1) := by decide +kernel
theorem dX12_hinders_44 : decode cX12_hinders 44 = .ok (.invokevirtual 184, 3) := by decide +kernel
theorem dX12_hinders_47 : decode cX12_hinders 47 = .ok (.ifCond .eq 5, 3) := by decide +kernel
theorem dX12_hinders_50 : decode cX12_hinders 50 = .ok (.iconst 2, 1) := by decide +kernel
theorem dX12_hinders_51 : decode cX12_hinders 51 = .ok (.ireturn, 1) := by decide +kernel
theorem dX12_hinders_52 : decode cX12_hinders 52 = .ok (.aload_n 0, 1) := by decide +kernel
theorem dX12_hinders_53 : decode cX12_hinders 53 = .ok (.iload_n 1, 1) := by decide +kernel
theorem dX12_hinders_54 : decode cX12_hinders 54 = .ok (.iload_n 2, 1) := by decide +kernel
theorem dX12_hinders_55 : decode cX12_hinders 55 = .ok (.iload_n 3, 1) := by decide +kernel
theorem dX12_hinders_56 : decode cX12_hinders 56 = .ok (.iload 4, 2) := by decide +kernel
theorem dX12_hinders_58 : decode cX12_hinders 58 = .ok (.invokevirtual 177, 3) := by decide +kernel
theorem dX12_hinders_61 : decode cX12_hinders 61 = .ok (.aload_n 0, 1) := by decide +kernel
theorem dX12_hinders_62 : decode cX12_hinders 62 = .ok (.getfield 59, 3) := by decide +kernel
theorem dX12_hinders_65 : decode cX12_hinders 65 = .ok (.iload_n 2, 1) := by decide +kernel
theorem dX12_hinders_66 : decode cX12_hinders 66 = .ok (.iaload, 1) := by decide +kernel
theorem dX12_hinders_67 : decode cX12_hinders 67 = .ok (.if_icmp .le 5, 3) := by decide +kernel
theorem dX12_hinders_70 : decode cX12_hinders 70 = .ok (.iconst 3, 1) := by decide +kernel
theorem dX12_hinders_71 : decode cX12_hinders 71 = .ok (.ireturn, 1) := by decide +kernel
theorem dX12_hinders_72 : decode cX12_hinders 72 = .ok (.aload_n 0, 1) := by decide +kernel
theorem dX12_hinders_73 : decode cX12_hinders 73 = .ok (.iload_n 1, 1) := by decide +kernel
theorem dX12_hinders_74 : decode cX12_hinders 74 = .ok (.iload_n 3, 1) := by decide +kernel
theorem dX12_hinders_75 : decode cX12_hinders 75 = .ok (.aload_n 0, 1) := by decide +kernel
theorem dX12_hinders_76 : decode cX12_hinders 76 = .ok (.getfield 44, 3) := by decide +kernel
theorem dX12_hinders_79 : decode cX12_hinders 79 = .ok (.iload_n 2, 1) := by decide +kernel
theorem dX12_hinders_80 : decode cX12_hinders 80 = .ok (.iaload, 1) := by decide +kernel
theorem dX12_hinders_81 : decode cX12_hinders 81 = .ok (.invokevirtual 181, 3) := by decide +kernel
theorem dX12_hinders_84 : decode cX12_hinders 84 = .ok (.istore 5, 2) := by decide +kernel
theorem dX12_hinders_86 : decode cX12_hinders 86 = .ok (.aload_n 0, 1) := by decide +kernel
theorem dX12_hinders_87 : decode cX12_hinders 87 = .ok (.iload_n 1, 1) := by decide +kernel
theorem dX12_hinders_88 : decode cX12_hinders 88 = .ok (.aload_n 0, 1) := by decide +kernel
theorem dX12_hinders_89 : decode cX12_hinders 89 = .ok (.getfield 44, 3) := by decide +kernel
theorem dX12_hinders_92 : decode cX12_hinders 92 = .ok (.iload_n 2, 1) := by decide +kernel
theorem dX12_hinders_93 : decode cX12_hinders 93 = .ok (.iaload, 1) := by decide +kernel
theorem dX12_hinders_94 : decode cX12_hinders 94 = .ok (.aload_n 0, 1) := by decide +kernel
theorem dX12_hinders_95 : decode cX12_hinders 95 = .ok (.getfield 47, 3) := by decide +kernel
theorem dX12_hinders_98 : decode cX12_hinders 98 = .ok (.iload_n 2, 1) := by decide +kernel
theorem dX12_hinders_99 : decode cX12_hinders 99 = .ok (.iaload, 1) := by decide +kernel
theorem dX12_hinders_100 : decode cX12_hinders 100 = .ok (.invokevirtual 181, 3) := by decide +kernel
theorem dX12_hinders_103 : decode cX12_hinders 103 = .ok (.istore 6, 2) := by decide +kernel
theorem dX12_hinders_105 : decode cX12_hinders 105 = .ok (.iload 5, 2) := by decide +kernel
theorem dX12_hinders_107 : decode cX12_hinders 107 = .ok (.aload_n 0, 1) := by decide +kernel
theorem dX12_hinders_108 : decode cX12_hinders 108 = .ok (.getfield 28, 3) := by decide +kernel
theorem dX12_hinders_111 : decode cX12_hinders 111 = .ok (.iload_n 1, 1) := by decide +kernel
theorem dX12_hinders_112 : decode cX12_hinders 112 = .ok (.iaload, 1) := by decide +kernel
theorem dX12_hinders_113 : decode cX12_hinders 113 = .ok (.if_icmp .gt 14, 3) := by decide +kernel
theorem dX12_hinders_116 : decode cX12_hinders 116 = .ok (.iload 6, 2) := by decide +kernel
theorem dX12_hinders_118 : decode cX12_hinders 118 = .ok (.aload_n 0, 1) := by decide +kernel
theorem dX12_hinders_119 : decode cX12_hinders 119 = .ok (.getfield 28, 3) := by decide +kernel
theorem dX12_hinders_122 : decode cX12_hinders 122 = .ok (.iload_n 1, 1) := by decide +kernel
theorem dX12_hinders_123 : decode cX12_hinders 123 = .ok (.iaload, 1) := by decide +kernel
theorem dX12_hinders_124 : decode cX12_hinders 124 = .ok (.if_icmp .le 5, 3) := by decide +kernel
theorem dX12_hinders_127 : decode cX12_hinders 127 = .ok (.iconst 4, 1) := by decide +kernel
theorem dX12_hinders_128 : decode cX12_hinders 128 = .ok (.ireturn, 1) := by decide +kernel
theorem dX12_hinders_129 : decode cX12_hinders 129 = .ok (.iload 5, 2) := by decide +kernel
theorem dX12_hinders_131 : decode cX12_hinders 131 = .ok (.ifCond .le 12, 3) := by decide +kernel
theorem dX12_hinders_134 : decode cX12_hinders 134 = .ok (.aload_n 0, 1) := by decide +kernel
theorem dX12_hinders_135 : decode cX12_hinders 135 = .ok (.getfield 13, 3) := by decide +kernel
theorem dX12_hinders_138 : decode cX12_hinders 138 = .ok (.iload_n 3, 1) := by decide +kernel
theorem dX12_hinders_139 : decode cX12_hinders 139 = .ok (.iaload, 1) := by decide +kernel
theorem dX12_hinders_140 : decode cX12_hinders 140 = .ok (.ifCond .eq 22, 3) := by decide +kernel
theorem dX12_hinders_143 : decode cX12_hinders 143 = .ok (.iload 6, 2) := by decide +kernel
theorem dX12_hinders_145 : decode cX12_hinders 145 = .ok (.ifCond .le 19, 3) := by decide +kernel
theorem dX12_hinders_148 : decode cX12_hinders 148 = .ok (.aload_n 0, 1) := by decide +kernel
theorem dX12_hinders_149 : decode cX12_hinders 149 = .ok (.getfield 13, 3) := by decide +kernel
theorem dX12_hinders_152 : decode cX12_hinders 152 = .ok (.aload_n 0, 1) := by decide +kernel
theorem dX12_hinders_153 : decode cX12_hinders 153 = .ok (.getfield 44, 3) := by decide +kernel
theorem dX12_hinders_156 : decode cX12_hinders 156 = .ok (.iload_n 2, 1) := by decide +kernel
theorem dX12_hinders_157 : decode cX12_hinders 157 = .ok (.iaload, 1) := by decide +kernel
theorem dX12_hinders_158 : decode cX12_hinders 158 = .ok (.iaload, 1) := by decide +kernel
theorem dX12_hinders_159 : decode cX12_hinders 159 = .ok (.ifCond .ne 5, 3) := by decide +kernel
theorem dX12_hinders_162 : decode cX12_hinders 162 = .ok (.iconst 5, 1) := by decide +kernel
theorem dX12_hinders_163 : decode cX12_hinders 163 = .ok (.ireturn, 1) := by decide +kernel
theorem dX12_hinders_164 : decode cX12_hinders 164 = .ok (.aload_n 0, 1) := by decide +kernel
theorem dX12_hinders_165 : decode cX12_hinders 165 = .ok (.iload_n 1, 1) := by decide +kernel
theorem dX12_hinders_166 : decode cX12_hinders 166 = .ok (.iload_n 2, 1) := by decide +kernel
theorem dX12_hinders_167 : decode cX12_hinders 167 = .ok (.iload_n 3, 1) := by decide +kernel
theorem dX12_hinders_168 : decode cX12_hinders 168 = .ok (.iload 4, 2) := by decide +kernel
theorem dX12_hinders_170 : decode cX12_hinders 170 = .ok (.invokevirtual 188, 3) := by decide +kernel
theorem dX12_hinders_173 : decode cX12_hinders 173 = .ok (.sipush 9999, 3) := by decide +kernel
theorem dX12_hinders_176 : decode cX12_hinders 176 = .ok (.if_icmp .le 8, 3) := by decide +kernel
theorem dX12_hinders_179 : decode cX12_hinders 179 = .ok (.bipush 6, 2) := by decide +kernel
theorem dX12_hinders_181 : decode cX12_hinders 181 = .ok (.goto 18, 3) := by decide +kernel
theorem dX12_hinders_184 : decode cX12_hinders 184 = .ok (.aload_n 0, 1) := by decide +kernel
theorem dX12_hinders_185 : decode cX12_hinders 185 = .ok (.getfield 62, 3) := by decide +kernel
theorem dX12_hinders_188 : decode cX12_hinders 188 = .ok (.iload_n 2, 1) := by decide +kernel
theorem dX12_hinders_189 : decode cX12_hinders 189 = .ok (.baload, 1) := by decide +kernel
theorem dX12_hinders_190 : decode cX12_hinders 190 = .ok (.ifCond .eq 8, 3) := by decide +kernel
theorem dX12_hinders_193 : decode cX12_hinders 193 = .ok (.bipush 7, 2) := by decide +kernel
theorem dX12_hinders_195 : decode cX12_hinders 195 = .ok (.goto 4, 3) := by decide +kernel
theorem dX12_hinders_198 : decode cX12_hinders 198 = .ok (.iconst 0, 1) := by decide +kernel
theorem dX12_hinders_199 : decode cX12_hinders 199 = .ok (.ireturn, 1) := by decide +kernel
theorem dX12_why_0 : decode cX12_why 0 = .ok (.aload_n 0, 1) := by decide +kernel
theorem dX12_why_1 : decode cX12_why 1 = .ok (.iload_n 1, 1) := by decide +kernel
theorem dX12_why_2 : decode cX12_why 2 = .ok (.invokevirtual 163, 3) := by decide +kernel
theorem dX12_why_5 : decode cX12_why 5 = .ok (.ifCond .eq 32, 3) := by decide +kernel
theorem dX12_why_8 : decode cX12_why 8 = .ok (.aload_n 0, 1) := by decide +kernel
theorem dX12_why_9 : decode cX12_why 9 = .ok (.iload_n 2, 1) := by decide +kernel
theorem dX12_why_10 : decode cX12_why 10 = .ok (.invokevirtual 191, 3) := by decide +kernel
theorem dX12_why_13 : decode cX12_why 13 = .ok (.ifCond .eq 24, 3) := by decide +kernel
theorem dX12_why_16 : decode cX12_why 16 = .ok (.aload_n 0, 1) := by decide +kernel
theorem dX12_why_17 : decode cX12_why 17 = .ok (.iload_n 1, 1) := by decide +kernel
theorem dX12_why_18 : decode cX12_why 18 = .ok (.iload_n 2, 1) := by decide +kernel
theorem dX12_why_19 : decode cX12_why 19 = .ok (.aload_n 0, 1) := by decide +kernel
theorem dX12_why_20 : decode cX12_why 20 = .ok (.getfield 19, 3) := by decide +kernel
theorem dX12_why_23 : decode cX12_why 23 = .ok (.iload_n 1, 1) := by decide +kernel
theorem dX12_why_24 : decode cX12_why 24 = .ok (.iaload, 1) := by decide +kernel
theorem dX12_why_25 : decode cX12_why 25 = .ok (.aload_n 0, 1) := by decide +kernel
theorem dX12_why_26 : decode cX12_why 26 = .ok (.getfield 22, 3) := by decide +kernel
theorem dX12_why_29 : decode cX12_why 29 = .ok (.iload_n 1, 1) := by decide +kernel
theorem dX12_why_30 : decode cX12_why 30 = .ok (.iaload, 1) := by decide +kernel
theorem dX12_why_31 : decode cX12_why 31 = .ok (.invokevirtual 194, 3) := by decide +kernel
theorem dX12_why_34 : decode cX12_why 34 = .ok (.goto 5, 3) := by decide +kernel
theorem dX12_why_37 : decode cX12_why 37 = .ok (.bipush (-2), 2) := by decide +kernel
theorem dX12_why_39 : decode cX12_why 39 = .ok (.ireturn, 1) := by decide +kernel
theorem dX12_estimate_0 : decode cX12_estimate 0 = .ok (.aload_n 0, 1) := by decide +kernel
theorem dX12_estimate_1 : decode cX12_estimate 1 = .ok (.iload_n 1, 1) := by decide +kernel
theorem dX12_estimate_2 : decode cX12_estimate 2 = .ok (.invokevirtual 163, 3) := by decide +kernel
theorem dX12_estimate_5 : decode cX12_estimate 5 = .ok (.ifCond .eq 41, 3) := by decide +kernel
theorem dX12_estimate_8 : decode cX12_estimate 8 = .ok (.aload_n 0, 1) := by decide +kernel
theorem dX12_estimate_9 : decode cX12_estimate 9 = .ok (.iload_n 2, 1) := by decide +kernel
theorem dX12_estimate_10 : decode cX12_estimate 10 = .ok (.invokevirtual 191, 3) := by decide +kernel
theorem dX12_estimate_13 : decode cX12_estimate 13 = .ok (.ifCond .eq 33, 3) := by decide +kernel
theorem dX12_estimate_16 : decode cX12_estimate 16 = .ok (.iload_n 3, 1) := by decide +kernel
theorem dX12_estimate_17 : decode cX12_estimate 17 = .ok (.iconst 0, 1) := by decide +kernel
theorem dX12_estimate_18 : decode cX12_estimate 18 = .ok (.iconst 3, 1) := by decide +kernel
theorem dX12_estimate_19 : decode cX12_estimate 19 = .ok (.invokestatic 149, 3) := by decide +kernel
theorem dX12_estimate_22 : decode cX12_estimate 22 = .ok (.ifCond .eq 24, 3) := by decide +kernel
theorem dX12_estimate_25 : decode cX12_estimate 25 = .ok (.aload_n 0, 1) := by decide +kernel
theorem dX12_estimate_26 : decode cX12_estimate 26 = .ok (.iload_n 1, 1) := by decide +kernel
theorem dX12_estimate_27 : decode cX12_estimate 27 = .ok (.iload_n 2, 1) := by decide +kernel
theorem dX12_estimate_28 : decode cX12_estimate 28 = .ok (.aload_n 0, 1) := by decide +kernel
theorem dX12_estimate_29 : decode cX12_estimate 29 = .ok (.getfield 19, 3) := by decide +kernel
theorem dX12_estimate_32 : decode cX12_estimate 32 = .ok (.iload_n 1, 1) := by decide +kernel
theorem dX12_estimate_33 : decode cX12_estimate 33 = .ok (.iaload, 1) := by decide +kernel
theorem dX12_estimate_34 : decode cX12_estimate 34 = .ok (.aload_n 0, 1) := by decide +kernel
theorem dX12_estimate_35 : decode cX12_estimate 35 = .ok (.getfield 22, 3) := by decide +kernel
theorem dX12_estimate_38 : decode cX12_estimate 38 = .ok (.iload_n 1, 1) := by decide +kernel
theorem dX12_estimate_39 : decode cX12_estimate 39 = .ok (.iaload, 1) := by decide +kernel
theorem dX12_estimate_40 : decode cX12_estimate 40 = .ok (.invokevirtual 194, 3) := by decide +kernel
theorem dX12_estimate_43 : decode cX12_estimate 43 = .ok (.ifCond .eq 7, 3) := by decide +kernel
theorem dX12_estimate_46 : decode cX12_estimate 46 = .ok (.ldc2_w 197, 3) := by decide +kernel
theorem dX12_estimate_49 : decode cX12_estimate 49 = .ok (.lreturn, 1) := by decide +kernel
theorem dX12_estimate_50 : decode cX12_estimate 50 = .ok (.aload_n 0, 1) := by decide +kernel
theorem dX12_estimate_51 : decode cX12_estimate 51 = .ok (.getfield 19, 3) := by decide +kernel
theorem dX12_estimate_54 : decode cX12_estimate 54 = .ok (.iload_n 1, 1) := by decide +kernel
theorem dX12_estimate_55 : decode cX12_estimate 55 = .ok (.iaload, 1) := by decide +kernel
theorem dX12_estimate_56 : decode cX12_estimate 56 = .ok (.istore 4, 2) := by decide +kernel
theorem dX12_estimate_58 : decode cX12_estimate 58 = .ok (.aload_n 0, 1) := by decide +kernel
theorem dX12_estimate_59 : decode cX12_estimate 59 = .ok (.getfield 22, 3) := by decide +kernel
theorem dX12_estimate_62 : decode cX12_estimate 62 = .ok (.iload_n 1, 1) := by decide +kernel
theorem dX12_estimate_63 : decode cX12_estimate 63 = .ok (.iaload, 1) := by decide +kernel
theorem dX12_estimate_64 : decode cX12_estimate 64 = .ok (.istore 5, 2) := by decide +kernel
theorem dX12_estimate_66 : decode cX12_estimate 66 = .ok (.iload_n 3, 1) := by decide +kernel
theorem dX12_estimate_67 : decode cX12_estimate 67 = .ok (.ifCond .ne 17, 3) := by decide +kernel
theorem dX12_estimate_70 : decode cX12_estimate 70 = .ok (.aload_n 0, 1) := by decide +kernel
theorem dX12_estimate_71 : decode cX12_estimate 71 = .ok (.iload_n 1, 1) := by decide +kernel
theorem dX12_estimate_72 : decode cX12_estimate 72 = .ok (.iload_n 2, 1) := by decide +kernel
theorem dX12_estimate_73 : decode cX12_estimate 73 = .ok (.iload 4, 2) := by decide +kernel
theorem dX12_estimate_75 : decode cX12_estimate 75 = .ok (.iload 5, 2) := by decide +kernel
theorem dX12_estimate_77 : decode cX12_estimate 77 = .ok (.invokevirtual 177, 3) := by decide +kernel
theorem dX12_estimate_80 : decode cX12_estimate 80 = .ok (.i2l, 1) := by decide +kernel
theorem dX12_estimate_81 : decode cX12_estimate 81 = .ok (.goto 47, 3) := by decide +kernel
theorem dX12_estimate_84 : decode cX12_estimate 84 = .ok (.iload_n 3, 1) := by decide +kernel
theorem dX12_estimate_85 : decode cX12_estimate 85 = .ok (.iconst 1, 1) := by decide +kernel
theorem dX12_estimate_86 : decode cX12_estimate 86 = .ok (.if_icmp .ne 17, 3) := by decide +kernel
theorem dX12_estimate_89 : decode cX12_estimate 89 = .ok (.aload_n 0, 1) := by decide +kernel
theorem dX12_estimate_90 : decode cX12_estimate 90 = .ok (.iload_n 1, 1) := by decide +kernel
theorem dX12_estimate_91 : decode cX12_estimate 91 = .ok (.iload_n 2, 1) := by decide +kernel
theorem dX12_estimate_92 : decode cX12_estimate 92 = .ok (.iload 4, 2) := by decide +kernel
theorem dX12_estimate_94 : decode cX12_estimate 94 = .ok (.iload 5, 2) := by decide +kernel
theorem dX12_estimate_96 : decode cX12_estimate 96 = .ok (.invokevirtual 188, 3) := by decide +kernel
theorem dX12_estimate_99 : decode cX12_estimate 99 = .ok (.i2l, 1) := by decide +kernel
theorem dX12_estimate_100 : decode cX12_estimate 100 = .ok (.goto 28, 3) := by decide +kernel
theorem dX12_estimate_103 : decode cX12_estimate 103 = .ok (.iload_n 3, 1) := by decide +kernel
theorem dX12_estimate_104 : decode cX12_estimate 104 = .ok (.iconst 2, 1) := by decide +kernel
theorem dX12_estimate_105 : decode cX12_estimate 105 = .ok (.if_icmp .ne 15, 3) := by decide +kernel
theorem dX12_estimate_108 : decode cX12_estimate 108 = .ok (.aload_n 0, 1) := by decide +kernel
theorem dX12_estimate_109 : decode cX12_estimate 109 = .ok (.iload_n 1, 1) := by decide +kernel
theorem dX12_estimate_110 : decode cX12_estimate 110 = .ok (.iload_n 2, 1) := by decide +kernel
theorem dX12_estimate_111 : decode cX12_estimate 111 = .ok (.iload 4, 2) := by decide +kernel
theorem dX12_estimate_113 : decode cX12_estimate 113 = .ok (.invokevirtual 199, 3) := by decide +kernel
theorem dX12_estimate_116 : decode cX12_estimate 116 = .ok (.i2l, 1) := by decide +kernel
theorem dX12_estimate_117 : decode cX12_estimate 117 = .ok (.goto 11, 3) := by decide +kernel
theorem dX12_estimate_120 : decode cX12_estimate 120 = .ok (.aload_n 0, 1) := by decide +kernel
theorem dX12_estimate_121 : decode cX12_estimate 121 = .ok (.iload_n 1, 1) := by decide +kernel
theorem dX12_estimate_122 : decode cX12_estimate 122 = .ok (.iload_n 2, 1) := by decide +kernel
theorem dX12_estimate_123 : decode cX12_estimate 123 = .ok (.iload 4, 2) := by decide +kernel
theorem dX12_estimate_125 : decode cX12_estimate 125 = .ok (.invokevirtual 202, 3) := by decide +kernel
theorem dX12_estimate_128 : decode cX12_estimate 128 = .ok (.lreturn, 1) := by decide +kernel
theorem dX12_chains_0 : decode cX12_chains 0 = .ok (.iload 5, 2) := by decide +kernel
theorem dX12_chains_2 : decode cX12_chains 2 = .ok (.aload_n 0, 1) := by decide +kernel
theorem dX12_chains_3 : decode cX12_chains 3 = .ok (.getfield 22, 3) := by decide +kernel
theorem dX12_chains_6 : decode cX12_chains 6 = .ok (.iload_n 1, 1) := by decide +kernel
theorem dX12_chains_7 : decode cX12_chains 7 = .ok (.iaload, 1) := by decide +kernel
theorem dX12_chains_8 : decode cX12_chains 8 = .ok (.isub, 1) := by decide +kernel
theorem dX12_chains_9 : decode cX12_chains 9 = .ok (.istore 8, 2) := by decide +kernel
theorem dX12_chains_11 : decode cX12_chains 11 = .ok (.iload_n 2, 1) := by decide +kernel
theorem dX12_chains_12 : decode cX12_chains 12 = .ok (.ifCond .le 97, 3) := by decide +kernel
theorem dX12_chains_15 : decode cX12_chains 15 = .ok (.lload 6, 2) := by decide +kernel
theorem dX12_chains_17 : decode cX12_chains 17 = .ok (.aload_n 0, 1) := by decide +kernel
theorem dX12_chains_18 : decode cX12_chains 18 = .ok (.getfield 206, 3) := by decide +kernel
theorem dX12_chains_21 : decode cX12_chains 21 = .ok (.i2l, 1) := by decide +kernel
theorem dX12_chains_22 : decode cX12_chains 22 = .ok (.lmul, 1) := by decide +kernel
theorem dX12_chains_23 : decode cX12_chains 23 = .ok (.aload_n 0, 1) := by decide +kernel
theorem dX12_chains_24 : decode cX12_chains 24 = .ok (.getfield 209, 3) := by decide +kernel
theorem dX12_chains_27 : decode cX12_chains 27 = .ok (.iload 8, 2) := by decide +kernel
theorem dX12_chains_29 : decode cX12_chains 29 = .ok (.i2l, 1) := by decide +kernel
theorem dX12_chains_30 : decode cX12_chains 30 = .ok (.lmul, 1) := by decide +kernel
theorem dX12_chains_31 : decode cX12_chains 31 = .ok (.lsub, 1) := by decide +kernel
theorem dX12_chains_32 : decode cX12_chains 32 = .ok (.lstore 9, 2) := by decide +kernel
theorem dX12_chains_34 : decode cX12_chains 34 = .ok (.aload_n 0, 1) := by decide +kernel
theorem dX12_chains_35 : decode cX12_chains 35 = .ok (.getfield 213, 3) := by decide +kernel
theorem dX12_chains_38 : decode cX12_chains 38 = .ok (.ifCond .eq 25, 3) := by decide +kernel
theorem dX12_chains_41 : decode cX12_chains 41 = .ok (.lload 9, 2) := by decide +kernel
theorem dX12_chains_43 : decode cX12_chains 43 = .ok (.lconst 0, 1) := by decide +kernel
theorem dX12_chains_44 : decode cX12_chains 44 = .ok (.lcmp, 1) := by decide +kernel
theorem dX12_chains_45 : decode cX12_chains 45 = .ok (.ifCond .gt 18, 3) := by decide +kernel
theorem dX12_chains_48 : decode cX12_chains 48 = .ok (.lload 9, 2) := by decide +kernel
theorem dX12_chains_50 : decode cX12_chains 50 = .ok (.lconst 0, 1) := by decide +kernel
theorem dX12_chains_51 : decode cX12_chains 51 = .ok (.lcmp, 1) := by decide +kernel
theorem dX12_chains_52 : decode cX12_chains 52 = .ok (.ifCond .ne 57, 3) := by decide +kernel
theorem dX12_chains_55 : decode cX12_chains 55 = .ok (.iload_n 2, 1) := by decide +kernel
theorem dX12_chains_56 : decode cX12_chains 56 = .ok (.aload_n 0, 1) := by decide +kernel
theorem dX12_chains_57 : decode cX12_chains 57 = .ok (.getfield 213, 3) := by decide +kernel
theorem dX12_chains_60 : decode cX12_chains 60 = .ok (.if_icmp .ge 49, 3) := by decide +kernel
theorem dX12_chains_63 : decode cX12_chains 63 = .ok (.aload_n 0, 1) := by decide +kernel
theorem dX12_chains_64 : decode cX12_chains 64 = .ok (.iload_n 2, 1) := by decide +kernel
theorem dX12_chains_65 : decode cX12_chains 65 = .ok (.putfield 213, 3) := by decide +kernel
theorem dX12_chains_68 : decode cX12_chains 68 = .ok (.aload_n 0, 1) := by decide +kernel
theorem dX12_chains_69 : decode cX12_chains 69 = .ok (.lload 6, 2) := by decide +kernel
theorem dX12_chains_71 : decode cX12_chains 71 = .ok (.putfield 209, 3) := by decide +kernel
theorem dX12_chains_74 : decode cX12_chains 74 = .ok (.aload_n 0, 1) := by decide +kernel
theorem dX12_chains_75 : decode cX12_chains 75 = .ok (.iload 8, 2) := by decide +kernel
theorem dX12_chains_77 : decode cX12_chains 77 = .ok (.putfield 206, 3) := by decide +kernel
theorem dX12_chains_80 : decode cX12_chains 80 = .ok (.iconst 0, 1) := by decide +kernel
theorem dX12_chains_81 : decode cX12_chains 81 = .ok (.istore 11, 2) := by decide +kernel
theorem dX12_chains_83 : decode cX12_chains 83 = .ok (.iload 11, 2) := by decide +kernel
theorem dX12_chains_85 : decode cX12_chains 85 = .ok (.iload_n 2, 1) := by decide +kernel
theorem dX12_chains_86 : decode cX12_chains 86 = .ok (.if_icmp .ge 23, 3) := by decide +kernel
theorem dX12_chains_89 : decode cX12_chains 89 = .ok (.aload_n 0, 1) := by decide +kernel
theorem dX12_chains_90 : decode cX12_chains 90 = .ok (.getfield 120, 3) := by decide +kernel
theorem dX12_chains_93 : decode cX12_chains 93 = .ok (.iload 11, 2) := by decide +kernel
theorem dX12_chains_95 : decode cX12_chains 95 = .ok (.aload_n 0, 1) := by decide +kernel
theorem dX12_chains_96 : decode cX12_chains 96 = .ok (.getfield 123, 3) := by decide +kernel
theorem dX12_chains_99 : decode cX12_chains 99 = .ok (.iload 11, 2) := by decide +kernel
theorem dX12_chains_101 : decode cX12_chains 101 = .ok (.iaload, 1) := by decide +kernel
theorem dX12_chains_102 : decode cX12_chains 102 = .ok (.iastore, 1) := by decide +kernel
theorem dX12_chains_103 : decode cX12_chains 103 = .ok (.iinc 11 1, 3) := by decide +kernel
theorem dX12_chains_106 : decode cX12_chains 106 = .ok (.goto (-23), 3) := by decide +kernel
theorem dX12_chains_109 : decode cX12_chains 109 = .ok (.iconst 0, 1) := by decide +kernel
theorem dX12_chains_110 : decode cX12_chains 110 = .ok (.istore 9, 2) := by decide +kernel
theorem dX12_chains_112 : decode cX12_chains 112 = .ok (.iload 9, 2) := by decide +kernel
theorem dX12_chains_114 : decode cX12_chains 114 = .ok (.aload_n 0, 1) := by decide +kernel
theorem dX12_chains_115 : decode cX12_chains 115 = .ok (.getfield 156, 3) := by decide +kernel
theorem dX12_chains_118 : decode cX12_chains 118 = .ok (.if_icmp .ge 122, 3) := by decide +kernel
theorem dX12_chains_121 : decode cX12_chains 121 = .ok (.iload_n 2, 1) := by decide +kernel
theorem dX12_chains_122 : decode cX12_chains 122 = .ok (.iload_n 3, 1) := by decide +kernel
theorem dX12_chains_123 : decode cX12_chains 123 = .ok (.if_icmp .ge 117, 3) := by decide +kernel
theorem dX12_chains_126 : decode cX12_chains 126 = .ok (.iconst 0, 1) := by decide +kernel
theorem dX12_chains_127 : decode cX12_chains 127 = .ok (.istore 10, 2) := by decide +kernel
theorem dX12_chains_129 : decode cX12_chains 129 = .ok (.iconst 0, 1) := by decide +kernel
theorem dX12_chains_130 : decode cX12_chains 130 = .ok (.istore 11, 2) := by decide +kernel
theorem dX12_chains_132 : decode cX12_chains 132 = .ok (.iload 11, 2) := by decide +kernel
theorem dX12_chains_134 : decode cX12_chains 134 = .ok (.iload_n 2, 1) := by decide +kernel
theorem dX12_chains_135 : decode cX12_chains 135 = .ok (.if_icmp .ge 33, 3) := by decide +kernel
theorem dX12_chains_138 : decode cX12_chains 138 = .ok (.iload 10, 2) := by decide +kernel
theorem dX12_chains_140 : decode cX12_chains 140 = .ok (.ifCond .ne 15, 3) := by decide +kernel
theorem dX12_chains_143 : decode cX12_chains 143 = .ok (.aload_n 0, 1) := by decide +kernel
theorem dX12_chains_144 : decode cX12_chains 144 = .ok (.getfield 123, 3) := by decide +kernel
theorem dX12_chains_147 : decode cX12_chains 147 = .ok (.iload 11, 2) := by decide +kernel
theorem dX12_chains_149 : decode cX12_chains 149 = .ok (.iaload, 1) := by decide +kernel
theorem dX12_chains_150 : decode cX12_chains 150 = .ok (.iload 9, 2) := by decide +kernel
theorem dX12_chains_152 : decode cX12_chains 152 = .ok (.if_icmp .ne 7, 3) := by decide +kernel
theorem dX12_chains_155 : decode cX12_chains 155 = .ok (.iconst 1, 1) := by decide +kernel
theorem dX12_chains_156 : decode cX12_chains 156 = .ok (.goto 4, 3) := by decide +kernel
theorem dX12_chains_159 : decode cX12_chains 159 = .ok (.iconst 0, 1) := by decide +kernel
theorem dX12_chains_160 : decode cX12_chains 160 = .ok (.istore 10, 2) := by decide +kernel
theorem dX12_chains_162 : decode cX12_chains 162 = .ok (.iinc 11 1, 3) := by decide +kernel
theorem dX12_chains_165 : decode cX12_chains 165 = .ok (.goto (-33), 3) := by decide +kernel
theorem dX12_chains_168 : decode cX12_chains 168 = .ok (.iload 10, 2) := by decide +kernel
theorem dX12_chains_170 : decode cX12_chains 170 = .ok (.ifCond .ne 64, 3) := by decide +kernel
theorem dX12_chains_173 : decode cX12_chains 173 = .ok (.aload_n 0, 1) := by decide +kernel
theorem dX12_chains_174 : decode cX12_chains 174 = .ok (.iload_n 1, 1) := by decide +kernel
theorem dX12_chains_175 : decode cX12_chains 175 = .ok (.iload 9, 2) := by decide +kernel
theorem dX12_chains_177 : decode cX12_chains 177 = .ok (.iload 4, 2) := by decide +kernel
theorem dX12_chains_179 : decode cX12_chains 179 = .ok (.iload 5, 2) := by decide +kernel
theorem dX12_chains_181 : decode cX12_chains 181 = .ok (.invokevirtual 194, 3) := by decide +kernel
theorem dX12_chains_184 : decode cX12_chains 184 = .ok (.ifCond .ne 50, 3) := by decide +kernel
theorem dX12_chains_187 : decode cX12_chains 187 = .ok (.aload_n 0, 1) := by decide +kernel
theorem dX12_chains_188 : decode cX12_chains 188 = .ok (.getfield 123, 3) := by decide +kernel
theorem dX12_chains_191 : decode cX12_chains 191 = .ok (.iload_n 2, 1) := by decide +kernel
theorem dX12_chains_192 : decode cX12_chains 192 = .ok (.iload 9, 2) := by decide +kernel
theorem dX12_chains_194 : decode cX12_chains 194 = .ok (.iastore, 1) := by decide +kernel
theorem dX12_chains_195 : decode cX12_chains 195 = .ok (.aload_n 0, 1) := by decide +kernel
theorem dX12_chains_196 : decode cX12_chains 196 = .ok (.iload_n 1, 1) := by decide +kernel
theorem dX12_chains_197 : decode cX12_chains 197 = .ok (.iload_n 2, 1) := by decide +kernel
theorem dX12_chains_198 : decode cX12_chains 198 = .ok (.iconst 1, 1) := by decide +kernel
theorem dX12_chains_199 : decode cX12_chains 199 = .ok (.iadd, 1) := by decide +kernel
theorem dX12_chains_200 : decode cX12_chains 200 = .ok (.iload_n 3, 1) := by decide +kernel
theorem dX12_chains_201 : decode cX12_chains 201 = .ok (.aload_n 0, 1) := by decide +kernel
theorem dX12_chains_202 : decode cX12_chains 202 = .ok (.getfield 47, 3) := by decide +kernel
theorem dX12_chains_205 : decode cX12_chains 205 = .ok (.iload 9, 2) := by decide +kernel
theorem dX12_chains_207 : decode cX12_chains 207 = .ok (.iaload, 1) := by decide +kernel
theorem dX12_chains_208 : decode cX12_chains 208 = .ok (.aload_n 0, 1) := by decide +kernel
theorem dX12_chains_209 : decode cX12_chains 209 = .ok (.iload_n 1, 1) := by decide +kernel
theorem dX12_chains_210 : decode cX12_chains 210 = .ok (.iload 9, 2) := by decide +kernel
theorem dX12_chains_212 : decode cX12_chains 212 = .ok (.iload 4, 2) := by decide +kernel
theorem dX12_chains_214 : decode cX12_chains 214 = .ok (.iload 5, 2) := by decide +kernel
theorem dX12_chains_216 : decode cX12_chains 216 = .ok (.invokevirtual 188, 3) := by decide +kernel
theorem dX12_chains_219 : decode cX12_chains 219 = .ok (.lload 6, 2) := by decide +kernel
theorem dX12_chains_221 : decode cX12_chains 221 = .ok (.aload_n 0, 1) := by decide +kernel
theorem dX12_chains_222 : decode cX12_chains 222 = .ok (.iload_n 1, 1) := by decide +kernel
theorem dX12_chains_223 : decode cX12_chains 223 = .ok (.iload 9, 2) := by decide +kernel
theorem dX12_chains_225 : decode cX12_chains 225 = .ok (.iload 4, 2) := by decide +kernel
theorem dX12_chains_227 : decode cX12_chains 227 = .ok (.invokevirtual 202, 3) := by decide +kernel
theorem dX12_chains_230 : decode cX12_chains 230 = .ok (.ladd, 1) := by decide +kernel
theorem dX12_chains_231 : decode cX12_chains 231 = .ok (.invokevirtual 216, 3) := by decide +kernel
theorem dX12_chains_234 : decode cX12_chains 234 = .ok (.iinc 9 1, 3) := by decide +kernel
theorem dX12_chains_237 : decode cX12_chains 237 = .ok (.goto (-125), 3) := by decide +kernel
theorem dX12_chains_240 : decode cX12_chains 240 = .ok (.return_, 1) := by decide +kernel
theorem dX12_seeks_0 : decode cX12_seeks 0 = .ok (.aload_n 0, 1) := by decide +kernel
theorem dX12_seeks_1 : decode cX12_seeks 1 = .ok (.iconst 0, 1) := by decide +kernel
theorem dX12_seeks_2 : decode cX12_seeks 2 = .ok (.putfield 213, 3) := by decide +kernel
theorem dX12_seeks_5 : decode cX12_seeks 5 = .ok (.aload_n 0, 1) := by decide +kernel
theorem dX12_seeks_6 : decode cX12_seeks 6 = .ok (.iload_n 1, 1) := by decide +kernel
theorem dX12_seeks_7 : decode cX12_seeks 7 = .ok (.iconst 0, 1) := by decide +kernel
theorem dX12_seeks_8 : decode cX12_seeks 8 = .ok (.iload_n 2, 1) := by decide +kernel
theorem dX12_seeks_9 : decode cX12_seeks 9 = .ok (.aload_n 0, 1) := by decide +kernel
theorem dX12_seeks_10 : decode cX12_seeks 10 = .ok (.getfield 19, 3) := by decide +kernel
theorem dX12_seeks_13 : decode cX12_seeks 13 = .ok (.iload_n 1, 1) := by decide +kernel
theorem dX12_seeks_14 : decode cX12_seeks 14 = .ok (.iaload, 1) := by decide +kernel
theorem dX12_seeks_15 : decode cX12_seeks 15 = .ok (.aload_n 0, 1) := by decide +kernel
theorem dX12_seeks_16 : decode cX12_seeks 16 = .ok (.getfield 22, 3) := by decide +kernel
theorem dX12_seeks_19 : decode cX12_seeks 19 = .ok (.iload_n 1, 1) := by decide +kernel
theorem dX12_seeks_20 : decode cX12_seeks 20 = .ok (.iaload, 1) := by decide +kernel
theorem dX12_seeks_21 : decode cX12_seeks 21 = .ok (.lconst 0, 1) := by decide +kernel
theorem dX12_seeks_22 : decode cX12_seeks 22 = .ok (.invokevirtual 216, 3) := by decide +kernel
theorem dX12_seeks_25 : decode cX12_seeks 25 = .ok (.return_, 1) := by decide +kernel
theorem dX12_best_0 : decode cX12_best 0 = .ok (.aload_n 0, 1) := by decide +kernel
theorem dX12_best_1 : decode cX12_best 1 = .ok (.iload_n 1, 1) := by decide +kernel
theorem dX12_best_2 : decode cX12_best 2 = .ok (.invokevirtual 163, 3) := by decide +kernel
theorem dX12_best_5 : decode cX12_best 5 = .ok (.ifCond .eq 21, 3) := by decide +kernel
theorem dX12_best_8 : decode cX12_best 8 = .ok (.iload_n 2, 1) := by decide +kernel
theorem dX12_best_9 : decode cX12_best 9 = .ok (.iconst 1, 1) := by decide +kernel
theorem dX12_best_10 : decode cX12_best 10 = .ok (.iconst 3, 1) := by decide +kernel
theorem dX12_best_11 : decode cX12_best 11 = .ok (.invokestatic 149, 3) := by decide +kernel
theorem dX12_best_14 : decode cX12_best 14 = .ok (.ifCond .eq 12, 3) := by decide +kernel
theorem dX12_best_17 : decode cX12_best 17 = .ok (.iload_n 3, 1) := by decide +kernel
theorem dX12_best_18 : decode cX12_best 18 = .ok (.iconst 0, 1) := by decide +kernel
theorem dX12_best_19 : decode cX12_best 19 = .ok (.iconst 2, 1) := by decide +kernel
theorem dX12_best_20 : decode cX12_best 20 = .ok (.invokestatic 149, 3) := by decide +kernel
theorem dX12_best_23 : decode cX12_best 23 = .ok (.ifCond .ne 7, 3) := by decide +kernel
theorem dX12_best_26 : decode cX12_best 26 = .ok (.ldc2_w 197, 3) := by decide +kernel
theorem dX12_best_29 : decode cX12_best 29 = .ok (.lreturn, 1) := by decide +kernel
theorem dX12_best_30 : decode cX12_best 30 = .ok (.aload_n 0, 1) := by decide +kernel
theorem dX12_best_31 : decode cX12_best 31 = .ok (.iload_n 1, 1) := by decide +kernel
theorem dX12_best_32 : decode cX12_best 32 = .ok (.iload_n 2, 1) := by decide +kernel
theorem dX12_best_33 : decode cX12_best 33 = .ok (.invokevirtual 220, 3) := by decide +kernel
theorem dX12_best_36 : decode cX12_best 36 = .ok (.aload_n 0, 1) := by decide +kernel
theorem dX12_best_37 : decode cX12_best 37 = .ok (.getfield 213, 3) := by decide +kernel
theorem dX12_best_40 : decode cX12_best 40 = .ok (.ifCond .ne 9, 3) := by decide +kernel
theorem dX12_best_43 : decode cX12_best 43 = .ok (.ldc2_w 197, 3) := by decide +kernel
theorem dX12_best_46 : decode cX12_best 46 = .ok (.goto 32, 3) := by decide +kernel
theorem dX12_best_49 : decode cX12_best 49 = .ok (.iload_n 3, 1) := by decide +kernel
theorem dX12_best_50 : decode cX12_best 50 = .ok (.ifCond .ne 10, 3) := by decide +kernel
theorem dX12_best_53 : decode cX12_best 53 = .ok (.aload_n 0, 1) := by decide +kernel
theorem dX12_best_54 : decode cX12_best 54 = .ok (.getfield 209, 3) := by decide +kernel
theorem dX12_best_57 : decode cX12_best 57 = .ok (.goto 21, 3) := by decide +kernel
theorem dX12_best_60 : decode cX12_best 60 = .ok (.iload_n 3, 1) := by decide +kernel
theorem dX12_best_61 : decode cX12_best 61 = .ok (.iconst 1, 1) := by decide +kernel
theorem dX12_best_62 : decode cX12_best 62 = .ok (.if_icmp .ne 11, 3) := by decide +kernel
theorem dX12_best_65 : decode cX12_best 65 = .ok (.aload_n 0, 1) := by decide +kernel
theorem dX12_best_66 : decode cX12_best 66 = .ok (.getfield 206, 3) := by decide +kernel
theorem dX12_best_69 : decode cX12_best 69 = .ok (.i2l, 1) := by decide +kernel
theorem dX12_best_70 : decode cX12_best 70 = .ok (.goto 8, 3) := by decide +kernel
theorem dX12_best_73 : decode cX12_best 73 = .ok (.aload_n 0, 1) := by decide +kernel
theorem dX12_best_74 : decode cX12_best 74 = .ok (.getfield 213, 3) := by decide +kernel
theorem dX12_best_77 : decode cX12_best 77 = .ok (.i2l, 1) := by decide +kernel
theorem dX12_best_78 : decode cX12_best 78 = .ok (.lreturn, 1) := by decide +kernel
theorem dX12_chain_0 : decode cX12_chain 0 = .ok (.aload_n 0, 1) := by decide +kernel
theorem dX12_chain_1 : decode cX12_chain 1 = .ok (.iload_n 1, 1) := by decide +kernel
theorem dX12_chain_2 : decode cX12_chain 2 = .ok (.invokevirtual 163, 3) := by decide +kernel
theorem dX12_chain_5 : decode cX12_chain 5 = .ok (.ifCond .eq 12, 3) := by decide +kernel
theorem dX12_chain_8 : decode cX12_chain 8 = .ok (.iload_n 2, 1) := by decide +kernel
theorem dX12_chain_9 : decode cX12_chain 9 = .ok (.iconst 1, 1) := by decide +kernel
theorem dX12_chain_10 : decode cX12_chain 10 = .ok (.iconst 3, 1) := by decide +kernel
theorem dX12_chain_11 : decode cX12_chain 11 = .ok (.invokestatic 149, 3) := by decide +kernel
theorem dX12_chain_14 : decode cX12_chain 14 = .ok (.ifCond .ne 6, 3) := by decide +kernel
theorem dX12_chain_17 : decode cX12_chain 17 = .ok (.bipush (-2), 2) := by decide +kernel
theorem dX12_chain_19 : decode cX12_chain 19 = .ok (.ireturn, 1) := by decide +kernel
theorem dX12_chain_20 : decode cX12_chain 20 = .ok (.aload_n 0, 1) := by decide +kernel
theorem dX12_chain_21 : decode cX12_chain 21 = .ok (.iload_n 1, 1) := by decide +kernel
theorem dX12_chain_22 : decode cX12_chain 22 = .ok (.iload_n 2, 1) := by decide +kernel
theorem dX12_chain_23 : decode cX12_chain 23 = .ok (.invokevirtual 220, 3) := by decide +kernel
theorem dX12_chain_26 : decode cX12_chain 26 = .ok (.iload_n 3, 1) := by decide +kernel
theorem dX12_chain_27 : decode cX12_chain 27 = .ok (.iconst 0, 1) := by decide +kernel
theorem dX12_chain_28 : decode cX12_chain 28 = .ok (.aload_n 0, 1) := by decide +kernel
theorem dX12_chain_29 : decode cX12_chain 29 = .ok (.getfield 213, 3) := by decide +kernel
theorem dX12_chain_32 : decode cX12_chain 32 = .ok (.iconst 1, 1) := by decide +kernel
theorem dX12_chain_33 : decode cX12_chain 33 = .ok (.isub, 1) := by decide +kernel
theorem dX12_chain_34 : decode cX12_chain 34 = .ok (.invokestatic 149, 3) := by decide +kernel
theorem dX12_chain_37 : decode cX12_chain 37 = .ok (.ifCond .eq 12, 3) := by decide +kernel
theorem dX12_chain_40 : decode cX12_chain 40 = .ok (.aload_n 0, 1) := by decide +kernel
theorem dX12_chain_41 : decode cX12_chain 41 = .ok (.getfield 120, 3) := by decide +kernel
theorem dX12_chain_44 : decode cX12_chain 44 = .ok (.iload_n 3, 1) := by decide +kernel
theorem dX12_chain_45 : decode cX12_chain 45 = .ok (.iaload, 1) := by decide +kernel
theorem dX12_chain_46 : decode cX12_chain 46 = .ok (.goto 4, 3) := by decide +kernel
theorem dX12_chain_49 : decode cX12_chain 49 = .ok (.iconst (-1), 1) := by decide +kernel
theorem dX12_chain_50 : decode cX12_chain 50 = .ok (.ireturn, 1) := by decide +kernel
theorem dX12_fix_0 : decode cX12_fix 0 = .ok (.aload_n 0, 1) := by decide +kernel
theorem dX12_fix_1 : decode cX12_fix 1 = .ok (.iload_n 1, 1) := by decide +kernel
theorem dX12_fix_2 : decode cX12_fix 2 = .ok (.invokevirtual 163, 3) := by decide +kernel
theorem dX12_fix_5 : decode cX12_fix 5 = .ok (.ifCond .eq 11, 3) := by decide +kernel
theorem dX12_fix_8 : decode cX12_fix 8 = .ok (.aload_n 0, 1) := by decide +kernel
theorem dX12_fix_9 : decode cX12_fix 9 = .ok (.iload_n 2, 1) := by decide +kernel
theorem dX12_fix_10 : decode cX12_fix 10 = .ok (.invokevirtual 191, 3) := by decide +kernel
theorem dX12_fix_13 : decode cX12_fix 13 = .ok (.ifCond .ne 6, 3) := by decide +kernel
theorem dX12_fix_16 : decode cX12_fix 16 = .ok (.bipush (-2), 2) := by decide +kernel
theorem dX12_fix_18 : decode cX12_fix 18 = .ok (.ireturn, 1) := by decide +kernel
theorem dX12_fix_19 : decode cX12_fix 19 = .ok (.aload_n 0, 1) := by decide +kernel
theorem dX12_fix_20 : decode cX12_fix 20 = .ok (.iload_n 1, 1) := by decide +kernel
theorem dX12_fix_21 : decode cX12_fix 21 = .ok (.iload_n 2, 1) := by decide +kernel
theorem dX12_fix_22 : decode cX12_fix 22 = .ok (.aload_n 0, 1) := by decide +kernel
theorem dX12_fix_23 : decode cX12_fix 23 = .ok (.getfield 19, 3) := by decide +kernel
theorem dX12_fix_26 : decode cX12_fix 26 = .ok (.iload_n 1, 1) := by decide +kernel
theorem dX12_fix_27 : decode cX12_fix 27 = .ok (.iaload, 1) := by decide +kernel
theorem dX12_fix_28 : decode cX12_fix 28 = .ok (.aload_n 0, 1) := by decide +kernel
theorem dX12_fix_29 : decode cX12_fix 29 = .ok (.getfield 22, 3) := by decide +kernel
theorem dX12_fix_32 : decode cX12_fix 32 = .ok (.iload_n 1, 1) := by decide +kernel
theorem dX12_fix_33 : decode cX12_fix 33 = .ok (.iaload, 1) := by decide +kernel
theorem dX12_fix_34 : decode cX12_fix 34 = .ok (.invokevirtual 194, 3) := by decide +kernel
theorem dX12_fix_37 : decode cX12_fix 37 = .ok (.istore_n 3, 1) := by decide +kernel
theorem dX12_fix_38 : decode cX12_fix 38 = .ok (.iload_n 3, 1) := by decide +kernel
theorem dX12_fix_39 : decode cX12_fix 39 = .ok (.ifCond .eq 8, 3) := by decide +kernel
theorem dX12_fix_42 : decode cX12_fix 42 = .ok (.bipush (-20), 2) := by decide +kernel
theorem dX12_fix_44 : decode cX12_fix 44 = .ok (.iload_n 3, 1) := by decide +kernel
theorem dX12_fix_45 : decode cX12_fix 45 = .ok (.isub, 1) := by decide +kernel
theorem dX12_fix_46 : decode cX12_fix 46 = .ok (.ireturn, 1) := by decide +kernel
theorem dX12_fix_47 : decode cX12_fix 47 = .ok (.aload_n 0, 1) := by decide +kernel
theorem dX12_fix_48 : decode cX12_fix 48 = .ok (.getfield 22, 3) := by decide +kernel
theorem dX12_fix_51 : decode cX12_fix 51 = .ok (.iload_n 1, 1) := by decide +kernel
theorem dX12_fix_52 : decode cX12_fix 52 = .ok (.aload_n 0, 1) := by decide +kernel
theorem dX12_fix_53 : decode cX12_fix 53 = .ok (.iload_n 1, 1) := by decide +kernel
theorem dX12_fix_54 : decode cX12_fix 54 = .ok (.iload_n 2, 1) := by decide +kernel
theorem dX12_fix_55 : decode cX12_fix 55 = .ok (.aload_n 0, 1) := by decide +kernel
theorem dX12_fix_56 : decode cX12_fix 56 = .ok (.getfield 19, 3) := by decide +kernel
theorem dX12_fix_59 : decode cX12_fix 59 = .ok (.iload_n 1, 1) := by decide +kernel
theorem dX12_fix_60 : decode cX12_fix 60 = .ok (.iaload, 1) := by decide +kernel
theorem dX12_fix_61 : decode cX12_fix 61 = .ok (.aload_n 0, 1) := by decide +kernel
theorem dX12_fix_62 : decode cX12_fix 62 = .ok (.getfield 22, 3) := by decide +kernel
theorem dX12_fix_65 : decode cX12_fix 65 = .ok (.iload_n 1, 1) := by decide +kernel
theorem dX12_fix_66 : decode cX12_fix 66 = .ok (.iaload, 1) := by decide +kernel
theorem dX12_fix_67 : decode cX12_fix 67 = .ok (.invokevirtual 188, 3) := by decide +kernel
theorem dX12_fix_70 : decode cX12_fix 70 = .ok (.iastore, 1) := by decide +kernel
theorem dX12_fix_71 : decode cX12_fix 71 = .ok (.aload_n 0, 1) := by decide +kernel
theorem dX12_fix_72 : decode cX12_fix 72 = .ok (.getfield 19, 3) := by decide +kernel
theorem dX12_fix_75 : decode cX12_fix 75 = .ok (.iload_n 1, 1) := by decide +kernel
theorem dX12_fix_76 : decode cX12_fix 76 = .ok (.aload_n 0, 1) := by decide +kernel
theorem dX12_fix_77 : decode cX12_fix 77 = .ok (.getfield 47, 3) := by decide +kernel
theorem dX12_fix_80 : decode cX12_fix 80 = .ok (.iload_n 2, 1) := by decide +kernel
theorem dX12_fix_81 : decode cX12_fix 81 = .ok (.iaload, 1) := by decide +kernel
theorem dX12_fix_82 : decode cX12_fix 82 = .ok (.iastore, 1) := by decide +kernel
theorem dX12_fix_83 : decode cX12_fix 83 = .ok (.aload_n 0, 1) := by decide +kernel
theorem dX12_fix_84 : decode cX12_fix 84 = .ok (.getfield 62, 3) := by decide +kernel
theorem dX12_fix_87 : decode cX12_fix 87 = .ok (.iload_n 2, 1) := by decide +kernel
theorem dX12_fix_88 : decode cX12_fix 88 = .ok (.iconst 1, 1) := by decide +kernel
theorem dX12_fix_89 : decode cX12_fix 89 = .ok (.bastore, 1) := by decide +kernel
theorem dX12_fix_90 : decode cX12_fix 90 = .ok (.iconst 1, 1) := by decide +kernel
theorem dX12_fix_91 : decode cX12_fix 91 = .ok (.ireturn, 1) := by decide +kernel
theorem dX12_go_0 : decode cX12_go 0 = .ok (.aload_n 0, 1) := by decide +kernel
theorem dX12_go_1 : decode cX12_go 1 = .ok (.iload_n 1, 1) := by decide +kernel
theorem dX12_go_2 : decode cX12_go 2 = .ok (.invokevirtual 159, 3) := by decide +kernel
theorem dX12_go_5 : decode cX12_go 5 = .ok (.ifCond .eq 25, 3) := by decide +kernel
theorem dX12_go_8 : decode cX12_go 8 = .ok (.aload_n 0, 1) := by decide +kernel
theorem dX12_go_9 : decode cX12_go 9 = .ok (.getfield 224, 3) := by decide +kernel
theorem dX12_go_12 : decode cX12_go 12 = .ok (.ifCond .le 21, 3) := by decide +kernel
theorem dX12_go_15 : decode cX12_go 15 = .ok (.aload_n 0, 1) := by decide +kernel
theorem dX12_go_16 : decode cX12_go 16 = .ok (.getfield 66, 3) := by decide +kernel
theorem dX12_go_19 : decode cX12_go 19 = .ok (.aload_n 0, 1) := by decide +kernel
theorem dX12_go_20 : decode cX12_go 20 = .ok (.getfield 224, 3) := by decide +kernel
theorem dX12_go_23 : decode cX12_go 23 = .ok (.iconst 1, 1) := by decide +kernel
theorem dX12_go_24 : decode cX12_go 24 = .ok (.isub, 1) := by decide +kernel
theorem dX12_go_25 : decode cX12_go 25 = .ok (.iaload, 1) := by decide +kernel
theorem dX12_go_26 : decode cX12_go 26 = .ok (.iload_n 1, 1) := by decide +kernel
theorem dX12_go_27 : decode cX12_go 27 = .ok (.if_icmp .ne 6, 3) := by decide +kernel
theorem dX12_go_30 : decode cX12_go 30 = .ok (.bipush (-2), 2) := by decide +kernel
theorem dX12_go_32 : decode cX12_go 32 = .ok (.ireturn, 1) := by decide +kernel
theorem dX12_go_33 : decode cX12_go 33 = .ok (.aload_n 0, 1) := by decide +kernel
theorem dX12_go_34 : decode cX12_go 34 = .ok (.getfield 224, 3) := by decide +kernel
theorem dX12_go_37 : decode cX12_go 37 = .ok (.bipush 6, 2) := by decide +kernel
theorem dX12_go_39 : decode cX12_go 39 = .ok (.if_icmp .ne 6, 3) := by decide +kernel
theorem dX12_go_42 : decode cX12_go 42 = .ok (.bipush (-4), 2) := by decide +kernel
theorem dX12_go_44 : decode cX12_go 44 = .ok (.ireturn, 1) := by decide +kernel
theorem dX12_go_45 : decode cX12_go 45 = .ok (.aload_n 0, 1) := by decide +kernel
theorem dX12_go_46 : decode cX12_go 46 = .ok (.getfield 66, 3) := by decide +kernel
theorem dX12_go_49 : decode cX12_go 49 = .ok (.aload_n 0, 1) := by decide +kernel
theorem dX12_go_50 : decode cX12_go 50 = .ok (.getfield 224, 3) := by decide +kernel
theorem dX12_go_53 : decode cX12_go 53 = .ok (.iload_n 1, 1) := by decide +kernel
theorem dX12_go_54 : decode cX12_go 54 = .ok (.iastore, 1) := by decide +kernel
theorem dX12_go_55 : decode cX12_go 55 = .ok (.aload_n 0, 1) := by decide +kernel
theorem dX12_go_56 : decode cX12_go 56 = .ok (.dup, 1) := by decide +kernel
theorem dX12_go_57 : decode cX12_go 57 = .ok (.getfield 224, 3) := by decide +kernel
theorem dX12_go_60 : decode cX12_go 60 = .ok (.iconst 1, 1) := by decide +kernel
theorem dX12_go_61 : decode cX12_go 61 = .ok (.iadd, 1) := by decide +kernel
theorem dX12_go_62 : decode cX12_go 62 = .ok (.putfield 224, 3) := by decide +kernel
theorem dX12_go_65 : decode cX12_go 65 = .ok (.aload_n 0, 1) := by decide +kernel
theorem dX12_go_66 : decode cX12_go 66 = .ok (.getfield 224, 3) := by decide +kernel
theorem dX12_go_69 : decode cX12_go 69 = .ok (.ireturn, 1) := by decide +kernel
theorem dX12_clear_0 : decode cX12_clear 0 = .ok (.aload_n 0, 1) := by decide +kernel
theorem dX12_clear_1 : decode cX12_clear 1 = .ok (.getfield 224, 3) := by decide +kernel
theorem dX12_clear_4 : decode cX12_clear 4 = .ok (.istore_n 1, 1) := by decide +kernel
theorem dX12_clear_5 : decode cX12_clear 5 = .ok (.aload_n 0, 1) := by decide +kernel
theorem dX12_clear_6 : decode cX12_clear 6 = .ok (.iconst 0, 1) := by decide +kernel
theorem dX12_clear_7 : decode cX12_clear 7 = .ok (.putfield 224, 3) := by decide +kernel
theorem dX12_clear_10 : decode cX12_clear 10 = .ok (.iload_n 1, 1) := by decide +kernel
theorem dX12_clear_11 : decode cX12_clear 11 = .ok (.ireturn, 1) := by decide +kernel
theorem dX12_behind_0 : decode cX12_behind 0 = .ok (.aload_n 0, 1) := by decide +kernel
theorem dX12_behind_1 : decode cX12_behind 1 = .ok (.iload_n 1, 1) := by decide +kernel
theorem dX12_behind_2 : decode cX12_behind 2 = .ok (.aload_n 0, 1) := by decide +kernel
theorem dX12_behind_3 : decode cX12_behind 3 = .ok (.getfield 66, 3) := by decide +kernel
theorem dX12_behind_6 : decode cX12_behind 6 = .ok (.iload_n 2, 1) := by decide +kernel
theorem dX12_behind_7 : decode cX12_behind 7 = .ok (.iaload, 1) := by decide +kernel
theorem dX12_behind_8 : decode cX12_behind 8 = .ok (.aload_n 0, 1) := by decide +kernel
theorem dX12_behind_9 : decode cX12_behind 9 = .ok (.getfield 66, 3) := by decide +kernel
theorem dX12_behind_12 : decode cX12_behind 12 = .ok (.iload_n 2, 1) := by decide +kernel
theorem dX12_behind_13 : decode cX12_behind 13 = .ok (.iconst 1, 1) := by decide +kernel
theorem dX12_behind_14 : decode cX12_behind 14 = .ok (.iadd, 1) := by decide +kernel
theorem dX12_behind_15 : decode cX12_behind 15 = .ok (.iaload, 1) := by decide +kernel
theorem dX12_behind_16 : decode cX12_behind 16 = .ok (.invokevirtual 181, 3) := by decide +kernel
theorem dX12_behind_19 : decode cX12_behind 19 = .ok (.istore 4, 2) := by decide +kernel
theorem dX12_behind_21 : decode cX12_behind 21 = .ok (.iload_n 3, 1) := by decide +kernel
theorem dX12_behind_22 : decode cX12_behind 22 = .ok (.iload 4, 2) := by decide +kernel
theorem dX12_behind_24 : decode cX12_behind 24 = .ok (.if_icmp .ge 7, 3) := by decide +kernel
theorem dX12_behind_27 : decode cX12_behind 27 = .ok (.iconst (-1), 1) := by decide +kernel
theorem dX12_behind_28 : decode cX12_behind 28 = .ok (.goto 34, 3) := by decide +kernel
theorem dX12_behind_31 : decode cX12_behind 31 = .ok (.iload_n 2, 1) := by decide +kernel
theorem dX12_behind_32 : decode cX12_behind 32 = .ok (.iconst 2, 1) := by decide +kernel
theorem dX12_behind_33 : decode cX12_behind 33 = .ok (.iadd, 1) := by decide +kernel
theorem dX12_behind_34 : decode cX12_behind 34 = .ok (.aload_n 0, 1) := by decide +kernel
theorem dX12_behind_35 : decode cX12_behind 35 = .ok (.getfield 224, 3) := by decide +kernel
theorem dX12_behind_38 : decode cX12_behind 38 = .ok (.if_icmp .ne 7, 3) := by decide +kernel
theorem dX12_behind_41 : decode cX12_behind 41 = .ok (.iconst 0, 1) := by decide +kernel
theorem dX12_behind_42 : decode cX12_behind 42 = .ok (.goto 20, 3) := by decide +kernel
theorem dX12_behind_45 : decode cX12_behind 45 = .ok (.aload_n 0, 1) := by decide +kernel
theorem dX12_behind_46 : decode cX12_behind 46 = .ok (.getfield 126, 3) := by decide +kernel
theorem dX12_behind_49 : decode cX12_behind 49 = .ok (.sipush 1000, 3) := by decide +kernel
theorem dX12_behind_52 : decode cX12_behind 52 = .ok (.iload_n 2, 1) := by decide +kernel
theorem dX12_behind_53 : decode cX12_behind 53 = .ok (.iconst 1, 1) := by decide +kernel
theorem dX12_behind_54 : decode cX12_behind 54 = .ok (.iadd, 1) := by decide +kernel
theorem dX12_behind_55 : decode cX12_behind 55 = .ok (.imul, 1) := by decide +kernel
theorem dX12_behind_56 : decode cX12_behind 56 = .ok (.iload_n 3, 1) := by decide +kernel
theorem dX12_behind_57 : decode cX12_behind 57 = .ok (.iadd, 1) := by decide +kernel
theorem dX12_behind_58 : decode cX12_behind 58 = .ok (.iload 4, 2) := by decide +kernel
theorem dX12_behind_60 : decode cX12_behind 60 = .ok (.isub, 1) := by decide +kernel
theorem dX12_behind_61 : decode cX12_behind 61 = .ok (.iaload, 1) := by decide +kernel
theorem dX12_behind_62 : decode cX12_behind 62 = .ok (.ireturn, 1) := by decide +kernel
theorem dX12_reckons_0 : decode cX12_reckons 0 = .ok (.aload_n 0, 1) := by decide +kernel
theorem dX12_reckons_1 : decode cX12_reckons 1 = .ok (.getfield 224, 3) := by decide +kernel
theorem dX12_reckons_4 : decode cX12_reckons 4 = .ok (.iconst 2, 1) := by decide +kernel
theorem dX12_reckons_5 : decode cX12_reckons 5 = .ok (.if_icmp .lt 7, 3) := by decide +kernel
theorem dX12_reckons_8 : decode cX12_reckons 8 = .ok (.iconst 1, 1) := by decide +kernel
theorem dX12_reckons_9 : decode cX12_reckons 9 = .ok (.goto 4, 3) := by decide +kernel
theorem dX12_reckons_12 : decode cX12_reckons 12 = .ok (.iconst 0, 1) := by decide +kernel
theorem dX12_reckons_13 : decode cX12_reckons 13 = .ok (.istore_n 2, 1) := by decide +kernel
theorem dX12_reckons_14 : decode cX12_reckons 14 = .ok (.iconst 0, 1) := by decide +kernel
theorem dX12_reckons_15 : decode cX12_reckons 15 = .ok (.istore_n 3, 1) := by decide +kernel
theorem dX12_reckons_16 : decode cX12_reckons 16 = .ok (.iload_n 3, 1) := by decide +kernel
theorem dX12_reckons_17 : decode cX12_reckons 17 = .ok (.iconst 1, 1) := by decide +kernel
theorem dX12_reckons_18 : decode cX12_reckons 18 = .ok (.iadd, 1) := by decide +kernel
theorem dX12_reckons_19 : decode cX12_reckons 19 = .ok (.aload_n 0, 1) := by decide +kernel
theorem dX12_reckons_20 : decode cX12_reckons 20 = .ok (.getfield 224, 3) := by decide +kernel
theorem dX12_reckons_23 : decode cX12_reckons 23 = .ok (.if_icmp .ge 40, 3) := by decide +kernel
theorem dX12_reckons_26 : decode cX12_reckons 26 = .ok (.iload_n 2, 1) := by decide +kernel
theorem dX12_reckons_27 : decode cX12_reckons 27 = .ok (.ifCond .eq 28, 3) := by decide +kernel
theorem dX12_reckons_30 : decode cX12_reckons 30 = .ok (.aload_n 0, 1) := by decide +kernel
theorem dX12_reckons_31 : decode cX12_reckons 31 = .ok (.aload_n 0, 1) := by decide +kernel
theorem dX12_reckons_32 : decode cX12_reckons 32 = .ok (.getfield 66, 3) := by decide +kernel
theorem dX12_reckons_35 : decode cX12_reckons 35 = .ok (.iload_n 3, 1) := by decide +kernel
theorem dX12_reckons_36 : decode cX12_reckons 36 = .ok (.iaload, 1) := by decide +kernel
theorem dX12_reckons_37 : decode cX12_reckons 37 = .ok (.aload_n 0, 1) := by decide +kernel
theorem dX12_reckons_38 : decode cX12_reckons 38 = .ok (.getfield 66, 3) := by decide +kernel
theorem dX12_reckons_41 : decode cX12_reckons 41 = .ok (.iload_n 3, 1) := by decide +kernel
theorem dX12_reckons_42 : decode cX12_reckons 42 = .ok (.iconst 1, 1) := by decide +kernel
theorem dX12_reckons_43 : decode cX12_reckons 43 = .ok (.iadd, 1) := by decide +kernel
theorem dX12_reckons_44 : decode cX12_reckons 44 = .ok (.iaload, 1) := by decide +kernel
theorem dX12_reckons_45 : decode cX12_reckons 45 = .ok (.invokevirtual 184, 3) := by decide +kernel
theorem dX12_reckons_48 : decode cX12_reckons 48 = .ok (.ifCond .ne 7, 3) := by decide +kernel
theorem dX12_reckons_51 : decode cX12_reckons 51 = .ok (.iconst 1, 1) := by decide +kernel
theorem dX12_reckons_52 : decode cX12_reckons 52 = .ok (.goto 4, 3) := by decide +kernel
theorem dX12_reckons_55 : decode cX12_reckons 55 = .ok (.iconst 0, 1) := by decide +kernel
theorem dX12_reckons_56 : decode cX12_reckons 56 = .ok (.istore_n 2, 1) := by decide +kernel
theorem dX12_reckons_57 : decode cX12_reckons 57 = .ok (.iinc 3 1, 3) := by decide +kernel
theorem dX12_reckons_60 : decode cX12_reckons 60 = .ok (.goto (-44), 3) := by decide +kernel
theorem dX12_reckons_63 : decode cX12_reckons 63 = .ok (.aload_n 0, 1) := by decide +kernel
theorem dX12_reckons_64 : decode cX12_reckons 64 = .ok (.getfield 224, 3) := by decide +kernel
theorem dX12_reckons_67 : decode cX12_reckons 67 = .ok (.iconst 2, 1) := by decide +kernel
theorem dX12_reckons_68 : decode cX12_reckons 68 = .ok (.isub, 1) := by decide +kernel
theorem dX12_reckons_69 : decode cX12_reckons 69 = .ok (.istore_n 3, 1) := by decide +kernel
theorem dX12_reckons_70 : decode cX12_reckons 70 = .ok (.iload_n 3, 1) := by decide +kernel
theorem dX12_reckons_71 : decode cX12_reckons 71 = .ok (.ifCond .lt 147, 3) := by decide +kernel
theorem dX12_reckons_74 : decode cX12_reckons 74 = .ok (.iload_n 2, 1) := by decide +kernel
theorem dX12_reckons_75 : decode cX12_reckons 75 = .ok (.ifCond .eq 143, 3) := by decide +kernel
theorem dX12_reckons_78 : decode cX12_reckons 78 = .ok (.aload_n 0, 1) := by decide +kernel
theorem dX12_reckons_79 : decode cX12_reckons 79 = .ok (.getfield 13, 3) := by decide +kernel
theorem dX12_reckons_82 : decode cX12_reckons 82 = .ok (.aload_n 0, 1) := by decide +kernel
theorem dX12_reckons_83 : decode cX12_reckons 83 = .ok (.getfield 66, 3) := by decide +kernel
theorem dX12_reckons_86 : decode cX12_reckons 86 = .ok (.iload_n 3, 1) := by decide +kernel
theorem dX12_reckons_87 : decode cX12_reckons 87 = .ok (.iaload, 1) := by decide +kernel
theorem dX12_reckons_88 : decode cX12_reckons 88 = .ok (.iaload, 1) := by decide +kernel
theorem dX12_reckons_89 : decode cX12_reckons 89 = .ok (.istore 4, 2) := by decide +kernel
theorem dX12_reckons_91 : decode cX12_reckons 91 = .ok (.iconst (-1), 1) := by decide +kernel
theorem dX12_reckons_92 : decode cX12_reckons 92 = .ok (.istore 5, 2) := by decide +kernel
theorem dX12_reckons_94 : decode cX12_reckons 94 = .ok (.aload_n 0, 1) := by decide +kernel
theorem dX12_reckons_95 : decode cX12_reckons 95 = .ok (.getfield 28, 3) := by decide +kernel
theorem dX12_reckons_98 : decode cX12_reckons 98 = .ok (.iload_n 1, 1) := by decide +kernel
theorem dX12_reckons_99 : decode cX12_reckons 99 = .ok (.iaload, 1) := by decide +kernel
theorem dX12_reckons_100 : decode cX12_reckons 100 = .ok (.istore 6, 2) := by decide +kernel
theorem dX12_reckons_102 : decode cX12_reckons 102 = .ok (.iload 6, 2) := by decide +kernel
theorem dX12_reckons_104 : decode cX12_reckons 104 = .ok (.ifCond .lt 108, 3) := by decide +kernel
theorem dX12_reckons_107 : decode cX12_reckons 107 = .ok (.aload_n 0, 1) := by decide +kernel
theorem dX12_reckons_108 : decode cX12_reckons 108 = .ok (.iload_n 1, 1) := by decide +kernel
theorem dX12_reckons_109 : decode cX12_reckons 109 = .ok (.iload_n 3, 1) := by decide +kernel
theorem dX12_reckons_110 : decode cX12_reckons 110 = .ok (.iload 6, 2) := by decide +kernel
theorem dX12_reckons_112 : decode cX12_reckons 112 = .ok (.invokevirtual 227, 3) := by decide +kernel
theorem dX12_reckons_115 : decode cX12_reckons 115 = .ok (.istore 7, 2) := by decide +kernel
theorem dX12_reckons_117 : decode cX12_reckons 117 = .ok (.iload 7, 2) := by decide +kernel
theorem dX12_reckons_119 : decode cX12_reckons 119 = .ok (.iconst (-1), 1) := by decide +kernel
theorem dX12_reckons_120 : decode cX12_reckons 120 = .ok (.if_icmp .ne 7, 3) := by decide +kernel
theorem dX12_reckons_123 : decode cX12_reckons 123 = .ok (.iconst (-1), 1) := by decide +kernel
theorem dX12_reckons_124 : decode cX12_reckons 124 = .ok (.goto 11, 3) := by decide +kernel
theorem dX12_reckons_127 : decode cX12_reckons 127 = .ok (.iload 7, 2) := by decide +kernel
theorem dX12_reckons_129 : decode cX12_reckons 129 = .ok (.iload 6, 2) := by decide +kernel
theorem dX12_reckons_131 : decode cX12_reckons 131 = .ok (.iload 4, 2) := by decide +kernel
theorem dX12_reckons_133 : decode cX12_reckons 133 = .ok (.imul, 1) := by decide +kernel
theorem dX12_reckons_134 : decode cX12_reckons 134 = .ok (.iadd, 1) := by decide +kernel
theorem dX12_reckons_135 : decode cX12_reckons 135 = .ok (.istore 8, 2) := by decide +kernel
theorem dX12_reckons_137 : decode cX12_reckons 137 = .ok (.iload 4, 2) := by decide +kernel
theorem dX12_reckons_139 : decode cX12_reckons 139 = .ok (.ifCond .ne 8, 3) := by decide +kernel
theorem dX12_reckons_142 : decode cX12_reckons 142 = .ok (.iload 8, 2) := by decide +kernel
theorem dX12_reckons_144 : decode cX12_reckons 144 = .ok (.goto 29, 3) := by decide +kernel
theorem dX12_reckons_147 : decode cX12_reckons 147 = .ok (.iload 8, 2) := by decide +kernel
theorem dX12_reckons_149 : decode cX12_reckons 149 = .ok (.iconst (-1), 1) := by decide +kernel
theorem dX12_reckons_150 : decode cX12_reckons 150 = .ok (.if_icmp .eq 21, 3) := by decide +kernel
theorem dX12_reckons_153 : decode cX12_reckons 153 = .ok (.iload 5, 2) := by decide +kernel
theorem dX12_reckons_155 : decode cX12_reckons 155 = .ok (.iconst (-1), 1) := by decide +kernel
theorem dX12_reckons_156 : decode cX12_reckons 156 = .ok (.if_icmp .eq 10, 3) := by decide +kernel
theorem dX12_reckons_159 : decode cX12_reckons 159 = .ok (.iload 8, 2) := by decide +kernel
theorem dX12_reckons_161 : decode cX12_reckons 161 = .ok (.iload 5, 2) := by decide +kernel
theorem dX12_reckons_163 : decode cX12_reckons 163 = .ok (.if_icmp .ge 8, 3) := by decide +kernel
theorem dX12_reckons_166 : decode cX12_reckons 166 = .ok (.iload 8, 2) := by decide +kernel
theorem dX12_reckons_168 : decode cX12_reckons 168 = .ok (.goto 5, 3) := by decide +kernel
theorem dX12_reckons_171 : decode cX12_reckons 171 = .ok (.iload 5, 2) := by decide +kernel
theorem dX12_reckons_173 : decode cX12_reckons 173 = .ok (.istore 5, 2) := by decide +kernel
theorem dX12_reckons_175 : decode cX12_reckons 175 = .ok (.aload_n 0, 1) := by decide +kernel
theorem dX12_reckons_176 : decode cX12_reckons 176 = .ok (.getfield 126, 3) := by decide +kernel
theorem dX12_reckons_179 : decode cX12_reckons 179 = .ok (.sipush 1000, 3) := by decide +kernel
theorem dX12_reckons_182 : decode cX12_reckons 182 = .ok (.iload_n 3, 1) := by decide +kernel
theorem dX12_reckons_183 : decode cX12_reckons 183 = .ok (.imul, 1) := by decide +kernel
theorem dX12_reckons_184 : decode cX12_reckons 184 = .ok (.iload 6, 2) := by decide +kernel
theorem dX12_reckons_186 : decode cX12_reckons 186 = .ok (.iadd, 1) := by decide +kernel
theorem dX12_reckons_187 : decode cX12_reckons 187 = .ok (.iload 5, 2) := by decide +kernel
theorem dX12_reckons_189 : decode cX12_reckons 189 = .ok (.iconst (-1), 1) := by decide +kernel
theorem dX12_reckons_190 : decode cX12_reckons 190 = .ok (.if_icmp .ne 7, 3) := by decide +kernel
theorem dX12_reckons_193 : decode cX12_reckons 193 = .ok (.iconst (-1), 1) := by decide +kernel
theorem dX12_reckons_194 : decode cX12_reckons 194 = .ok (.goto 11, 3) := by decide +kernel
theorem dX12_reckons_197 : decode cX12_reckons 197 = .ok (.iload 5, 2) := by decide +kernel
theorem dX12_reckons_199 : decode cX12_reckons 199 = .ok (.iload 6, 2) := by decide +kernel
theorem dX12_reckons_201 : decode cX12_reckons 201 = .ok (.iload 4, 2) := by decide +kernel
theorem dX12_reckons_203 : decode cX12_reckons 203 = .ok (.imul, 1) := by decide +kernel
theorem dX12_reckons_204 : decode cX12_reckons 204 = .ok (.isub, 1) := by decide +kernel
theorem dX12_reckons_205 : decode cX12_reckons 205 = .ok (.iastore, 1) := by decide +kernel
theorem dX12_reckons_206 : decode cX12_reckons 206 = .ok (.iinc 6 (-1), 3) := by decide +kernel
theorem dX12_reckons_209 : decode cX12_reckons 209 = .ok (.goto (-107), 3) := by decide +kernel
theorem dX12_reckons_212 : decode cX12_reckons 212 = .ok (.iinc 3 (-1), 3) := by decide +kernel
theorem dX12_reckons_215 : decode cX12_reckons 215 = .ok (.goto (-145), 3) := by decide +kernel
theorem dX12_reckons_218 : decode cX12_reckons 218 = .ok (.iload_n 2, 1) := by decide +kernel
theorem dX12_reckons_219 : decode cX12_reckons 219 = .ok (.ifCond .eq 17, 3) := by decide +kernel
theorem dX12_reckons_222 : decode cX12_reckons 222 = .ok (.aload_n 0, 1) := by decide +kernel
theorem dX12_reckons_223 : decode cX12_reckons 223 = .ok (.getfield 126, 3) := by decide +kernel
theorem dX12_reckons_226 : decode cX12_reckons 226 = .ok (.iconst 0, 1) := by decide +kernel
theorem dX12_reckons_227 : decode cX12_reckons 227 = .ok (.iaload, 1) := by decide +kernel
theorem dX12_reckons_228 : decode cX12_reckons 228 = .ok (.iconst (-1), 1) := by decide +kernel
theorem dX12_reckons_229 : decode cX12_reckons 229 = .ok (.if_icmp .eq 7, 3) := by decide +kernel
theorem dX12_reckons_232 : decode cX12_reckons 232 = .ok (.iconst 1, 1) := by decide +kernel
theorem dX12_reckons_233 : decode cX12_reckons 233 = .ok (.goto 4, 3) := by decide +kernel
theorem dX12_reckons_236 : decode cX12_reckons 236 = .ok (.iconst 0, 1) := by decide +kernel
theorem dX12_reckons_237 : decode cX12_reckons 237 = .ok (.ireturn, 1) := by decide +kernel
theorem dX12_bunker_0 : decode cX12_bunker 0 = .ok (.aload_n 0, 1) := by decide +kernel
theorem dX12_bunker_1 : decode cX12_bunker 1 = .ok (.iload_n 1, 1) := by decide +kernel
theorem dX12_bunker_2 : decode cX12_bunker 2 = .ok (.invokevirtual 163, 3) := by decide +kernel
theorem dX12_bunker_5 : decode cX12_bunker 5 = .ok (.ifCond .ne 6, 3) := by decide +kernel
theorem dX12_bunker_8 : decode cX12_bunker 8 = .ok (.bipush (-2), 2) := by decide +kernel
theorem dX12_bunker_10 : decode cX12_bunker 10 = .ok (.ireturn, 1) := by decide +kernel
theorem dX12_bunker_11 : decode cX12_bunker 11 = .ok (.aload_n 0, 1) := by decide +kernel
theorem dX12_bunker_12 : decode cX12_bunker 12 = .ok (.iload_n 1, 1) := by decide +kernel
theorem dX12_bunker_13 : decode cX12_bunker 13 = .ok (.invokevirtual 230, 3) := by decide +kernel
theorem dX12_bunker_16 : decode cX12_bunker 16 = .ok (.ifCond .eq 12, 3) := by decide +kernel
theorem dX12_bunker_19 : decode cX12_bunker 19 = .ok (.aload_n 0, 1) := by decide +kernel
theorem dX12_bunker_20 : decode cX12_bunker 20 = .ok (.getfield 126, 3) := by decide +kernel
theorem dX12_bunker_23 : decode cX12_bunker 23 = .ok (.iconst 0, 1) := by decide +kernel
theorem dX12_bunker_24 : decode cX12_bunker 24 = .ok (.iaload, 1) := by decide +kernel
theorem dX12_bunker_25 : decode cX12_bunker 25 = .ok (.goto 4, 3) := by decide +kernel
theorem dX12_bunker_28 : decode cX12_bunker 28 = .ok (.iconst (-1), 1) := by decide +kernel
theorem dX12_bunker_29 : decode cX12_bunker 29 = .ok (.ireturn, 1) := by decide +kernel
theorem dX12_bought_0 : decode cX12_bought 0 = .ok (.aload_n 0, 1) := by decide +kernel
theorem dX12_bought_1 : decode cX12_bought 1 = .ok (.iload_n 1, 1) := by decide +kernel
theorem dX12_bought_2 : decode cX12_bought 2 = .ok (.invokevirtual 163, 3) := by decide +kernel
theorem dX12_bought_5 : decode cX12_bought 5 = .ok (.ifCond .ne 6, 3) := by decide +kernel
theorem dX12_bought_8 : decode cX12_bought 8 = .ok (.bipush (-2), 2) := by decide +kernel
theorem dX12_bought_10 : decode cX12_bought 10 = .ok (.ireturn, 1) := by decide +kernel
theorem dX12_bought_11 : decode cX12_bought 11 = .ok (.aload_n 0, 1) := by decide +kernel
theorem dX12_bought_12 : decode cX12_bought 12 = .ok (.iload_n 1, 1) := by decide +kernel
theorem dX12_bought_13 : decode cX12_bought 13 = .ok (.invokevirtual 230, 3) := by decide +kernel
theorem dX12_bought_16 : decode cX12_bought 16 = .ok (.ifCond .eq 17, 3) := by decide +kernel
theorem dX12_bought_19 : decode cX12_bought 19 = .ok (.iload_n 2, 1) := by decide +kernel
theorem dX12_bought_20 : decode cX12_bought 20 = .ok (.iconst 0, 1) := by decide +kernel
theorem dX12_bought_21 : decode cX12_bought 21 = .ok (.aload_n 0, 1) := by decide +kernel
theorem dX12_bought_22 : decode cX12_bought 22 = .ok (.getfield 224, 3) := by decide +kernel
theorem dX12_bought_25 : decode cX12_bought 25 = .ok (.iconst 2, 1) := by decide +kernel
theorem dX12_bought_26 : decode cX12_bought 26 = .ok (.isub, 1) := by decide +kernel
theorem dX12_bought_27 : decode cX12_bought 27 = .ok (.invokestatic 149, 3) := by decide +kernel
theorem dX12_bought_30 : decode cX12_bought 30 = .ok (.ifCond .ne 5, 3) := by decide +kernel
theorem dX12_bought_33 : decode cX12_bought 33 = .ok (.iconst (-1), 1) := by decide +kernel
theorem dX12_bought_34 : decode cX12_bought 34 = .ok (.ireturn, 1) := by decide +kernel
theorem dX12_bought_35 : decode cX12_bought 35 = .ok (.iconst 0, 1) := by decide +kernel
theorem dX12_bought_36 : decode cX12_bought 36 = .ok (.istore_n 3, 1) := by decide +kernel
theorem dX12_bought_37 : decode cX12_bought 37 = .ok (.iconst 0, 1) := by decide +kernel
theorem dX12_bought_38 : decode cX12_bought 38 = .ok (.istore 4, 2) := by decide +kernel
theorem dX12_bought_40 : decode cX12_bought 40 = .ok (.iconst 0, 1) := by decide +kernel
theorem dX12_bought_41 : decode cX12_bought 41 = .ok (.istore 5, 2) := by decide +kernel
theorem dX12_bought_43 : decode cX12_bought 43 = .ok (.iload 5, 2) := by decide +kernel
theorem dX12_bought_45 : decode cX12_bought 45 = .ok (.iload_n 2, 1) := by decide +kernel
theorem dX12_bought_46 : decode cX12_bought 46 = .ok (.if_icmp .gt 107, 3) := by decide +kernel
theorem dX12_bought_49 : decode cX12_bought 49 = .ok (.aload_n 0, 1) := by decide +kernel
theorem dX12_bought_50 : decode cX12_bought 50 = .ok (.getfield 13, 3) := by decide +kernel
theorem dX12_bought_53 : decode cX12_bought 53 = .ok (.aload_n 0, 1) := by decide +kernel
theorem dX12_bought_54 : decode cX12_bought 54 = .ok (.getfield 66, 3) := by decide +kernel
theorem dX12_bought_57 : decode cX12_bought 57 = .ok (.iload 5, 2) := by decide +kernel
theorem dX12_bought_59 : decode cX12_bought 59 = .ok (.iaload, 1) := by decide +kernel
theorem dX12_bought_60 : decode cX12_bought 60 = .ok (.iaload, 1) := by decide +kernel
theorem dX12_bought_61 : decode cX12_bought 61 = .ok (.istore 6, 2) := by decide +kernel
theorem dX12_bought_63 : decode cX12_bought 63 = .ok (.iconst 0, 1) := by decide +kernel
theorem dX12_bought_64 : decode cX12_bought 64 = .ok (.istore 4, 2) := by decide +kernel
theorem dX12_bought_66 : decode cX12_bought 66 = .ok (.aload_n 0, 1) := by decide +kernel
theorem dX12_bought_67 : decode cX12_bought 67 = .ok (.iload_n 1, 1) := by decide +kernel
theorem dX12_bought_68 : decode cX12_bought 68 = .ok (.iload 5, 2) := by decide +kernel
theorem dX12_bought_70 : decode cX12_bought 70 = .ok (.iload_n 3, 1) := by decide +kernel
theorem dX12_bought_71 : decode cX12_bought 71 = .ok (.iload 4, 2) := by decide +kernel
theorem dX12_bought_73 : decode cX12_bought 73 = .ok (.iadd, 1) := by decide +kernel
theorem dX12_bought_74 : decode cX12_bought 74 = .ok (.invokevirtual 227, 3) := by decide +kernel
theorem dX12_bought_77 : decode cX12_bought 77 = .ok (.iconst (-1), 1) := by decide +kernel
theorem dX12_bought_78 : decode cX12_bought 78 = .ok (.if_icmp .eq 36, 3) := by decide +kernel
theorem dX12_bought_81 : decode cX12_bought 81 = .ok (.aload_n 0, 1) := by decide +kernel
theorem dX12_bought_82 : decode cX12_bought 82 = .ok (.iload_n 1, 1) := by decide +kernel
theorem dX12_bought_83 : decode cX12_bought 83 = .ok (.iload 5, 2) := by decide +kernel
theorem dX12_bought_85 : decode cX12_bought 85 = .ok (.iload_n 3, 1) := by decide +kernel
theorem dX12_bought_86 : decode cX12_bought 86 = .ok (.iload 4, 2) := by decide +kernel
theorem dX12_bought_88 : decode cX12_bought 88 = .ok (.iadd, 1) := by decide +kernel
theorem dX12_bought_89 : decode cX12_bought 89 = .ok (.invokevirtual 227, 3) := by decide +kernel
theorem dX12_bought_92 : decode cX12_bought 92 = .ok (.iload 4, 2) := by decide +kernel
theorem dX12_bought_94 : decode cX12_bought 94 = .ok (.iload 6, 2) := by decide +kernel
theorem dX12_bought_96 : decode cX12_bought 96 = .ok (.imul, 1) := by decide +kernel
theorem dX12_bought_97 : decode cX12_bought 97 = .ok (.iadd, 1) := by decide +kernel
theorem dX12_bought_98 : decode cX12_bought 98 = .ok (.aload_n 0, 1) := by decide +kernel
theorem dX12_bought_99 : decode cX12_bought 99 = .ok (.getfield 126, 3) := by decide +kernel
theorem dX12_bought_102 : decode cX12_bought 102 = .ok (.sipush 1000, 3) := by decide +kernel
theorem dX12_bought_105 : decode cX12_bought 105 = .ok (.iload 5, 2) := by decide +kernel
theorem dX12_bought_107 : decode cX12_bought 107 = .ok (.imul, 1) := by decide +kernel
theorem dX12_bought_108 : decode cX12_bought 108 = .ok (.iload_n 3, 1) := by decide +kernel
theorem dX12_bought_109 : decode cX12_bought 109 = .ok (.iadd, 1) := by decide +kernel
theorem dX12_bought_110 : decode cX12_bought 110 = .ok (.iaload, 1) := by decide +kernel
theorem dX12_bought_111 : decode cX12_bought 111 = .ok (.if_icmp .eq 9, 3) := by decide +kernel
theorem dX12_bought_114 : decode cX12_bought 114 = .ok (.iinc 4 1, 3) := by decide +kernel
theorem dX12_bought_117 : decode cX12_bought 117 = .ok (.goto (-51), 3) := by decide +kernel
theorem dX12_bought_120 : decode cX12_bought 120 = .ok (.iload_n 3, 1) := by decide +kernel
theorem dX12_bought_121 : decode cX12_bought 121 = .ok (.iload 4, 2) := by decide +kernel
theorem dX12_bought_123 : decode cX12_bought 123 = .ok (.aload_n 0, 1) := by decide +kernel
theorem dX12_bought_124 : decode cX12_bought 124 = .ok (.iload_n 1, 1) := by decide +kernel
theorem dX12_bought_125 : decode cX12_bought 125 = .ok (.aload_n 0, 1) := by decide +kernel
theorem dX12_bought_126 : decode cX12_bought 126 = .ok (.getfield 66, 3) := by decide +kernel
theorem dX12_bought_129 : decode cX12_bought 129 = .ok (.iload 5, 2) := by decide +kernel
theorem dX12_bought_131 : decode cX12_bought 131 = .ok (.iaload, 1) := by decide +kernel
theorem dX12_bought_132 : decode cX12_bought 132 = .ok (.aload_n 0, 1) := by decide +kernel
theorem dX12_bought_133 : decode cX12_bought 133 = .ok (.getfield 66, 3) := by decide +kernel
theorem dX12_bought_136 : decode cX12_bought 136 = .ok (.iload 5, 2) := by decide +kernel
theorem dX12_bought_138 : decode cX12_bought 138 = .ok (.iconst 1, 1) := by decide +kernel
theorem dX12_bought_139 : decode cX12_bought 139 = .ok (.iadd, 1) := by decide +kernel
theorem dX12_bought_140 : decode cX12_bought 140 = .ok (.iaload, 1) := by decide +kernel
theorem dX12_bought_141 : decode cX12_bought 141 = .ok (.invokevirtual 181, 3) := by decide +kernel
theorem dX12_bought_144 : decode cX12_bought 144 = .ok (.isub, 1) := by decide +kernel
theorem dX12_bought_145 : decode cX12_bought 145 = .ok (.iadd, 1) := by decide +kernel
theorem dX12_bought_146 : decode cX12_bought 146 = .ok (.istore_n 3, 1) := by decide +kernel
theorem dX12_bought_147 : decode cX12_bought 147 = .ok (.iinc 5 1, 3) := by decide +kernel
theorem dX12_bought_150 : decode cX12_bought 150 = .ok (.goto (-107), 3) := by decide +kernel
theorem dX12_bought_153 : decode cX12_bought 153 = .ok (.iload 4, 2) := by decide +kernel
theorem dX12_bought_155 : decode cX12_bought 155 = .ok (.ireturn, 1) := by decide +kernel
theorem dX12_isSort_0 : decode cX12_isSort 0 = .ok (.iload_n 0, 1) := by decide +kernel
theorem dX12_isSort_1 : decode cX12_isSort 1 = .ok (.iconst 0, 1) := by decide +kernel
theorem dX12_isSort_2 : decode cX12_isSort 2 = .ok (.iconst 5, 1) := by decide +kernel
theorem dX12_isSort_3 : decode cX12_isSort 3 = .ok (.invokestatic 149, 3) := by decide +kernel
theorem dX12_isSort_6 : decode cX12_isSort 6 = .ok (.ireturn, 1) := by decide +kernel
theorem dX12_log_0 : decode cX12_log 0 = .ok (.aload_n 0, 1) := by decide +kernel
theorem dX12_log_1 : decode cX12_log 1 = .ok (.iload_n 1, 1) := by decide +kernel
theorem dX12_log_2 : decode cX12_log 2 = .ok (.invokevirtual 163, 3) := by decide +kernel
theorem dX12_log_5 : decode cX12_log 5 = .ok (.ifCond .eq 21, 3) := by decide +kernel
theorem dX12_log_8 : decode cX12_log 8 = .ok (.iload_n 2, 1) := by decide +kernel
theorem dX12_log_9 : decode cX12_log 9 = .ok (.invokestatic 233, 3) := by decide +kernel
theorem dX12_log_12 : decode cX12_log 12 = .ok (.ifCond .eq 14, 3) := by decide +kernel
theorem dX12_log_15 : decode cX12_log 15 = .ok (.iload_n 3, 1) := by decide +kernel
theorem dX12_log_16 : decode cX12_log 16 = .ok (.iconst 1, 1) := by decide +kernel
theorem dX12_log_17 : decode cX12_log 17 = .ok (.sipush 500, 3) := by decide +kernel
theorem dX12_log_20 : decode cX12_log 20 = .ok (.invokestatic 149, 3) := by decide +kernel
theorem dX12_log_23 : decode cX12_log 23 = .ok (.ifCond .ne 6, 3) := by decide +kernel
theorem dX12_log_26 : decode cX12_log 26 = .ok (.bipush (-2), 2) := by decide +kernel
theorem dX12_log_28 : decode cX12_log 28 = .ok (.ireturn, 1) := by decide +kernel
theorem dX12_log_29 : decode cX12_log 29 = .ok (.aload_n 0, 1) := by decide +kernel
theorem dX12_log_30 : decode cX12_log 30 = .ok (.getfield 37, 3) := by decide +kernel
theorem dX12_log_33 : decode cX12_log 33 = .ok (.iload_n 1, 1) := by decide +kernel
theorem dX12_log_34 : decode cX12_log 34 = .ok (.iaload, 1) := by decide +kernel
theorem dX12_log_35 : decode cX12_log 35 = .ok (.iload_n 3, 1) := by decide +kernel
theorem dX12_log_36 : decode cX12_log 36 = .ok (.iadd, 1) := by decide +kernel
theorem dX12_log_37 : decode cX12_log 37 = .ok (.sipush 2000, 3) := by decide +kernel
theorem dX12_log_40 : decode cX12_log 40 = .ok (.if_icmp .le 6, 3) := by decide +kernel
theorem dX12_log_43 : decode cX12_log 43 = .ok (.bipush (-4), 2) := by decide +kernel
theorem dX12_log_45 : decode cX12_log 45 = .ok (.ireturn, 1) := by decide +kernel
theorem dX12_log_46 : decode cX12_log 46 = .ok (.iconst 0, 1) := by decide +kernel
theorem dX12_log_47 : decode cX12_log 47 = .ok (.istore 4, 2) := by decide +kernel
theorem dX12_log_49 : decode cX12_log 49 = .ok (.iload 4, 2) := by decide +kernel
theorem dX12_log_51 : decode cX12_log 51 = .ok (.iload_n 3, 1) := by decide +kernel
theorem dX12_log_52 : decode cX12_log 52 = .ok (.if_icmp .ge 38, 3) := by decide +kernel
theorem dX12_log_55 : decode cX12_log 55 = .ok (.aload_n 0, 1) := by decide +kernel
theorem dX12_log_56 : decode cX12_log 56 = .ok (.getfield 40, 3) := by decide +kernel
theorem dX12_log_59 : decode cX12_log 59 = .ok (.sipush 2000, 3) := by decide +kernel
theorem dX12_log_62 : decode cX12_log 62 = .ok (.iload_n 1, 1) := by decide +kernel
theorem dX12_log_63 : decode cX12_log 63 = .ok (.imul, 1) := by decide +kernel
theorem dX12_log_64 : decode cX12_log 64 = .ok (.aload_n 0, 1) := by decide +kernel
theorem dX12_log_65 : decode cX12_log 65 = .ok (.getfield 37, 3) := by decide +kernel
theorem dX12_log_68 : decode cX12_log 68 = .ok (.iload_n 1, 1) := by decide +kernel
theorem dX12_log_69 : decode cX12_log 69 = .ok (.iaload, 1) := by decide +kernel
theorem dX12_log_70 : decode cX12_log 70 = .ok (.iadd, 1) := by decide +kernel
theorem dX12_log_71 : decode cX12_log 71 = .ok (.iload_n 2, 1) := by decide +kernel
theorem dX12_log_72 : decode cX12_log 72 = .ok (.i2b, 1) := by decide +kernel
theorem dX12_log_73 : decode cX12_log 73 = .ok (.bastore, 1) := by decide +kernel
theorem dX12_log_74 : decode cX12_log 74 = .ok (.aload_n 0, 1) := by decide +kernel
theorem dX12_log_75 : decode cX12_log 75 = .ok (.getfield 37, 3) := by decide +kernel
theorem dX12_log_78 : decode cX12_log 78 = .ok (.iload_n 1, 1) := by decide +kernel
theorem dX12_log_79 : decode cX12_log 79 = .ok (.dup2, 1) := by decide +kernel
theorem dX12_log_80 : decode cX12_log 80 = .ok (.iaload, 1) := by decide +kernel
theorem dX12_log_81 : decode cX12_log 81 = .ok (.iconst 1, 1) := by decide +kernel
theorem dX12_log_82 : decode cX12_log 82 = .ok (.iadd, 1) := by decide +kernel
theorem dX12_log_83 : decode cX12_log 83 = .ok (.iastore, 1) := by decide +kernel
theorem dX12_log_84 : decode cX12_log 84 = .ok (.iinc 4 1, 3) := by decide +kernel
theorem dX12_log_87 : decode cX12_log 87 = .ok (.goto (-38), 3) := by decide +kernel
theorem dX12_log_90 : decode cX12_log 90 = .ok (.aload_n 0, 1) := by decide +kernel
theorem dX12_log_91 : decode cX12_log 91 = .ok (.getfield 37, 3) := by decide +kernel
theorem dX12_log_94 : decode cX12_log 94 = .ok (.iload_n 1, 1) := by decide +kernel
theorem dX12_log_95 : decode cX12_log 95 = .ok (.iaload, 1) := by decide +kernel
theorem dX12_log_96 : decode cX12_log 96 = .ok (.ireturn, 1) := by decide +kernel
theorem dX12_lay_0 : decode cX12_lay 0 = .ok (.aload_n 0, 1) := by decide +kernel
theorem dX12_lay_1 : decode cX12_lay 1 = .ok (.iload_n 1, 1) := by decide +kernel
theorem dX12_lay_2 : decode cX12_lay 2 = .ok (.invokevirtual 163, 3) := by decide +kernel
theorem dX12_lay_5 : decode cX12_lay 5 = .ok (.ifCond .eq 24, 3) := by decide +kernel
theorem dX12_lay_8 : decode cX12_lay 8 = .ok (.iload_n 2, 1) := by decide +kernel
theorem dX12_lay_9 : decode cX12_lay 9 = .ok (.invokestatic 236, 3) := by decide +kernel
theorem dX12_lay_12 : decode cX12_lay 12 = .ok (.ifCond .eq 17, 3) := by decide +kernel
theorem dX12_lay_15 : decode cX12_lay 15 = .ok (.iload_n 3, 1) := by decide +kernel
theorem dX12_lay_16 : decode cX12_lay 16 = .ok (.iconst 0, 1) := by decide +kernel
theorem dX12_lay_17 : decode cX12_lay 17 = .ok (.iconst 2, 1) := by decide +kernel
theorem dX12_lay_18 : decode cX12_lay 18 = .ok (.invokestatic 149, 3) := by decide +kernel
theorem dX12_lay_21 : decode cX12_lay 21 = .ok (.ifCond .eq 8, 3) := by decide +kernel
theorem dX12_lay_24 : decode cX12_lay 24 = .ok (.iload 5, 2) := by decide +kernel
theorem dX12_lay_26 : decode cX12_lay 26 = .ok (.ifCond .ge 6, 3) := by decide +kernel
theorem dX12_lay_29 : decode cX12_lay 29 = .ok (.bipush (-2), 2) := by decide +kernel
theorem dX12_lay_31 : decode cX12_lay 31 = .ok (.ireturn, 1) := by decide +kernel
theorem dX12_lay_32 : decode cX12_lay 32 = .ok (.aload_n 0, 1) := by decide +kernel
theorem dX12_lay_33 : decode cX12_lay 33 = .ok (.getfield 108, 3) := by decide +kernel
theorem dX12_lay_36 : decode cX12_lay 36 = .ok (.iload_n 2, 1) := by decide +kernel
theorem dX12_lay_37 : decode cX12_lay 37 = .ok (.iaload, 1) := by decide +kernel
theorem dX12_lay_38 : decode cX12_lay 38 = .ok (.iconst (-1), 1) := by decide +kernel
theorem dX12_lay_39 : decode cX12_lay 39 = .ok (.if_icmp .eq 16, 3) := by decide +kernel
theorem dX12_lay_42 : decode cX12_lay 42 = .ok (.aload_n 0, 1) := by decide +kernel
theorem dX12_lay_43 : decode cX12_lay 43 = .ok (.getfield 108, 3) := by decide +kernel
theorem dX12_lay_46 : decode cX12_lay 46 = .ok (.iload_n 2, 1) := by decide +kernel
theorem dX12_lay_47 : decode cX12_lay 47 = .ok (.iaload, 1) := by decide +kernel
theorem dX12_lay_48 : decode cX12_lay 48 = .ok (.iload_n 3, 1) := by decide +kernel
theorem dX12_lay_49 : decode cX12_lay 49 = .ok (.if_icmp .eq 6, 3) := by decide +kernel
theorem dX12_lay_52 : decode cX12_lay 52 = .ok (.bipush (-13), 2) := by decide +kernel
theorem dX12_lay_54 : decode cX12_lay 54 = .ok (.ireturn, 1) := by decide +kernel
theorem dX12_lay_55 : decode cX12_lay 55 = .ok (.aload_n 0, 1) := by decide +kernel
theorem dX12_lay_56 : decode cX12_lay 56 = .ok (.getfield 108, 3) := by decide +kernel
theorem dX12_lay_59 : decode cX12_lay 59 = .ok (.iload_n 2, 1) := by decide +kernel
theorem dX12_lay_60 : decode cX12_lay 60 = .ok (.iaload, 1) := by decide +kernel
theorem dX12_lay_61 : decode cX12_lay 61 = .ok (.iconst (-1), 1) := by decide +kernel
theorem dX12_lay_62 : decode cX12_lay 62 = .ok (.if_icmp .ne 6, 3) := by decide +kernel
theorem dX12_lay_65 : decode cX12_lay 65 = .ok (.bipush (-11), 2) := by decide +kernel
theorem dX12_lay_67 : decode cX12_lay 67 = .ok (.ireturn, 1) := by decide +kernel
theorem dX12_lay_68 : decode cX12_lay 68 = .ok (.iconst 0, 1) := by decide +kernel
theorem dX12_lay_69 : decode cX12_lay 69 = .ok (.istore 6, 2) := by decide +kernel
theorem dX12_lay_71 : decode cX12_lay 71 = .ok (.iload 6, 2) := by decide +kernel
theorem dX12_lay_73 : decode cX12_lay 73 = .ok (.iload 5, 2) := by decide +kernel
theorem dX12_lay_75 : decode cX12_lay 75 = .ok (.if_icmp .ge 106, 3) := by decide +kernel
theorem dX12_lay_78 : decode cX12_lay 78 = .ok (.iload 4, 2) := by decide +kernel
theorem dX12_lay_80 : decode cX12_lay 80 = .ok (.iload 6, 2) := by decide +kernel
theorem dX12_lay_82 : decode cX12_lay 82 = .ok (.iadd, 1) := by decide +kernel
theorem dX12_lay_83 : decode cX12_lay 83 = .ok (.istore 7, 2) := by decide +kernel
theorem dX12_lay_85 : decode cX12_lay 85 = .ok (.iload 7, 2) := by decide +kernel
theorem dX12_lay_87 : decode cX12_lay 87 = .ok (.iconst 0, 1) := by decide +kernel
theorem dX12_lay_88 : decode cX12_lay 88 = .ok (.aload_n 0, 1) := by decide +kernel
theorem dX12_lay_89 : decode cX12_lay 89 = .ok (.getfield 111, 3) := by decide +kernel
theorem dX12_lay_92 : decode cX12_lay 92 = .ok (.iload_n 2, 1) := by decide +kernel
theorem dX12_lay_93 : decode cX12_lay 93 = .ok (.iaload, 1) := by decide +kernel
theorem dX12_lay_94 : decode cX12_lay 94 = .ok (.iconst 1, 1) := by decide +kernel
theorem dX12_lay_95 : decode cX12_lay 95 = .ok (.isub, 1) := by decide +kernel
theorem dX12_lay_96 : decode cX12_lay 96 = .ok (.invokestatic 149, 3) := by decide +kernel
theorem dX12_lay_99 : decode cX12_lay 99 = .ok (.ifCond .ne 6, 3) := by decide +kernel
theorem dX12_lay_102 : decode cX12_lay 102 = .ok (.bipush (-12), 2) := by decide +kernel
theorem dX12_lay_104 : decode cX12_lay 104 = .ok (.ireturn, 1) := by decide +kernel
theorem dX12_lay_105 : decode cX12_lay 105 = .ok (.aload_n 0, 1) := by decide +kernel
theorem dX12_lay_106 : decode cX12_lay 106 = .ok (.getfield 114, 3) := by decide +kernel
theorem dX12_lay_109 : decode cX12_lay 109 = .ok (.bipush 40, 2) := by decide +kernel
theorem dX12_lay_111 : decode cX12_lay 111 = .ok (.iload_n 2, 1) := by decide +kernel
theorem dX12_lay_112 : decode cX12_lay 112 = .ok (.imul, 1) := by decide +kernel
theorem dX12_lay_113 : decode cX12_lay 113 = .ok (.iload 7, 2) := by decide +kernel
theorem dX12_lay_115 : decode cX12_lay 115 = .ok (.iadd, 1) := by decide +kernel
theorem dX12_lay_116 : decode cX12_lay 116 = .ok (.iaload, 1) := by decide +kernel
theorem dX12_lay_117 : decode cX12_lay 117 = .ok (.istore 8, 2) := by decide +kernel
theorem dX12_lay_119 : decode cX12_lay 119 = .ok (.iload 8, 2) := by decide +kernel
theorem dX12_lay_121 : decode cX12_lay 121 = .ok (.invokestatic 233, 3) := by decide +kernel
theorem dX12_lay_124 : decode cX12_lay 124 = .ok (.ifCond .ne 6, 3) := by decide +kernel
theorem dX12_lay_127 : decode cX12_lay 127 = .ok (.bipush (-2), 2) := by decide +kernel
theorem dX12_lay_129 : decode cX12_lay 129 = .ok (.ireturn, 1) := by decide +kernel
theorem dX12_lay_130 : decode cX12_lay 130 = .ok (.aload_n 0, 1) := by decide +kernel
theorem dX12_lay_131 : decode cX12_lay 131 = .ok (.getfield 37, 3) := by decide +kernel
theorem dX12_lay_134 : decode cX12_lay 134 = .ok (.iload_n 1, 1) := by decide +kernel
theorem dX12_lay_135 : decode cX12_lay 135 = .ok (.iaload, 1) := by decide +kernel
theorem dX12_lay_136 : decode cX12_lay 136 = .ok (.sipush 2000, 3) := by decide +kernel
theorem dX12_lay_139 : decode cX12_lay 139 = .ok (.if_icmp .ne 6, 3) := by decide +kernel
theorem dX12_lay_142 : decode cX12_lay 142 = .ok (.bipush (-4), 2) := by decide +kernel
theorem dX12_lay_144 : decode cX12_lay 144 = .ok (.ireturn, 1) := by decide +kernel
theorem dX12_lay_145 : decode cX12_lay 145 = .ok (.aload_n 0, 1) := by decide +kernel
theorem dX12_lay_146 : decode cX12_lay 146 = .ok (.getfield 40, 3) := by decide +kernel
theorem dX12_lay_149 : decode cX12_lay 149 = .ok (.sipush 2000, 3) := by decide +kernel
theorem dX12_lay_152 : decode cX12_lay 152 = .ok (.iload_n 1, 1) := by decide +kernel
theorem dX12_lay_153 : decode cX12_lay 153 = .ok (.imul, 1) := by decide +kernel
theorem dX12_lay_154 : decode cX12_lay 154 = .ok (.aload_n 0, 1) := by decide +kernel
theorem dX12_lay_155 : decode cX12_lay 155 = .ok (.getfield 37, 3) := by decide +kernel
theorem dX12_lay_158 : decode cX12_lay 158 = .ok (.iload_n 1, 1) := by decide +kernel
theorem dX12_lay_159 : decode cX12_lay 159 = .ok (.iaload, 1) := by decide +kernel
theorem dX12_lay_160 : decode cX12_lay 160 = .ok (.iadd, 1) := by decide +kernel
theorem dX12_lay_161 : decode cX12_lay 161 = .ok (.iload 8, 2) := by decide +kernel
theorem dX12_lay_163 : decode cX12_lay 163 = .ok (.i2b, 1) := by decide +kernel
theorem dX12_lay_164 : decode cX12_lay 164 = .ok (.bastore, 1) := by decide +kernel
theorem dX12_lay_165 : decode cX12_lay 165 = .ok (.aload_n 0, 1) := by decide +kernel
theorem dX12_lay_166 : decode cX12_lay 166 = .ok (.getfield 37, 3) := by decide +kernel
theorem dX12_lay_169 : decode cX12_lay 169 = .ok (.iload_n 1, 1) := by decide +kernel
theorem dX12_lay_170 : decode cX12_lay 170 = .ok (.dup2, 1) := by decide +kernel
theorem dX12_lay_171 : decode cX12_lay 171 = .ok (.iaload, 1) := by decide +kernel
theorem dX12_lay_172 : decode cX12_lay 172 = .ok (.iconst 1, 1) := by decide +kernel
theorem dX12_lay_173 : decode cX12_lay 173 = .ok (.iadd, 1) := by decide +kernel
theorem dX12_lay_174 : decode cX12_lay 174 = .ok (.iastore, 1) := by decide +kernel
theorem dX12_lay_175 : decode cX12_lay 175 = .ok (.iinc 6 1, 3) := by decide +kernel
theorem dX12_lay_178 : decode cX12_lay 178 = .ok (.goto (-107), 3) := by decide +kernel
theorem dX12_lay_181 : decode cX12_lay 181 = .ok (.aload_n 0, 1) := by decide +kernel
theorem dX12_lay_182 : decode cX12_lay 182 = .ok (.getfield 37, 3) := by decide +kernel
theorem dX12_lay_185 : decode cX12_lay 185 = .ok (.iload_n 1, 1) := by decide +kernel
theorem dX12_lay_186 : decode cX12_lay 186 = .ok (.iaload, 1) := by decide +kernel
theorem dX12_lay_187 : decode cX12_lay 187 = .ok (.ireturn, 1) := by decide +kernel
theorem dX12_right_0 : decode cX12_right 0 = .ok (.aload_n 0, 1) := by decide +kernel
theorem dX12_right_1 : decode cX12_right 1 = .ok (.iload_n 1, 1) := by decide +kernel
theorem dX12_right_2 : decode cX12_right 2 = .ok (.invokevirtual 163, 3) := by decide +kernel
theorem dX12_right_5 : decode cX12_right 5 = .ok (.ifCond .eq 17, 3) := by decide +kernel
theorem dX12_right_8 : decode cX12_right 8 = .ok (.iload_n 2, 1) := by decide +kernel
theorem dX12_right_9 : decode cX12_right 9 = .ok (.invokestatic 166, 3) := by decide +kernel
theorem dX12_right_12 : decode cX12_right 12 = .ok (.ifCond .eq 10, 3) := by decide +kernel
theorem dX12_right_15 : decode cX12_right 15 = .ok (.iload_n 3, 1) := by decide +kernel
theorem dX12_right_16 : decode cX12_right 16 = .ok (.invokestatic 233, 3) := by decide +kernel
theorem dX12_right_19 : decode cX12_right 19 = .ok (.ifCond .ne 6, 3) := by decide +kernel
theorem dX12_right_22 : decode cX12_right 22 = .ok (.bipush (-2), 2) := by decide +kernel
theorem dX12_right_24 : decode cX12_right 24 = .ok (.ireturn, 1) := by decide +kernel
theorem dX12_right_25 : decode cX12_right 25 = .ok (.iload_n 2, 1) := by decide +kernel
theorem dX12_right_26 : decode cX12_right 26 = .ok (.aload_n 0, 1) := by decide +kernel
theorem dX12_right_27 : decode cX12_right 27 = .ok (.getfield 37, 3) := by decide +kernel
theorem dX12_right_30 : decode cX12_right 30 = .ok (.iload_n 1, 1) := by decide +kernel
theorem dX12_right_31 : decode cX12_right 31 = .ok (.iaload, 1) := by decide +kernel
theorem dX12_right_32 : decode cX12_right 32 = .ok (.if_icmp .lt 6, 3) := by decide +kernel
theorem dX12_right_35 : decode cX12_right 35 = .ok (.bipush (-3), 2) := by decide +kernel
theorem dX12_right_37 : decode cX12_right 37 = .ok (.ireturn, 1) := by decide +kernel
theorem dX12_right_38 : decode cX12_right 38 = .ok (.aload_n 0, 1) := by decide +kernel
theorem dX12_right_39 : decode cX12_right 39 = .ok (.getfield 40, 3) := by decide +kernel
theorem dX12_right_42 : decode cX12_right 42 = .ok (.sipush 2000, 3) := by decide +kernel
theorem dX12_right_45 : decode cX12_right 45 = .ok (.iload_n 1, 1) := by decide +kernel
theorem dX12_right_46 : decode cX12_right 46 = .ok (.imul, 1) := by decide +kernel
theorem dX12_right_47 : decode cX12_right 47 = .ok (.iload_n 2, 1) := by decide +kernel
theorem dX12_right_48 : decode cX12_right 48 = .ok (.iadd, 1) := by decide +kernel
theorem dX12_right_49 : decode cX12_right 49 = .ok (.baload, 1) := by decide +kernel
theorem dX12_right_50 : decode cX12_right 50 = .ok (.istore 4, 2) := by decide +kernel
theorem dX12_right_52 : decode cX12_right 52 = .ok (.aload_n 0, 1) := by decide +kernel
theorem dX12_right_53 : decode cX12_right 53 = .ok (.getfield 40, 3) := by decide +kernel
theorem dX12_right_56 : decode cX12_right 56 = .ok (.sipush 2000, 3) := by decide +kernel
theorem dX12_right_59 : decode cX12_right 59 = .ok (.iload_n 1, 1) := by decide +kernel
theorem dX12_right_60 : decode cX12_right 60 = .ok (.imul, 1) := by decide +kernel
theorem dX12_right_61 : decode cX12_right 61 = .ok (.iload_n 2, 1) := by decide +kernel
theorem dX12_right_62 : decode cX12_right 62 = .ok (.iadd, 1) := by decide +kernel
theorem dX12_right_63 : decode cX12_right 63 = .ok (.iload_n 3, 1) := by decide +kernel
theorem dX12_right_64 : decode cX12_right 64 = .ok (.i2b, 1) := by decide +kernel
theorem dX12_right_65 : decode cX12_right 65 = .ok (.bastore, 1) := by decide +kernel
theorem dX12_right_66 : decode cX12_right 66 = .ok (.iload 4, 2) := by decide +kernel
theorem dX12_right_68 : decode cX12_right 68 = .ok (.ireturn, 1) := by decide +kernel
theorem dX12_sort_0 : decode cX12_sort 0 = .ok (.aload_n 0, 1) := by decide +kernel
theorem dX12_sort_1 : decode cX12_sort 1 = .ok (.iload_n 1, 1) := by decide +kernel
theorem dX12_sort_2 : decode cX12_sort 2 = .ok (.invokevirtual 163, 3) := by decide +kernel
theorem dX12_sort_5 : decode cX12_sort 5 = .ok (.ifCond .ne 6, 3) := by decide +kernel
theorem dX12_sort_8 : decode cX12_sort 8 = .ok (.bipush (-2), 2) := by decide +kernel
theorem dX12_sort_10 : decode cX12_sort 10 = .ok (.ireturn, 1) := by decide +kernel
theorem dX12_sort_11 : decode cX12_sort 11 = .ok (.iload_n 2, 1) := by decide +kernel
theorem dX12_sort_12 : decode cX12_sort 12 = .ok (.iconst 0, 1) := by decide +kernel
theorem dX12_sort_13 : decode cX12_sort 13 = .ok (.aload_n 0, 1) := by decide +kernel
theorem dX12_sort_14 : decode cX12_sort 14 = .ok (.getfield 37, 3) := by decide +kernel
theorem dX12_sort_17 : decode cX12_sort 17 = .ok (.iload_n 1, 1) := by decide +kernel
theorem dX12_sort_18 : decode cX12_sort 18 = .ok (.iaload, 1) := by decide +kernel
theorem dX12_sort_19 : decode cX12_sort 19 = .ok (.iconst 1, 1) := by decide +kernel
theorem dX12_sort_20 : decode cX12_sort 20 = .ok (.isub, 1) := by decide +kernel
theorem dX12_sort_21 : decode cX12_sort 21 = .ok (.invokestatic 149, 3) := by decide +kernel
theorem dX12_sort_24 : decode cX12_sort 24 = .ok (.ifCond .eq 18, 3) := by decide +kernel
theorem dX12_sort_27 : decode cX12_sort 27 = .ok (.aload_n 0, 1) := by decide +kernel
theorem dX12_sort_28 : decode cX12_sort 28 = .ok (.getfield 40, 3) := by decide +kernel
theorem dX12_sort_31 : decode cX12_sort 31 = .ok (.sipush 2000, 3) := by decide +kernel
theorem dX12_sort_34 : decode cX12_sort 34 = .ok (.iload_n 1, 1) := by decide +kernel
theorem dX12_sort_35 : decode cX12_sort 35 = .ok (.imul, 1) := by decide +kernel
theorem dX12_sort_36 : decode cX12_sort 36 = .ok (.iload_n 2, 1) := by decide +kernel
theorem dX12_sort_37 : decode cX12_sort 37 = .ok (.iadd, 1) := by decide +kernel
theorem dX12_sort_38 : decode cX12_sort 38 = .ok (.baload, 1) := by decide +kernel
theorem dX12_sort_39 : decode cX12_sort 39 = .ok (.goto 4, 3) := by decide +kernel
theorem dX12_sort_42 : decode cX12_sort 42 = .ok (.iconst (-1), 1) := by decide +kernel
theorem dX12_sort_43 : decode cX12_sort 43 = .ok (.ireturn, 1) := by decide +kernel
theorem dX12_byteAt_0 : decode cX12_byteAt 0 = .ok (.iload_n 1, 1) := by decide +kernel
theorem dX12_byteAt_1 : decode cX12_byteAt 1 = .ok (.aload_n 0, 1) := by decide +kernel
theorem dX12_byteAt_2 : decode cX12_byteAt 2 = .ok (.getfield 135, 3) := by decide +kernel
theorem dX12_byteAt_5 : decode cX12_byteAt 5 = .ok (.if_icmp .ge 12, 3) := by decide +kernel
theorem dX12_byteAt_8 : decode cX12_byteAt 8 = .ok (.aload_n 0, 1) := by decide +kernel
theorem dX12_byteAt_9 : decode cX12_byteAt 9 = .ok (.getfield 69, 3) := by decide +kernel
theorem dX12_byteAt_12 : decode cX12_byteAt 12 = .ok (.iload_n 1, 1) := by decide +kernel
theorem dX12_byteAt_13 : decode cX12_byteAt 13 = .ok (.iaload, 1) := by decide +kernel
theorem dX12_byteAt_14 : decode cX12_byteAt 14 = .ok (.goto 4, 3) := by decide +kernel
theorem dX12_byteAt_17 : decode cX12_byteAt 17 = .ok (.iconst (-1), 1) := by decide +kernel
theorem dX12_byteAt_18 : decode cX12_byteAt 18 = .ok (.ireturn, 1) := by decide +kernel
theorem dX12_isLetter_0 : decode cX12_isLetter 0 = .ok (.iload_n 0, 1) := by decide +kernel
theorem dX12_isLetter_1 : decode cX12_isLetter 1 = .ok (.bipush 97, 2) := by decide +kernel
theorem dX12_isLetter_3 : decode cX12_isLetter 3 = .ok (.if_icmp .lt 13, 3) := by decide +kernel
theorem dX12_isLetter_6 : decode cX12_isLetter 6 = .ok (.iload_n 0, 1) := by decide +kernel
theorem dX12_isLetter_7 : decode cX12_isLetter 7 = .ok (.bipush 122, 2) := by decide +kernel
theorem dX12_isLetter_9 : decode cX12_isLetter 9 = .ok (.if_icmp .gt 7, 3) := by decide +kernel
theorem dX12_isLetter_12 : decode cX12_isLetter 12 = .ok (.iconst 1, 1) := by decide +kernel
theorem dX12_isLetter_13 : decode cX12_isLetter 13 = .ok (.goto 4, 3) := by decide +kernel
theorem dX12_isLetter_16 : decode cX12_isLetter 16 = .ok (.iconst 0, 1) := by decide +kernel
theorem dX12_isLetter_17 : decode cX12_isLetter 17 = .ok (.ireturn, 1) := by decide +kernel
theorem dX12_isDigit_0 : decode cX12_isDigit 0 = .ok (.iload_n 0, 1) := by decide +kernel
theorem dX12_isDigit_1 : decode cX12_isDigit 1 = .ok (.bipush 48, 2) := by decide +kernel
theorem dX12_isDigit_3 : decode cX12_isDigit 3 = .ok (.if_icmp .lt 13, 3) := by decide +kernel
theorem dX12_isDigit_6 : decode cX12_isDigit 6 = .ok (.iload_n 0, 1) := by decide +kernel
theorem dX12_isDigit_7 : decode cX12_isDigit 7 = .ok (.bipush 57, 2) := by decide +kernel
theorem dX12_isDigit_9 : decode cX12_isDigit 9 = .ok (.if_icmp .gt 7, 3) := by decide +kernel
theorem dX12_isDigit_12 : decode cX12_isDigit 12 = .ok (.iconst 1, 1) := by decide +kernel
theorem dX12_isDigit_13 : decode cX12_isDigit 13 = .ok (.goto 4, 3) := by decide +kernel
theorem dX12_isDigit_16 : decode cX12_isDigit 16 = .ok (.iconst 0, 1) := by decide +kernel
theorem dX12_isDigit_17 : decode cX12_isDigit 17 = .ok (.ireturn, 1) := by decide +kernel
theorem dX12_next_0 : decode cX12_next 0 = .ok (.aload_n 0, 1) := by decide +kernel
theorem dX12_next_1 : decode cX12_next 1 = .ok (.aload_n 0, 1) := by decide +kernel
theorem dX12_next_2 : decode cX12_next 2 = .ok (.getfield 239, 3) := by decide +kernel
theorem dX12_next_5 : decode cX12_next 5 = .ok (.invokevirtual 242, 3) := by decide +kernel
theorem dX12_next_8 : decode cX12_next 8 = .ok (.bipush 32, 2) := by decide +kernel
theorem dX12_next_10 : decode cX12_next 10 = .ok (.if_icmp .eq 16, 3) := by decide +kernel
theorem dX12_next_13 : decode cX12_next 13 = .ok (.aload_n 0, 1) := by decide +kernel
theorem dX12_next_14 : decode cX12_next 14 = .ok (.aload_n 0, 1) := by decide +kernel
theorem dX12_next_15 : decode cX12_next 15 = .ok (.getfield 239, 3) := by decide +kernel
theorem dX12_next_18 : decode cX12_next 18 = .ok (.invokevirtual 242, 3) := by decide +kernel
theorem dX12_next_21 : decode cX12_next 21 = .ok (.bipush 10, 2) := by decide +kernel
theorem dX12_next_23 : decode cX12_next 23 = .ok (.if_icmp .ne 16, 3) := by decide +kernel
theorem dX12_next_26 : decode cX12_next 26 = .ok (.aload_n 0, 1) := by decide +kernel
theorem dX12_next_27 : decode cX12_next 27 = .ok (.dup, 1) := by decide +kernel
theorem dX12_next_28 : decode cX12_next 28 = .ok (.getfield 239, 3) := by decide +kernel
theorem dX12_next_31 : decode cX12_next 31 = .ok (.iconst 1, 1) := by decide +kernel
theorem dX12_next_32 : decode cX12_next 32 = .ok (.iadd, 1) := by decide +kernel
theorem dX12_next_33 : decode cX12_next 33 = .ok (.putfield 239, 3) := by decide +kernel
theorem dX12_next_36 : decode cX12_next 36 = .ok (.goto (-36), 3) := by decide +kernel
theorem dX12_next_39 : decode cX12_next 39 = .ok (.aload_n 0, 1) := by decide +kernel
theorem dX12_next_40 : decode cX12_next 40 = .ok (.aload_n 0, 1) := by decide +kernel
theorem dX12_next_41 : decode cX12_next 41 = .ok (.getfield 239, 3) := by decide +kernel
theorem dX12_next_44 : decode cX12_next 44 = .ok (.putfield 246, 3) := by decide +kernel
theorem dX12_next_47 : decode cX12_next 47 = .ok (.aload_n 0, 1) := by decide +kernel
theorem dX12_next_48 : decode cX12_next 48 = .ok (.aload_n 0, 1) := by decide +kernel
theorem dX12_next_49 : decode cX12_next 49 = .ok (.getfield 239, 3) := by decide +kernel
theorem dX12_next_52 : decode cX12_next 52 = .ok (.invokevirtual 242, 3) := by decide +kernel
theorem dX12_next_55 : decode cX12_next 55 = .ok (.istore_n 1, 1) := by decide +kernel
theorem dX12_next_56 : decode cX12_next 56 = .ok (.iload_n 1, 1) := by decide +kernel
theorem dX12_next_57 : decode cX12_next 57 = .ok (.iconst (-1), 1) := by decide +kernel
theorem dX12_next_58 : decode cX12_next 58 = .ok (.if_icmp .ne 11, 3) := by decide +kernel
theorem dX12_next_61 : decode cX12_next 61 = .ok (.aload_n 0, 1) := by decide +kernel
theorem dX12_next_62 : decode cX12_next 62 = .ok (.iconst 0, 1) := by decide +kernel
theorem dX12_next_63 : decode cX12_next 63 = .ok (.putfield 249, 3) := by decide +kernel
theorem dX12_next_66 : decode cX12_next 66 = .ok (.goto 108, 3) := by decide +kernel
theorem dX12_next_69 : decode cX12_next 69 = .ok (.iload_n 1, 1) := by decide +kernel
theorem dX12_next_70 : decode cX12_next 70 = .ok (.invokestatic 252, 3) := by decide +kernel
theorem dX12_next_73 : decode cX12_next 73 = .ok (.ifCond .eq 10, 3) := by decide +kernel
theorem dX12_next_76 : decode cX12_next 76 = .ok (.aload_n 0, 1) := by decide +kernel
theorem dX12_next_77 : decode cX12_next 77 = .ok (.invokevirtual 255, 3) := by decide +kernel
theorem dX12_next_80 : decode cX12_next 80 = .ok (.goto 94, 3) := by decide +kernel
theorem dX12_next_83 : decode cX12_next 83 = .ok (.iload_n 1, 1) := by decide +kernel
theorem dX12_next_84 : decode cX12_next 84 = .ok (.invokestatic 258, 3) := by decide +kernel
theorem dX12_next_87 : decode cX12_next 87 = .ok (.ifCond .eq 10, 3) := by decide +kernel
theorem dX12_next_90 : decode cX12_next 90 = .ok (.aload_n 0, 1) := by decide +kernel
theorem dX12_next_91 : decode cX12_next 91 = .ok (.invokevirtual 261, 3) := by decide +kernel
theorem dX12_next_94 : decode cX12_next 94 = .ok (.goto 80, 3) := by decide +kernel
theorem dX12_next_97 : decode cX12_next 97 = .ok (.iload_n 1, 1) := by decide +kernel
theorem dX12_next_98 : decode cX12_next 98 = .ok (.bipush 40, 2) := by decide +kernel
theorem dX12_next_100 : decode cX12_next 100 = .ok (.if_icmp .eq 45, 3) := by decide +kernel
theorem dX12_next_103 : decode cX12_next 103 = .ok (.iload_n 1, 1) := by decide +kernel
theorem dX12_next_104 : decode cX12_next 104 = .ok (.bipush 41, 2) := by decide +kernel
theorem dX12_next_106 : decode cX12_next 106 = .ok (.if_icmp .eq 39, 3) := by decide +kernel
theorem dX12_next_109 : decode cX12_next 109 = .ok (.iload_n 1, 1) := by decide +kernel
theorem dX12_next_110 : decode cX12_next 110 = .ok (.bipush 59, 2) := by decide +kernel
theorem dX12_next_112 : decode cX12_next 112 = .ok (.if_icmp .eq 33, 3) := by decide +kernel
theorem dX12_next_115 : decode cX12_next 115 = .ok (.iload_n 1, 1) := by decide +kernel
theorem dX12_next_116 : decode cX12_next 116 = .ok (.bipush 43, 2) := by decide +kernel
theorem dX12_next_118 : decode cX12_next 118 = .ok (.if_icmp .eq 27, 3) := by decide +kernel
theorem dX12_next_121 : decode cX12_next 121 = .ok (.iload_n 1, 1) := by decide +kernel
theorem dX12_next_122 : decode cX12_next 122 = .ok (.bipush 45, 2) := by decide +kernel
theorem dX12_next_124 : decode cX12_next 124 = .ok (.if_icmp .eq 21, 3) := by decide +kernel
theorem dX12_next_127 : decode cX12_next 127 = .ok (.iload_n 1, 1) := by decide +kernel
theorem dX12_next_128 : decode cX12_next 128 = .ok (.bipush 42, 2) := by decide +kernel
theorem dX12_next_130 : decode cX12_next 130 = .ok (.if_icmp .eq 15, 3) := by decide +kernel
theorem dX12_next_133 : decode cX12_next 133 = .ok (.iload_n 1, 1) := by decide +kernel
theorem dX12_next_134 : decode cX12_next 134 = .ok (.bipush 60, 2) := by decide +kernel
theorem dX12_next_136 : decode cX12_next 136 = .ok (.if_icmp .eq 9, 3) := by decide +kernel
theorem dX12_next_139 : decode cX12_next 139 = .ok (.iload_n 1, 1) := by decide +kernel
theorem dX12_next_140 : decode cX12_next 140 = .ok (.bipush 61, 2) := by decide +kernel
theorem dX12_next_142 : decode cX12_next 142 = .ok (.if_icmp .ne 7, 3) := by decide +kernel
theorem dX12_next_145 : decode cX12_next 145 = .ok (.iconst 1, 1) := by decide +kernel
theorem dX12_next_146 : decode cX12_next 146 = .ok (.goto 4, 3) := by decide +kernel
theorem dX12_next_149 : decode cX12_next 149 = .ok (.iconst 0, 1) := by decide +kernel
theorem dX12_next_150 : decode cX12_next 150 = .ok (.istore_n 2, 1) := by decide +kernel
theorem dX12_next_151 : decode cX12_next 151 = .ok (.aload_n 0, 1) := by decide +kernel
theorem dX12_next_152 : decode cX12_next 152 = .ok (.iload_n 2, 1) := by decide +kernel
theorem dX12_next_153 : decode cX12_next 153 = .ok (.ifCond .eq 7, 3) := by decide +kernel
theorem dX12_next_156 : decode cX12_next 156 = .ok (.iload_n 1, 1) := by decide +kernel
theorem dX12_next_157 : decode cX12_next 157 = .ok (.goto 4, 3) := by decide +kernel
theorem dX12_next_160 : decode cX12_next 160 = .ok (.iconst 2, 1) := by decide +kernel
theorem dX12_next_161 : decode cX12_next 161 = .ok (.putfield 249, 3) := by decide +kernel
theorem dX12_next_164 : decode cX12_next 164 = .ok (.aload_n 0, 1) := by decide +kernel
theorem dX12_next_165 : decode cX12_next 165 = .ok (.dup, 1) := by decide +kernel
theorem dX12_next_166 : decode cX12_next 166 = .ok (.getfield 239, 3) := by decide +kernel
theorem dX12_next_169 : decode cX12_next 169 = .ok (.iconst 1, 1) := by decide +kernel
theorem dX12_next_170 : decode cX12_next 170 = .ok (.iadd, 1) := by decide +kernel
theorem dX12_next_171 : decode cX12_next 171 = .ok (.putfield 239, 3) := by decide +kernel
theorem dX12_next_174 : decode cX12_next 174 = .ok (.return_, 1) := by decide +kernel
theorem dX12_number_0 : decode cX12_number 0 = .ok (.aload_n 0, 1) := by decide +kernel
theorem dX12_number_1 : decode cX12_number 1 = .ok (.iconst 0, 1) := by decide +kernel
theorem dX12_number_2 : decode cX12_number 2 = .ok (.putfield 264, 3) := by decide +kernel
theorem dX12_number_5 : decode cX12_number 5 = .ok (.aload_n 0, 1) := by decide +kernel
theorem dX12_number_6 : decode cX12_number 6 = .ok (.aload_n 0, 1) := by decide +kernel
theorem dX12_number_7 : decode cX12_number 7 = .ok (.getfield 239, 3) := by decide +kernel
theorem dX12_number_10 : decode cX12_number 10 = .ok (.invokevirtual 242, 3) := by decide +kernel
theorem dX12_number_13 : decode cX12_number 13 = .ok (.invokestatic 258, 3) := by decide +kernel
theorem dX12_number_16 : decode cX12_number 16 = .ok (.ifCond .eq 59, 3) := by decide +kernel
theorem dX12_number_19 : decode cX12_number 19 = .ok (.aload_n 0, 1) := by decide +kernel
theorem dX12_number_20 : decode cX12_number 20 = .ok (.aload_n 0, 1) := by decide +kernel
theorem dX12_number_21 : decode cX12_number 21 = .ok (.getfield 239, 3) := by decide +kernel
theorem dX12_number_24 : decode cX12_number 24 = .ok (.aload_n 0, 1) := by decide +kernel
theorem dX12_number_25 : decode cX12_number 25 = .ok (.getfield 246, 3) := by decide +kernel
theorem dX12_number_28 : decode cX12_number 28 = .ok (.isub, 1) := by decide +kernel
theorem dX12_number_29 : decode cX12_number 29 = .ok (.iconst 4, 1) := by decide +kernel
theorem dX12_number_30 : decode cX12_number 30 = .ok (.if_icmp .ge 25, 3) := by decide +kernel
theorem dX12_number_33 : decode cX12_number 33 = .ok (.bipush 10, 2) := by decide +kernel
theorem dX12_number_35 : decode cX12_number 35 = .ok (.aload_n 0, 1) := by decide +kernel
theorem dX12_number_36 : decode cX12_number 36 = .ok (.getfield 264, 3) := by decide +kernel
theorem dX12_number_39 : decode cX12_number 39 = .ok (.imul, 1) := by decide +kernel
theorem dX12_number_40 : decode cX12_number 40 = .ok (.aload_n 0, 1) := by decide +kernel
theorem dX12_number_41 : decode cX12_number 41 = .ok (.aload_n 0, 1) := by decide +kernel
theorem dX12_number_42 : decode cX12_number 42 = .ok (.getfield 239, 3) := by decide +kernel
theorem dX12_number_45 : decode cX12_number 45 = .ok (.invokevirtual 242, 3) := by decide +kernel
theorem dX12_number_48 : decode cX12_number 48 = .ok (.iadd, 1) := by decide +kernel
theorem dX12_number_49 : decode cX12_number 49 = .ok (.bipush 48, 2) := by decide +kernel
theorem dX12_number_51 : decode cX12_number 51 = .ok (.isub, 1) := by decide +kernel
theorem dX12_number_52 : decode cX12_number 52 = .ok (.goto 7, 3) := by decide +kernel
theorem dX12_number_55 : decode cX12_number 55 = .ok (.aload_n 0, 1) := by decide +kernel
theorem dX12_number_56 : decode cX12_number 56 = .ok (.getfield 264, 3) := by decide +kernel
theorem dX12_number_59 : decode cX12_number 59 = .ok (.putfield 264, 3) := by decide +kernel
theorem dX12_number_62 : decode cX12_number 62 = .ok (.aload_n 0, 1) := by decide +kernel
theorem dX12_number_63 : decode cX12_number 63 = .ok (.dup, 1) := by decide +kernel
theorem dX12_number_64 : decode cX12_number 64 = .ok (.getfield 239, 3) := by decide +kernel
theorem dX12_number_67 : decode cX12_number 67 = .ok (.iconst 1, 1) := by decide +kernel
theorem dX12_number_68 : decode cX12_number 68 = .ok (.iadd, 1) := by decide +kernel
theorem dX12_number_69 : decode cX12_number 69 = .ok (.putfield 239, 3) := by decide +kernel
theorem dX12_number_72 : decode cX12_number 72 = .ok (.goto (-67), 3) := by decide +kernel
theorem dX12_number_75 : decode cX12_number 75 = .ok (.aload_n 0, 1) := by decide +kernel
theorem dX12_number_76 : decode cX12_number 76 = .ok (.aload_n 0, 1) := by decide +kernel
theorem dX12_number_77 : decode cX12_number 77 = .ok (.getfield 239, 3) := by decide +kernel
theorem dX12_number_80 : decode cX12_number 80 = .ok (.aload_n 0, 1) := by decide +kernel
theorem dX12_number_81 : decode cX12_number 81 = .ok (.getfield 246, 3) := by decide +kernel
theorem dX12_number_84 : decode cX12_number 84 = .ok (.isub, 1) := by decide +kernel
theorem dX12_number_85 : decode cX12_number 85 = .ok (.iconst 4, 1) := by decide +kernel
theorem dX12_number_86 : decode cX12_number 86 = .ok (.if_icmp .le 7, 3) := by decide +kernel
theorem dX12_number_89 : decode cX12_number 89 = .ok (.iconst 2, 1) := by decide +kernel
theorem dX12_number_90 : decode cX12_number 90 = .ok (.goto 4, 3) := by decide +kernel
theorem dX12_number_93 : decode cX12_number 93 = .ok (.iconst 1, 1) := by decide +kernel
theorem dX12_number_94 : decode cX12_number 94 = .ok (.putfield 249, 3) := by decide +kernel
theorem dX12_number_97 : decode cX12_number 97 = .ok (.return_, 1) := by decide +kernel
theorem dX12_spelled_0 : decode cX12_spelled 0 = .ok (.aload_n 0, 1) := by decide +kernel
theorem dX12_spelled_1 : decode cX12_spelled 1 = .ok (.aload_n 0, 1) := by decide +kernel
theorem dX12_spelled_2 : decode cX12_spelled 2 = .ok (.getfield 239, 3) := by decide +kernel
theorem dX12_spelled_5 : decode cX12_spelled 5 = .ok (.invokevirtual 242, 3) := by decide +kernel
theorem dX12_spelled_8 : decode cX12_spelled 8 = .ok (.invokestatic 252, 3) := by decide +kernel
theorem dX12_spelled_11 : decode cX12_spelled 11 = .ok (.ifCond .eq 16, 3) := by decide +kernel
theorem dX12_spelled_14 : decode cX12_spelled 14 = .ok (.aload_n 0, 1) := by decide +kernel
theorem dX12_spelled_15 : decode cX12_spelled 15 = .ok (.dup, 1) := by decide +kernel
theorem dX12_spelled_16 : decode cX12_spelled 16 = .ok (.getfield 239, 3) := by decide +kernel
theorem dX12_spelled_19 : decode cX12_spelled 19 = .ok (.iconst 1, 1) := by decide +kernel
theorem dX12_spelled_20 : decode cX12_spelled 20 = .ok (.iadd, 1) := by decide +kernel
theorem dX12_spelled_21 : decode cX12_spelled 21 = .ok (.putfield 239, 3) := by decide +kernel
theorem dX12_spelled_24 : decode cX12_spelled 24 = .ok (.goto (-24), 3) := by decide +kernel
theorem dX12_spelled_27 : decode cX12_spelled 27 = .ok (.iconst 0, 1) := by decide +kernel
theorem dX12_spelled_28 : decode cX12_spelled 28 = .ok (.istore_n 1, 1) := by decide +kernel
theorem dX12_spelled_29 : decode cX12_spelled 29 = .ok (.iconst 0, 1) := by decide +kernel
theorem dX12_spelled_30 : decode cX12_spelled 30 = .ok (.istore_n 2, 1) := by decide +kernel
theorem dX12_spelled_31 : decode cX12_spelled 31 = .ok (.iconst 1, 1) := by decide +kernel
theorem dX12_spelled_32 : decode cX12_spelled 32 = .ok (.istore_n 3, 1) := by decide +kernel
theorem dX12_spelled_33 : decode cX12_spelled 33 = .ok (.aload_n 0, 1) := by decide +kernel
theorem dX12_spelled_34 : decode cX12_spelled 34 = .ok (.iconst 2, 1) := by decide +kernel
theorem dX12_spelled_35 : decode cX12_spelled 35 = .ok (.putfield 249, 3) := by decide +kernel
theorem dX12_spelled_38 : decode cX12_spelled 38 = .ok (.iconst 0, 1) := by decide +kernel
theorem dX12_spelled_39 : decode cX12_spelled 39 = .ok (.istore 4, 2) := by decide +kernel
theorem dX12_spelled_41 : decode cX12_spelled 41 = .ok (.iload 4, 2) := by decide +kernel
theorem dX12_spelled_43 : decode cX12_spelled 43 = .ok (.aload_n 0, 1) := by decide +kernel
theorem dX12_spelled_44 : decode cX12_spelled 44 = .ok (.getfield 129, 3) := by decide +kernel
theorem dX12_spelled_47 : decode cX12_spelled 47 = .ok (.arraylength, 1) := by decide +kernel
theorem dX12_spelled_48 : decode cX12_spelled 48 = .ok (.if_icmp .ge 117, 3) := by decide +kernel
theorem dX12_spelled_51 : decode cX12_spelled 51 = .ok (.aload_n 0, 1) := by decide +kernel
theorem dX12_spelled_52 : decode cX12_spelled 52 = .ok (.getfield 129, 3) := by decide +kernel
theorem dX12_spelled_55 : decode cX12_spelled 55 = .ok (.iload 4, 2) := by decide +kernel
theorem dX12_spelled_57 : decode cX12_spelled 57 = .ok (.iaload, 1) := by decide +kernel
theorem dX12_spelled_58 : decode cX12_spelled 58 = .ok (.ifCond .ne 55, 3) := by decide +kernel
theorem dX12_spelled_61 : decode cX12_spelled 61 = .ok (.iload_n 3, 1) := by decide +kernel
theorem dX12_spelled_62 : decode cX12_spelled 62 = .ok (.ifCond .eq 41, 3) := by decide +kernel
theorem dX12_spelled_65 : decode cX12_spelled 65 = .ok (.iload_n 2, 1) := by decide +kernel
theorem dX12_spelled_66 : decode cX12_spelled 66 = .ok (.aload_n 0, 1) := by decide +kernel
theorem dX12_spelled_67 : decode cX12_spelled 67 = .ok (.getfield 239, 3) := by decide +kernel
theorem dX12_spelled_70 : decode cX12_spelled 70 = .ok (.aload_n 0, 1) := by decide +kernel
theorem dX12_spelled_71 : decode cX12_spelled 71 = .ok (.getfield 246, 3) := by decide +kernel
theorem dX12_spelled_74 : decode cX12_spelled 74 = .ok (.isub, 1) := by decide +kernel
theorem dX12_spelled_75 : decode cX12_spelled 75 = .ok (.if_icmp .ne 28, 3) := by decide +kernel
theorem dX12_spelled_78 : decode cX12_spelled 78 = .ok (.aload_n 0, 1) := by decide +kernel
theorem dX12_spelled_79 : decode cX12_spelled 79 = .ok (.iload_n 1, 1) := by decide +kernel
theorem dX12_spelled_80 : decode cX12_spelled 80 = .ok (.iconst 5, 1) := by decide +kernel
theorem dX12_spelled_81 : decode cX12_spelled 81 = .ok (.if_icmp .ge 7, 3) := by decide +kernel
theorem dX12_spelled_84 : decode cX12_spelled 84 = .ok (.iconst 3, 1) := by decide +kernel
theorem dX12_spelled_85 : decode cX12_spelled 85 = .ok (.goto 10, 3) := by decide +kernel
theorem dX12_spelled_88 : decode cX12_spelled 88 = .ok (.sipush 300, 3) := by decide +kernel
theorem dX12_spelled_91 : decode cX12_spelled 91 = .ok (.iload_n 1, 1) := by decide +kernel
theorem dX12_spelled_92 : decode cX12_spelled 92 = .ok (.iadd, 1) := by decide +kernel
theorem dX12_spelled_93 : decode cX12_spelled 93 = .ok (.iconst 5, 1) := by decide +kernel
theorem dX12_spelled_94 : decode cX12_spelled 94 = .ok (.isub, 1) := by decide +kernel
theorem dX12_spelled_95 : decode cX12_spelled 95 = .ok (.putfield 249, 3) := by decide +kernel
theorem dX12_spelled_98 : decode cX12_spelled 98 = .ok (.aload_n 0, 1) := by decide +kernel
theorem dX12_spelled_99 : decode cX12_spelled 99 = .ok (.iload_n 1, 1) := by decide +kernel
theorem dX12_spelled_100 : decode cX12_spelled 100 = .ok (.putfield 264, 3) := by decide +kernel
theorem dX12_spelled_103 : decode cX12_spelled 103 = .ok (.iinc 1 1, 3) := by decide +kernel
theorem dX12_spelled_106 : decode cX12_spelled 106 = .ok (.iconst 0, 1) := by decide +kernel
theorem dX12_spelled_107 : decode cX12_spelled 107 = .ok (.istore_n 2, 1) := by decide +kernel
theorem dX12_spelled_108 : decode cX12_spelled 108 = .ok (.iconst 1, 1) := by decide +kernel
theorem dX12_spelled_109 : decode cX12_spelled 109 = .ok (.istore_n 3, 1) := by decide +kernel
theorem dX12_spelled_110 : decode cX12_spelled 110 = .ok (.goto 49, 3) := by decide +kernel
theorem dX12_spelled_113 : decode cX12_spelled 113 = .ok (.iload_n 3, 1) := by decide +kernel
end
section
theorem dX12_spelled_114 : decode cX12_spelled 114 = .ok (.ifCond .eq 40, 3) := by decide +kernel
theorem dX12_spelled_117 : decode cX12_spelled 117 = .ok (.aload_n 0, 1) := by decide +kernel
theorem dX12_spelled_118 : decode cX12_spelled 118 = .ok (.aload_n 0, 1) := by decide +kernel
theorem dX12_spelled_119 : decode cX12_spelled 119 = .ok (.getfield 246, 3) := by decide +kernel
theorem dX12_spelled_122 : decode cX12_spelled 122 = .ok (.iload_n 2, 1) := by decide +kernel
theorem dX12_spelled_123 : decode cX12_spelled 123 = .ok (.iadd, 1) := by decide +kernel
theorem dX12_spelled_124 : decode cX12_spelled 124 = .ok (.invokevirtual 242, 3) := by decide +kernel
theorem dX12_spelled_127 : decode cX12_spelled 127 = .ok (.aload_n 0, 1) := by decide +kernel
theorem dX12_spelled_128 : decode cX12_spelled 128 = .ok (.getfield 129, 3) := by decide +kernel
theorem dX12_spelled_131 : decode cX12_spelled 131 = .ok (.iload 4, 2) := by decide +kernel
theorem dX12_spelled_133 : decode cX12_spelled 133 = .ok (.iaload, 1) := by decide +kernel
theorem dX12_spelled_134 : decode cX12_spelled 134 = .ok (.if_icmp .ne 20, 3) := by decide +kernel
theorem dX12_spelled_137 : decode cX12_spelled 137 = .ok (.iload_n 2, 1) := by decide +kernel
theorem dX12_spelled_138 : decode cX12_spelled 138 = .ok (.aload_n 0, 1) := by decide +kernel
theorem dX12_spelled_139 : decode cX12_spelled 139 = .ok (.getfield 239, 3) := by decide +kernel
theorem dX12_spelled_142 : decode cX12_spelled 142 = .ok (.aload_n 0, 1) := by decide +kernel
theorem dX12_spelled_143 : decode cX12_spelled 143 = .ok (.getfield 246, 3) := by decide +kernel
theorem dX12_spelled_146 : decode cX12_spelled 146 = .ok (.isub, 1) := by decide +kernel
theorem dX12_spelled_147 : decode cX12_spelled 147 = .ok (.if_icmp .ge 7, 3) := by decide +kernel
theorem dX12_spelled_150 : decode cX12_spelled 150 = .ok (.iconst 1, 1) := by decide +kernel
theorem dX12_spelled_151 : decode cX12_spelled 151 = .ok (.goto 4, 3) := by decide +kernel
theorem dX12_spelled_154 : decode cX12_spelled 154 = .ok (.iconst 0, 1) := by decide +kernel
theorem dX12_spelled_155 : decode cX12_spelled 155 = .ok (.istore_n 3, 1) := by decide +kernel
theorem dX12_spelled_156 : decode cX12_spelled 156 = .ok (.iinc 2 1, 3) := by decide +kernel
theorem dX12_spelled_159 : decode cX12_spelled 159 = .ok (.iinc 4 1, 3) := by decide +kernel
theorem dX12_spelled_162 : decode cX12_spelled 162 = .ok (.goto (-121), 3) := by decide +kernel
theorem dX12_spelled_165 : decode cX12_spelled 165 = .ok (.return_, 1) := by decide +kernel
theorem dX12_isWrong_0 : decode cX12_isWrong 0 = .ok (.aload_n 0, 1) := by decide +kernel
theorem dX12_isWrong_1 : decode cX12_isWrong 1 = .ok (.getfield 267, 3) := by decide +kernel
theorem dX12_isWrong_4 : decode cX12_isWrong 4 = .ok (.iconst (-1), 1) := by decide +kernel
theorem dX12_isWrong_5 : decode cX12_isWrong 5 = .ok (.if_icmp .eq 7, 3) := by decide +kernel
theorem dX12_isWrong_8 : decode cX12_isWrong 8 = .ok (.iconst 1, 1) := by decide +kernel
theorem dX12_isWrong_9 : decode cX12_isWrong 9 = .ok (.goto 4, 3) := by decide +kernel
theorem dX12_isWrong_12 : decode cX12_isWrong 12 = .ok (.iconst 0, 1) := by decide +kernel
theorem dX12_isWrong_13 : decode cX12_isWrong 13 = .ok (.ireturn, 1) := by decide +kernel
theorem dX12_cannot_0 : decode cX12_cannot 0 = .ok (.aload_n 0, 1) := by decide +kernel
theorem dX12_cannot_1 : decode cX12_cannot 1 = .ok (.aload_n 0, 1) := by decide +kernel
theorem dX12_cannot_2 : decode cX12_cannot 2 = .ok (.getfield 267, 3) := by decide +kernel
theorem dX12_cannot_5 : decode cX12_cannot 5 = .ok (.iconst (-1), 1) := by decide +kernel
theorem dX12_cannot_6 : decode cX12_cannot 6 = .ok (.if_icmp .ne 10, 3) := by decide +kernel
theorem dX12_cannot_9 : decode cX12_cannot 9 = .ok (.aload_n 0, 1) := by decide +kernel
theorem dX12_cannot_10 : decode cX12_cannot 10 = .ok (.getfield 246, 3) := by decide +kernel
theorem dX12_cannot_13 : decode cX12_cannot 13 = .ok (.goto 7, 3) := by decide +kernel
theorem dX12_cannot_16 : decode cX12_cannot 16 = .ok (.aload_n 0, 1) := by decide +kernel
theorem dX12_cannot_17 : decode cX12_cannot 17 = .ok (.getfield 267, 3) := by decide +kernel
theorem dX12_cannot_20 : decode cX12_cannot 20 = .ok (.putfield 267, 3) := by decide +kernel
theorem dX12_cannot_23 : decode cX12_cannot 23 = .ok (.return_, 1) := by decide +kernel
theorem dX12_need_0 : decode cX12_need 0 = .ok (.aload_n 0, 1) := by decide +kernel
theorem dX12_need_1 : decode cX12_need 1 = .ok (.invokevirtual 270, 3) := by decide +kernel
theorem dX12_need_4 : decode cX12_need 4 = .ok (.ifCond .eq 4, 3) := by decide +kernel
theorem dX12_need_7 : decode cX12_need 7 = .ok (.return_, 1) := by decide +kernel
theorem dX12_need_8 : decode cX12_need 8 = .ok (.aload_n 0, 1) := by decide +kernel
theorem dX12_need_9 : decode cX12_need 9 = .ok (.getfield 249, 3) := by decide +kernel
theorem dX12_need_12 : decode cX12_need 12 = .ok (.iload_n 1, 1) := by decide +kernel
theorem dX12_need_13 : decode cX12_need 13 = .ok (.if_icmp .eq 10, 3) := by decide +kernel
theorem dX12_need_16 : decode cX12_need 16 = .ok (.aload_n 0, 1) := by decide +kernel
theorem dX12_need_17 : decode cX12_need 17 = .ok (.invokevirtual 274, 3) := by decide +kernel
theorem dX12_need_20 : decode cX12_need 20 = .ok (.goto 7, 3) := by decide +kernel
theorem dX12_need_23 : decode cX12_need 23 = .ok (.aload_n 0, 1) := by decide +kernel
theorem dX12_need_24 : decode cX12_need 24 = .ok (.invokevirtual 277, 3) := by decide +kernel
theorem dX12_need_27 : decode cX12_need 27 = .ok (.return_, 1) := by decide +kernel
theorem dX12_opens_0 : decode cX12_opens 0 = .ok (.aload_n 0, 1) := by decide +kernel
theorem dX12_opens_1 : decode cX12_opens 1 = .ok (.getfield 280, 3) := by decide +kernel
theorem dX12_opens_4 : decode cX12_opens 4 = .ok (.iconst 5, 1) := by decide +kernel
theorem dX12_opens_5 : decode cX12_opens 5 = .ok (.if_icmp .ne 7, 3) := by decide +kernel
theorem dX12_opens_8 : decode cX12_opens 8 = .ok (.aload_n 0, 1) := by decide +kernel
theorem dX12_opens_9 : decode cX12_opens 9 = .ok (.invokevirtual 274, 3) := by decide +kernel
theorem dX12_opens_12 : decode cX12_opens 12 = .ok (.aload_n 0, 1) := by decide +kernel
theorem dX12_opens_13 : decode cX12_opens 13 = .ok (.dup, 1) := by decide +kernel
theorem dX12_opens_14 : decode cX12_opens 14 = .ok (.getfield 280, 3) := by decide +kernel
theorem dX12_opens_17 : decode cX12_opens 17 = .ok (.iconst 1, 1) := by decide +kernel
theorem dX12_opens_18 : decode cX12_opens 18 = .ok (.iadd, 1) := by decide +kernel
theorem dX12_opens_19 : decode cX12_opens 19 = .ok (.putfield 280, 3) := by decide +kernel
theorem dX12_opens_22 : decode cX12_opens 22 = .ok (.aload_n 0, 1) := by decide +kernel
theorem dX12_opens_23 : decode cX12_opens 23 = .ok (.invokevirtual 270, 3) := by decide +kernel
theorem dX12_opens_26 : decode cX12_opens 26 = .ok (.ifCond .ne 7, 3) := by decide +kernel
theorem dX12_opens_29 : decode cX12_opens 29 = .ok (.aload_n 0, 1) := by decide +kernel
theorem dX12_opens_30 : decode cX12_opens 30 = .ok (.invokevirtual 277, 3) := by decide +kernel
theorem dX12_opens_33 : decode cX12_opens 33 = .ok (.return_, 1) := by decide +kernel
theorem dX12_emit_0 : decode cX12_emit 0 = .ok (.aload_n 0, 1) := by decide +kernel
theorem dX12_emit_1 : decode cX12_emit 1 = .ok (.getfield 72, 3) := by decide +kernel
theorem dX12_emit_4 : decode cX12_emit 4 = .ok (.sipush 160, 3) := by decide +kernel
theorem dX12_emit_7 : decode cX12_emit 7 = .ok (.aload_n 0, 1) := by decide +kernel
theorem dX12_emit_8 : decode cX12_emit 8 = .ok (.getfield 283, 3) := by decide +kernel
theorem dX12_emit_11 : decode cX12_emit 11 = .ok (.imul, 1) := by decide +kernel
theorem dX12_emit_12 : decode cX12_emit 12 = .ok (.aload_n 0, 1) := by decide +kernel
theorem dX12_emit_13 : decode cX12_emit 13 = .ok (.getfield 286, 3) := by decide +kernel
theorem dX12_emit_16 : decode cX12_emit 16 = .ok (.iadd, 1) := by decide +kernel
theorem dX12_emit_17 : decode cX12_emit 17 = .ok (.iload_n 1, 1) := by decide +kernel
theorem dX12_emit_18 : decode cX12_emit 18 = .ok (.iastore, 1) := by decide +kernel
theorem dX12_emit_19 : decode cX12_emit 19 = .ok (.aload_n 0, 1) := by decide +kernel
theorem dX12_emit_20 : decode cX12_emit 20 = .ok (.getfield 75, 3) := by decide +kernel
theorem dX12_emit_23 : decode cX12_emit 23 = .ok (.sipush 160, 3) := by decide +kernel
theorem dX12_emit_26 : decode cX12_emit 26 = .ok (.aload_n 0, 1) := by decide +kernel
theorem dX12_emit_27 : decode cX12_emit 27 = .ok (.getfield 283, 3) := by decide +kernel
theorem dX12_emit_30 : decode cX12_emit 30 = .ok (.imul, 1) := by decide +kernel
theorem dX12_emit_31 : decode cX12_emit 31 = .ok (.aload_n 0, 1) := by decide +kernel
theorem dX12_emit_32 : decode cX12_emit 32 = .ok (.getfield 286, 3) := by decide +kernel
theorem dX12_emit_35 : decode cX12_emit 35 = .ok (.iadd, 1) := by decide +kernel
theorem dX12_emit_36 : decode cX12_emit 36 = .ok (.iload_n 2, 1) := by decide +kernel
theorem dX12_emit_37 : decode cX12_emit 37 = .ok (.iastore, 1) := by decide +kernel
theorem dX12_emit_38 : decode cX12_emit 38 = .ok (.aload_n 0, 1) := by decide +kernel
theorem dX12_emit_39 : decode cX12_emit 39 = .ok (.dup, 1) := by decide +kernel
theorem dX12_emit_40 : decode cX12_emit 40 = .ok (.getfield 286, 3) := by decide +kernel
theorem dX12_emit_43 : decode cX12_emit 43 = .ok (.iconst 1, 1) := by decide +kernel
theorem dX12_emit_44 : decode cX12_emit 44 = .ok (.iadd, 1) := by decide +kernel
theorem dX12_emit_45 : decode cX12_emit 45 = .ok (.putfield 286, 3) := by decide +kernel
theorem dX12_emit_48 : decode cX12_emit 48 = .ok (.return_, 1) := by decide +kernel
theorem dX12_reads_0 : decode cX12_reads 0 = .ok (.aload_n 0, 1) := by decide +kernel
theorem dX12_reads_1 : decode cX12_reads 1 = .ok (.iload_n 1, 1) := by decide +kernel
theorem dX12_reads_2 : decode cX12_reads 2 = .ok (.putfield 283, 3) := by decide +kernel
theorem dX12_reads_5 : decode cX12_reads 5 = .ok (.aload_n 0, 1) := by decide +kernel
theorem dX12_reads_6 : decode cX12_reads 6 = .ok (.iconst 0, 1) := by decide +kernel
theorem dX12_reads_7 : decode cX12_reads 7 = .ok (.putfield 239, 3) := by decide +kernel
theorem dX12_reads_10 : decode cX12_reads 10 = .ok (.aload_n 0, 1) := by decide +kernel
theorem dX12_reads_11 : decode cX12_reads 11 = .ok (.iconst (-1), 1) := by decide +kernel
theorem dX12_reads_12 : decode cX12_reads 12 = .ok (.putfield 267, 3) := by decide +kernel
theorem dX12_reads_15 : decode cX12_reads 15 = .ok (.aload_n 0, 1) := by decide +kernel
theorem dX12_reads_16 : decode cX12_reads 16 = .ok (.iconst 0, 1) := by decide +kernel
theorem dX12_reads_17 : decode cX12_reads 17 = .ok (.putfield 280, 3) := by decide +kernel
theorem dX12_reads_20 : decode cX12_reads 20 = .ok (.aload_n 0, 1) := by decide +kernel
theorem dX12_reads_21 : decode cX12_reads 21 = .ok (.iconst 0, 1) := by decide +kernel
theorem dX12_reads_22 : decode cX12_reads 22 = .ok (.putfield 286, 3) := by decide +kernel
theorem dX12_reads_25 : decode cX12_reads 25 = .ok (.aload_n 0, 1) := by decide +kernel
theorem dX12_reads_26 : decode cX12_reads 26 = .ok (.invokevirtual 277, 3) := by decide +kernel
theorem dX12_reads_29 : decode cX12_reads 29 = .ok (.iconst 0, 1) := by decide +kernel
theorem dX12_reads_30 : decode cX12_reads 30 = .ok (.istore_n 2, 1) := by decide +kernel
theorem dX12_reads_31 : decode cX12_reads 31 = .ok (.iload_n 2, 1) := by decide +kernel
theorem dX12_reads_32 : decode cX12_reads 32 = .ok (.iconst 2, 1) := by decide +kernel
theorem dX12_reads_33 : decode cX12_reads 33 = .ok (.if_icmp .ge 42, 3) := by decide +kernel
theorem dX12_reads_36 : decode cX12_reads 36 = .ok (.aload_n 0, 1) := by decide +kernel
theorem dX12_reads_37 : decode cX12_reads 37 = .ok (.getfield 78, 3) := by decide +kernel
theorem dX12_reads_40 : decode cX12_reads 40 = .ok (.iconst 3, 1) := by decide +kernel
theorem dX12_reads_41 : decode cX12_reads 41 = .ok (.iload_n 1, 1) := by decide +kernel
theorem dX12_reads_42 : decode cX12_reads 42 = .ok (.imul, 1) := by decide +kernel
theorem dX12_reads_43 : decode cX12_reads 43 = .ok (.iload_n 2, 1) := by decide +kernel
theorem dX12_reads_44 : decode cX12_reads 44 = .ok (.iadd, 1) := by decide +kernel
theorem dX12_reads_45 : decode cX12_reads 45 = .ok (.aload_n 0, 1) := by decide +kernel
theorem dX12_reads_46 : decode cX12_reads 46 = .ok (.getfield 286, 3) := by decide +kernel
theorem dX12_reads_49 : decode cX12_reads 49 = .ok (.iastore, 1) := by decide +kernel
theorem dX12_reads_50 : decode cX12_reads 50 = .ok (.aload_n 0, 1) := by decide +kernel
theorem dX12_reads_51 : decode cX12_reads 51 = .ok (.sipush 300, 3) := by decide +kernel
theorem dX12_reads_54 : decode cX12_reads 54 = .ok (.iload_n 2, 1) := by decide +kernel
theorem dX12_reads_55 : decode cX12_reads 55 = .ok (.iadd, 1) := by decide +kernel
theorem dX12_reads_56 : decode cX12_reads 56 = .ok (.invokevirtual 289, 3) := by decide +kernel
theorem dX12_reads_59 : decode cX12_reads 59 = .ok (.aload_n 0, 1) := by decide +kernel
theorem dX12_reads_60 : decode cX12_reads 60 = .ok (.invokevirtual 292, 3) := by decide +kernel
theorem dX12_reads_63 : decode cX12_reads 63 = .ok (.aload_n 0, 1) := by decide +kernel
theorem dX12_reads_64 : decode cX12_reads 64 = .ok (.bipush 59, 2) := by decide +kernel
theorem dX12_reads_66 : decode cX12_reads 66 = .ok (.invokevirtual 289, 3) := by decide +kernel
theorem dX12_reads_69 : decode cX12_reads 69 = .ok (.iinc 2 1, 3) := by decide +kernel
theorem dX12_reads_72 : decode cX12_reads 72 = .ok (.goto (-41), 3) := by decide +kernel
theorem dX12_reads_75 : decode cX12_reads 75 = .ok (.aload_n 0, 1) := by decide +kernel
theorem dX12_reads_76 : decode cX12_reads 76 = .ok (.getfield 78, 3) := by decide +kernel
theorem dX12_reads_79 : decode cX12_reads 79 = .ok (.iconst 3, 1) := by decide +kernel
theorem dX12_reads_80 : decode cX12_reads 80 = .ok (.iload_n 1, 1) := by decide +kernel
theorem dX12_reads_81 : decode cX12_reads 81 = .ok (.imul, 1) := by decide +kernel
theorem dX12_reads_82 : decode cX12_reads 82 = .ok (.iconst 2, 1) := by decide +kernel
theorem dX12_reads_83 : decode cX12_reads 83 = .ok (.iadd, 1) := by decide +kernel
theorem dX12_reads_84 : decode cX12_reads 84 = .ok (.aload_n 0, 1) := by decide +kernel
theorem dX12_reads_85 : decode cX12_reads 85 = .ok (.getfield 286, 3) := by decide +kernel
theorem dX12_reads_88 : decode cX12_reads 88 = .ok (.iastore, 1) := by decide +kernel
theorem dX12_reads_89 : decode cX12_reads 89 = .ok (.aload_n 0, 1) := by decide +kernel
theorem dX12_reads_90 : decode cX12_reads 90 = .ok (.iconst 0, 1) := by decide +kernel
theorem dX12_reads_91 : decode cX12_reads 91 = .ok (.invokevirtual 289, 3) := by decide +kernel
theorem dX12_reads_94 : decode cX12_reads 94 = .ok (.return_, 1) := by decide +kernel
theorem dX12_either_0 : decode cX12_either 0 = .ok (.aload_n 0, 1) := by decide +kernel
theorem dX12_either_1 : decode cX12_either 1 = .ok (.invokevirtual 295, 3) := by decide +kernel
theorem dX12_either_4 : decode cX12_either 4 = .ok (.aload_n 0, 1) := by decide +kernel
theorem dX12_either_5 : decode cX12_either 5 = .ok (.invokevirtual 270, 3) := by decide +kernel
theorem dX12_either_8 : decode cX12_either 8 = .ok (.ifCond .ne 30, 3) := by decide +kernel
theorem dX12_either_11 : decode cX12_either 11 = .ok (.aload_n 0, 1) := by decide +kernel
theorem dX12_either_12 : decode cX12_either 12 = .ok (.getfield 249, 3) := by decide +kernel
theorem dX12_either_15 : decode cX12_either 15 = .ok (.sipush 302, 3) := by decide +kernel
theorem dX12_either_18 : decode cX12_either 18 = .ok (.if_icmp .ne 20, 3) := by decide +kernel
theorem dX12_either_21 : decode cX12_either 21 = .ok (.aload_n 0, 1) := by decide +kernel
theorem dX12_either_22 : decode cX12_either 22 = .ok (.invokevirtual 277, 3) := by decide +kernel
theorem dX12_either_25 : decode cX12_either 25 = .ok (.aload_n 0, 1) := by decide +kernel
theorem dX12_either_26 : decode cX12_either 26 = .ok (.invokevirtual 295, 3) := by decide +kernel
theorem dX12_either_29 : decode cX12_either 29 = .ok (.aload_n 0, 1) := by decide +kernel
theorem dX12_either_30 : decode cX12_either 30 = .ok (.iconst 2, 1) := by decide +kernel
theorem dX12_either_31 : decode cX12_either 31 = .ok (.iconst 0, 1) := by decide +kernel
theorem dX12_either_32 : decode cX12_either 32 = .ok (.invokevirtual 298, 3) := by decide +kernel
theorem dX12_either_35 : decode cX12_either 35 = .ok (.goto (-31), 3) := by decide +kernel
theorem dX12_either_38 : decode cX12_either 38 = .ok (.return_, 1) := by decide +kernel
theorem dX12_both_0 : decode cX12_both 0 = .ok (.aload_n 0, 1) := by decide +kernel
theorem dX12_both_1 : decode cX12_both 1 = .ok (.invokevirtual 301, 3) := by decide +kernel
theorem dX12_both_4 : decode cX12_both 4 = .ok (.aload_n 0, 1) := by decide +kernel
theorem dX12_both_5 : decode cX12_both 5 = .ok (.invokevirtual 270, 3) := by decide +kernel
theorem dX12_both_8 : decode cX12_both 8 = .ok (.ifCond .ne 30, 3) := by decide +kernel
theorem dX12_both_11 : decode cX12_both 11 = .ok (.aload_n 0, 1) := by decide +kernel
theorem dX12_both_12 : decode cX12_both 12 = .ok (.getfield 249, 3) := by decide +kernel
theorem dX12_both_15 : decode cX12_both 15 = .ok (.sipush 303, 3) := by decide +kernel
theorem dX12_both_18 : decode cX12_both 18 = .ok (.if_icmp .ne 20, 3) := by decide +kernel
theorem dX12_both_21 : decode cX12_both 21 = .ok (.aload_n 0, 1) := by decide +kernel
theorem dX12_both_22 : decode cX12_both 22 = .ok (.invokevirtual 277, 3) := by decide +kernel
theorem dX12_both_25 : decode cX12_both 25 = .ok (.aload_n 0, 1) := by decide +kernel
theorem dX12_both_26 : decode cX12_both 26 = .ok (.invokevirtual 301, 3) := by decide +kernel
theorem dX12_both_29 : decode cX12_both 29 = .ok (.aload_n 0, 1) := by decide +kernel
theorem dX12_both_30 : decode cX12_both 30 = .ok (.iconst 3, 1) := by decide +kernel
theorem dX12_both_31 : decode cX12_both 31 = .ok (.iconst 0, 1) := by decide +kernel
theorem dX12_both_32 : decode cX12_both 32 = .ok (.invokevirtual 298, 3) := by decide +kernel
theorem dX12_both_35 : decode cX12_both 35 = .ok (.goto (-31), 3) := by decide +kernel
theorem dX12_both_38 : decode cX12_both 38 = .ok (.return_, 1) := by decide +kernel
theorem dX12_not_0 : decode cX12_not 0 = .ok (.aload_n 0, 1) := by decide +kernel
theorem dX12_not_1 : decode cX12_not 1 = .ok (.invokevirtual 270, 3) := by decide +kernel
theorem dX12_not_4 : decode cX12_not 4 = .ok (.ifCond .eq 4, 3) := by decide +kernel
theorem dX12_not_7 : decode cX12_not 7 = .ok (.return_, 1) := by decide +kernel
theorem dX12_not_8 : decode cX12_not 8 = .ok (.aload_n 0, 1) := by decide +kernel
theorem dX12_not_9 : decode cX12_not 9 = .ok (.getfield 249, 3) := by decide +kernel
theorem dX12_not_12 : decode cX12_not 12 = .ok (.sipush 304, 3) := by decide +kernel
theorem dX12_not_15 : decode cX12_not 15 = .ok (.if_icmp .ne 28, 3) := by decide +kernel
theorem dX12_not_18 : decode cX12_not 18 = .ok (.aload_n 0, 1) := by decide +kernel
theorem dX12_not_19 : decode cX12_not 19 = .ok (.invokevirtual 304, 3) := by decide +kernel
theorem dX12_not_22 : decode cX12_not 22 = .ok (.aload_n 0, 1) := by decide +kernel
theorem dX12_not_23 : decode cX12_not 23 = .ok (.invokevirtual 301, 3) := by decide +kernel
theorem dX12_not_26 : decode cX12_not 26 = .ok (.aload_n 0, 1) := by decide +kernel
theorem dX12_not_27 : decode cX12_not 27 = .ok (.dup, 1) := by decide +kernel
theorem dX12_not_28 : decode cX12_not 28 = .ok (.getfield 280, 3) := by decide +kernel
theorem dX12_not_31 : decode cX12_not 31 = .ok (.iconst 1, 1) := by decide +kernel
theorem dX12_not_32 : decode cX12_not 32 = .ok (.isub, 1) := by decide +kernel
theorem dX12_not_33 : decode cX12_not 33 = .ok (.putfield 280, 3) := by decide +kernel
theorem dX12_not_36 : decode cX12_not 36 = .ok (.aload_n 0, 1) := by decide +kernel
theorem dX12_not_37 : decode cX12_not 37 = .ok (.iconst 4, 1) := by decide +kernel
theorem dX12_not_38 : decode cX12_not 38 = .ok (.iconst 0, 1) := by decide +kernel
theorem dX12_not_39 : decode cX12_not 39 = .ok (.invokevirtual 298, 3) := by decide +kernel
theorem dX12_not_42 : decode cX12_not 42 = .ok (.return_, 1) := by decide +kernel
theorem dX12_not_43 : decode cX12_not 43 = .ok (.aload_n 0, 1) := by decide +kernel
theorem dX12_not_44 : decode cX12_not 44 = .ok (.invokevirtual 307, 3) := by decide +kernel
theorem dX12_not_47 : decode cX12_not 47 = .ok (.aload_n 0, 1) := by decide +kernel
theorem dX12_not_48 : decode cX12_not 48 = .ok (.invokevirtual 270, 3) := by decide +kernel
theorem dX12_not_51 : decode cX12_not 51 = .ok (.ifCond .ne 51, 3) := by decide +kernel
theorem dX12_not_54 : decode cX12_not 54 = .ok (.aload_n 0, 1) := by decide +kernel
theorem dX12_not_55 : decode cX12_not 55 = .ok (.getfield 249, 3) := by decide +kernel
theorem dX12_not_58 : decode cX12_not 58 = .ok (.bipush 60, 2) := by decide +kernel
theorem dX12_not_60 : decode cX12_not 60 = .ok (.if_icmp .eq 12, 3) := by decide +kernel
theorem dX12_not_63 : decode cX12_not 63 = .ok (.aload_n 0, 1) := by decide +kernel
theorem dX12_not_64 : decode cX12_not 64 = .ok (.getfield 249, 3) := by decide +kernel
theorem dX12_not_67 : decode cX12_not 67 = .ok (.bipush 61, 2) := by decide +kernel
theorem dX12_not_69 : decode cX12_not 69 = .ok (.if_icmp .ne 33, 3) := by decide +kernel
theorem dX12_not_72 : decode cX12_not 72 = .ok (.aload_n 0, 1) := by decide +kernel
theorem dX12_not_73 : decode cX12_not 73 = .ok (.getfield 249, 3) := by decide +kernel
theorem dX12_not_76 : decode cX12_not 76 = .ok (.bipush 60, 2) := by decide +kernel
theorem dX12_not_78 : decode cX12_not 78 = .ok (.if_icmp .ne 7, 3) := by decide +kernel
theorem dX12_not_81 : decode cX12_not 81 = .ok (.iconst 5, 1) := by decide +kernel
theorem dX12_not_82 : decode cX12_not 82 = .ok (.goto 5, 3) := by decide +kernel
theorem dX12_not_85 : decode cX12_not 85 = .ok (.bipush 6, 2) := by decide +kernel
theorem dX12_not_87 : decode cX12_not 87 = .ok (.istore_n 1, 1) := by decide +kernel
theorem dX12_not_88 : decode cX12_not 88 = .ok (.aload_n 0, 1) := by decide +kernel
theorem dX12_not_89 : decode cX12_not 89 = .ok (.invokevirtual 277, 3) := by decide +kernel
theorem dX12_not_92 : decode cX12_not 92 = .ok (.aload_n 0, 1) := by decide +kernel
theorem dX12_not_93 : decode cX12_not 93 = .ok (.invokevirtual 307, 3) := by decide +kernel
theorem dX12_not_96 : decode cX12_not 96 = .ok (.aload_n 0, 1) := by decide +kernel
theorem dX12_not_97 : decode cX12_not 97 = .ok (.iload_n 1, 1) := by decide +kernel
theorem dX12_not_98 : decode cX12_not 98 = .ok (.iconst 0, 1) := by decide +kernel
theorem dX12_not_99 : decode cX12_not 99 = .ok (.invokevirtual 298, 3) := by decide +kernel
theorem dX12_not_102 : decode cX12_not 102 = .ok (.return_, 1) := by decide +kernel
theorem dX12_added_0 : decode cX12_added 0 = .ok (.aload_n 0, 1) := by decide +kernel
theorem dX12_added_1 : decode cX12_added 1 = .ok (.invokevirtual 310, 3) := by decide +kernel
theorem dX12_added_4 : decode cX12_added 4 = .ok (.aload_n 0, 1) := by decide +kernel
theorem dX12_added_5 : decode cX12_added 5 = .ok (.invokevirtual 270, 3) := by decide +kernel
theorem dX12_added_8 : decode cX12_added 8 = .ok (.ifCond .ne 55, 3) := by decide +kernel
theorem dX12_added_11 : decode cX12_added 11 = .ok (.aload_n 0, 1) := by decide +kernel
theorem dX12_added_12 : decode cX12_added 12 = .ok (.getfield 249, 3) := by decide +kernel
theorem dX12_added_15 : decode cX12_added 15 = .ok (.bipush 43, 2) := by decide +kernel
theorem dX12_added_17 : decode cX12_added 17 = .ok (.if_icmp .eq 12, 3) := by decide +kernel
theorem dX12_added_20 : decode cX12_added 20 = .ok (.aload_n 0, 1) := by decide +kernel
theorem dX12_added_21 : decode cX12_added 21 = .ok (.getfield 249, 3) := by decide +kernel
theorem dX12_added_24 : decode cX12_added 24 = .ok (.bipush 45, 2) := by decide +kernel
theorem dX12_added_26 : decode cX12_added 26 = .ok (.if_icmp .ne 37, 3) := by decide +kernel
theorem dX12_added_29 : decode cX12_added 29 = .ok (.aload_n 0, 1) := by decide +kernel
theorem dX12_added_30 : decode cX12_added 30 = .ok (.getfield 249, 3) := by decide +kernel
theorem dX12_added_33 : decode cX12_added 33 = .ok (.bipush 43, 2) := by decide +kernel
theorem dX12_added_35 : decode cX12_added 35 = .ok (.if_icmp .ne 8, 3) := by decide +kernel
theorem dX12_added_38 : decode cX12_added 38 = .ok (.bipush 7, 2) := by decide +kernel
theorem dX12_added_40 : decode cX12_added 40 = .ok (.goto 5, 3) := by decide +kernel
theorem dX12_added_43 : decode cX12_added 43 = .ok (.bipush 8, 2) := by decide +kernel
theorem dX12_added_45 : decode cX12_added 45 = .ok (.istore_n 1, 1) := by decide +kernel
theorem dX12_added_46 : decode cX12_added 46 = .ok (.aload_n 0, 1) := by decide +kernel
theorem dX12_added_47 : decode cX12_added 47 = .ok (.invokevirtual 277, 3) := by decide +kernel
theorem dX12_added_50 : decode cX12_added 50 = .ok (.aload_n 0, 1) := by decide +kernel
theorem dX12_added_51 : decode cX12_added 51 = .ok (.invokevirtual 310, 3) := by decide +kernel
theorem dX12_added_54 : decode cX12_added 54 = .ok (.aload_n 0, 1) := by decide +kernel
theorem dX12_added_55 : decode cX12_added 55 = .ok (.iload_n 1, 1) := by decide +kernel
theorem dX12_added_56 : decode cX12_added 56 = .ok (.iconst 0, 1) := by decide +kernel
theorem dX12_added_57 : decode cX12_added 57 = .ok (.invokevirtual 298, 3) := by decide +kernel
theorem dX12_added_60 : decode cX12_added 60 = .ok (.goto (-56), 3) := by decide +kernel
theorem dX12_added_63 : decode cX12_added 63 = .ok (.return_, 1) := by decide +kernel
theorem dX12_term_0 : decode cX12_term 0 = .ok (.aload_n 0, 1) := by decide +kernel
theorem dX12_term_1 : decode cX12_term 1 = .ok (.invokevirtual 313, 3) := by decide +kernel
theorem dX12_term_4 : decode cX12_term 4 = .ok (.aload_n 0, 1) := by decide +kernel
theorem dX12_term_5 : decode cX12_term 5 = .ok (.invokevirtual 270, 3) := by decide +kernel
theorem dX12_term_8 : decode cX12_term 8 = .ok (.ifCond .ne 30, 3) := by decide +kernel
theorem dX12_term_11 : decode cX12_term 11 = .ok (.aload_n 0, 1) := by decide +kernel
theorem dX12_term_12 : decode cX12_term 12 = .ok (.getfield 249, 3) := by decide +kernel
theorem dX12_term_15 : decode cX12_term 15 = .ok (.bipush 42, 2) := by decide +kernel
theorem dX12_term_17 : decode cX12_term 17 = .ok (.if_icmp .ne 21, 3) := by decide +kernel
theorem dX12_term_20 : decode cX12_term 20 = .ok (.aload_n 0, 1) := by decide +kernel
theorem dX12_term_21 : decode cX12_term 21 = .ok (.invokevirtual 277, 3) := by decide +kernel
theorem dX12_term_24 : decode cX12_term 24 = .ok (.aload_n 0, 1) := by decide +kernel
theorem dX12_term_25 : decode cX12_term 25 = .ok (.invokevirtual 313, 3) := by decide +kernel
theorem dX12_term_28 : decode cX12_term 28 = .ok (.aload_n 0, 1) := by decide +kernel
theorem dX12_term_29 : decode cX12_term 29 = .ok (.bipush 9, 2) := by decide +kernel
theorem dX12_term_31 : decode cX12_term 31 = .ok (.iconst 0, 1) := by decide +kernel
theorem dX12_term_32 : decode cX12_term 32 = .ok (.invokevirtual 298, 3) := by decide +kernel
theorem dX12_term_35 : decode cX12_term 35 = .ok (.goto (-31), 3) := by decide +kernel
theorem dX12_term_38 : decode cX12_term 38 = .ok (.return_, 1) := by decide +kernel
theorem dX12_one_0 : decode cX12_one 0 = .ok (.aload_n 0, 1) := by decide +kernel
theorem dX12_one_1 : decode cX12_one 1 = .ok (.invokevirtual 270, 3) := by decide +kernel
theorem dX12_one_4 : decode cX12_one 4 = .ok (.ifCond .eq 4, 3) := by decide +kernel
theorem dX12_one_7 : decode cX12_one 7 = .ok (.return_, 1) := by decide +kernel
theorem dX12_one_8 : decode cX12_one 8 = .ok (.aload_n 0, 1) := by decide +kernel
theorem dX12_one_9 : decode cX12_one 9 = .ok (.getfield 249, 3) := by decide +kernel
theorem dX12_one_12 : decode cX12_one 12 = .ok (.iconst 1, 1) := by decide +kernel
theorem dX12_one_13 : decode cX12_one 13 = .ok (.if_icmp .eq 11, 3) := by decide +kernel
theorem dX12_one_16 : decode cX12_one 16 = .ok (.aload_n 0, 1) := by decide +kernel
theorem dX12_one_17 : decode cX12_one 17 = .ok (.getfield 249, 3) := by decide +kernel
theorem dX12_one_20 : decode cX12_one 20 = .ok (.iconst 3, 1) := by decide +kernel
theorem dX12_one_21 : decode cX12_one 21 = .ok (.if_icmp .ne 31, 3) := by decide +kernel
theorem dX12_one_24 : decode cX12_one 24 = .ok (.aload_n 0, 1) := by decide +kernel
theorem dX12_one_25 : decode cX12_one 25 = .ok (.aload_n 0, 1) := by decide +kernel
theorem dX12_one_26 : decode cX12_one 26 = .ok (.getfield 249, 3) := by decide +kernel
theorem dX12_one_29 : decode cX12_one 29 = .ok (.iconst 1, 1) := by decide +kernel
theorem dX12_one_30 : decode cX12_one 30 = .ok (.if_icmp .ne 7, 3) := by decide +kernel
theorem dX12_one_33 : decode cX12_one 33 = .ok (.iconst 0, 1) := by decide +kernel
theorem dX12_one_34 : decode cX12_one 34 = .ok (.goto 4, 3) := by decide +kernel
theorem dX12_one_37 : decode cX12_one 37 = .ok (.iconst 1, 1) := by decide +kernel
theorem dX12_one_38 : decode cX12_one 38 = .ok (.aload_n 0, 1) := by decide +kernel
theorem dX12_one_39 : decode cX12_one 39 = .ok (.getfield 264, 3) := by decide +kernel
theorem dX12_one_42 : decode cX12_one 42 = .ok (.invokevirtual 298, 3) := by decide +kernel
theorem dX12_one_45 : decode cX12_one 45 = .ok (.aload_n 0, 1) := by decide +kernel
theorem dX12_one_46 : decode cX12_one 46 = .ok (.invokevirtual 277, 3) := by decide +kernel
theorem dX12_one_49 : decode cX12_one 49 = .ok (.goto 80, 3) := by decide +kernel
theorem dX12_one_52 : decode cX12_one 52 = .ok (.aload_n 0, 1) := by decide +kernel
theorem dX12_one_53 : decode cX12_one 53 = .ok (.getfield 249, 3) := by decide +kernel
theorem dX12_one_56 : decode cX12_one 56 = .ok (.bipush 45, 2) := by decide +kernel
theorem dX12_one_58 : decode cX12_one 58 = .ok (.if_icmp .ne 31, 3) := by decide +kernel
theorem dX12_one_61 : decode cX12_one 61 = .ok (.aload_n 0, 1) := by decide +kernel
theorem dX12_one_62 : decode cX12_one 62 = .ok (.invokevirtual 304, 3) := by decide +kernel
theorem dX12_one_65 : decode cX12_one 65 = .ok (.aload_n 0, 1) := by decide +kernel
theorem dX12_one_66 : decode cX12_one 66 = .ok (.invokevirtual 313, 3) := by decide +kernel
theorem dX12_one_69 : decode cX12_one 69 = .ok (.aload_n 0, 1) := by decide +kernel
theorem dX12_one_70 : decode cX12_one 70 = .ok (.dup, 1) := by decide +kernel
theorem dX12_one_71 : decode cX12_one 71 = .ok (.getfield 280, 3) := by decide +kernel
theorem dX12_one_74 : decode cX12_one 74 = .ok (.iconst 1, 1) := by decide +kernel
theorem dX12_one_75 : decode cX12_one 75 = .ok (.isub, 1) := by decide +kernel
theorem dX12_one_76 : decode cX12_one 76 = .ok (.putfield 280, 3) := by decide +kernel
theorem dX12_one_79 : decode cX12_one 79 = .ok (.aload_n 0, 1) := by decide +kernel
theorem dX12_one_80 : decode cX12_one 80 = .ok (.bipush 10, 2) := by decide +kernel
theorem dX12_one_82 : decode cX12_one 82 = .ok (.iconst 0, 1) := by decide +kernel
theorem dX12_one_83 : decode cX12_one 83 = .ok (.invokevirtual 298, 3) := by decide +kernel
theorem dX12_one_86 : decode cX12_one 86 = .ok (.goto 43, 3) := by decide +kernel
theorem dX12_one_89 : decode cX12_one 89 = .ok (.aload_n 0, 1) := by decide +kernel
theorem dX12_one_90 : decode cX12_one 90 = .ok (.getfield 249, 3) := by decide +kernel
theorem dX12_one_93 : decode cX12_one 93 = .ok (.bipush 40, 2) := by decide +kernel
theorem dX12_one_95 : decode cX12_one 95 = .ok (.if_icmp .ne 30, 3) := by decide +kernel
theorem dX12_one_98 : decode cX12_one 98 = .ok (.aload_n 0, 1) := by decide +kernel
theorem dX12_one_99 : decode cX12_one 99 = .ok (.invokevirtual 304, 3) := by decide +kernel
theorem dX12_one_102 : decode cX12_one 102 = .ok (.aload_n 0, 1) := by decide +kernel
theorem dX12_one_103 : decode cX12_one 103 = .ok (.invokevirtual 292, 3) := by decide +kernel
theorem dX12_one_106 : decode cX12_one 106 = .ok (.aload_n 0, 1) := by decide +kernel
theorem dX12_one_107 : decode cX12_one 107 = .ok (.bipush 41, 2) := by decide +kernel
theorem dX12_one_109 : decode cX12_one 109 = .ok (.invokevirtual 289, 3) := by decide +kernel
theorem dX12_one_112 : decode cX12_one 112 = .ok (.aload_n 0, 1) := by decide +kernel
theorem dX12_one_113 : decode cX12_one 113 = .ok (.dup, 1) := by decide +kernel
theorem dX12_one_114 : decode cX12_one 114 = .ok (.getfield 280, 3) := by decide +kernel
theorem dX12_one_117 : decode cX12_one 117 = .ok (.iconst 1, 1) := by decide +kernel
theorem dX12_one_118 : decode cX12_one 118 = .ok (.isub, 1) := by decide +kernel
theorem dX12_one_119 : decode cX12_one 119 = .ok (.putfield 280, 3) := by decide +kernel
theorem dX12_one_122 : decode cX12_one 122 = .ok (.goto 7, 3) := by decide +kernel
theorem dX12_one_125 : decode cX12_one 125 = .ok (.aload_n 0, 1) := by decide +kernel
theorem dX12_one_126 : decode cX12_one 126 = .ok (.invokevirtual 274, 3) := by decide +kernel
theorem dX12_one_129 : decode cX12_one 129 = .ok (.return_, 1) := by decide +kernel
theorem dX12_feed_0 : decode cX12_feed 0 = .ok (.iload_n 1, 1) := by decide +kernel
theorem dX12_feed_1 : decode cX12_feed 1 = .ok (.iconst 1, 1) := by decide +kernel
theorem dX12_feed_2 : decode cX12_feed 2 = .ok (.bipush 8, 2) := by decide +kernel
theorem dX12_feed_4 : decode cX12_feed 4 = .ok (.invokestatic 149, 3) := by decide +kernel
theorem dX12_feed_7 : decode cX12_feed 7 = .ok (.ifCond .ne 6, 3) := by decide +kernel
theorem dX12_feed_10 : decode cX12_feed 10 = .ok (.bipush (-2), 2) := by decide +kernel
theorem dX12_feed_12 : decode cX12_feed 12 = .ok (.ireturn, 1) := by decide +kernel
theorem dX12_feed_13 : decode cX12_feed 13 = .ok (.aload_n 0, 1) := by decide +kernel
theorem dX12_feed_14 : decode cX12_feed 14 = .ok (.getfield 316, 3) := by decide +kernel
theorem dX12_feed_17 : decode cX12_feed 17 = .ok (.iload_n 1, 1) := by decide +kernel
theorem dX12_feed_18 : decode cX12_feed 18 = .ok (.iadd, 1) := by decide +kernel
theorem dX12_feed_19 : decode cX12_feed 19 = .ok (.sipush 160, 3) := by decide +kernel
theorem dX12_feed_22 : decode cX12_feed 22 = .ok (.if_icmp .le 6, 3) := by decide +kernel
theorem dX12_feed_25 : decode cX12_feed 25 = .ok (.bipush (-4), 2) := by decide +kernel
theorem dX12_feed_27 : decode cX12_feed 27 = .ok (.ireturn, 1) := by decide +kernel
theorem dX12_feed_28 : decode cX12_feed 28 = .ok (.iconst 0, 1) := by decide +kernel
theorem dX12_feed_29 : decode cX12_feed 29 = .ok (.istore 4, 2) := by decide +kernel
theorem dX12_feed_31 : decode cX12_feed 31 = .ok (.iload 4, 2) := by decide +kernel
theorem dX12_feed_33 : decode cX12_feed 33 = .ok (.iload_n 1, 1) := by decide +kernel
theorem dX12_feed_34 : decode cX12_feed 34 = .ok (.if_icmp .ge 40, 3) := by decide +kernel
theorem dX12_feed_37 : decode cX12_feed 37 = .ok (.aload_n 0, 1) := by decide +kernel
theorem dX12_feed_38 : decode cX12_feed 38 = .ok (.getfield 69, 3) := by decide +kernel
theorem dX12_feed_41 : decode cX12_feed 41 = .ok (.aload_n 0, 1) := by decide +kernel
theorem dX12_feed_42 : decode cX12_feed 42 = .ok (.getfield 316, 3) := by decide +kernel
theorem dX12_feed_45 : decode cX12_feed 45 = .ok (.lload_n 2, 1) := by decide +kernel
theorem dX12_feed_46 : decode cX12_feed 46 = .ok (.bipush 8, 2) := by decide +kernel
theorem dX12_feed_48 : decode cX12_feed 48 = .ok (.iload 4, 2) := by decide +kernel
theorem dX12_feed_50 : decode cX12_feed 50 = .ok (.imul, 1) := by decide +kernel
theorem dX12_feed_51 : decode cX12_feed 51 = .ok (.lshr, 1) := by decide +kernel
theorem dX12_feed_52 : decode cX12_feed 52 = .ok (.ldc2_w 319, 3) := by decide +kernel
theorem dX12_feed_55 : decode cX12_feed 55 = .ok (.land, 1) := by decide +kernel
theorem dX12_feed_56 : decode cX12_feed 56 = .ok (.l2i, 1) := by decide +kernel
theorem dX12_feed_57 : decode cX12_feed 57 = .ok (.iastore, 1) := by decide +kernel
theorem dX12_feed_58 : decode cX12_feed 58 = .ok (.aload_n 0, 1) := by decide +kernel
theorem dX12_feed_59 : decode cX12_feed 59 = .ok (.dup, 1) := by decide +kernel
theorem dX12_feed_60 : decode cX12_feed 60 = .ok (.getfield 316, 3) := by decide +kernel
theorem dX12_feed_63 : decode cX12_feed 63 = .ok (.iconst 1, 1) := by decide +kernel
theorem dX12_feed_64 : decode cX12_feed 64 = .ok (.iadd, 1) := by decide +kernel
theorem dX12_feed_65 : decode cX12_feed 65 = .ok (.putfield 316, 3) := by decide +kernel
theorem dX12_feed_68 : decode cX12_feed 68 = .ok (.iinc 4 1, 3) := by decide +kernel
theorem dX12_feed_71 : decode cX12_feed 71 = .ok (.goto (-40), 3) := by decide +kernel
theorem dX12_feed_74 : decode cX12_feed 74 = .ok (.aload_n 0, 1) := by decide +kernel
theorem dX12_feed_75 : decode cX12_feed 75 = .ok (.getfield 316, 3) := by decide +kernel
theorem dX12_feed_78 : decode cX12_feed 78 = .ok (.ireturn, 1) := by decide +kernel
theorem dX12_text_0 : decode cX12_text 0 = .ok (.aload_n 0, 1) := by decide +kernel
theorem dX12_text_1 : decode cX12_text 1 = .ok (.getfield 143, 3) := by decide +kernel
theorem dX12_text_4 : decode cX12_text 4 = .ok (.bipush 6, 2) := by decide +kernel
theorem dX12_text_6 : decode cX12_text 6 = .ok (.if_icmp .ne 6, 3) := by decide +kernel
theorem dX12_text_9 : decode cX12_text 9 = .ok (.bipush (-4), 2) := by decide +kernel
theorem dX12_text_11 : decode cX12_text 11 = .ok (.ireturn, 1) := by decide +kernel
theorem dX12_text_12 : decode cX12_text 12 = .ok (.aload_n 0, 1) := by decide +kernel
theorem dX12_text_13 : decode cX12_text 13 = .ok (.aload_n 0, 1) := by decide +kernel
theorem dX12_text_14 : decode cX12_text 14 = .ok (.getfield 316, 3) := by decide +kernel
theorem dX12_text_17 : decode cX12_text 17 = .ok (.putfield 135, 3) := by decide +kernel
theorem dX12_text_20 : decode cX12_text 20 = .ok (.aload_n 0, 1) := by decide +kernel
theorem dX12_text_21 : decode cX12_text 21 = .ok (.iconst 0, 1) := by decide +kernel
theorem dX12_text_22 : decode cX12_text 22 = .ok (.putfield 316, 3) := by decide +kernel
theorem dX12_text_25 : decode cX12_text 25 = .ok (.aload_n 0, 1) := by decide +kernel
theorem dX12_text_26 : decode cX12_text 26 = .ok (.aload_n 0, 1) := by decide +kernel
theorem dX12_text_27 : decode cX12_text 27 = .ok (.getfield 143, 3) := by decide +kernel
theorem dX12_text_30 : decode cX12_text 30 = .ok (.invokevirtual 139, 3) := by decide +kernel
theorem dX12_text_33 : decode cX12_text 33 = .ok (.aload_n 0, 1) := by decide +kernel
theorem dX12_text_34 : decode cX12_text 34 = .ok (.invokevirtual 270, 3) := by decide +kernel
theorem dX12_text_37 : decode cX12_text 37 = .ok (.ifCond .eq 11, 3) := by decide +kernel
theorem dX12_text_40 : decode cX12_text 40 = .ok (.bipush (-100), 2) := by decide +kernel
theorem dX12_text_42 : decode cX12_text 42 = .ok (.aload_n 0, 1) := by decide +kernel
theorem dX12_text_43 : decode cX12_text 43 = .ok (.getfield 267, 3) := by decide +kernel
theorem dX12_text_46 : decode cX12_text 46 = .ok (.isub, 1) := by decide +kernel
theorem dX12_text_47 : decode cX12_text 47 = .ok (.ireturn, 1) := by decide +kernel
theorem dX12_text_48 : decode cX12_text 48 = .ok (.aload_n 0, 1) := by decide +kernel
theorem dX12_text_49 : decode cX12_text 49 = .ok (.dup, 1) := by decide +kernel
theorem dX12_text_50 : decode cX12_text 50 = .ok (.getfield 143, 3) := by decide +kernel
theorem dX12_text_53 : decode cX12_text 53 = .ok (.iconst 1, 1) := by decide +kernel
theorem dX12_text_54 : decode cX12_text 54 = .ok (.iadd, 1) := by decide +kernel
theorem dX12_text_55 : decode cX12_text 55 = .ok (.putfield 143, 3) := by decide +kernel
theorem dX12_text_58 : decode cX12_text 58 = .ok (.aload_n 0, 1) := by decide +kernel
theorem dX12_text_59 : decode cX12_text 59 = .ok (.getfield 143, 3) := by decide +kernel
theorem dX12_text_62 : decode cX12_text 62 = .ok (.iconst 1, 1) := by decide +kernel
theorem dX12_text_63 : decode cX12_text 63 = .ok (.isub, 1) := by decide +kernel
theorem dX12_text_64 : decode cX12_text 64 = .ok (.ireturn, 1) := by decide +kernel
theorem dX12_two_0 : decode cX12_two 0 = .ok (.iload_n 0, 1) := by decide +kernel
theorem dX12_two_1 : decode cX12_two 1 = .ok (.tableswitch 101 2 8 #[43, 57, 101, 71, 82, 93, 97], 43) := by decide +kernel
theorem dX12_two_44 : decode cX12_two 44 = .ok (.iload_n 1, 1) := by decide +kernel
theorem dX12_two_45 : decode cX12_two 45 = .ok (.ifCond .ne 7, 3) := by decide +kernel
theorem dX12_two_48 : decode cX12_two 48 = .ok (.iload_n 2, 1) := by decide +kernel
theorem dX12_two_49 : decode cX12_two 49 = .ok (.ifCond .eq 7, 3) := by decide +kernel
theorem dX12_two_52 : decode cX12_two 52 = .ok (.iconst 1, 1) := by decide +kernel
theorem dX12_two_53 : decode cX12_two 53 = .ok (.goto 4, 3) := by decide +kernel
theorem dX12_two_56 : decode cX12_two 56 = .ok (.iconst 0, 1) := by decide +kernel
theorem dX12_two_57 : decode cX12_two 57 = .ok (.ireturn, 1) := by decide +kernel
theorem dX12_two_58 : decode cX12_two 58 = .ok (.iload_n 1, 1) := by decide +kernel
theorem dX12_two_59 : decode cX12_two 59 = .ok (.ifCond .eq 11, 3) := by decide +kernel
theorem dX12_two_62 : decode cX12_two 62 = .ok (.iload_n 2, 1) := by decide +kernel
theorem dX12_two_63 : decode cX12_two 63 = .ok (.ifCond .eq 7, 3) := by decide +kernel
theorem dX12_two_66 : decode cX12_two 66 = .ok (.iconst 1, 1) := by decide +kernel
theorem dX12_two_67 : decode cX12_two 67 = .ok (.goto 4, 3) := by decide +kernel
theorem dX12_two_70 : decode cX12_two 70 = .ok (.iconst 0, 1) := by decide +kernel
theorem dX12_two_71 : decode cX12_two 71 = .ok (.ireturn, 1) := by decide +kernel
theorem dX12_two_72 : decode cX12_two 72 = .ok (.iload_n 1, 1) := by decide +kernel
theorem dX12_two_73 : decode cX12_two 73 = .ok (.iload_n 2, 1) := by decide +kernel
theorem dX12_two_74 : decode cX12_two 74 = .ok (.if_icmp .ge 7, 3) := by decide +kernel
theorem dX12_two_77 : decode cX12_two 77 = .ok (.iconst 1, 1) := by decide +kernel
theorem dX12_two_78 : decode cX12_two 78 = .ok (.goto 4, 3) := by decide +kernel
theorem dX12_two_81 : decode cX12_two 81 = .ok (.iconst 0, 1) := by decide +kernel
theorem dX12_two_82 : decode cX12_two 82 = .ok (.ireturn, 1) := by decide +kernel
theorem dX12_two_83 : decode cX12_two 83 = .ok (.iload_n 1, 1) := by decide +kernel
theorem dX12_two_84 : decode cX12_two 84 = .ok (.iload_n 2, 1) := by decide +kernel
theorem dX12_two_85 : decode cX12_two 85 = .ok (.if_icmp .ne 7, 3) := by decide +kernel
theorem dX12_two_88 : decode cX12_two 88 = .ok (.iconst 1, 1) := by decide +kernel
theorem dX12_two_89 : decode cX12_two 89 = .ok (.goto 4, 3) := by decide +kernel
theorem dX12_two_92 : decode cX12_two 92 = .ok (.iconst 0, 1) := by decide +kernel
theorem dX12_two_93 : decode cX12_two 93 = .ok (.ireturn, 1) := by decide +kernel
theorem dX12_two_94 : decode cX12_two 94 = .ok (.iload_n 1, 1) := by decide +kernel
theorem dX12_two_95 : decode cX12_two 95 = .ok (.iload_n 2, 1) := by decide +kernel
theorem dX12_two_96 : decode cX12_two 96 = .ok (.iadd, 1) := by decide +kernel
theorem dX12_two_97 : decode cX12_two 97 = .ok (.ireturn, 1) := by decide +kernel
theorem dX12_two_98 : decode cX12_two 98 = .ok (.iload_n 1, 1) := by decide +kernel
theorem dX12_two_99 : decode cX12_two 99 = .ok (.iload_n 2, 1) := by decide +kernel
theorem dX12_two_100 : decode cX12_two 100 = .ok (.isub, 1) := by decide +kernel
theorem dX12_two_101 : decode cX12_two 101 = .ok (.ireturn, 1) := by decide +kernel
theorem dX12_two_102 : decode cX12_two 102 = .ok (.iload_n 1, 1) := by decide +kernel
theorem dX12_two_103 : decode cX12_two 103 = .ok (.iload_n 2, 1) := by decide +kernel
theorem dX12_two_104 : decode cX12_two 104 = .ok (.imul, 1) := by decide +kernel
theorem dX12_two_105 : decode cX12_two 105 = .ok (.ireturn, 1) := by decide +kernel
theorem dX12_named_0 : decode cX12_named 0 = .ok (.iload_n 1, 1) := by decide +kernel
theorem dX12_named_1 : decode cX12_named 1 = .ok (.tableswitch 71 0 3 #[31, 49, 57, 62], 31) := by decide +kernel
theorem dX12_named_32 : decode cX12_named 32 = .ok (.aload_n 0, 1) := by decide +kernel
theorem dX12_named_33 : decode cX12_named 33 = .ok (.getfield 40, 3) := by decide +kernel
theorem dX12_named_36 : decode cX12_named 36 = .ok (.sipush 2000, 3) := by decide +kernel
theorem dX12_named_39 : decode cX12_named 39 = .ok (.aload_n 0, 1) := by decide +kernel
theorem dX12_named_40 : decode cX12_named 40 = .ok (.getfield 84, 3) := by decide +kernel
theorem dX12_named_43 : decode cX12_named 43 = .ok (.iload_n 2, 1) := by decide +kernel
theorem dX12_named_44 : decode cX12_named 44 = .ok (.iaload, 1) := by decide +kernel
theorem dX12_named_45 : decode cX12_named 45 = .ok (.imul, 1) := by decide +kernel
theorem dX12_named_46 : decode cX12_named 46 = .ok (.iload_n 3, 1) := by decide +kernel
theorem dX12_named_47 : decode cX12_named 47 = .ok (.iadd, 1) := by decide +kernel
theorem dX12_named_48 : decode cX12_named 48 = .ok (.baload, 1) := by decide +kernel
theorem dX12_named_49 : decode cX12_named 49 = .ok (.ireturn, 1) := by decide +kernel
theorem dX12_named_50 : decode cX12_named 50 = .ok (.iload_n 3, 1) := by decide +kernel
theorem dX12_named_51 : decode cX12_named 51 = .ok (.bipush 24, 2) := by decide +kernel
theorem dX12_named_53 : decode cX12_named 53 = .ok (.idiv, 1) := by decide +kernel
theorem dX12_named_54 : decode cX12_named 54 = .ok (.bipush 7, 2) := by decide +kernel
theorem dX12_named_56 : decode cX12_named 56 = .ok (.irem, 1) := by decide +kernel
theorem dX12_named_57 : decode cX12_named 57 = .ok (.ireturn, 1) := by decide +kernel
theorem dX12_named_58 : decode cX12_named 58 = .ok (.iload_n 3, 1) := by decide +kernel
theorem dX12_named_59 : decode cX12_named 59 = .ok (.bipush 24, 2) := by decide +kernel
theorem dX12_named_61 : decode cX12_named 61 = .ok (.irem, 1) := by decide +kernel
theorem dX12_named_62 : decode cX12_named 62 = .ok (.ireturn, 1) := by decide +kernel
theorem dX12_named_63 : decode cX12_named 63 = .ok (.iload_n 3, 1) := by decide +kernel
theorem dX12_named_64 : decode cX12_named 64 = .ok (.aload_n 0, 1) := by decide +kernel
theorem dX12_named_65 : decode cX12_named 65 = .ok (.getfield 87, 3) := by decide +kernel
theorem dX12_named_68 : decode cX12_named 68 = .ok (.iload_n 2, 1) := by decide +kernel
theorem dX12_named_69 : decode cX12_named 69 = .ok (.iaload, 1) := by decide +kernel
theorem dX12_named_70 : decode cX12_named 70 = .ok (.isub, 1) := by decide +kernel
theorem dX12_named_71 : decode cX12_named 71 = .ok (.ireturn, 1) := by decide +kernel
theorem dX12_named_72 : decode cX12_named 72 = .ok (.iload 4, 2) := by decide +kernel
theorem dX12_named_74 : decode cX12_named 74 = .ok (.ireturn, 1) := by decide +kernel
theorem dX12_worked_0 : decode cX12_worked 0 = .ok (.aload_n 0, 1) := by decide +kernel
theorem dX12_worked_1 : decode cX12_worked 1 = .ok (.getfield 93, 3) := by decide +kernel
theorem dX12_worked_4 : decode cX12_worked 4 = .ok (.iload_n 2, 1) := by decide +kernel
theorem dX12_worked_5 : decode cX12_worked 5 = .ok (.iaload, 1) := by decide +kernel
theorem dX12_worked_6 : decode cX12_worked 6 = .ok (.istore 5, 2) := by decide +kernel
theorem dX12_worked_8 : decode cX12_worked 8 = .ok (.iconst 0, 1) := by decide +kernel
theorem dX12_worked_9 : decode cX12_worked 9 = .ok (.istore 6, 2) := by decide +kernel
theorem dX12_worked_11 : decode cX12_worked 11 = .ok (.sipush 160, 3) := by decide +kernel
theorem dX12_worked_14 : decode cX12_worked 14 = .ok (.iload 5, 2) := by decide +kernel
theorem dX12_worked_16 : decode cX12_worked 16 = .ok (.imul, 1) := by decide +kernel
theorem dX12_worked_17 : decode cX12_worked 17 = .ok (.aload_n 0, 1) := by decide +kernel
theorem dX12_worked_18 : decode cX12_worked 18 = .ok (.getfield 78, 3) := by decide +kernel
theorem dX12_worked_21 : decode cX12_worked 21 = .ok (.iconst 3, 1) := by decide +kernel
theorem dX12_worked_22 : decode cX12_worked 22 = .ok (.iload 5, 2) := by decide +kernel
theorem dX12_worked_24 : decode cX12_worked 24 = .ok (.imul, 1) := by decide +kernel
theorem dX12_worked_25 : decode cX12_worked 25 = .ok (.iload_n 1, 1) := by decide +kernel
theorem dX12_worked_26 : decode cX12_worked 26 = .ok (.iadd, 1) := by decide +kernel
theorem dX12_worked_27 : decode cX12_worked 27 = .ok (.iaload, 1) := by decide +kernel
theorem dX12_worked_28 : decode cX12_worked 28 = .ok (.iadd, 1) := by decide +kernel
theorem dX12_worked_29 : decode cX12_worked 29 = .ok (.istore 7, 2) := by decide +kernel
theorem dX12_worked_31 : decode cX12_worked 31 = .ok (.iload 7, 2) := by decide +kernel
theorem dX12_worked_33 : decode cX12_worked 33 = .ok (.sipush 160, 3) := by decide +kernel
theorem dX12_worked_36 : decode cX12_worked 36 = .ok (.iload 5, 2) := by decide +kernel
theorem dX12_worked_38 : decode cX12_worked 38 = .ok (.imul, 1) := by decide +kernel
theorem dX12_worked_39 : decode cX12_worked 39 = .ok (.aload_n 0, 1) := by decide +kernel
theorem dX12_worked_40 : decode cX12_worked 40 = .ok (.getfield 78, 3) := by decide +kernel
theorem dX12_worked_43 : decode cX12_worked 43 = .ok (.iconst 3, 1) := by decide +kernel
theorem dX12_worked_44 : decode cX12_worked 44 = .ok (.iload 5, 2) := by decide +kernel
theorem dX12_worked_46 : decode cX12_worked 46 = .ok (.imul, 1) := by decide +kernel
theorem dX12_worked_47 : decode cX12_worked 47 = .ok (.iload_n 1, 1) := by decide +kernel
theorem dX12_worked_48 : decode cX12_worked 48 = .ok (.iadd, 1) := by decide +kernel
theorem dX12_worked_49 : decode cX12_worked 49 = .ok (.iconst 1, 1) := by decide +kernel
theorem dX12_worked_50 : decode cX12_worked 50 = .ok (.iadd, 1) := by decide +kernel
theorem dX12_worked_51 : decode cX12_worked 51 = .ok (.iaload, 1) := by decide +kernel
theorem dX12_worked_52 : decode cX12_worked 52 = .ok (.iadd, 1) := by decide +kernel
theorem dX12_worked_53 : decode cX12_worked 53 = .ok (.if_icmp .ge 169, 3) := by decide +kernel
theorem dX12_worked_56 : decode cX12_worked 56 = .ok (.aload_n 0, 1) := by decide +kernel
theorem dX12_worked_57 : decode cX12_worked 57 = .ok (.getfield 72, 3) := by decide +kernel
theorem dX12_worked_60 : decode cX12_worked 60 = .ok (.iload 7, 2) := by decide +kernel
theorem dX12_worked_62 : decode cX12_worked 62 = .ok (.iaload, 1) := by decide +kernel
theorem dX12_worked_63 : decode cX12_worked 63 = .ok (.istore 8, 2) := by decide +kernel
theorem dX12_worked_65 : decode cX12_worked 65 = .ok (.iload 8, 2) := by decide +kernel
theorem dX12_worked_67 : decode cX12_worked 67 = .ok (.ifCond .eq 9, 3) := by decide +kernel
theorem dX12_worked_70 : decode cX12_worked 70 = .ok (.iload 8, 2) := by decide +kernel
theorem dX12_worked_72 : decode cX12_worked 72 = .ok (.iconst 1, 1) := by decide +kernel
theorem dX12_worked_73 : decode cX12_worked 73 = .ok (.if_icmp .ne 46, 3) := by decide +kernel
theorem dX12_worked_76 : decode cX12_worked 76 = .ok (.aload_n 0, 1) := by decide +kernel
theorem dX12_worked_77 : decode cX12_worked 77 = .ok (.getfield 132, 3) := by decide +kernel
theorem dX12_worked_80 : decode cX12_worked 80 = .ok (.iload 6, 2) := by decide +kernel
theorem dX12_worked_82 : decode cX12_worked 82 = .ok (.iload 8, 2) := by decide +kernel
theorem dX12_worked_84 : decode cX12_worked 84 = .ok (.ifCond .ne 13, 3) := by decide +kernel
theorem dX12_worked_87 : decode cX12_worked 87 = .ok (.aload_n 0, 1) := by decide +kernel
theorem dX12_worked_88 : decode cX12_worked 88 = .ok (.getfield 75, 3) := by decide +kernel
theorem dX12_worked_91 : decode cX12_worked 91 = .ok (.iload 7, 2) := by decide +kernel
theorem dX12_worked_93 : decode cX12_worked 93 = .ok (.iaload, 1) := by decide +kernel
theorem dX12_worked_94 : decode cX12_worked 94 = .ok (.goto 18, 3) := by decide +kernel
theorem dX12_worked_97 : decode cX12_worked 97 = .ok (.aload_n 0, 1) := by decide +kernel
theorem dX12_worked_98 : decode cX12_worked 98 = .ok (.aload_n 0, 1) := by decide +kernel
theorem dX12_worked_99 : decode cX12_worked 99 = .ok (.getfield 75, 3) := by decide +kernel
theorem dX12_worked_102 : decode cX12_worked 102 = .ok (.iload 7, 2) := by decide +kernel
theorem dX12_worked_104 : decode cX12_worked 104 = .ok (.iaload, 1) := by decide +kernel
theorem dX12_worked_105 : decode cX12_worked 105 = .ok (.iload_n 2, 1) := by decide +kernel
theorem dX12_worked_106 : decode cX12_worked 106 = .ok (.iload_n 3, 1) := by decide +kernel
theorem dX12_worked_107 : decode cX12_worked 107 = .ok (.iload 4, 2) := by decide +kernel
theorem dX12_worked_109 : decode cX12_worked 109 = .ok (.invokevirtual 321, 3) := by decide +kernel
theorem dX12_worked_112 : decode cX12_worked 112 = .ok (.iastore, 1) := by decide +kernel
theorem dX12_worked_113 : decode cX12_worked 113 = .ok (.iinc 6 1, 3) := by decide +kernel
theorem dX12_worked_116 : decode cX12_worked 116 = .ok (.goto 100, 3) := by decide +kernel
theorem dX12_worked_119 : decode cX12_worked 119 = .ok (.iload 8, 2) := by decide +kernel
theorem dX12_worked_121 : decode cX12_worked 121 = .ok (.iconst 4, 1) := by decide +kernel
theorem dX12_worked_122 : decode cX12_worked 122 = .ok (.if_icmp .ne 32, 3) := by decide +kernel
theorem dX12_worked_125 : decode cX12_worked 125 = .ok (.aload_n 0, 1) := by decide +kernel
theorem dX12_worked_126 : decode cX12_worked 126 = .ok (.getfield 132, 3) := by decide +kernel
theorem dX12_worked_129 : decode cX12_worked 129 = .ok (.iload 6, 2) := by decide +kernel
theorem dX12_worked_131 : decode cX12_worked 131 = .ok (.iconst 1, 1) := by decide +kernel
theorem dX12_worked_132 : decode cX12_worked 132 = .ok (.isub, 1) := by decide +kernel
theorem dX12_worked_133 : decode cX12_worked 133 = .ok (.aload_n 0, 1) := by decide +kernel
theorem dX12_worked_134 : decode cX12_worked 134 = .ok (.getfield 132, 3) := by decide +kernel
theorem dX12_worked_137 : decode cX12_worked 137 = .ok (.iload 6, 2) := by decide +kernel
theorem dX12_worked_139 : decode cX12_worked 139 = .ok (.iconst 1, 1) := by decide +kernel
theorem dX12_worked_140 : decode cX12_worked 140 = .ok (.isub, 1) := by decide +kernel
theorem dX12_worked_141 : decode cX12_worked 141 = .ok (.iaload, 1) := by decide +kernel
theorem dX12_worked_142 : decode cX12_worked 142 = .ok (.ifCond .ne 7, 3) := by decide +kernel
theorem dX12_worked_145 : decode cX12_worked 145 = .ok (.iconst 1, 1) := by decide +kernel
theorem dX12_worked_146 : decode cX12_worked 146 = .ok (.goto 4, 3) := by decide +kernel
theorem dX12_worked_149 : decode cX12_worked 149 = .ok (.iconst 0, 1) := by decide +kernel
theorem dX12_worked_150 : decode cX12_worked 150 = .ok (.iastore, 1) := by decide +kernel
theorem dX12_worked_151 : decode cX12_worked 151 = .ok (.goto 65, 3) := by decide +kernel
theorem dX12_worked_154 : decode cX12_worked 154 = .ok (.iload 8, 2) := by decide +kernel
theorem dX12_worked_156 : decode cX12_worked 156 = .ok (.bipush 10, 2) := by decide +kernel
theorem dX12_worked_158 : decode cX12_worked 158 = .ok (.if_icmp .ne 25, 3) := by decide +kernel
theorem dX12_worked_161 : decode cX12_worked 161 = .ok (.aload_n 0, 1) := by decide +kernel
theorem dX12_worked_162 : decode cX12_worked 162 = .ok (.getfield 132, 3) := by decide +kernel
theorem dX12_worked_165 : decode cX12_worked 165 = .ok (.iload 6, 2) := by decide +kernel
theorem dX12_worked_167 : decode cX12_worked 167 = .ok (.iconst 1, 1) := by decide +kernel
theorem dX12_worked_168 : decode cX12_worked 168 = .ok (.isub, 1) := by decide +kernel
theorem dX12_worked_169 : decode cX12_worked 169 = .ok (.aload_n 0, 1) := by decide +kernel
theorem dX12_worked_170 : decode cX12_worked 170 = .ok (.getfield 132, 3) := by decide +kernel
theorem dX12_worked_173 : decode cX12_worked 173 = .ok (.iload 6, 2) := by decide +kernel
theorem dX12_worked_175 : decode cX12_worked 175 = .ok (.iconst 1, 1) := by decide +kernel
theorem dX12_worked_176 : decode cX12_worked 176 = .ok (.isub, 1) := by decide +kernel
theorem dX12_worked_177 : decode cX12_worked 177 = .ok (.iaload, 1) := by decide +kernel
theorem dX12_worked_178 : decode cX12_worked 178 = .ok (.ineg, 1) := by decide +kernel
theorem dX12_worked_179 : decode cX12_worked 179 = .ok (.iastore, 1) := by decide +kernel
theorem dX12_worked_180 : decode cX12_worked 180 = .ok (.goto 36, 3) := by decide +kernel
theorem dX12_worked_183 : decode cX12_worked 183 = .ok (.iinc 6 (-1), 3) := by decide +kernel
theorem dX12_worked_186 : decode cX12_worked 186 = .ok (.aload_n 0, 1) := by decide +kernel
theorem dX12_worked_187 : decode cX12_worked 187 = .ok (.getfield 132, 3) := by decide +kernel
theorem dX12_worked_190 : decode cX12_worked 190 = .ok (.iload 6, 2) := by decide +kernel
theorem dX12_worked_192 : decode cX12_worked 192 = .ok (.iconst 1, 1) := by decide +kernel
theorem dX12_worked_193 : decode cX12_worked 193 = .ok (.isub, 1) := by decide +kernel
theorem dX12_worked_194 : decode cX12_worked 194 = .ok (.iload 8, 2) := by decide +kernel
theorem dX12_worked_196 : decode cX12_worked 196 = .ok (.aload_n 0, 1) := by decide +kernel
theorem dX12_worked_197 : decode cX12_worked 197 = .ok (.getfield 132, 3) := by decide +kernel
theorem dX12_worked_200 : decode cX12_worked 200 = .ok (.iload 6, 2) := by decide +kernel
theorem dX12_worked_202 : decode cX12_worked 202 = .ok (.iconst 1, 1) := by decide +kernel
theorem dX12_worked_203 : decode cX12_worked 203 = .ok (.isub, 1) := by decide +kernel
theorem dX12_worked_204 : decode cX12_worked 204 = .ok (.iaload, 1) := by decide +kernel
theorem dX12_worked_205 : decode cX12_worked 205 = .ok (.aload_n 0, 1) := by decide +kernel
theorem dX12_worked_206 : decode cX12_worked 206 = .ok (.getfield 132, 3) := by decide +kernel
theorem dX12_worked_209 : decode cX12_worked 209 = .ok (.iload 6, 2) := by decide +kernel
theorem dX12_worked_211 : decode cX12_worked 211 = .ok (.iaload, 1) := by decide +kernel
theorem dX12_worked_212 : decode cX12_worked 212 = .ok (.invokestatic 324, 3) := by decide +kernel
theorem dX12_worked_215 : decode cX12_worked 215 = .ok (.iastore, 1) := by decide +kernel
theorem dX12_worked_216 : decode cX12_worked 216 = .ok (.iinc 7 1, 3) := by decide +kernel
theorem dX12_worked_219 : decode cX12_worked 219 = .ok (.goto (-188), 3) := by decide +kernel
theorem dX12_worked_222 : decode cX12_worked 222 = .ok (.aload_n 0, 1) := by decide +kernel
theorem dX12_worked_223 : decode cX12_worked 223 = .ok (.getfield 132, 3) := by decide +kernel
theorem dX12_worked_226 : decode cX12_worked 226 = .ok (.iconst 0, 1) := by decide +kernel
theorem dX12_worked_227 : decode cX12_worked 227 = .ok (.iaload, 1) := by decide +kernel
theorem dX12_worked_228 : decode cX12_worked 228 = .ok (.ireturn, 1) := by decide +kernel
theorem dX12_isCharter_0 : decode cX12_isCharter 0 = .ok (.iload_n 1, 1) := by decide +kernel
theorem dX12_isCharter_1 : decode cX12_isCharter 1 = .ok (.iconst 0, 1) := by decide +kernel
theorem dX12_isCharter_2 : decode cX12_isCharter 2 = .ok (.aload_n 0, 1) := by decide +kernel
theorem dX12_isCharter_3 : decode cX12_isCharter 3 = .ok (.getfield 327, 3) := by decide +kernel
theorem dX12_isCharter_6 : decode cX12_isCharter 6 = .ok (.iconst 1, 1) := by decide +kernel
theorem dX12_isCharter_7 : decode cX12_isCharter 7 = .ok (.isub, 1) := by decide +kernel
theorem dX12_isCharter_8 : decode cX12_isCharter 8 = .ok (.invokestatic 149, 3) := by decide +kernel
theorem dX12_isCharter_11 : decode cX12_isCharter 11 = .ok (.ireturn, 1) := by decide +kernel
theorem dX12_has_0 : decode cX12_has 0 = .ok (.aload_n 0, 1) := by decide +kernel
theorem dX12_has_1 : decode cX12_has 1 = .ok (.getfield 84, 3) := by decide +kernel
theorem dX12_has_4 : decode cX12_has 4 = .ok (.iload_n 1, 1) := by decide +kernel
theorem dX12_has_5 : decode cX12_has 5 = .ok (.iaload, 1) := by decide +kernel
theorem dX12_has_6 : decode cX12_has 6 = .ok (.iload_n 2, 1) := by decide +kernel
theorem dX12_has_7 : decode cX12_has 7 = .ok (.if_icmp .ne 36, 3) := by decide +kernel
theorem dX12_has_10 : decode cX12_has 10 = .ok (.aload_n 0, 1) := by decide +kernel
theorem dX12_has_11 : decode cX12_has 11 = .ok (.getfield 105, 3) := by decide +kernel
theorem dX12_has_14 : decode cX12_has 14 = .ok (.iload_n 1, 1) := by decide +kernel
theorem dX12_has_15 : decode cX12_has 15 = .ok (.iaload, 1) := by decide +kernel
theorem dX12_has_16 : decode cX12_has 16 = .ok (.iconst 2, 1) := by decide +kernel
theorem dX12_has_17 : decode cX12_has 17 = .ok (.if_icmp .eq 26, 3) := by decide +kernel
theorem dX12_has_20 : decode cX12_has 20 = .ok (.iload_n 3, 1) := by decide +kernel
theorem dX12_has_21 : decode cX12_has 21 = .ok (.aload_n 0, 1) := by decide +kernel
theorem dX12_has_22 : decode cX12_has 22 = .ok (.getfield 87, 3) := by decide +kernel
theorem dX12_has_25 : decode cX12_has 25 = .ok (.iload_n 1, 1) := by decide +kernel
theorem dX12_has_26 : decode cX12_has 26 = .ok (.iaload, 1) := by decide +kernel
theorem dX12_has_27 : decode cX12_has 27 = .ok (.aload_n 0, 1) := by decide +kernel
theorem dX12_has_28 : decode cX12_has 28 = .ok (.getfield 90, 3) := by decide +kernel
theorem dX12_has_31 : decode cX12_has 31 = .ok (.iload_n 1, 1) := by decide +kernel
theorem dX12_has_32 : decode cX12_has 32 = .ok (.iaload, 1) := by decide +kernel
theorem dX12_has_33 : decode cX12_has 33 = .ok (.invokestatic 149, 3) := by decide +kernel
theorem dX12_has_36 : decode cX12_has 36 = .ok (.ifCond .eq 7, 3) := by decide +kernel
theorem dX12_has_39 : decode cX12_has 39 = .ok (.iconst 1, 1) := by decide +kernel
theorem dX12_has_40 : decode cX12_has 40 = .ok (.goto 4, 3) := by decide +kernel
theorem dX12_has_43 : decode cX12_has 43 = .ok (.iconst 0, 1) := by decide +kernel
theorem dX12_has_44 : decode cX12_has 44 = .ok (.ireturn, 1) := by decide +kernel
theorem dX12_charter_0 : decode cX12_charter 0 = .ok (.iload_n 1, 1) := by decide +kernel
theorem dX12_charter_1 : decode cX12_charter 1 = .ok (.iconst 0, 1) := by decide +kernel
theorem dX12_charter_2 : decode cX12_charter 2 = .ok (.iconst 5, 1) := by decide +kernel
theorem dX12_charter_3 : decode cX12_charter 3 = .ok (.invokestatic 149, 3) := by decide +kernel
theorem dX12_charter_6 : decode cX12_charter 6 = .ok (.ifCond .eq 51, 3) := by decide +kernel
theorem dX12_charter_9 : decode cX12_charter 9 = .ok (.aload_n 0, 1) := by decide +kernel
theorem dX12_charter_10 : decode cX12_charter 10 = .ok (.iload_n 2, 1) := by decide +kernel
theorem dX12_charter_11 : decode cX12_charter 11 = .ok (.invokevirtual 163, 3) := by decide +kernel
theorem dX12_charter_14 : decode cX12_charter 14 = .ok (.ifCond .eq 43, 3) := by decide +kernel
theorem dX12_charter_17 : decode cX12_charter 17 = .ok (.iload_n 3, 1) := by decide +kernel
theorem dX12_charter_18 : decode cX12_charter 18 = .ok (.invokestatic 166, 3) := by decide +kernel
theorem dX12_charter_21 : decode cX12_charter 21 = .ok (.ifCond .eq 36, 3) := by decide +kernel
theorem dX12_charter_24 : decode cX12_charter 24 = .ok (.iload 4, 2) := by decide +kernel
theorem dX12_charter_26 : decode cX12_charter 26 = .ok (.invokestatic 166, 3) := by decide +kernel
theorem dX12_charter_29 : decode cX12_charter 29 = .ok (.ifCond .eq 28, 3) := by decide +kernel
theorem dX12_charter_32 : decode cX12_charter 32 = .ok (.iload_n 3, 1) := by decide +kernel
theorem dX12_charter_33 : decode cX12_charter 33 = .ok (.iload 4, 2) := by decide +kernel
theorem dX12_charter_35 : decode cX12_charter 35 = .ok (.if_icmp .gt 22, 3) := by decide +kernel
theorem dX12_charter_38 : decode cX12_charter 38 = .ok (.iload 5, 2) := by decide +kernel
theorem dX12_charter_40 : decode cX12_charter 40 = .ok (.iconst 0, 1) := by decide +kernel
theorem dX12_charter_41 : decode cX12_charter 41 = .ok (.aload_n 0, 1) := by decide +kernel
theorem dX12_charter_42 : decode cX12_charter 42 = .ok (.getfield 143, 3) := by decide +kernel
theorem dX12_charter_45 : decode cX12_charter 45 = .ok (.iconst 1, 1) := by decide +kernel
theorem dX12_charter_46 : decode cX12_charter 46 = .ok (.isub, 1) := by decide +kernel
theorem dX12_charter_47 : decode cX12_charter 47 = .ok (.invokestatic 149, 3) := by decide +kernel
theorem dX12_charter_50 : decode cX12_charter 50 = .ok (.ifCond .eq 7, 3) := by decide +kernel
theorem dX12_charter_53 : decode cX12_charter 53 = .ok (.iconst 1, 1) := by decide +kernel
theorem dX12_charter_54 : decode cX12_charter 54 = .ok (.goto 4, 3) := by decide +kernel
theorem dX12_charter_57 : decode cX12_charter 57 = .ok (.iconst 0, 1) := by decide +kernel
theorem dX12_charter_58 : decode cX12_charter 58 = .ok (.istore 8, 2) := by decide +kernel
theorem dX12_charter_60 : decode cX12_charter 60 = .ok (.iload 8, 2) := by decide +kernel
theorem dX12_charter_62 : decode cX12_charter 62 = .ok (.ifCond .eq 23, 3) := by decide +kernel
theorem dX12_charter_65 : decode cX12_charter 65 = .ok (.lload 6, 2) := by decide +kernel
theorem dX12_charter_67 : decode cX12_charter 67 = .ok (.lconst 0, 1) := by decide +kernel
theorem dX12_charter_68 : decode cX12_charter 68 = .ok (.lcmp, 1) := by decide +kernel
theorem dX12_charter_69 : decode cX12_charter 69 = .ok (.ifCond .lt 16, 3) := by decide +kernel
theorem dX12_charter_72 : decode cX12_charter 72 = .ok (.lload 6, 2) := by decide +kernel
theorem dX12_charter_74 : decode cX12_charter 74 = .ok (.ldc2_w 330, 3) := by decide +kernel
theorem dX12_charter_77 : decode cX12_charter 77 = .ok (.ldiv, 1) := by decide +kernel
theorem dX12_charter_78 : decode cX12_charter 78 = .ok (.ldc2_w 332, 3) := by decide +kernel
theorem dX12_charter_81 : decode cX12_charter 81 = .ok (.lcmp, 1) := by decide +kernel
theorem dX12_charter_82 : decode cX12_charter 82 = .ok (.ifCond .le 6, 3) := by decide +kernel
theorem dX12_charter_85 : decode cX12_charter 85 = .ok (.bipush (-2), 2) := by decide +kernel
theorem dX12_charter_87 : decode cX12_charter 87 = .ok (.ireturn, 1) := by decide +kernel
theorem dX12_charter_88 : decode cX12_charter 88 = .ok (.iconst 0, 1) := by decide +kernel
theorem dX12_charter_89 : decode cX12_charter 89 = .ok (.istore 9, 2) := by decide +kernel
theorem dX12_charter_91 : decode cX12_charter 91 = .ok (.iload 9, 2) := by decide +kernel
theorem dX12_charter_93 : decode cX12_charter 93 = .ok (.aload_n 0, 1) := by decide +kernel
theorem dX12_charter_94 : decode cX12_charter 94 = .ok (.getfield 327, 3) := by decide +kernel
theorem dX12_charter_97 : decode cX12_charter 97 = .ok (.if_icmp .ge 73, 3) := by decide +kernel
theorem dX12_charter_100 : decode cX12_charter 100 = .ok (.aload_n 0, 1) := by decide +kernel
theorem dX12_charter_101 : decode cX12_charter 101 = .ok (.iload 9, 2) := by decide +kernel
theorem dX12_charter_103 : decode cX12_charter 103 = .ok (.iload_n 2, 1) := by decide +kernel
theorem dX12_charter_104 : decode cX12_charter 104 = .ok (.iload_n 3, 1) := by decide +kernel
theorem dX12_charter_105 : decode cX12_charter 105 = .ok (.invokevirtual 334, 3) := by decide +kernel
theorem dX12_charter_108 : decode cX12_charter 108 = .ok (.ifCond .ne 53, 3) := by decide +kernel
theorem dX12_charter_111 : decode cX12_charter 111 = .ok (.aload_n 0, 1) := by decide +kernel
theorem dX12_charter_112 : decode cX12_charter 112 = .ok (.iload 9, 2) := by decide +kernel
theorem dX12_charter_114 : decode cX12_charter 114 = .ok (.iload_n 2, 1) := by decide +kernel
theorem dX12_charter_115 : decode cX12_charter 115 = .ok (.iload 4, 2) := by decide +kernel
theorem dX12_charter_117 : decode cX12_charter 117 = .ok (.invokevirtual 334, 3) := by decide +kernel
theorem dX12_charter_120 : decode cX12_charter 120 = .ok (.ifCond .ne 41, 3) := by decide +kernel
theorem dX12_charter_123 : decode cX12_charter 123 = .ok (.aload_n 0, 1) := by decide +kernel
theorem dX12_charter_124 : decode cX12_charter 124 = .ok (.getfield 84, 3) := by decide +kernel
theorem dX12_charter_127 : decode cX12_charter 127 = .ok (.iload 9, 2) := by decide +kernel
theorem dX12_charter_129 : decode cX12_charter 129 = .ok (.iaload, 1) := by decide +kernel
theorem dX12_charter_130 : decode cX12_charter 130 = .ok (.iload_n 2, 1) := by decide +kernel
theorem dX12_charter_131 : decode cX12_charter 131 = .ok (.if_icmp .ne 33, 3) := by decide +kernel
theorem dX12_charter_134 : decode cX12_charter 134 = .ok (.aload_n 0, 1) := by decide +kernel
theorem dX12_charter_135 : decode cX12_charter 135 = .ok (.getfield 105, 3) := by decide +kernel
theorem dX12_charter_138 : decode cX12_charter 138 = .ok (.iload 9, 2) := by decide +kernel
theorem dX12_charter_140 : decode cX12_charter 140 = .ok (.iaload, 1) := by decide +kernel
theorem dX12_charter_141 : decode cX12_charter 141 = .ok (.iconst 2, 1) := by decide +kernel
theorem dX12_charter_142 : decode cX12_charter 142 = .ok (.if_icmp .eq 22, 3) := by decide +kernel
theorem dX12_charter_145 : decode cX12_charter 145 = .ok (.aload_n 0, 1) := by decide +kernel
theorem dX12_charter_146 : decode cX12_charter 146 = .ok (.getfield 87, 3) := by decide +kernel
theorem dX12_charter_149 : decode cX12_charter 149 = .ok (.iload 9, 2) := by decide +kernel
theorem dX12_charter_151 : decode cX12_charter 151 = .ok (.iaload, 1) := by decide +kernel
theorem dX12_charter_152 : decode cX12_charter 152 = .ok (.iload_n 3, 1) := by decide +kernel
theorem dX12_charter_153 : decode cX12_charter 153 = .ok (.iload 4, 2) := by decide +kernel
theorem dX12_charter_155 : decode cX12_charter 155 = .ok (.invokestatic 149, 3) := by decide +kernel
theorem dX12_charter_158 : decode cX12_charter 158 = .ok (.ifCond .eq 6, 3) := by decide +kernel
theorem dX12_charter_161 : decode cX12_charter 161 = .ok (.bipush (-3), 2) := by decide +kernel
theorem dX12_charter_163 : decode cX12_charter 163 = .ok (.ireturn, 1) := by decide +kernel
theorem dX12_charter_164 : decode cX12_charter 164 = .ok (.iinc 9 1, 3) := by decide +kernel
theorem dX12_charter_167 : decode cX12_charter 167 = .ok (.goto (-76), 3) := by decide +kernel
theorem dX12_charter_170 : decode cX12_charter 170 = .ok (.aload_n 0, 1) := by decide +kernel
theorem dX12_charter_171 : decode cX12_charter 171 = .ok (.getfield 327, 3) := by decide +kernel
theorem dX12_charter_174 : decode cX12_charter 174 = .ok (.bipush 12, 2) := by decide +kernel
theorem dX12_charter_176 : decode cX12_charter 176 = .ok (.if_icmp .ne 6, 3) := by decide +kernel
theorem dX12_charter_179 : decode cX12_charter 179 = .ok (.bipush (-4), 2) := by decide +kernel
theorem dX12_charter_181 : decode cX12_charter 181 = .ok (.ireturn, 1) := by decide +kernel
theorem dX12_charter_182 : decode cX12_charter 182 = .ok (.aload_n 0, 1) := by decide +kernel
theorem dX12_charter_183 : decode cX12_charter 183 = .ok (.getfield 81, 3) := by decide +kernel
theorem dX12_charter_186 : decode cX12_charter 186 = .ok (.aload_n 0, 1) := by decide +kernel
theorem dX12_charter_187 : decode cX12_charter 187 = .ok (.getfield 327, 3) := by decide +kernel
theorem dX12_charter_190 : decode cX12_charter 190 = .ok (.iload_n 1, 1) := by decide +kernel
theorem dX12_charter_191 : decode cX12_charter 191 = .ok (.iastore, 1) := by decide +kernel
theorem dX12_charter_192 : decode cX12_charter 192 = .ok (.aload_n 0, 1) := by decide +kernel
theorem dX12_charter_193 : decode cX12_charter 193 = .ok (.getfield 84, 3) := by decide +kernel
theorem dX12_charter_196 : decode cX12_charter 196 = .ok (.aload_n 0, 1) := by decide +kernel
theorem dX12_charter_197 : decode cX12_charter 197 = .ok (.getfield 327, 3) := by decide +kernel
theorem dX12_charter_200 : decode cX12_charter 200 = .ok (.iload_n 2, 1) := by decide +kernel
theorem dX12_charter_201 : decode cX12_charter 201 = .ok (.iastore, 1) := by decide +kernel
theorem dX12_charter_202 : decode cX12_charter 202 = .ok (.aload_n 0, 1) := by decide +kernel
theorem dX12_charter_203 : decode cX12_charter 203 = .ok (.getfield 87, 3) := by decide +kernel
theorem dX12_charter_206 : decode cX12_charter 206 = .ok (.aload_n 0, 1) := by decide +kernel
theorem dX12_charter_207 : decode cX12_charter 207 = .ok (.getfield 327, 3) := by decide +kernel
theorem dX12_charter_210 : decode cX12_charter 210 = .ok (.iload_n 3, 1) := by decide +kernel
theorem dX12_charter_211 : decode cX12_charter 211 = .ok (.iastore, 1) := by decide +kernel
theorem dX12_charter_212 : decode cX12_charter 212 = .ok (.aload_n 0, 1) := by decide +kernel
theorem dX12_charter_213 : decode cX12_charter 213 = .ok (.getfield 90, 3) := by decide +kernel
theorem dX12_charter_216 : decode cX12_charter 216 = .ok (.aload_n 0, 1) := by decide +kernel
theorem dX12_charter_217 : decode cX12_charter 217 = .ok (.getfield 327, 3) := by decide +kernel
theorem dX12_charter_220 : decode cX12_charter 220 = .ok (.iload 4, 2) := by decide +kernel
theorem dX12_charter_222 : decode cX12_charter 222 = .ok (.iastore, 1) := by decide +kernel
theorem dX12_charter_223 : decode cX12_charter 223 = .ok (.aload_n 0, 1) := by decide +kernel
theorem dX12_charter_224 : decode cX12_charter 224 = .ok (.getfield 93, 3) := by decide +kernel
theorem dX12_charter_227 : decode cX12_charter 227 = .ok (.aload_n 0, 1) := by decide +kernel
theorem dX12_charter_228 : decode cX12_charter 228 = .ok (.getfield 327, 3) := by decide +kernel
theorem dX12_charter_231 : decode cX12_charter 231 = .ok (.iload 5, 2) := by decide +kernel
theorem dX12_charter_233 : decode cX12_charter 233 = .ok (.iastore, 1) := by decide +kernel
theorem dX12_charter_234 : decode cX12_charter 234 = .ok (.aload_n 0, 1) := by decide +kernel
theorem dX12_charter_235 : decode cX12_charter 235 = .ok (.getfield 96, 3) := by decide +kernel
theorem dX12_charter_238 : decode cX12_charter 238 = .ok (.aload_n 0, 1) := by decide +kernel
theorem dX12_charter_239 : decode cX12_charter 239 = .ok (.getfield 327, 3) := by decide +kernel
theorem dX12_charter_242 : decode cX12_charter 242 = .ok (.lload 6, 2) := by decide +kernel
theorem dX12_charter_244 : decode cX12_charter 244 = .ok (.ldc2_w 330, 3) := by decide +kernel
theorem dX12_charter_247 : decode cX12_charter 247 = .ok (.ldiv, 1) := by decide +kernel
theorem dX12_charter_248 : decode cX12_charter 248 = .ok (.l2i, 1) := by decide +kernel
theorem dX12_charter_249 : decode cX12_charter 249 = .ok (.iastore, 1) := by decide +kernel
theorem dX12_charter_250 : decode cX12_charter 250 = .ok (.aload_n 0, 1) := by decide +kernel
theorem dX12_charter_251 : decode cX12_charter 251 = .ok (.getfield 99, 3) := by decide +kernel
theorem dX12_charter_254 : decode cX12_charter 254 = .ok (.aload_n 0, 1) := by decide +kernel
theorem dX12_charter_255 : decode cX12_charter 255 = .ok (.getfield 327, 3) := by decide +kernel
theorem dX12_charter_258 : decode cX12_charter 258 = .ok (.lload 6, 2) := by decide +kernel
theorem dX12_charter_260 : decode cX12_charter 260 = .ok (.ldc2_w 337, 3) := by decide +kernel
theorem dX12_charter_263 : decode cX12_charter 263 = .ok (.ldiv, 1) := by decide +kernel
theorem dX12_charter_264 : decode cX12_charter 264 = .ok (.ldc2_w 337, 3) := by decide +kernel
theorem dX12_charter_267 : decode cX12_charter 267 = .ok (.lrem, 1) := by decide +kernel
theorem dX12_charter_268 : decode cX12_charter 268 = .ok (.l2i, 1) := by decide +kernel
theorem dX12_charter_269 : decode cX12_charter 269 = .ok (.iastore, 1) := by decide +kernel
theorem dX12_charter_270 : decode cX12_charter 270 = .ok (.aload_n 0, 1) := by decide +kernel
theorem dX12_charter_271 : decode cX12_charter 271 = .ok (.getfield 102, 3) := by decide +kernel
theorem dX12_charter_274 : decode cX12_charter 274 = .ok (.aload_n 0, 1) := by decide +kernel
theorem dX12_charter_275 : decode cX12_charter 275 = .ok (.getfield 327, 3) := by decide +kernel
theorem dX12_charter_278 : decode cX12_charter 278 = .ok (.lload 6, 2) := by decide +kernel
theorem dX12_charter_280 : decode cX12_charter 280 = .ok (.ldc2_w 337, 3) := by decide +kernel
theorem dX12_charter_283 : decode cX12_charter 283 = .ok (.lrem, 1) := by decide +kernel
theorem dX12_charter_284 : decode cX12_charter 284 = .ok (.l2i, 1) := by decide +kernel
theorem dX12_charter_285 : decode cX12_charter 285 = .ok (.iastore, 1) := by decide +kernel
theorem dX12_charter_286 : decode cX12_charter 286 = .ok (.aload_n 0, 1) := by decide +kernel
theorem dX12_charter_287 : decode cX12_charter 287 = .ok (.getfield 105, 3) := by decide +kernel
theorem dX12_charter_290 : decode cX12_charter 290 = .ok (.aload_n 0, 1) := by decide +kernel
theorem dX12_charter_291 : decode cX12_charter 291 = .ok (.getfield 327, 3) := by decide +kernel
theorem dX12_charter_294 : decode cX12_charter 294 = .ok (.iconst 0, 1) := by decide +kernel
theorem dX12_charter_295 : decode cX12_charter 295 = .ok (.iastore, 1) := by decide +kernel
theorem dX12_charter_296 : decode cX12_charter 296 = .ok (.aload_n 0, 1) := by decide +kernel
theorem dX12_charter_297 : decode cX12_charter 297 = .ok (.dup, 1) := by decide +kernel
theorem dX12_charter_298 : decode cX12_charter 298 = .ok (.getfield 327, 3) := by decide +kernel
theorem dX12_charter_301 : decode cX12_charter 301 = .ok (.iconst 1, 1) := by decide +kernel
theorem dX12_charter_302 : decode cX12_charter 302 = .ok (.iadd, 1) := by decide +kernel
theorem dX12_charter_303 : decode cX12_charter 303 = .ok (.putfield 327, 3) := by decide +kernel
theorem dX12_charter_306 : decode cX12_charter 306 = .ok (.aload_n 0, 1) := by decide +kernel
theorem dX12_charter_307 : decode cX12_charter 307 = .ok (.getfield 327, 3) := by decide +kernel
theorem dX12_charter_310 : decode cX12_charter 310 = .ok (.iconst 1, 1) := by decide +kernel
theorem dX12_charter_311 : decode cX12_charter 311 = .ok (.isub, 1) := by decide +kernel
theorem dX12_charter_312 : decode cX12_charter 312 = .ok (.ireturn, 1) := by decide +kernel
theorem dX12_lift_0 : decode cX12_lift 0 = .ok (.aload_n 0, 1) := by decide +kernel
theorem dX12_lift_1 : decode cX12_lift 1 = .ok (.iload_n 1, 1) := by decide +kernel
theorem dX12_lift_2 : decode cX12_lift 2 = .ok (.invokevirtual 339, 3) := by decide +kernel
theorem dX12_lift_5 : decode cX12_lift 5 = .ok (.ifCond .eq 13, 3) := by decide +kernel
theorem dX12_lift_8 : decode cX12_lift 8 = .ok (.aload_n 0, 1) := by decide +kernel
theorem dX12_lift_9 : decode cX12_lift 9 = .ok (.getfield 81, 3) := by decide +kernel
theorem dX12_lift_12 : decode cX12_lift 12 = .ok (.iload_n 1, 1) := by decide +kernel
theorem dX12_lift_13 : decode cX12_lift 13 = .ok (.iaload, 1) := by decide +kernel
theorem dX12_lift_14 : decode cX12_lift 14 = .ok (.iconst 5, 1) := by decide +kernel
theorem dX12_lift_15 : decode cX12_lift 15 = .ok (.if_icmp .eq 6, 3) := by decide +kernel
theorem dX12_lift_18 : decode cX12_lift 18 = .ok (.bipush (-2), 2) := by decide +kernel
theorem dX12_lift_20 : decode cX12_lift 20 = .ok (.ireturn, 1) := by decide +kernel
theorem dX12_lift_21 : decode cX12_lift 21 = .ok (.aload_n 0, 1) := by decide +kernel
theorem dX12_lift_22 : decode cX12_lift 22 = .ok (.getfield 105, 3) := by decide +kernel
theorem dX12_lift_25 : decode cX12_lift 25 = .ok (.iload_n 1, 1) := by decide +kernel
theorem dX12_lift_26 : decode cX12_lift 26 = .ok (.iaload, 1) := by decide +kernel
theorem dX12_lift_27 : decode cX12_lift 27 = .ok (.ifCond .eq 6, 3) := by decide +kernel
theorem dX12_lift_30 : decode cX12_lift 30 = .ok (.bipush (-3), 2) := by decide +kernel
theorem dX12_lift_32 : decode cX12_lift 32 = .ok (.ireturn, 1) := by decide +kernel
theorem dX12_lift_33 : decode cX12_lift 33 = .ok (.aload_n 0, 1) := by decide +kernel
theorem dX12_lift_34 : decode cX12_lift 34 = .ok (.getfield 105, 3) := by decide +kernel
theorem dX12_lift_37 : decode cX12_lift 37 = .ok (.iload_n 1, 1) := by decide +kernel
theorem dX12_lift_38 : decode cX12_lift 38 = .ok (.iload_n 2, 1) := by decide +kernel
theorem dX12_lift_39 : decode cX12_lift 39 = .ok (.ifCond .eq 7, 3) := by decide +kernel
theorem dX12_lift_42 : decode cX12_lift 42 = .ok (.iconst 1, 1) := by decide +kernel
theorem dX12_lift_43 : decode cX12_lift 43 = .ok (.goto 4, 3) := by decide +kernel
theorem dX12_lift_46 : decode cX12_lift 46 = .ok (.iconst 2, 1) := by decide +kernel
theorem dX12_lift_47 : decode cX12_lift 47 = .ok (.iastore, 1) := by decide +kernel
theorem dX12_lift_48 : decode cX12_lift 48 = .ok (.iconst 1, 1) := by decide +kernel
theorem dX12_lift_49 : decode cX12_lift 49 = .ok (.ireturn, 1) := by decide +kernel
theorem dX12_looks_0 : decode cX12_looks 0 = .ok (.aload_n 0, 1) := by decide +kernel
theorem dX12_looks_1 : decode cX12_looks 1 = .ok (.iconst 0, 1) := by decide +kernel
theorem dX12_looks_2 : decode cX12_looks 2 = .ok (.putfield 342, 3) := by decide +kernel
theorem dX12_looks_5 : decode cX12_looks 5 = .ok (.aload_n 0, 1) := by decide +kernel
theorem dX12_looks_6 : decode cX12_looks 6 = .ok (.iconst 0, 1) := by decide +kernel
theorem dX12_looks_7 : decode cX12_looks 7 = .ok (.putfield 345, 3) := by decide +kernel
theorem dX12_looks_10 : decode cX12_looks 10 = .ok (.aload_n 0, 1) := by decide +kernel
theorem dX12_looks_11 : decode cX12_looks 11 = .ok (.iconst 0, 1) := by decide +kernel
theorem dX12_looks_12 : decode cX12_looks 12 = .ok (.putfield 348, 3) := by decide +kernel
theorem dX12_looks_15 : decode cX12_looks 15 = .ok (.iconst (-1), 1) := by decide +kernel
theorem dX12_looks_16 : decode cX12_looks 16 = .ok (.istore_n 3, 1) := by decide +kernel
theorem dX12_looks_17 : decode cX12_looks 17 = .ok (.aload_n 0, 1) := by decide +kernel
theorem dX12_looks_18 : decode cX12_looks 18 = .ok (.getfield 87, 3) := by decide +kernel
theorem dX12_looks_21 : decode cX12_looks 21 = .ok (.iload_n 1, 1) := by decide +kernel
theorem dX12_looks_22 : decode cX12_looks 22 = .ok (.iaload, 1) := by decide +kernel
theorem dX12_looks_23 : decode cX12_looks 23 = .ok (.istore 4, 2) := by decide +kernel
theorem dX12_looks_25 : decode cX12_looks 25 = .ok (.iload 4, 2) := by decide +kernel
theorem dX12_looks_27 : decode cX12_looks 27 = .ok (.aload_n 0, 1) := by decide +kernel
theorem dX12_looks_28 : decode cX12_looks 28 = .ok (.getfield 90, 3) := by decide +kernel
theorem dX12_looks_31 : decode cX12_looks 31 = .ok (.iload_n 1, 1) := by decide +kernel
theorem dX12_looks_32 : decode cX12_looks 32 = .ok (.iaload, 1) := by decide +kernel
theorem dX12_looks_33 : decode cX12_looks 33 = .ok (.if_icmp .gt 137, 3) := by decide +kernel
theorem dX12_looks_36 : decode cX12_looks 36 = .ok (.iload 4, 2) := by decide +kernel
theorem dX12_looks_38 : decode cX12_looks 38 = .ok (.iload_n 2, 1) := by decide +kernel
theorem dX12_looks_39 : decode cX12_looks 39 = .ok (.if_icmp .gt 131, 3) := by decide +kernel
theorem dX12_looks_42 : decode cX12_looks 42 = .ok (.iload 4, 2) := by decide +kernel
theorem dX12_looks_44 : decode cX12_looks 44 = .ok (.aload_n 0, 1) := by decide +kernel
theorem dX12_looks_45 : decode cX12_looks 45 = .ok (.getfield 37, 3) := by decide +kernel
theorem dX12_looks_48 : decode cX12_looks 48 = .ok (.aload_n 0, 1) := by decide +kernel
theorem dX12_looks_49 : decode cX12_looks 49 = .ok (.getfield 84, 3) := by decide +kernel
theorem dX12_looks_52 : decode cX12_looks 52 = .ok (.iload_n 1, 1) := by decide +kernel
theorem dX12_looks_53 : decode cX12_looks 53 = .ok (.iaload, 1) := by decide +kernel
theorem dX12_looks_54 : decode cX12_looks 54 = .ok (.iaload, 1) := by decide +kernel
theorem dX12_looks_55 : decode cX12_looks 55 = .ok (.if_icmp .ge 115, 3) := by decide +kernel
theorem dX12_looks_58 : decode cX12_looks 58 = .ok (.aload_n 0, 1) := by decide +kernel
theorem dX12_looks_59 : decode cX12_looks 59 = .ok (.getfield 105, 3) := by decide +kernel
theorem dX12_looks_62 : decode cX12_looks 62 = .ok (.iload_n 1, 1) := by decide +kernel
theorem dX12_looks_63 : decode cX12_looks 63 = .ok (.iaload, 1) := by decide +kernel
theorem dX12_looks_64 : decode cX12_looks 64 = .ok (.iconst 2, 1) := by decide +kernel
theorem dX12_looks_65 : decode cX12_looks 65 = .ok (.if_icmp .eq 105, 3) := by decide +kernel
theorem dX12_looks_68 : decode cX12_looks 68 = .ok (.aload_n 0, 1) := by decide +kernel
theorem dX12_looks_69 : decode cX12_looks 69 = .ok (.iconst 0, 1) := by decide +kernel
theorem dX12_looks_70 : decode cX12_looks 70 = .ok (.iload_n 1, 1) := by decide +kernel
theorem dX12_looks_71 : decode cX12_looks 71 = .ok (.iload 4, 2) := by decide +kernel
theorem dX12_looks_73 : decode cX12_looks 73 = .ok (.aload_n 0, 1) := by decide +kernel
theorem dX12_looks_74 : decode cX12_looks 74 = .ok (.getfield 342, 3) := by decide +kernel
theorem dX12_looks_77 : decode cX12_looks 77 = .ok (.invokevirtual 351, 3) := by decide +kernel
theorem dX12_looks_80 : decode cX12_looks 80 = .ok (.ifCond .eq 7, 3) := by decide +kernel
theorem dX12_looks_83 : decode cX12_looks 83 = .ok (.iconst 0, 1) := by decide +kernel
theorem dX12_looks_84 : decode cX12_looks 84 = .ok (.goto 23, 3) := by decide +kernel
theorem dX12_looks_87 : decode cX12_looks 87 = .ok (.aload_n 0, 1) := by decide +kernel
theorem dX12_looks_88 : decode cX12_looks 88 = .ok (.iconst 1, 1) := by decide +kernel
theorem dX12_looks_89 : decode cX12_looks 89 = .ok (.iload_n 1, 1) := by decide +kernel
theorem dX12_looks_90 : decode cX12_looks 90 = .ok (.iload 4, 2) := by decide +kernel
theorem dX12_looks_92 : decode cX12_looks 92 = .ok (.aload_n 0, 1) := by decide +kernel
theorem dX12_looks_93 : decode cX12_looks 93 = .ok (.getfield 342, 3) := by decide +kernel
theorem dX12_looks_96 : decode cX12_looks 96 = .ok (.invokevirtual 351, 3) := by decide +kernel
theorem dX12_looks_99 : decode cX12_looks 99 = .ok (.ifCond .eq 7, 3) := by decide +kernel
theorem dX12_looks_102 : decode cX12_looks 102 = .ok (.iconst 1, 1) := by decide +kernel
theorem dX12_looks_103 : decode cX12_looks 103 = .ok (.goto 4, 3) := by decide +kernel
theorem dX12_looks_106 : decode cX12_looks 106 = .ok (.iconst 2, 1) := by decide +kernel
theorem dX12_looks_107 : decode cX12_looks 107 = .ok (.istore_n 3, 1) := by decide +kernel
theorem dX12_looks_108 : decode cX12_looks 108 = .ok (.aload_n 0, 1) := by decide +kernel
theorem dX12_looks_109 : decode cX12_looks 109 = .ok (.dup, 1) := by decide +kernel
theorem dX12_looks_110 : decode cX12_looks 110 = .ok (.getfield 342, 3) := by decide +kernel
theorem dX12_looks_113 : decode cX12_looks 113 = .ok (.iload_n 3, 1) := by decide +kernel
theorem dX12_looks_114 : decode cX12_looks 114 = .ok (.ifCond .ne 7, 3) := by decide +kernel
theorem dX12_looks_117 : decode cX12_looks 117 = .ok (.iconst 1, 1) := by decide +kernel
theorem dX12_looks_118 : decode cX12_looks 118 = .ok (.goto 4, 3) := by decide +kernel
theorem dX12_looks_121 : decode cX12_looks 121 = .ok (.iconst 0, 1) := by decide +kernel
theorem dX12_looks_122 : decode cX12_looks 122 = .ok (.iadd, 1) := by decide +kernel
theorem dX12_looks_123 : decode cX12_looks 123 = .ok (.putfield 342, 3) := by decide +kernel
theorem dX12_looks_126 : decode cX12_looks 126 = .ok (.aload_n 0, 1) := by decide +kernel
theorem dX12_looks_127 : decode cX12_looks 127 = .ok (.dup, 1) := by decide +kernel
theorem dX12_looks_128 : decode cX12_looks 128 = .ok (.getfield 345, 3) := by decide +kernel
theorem dX12_looks_131 : decode cX12_looks 131 = .ok (.iload_n 3, 1) := by decide +kernel
theorem dX12_looks_132 : decode cX12_looks 132 = .ok (.iconst 1, 1) := by decide +kernel
theorem dX12_looks_133 : decode cX12_looks 133 = .ok (.if_icmp .ne 7, 3) := by decide +kernel
theorem dX12_looks_136 : decode cX12_looks 136 = .ok (.iconst 1, 1) := by decide +kernel
theorem dX12_looks_137 : decode cX12_looks 137 = .ok (.goto 4, 3) := by decide +kernel
theorem dX12_looks_140 : decode cX12_looks 140 = .ok (.iconst 0, 1) := by decide +kernel
theorem dX12_looks_141 : decode cX12_looks 141 = .ok (.iadd, 1) := by decide +kernel
theorem dX12_looks_142 : decode cX12_looks 142 = .ok (.putfield 345, 3) := by decide +kernel
theorem dX12_looks_145 : decode cX12_looks 145 = .ok (.aload_n 0, 1) := by decide +kernel
theorem dX12_looks_146 : decode cX12_looks 146 = .ok (.dup, 1) := by decide +kernel
theorem dX12_looks_147 : decode cX12_looks 147 = .ok (.getfield 348, 3) := by decide +kernel
theorem dX12_looks_150 : decode cX12_looks 150 = .ok (.iload_n 3, 1) := by decide +kernel
theorem dX12_looks_151 : decode cX12_looks 151 = .ok (.iconst 2, 1) := by decide +kernel
theorem dX12_looks_152 : decode cX12_looks 152 = .ok (.if_icmp .ne 7, 3) := by decide +kernel
theorem dX12_looks_155 : decode cX12_looks 155 = .ok (.iconst 1, 1) := by decide +kernel
theorem dX12_looks_156 : decode cX12_looks 156 = .ok (.goto 4, 3) := by decide +kernel
theorem dX12_looks_159 : decode cX12_looks 159 = .ok (.iconst 0, 1) := by decide +kernel
theorem dX12_looks_160 : decode cX12_looks 160 = .ok (.iadd, 1) := by decide +kernel
theorem dX12_looks_161 : decode cX12_looks 161 = .ok (.putfield 348, 3) := by decide +kernel
theorem dX12_looks_164 : decode cX12_looks 164 = .ok (.iinc 4 1, 3) := by decide +kernel
theorem dX12_looks_167 : decode cX12_looks 167 = .ok (.goto (-142), 3) := by decide +kernel
theorem dX12_looks_170 : decode cX12_looks 170 = .ok (.iload_n 3, 1) := by decide +kernel
theorem dX12_looks_171 : decode cX12_looks 171 = .ok (.ireturn, 1) := by decide +kernel
theorem dX12_charterTold_0 : decode cX12_charterTold 0 = .ok (.aload_n 0, 1) := by decide +kernel
theorem dX12_charterTold_1 : decode cX12_charterTold 1 = .ok (.iload_n 1, 1) := by decide +kernel
theorem dX12_charterTold_2 : decode cX12_charterTold 2 = .ok (.invokevirtual 339, 3) := by decide +kernel
theorem dX12_charterTold_5 : decode cX12_charterTold 5 = .ok (.ifCond .eq 13, 3) := by decide +kernel
theorem dX12_charterTold_8 : decode cX12_charterTold 8 = .ok (.iload_n 2, 1) := by decide +kernel
theorem dX12_charterTold_9 : decode cX12_charterTold 9 = .ok (.iconst 0, 1) := by decide +kernel
theorem dX12_charterTold_10 : decode cX12_charterTold 10 = .ok (.bipush 8, 2) := by decide +kernel
theorem dX12_charterTold_12 : decode cX12_charterTold 12 = .ok (.invokestatic 149, 3) := by decide +kernel
theorem dX12_charterTold_15 : decode cX12_charterTold 15 = .ok (.ifCond .ne 6, 3) := by decide +kernel
theorem dX12_charterTold_18 : decode cX12_charterTold 18 = .ok (.bipush (-2), 2) := by decide +kernel
theorem dX12_charterTold_20 : decode cX12_charterTold 20 = .ok (.ireturn, 1) := by decide +kernel
theorem dX12_charterTold_21 : decode cX12_charterTold 21 = .ok (.aload_n 0, 1) := by decide +kernel
theorem dX12_charterTold_22 : decode cX12_charterTold 22 = .ok (.iload_n 1, 1) := by decide +kernel
theorem dX12_charterTold_23 : decode cX12_charterTold 23 = .ok (.sipush 9999, 3) := by decide +kernel
theorem dX12_charterTold_26 : decode cX12_charterTold 26 = .ok (.invokevirtual 354, 3) := by decide +kernel
theorem dX12_charterTold_29 : decode cX12_charterTold 29 = .ok (.istore_n 3, 1) := by decide +kernel
theorem dX12_charterTold_30 : decode cX12_charterTold 30 = .ok (.iload_n 2, 1) := by decide +kernel
theorem dX12_charterTold_31 : decode cX12_charterTold 31 = .ok (.tableswitch 95 0 7 #[45, 52, 59, 66, 73, 80, 85, 90], 45) := by decide +kernel
theorem dX12_charterTold_76 : decode cX12_charterTold 76 = .ok (.aload_n 0, 1) := by decide +kernel
theorem dX12_charterTold_77 : decode cX12_charterTold 77 = .ok (.getfield 81, 3) := by decide +kernel
theorem dX12_charterTold_80 : decode cX12_charterTold 80 = .ok (.iload_n 1, 1) := by decide +kernel
theorem dX12_charterTold_81 : decode cX12_charterTold 81 = .ok (.iaload, 1) := by decide +kernel
theorem dX12_charterTold_82 : decode cX12_charterTold 82 = .ok (.ireturn, 1) := by decide +kernel
theorem dX12_charterTold_83 : decode cX12_charterTold 83 = .ok (.aload_n 0, 1) := by decide +kernel
theorem dX12_charterTold_84 : decode cX12_charterTold 84 = .ok (.getfield 84, 3) := by decide +kernel
theorem dX12_charterTold_87 : decode cX12_charterTold 87 = .ok (.iload_n 1, 1) := by decide +kernel
theorem dX12_charterTold_88 : decode cX12_charterTold 88 = .ok (.iaload, 1) := by decide +kernel
theorem dX12_charterTold_89 : decode cX12_charterTold 89 = .ok (.ireturn, 1) := by decide +kernel
theorem dX12_charterTold_90 : decode cX12_charterTold 90 = .ok (.aload_n 0, 1) := by decide +kernel
theorem dX12_charterTold_91 : decode cX12_charterTold 91 = .ok (.getfield 87, 3) := by decide +kernel
theorem dX12_charterTold_94 : decode cX12_charterTold 94 = .ok (.iload_n 1, 1) := by decide +kernel
theorem dX12_charterTold_95 : decode cX12_charterTold 95 = .ok (.iaload, 1) := by decide +kernel
theorem dX12_charterTold_96 : decode cX12_charterTold 96 = .ok (.ireturn, 1) := by decide +kernel
theorem dX12_charterTold_97 : decode cX12_charterTold 97 = .ok (.aload_n 0, 1) := by decide +kernel
theorem dX12_charterTold_98 : decode cX12_charterTold 98 = .ok (.getfield 90, 3) := by decide +kernel
theorem dX12_charterTold_101 : decode cX12_charterTold 101 = .ok (.iload_n 1, 1) := by decide +kernel
theorem dX12_charterTold_102 : decode cX12_charterTold 102 = .ok (.iaload, 1) := by decide +kernel
theorem dX12_charterTold_103 : decode cX12_charterTold 103 = .ok (.ireturn, 1) := by decide +kernel
theorem dX12_charterTold_104 : decode cX12_charterTold 104 = .ok (.aload_n 0, 1) := by decide +kernel
theorem dX12_charterTold_105 : decode cX12_charterTold 105 = .ok (.getfield 93, 3) := by decide +kernel
theorem dX12_charterTold_108 : decode cX12_charterTold 108 = .ok (.iload_n 1, 1) := by decide +kernel
theorem dX12_charterTold_109 : decode cX12_charterTold 109 = .ok (.iaload, 1) := by decide +kernel
theorem dX12_charterTold_110 : decode cX12_charterTold 110 = .ok (.ireturn, 1) := by decide +kernel
theorem dX12_charterTold_111 : decode cX12_charterTold 111 = .ok (.aload_n 0, 1) := by decide +kernel
theorem dX12_charterTold_112 : decode cX12_charterTold 112 = .ok (.getfield 342, 3) := by decide +kernel
theorem dX12_charterTold_115 : decode cX12_charterTold 115 = .ok (.ireturn, 1) := by decide +kernel
theorem dX12_charterTold_116 : decode cX12_charterTold 116 = .ok (.aload_n 0, 1) := by decide +kernel
theorem dX12_charterTold_117 : decode cX12_charterTold 117 = .ok (.getfield 345, 3) := by decide +kernel
theorem dX12_charterTold_120 : decode cX12_charterTold 120 = .ok (.ireturn, 1) := by decide +kernel
theorem dX12_charterTold_121 : decode cX12_charterTold 121 = .ok (.aload_n 0, 1) := by decide +kernel
theorem dX12_charterTold_122 : decode cX12_charterTold 122 = .ok (.getfield 348, 3) := by decide +kernel
theorem dX12_charterTold_125 : decode cX12_charterTold 125 = .ok (.ireturn, 1) := by decide +kernel
theorem dX12_charterTold_126 : decode cX12_charterTold 126 = .ok (.aload_n 0, 1) := by decide +kernel
theorem dX12_charterTold_127 : decode cX12_charterTold 127 = .ok (.getfield 105, 3) := by decide +kernel
theorem dX12_charterTold_130 : decode cX12_charterTold 130 = .ok (.iload_n 1, 1) := by decide +kernel
theorem dX12_charterTold_131 : decode cX12_charterTold 131 = .ok (.iaload, 1) := by decide +kernel
theorem dX12_charterTold_132 : decode cX12_charterTold 132 = .ok (.ireturn, 1) := by decide +kernel
theorem dX12_voyage_0 : decode cX12_voyage 0 = .ok (.aload_n 0, 1) := by decide +kernel
theorem dX12_voyage_1 : decode cX12_voyage 1 = .ok (.getfield 99, 3) := by decide +kernel
theorem dX12_voyage_4 : decode cX12_voyage 4 = .ok (.iload_n 1, 1) := by decide +kernel
theorem dX12_voyage_5 : decode cX12_voyage 5 = .ok (.iaload, 1) := by decide +kernel
theorem dX12_voyage_6 : decode cX12_voyage 6 = .ok (.i2l, 1) := by decide +kernel
theorem dX12_voyage_7 : decode cX12_voyage 7 = .ok (.lstore_n 2, 1) := by decide +kernel
theorem dX12_voyage_8 : decode cX12_voyage 8 = .ok (.aload_n 0, 1) := by decide +kernel
theorem dX12_voyage_9 : decode cX12_voyage 9 = .ok (.getfield 96, 3) := by decide +kernel
theorem dX12_voyage_12 : decode cX12_voyage 12 = .ok (.iload_n 1, 1) := by decide +kernel
theorem dX12_voyage_13 : decode cX12_voyage 13 = .ok (.iaload, 1) := by decide +kernel
theorem dX12_voyage_14 : decode cX12_voyage 14 = .ok (.i2l, 1) := by decide +kernel
theorem dX12_voyage_15 : decode cX12_voyage 15 = .ok (.aload_n 0, 1) := by decide +kernel
theorem dX12_voyage_16 : decode cX12_voyage 16 = .ok (.getfield 342, 3) := by decide +kernel
theorem dX12_voyage_19 : decode cX12_voyage 19 = .ok (.aload_n 0, 1) := by decide +kernel
theorem dX12_voyage_20 : decode cX12_voyage 20 = .ok (.getfield 102, 3) := by decide +kernel
theorem dX12_voyage_23 : decode cX12_voyage 23 = .ok (.iload_n 1, 1) := by decide +kernel
theorem dX12_voyage_24 : decode cX12_voyage 24 = .ok (.iaload, 1) := by decide +kernel
theorem dX12_voyage_25 : decode cX12_voyage 25 = .ok (.if_icmp .le 20, 3) := by decide +kernel
theorem dX12_voyage_28 : decode cX12_voyage 28 = .ok (.lload_n 2, 1) := by decide +kernel
theorem dX12_voyage_29 : decode cX12_voyage 29 = .ok (.aload_n 0, 1) := by decide +kernel
theorem dX12_voyage_30 : decode cX12_voyage 30 = .ok (.getfield 342, 3) := by decide +kernel
theorem dX12_voyage_33 : decode cX12_voyage 33 = .ok (.aload_n 0, 1) := by decide +kernel
theorem dX12_voyage_34 : decode cX12_voyage 34 = .ok (.getfield 102, 3) := by decide +kernel
theorem dX12_voyage_37 : decode cX12_voyage 37 = .ok (.iload_n 1, 1) := by decide +kernel
theorem dX12_voyage_38 : decode cX12_voyage 38 = .ok (.iaload, 1) := by decide +kernel
theorem dX12_voyage_39 : decode cX12_voyage 39 = .ok (.isub, 1) := by decide +kernel
theorem dX12_voyage_40 : decode cX12_voyage 40 = .ok (.i2l, 1) := by decide +kernel
theorem dX12_voyage_41 : decode cX12_voyage 41 = .ok (.lmul, 1) := by decide +kernel
theorem dX12_voyage_42 : decode cX12_voyage 42 = .ok (.goto 4, 3) := by decide +kernel
theorem dX12_voyage_45 : decode cX12_voyage 45 = .ok (.lconst 0, 1) := by decide +kernel
theorem dX12_voyage_46 : decode cX12_voyage 46 = .ok (.ladd, 1) := by decide +kernel
theorem dX12_voyage_47 : decode cX12_voyage 47 = .ok (.aload_n 0, 1) := by decide +kernel
theorem dX12_voyage_48 : decode cX12_voyage 48 = .ok (.getfield 342, 3) := by decide +kernel
theorem dX12_voyage_51 : decode cX12_voyage 51 = .ok (.aload_n 0, 1) := by decide +kernel
theorem dX12_voyage_52 : decode cX12_voyage 52 = .ok (.getfield 102, 3) := by decide +kernel
theorem dX12_voyage_55 : decode cX12_voyage 55 = .ok (.iload_n 1, 1) := by decide +kernel
theorem dX12_voyage_56 : decode cX12_voyage 56 = .ok (.iaload, 1) := by decide +kernel
theorem dX12_voyage_57 : decode cX12_voyage 57 = .ok (.if_icmp .ge 24, 3) := by decide +kernel
theorem dX12_voyage_60 : decode cX12_voyage 60 = .ok (.lload_n 2, 1) := by decide +kernel
theorem dX12_voyage_61 : decode cX12_voyage 61 = .ok (.ldc2_w 357, 3) := by decide +kernel
theorem dX12_voyage_64 : decode cX12_voyage 64 = .ok (.ldiv, 1) := by decide +kernel
theorem dX12_voyage_65 : decode cX12_voyage 65 = .ok (.aload_n 0, 1) := by decide +kernel
theorem dX12_voyage_66 : decode cX12_voyage 66 = .ok (.getfield 102, 3) := by decide +kernel
theorem dX12_voyage_69 : decode cX12_voyage 69 = .ok (.iload_n 1, 1) := by decide +kernel
theorem dX12_voyage_70 : decode cX12_voyage 70 = .ok (.iaload, 1) := by decide +kernel
theorem dX12_voyage_71 : decode cX12_voyage 71 = .ok (.aload_n 0, 1) := by decide +kernel
theorem dX12_voyage_72 : decode cX12_voyage 72 = .ok (.getfield 342, 3) := by decide +kernel
theorem dX12_voyage_75 : decode cX12_voyage 75 = .ok (.isub, 1) := by decide +kernel
theorem dX12_voyage_76 : decode cX12_voyage 76 = .ok (.i2l, 1) := by decide +kernel
theorem dX12_voyage_77 : decode cX12_voyage 77 = .ok (.lmul, 1) := by decide +kernel
theorem dX12_voyage_78 : decode cX12_voyage 78 = .ok (.goto 4, 3) := by decide +kernel
theorem dX12_voyage_81 : decode cX12_voyage 81 = .ok (.lconst 0, 1) := by decide +kernel
theorem dX12_voyage_82 : decode cX12_voyage 82 = .ok (.lsub, 1) := by decide +kernel
theorem dX12_voyage_83 : decode cX12_voyage 83 = .ok (.lreturn, 1) := by decide +kernel
theorem dX12_pays_0 : decode cX12_pays 0 = .ok (.aload_n 0, 1) := by decide +kernel
theorem dX12_pays_1 : decode cX12_pays 1 = .ok (.iload_n 1, 1) := by decide +kernel
theorem dX12_pays_2 : decode cX12_pays 2 = .ok (.invokevirtual 339, 3) := by decide +kernel
theorem dX12_pays_5 : decode cX12_pays 5 = .ok (.ifCond .ne 7, 3) := by decide +kernel
theorem dX12_pays_8 : decode cX12_pays 8 = .ok (.ldc2_w 197, 3) := by decide +kernel
theorem dX12_pays_11 : decode cX12_pays 11 = .ok (.lreturn, 1) := by decide +kernel
theorem dX12_pays_12 : decode cX12_pays 12 = .ok (.aload_n 0, 1) := by decide +kernel
theorem dX12_pays_13 : decode cX12_pays 13 = .ok (.iload_n 1, 1) := by decide +kernel
theorem dX12_pays_14 : decode cX12_pays 14 = .ok (.sipush 9999, 3) := by decide +kernel
theorem dX12_pays_17 : decode cX12_pays 17 = .ok (.invokevirtual 354, 3) := by decide +kernel
theorem dX12_pays_20 : decode cX12_pays 20 = .ok (.istore_n 2, 1) := by decide +kernel
theorem dX12_pays_21 : decode cX12_pays 21 = .ok (.aload_n 0, 1) := by decide +kernel
theorem dX12_pays_22 : decode cX12_pays 22 = .ok (.getfield 99, 3) := by decide +kernel
theorem dX12_pays_25 : decode cX12_pays 25 = .ok (.iload_n 1, 1) := by decide +kernel
theorem dX12_pays_26 : decode cX12_pays 26 = .ok (.iaload, 1) := by decide +kernel
theorem dX12_pays_27 : decode cX12_pays 27 = .ok (.i2l, 1) := by decide +kernel
theorem dX12_pays_28 : decode cX12_pays 28 = .ok (.aload_n 0, 1) := by decide +kernel
theorem dX12_pays_29 : decode cX12_pays 29 = .ok (.getfield 342, 3) := by decide +kernel
theorem dX12_pays_32 : decode cX12_pays 32 = .ok (.aload_n 0, 1) := by decide +kernel
theorem dX12_pays_33 : decode cX12_pays 33 = .ok (.getfield 348, 3) := by decide +kernel
theorem dX12_pays_36 : decode cX12_pays 36 = .ok (.iadd, 1) := by decide +kernel
theorem dX12_pays_37 : decode cX12_pays 37 = .ok (.i2l, 1) := by decide +kernel
theorem dX12_pays_38 : decode cX12_pays 38 = .ok (.lmul, 1) := by decide +kernel
theorem dX12_pays_39 : decode cX12_pays 39 = .ok (.lstore_n 3, 1) := by decide +kernel
theorem dX12_pays_40 : decode cX12_pays 40 = .ok (.aload_n 0, 1) := by decide +kernel
theorem dX12_pays_41 : decode cX12_pays 41 = .ok (.getfield 81, 3) := by decide +kernel
theorem dX12_pays_44 : decode cX12_pays 44 = .ok (.iload_n 1, 1) := by decide +kernel
theorem dX12_pays_45 : decode cX12_pays 45 = .ok (.iaload, 1) := by decide +kernel
theorem dX12_pays_46 : decode cX12_pays 46 = .ok (.tableswitch 78 1 5 #[34, 36, 46, 56, 58], 34) := by decide +kernel
theorem dX12_pays_80 : decode cX12_pays 80 = .ok (.lload_n 3, 1) := by decide +kernel
theorem dX12_pays_81 : decode cX12_pays 81 = .ok (.lreturn, 1) := by decide +kernel
theorem dX12_pays_82 : decode cX12_pays 82 = .ok (.lload_n 3, 1) := by decide +kernel
theorem dX12_pays_83 : decode cX12_pays 83 = .ok (.aload_n 0, 1) := by decide +kernel
theorem dX12_pays_84 : decode cX12_pays 84 = .ok (.getfield 96, 3) := by decide +kernel
theorem dX12_pays_87 : decode cX12_pays 87 = .ok (.iload_n 1, 1) := by decide +kernel
theorem dX12_pays_88 : decode cX12_pays 88 = .ok (.iaload, 1) := by decide +kernel
theorem dX12_pays_89 : decode cX12_pays 89 = .ok (.i2l, 1) := by decide +kernel
theorem dX12_pays_90 : decode cX12_pays 90 = .ok (.ladd, 1) := by decide +kernel
theorem dX12_pays_91 : decode cX12_pays 91 = .ok (.lreturn, 1) := by decide +kernel
theorem dX12_pays_92 : decode cX12_pays 92 = .ok (.ldc2_w 357, 3) := by decide +kernel
theorem dX12_pays_95 : decode cX12_pays 95 = .ok (.aload_n 0, 1) := by decide +kernel
theorem dX12_pays_96 : decode cX12_pays 96 = .ok (.iload_n 1, 1) := by decide +kernel
theorem dX12_pays_97 : decode cX12_pays 97 = .ok (.invokevirtual 359, 3) := by decide +kernel
theorem dX12_pays_100 : decode cX12_pays 100 = .ok (.lmul, 1) := by decide +kernel
theorem dX12_pays_101 : decode cX12_pays 101 = .ok (.lreturn, 1) := by decide +kernel
theorem dX12_pays_102 : decode cX12_pays 102 = .ok (.lconst 0, 1) := by decide +kernel
theorem dX12_pays_103 : decode cX12_pays 103 = .ok (.lreturn, 1) := by decide +kernel
theorem dX12_pays_104 : decode cX12_pays 104 = .ok (.aload_n 0, 1) := by decide +kernel
theorem dX12_pays_105 : decode cX12_pays 105 = .ok (.getfield 105, 3) := by decide +kernel
theorem dX12_pays_108 : decode cX12_pays 108 = .ok (.iload_n 1, 1) := by decide +kernel
theorem dX12_pays_109 : decode cX12_pays 109 = .ok (.iaload, 1) := by decide +kernel
theorem dX12_pays_110 : decode cX12_pays 110 = .ok (.iconst 1, 1) := by decide +kernel
theorem dX12_pays_111 : decode cX12_pays 111 = .ok (.if_icmp .ne 11, 3) := by decide +kernel
theorem dX12_pays_114 : decode cX12_pays 114 = .ok (.aload_n 0, 1) := by decide +kernel
theorem dX12_pays_115 : decode cX12_pays 115 = .ok (.iload_n 1, 1) := by decide +kernel
theorem dX12_pays_116 : decode cX12_pays 116 = .ok (.invokevirtual 359, 3) := by decide +kernel
theorem dX12_pays_119 : decode cX12_pays 119 = .ok (.goto 4, 3) := by decide +kernel
theorem dX12_pays_122 : decode cX12_pays 122 = .ok (.lconst 0, 1) := by decide +kernel
theorem dX12_pays_123 : decode cX12_pays 123 = .ok (.lreturn, 1) := by decide +kernel
theorem dX12_pays_124 : decode cX12_pays 124 = .ok (.aload_n 0, 1) := by decide +kernel
theorem dX12_pays_125 : decode cX12_pays 125 = .ok (.iload_n 1, 1) := by decide +kernel
theorem dX12_pays_126 : decode cX12_pays 126 = .ok (.invokevirtual 359, 3) := by decide +kernel
theorem dX12_pays_129 : decode cX12_pays 129 = .ok (.lreturn, 1) := by decide +kernel
theorem dX12_counts_0 : decode cX12_counts 0 = .ok (.aload_n 0, 1) := by decide +kernel
theorem dX12_counts_1 : decode cX12_counts 1 = .ok (.iload_n 1, 1) := by decide +kernel
theorem dX12_counts_2 : decode cX12_counts 2 = .ok (.invokevirtual 339, 3) := by decide +kernel
theorem dX12_counts_5 : decode cX12_counts 5 = .ok (.ifCond .ne 6, 3) := by decide +kernel
theorem dX12_counts_8 : decode cX12_counts 8 = .ok (.bipush (-2), 2) := by decide +kernel
theorem dX12_counts_10 : decode cX12_counts 10 = .ok (.ireturn, 1) := by decide +kernel
theorem dX12_counts_11 : decode cX12_counts 11 = .ok (.aload_n 0, 1) := by decide +kernel
theorem dX12_counts_12 : decode cX12_counts 12 = .ok (.iload_n 1, 1) := by decide +kernel
theorem dX12_counts_13 : decode cX12_counts 13 = .ok (.aload_n 0, 1) := by decide +kernel
theorem dX12_counts_14 : decode cX12_counts 14 = .ok (.getfield 84, 3) := by decide +kernel
theorem dX12_counts_17 : decode cX12_counts 17 = .ok (.iload_n 1, 1) := by decide +kernel
theorem dX12_counts_18 : decode cX12_counts 18 = .ok (.iaload, 1) := by decide +kernel
theorem dX12_counts_19 : decode cX12_counts 19 = .ok (.iload_n 2, 1) := by decide +kernel
theorem dX12_counts_20 : decode cX12_counts 20 = .ok (.invokevirtual 334, 3) := by decide +kernel
theorem dX12_counts_23 : decode cX12_counts 23 = .ok (.ifCond .eq 18, 3) := by decide +kernel
theorem dX12_counts_26 : decode cX12_counts 26 = .ok (.iload_n 2, 1) := by decide +kernel
theorem dX12_counts_27 : decode cX12_counts 27 = .ok (.aload_n 0, 1) := by decide +kernel
theorem dX12_counts_28 : decode cX12_counts 28 = .ok (.getfield 37, 3) := by decide +kernel
theorem dX12_counts_31 : decode cX12_counts 31 = .ok (.aload_n 0, 1) := by decide +kernel
theorem dX12_counts_32 : decode cX12_counts 32 = .ok (.getfield 84, 3) := by decide +kernel
theorem dX12_counts_35 : decode cX12_counts 35 = .ok (.iload_n 1, 1) := by decide +kernel
theorem dX12_counts_36 : decode cX12_counts 36 = .ok (.iaload, 1) := by decide +kernel
theorem dX12_counts_37 : decode cX12_counts 37 = .ok (.iaload, 1) := by decide +kernel
theorem dX12_counts_38 : decode cX12_counts 38 = .ok (.if_icmp .lt 5, 3) := by decide +kernel
theorem dX12_counts_41 : decode cX12_counts 41 = .ok (.iconst (-1), 1) := by decide +kernel
theorem dX12_counts_42 : decode cX12_counts 42 = .ok (.ireturn, 1) := by decide +kernel
theorem dX12_counts_43 : decode cX12_counts 43 = .ok (.aload_n 0, 1) := by decide +kernel
theorem dX12_counts_44 : decode cX12_counts 44 = .ok (.iload_n 1, 1) := by decide +kernel
theorem dX12_counts_45 : decode cX12_counts 45 = .ok (.iload_n 2, 1) := by decide +kernel
theorem dX12_counts_46 : decode cX12_counts 46 = .ok (.invokevirtual 354, 3) := by decide +kernel
theorem dX12_counts_49 : decode cX12_counts 49 = .ok (.ireturn, 1) := by decide +kernel
theorem dX12_accountOf_0 : decode cX12_accountOf 0 = .ok (.iconst 0, 1) := by decide +kernel
theorem dX12_accountOf_1 : decode cX12_accountOf 1 = .ok (.istore_n 3, 1) := by decide +kernel
theorem dX12_accountOf_2 : decode cX12_accountOf 2 = .ok (.iload_n 3, 1) := by decide +kernel
theorem dX12_accountOf_3 : decode cX12_accountOf 3 = .ok (.aload_n 0, 1) := by decide +kernel
theorem dX12_accountOf_4 : decode cX12_accountOf 4 = .ok (.getfield 327, 3) := by decide +kernel
theorem dX12_accountOf_7 : decode cX12_accountOf 7 = .ok (.if_icmp .ge 21, 3) := by decide +kernel
theorem dX12_accountOf_10 : decode cX12_accountOf 10 = .ok (.aload_n 0, 1) := by decide +kernel
theorem dX12_accountOf_11 : decode cX12_accountOf 11 = .ok (.iload_n 3, 1) := by decide +kernel
theorem dX12_accountOf_12 : decode cX12_accountOf 12 = .ok (.iload_n 1, 1) := by decide +kernel
theorem dX12_accountOf_13 : decode cX12_accountOf 13 = .ok (.iload_n 2, 1) := by decide +kernel
theorem dX12_accountOf_14 : decode cX12_accountOf 14 = .ok (.invokevirtual 334, 3) := by decide +kernel
theorem dX12_accountOf_17 : decode cX12_accountOf 17 = .ok (.ifCond .eq 5, 3) := by decide +kernel
theorem dX12_accountOf_20 : decode cX12_accountOf 20 = .ok (.iload_n 3, 1) := by decide +kernel
theorem dX12_accountOf_21 : decode cX12_accountOf 21 = .ok (.ireturn, 1) := by decide +kernel
theorem dX12_accountOf_22 : decode cX12_accountOf 22 = .ok (.iinc 3 1, 3) := by decide +kernel
theorem dX12_accountOf_25 : decode cX12_accountOf 25 = .ok (.goto (-23), 3) := by decide +kernel
theorem dX12_accountOf_28 : decode cX12_accountOf 28 = .ok (.iconst (-1), 1) := by decide +kernel
theorem dX12_accountOf_29 : decode cX12_accountOf 29 = .ok (.ireturn, 1) := by decide +kernel
theorem dX12_account_0 : decode cX12_account 0 = .ok (.aload_n 0, 1) := by decide +kernel
theorem dX12_account_1 : decode cX12_account 1 = .ok (.iload_n 1, 1) := by decide +kernel
theorem dX12_account_2 : decode cX12_account 2 = .ok (.invokevirtual 163, 3) := by decide +kernel
theorem dX12_account_5 : decode cX12_account 5 = .ok (.ifCond .eq 19, 3) := by decide +kernel
theorem dX12_account_8 : decode cX12_account 8 = .ok (.iload_n 2, 1) := by decide +kernel
theorem dX12_account_9 : decode cX12_account 9 = .ok (.invokestatic 166, 3) := by decide +kernel
theorem dX12_account_12 : decode cX12_account 12 = .ok (.ifCond .eq 12, 3) := by decide +kernel
theorem dX12_account_15 : decode cX12_account 15 = .ok (.aload_n 0, 1) := by decide +kernel
theorem dX12_account_16 : decode cX12_account 16 = .ok (.iload_n 1, 1) := by decide +kernel
theorem dX12_account_17 : decode cX12_account 17 = .ok (.iload_n 2, 1) := by decide +kernel
theorem dX12_account_18 : decode cX12_account 18 = .ok (.invokevirtual 363, 3) := by decide +kernel
theorem dX12_account_21 : decode cX12_account 21 = .ok (.goto 5, 3) := by decide +kernel
theorem dX12_account_24 : decode cX12_account 24 = .ok (.bipush (-2), 2) := by decide +kernel
theorem dX12_account_26 : decode cX12_account 26 = .ok (.ireturn, 1) := by decide +kernel
theorem dX12_owners_0 : decode cX12_owners 0 = .ok (.aload_n 0, 1) := by decide +kernel
theorem dX12_owners_1 : decode cX12_owners 1 = .ok (.iload_n 1, 1) := by decide +kernel
theorem dX12_owners_2 : decode cX12_owners 2 = .ok (.invokevirtual 163, 3) := by decide +kernel
theorem dX12_owners_5 : decode cX12_owners 5 = .ok (.ifCond .ne 6, 3) := by decide +kernel
theorem dX12_owners_8 : decode cX12_owners 8 = .ok (.bipush (-2), 2) := by decide +kernel
theorem dX12_owners_10 : decode cX12_owners 10 = .ok (.ireturn, 1) := by decide +kernel
theorem dX12_owners_11 : decode cX12_owners 11 = .ok (.iconst 0, 1) := by decide +kernel
theorem dX12_owners_12 : decode cX12_owners 12 = .ok (.istore_n 2, 1) := by decide +kernel
theorem dX12_owners_13 : decode cX12_owners 13 = .ok (.iconst 0, 1) := by decide +kernel
theorem dX12_owners_14 : decode cX12_owners 14 = .ok (.istore_n 3, 1) := by decide +kernel
theorem dX12_owners_15 : decode cX12_owners 15 = .ok (.iload_n 3, 1) := by decide +kernel
theorem dX12_owners_16 : decode cX12_owners 16 = .ok (.aload_n 0, 1) := by decide +kernel
theorem dX12_owners_17 : decode cX12_owners 17 = .ok (.getfield 37, 3) := by decide +kernel
theorem dX12_owners_20 : decode cX12_owners 20 = .ok (.iload_n 1, 1) := by decide +kernel
theorem dX12_owners_21 : decode cX12_owners 21 = .ok (.iaload, 1) := by decide +kernel
theorem dX12_owners_22 : decode cX12_owners 22 = .ok (.if_icmp .ge 27, 3) := by decide +kernel
theorem dX12_owners_25 : decode cX12_owners 25 = .ok (.iload_n 2, 1) := by decide +kernel
theorem dX12_owners_26 : decode cX12_owners 26 = .ok (.aload_n 0, 1) := by decide +kernel
theorem dX12_owners_27 : decode cX12_owners 27 = .ok (.iload_n 1, 1) := by decide +kernel
theorem dX12_owners_28 : decode cX12_owners 28 = .ok (.iload_n 3, 1) := by decide +kernel
theorem dX12_owners_29 : decode cX12_owners 29 = .ok (.invokevirtual 363, 3) := by decide +kernel
theorem dX12_owners_32 : decode cX12_owners 32 = .ok (.iconst (-1), 1) := by decide +kernel
theorem dX12_owners_33 : decode cX12_owners 33 = .ok (.if_icmp .ne 7, 3) := by decide +kernel
theorem dX12_owners_36 : decode cX12_owners 36 = .ok (.iconst 1, 1) := by decide +kernel
theorem dX12_owners_37 : decode cX12_owners 37 = .ok (.goto 4, 3) := by decide +kernel
theorem dX12_owners_40 : decode cX12_owners 40 = .ok (.iconst 0, 1) := by decide +kernel
theorem dX12_owners_41 : decode cX12_owners 41 = .ok (.iadd, 1) := by decide +kernel
theorem dX12_owners_42 : decode cX12_owners 42 = .ok (.istore_n 2, 1) := by decide +kernel
theorem dX12_owners_43 : decode cX12_owners 43 = .ok (.iinc 3 1, 3) := by decide +kernel
theorem dX12_owners_46 : decode cX12_owners 46 = .ok (.goto (-31), 3) := by decide +kernel
theorem dX12_owners_49 : decode cX12_owners 49 = .ok (.iload_n 2, 1) := by decide +kernel
theorem dX12_owners_50 : decode cX12_owners 50 = .ok (.ireturn, 1) := by decide +kernel
theorem dX12_count_0 : decode cX12_count 0 = .ok (.iload_n 1, 1) := by decide +kernel
theorem dX12_count_1 : decode cX12_count 1 = .ok (.tableswitch 78 0 6 #[43, 48, 53, 58, 63, 68, 73], 43) := by decide +kernel
theorem dX12_count_44 : decode cX12_count 44 = .ok (.aload_n 0, 1) := by decide +kernel
theorem dX12_count_45 : decode cX12_count 45 = .ok (.getfield 146, 3) := by decide +kernel
theorem dX12_count_48 : decode cX12_count 48 = .ok (.ireturn, 1) := by decide +kernel
theorem dX12_count_49 : decode cX12_count 49 = .ok (.aload_n 0, 1) := by decide +kernel
theorem dX12_count_50 : decode cX12_count 50 = .ok (.getfield 153, 3) := by decide +kernel
theorem dX12_count_53 : decode cX12_count 53 = .ok (.ireturn, 1) := by decide +kernel
theorem dX12_count_54 : decode cX12_count 54 = .ok (.aload_n 0, 1) := by decide +kernel
theorem dX12_count_55 : decode cX12_count 55 = .ok (.getfield 156, 3) := by decide +kernel
theorem dX12_count_58 : decode cX12_count 58 = .ok (.ireturn, 1) := by decide +kernel
theorem dX12_count_59 : decode cX12_count 59 = .ok (.aload_n 0, 1) := by decide +kernel
theorem dX12_count_60 : decode cX12_count 60 = .ok (.getfield 143, 3) := by decide +kernel
theorem dX12_count_63 : decode cX12_count 63 = .ok (.ireturn, 1) := by decide +kernel
theorem dX12_count_64 : decode cX12_count 64 = .ok (.aload_n 0, 1) := by decide +kernel
theorem dX12_count_65 : decode cX12_count 65 = .ok (.getfield 327, 3) := by decide +kernel
theorem dX12_count_68 : decode cX12_count 68 = .ok (.ireturn, 1) := by decide +kernel
theorem dX12_count_69 : decode cX12_count 69 = .ok (.aload_n 0, 1) := by decide +kernel
theorem dX12_count_70 : decode cX12_count 70 = .ok (.getfield 316, 3) := by decide +kernel
theorem dX12_count_73 : decode cX12_count 73 = .ok (.ireturn, 1) := by decide +kernel
theorem dX12_count_74 : decode cX12_count 74 = .ok (.aload_n 0, 1) := by decide +kernel
theorem dX12_count_75 : decode cX12_count 75 = .ok (.getfield 224, 3) := by decide +kernel
theorem dX12_count_78 : decode cX12_count 78 = .ok (.ireturn, 1) := by decide +kernel
theorem dX12_count_79 : decode cX12_count 79 = .ok (.bipush (-2), 2) := by decide +kernel
theorem dX12_count_81 : decode cX12_count 81 = .ok (.ireturn, 1) := by decide +kernel
theorem dX12_isSheet_0 : decode cX12_isSheet 0 = .ok (.iload_n 0, 1) := by decide +kernel
theorem dX12_isSheet_1 : decode cX12_isSheet 1 = .ok (.iconst 0, 1) := by decide +kernel
theorem dX12_isSheet_2 : decode cX12_isSheet 2 = .ok (.iconst 3, 1) := by decide +kernel
theorem dX12_isSheet_3 : decode cX12_isSheet 3 = .ok (.invokestatic 149, 3) := by decide +kernel
theorem dX12_isSheet_6 : decode cX12_isSheet 6 = .ok (.ireturn, 1) := by decide +kernel
theorem dX12_sheet_0 : decode cX12_sheet 0 = .ok (.iload_n 1, 1) := by decide +kernel
theorem dX12_sheet_1 : decode cX12_sheet 1 = .ok (.invokestatic 236, 3) := by decide +kernel
theorem dX12_sheet_4 : decode cX12_sheet 4 = .ok (.ifCond .eq 23, 3) := by decide +kernel
theorem dX12_sheet_7 : decode cX12_sheet 7 = .ok (.iload_n 2, 1) := by decide +kernel
theorem dX12_sheet_8 : decode cX12_sheet 8 = .ok (.iconst (-1), 1) := by decide +kernel
theorem dX12_sheet_9 : decode cX12_sheet 9 = .ok (.iconst 2, 1) := by decide +kernel
theorem dX12_sheet_10 : decode cX12_sheet 10 = .ok (.invokestatic 149, 3) := by decide +kernel
theorem dX12_sheet_13 : decode cX12_sheet 13 = .ok (.ifCond .eq 14, 3) := by decide +kernel
theorem dX12_sheet_16 : decode cX12_sheet 16 = .ok (.iload_n 2, 1) := by decide +kernel
theorem dX12_sheet_17 : decode cX12_sheet 17 = .ok (.iconst (-1), 1) := by decide +kernel
theorem dX12_sheet_18 : decode cX12_sheet 18 = .ok (.if_icmp .eq 12, 3) := by decide +kernel
theorem dX12_sheet_21 : decode cX12_sheet 21 = .ok (.iload_n 3, 1) := by decide +kernel
theorem dX12_sheet_22 : decode cX12_sheet 22 = .ok (.bipush 40, 2) := by decide +kernel
theorem dX12_sheet_24 : decode cX12_sheet 24 = .ok (.if_icmp .le 6, 3) := by decide +kernel
theorem dX12_sheet_27 : decode cX12_sheet 27 = .ok (.bipush (-2), 2) := by decide +kernel
theorem dX12_sheet_29 : decode cX12_sheet 29 = .ok (.ireturn, 1) := by decide +kernel
theorem dX12_sheet_30 : decode cX12_sheet 30 = .ok (.iload_n 2, 1) := by decide +kernel
theorem dX12_sheet_31 : decode cX12_sheet 31 = .ok (.iconst (-1), 1) := by decide +kernel
theorem dX12_sheet_32 : decode cX12_sheet 32 = .ok (.if_icmp .eq 10, 3) := by decide +kernel
theorem dX12_sheet_35 : decode cX12_sheet 35 = .ok (.iload_n 3, 1) := by decide +kernel
theorem dX12_sheet_36 : decode cX12_sheet 36 = .ok (.ifCond .ge 6, 3) := by decide +kernel
theorem dX12_sheet_39 : decode cX12_sheet 39 = .ok (.bipush (-14), 2) := by decide +kernel
theorem dX12_sheet_41 : decode cX12_sheet 41 = .ok (.ireturn, 1) := by decide +kernel
theorem dX12_sheet_42 : decode cX12_sheet 42 = .ok (.aload_n 0, 1) := by decide +kernel
theorem dX12_sheet_43 : decode cX12_sheet 43 = .ok (.getfield 108, 3) := by decide +kernel
theorem dX12_sheet_46 : decode cX12_sheet 46 = .ok (.iload_n 1, 1) := by decide +kernel
theorem dX12_sheet_47 : decode cX12_sheet 47 = .ok (.iload_n 2, 1) := by decide +kernel
theorem dX12_sheet_48 : decode cX12_sheet 48 = .ok (.iastore, 1) := by decide +kernel
theorem dX12_sheet_49 : decode cX12_sheet 49 = .ok (.aload_n 0, 1) := by decide +kernel
theorem dX12_sheet_50 : decode cX12_sheet 50 = .ok (.getfield 111, 3) := by decide +kernel
theorem dX12_sheet_53 : decode cX12_sheet 53 = .ok (.iload_n 1, 1) := by decide +kernel
theorem dX12_sheet_54 : decode cX12_sheet 54 = .ok (.iload_n 2, 1) := by decide +kernel
theorem dX12_sheet_55 : decode cX12_sheet 55 = .ok (.iconst (-1), 1) := by decide +kernel
theorem dX12_sheet_56 : decode cX12_sheet 56 = .ok (.if_icmp .ne 7, 3) := by decide +kernel
theorem dX12_sheet_59 : decode cX12_sheet 59 = .ok (.iconst 0, 1) := by decide +kernel
theorem dX12_sheet_60 : decode cX12_sheet 60 = .ok (.goto 4, 3) := by decide +kernel
theorem dX12_sheet_63 : decode cX12_sheet 63 = .ok (.iload_n 3, 1) := by decide +kernel
theorem dX12_sheet_64 : decode cX12_sheet 64 = .ok (.iastore, 1) := by decide +kernel
theorem dX12_sheet_65 : decode cX12_sheet 65 = .ok (.bipush 40, 2) := by decide +kernel
theorem dX12_sheet_67 : decode cX12_sheet 67 = .ok (.iload_n 1, 1) := by decide +kernel
theorem dX12_sheet_68 : decode cX12_sheet 68 = .ok (.imul, 1) := by decide +kernel
theorem dX12_sheet_69 : decode cX12_sheet 69 = .ok (.istore 4, 2) := by decide +kernel
theorem dX12_sheet_71 : decode cX12_sheet 71 = .ok (.iload 4, 2) := by decide +kernel
theorem dX12_sheet_73 : decode cX12_sheet 73 = .ok (.bipush 40, 2) := by decide +kernel
theorem dX12_sheet_75 : decode cX12_sheet 75 = .ok (.iload_n 1, 1) := by decide +kernel
theorem dX12_sheet_76 : decode cX12_sheet 76 = .ok (.imul, 1) := by decide +kernel
theorem dX12_sheet_77 : decode cX12_sheet 77 = .ok (.bipush 40, 2) := by decide +kernel
theorem dX12_sheet_79 : decode cX12_sheet 79 = .ok (.iadd, 1) := by decide +kernel
theorem dX12_sheet_80 : decode cX12_sheet 80 = .ok (.if_icmp .ge 17, 3) := by decide +kernel
theorem dX12_sheet_83 : decode cX12_sheet 83 = .ok (.aload_n 0, 1) := by decide +kernel
theorem dX12_sheet_84 : decode cX12_sheet 84 = .ok (.getfield 114, 3) := by decide +kernel
theorem dX12_sheet_87 : decode cX12_sheet 87 = .ok (.iload 4, 2) := by decide +kernel
theorem dX12_sheet_89 : decode cX12_sheet 89 = .ok (.iconst 0, 1) := by decide +kernel
theorem dX12_sheet_90 : decode cX12_sheet 90 = .ok (.iastore, 1) := by decide +kernel
theorem dX12_sheet_91 : decode cX12_sheet 91 = .ok (.iinc 4 1, 3) := by decide +kernel
theorem dX12_sheet_94 : decode cX12_sheet 94 = .ok (.goto (-23), 3) := by decide +kernel
theorem dX12_sheet_97 : decode cX12_sheet 97 = .ok (.iconst 1, 1) := by decide +kernel
theorem dX12_sheet_98 : decode cX12_sheet 98 = .ok (.ireturn, 1) := by decide +kernel
theorem dX12_cell_0 : decode cX12_cell 0 = .ok (.iload_n 1, 1) := by decide +kernel
theorem dX12_cell_1 : decode cX12_cell 1 = .ok (.invokestatic 236, 3) := by decide +kernel
theorem dX12_cell_4 : decode cX12_cell 4 = .ok (.ifCond .ne 6, 3) := by decide +kernel
theorem dX12_cell_7 : decode cX12_cell 7 = .ok (.bipush (-2), 2) := by decide +kernel
theorem dX12_cell_9 : decode cX12_cell 9 = .ok (.ireturn, 1) := by decide +kernel
theorem dX12_cell_10 : decode cX12_cell 10 = .ok (.aload_n 0, 1) := by decide +kernel
theorem dX12_cell_11 : decode cX12_cell 11 = .ok (.getfield 108, 3) := by decide +kernel
theorem dX12_cell_14 : decode cX12_cell 14 = .ok (.iload_n 1, 1) := by decide +kernel
theorem dX12_cell_15 : decode cX12_cell 15 = .ok (.iaload, 1) := by decide +kernel
theorem dX12_cell_16 : decode cX12_cell 16 = .ok (.iconst (-1), 1) := by decide +kernel
theorem dX12_cell_17 : decode cX12_cell 17 = .ok (.if_icmp .ne 6, 3) := by decide +kernel
theorem dX12_cell_20 : decode cX12_cell 20 = .ok (.bipush (-11), 2) := by decide +kernel
theorem dX12_cell_22 : decode cX12_cell 22 = .ok (.ireturn, 1) := by decide +kernel
theorem dX12_cell_23 : decode cX12_cell 23 = .ok (.iload_n 2, 1) := by decide +kernel
theorem dX12_cell_24 : decode cX12_cell 24 = .ok (.iconst 0, 1) := by decide +kernel
theorem dX12_cell_25 : decode cX12_cell 25 = .ok (.aload_n 0, 1) := by decide +kernel
theorem dX12_cell_26 : decode cX12_cell 26 = .ok (.getfield 111, 3) := by decide +kernel
theorem dX12_cell_29 : decode cX12_cell 29 = .ok (.iload_n 1, 1) := by decide +kernel
theorem dX12_cell_30 : decode cX12_cell 30 = .ok (.iaload, 1) := by decide +kernel
theorem dX12_cell_31 : decode cX12_cell 31 = .ok (.iconst 1, 1) := by decide +kernel
theorem dX12_cell_32 : decode cX12_cell 32 = .ok (.isub, 1) := by decide +kernel
theorem dX12_cell_33 : decode cX12_cell 33 = .ok (.invokestatic 149, 3) := by decide +kernel
theorem dX12_cell_36 : decode cX12_cell 36 = .ok (.ifCond .ne 6, 3) := by decide +kernel
theorem dX12_cell_39 : decode cX12_cell 39 = .ok (.bipush (-12), 2) := by decide +kernel
theorem dX12_cell_41 : decode cX12_cell 41 = .ok (.ireturn, 1) := by decide +kernel
theorem dX12_cell_42 : decode cX12_cell 42 = .ok (.aload_n 0, 1) := by decide +kernel
theorem dX12_cell_43 : decode cX12_cell 43 = .ok (.getfield 114, 3) := by decide +kernel
theorem dX12_cell_46 : decode cX12_cell 46 = .ok (.bipush 40, 2) := by decide +kernel
theorem dX12_cell_48 : decode cX12_cell 48 = .ok (.iload_n 1, 1) := by decide +kernel
theorem dX12_cell_49 : decode cX12_cell 49 = .ok (.imul, 1) := by decide +kernel
theorem dX12_cell_50 : decode cX12_cell 50 = .ok (.iload_n 2, 1) := by decide +kernel
theorem dX12_cell_51 : decode cX12_cell 51 = .ok (.iadd, 1) := by decide +kernel
theorem dX12_cell_52 : decode cX12_cell 52 = .ok (.aload_n 0, 1) := by decide +kernel
theorem dX12_cell_53 : decode cX12_cell 53 = .ok (.getfield 108, 3) := by decide +kernel
theorem dX12_cell_56 : decode cX12_cell 56 = .ok (.iload_n 1, 1) := by decide +kernel
theorem dX12_cell_57 : decode cX12_cell 57 = .ok (.iaload, 1) := by decide +kernel
theorem dX12_cell_58 : decode cX12_cell 58 = .ok (.ifCond .ne 8, 3) := by decide +kernel
theorem dX12_cell_61 : decode cX12_cell 61 = .ok (.iload_n 3, 1) := by decide +kernel
theorem dX12_cell_62 : decode cX12_cell 62 = .ok (.i2b, 1) := by decide +kernel
theorem dX12_cell_63 : decode cX12_cell 63 = .ok (.goto 19, 3) := by decide +kernel
theorem dX12_cell_66 : decode cX12_cell 66 = .ok (.aload_n 0, 1) := by decide +kernel
theorem dX12_cell_67 : decode cX12_cell 67 = .ok (.getfield 108, 3) := by decide +kernel
theorem dX12_cell_70 : decode cX12_cell 70 = .ok (.iload_n 1, 1) := by decide +kernel
theorem dX12_cell_71 : decode cX12_cell 71 = .ok (.iaload, 1) := by decide +kernel
theorem dX12_cell_72 : decode cX12_cell 72 = .ok (.iconst 1, 1) := by decide +kernel
theorem dX12_cell_73 : decode cX12_cell 73 = .ok (.if_icmp .ne 8, 3) := by decide +kernel
theorem dX12_cell_76 : decode cX12_cell 76 = .ok (.iload_n 3, 1) := by decide +kernel
theorem dX12_cell_77 : decode cX12_cell 77 = .ok (.i2s, 1) := by decide +kernel
theorem dX12_cell_78 : decode cX12_cell 78 = .ok (.goto 4, 3) := by decide +kernel
theorem dX12_cell_81 : decode cX12_cell 81 = .ok (.iload_n 3, 1) := by decide +kernel
theorem dX12_cell_82 : decode cX12_cell 82 = .ok (.iastore, 1) := by decide +kernel
theorem dX12_cell_83 : decode cX12_cell 83 = .ok (.iconst 1, 1) := by decide +kernel
theorem dX12_cell_84 : decode cX12_cell 84 = .ok (.ireturn, 1) := by decide +kernel
theorem dX12_taken_0 : decode cX12_taken 0 = .ok (.iload_n 2, 1) := by decide +kernel
theorem dX12_taken_1 : decode cX12_taken 1 = .ok (.iconst 0, 1) := by decide +kernel
theorem dX12_taken_2 : decode cX12_taken 2 = .ok (.iconst 5, 1) := by decide +kernel
theorem dX12_taken_3 : decode cX12_taken 3 = .ok (.invokestatic 149, 3) := by decide +kernel
theorem dX12_taken_6 : decode cX12_taken 6 = .ok (.ifCond .ne 6, 3) := by decide +kernel
theorem dX12_taken_9 : decode cX12_taken 9 = .ok (.bipush (-2), 2) := by decide +kernel
theorem dX12_taken_11 : decode cX12_taken 11 = .ok (.ireturn, 1) := by decide +kernel
theorem dX12_taken_12 : decode cX12_taken 12 = .ok (.aload_n 0, 1) := by decide +kernel
theorem dX12_taken_13 : decode cX12_taken 13 = .ok (.iload_n 1, 1) := by decide +kernel
theorem dX12_taken_14 : decode cX12_taken 14 = .ok (.invokevirtual 339, 3) := by decide +kernel
theorem dX12_taken_17 : decode cX12_taken 17 = .ok (.ifCond .ne 6, 3) := by decide +kernel
theorem dX12_taken_20 : decode cX12_taken 20 = .ok (.bipush (-11), 2) := by decide +kernel
theorem dX12_taken_22 : decode cX12_taken 22 = .ok (.ireturn, 1) := by decide +kernel
theorem dX12_taken_23 : decode cX12_taken 23 = .ok (.iload_n 2, 1) := by decide +kernel
theorem dX12_taken_24 : decode cX12_taken 24 = .ok (.ifCond .eq 28, 3) := by decide +kernel
theorem dX12_taken_27 : decode cX12_taken 27 = .ok (.aload_n 0, 1) := by decide +kernel
theorem dX12_taken_28 : decode cX12_taken 28 = .ok (.getfield 81, 3) := by decide +kernel
theorem dX12_taken_31 : decode cX12_taken 31 = .ok (.iload_n 1, 1) := by decide +kernel
theorem dX12_taken_32 : decode cX12_taken 32 = .ok (.iaload, 1) := by decide +kernel
theorem dX12_taken_33 : decode cX12_taken 33 = .ok (.iload_n 2, 1) := by decide +kernel
theorem dX12_taken_34 : decode cX12_taken 34 = .ok (.if_icmp .eq 18, 3) := by decide +kernel
theorem dX12_taken_37 : decode cX12_taken 37 = .ok (.iload_n 2, 1) := by decide +kernel
theorem dX12_taken_38 : decode cX12_taken 38 = .ok (.iconst 1, 1) := by decide +kernel
theorem dX12_taken_39 : decode cX12_taken 39 = .ok (.if_icmp .ne 22, 3) := by decide +kernel
theorem dX12_taken_42 : decode cX12_taken 42 = .ok (.aload_n 0, 1) := by decide +kernel
theorem dX12_taken_43 : decode cX12_taken 43 = .ok (.getfield 81, 3) := by decide +kernel
theorem dX12_taken_46 : decode cX12_taken 46 = .ok (.iload_n 1, 1) := by decide +kernel
theorem dX12_taken_47 : decode cX12_taken 47 = .ok (.iaload, 1) := by decide +kernel
theorem dX12_taken_48 : decode cX12_taken 48 = .ok (.iconst 2, 1) := by decide +kernel
theorem dX12_taken_49 : decode cX12_taken 49 = .ok (.if_icmp .ne 12, 3) := by decide +kernel
theorem dX12_taken_52 : decode cX12_taken 52 = .ok (.aload_n 0, 1) := by decide +kernel
theorem dX12_taken_53 : decode cX12_taken 53 = .ok (.getfield 84, 3) := by decide +kernel
theorem dX12_taken_56 : decode cX12_taken 56 = .ok (.iload_n 1, 1) := by decide +kernel
theorem dX12_taken_57 : decode cX12_taken 57 = .ok (.iaload, 1) := by decide +kernel
theorem dX12_taken_58 : decode cX12_taken 58 = .ok (.goto 5, 3) := by decide +kernel
theorem dX12_taken_61 : decode cX12_taken 61 = .ok (.bipush (-13), 2) := by decide +kernel
theorem dX12_taken_63 : decode cX12_taken 63 = .ok (.ireturn, 1) := by decide +kernel
end
section
/-! A PART OF THE HEAP AS A VALUE: the kind of each address (0: none of it), int fields, long fields, references, lengths, int rows, reference rows -/
abbrev HSt : Type := (Nat → Nat) × (Nat → Nat → Int32) × (Nat → Nat → Int64) × (Nat → Nat → Option Nat) × (Nat → Nat) × (Nat → Nat → Nat → Int32) × (Nat → Nat → Nat → Option Nat)
def gK (S : HSt) (a : Nat) : Nat := S.1 a
def gI (S : HSt) (f a : Nat) : Int32 := S.2.1 f a
def gJ (S : HSt) (f a : Nat) : Int64 := S.2.2.1 f a
def gR (S : HSt) (f a : Nat) : Option Nat := S.2.2.2.1 f a
def gN (S : HSt) (a : Nat) : Nat := S.2.2.2.2.1 a
def gA (S : HSt) (k a : Nat) : Nat → Int32 := S.2.2.2.2.2.1 k a
def gB (S : HSt) (k a : Nat) : Nat → Option Nat := S.2.2.2.2.2.2 k a
def up2 {α : Type} (g : Nat → Nat → α) (f a : Nat) (v : α) : Nat → Nat → α := fun f' a' => if f' = f ∧ a' = a then v else g f' a'
def uI (S : HSt) (f a : Nat) (v : Int32) : HSt := (S.1, up2 S.2.1 f a v, S.2.2)
def uJ (S : HSt) (f a : Nat) (v : Int64) : HSt := (S.1, S.2.1, up2 S.2.2.1 f a v, S.2.2.2)
def uR (S : HSt) (f a : Nat) (v : Option Nat) : HSt := (S.1, S.2.1, S.2.2.1, up2 S.2.2.2.1 f a v, S.2.2.2.2)
def sA (S : HSt) (k a : Nat) (g : Nat → Int32) : HSt := (S.1, S.2.1, S.2.2.1, S.2.2.2.1, S.2.2.2.2.1, up2 S.2.2.2.2.2.1 k a g, S.2.2.2.2.2.2)
def sB (S : HSt) (k a : Nat) (g : Nat → Option Nat) : HSt := (S.1, S.2.1, S.2.2.1, S.2.2.2.1, S.2.2.2.2.1, S.2.2.2.2.2.1, up2 S.2.2.2.2.2.2 k a g)
def uA (S : HSt) (k a i : Nat) (v : Int32) : HSt := sA S k a (upd (gA S k a) i v)
def uB (S : HSt) (k a i : Nat) (v : Option Nat) : HSt := sB S k a (va_up (gB S k a) i v)
def cl2 {α : Type} (g : Nat → Nat → α) (a : Nat) (v : α) : Nat → Nat → α := fun f' a' => if a' = a then v else g f' a'
def nO (S : HSt) (k a : Nat) : HSt := (va_up S.1 a k, cl2 S.2.1 a 0, cl2 S.2.2.1 a 0, cl2 S.2.2.2.1 a none, S.2.2.2.2)
def nA (S : HSt) (k a n : Nat) : HSt := (va_up S.1 a k, S.2.1, S.2.2.1, S.2.2.2.1, va_up S.2.2.2.2.1 a n, cl2 S.2.2.2.2.2.1 a (fun _ => 0), cl2 S.2.2.2.2.2.2 a (fun _ => none))
/-- a class's fields by its kind: 0 int or boolean, 1 long, 2 a reference; and the field's own number -/
def flds : Nat → List (Nat × Nat)
  | 1 => [(0, 100), (2, 101), (2, 102), (2, 103), (2, 104), (2, 105)]
  | 2 => [(0, 200), (2, 201), (0, 202), (0, 203), (2, 204), (0, 205), (0, 206), (0, 207), (0, 208)]
  | 3 => [(2, 300), (2, 301), (0, 302), (0, 303), (0, 304), (0, 305), (0, 306)]
  | 4 => [(0, 400), (0, 401), (0, 402), (2, 403)]
  | 5 => [(0, 500), (0, 501), (0, 502), (0, 503), (1, 504)]
  | 6 => [(0, 600), (2, 601), (0, 602), (2, 603), (2, 604), (0, 605), (0, 606), (0, 607)]
  | 7 => [(0, 700), (1, 701), (0, 702), (2, 703), (2, 704), (2, 705), (0, 706), (0, 707)]
  | 8 => [(0, 800), (0, 801), (2, 802)]
  | 9 => [(0, 900), (0, 901), (0, 902), (0, 903), (2, 904), (0, 905), (0, 906), (0, 907), (2, 908)]
  | 10 => [(0, 1000), (0, 1001), (0, 1002), (0, 1003), (0, 1004), (0, 1005), (2, 1006)]
  | 11 => [(0, 1100), (0, 1101), (0, 1102), (2, 1103)]
  | 12 => [(2, 1200), (2, 1201), (2, 1202), (2, 1203), (2, 1204), (2, 1205), (2, 1206), (0, 1207), (0, 1208), (0, 1209), (0, 1210), (0, 1211), (0, 1212), (2, 1213), (2, 1214), (2, 1215), (2, 1216), (2, 1217), (2, 1218)]
  | 13 => [(0, 1300), (2, 1301), (2, 1302), (2, 1303), (0, 1304), (2, 1305), (2, 1306), (2, 1307), (2, 1308), (2, 1309), (2, 1310), (2, 1311), (2, 1312), (0, 1313), (2, 1314), (2, 1315), (2, 1316), (2, 1317), (2, 1318), (2, 1319), (2, 1320), (0, 1321), (2, 1322), (2, 1323), (0, 1324), (0, 1325), (2, 1326), (2, 1327), (2, 1328), (0, 1329), (2, 1330), (2, 1331), (2, 1332), (2, 1333), (2, 1334), (2, 1335), (2, 1336), (2, 1337), (2, 1338), (2, 1339), (2, 1340), (2, 1341), (2, 1342), (0, 1343), (1, 1344), (0, 1345), (2, 1346), (2, 1347), (2, 1348), (2, 1349), (0, 1350), (0, 1351), (0, 1352), (0, 1353), (0, 1354), (0, 1355), (0, 1356), (0, 1357), (0, 1358), (2, 1359), (0, 1360), (0, 1361), (0, 1362)]
  | _ => []
def fval (i : Nat → Int32) (j : Nat → Int64) (r : Nat → Option Nat) (q : Nat × Nat) : Value := if q.1 = 0 then .int (i q.2) else if q.1 = 1 then .long (j q.2) else va_rf (r q.2)
def entL (cy : Nat → ClassId) (k : Nat) (i : Nat → Int32) (j : Nat → Int64) (r : Nat → Option Nat) (n : Nat) (A : Nat → Nat → Int32) (B : Nat → Nat → Option Nat) : va_E :=
  if k < 100 then .inr (k - 1, (flds k).map (fval i j r)) else .inl (cy (k / 100 - 1), n, if k < 400 then .inl (A k) else .inr (.inr (.inr (.inr (B k)))))
def ent (cy : Nat → ClassId) (S : HSt) (a : Nat) : va_E := entL cy (gK S a) (fun f => gI S f a) (fun f => gJ S f a) (fun f => gR S f a) (gN S a) (fun k => gA S k a) (fun k => gB S k a)
theorem ent_obj {cy : Nat → ClassId} {S : HSt} {a k : Nat} (h : gK S a = k) (hk : k < 100) : ent cy S a = .inr (k - 1, (flds k).map (fval (fun f => gI S f a) (fun f => gJ S f a) (fun f => gR S f a))) := by
  subst h; unfold ent entL; rw [if_pos hk]
theorem ent_num {cy : Nat → ClassId} {S : HSt} {a k : Nat} (h : gK S a = k) (h1 : 100 ≤ k) (h2 : k < 400) : ent cy S a = .inl (cy (k / 100 - 1), gN S a, .inl (gA S k a)) := by
  subst h; unfold ent entL; rw [if_neg (by omega), if_pos h2]
theorem ent_ref {cy : Nat → ClassId} {S : HSt} {a k : Nat} (h : gK S a = k) (h1 : 400 ≤ k) : ent cy S a = .inl (cy (k / 100 - 1), gN S a, .inr (.inr (.inr (.inr (gB S k a))))) := by
  subst h; unfold ent entL; rw [if_neg (by omega), if_neg (by omega)]
theorem up2_ne {α : Type} (g : Nat → Nat → α) (f a : Nat) (v : α) {b : Nat} (h : b ≠ a) : (fun f' => up2 g f a v f' b) = fun f' => g f' b := by
  funext f'; simp [up2, h]
theorem ent_uI {cy : Nat → ClassId} (S : HSt) (f a : Nat) (v : Int32) {b : Nat} (h : b ≠ a) : ent cy (uI S f a v) b = ent cy S b := by
  unfold ent
  rw [show (fun f' => gI (uI S f a v) f' b) = (fun f' => gI S f' b) from up2_ne S.2.1 f a v h]
  rfl
theorem ent_uJ {cy : Nat → ClassId} (S : HSt) (f a : Nat) (v : Int64) {b : Nat} (h : b ≠ a) : ent cy (uJ S f a v) b = ent cy S b := by
  unfold ent
  rw [show (fun f' => gJ (uJ S f a v) f' b) = (fun f' => gJ S f' b) from up2_ne S.2.2.1 f a v h]
  rfl
theorem ent_uR {cy : Nat → ClassId} (S : HSt) (f a : Nat) (v : Option Nat) {b : Nat} (h : b ≠ a) : ent cy (uR S f a v) b = ent cy S b := by
  unfold ent
  rw [show (fun f' => gR (uR S f a v) f' b) = (fun f' => gR S f' b) from up2_ne S.2.2.2.1 f a v h]
  rfl
theorem ent_sA {cy : Nat → ClassId} (S : HSt) (f a : Nat) (v : Nat → Int32) {b : Nat} (h : b ≠ a) : ent cy (sA S f a v) b = ent cy S b := by
  unfold ent
  rw [show (fun f' => gA (sA S f a v) f' b) = (fun f' => gA S f' b) from up2_ne S.2.2.2.2.2.1 f a v h]
  rfl
theorem ent_sB {cy : Nat → ClassId} (S : HSt) (f a : Nat) (v : Nat → Option Nat) {b : Nat} (h : b ≠ a) : ent cy (sB S f a v) b = ent cy S b := by
  unfold ent
  rw [show (fun f' => gB (sB S f a v) f' b) = (fun f' => gB S f' b) from up2_ne S.2.2.2.2.2.2 f a v h]
  rfl
theorem map_set_of {α β : Type} {l : List α} {g g' : α → β} {k : Nat} {w : β} (hk : ∀ x, l[k]? = some x → g' x = w) (ho : ∀ (j : Nat) (x : α), j ≠ k → l[j]? = some x → g' x = g x) : (l.map g).set k w = l.map g' := by
  apply List.ext_getElem?
  intro j
  rw [List.getElem?_map]
  by_cases h : j = k
  · subst h
    by_cases hl : j < (l.map g).length
    · rw [List.getElem?_set_self hl]
      have hl2 : j < l.length := by simpa using hl
      rw [List.getElem?_eq_getElem hl2]
      exact congrArg some (hk _ (List.getElem?_eq_getElem hl2)).symm
    · have hl2 : l.length ≤ j := by simpa using hl
      rw [List.getElem?_eq_none hl2, List.getElem?_eq_none (by simpa using hl2)]; rfl
  · rw [List.getElem?_set_ne (Ne.symm h), List.getElem?_map]
    cases hx : l[j]? with
    | none => rfl
    | some x => exact congrArg some (ho j x h hx).symm
/-- the words that a method needs: all that the tables say and that stays true -/
def TBL : List Cond := lw_tbl.filter goodWord
theorem TBL_in {w : Cond} (h : w ∈ lw_tbl) (g : goodWord w = true) : w ∈ TBL := List.mem_filter.mpr ⟨h, g⟩
theorem tb_t {w : Cond} (h : w ∈ tables_1) (g : goodWord w = true) : w ∈ TBL := TBL_in (List.mem_append_right _ h) g
theorem tb1 {w : Cond} (i : Nat) (h : tables_1_1[i]? = some w) (g : goodWord w = true) : w ∈ TBL := tb_t (by unfold tables_1; exact List.mem_append_left _ (List.mem_of_getElem? h)) g
theorem tb2 {w : Cond} (i : Nat) (h : tables_1_2[i]? = some w) (g : goodWord w = true) : w ∈ TBL := tb_t (by unfold tables_1; exact List.mem_append_right _ (List.mem_append_left _ (List.mem_of_getElem? h))) g
theorem tb3 {w : Cond} (i : Nat) (h : tables_1_3[i]? = some w) (g : goodWord w = true) : w ∈ TBL := tb_t (by unfold tables_1; exact List.mem_append_right _ (List.mem_append_right _ (List.mem_append_left _ (List.mem_of_getElem? h)))) g
theorem tb4 {w : Cond} (i : Nat) (h : tables_1_4[i]? = some w) (g : goodWord w = true) : w ∈ TBL := tb_t (by unfold tables_1; exact List.mem_append_right _ (List.mem_append_right _ (List.mem_append_right _ (List.mem_append_left _ (List.mem_of_getElem? h))))) g
theorem tb5 {w : Cond} (i : Nat) (h : tables_1_5[i]? = some w) (g : goodWord w = true) : w ∈ TBL := tb_t (by unfold tables_1; exact List.mem_append_right _ (List.mem_append_right _ (List.mem_append_right _ (List.mem_append_right _ (List.mem_append_left _ (List.mem_of_getElem? h)))))) g
theorem tb6 {w : Cond} (i : Nat) (h : tables_1_6[i]? = some w) (g : goodWord w = true) : w ∈ TBL := tb_t (by unfold tables_1; exact List.mem_append_right _ (List.mem_append_right _ (List.mem_append_right _ (List.mem_append_right _ (List.mem_append_right _ (List.mem_append_left _ (List.mem_of_getElem? h))))))) g
theorem tb7 {w : Cond} (i : Nat) (h : tables_1_7[i]? = some w) (g : goodWord w = true) : w ∈ TBL := tb_t (by unfold tables_1; exact List.mem_append_right _ (List.mem_append_right _ (List.mem_append_right _ (List.mem_append_right _ (List.mem_append_right _ (List.mem_append_right _ (List.mem_of_getElem? h))))))) g
theorem tb0 {y : MethodName} {q : MethodName × Nat} (hq : q ∈ lw_privs) (h : q.1 = y) : Cond.selects y.cls y y ∈ TBL := by
  subst h
  exact TBL_in (List.mem_append_left _ (List.mem_map.mpr ⟨q, hq, rfl⟩)) rfl
theorem TBL_good : ∀ w ∈ TBL, goodWord w = true := fun w h => (List.mem_filter.mp h).2
theorem TBL_lw {w : Cond} (h : w ∈ TBL) : w ∈ lw_tbl := (List.mem_filter.mp h).1
theorem TBL_G {c c' : Cond} (h : c' ∈ TBL) : GoodIn (c :: TBL) (c' :: TBL) := fun w hw => by
  have h1 : w ∈ TBL := by
    rcases List.mem_cons.mp hw with rfl | h1
    · exact h
    · exact h1
  exact ⟨List.mem_cons_of_mem _ h1, good_of_word (TBL_good w h1)⟩
theorem TBL_GL {c' : Cond} (h : c' ∈ TBL) : GoodIn TBL (c' :: TBL) := fun w hw => by
  have h1 : w ∈ TBL := by
    rcases List.mem_cons.mp hw with rfl | h1
    · exact h
    · exact h1
  exact ⟨h1, good_of_word (TBL_good w h1)⟩
/-- the surroundings of a part: where the classes lie, the array classes, the addresses that are its own -/
abbrev XG : Type := va_G × (Nat → ClassId) × (Nat → Prop)
def xtys (cy : Nat → ClassId) : List (ClassId × FieldType) := [(cy 0, .byte), (cy 1, .int), (cy 2, .boolean), (cy 3, .object RX1), (cy 4, .object RX2), (cy 5, .object RX3), (cy 6, .object RX7), (cy 7, .object RX8), (cy 8, .object RX10), (cy 9, .array .int)]
def Hq (G : XG) (S : HSt) (H : Heap) : Prop := ∃ L : List Nat, (∀ a, gK S a ≠ 0 ↔ a ∈ L) ∧ va_P G.1 vwCl (va_pl L (ent G.2.1 S)) H ∧ va_D G.2.2 (va_pl L (ent G.2.1 S))
/-- what stands in the heap beside the parts: the literals, a static row, three statics of the JDK's -/
def litN : List (String × Nat × String) := [("TrampOffice", 91, "lay sort = 1 or sort = 2 ; off sort = 4 ;"), ("TrampOffice$Reader", 106, "lay"), ("TrampOffice$Reader", 112, "off"), ("TrampOffice$Reader", 114, "or"), ("TrampOffice$Reader", 116, "and"), ("TrampOffice$Reader", 118, "not"), ("TrampOffice$Reader", 120, "sort"), ("TrampOffice$Reader", 122, "weekday"), ("TrampOffice$Reader", 124, "clock"), ("TrampOffice$Reader", 126, "hour"), ("TrampOffice$Reader", 128, "over")]
def litB : List (List Int32) := [[108, 97, 121, 32, 115, 111, 114, 116, 32, 61, 32, 49, 32, 111, 114, 32, 115, 111, 114, 116, 32, 61, 32, 50, 32, 59, 32, 111, 102, 102, 32, 115, 111, 114, 116, 32, 61, 32, 52, 32, 59], [108, 97, 121], [111, 102, 102], [111, 114], [97, 110, 100], [110, 111, 116], [115, 111, 114, 116], [119, 101, 101, 107, 100, 97, 121], [99, 108, 111, 99, 107], [104, 111, 117, 114], [111, 118, 101, 114]]
def litL : List Nat := litB.map List.length
def undB : Nat → Int32 := fun j => [-1, 0, 1, 0, 0, 0].getD j 0
def Amb (G : XG) (s : State) (H : Heap) : Prop := (∃ adV : Nat → Nat, vk_S 11 litL litB (G.1.2 99) adV G.2.2 s H) ∧ va_Z "java/lang/String" "COMPACT_STRINGS" "Z" (.int 1) G.2.2 s H ∧ (∃ r : Option Nat, va_Z "jdk/internal/util/Preconditions" "SIOOBE_FORMATTER" "Ljava/util/function/BiFunction;" (va_rf r) G.2.2 s H) ∧ va_Z "TrampOffice$Charter" "UNDER" "[I" (.ref (G.1.2 98 0)) G.2.2 s H ∧ va_T .int (G.1.2 98 0) 6 (fun j => .int (undB j)) G.2.2 s H ∧ ∀ i, i < 11 → vk_R (litN.getD i ("", 0, "")).1 (litN.getD i ("", 0, "")).2.1 (litN.getD i ("", 0, "")).2.2 (G.1.2 99 i) s
theorem Amb.at {G : XG} {s U : State} {H : Heap} {locs : List Loc} (h : Amb G s s.heap) (hW : s.WarmedH U.vm) (hS : va_S G.2.2 s.heap H locs) : Amb G U H := by
  obtain ⟨⟨adV, h1⟩, h2, ⟨r, h3⟩, h4, h5, h6⟩ := h
  exact ⟨⟨adV, (h1.kept hS.2.1).moved hW.alike⟩, (h2.kept hS.2.1).moved hW.alike, ⟨r, (h3.kept hS.2.1).moved hW.alike⟩, (h4.kept hS.2.1).moved hW.alike, (h5.kept hS.2.1).moved hW.alike, fun i hi => vk_R.warm hW (h6 i hi)⟩
theorem Amb.same {G : XG} {s U : State} {H : Heap} (h : Amb G s H) (hv : U.vm = s.vm) : Amb G U H := by
  obtain ⟨⟨adV, h1⟩, h2, ⟨r, h3⟩, h4, h5, h6⟩ := h
  have ha : s.vm.Alike U.vm := by rw [hv]; exact Vm.Alike.refl _
  exact ⟨⟨adV, h1.moved ha⟩, h2.moved ha, ⟨r, h3.moved ha⟩, h4.moved ha, h5.moved ha, fun i hi => vk_R.same hv (h6 i hi)⟩
def Cx (p : Program) (s : State) (m : MethodId) (c : Code) (cc : ByteArray) (nL : Nat) (args : Array Value) (own : String) (G : XG) : Prop :=
  p.tables.exec = Jvm.exec ∧ c.code = cc ∧ c.maxLocals = nL ∧ s.vm.findClass own = some m.cls ∧ (∀ w ∈ TBL, w.before args s = true) ∧ va_K G.1 vwCl (xtys G.2.1) s ∧ (∀ q, s.heap.size ≤ q → G.2.2 q) ∧ Amb G s s.heap
def Wx (p : Program) (l : Launch) (e : Env) (R : Room) (s : State) (m : MethodId) (args : Array Value) (below : List Frame) (meth : Method) (c : Code) (Q : State → Prop) (G : XG) (nL cells slots : Nat) (S : HSt) (pc : Nat) (lv : List (Nat × Value)) (st : List Value) : Prop :=
  ∀ (H : Heap) (locs : List Loc) (ls : Array Slot), Hq G S H → va_S G.2.2 s.heap H locs → lv_has ls nL lv → W p l e R s m args below meth c H locs cells slots Q (F0 m pc ls st)
section XR
variable {p : Program} {l : Launch} {e : Env} {R : Room} {s : State} {m : MethodId} {args : Array Value} {below : List Frame} {meth : Method} {c : Code} {Q : State → Prop} {G : XG} {nL cells slots : Nat} {S : HSt} {pc pc' : Nat} {lv : List (Nat × Value)} {rest : List Value} {cc : ByteArray} {own : String}
theorem x_iconst (C : Cx p s m c cc nL args own G) {n : Int} (v : Int32) (hdg : decode cc pc = .ok (.iconst n, 1)) (hv : Int32.ofInt n = v) (k : Wx p l e R s m args below meth c Q G nL cells slots S (pc + 1) lv (.int v :: rest)) : Wx p l e R s m args below meth c Q G nL cells slots S pc lv rest := fun H locs ls hH hS hl => lv_iconst C.1 C.2.1 hdg hv (k H locs ls hH hS hl)
theorem x_bipush (C : Cx p s m c cc nL args own G) {n : Int} (v : Int32) (hdg : decode cc pc = .ok (.bipush n, 2)) (hv : (Int8.ofInt n).toInt32 = v) (k : Wx p l e R s m args below meth c Q G nL cells slots S (pc + 2) lv (.int v :: rest)) : Wx p l e R s m args below meth c Q G nL cells slots S pc lv rest := fun H locs ls hH hS hl => lv_bipush C.1 C.2.1 hdg hv (k H locs ls hH hS hl)
theorem x_sipush (C : Cx p s m c cc nL args own G) {n : Int} (v : Int32) (hdg : decode cc pc = .ok (.sipush n, 3)) (hv : (Int16.ofInt n).toInt32 = v) (k : Wx p l e R s m args below meth c Q G nL cells slots S (pc + 3) lv (.int v :: rest)) : Wx p l e R s m args below meth c Q G nL cells slots S pc lv rest := fun H locs ls hH hS hl => lv_sipush C.1 C.2.1 hdg hv (k H locs ls hH hS hl)
theorem x_lconst (C : Cx p s m c cc nL args own G) {n : Fin 2} (v : Int64) (hdg : decode cc pc = .ok (.lconst n, 1)) (hv : Int64.ofNat (n : Nat) = v) (k : Wx p l e R s m args below meth c Q G nL cells slots S (pc + 1) lv (.long v :: rest)) : Wx p l e R s m args below meth c Q G nL cells slots S pc lv rest := fun H locs ls hH hS hl => lv_lconst C.1 C.2.1 hdg hv (k H locs ls hH hS hl)
theorem x_ldc (C : Cx p s m c cc nL args own G) {index : Nat} (v : Int32) (hdg : decode cc pc = .ok (.ldc index, 2)) (hw : Cond.constant own index v ∈ TBL) (k : Wx p l e R s m args below meth c Q G nL cells slots S (pc + 2) lv (.int v :: rest)) : Wx p l e R s m args below meth c Q G nL cells slots S pc lv rest := fun H locs ls hH hS hl => lv_ldc C.1 C.2.1 C.2.2.2.1 (C.2.2.2.2.1 _ hw) hdg (k H locs ls hH hS hl)
theorem x_ldc2 (C : Cx p s m c cc nL args own G) {index : Nat} (v : Int64) (hdg : decode cc pc = .ok (.ldc2_w index, 3)) (hw : Cond.constantLong own index v ∈ TBL) (k : Wx p l e R s m args below meth c Q G nL cells slots S (pc + 3) lv (.long v :: rest)) : Wx p l e R s m args below meth c Q G nL cells slots S pc lv rest := fun H locs ls hH hS hl => lv_ldc2 C.1 C.2.1 C.2.2.2.1 (C.2.2.2.2.1 _ hw) hdg (k H locs ls hH hS hl)
theorem x_null (C : Cx p s m c cc nL args own G) (hdg : decode cc pc = .ok (.aconst_null, 1)) (k : Wx p l e R s m args below meth c Q G nL cells slots S (pc + 1) lv (.null :: rest)) : Wx p l e R s m args below meth c Q G nL cells slots S pc lv rest := fun H locs ls hH hS hl => lv_null C.1 C.2.1 hdg (k H locs ls hH hS hl)
theorem x_iload_n (C : Cx p s m c cc nL args own G) {k : Fin 4} {i : Nat} {x : Int32} (j : Nat) (hj : lv[j]? = some (i, .int x)) (hdg : decode cc pc = .ok (.iload_n k, 1)) (hi : (k : Nat) = i) (kk : Wx p l e R s m args below meth c Q G nL cells slots S (pc + 1) lv (.int x :: rest)) : Wx p l e R s m args below meth c Q G nL cells slots S pc lv rest := fun H locs ls hH hS hl => lv_iload_n C.1 C.2.1 hdg hi (lv_at hl j hj) (kk H locs ls hH hS hl)
theorem x_iload (C : Cx p s m c cc nL args own G) {i : Nat} {x : Int32} (j : Nat) (hj : lv[j]? = some (i, .int x)) (hdg : decode cc pc = .ok (.iload i, 2)) (kk : Wx p l e R s m args below meth c Q G nL cells slots S (pc + 2) lv (.int x :: rest)) : Wx p l e R s m args below meth c Q G nL cells slots S pc lv rest := fun H locs ls hH hS hl => lv_iload C.1 C.2.1 hdg (lv_at hl j hj) (kk H locs ls hH hS hl)
theorem x_lload_n (C : Cx p s m c cc nL args own G) {k : Fin 4} {i : Nat} {x : Int64} (j : Nat) (hj : lv[j]? = some (i, .long x)) (hdg : decode cc pc = .ok (.lload_n k, 1)) (hi : (k : Nat) = i) (kk : Wx p l e R s m args below meth c Q G nL cells slots S (pc + 1) lv (.long x :: rest)) : Wx p l e R s m args below meth c Q G nL cells slots S pc lv rest := fun H locs ls hH hS hl => lv_lload_n C.1 C.2.1 hdg hi (lv_at hl j hj) (kk H locs ls hH hS hl)
theorem x_lload (C : Cx p s m c cc nL args own G) {i : Nat} {x : Int64} (j : Nat) (hj : lv[j]? = some (i, .long x)) (hdg : decode cc pc = .ok (.lload i, 2)) (kk : Wx p l e R s m args below meth c Q G nL cells slots S (pc + 2) lv (.long x :: rest)) : Wx p l e R s m args below meth c Q G nL cells slots S pc lv rest := fun H locs ls hH hS hl => lv_lload C.1 C.2.1 hdg (lv_at hl j hj) (kk H locs ls hH hS hl)
theorem lq_aload_n {H : Heap} {locs : List Loc} {ls : Array Slot} (hexec : p.tables.exec = Jvm.exec) (hb : c.code = cc) {k : Fin 4} {i : Nat} {x : Option Nat} (hdg : decode cc pc = .ok (.aload_n k, 1)) (hi : (k : Nat) = i) (hl : ls[i]? = some (.val (va_rf x))) (kk : W p l e R s m args below meth c H locs cells slots Q (F0 m (pc + 1) ls (va_rf x :: rest))) : W p l e R s m args below meth c H locs cells slots Q (F0 m pc ls rest) := by
  subst hi
  intro T hT X
  obtain ⟨t, a, b⟩ := kk T hT X
  refine ⟨t, ?_, b⟩
  cases x with
  | none => jvm_step X.here [X.here.top, hexec, hb, hdg, hl, va_rf, Value.isRef]; exact a
  | some x => jvm_step X.here [X.here.top, hexec, hb, hdg, hl, va_rf, Value.isRef]; exact a
theorem lq_aload {H : Heap} {locs : List Loc} {ls : Array Slot} (hexec : p.tables.exec = Jvm.exec) (hb : c.code = cc) {i : Nat} {x : Option Nat} (hdg : decode cc pc = .ok (.aload i, 2)) (hl : ls[i]? = some (.val (va_rf x))) (kk : W p l e R s m args below meth c H locs cells slots Q (F0 m (pc + 2) ls (va_rf x :: rest))) : W p l e R s m args below meth c H locs cells slots Q (F0 m pc ls rest) := by
  intro T hT X
  obtain ⟨t, a, b⟩ := kk T hT X
  refine ⟨t, ?_, b⟩
  cases x with
  | none => jvm_step X.here [X.here.top, hexec, hb, hdg, hl, va_rf, Value.isRef]; exact a
  | some x => jvm_step X.here [X.here.top, hexec, hb, hdg, hl, va_rf, Value.isRef]; exact a
theorem x_aload_n (C : Cx p s m c cc nL args own G) {k : Fin 4} {i : Nat} {x : Nat} (j : Nat) (hj : lv[j]? = some (i, .ref x)) (hdg : decode cc pc = .ok (.aload_n k, 1)) (hi : (k : Nat) = i) (kk : Wx p l e R s m args below meth c Q G nL cells slots S (pc + 1) lv (.ref x :: rest)) : Wx p l e R s m args below meth c Q G nL cells slots S pc lv rest := fun H locs ls hH hS hl => lv_aload_n C.1 C.2.1 hdg hi (lv_at hl j hj) (kk H locs ls hH hS hl)
theorem x_aload (C : Cx p s m c cc nL args own G) {i : Nat} {x : Nat} (j : Nat) (hj : lv[j]? = some (i, .ref x)) (hdg : decode cc pc = .ok (.aload i, 2)) (kk : Wx p l e R s m args below meth c Q G nL cells slots S (pc + 2) lv (.ref x :: rest)) : Wx p l e R s m args below meth c Q G nL cells slots S pc lv rest := fun H locs ls hH hS hl => lv_aload C.1 C.2.1 hdg (lv_at hl j hj) (kk H locs ls hH hS hl)
theorem x_aload_nq (C : Cx p s m c cc nL args own G) {k : Fin 4} {i : Nat} {x : Option Nat} (j : Nat) (hj : lv[j]? = some (i, va_rf x)) (hdg : decode cc pc = .ok (.aload_n k, 1)) (hi : (k : Nat) = i) (kk : Wx p l e R s m args below meth c Q G nL cells slots S (pc + 1) lv (va_rf x :: rest)) : Wx p l e R s m args below meth c Q G nL cells slots S pc lv rest := fun H locs ls hH hS hl => lq_aload_n C.1 C.2.1 hdg hi (lv_at hl j hj) (kk H locs ls hH hS hl)
theorem x_aload_q (C : Cx p s m c cc nL args own G) {i : Nat} {x : Option Nat} (j : Nat) (hj : lv[j]? = some (i, va_rf x)) (hdg : decode cc pc = .ok (.aload i, 2)) (kk : Wx p l e R s m args below meth c Q G nL cells slots S (pc + 2) lv (va_rf x :: rest)) : Wx p l e R s m args below meth c Q G nL cells slots S pc lv rest := fun H locs ls hH hS hl => lq_aload C.1 C.2.1 hdg (lv_at hl j hj) (kk H locs ls hH hS hl)
theorem x_istore_n (C : Cx p s m c cc nL args own G) {k : Fin 4} {i : Nat} {x : Int32} (lv' : List (Nat × Value)) (hdg : decode cc pc = .ok (.istore_n k, 1)) (hi : (k : Nat) = i) (hn : i < nL) (hl' : (i, Value.int x) :: lv.filter (fun q => !(q.1 == i) && !(q.1 + 1 == i && q.2.category == 2)) = lv') (kk : Wx p l e R s m args below meth c Q G nL cells slots S (pc + 1) lv' rest) : Wx p l e R s m args below meth c Q G nL cells slots S pc lv (.int x :: rest) := fun H locs ls hH hS hl => lv_istore_n C.1 C.2.1 hdg hi hl hn hl' (fun ls hl => kk H locs ls hH hS hl)
theorem x_istore (C : Cx p s m c cc nL args own G) {i : Nat} {x : Int32} (lv' : List (Nat × Value)) (hdg : decode cc pc = .ok (.istore i, 2)) (hn : i < nL) (hl' : (i, Value.int x) :: lv.filter (fun q => !(q.1 == i) && !(q.1 + 1 == i && q.2.category == 2)) = lv') (kk : Wx p l e R s m args below meth c Q G nL cells slots S (pc + 2) lv' rest) : Wx p l e R s m args below meth c Q G nL cells slots S pc lv (.int x :: rest) := fun H locs ls hH hS hl => lv_istore C.1 C.2.1 hdg hl hn hl' (fun ls hl => kk H locs ls hH hS hl)
theorem x_lstore_n (C : Cx p s m c cc nL args own G) {k : Fin 4} {i : Nat} {x : Int64} (lv' : List (Nat × Value)) (hdg : decode cc pc = .ok (.lstore_n k, 1)) (hi : (k : Nat) = i) (hn : i + 1 < nL) (hl' : (i, Value.long x) :: lv.filter (fun q => !(q.1 == i) && (!(q.1 == i + 1) && !(q.1 + 1 == i && q.2.category == 2))) = lv') (kk : Wx p l e R s m args below meth c Q G nL cells slots S (pc + 1) lv' rest) : Wx p l e R s m args below meth c Q G nL cells slots S pc lv (.long x :: rest) := fun H locs ls hH hS hl => lv_lstore_n C.1 C.2.1 hdg hi hl hn hl' (fun ls hl => kk H locs ls hH hS hl)
theorem x_lstore (C : Cx p s m c cc nL args own G) {i : Nat} {x : Int64} (lv' : List (Nat × Value)) (hdg : decode cc pc = .ok (.lstore i, 2)) (hn : i + 1 < nL) (hl' : (i, Value.long x) :: lv.filter (fun q => !(q.1 == i) && (!(q.1 == i + 1) && !(q.1 + 1 == i && q.2.category == 2))) = lv') (kk : Wx p l e R s m args below meth c Q G nL cells slots S (pc + 2) lv' rest) : Wx p l e R s m args below meth c Q G nL cells slots S pc lv (.long x :: rest) := fun H locs ls hH hS hl => lv_lstore C.1 C.2.1 hdg hl hn hl' (fun ls hl => kk H locs ls hH hS hl)
theorem x_astore_n (C : Cx p s m c cc nL args own G) {k : Fin 4} {i : Nat} {x : Nat} (lv' : List (Nat × Value)) (hdg : decode cc pc = .ok (.astore_n k, 1)) (hi : (k : Nat) = i) (hn : i < nL) (hl' : (i, Value.ref x) :: lv.filter (fun q => !(q.1 == i) && !(q.1 + 1 == i && q.2.category == 2)) = lv') (kk : Wx p l e R s m args below meth c Q G nL cells slots S (pc + 1) lv' rest) : Wx p l e R s m args below meth c Q G nL cells slots S pc lv (.ref x :: rest) := fun H locs ls hH hS hl => lv_astore_n C.1 C.2.1 hdg hi hl hn hl' (fun ls hl => kk H locs ls hH hS hl)
theorem x_astore (C : Cx p s m c cc nL args own G) {i : Nat} {x : Nat} (lv' : List (Nat × Value)) (hdg : decode cc pc = .ok (.astore i, 2)) (hn : i < nL) (hl' : (i, Value.ref x) :: lv.filter (fun q => !(q.1 == i) && !(q.1 + 1 == i && q.2.category == 2)) = lv') (kk : Wx p l e R s m args below meth c Q G nL cells slots S (pc + 2) lv' rest) : Wx p l e R s m args below meth c Q G nL cells slots S pc lv (.ref x :: rest) := fun H locs ls hH hS hl => lv_astore C.1 C.2.1 hdg hl hn hl' (fun ls hl => kk H locs ls hH hS hl)
theorem lq_astore {H : Heap} {locs : List Loc} {ls : Array Slot} (hexec : p.tables.exec = Jvm.exec) (hb : c.code = cc) {i nL : Nat} {x : Option Nat} {lv lv' : List (Nat × Value)} (hdg : decode cc pc = .ok (.astore i, 2)) (h : lv_has ls nL lv) (hn : i < nL) (hl : (i, va_rf x) :: lv.filter (fun q => !(q.1 == i) && !(q.1 + 1 == i && q.2.category == 2)) = lv') (kk : ∀ ls' : Array Slot, lv_has ls' nL lv' → W p l e R s m args below meth c H locs cells slots Q (F0 m (pc + 2) ls' rest)) : W p l e R s m args below meth c H locs cells slots Q (F0 m pc ls (va_rf x :: rest)) := by
  cases x with
  | some x => exact lv_astore hexec hb hdg h hn hl kk
  | none =>
    obtain ⟨ls', e', h'⟩ := lv_store1 (v := .null) h hn rfl
    intro T hT X
    obtain ⟨t, a, b⟩ := kk ls' (hl ▸ h') T hT X
    refine ⟨t, ?_, b⟩
    jvm_step X.here [X.here.top, ↓top_set X.here.top, hexec, hb, hdg, e', va_rf, Value.isRef]
    exact a
theorem lq_astore_n {H : Heap} {locs : List Loc} {ls : Array Slot} (hexec : p.tables.exec = Jvm.exec) (hb : c.code = cc) {k : Fin 4} {i nL : Nat} {x : Option Nat} {lv lv' : List (Nat × Value)} (hdg : decode cc pc = .ok (.astore_n k, 1)) (hi : (k : Nat) = i) (h : lv_has ls nL lv) (hn : i < nL) (hl : (i, va_rf x) :: lv.filter (fun q => !(q.1 == i) && !(q.1 + 1 == i && q.2.category == 2)) = lv') (kk : ∀ ls' : Array Slot, lv_has ls' nL lv' → W p l e R s m args below meth c H locs cells slots Q (F0 m (pc + 1) ls' rest)) : W p l e R s m args below meth c H locs cells slots Q (F0 m pc ls (va_rf x :: rest)) := by
  cases x with
  | some x => exact lv_astore_n hexec hb hdg hi h hn hl kk
  | none =>
    subst hi
    obtain ⟨ls', e', h'⟩ := lv_store1 (v := .null) h hn rfl
    intro T hT X
    obtain ⟨t, a, b⟩ := kk ls' (hl ▸ h') T hT X
    refine ⟨t, ?_, b⟩
    jvm_step X.here [X.here.top, ↓top_set X.here.top, hexec, hb, hdg, e', va_rf, Value.isRef]
    exact a
theorem x_astore_nq (C : Cx p s m c cc nL args own G) {k : Fin 4} {i : Nat} {x : Option Nat} (lv' : List (Nat × Value)) (hdg : decode cc pc = .ok (.astore_n k, 1)) (hi : (k : Nat) = i) (hn : i < nL) (hl' : (i, va_rf x) :: lv.filter (fun q => !(q.1 == i) && !(q.1 + 1 == i && q.2.category == 2)) = lv') (kk : Wx p l e R s m args below meth c Q G nL cells slots S (pc + 1) lv' rest) : Wx p l e R s m args below meth c Q G nL cells slots S pc lv (va_rf x :: rest) := fun H locs ls hH hS hl => lq_astore_n C.1 C.2.1 hdg hi hl hn hl' (fun ls hl => kk H locs ls hH hS hl)
theorem x_astore_q (C : Cx p s m c cc nL args own G) {i : Nat} {x : Option Nat} (lv' : List (Nat × Value)) (hdg : decode cc pc = .ok (.astore i, 2)) (hn : i < nL) (hl' : (i, va_rf x) :: lv.filter (fun q => !(q.1 == i) && !(q.1 + 1 == i && q.2.category == 2)) = lv') (kk : Wx p l e R s m args below meth c Q G nL cells slots S (pc + 2) lv' rest) : Wx p l e R s m args below meth c Q G nL cells slots S pc lv (va_rf x :: rest) := fun H locs ls hH hS hl => lq_astore C.1 C.2.1 hdg hl hn hl' (fun ls hl => kk H locs ls hH hS hl)
theorem x_iinc (C : Cx p s m c cc nL args own G) {i : Nat} {n : Int} {x : Int32} (v : Int32) (j : Nat) (hj : lv[j]? = some (i, .int x)) (lv' : List (Nat × Value)) (hdg : decode cc pc = .ok (.iinc i n, 3)) (hv : x + Int32.ofInt n = v) (hn : i < nL) (hl' : (i, Value.int v) :: lv.filter (fun q => !(q.1 == i) && !(q.1 + 1 == i && q.2.category == 2)) = lv') (kk : Wx p l e R s m args below meth c Q G nL cells slots S (pc + 3) lv' rest) : Wx p l e R s m args below meth c Q G nL cells slots S pc lv rest := fun H locs ls hH hS hl => lv_iinc C.1 C.2.1 hdg hl hj hv hn hl' (fun ls hl => kk H locs ls hH hS hl)
theorem x_iadd (C : Cx p s m c cc nL args own G) {x y : Int32} (hdg : decode cc pc = .ok (.iadd, 1)) (k : Wx p l e R s m args below meth c Q G nL cells slots S (pc + 1) lv (.int (x + y) :: rest)) : Wx p l e R s m args below meth c Q G nL cells slots S pc lv (.int y :: .int x :: rest) := fun H locs ls hH hS hl => lv_iadd C.1 C.2.1 hdg (k H locs ls hH hS hl)
theorem x_isub (C : Cx p s m c cc nL args own G) {x y : Int32} (hdg : decode cc pc = .ok (.isub, 1)) (k : Wx p l e R s m args below meth c Q G nL cells slots S (pc + 1) lv (.int (x - y) :: rest)) : Wx p l e R s m args below meth c Q G nL cells slots S pc lv (.int y :: .int x :: rest) := fun H locs ls hH hS hl => lv_isub C.1 C.2.1 hdg (k H locs ls hH hS hl)
theorem x_imul (C : Cx p s m c cc nL args own G) {x y : Int32} (hdg : decode cc pc = .ok (.imul, 1)) (k : Wx p l e R s m args below meth c Q G nL cells slots S (pc + 1) lv (.int (x * y) :: rest)) : Wx p l e R s m args below meth c Q G nL cells slots S pc lv (.int y :: .int x :: rest) := fun H locs ls hH hS hl => lv_imul C.1 C.2.1 hdg (k H locs ls hH hS hl)
theorem x_iand (C : Cx p s m c cc nL args own G) {x y : Int32} (hdg : decode cc pc = .ok (.iand, 1)) (k : Wx p l e R s m args below meth c Q G nL cells slots S (pc + 1) lv (.int (x &&& y) :: rest)) : Wx p l e R s m args below meth c Q G nL cells slots S pc lv (.int y :: .int x :: rest) := fun H locs ls hH hS hl => lv_iand C.1 C.2.1 hdg (k H locs ls hH hS hl)
theorem x_ior (C : Cx p s m c cc nL args own G) {x y : Int32} (hdg : decode cc pc = .ok (.ior, 1)) (k : Wx p l e R s m args below meth c Q G nL cells slots S (pc + 1) lv (.int (x ||| y) :: rest)) : Wx p l e R s m args below meth c Q G nL cells slots S pc lv (.int y :: .int x :: rest) := fun H locs ls hH hS hl => lv_ior C.1 C.2.1 hdg (k H locs ls hH hS hl)
theorem x_idiv (C : Cx p s m c cc nL args own G) {x y : Int32} (hdg : decode cc pc = .ok (.idiv, 1)) (hne : ¬ y = 0) (k : Wx p l e R s m args below meth c Q G nL cells slots S (pc + 1) lv (.int (x / y) :: rest)) : Wx p l e R s m args below meth c Q G nL cells slots S pc lv (.int y :: .int x :: rest) := fun H locs ls hH hS hl => lv_idiv C.1 C.2.1 hdg hne (k H locs ls hH hS hl)
theorem x_irem (C : Cx p s m c cc nL args own G) {x y : Int32} (hdg : decode cc pc = .ok (.irem, 1)) (hne : ¬ y = 0) (k : Wx p l e R s m args below meth c Q G nL cells slots S (pc + 1) lv (.int (x - x / y * y) :: rest)) : Wx p l e R s m args below meth c Q G nL cells slots S pc lv (.int y :: .int x :: rest) := fun H locs ls hH hS hl => lv_irem C.1 C.2.1 hdg hne (k H locs ls hH hS hl)
theorem x_ladd (C : Cx p s m c cc nL args own G) {x y : Int64} (hdg : decode cc pc = .ok (.ladd, 1)) (k : Wx p l e R s m args below meth c Q G nL cells slots S (pc + 1) lv (.long (x + y) :: rest)) : Wx p l e R s m args below meth c Q G nL cells slots S pc lv (.long y :: .long x :: rest) := fun H locs ls hH hS hl => lv_ladd C.1 C.2.1 hdg (k H locs ls hH hS hl)
theorem x_lsub (C : Cx p s m c cc nL args own G) {x y : Int64} (hdg : decode cc pc = .ok (.lsub, 1)) (k : Wx p l e R s m args below meth c Q G nL cells slots S (pc + 1) lv (.long (x - y) :: rest)) : Wx p l e R s m args below meth c Q G nL cells slots S pc lv (.long y :: .long x :: rest) := fun H locs ls hH hS hl => lv_lsub C.1 C.2.1 hdg (k H locs ls hH hS hl)
theorem x_lmul (C : Cx p s m c cc nL args own G) {x y : Int64} (hdg : decode cc pc = .ok (.lmul, 1)) (k : Wx p l e R s m args below meth c Q G nL cells slots S (pc + 1) lv (.long (x * y) :: rest)) : Wx p l e R s m args below meth c Q G nL cells slots S pc lv (.long y :: .long x :: rest) := fun H locs ls hH hS hl => lv_lmul C.1 C.2.1 hdg (k H locs ls hH hS hl)
theorem x_land (C : Cx p s m c cc nL args own G) {x y : Int64} (hdg : decode cc pc = .ok (.land, 1)) (k : Wx p l e R s m args below meth c Q G nL cells slots S (pc + 1) lv (.long (x &&& y) :: rest)) : Wx p l e R s m args below meth c Q G nL cells slots S pc lv (.long y :: .long x :: rest) := fun H locs ls hH hS hl => lv_land C.1 C.2.1 hdg (k H locs ls hH hS hl)
theorem x_lor (C : Cx p s m c cc nL args own G) {x y : Int64} (hdg : decode cc pc = .ok (.lor, 1)) (k : Wx p l e R s m args below meth c Q G nL cells slots S (pc + 1) lv (.long (x ||| y) :: rest)) : Wx p l e R s m args below meth c Q G nL cells slots S pc lv (.long y :: .long x :: rest) := fun H locs ls hH hS hl => lv_lor C.1 C.2.1 hdg (k H locs ls hH hS hl)
theorem x_ldiv (C : Cx p s m c cc nL args own G) {x y : Int64} (hdg : decode cc pc = .ok (.ldiv, 1)) (hne : ¬ y = 0) (k : Wx p l e R s m args below meth c Q G nL cells slots S (pc + 1) lv (.long (x / y) :: rest)) : Wx p l e R s m args below meth c Q G nL cells slots S pc lv (.long y :: .long x :: rest) := fun H locs ls hH hS hl => lv_ldiv C.1 C.2.1 hdg hne (k H locs ls hH hS hl)
theorem x_lrem (C : Cx p s m c cc nL args own G) {x y : Int64} (hdg : decode cc pc = .ok (.lrem, 1)) (hne : ¬ y = 0) (k : Wx p l e R s m args below meth c Q G nL cells slots S (pc + 1) lv (.long (x - x / y * y) :: rest)) : Wx p l e R s m args below meth c Q G nL cells slots S pc lv (.long y :: .long x :: rest) := fun H locs ls hH hS hl => lv_lrem C.1 C.2.1 hdg hne (k H locs ls hH hS hl)
theorem x_ineg (C : Cx p s m c cc nL args own G) {x : Int32} (hdg : decode cc pc = .ok (.ineg, 1)) (k : Wx p l e R s m args below meth c Q G nL cells slots S (pc + 1) lv (.int (-x) :: rest)) : Wx p l e R s m args below meth c Q G nL cells slots S pc lv (.int x :: rest) := fun H locs ls hH hS hl => lv_ineg C.1 C.2.1 hdg (k H locs ls hH hS hl)
theorem x_i2l (C : Cx p s m c cc nL args own G) {x : Int32} (hdg : decode cc pc = .ok (.i2l, 1)) (k : Wx p l e R s m args below meth c Q G nL cells slots S (pc + 1) lv (.long x.toInt64 :: rest)) : Wx p l e R s m args below meth c Q G nL cells slots S pc lv (.int x :: rest) := fun H locs ls hH hS hl => lv_i2l C.1 C.2.1 hdg rfl (k H locs ls hH hS hl)
theorem x_l2i (C : Cx p s m c cc nL args own G) {x : Int64} (hdg : decode cc pc = .ok (.l2i, 1)) (k : Wx p l e R s m args below meth c Q G nL cells slots S (pc + 1) lv (.int x.toInt32 :: rest)) : Wx p l e R s m args below meth c Q G nL cells slots S pc lv (.long x :: rest) := fun H locs ls hH hS hl => lv_l2i C.1 C.2.1 hdg rfl (k H locs ls hH hS hl)
theorem x_i2b (C : Cx p s m c cc nL args own G) {x : Int32} (hdg : decode cc pc = .ok (.i2b, 1)) (k : Wx p l e R s m args below meth c Q G nL cells slots S (pc + 1) lv (.int x.toInt8.toInt32 :: rest)) : Wx p l e R s m args below meth c Q G nL cells slots S pc lv (.int x :: rest) := fun H locs ls hH hS hl => lv_i2b C.1 C.2.1 hdg rfl (k H locs ls hH hS hl)
theorem x_i2s (C : Cx p s m c cc nL args own G) {x : Int32} (hdg : decode cc pc = .ok (.i2s, 1)) (k : Wx p l e R s m args below meth c Q G nL cells slots S (pc + 1) lv (.int x.toInt16.toInt32 :: rest)) : Wx p l e R s m args below meth c Q G nL cells slots S pc lv (.int x :: rest) := fun H locs ls hH hS hl => lv_i2s C.1 C.2.1 hdg rfl (k H locs ls hH hS hl)
theorem x_lshl (C : Cx p s m c cc nL args own G) {x : Int64} {y : Int32} (hdg : decode cc pc = .ok (.lshl, 1)) (k : Wx p l e R s m args below meth c Q G nL cells slots S (pc + 1) lv (.long (x <<< (y.toInt64 &&& 63)) :: rest)) : Wx p l e R s m args below meth c Q G nL cells slots S pc lv (.int y :: .long x :: rest) := fun H locs ls hH hS hl => lv_lshl C.1 C.2.1 hdg rfl (k H locs ls hH hS hl)
theorem x_lshr (C : Cx p s m c cc nL args own G) {x : Int64} {y : Int32} (hdg : decode cc pc = .ok (.lshr, 1)) (k : Wx p l e R s m args below meth c Q G nL cells slots S (pc + 1) lv (.long (x >>> (y.toInt64 &&& 63)) :: rest)) : Wx p l e R s m args below meth c Q G nL cells slots S pc lv (.int y :: .long x :: rest) := fun H locs ls hH hS hl => lv_lshr C.1 C.2.1 hdg rfl (k H locs ls hH hS hl)
theorem x_lcmp (C : Cx p s m c cc nL args own G) {x y : Int64} (hdg : decode cc pc = .ok (.lcmp, 1)) (k : Wx p l e R s m args below meth c Q G nL cells slots S (pc + 1) lv (.int (lg_cmp x y) :: rest)) : Wx p l e R s m args below meth c Q G nL cells slots S pc lv (.long y :: .long x :: rest) := fun H locs ls hH hS hl => W.lcmp C.1 C.2.1 hdg (k H locs ls hH hS hl)
theorem x_dup (C : Cx p s m c cc nL args own G) {va : Value} (hdg : decode cc pc = .ok (.dup, 1)) (hva : va.category = 1) (k : Wx p l e R s m args below meth c Q G nL cells slots S (pc + 1) lv (va :: va :: rest)) : Wx p l e R s m args below meth c Q G nL cells slots S pc lv (va :: rest) := fun H locs ls hH hS hl => lv_dup C.1 C.2.1 hdg hva (k H locs ls hH hS hl)
theorem x_pop (C : Cx p s m c cc nL args own G) {va : Value} (hdg : decode cc pc = .ok (.pop, 1)) (hva : va.category = 1) (k : Wx p l e R s m args below meth c Q G nL cells slots S (pc + 1) lv (rest)) : Wx p l e R s m args below meth c Q G nL cells slots S pc lv (va :: rest) := fun H locs ls hH hS hl => lv_pop C.1 C.2.1 hdg hva (k H locs ls hH hS hl)
theorem x_dup_x1 (C : Cx p s m c cc nL args own G) {va vb : Value} (hdg : decode cc pc = .ok (.dup_x1, 1)) (hva : va.category = 1) (hvb : vb.category = 1) (k : Wx p l e R s m args below meth c Q G nL cells slots S (pc + 1) lv (va :: vb :: va :: rest)) : Wx p l e R s m args below meth c Q G nL cells slots S pc lv (va :: vb :: rest) := fun H locs ls hH hS hl => lv_dup_x1 C.1 C.2.1 hdg hva hvb (k H locs ls hH hS hl)
theorem x_dup2 (C : Cx p s m c cc nL args own G) {va vb : Value} (hdg : decode cc pc = .ok (.dup2, 1)) (hva : va.category = 1) (hvb : vb.category = 1) (k : Wx p l e R s m args below meth c Q G nL cells slots S (pc + 1) lv (va :: vb :: va :: vb :: rest)) : Wx p l e R s m args below meth c Q G nL cells slots S pc lv (va :: vb :: rest) := fun H locs ls hH hS hl => lv_dup2_11 C.1 C.2.1 hdg hva hvb (k H locs ls hH hS hl)
theorem x_if_eq (C : Cx p s m c cc nL args own G) {x : Int32} {off : Int} (tgt : Nat) (hdg : decode cc pc = .ok (.ifCond .eq off, 3)) (ht : (pc : Int) + off = (tgt : Int)) (kt : x = 0 → Wx p l e R s m args below meth c Q G nL cells slots S tgt lv rest) (kf : ¬ x = 0 → Wx p l e R s m args below meth c Q G nL cells slots S (pc + 3) lv rest) : Wx p l e R s m args below meth c Q G nL cells slots S pc lv (.int x :: rest) := fun H locs ls hH hS hl => lv_if_eq C.1 C.2.1 hdg ht (fun q => kt q H locs ls hH hS hl) (fun q => kf q H locs ls hH hS hl)
theorem x_ic_eq (C : Cx p s m c cc nL args own G) {x y : Int32} {off : Int} (tgt : Nat) (hdg : decode cc pc = .ok (.if_icmp .eq off, 3)) (ht : (pc : Int) + off = (tgt : Int)) (kt : x = y → Wx p l e R s m args below meth c Q G nL cells slots S tgt lv rest) (kf : ¬ x = y → Wx p l e R s m args below meth c Q G nL cells slots S (pc + 3) lv rest) : Wx p l e R s m args below meth c Q G nL cells slots S pc lv (.int y :: .int x :: rest) := fun H locs ls hH hS hl => lv_icmp_eq C.1 C.2.1 hdg ht (fun q => kt q H locs ls hH hS hl) (fun q => kf q H locs ls hH hS hl)
theorem x_if_ne (C : Cx p s m c cc nL args own G) {x : Int32} {off : Int} (tgt : Nat) (hdg : decode cc pc = .ok (.ifCond .ne off, 3)) (ht : (pc : Int) + off = (tgt : Int)) (kt : ¬ x = 0 → Wx p l e R s m args below meth c Q G nL cells slots S tgt lv rest) (kf : x = 0 → Wx p l e R s m args below meth c Q G nL cells slots S (pc + 3) lv rest) : Wx p l e R s m args below meth c Q G nL cells slots S pc lv (.int x :: rest) := fun H locs ls hH hS hl => lv_if_ne C.1 C.2.1 hdg ht (fun q => kt q H locs ls hH hS hl) (fun q => kf q H locs ls hH hS hl)
theorem x_ic_ne (C : Cx p s m c cc nL args own G) {x y : Int32} {off : Int} (tgt : Nat) (hdg : decode cc pc = .ok (.if_icmp .ne off, 3)) (ht : (pc : Int) + off = (tgt : Int)) (kt : ¬ x = y → Wx p l e R s m args below meth c Q G nL cells slots S tgt lv rest) (kf : x = y → Wx p l e R s m args below meth c Q G nL cells slots S (pc + 3) lv rest) : Wx p l e R s m args below meth c Q G nL cells slots S pc lv (.int y :: .int x :: rest) := fun H locs ls hH hS hl => lv_icmp_ne C.1 C.2.1 hdg ht (fun q => kt q H locs ls hH hS hl) (fun q => kf q H locs ls hH hS hl)
theorem x_if_lt (C : Cx p s m c cc nL args own G) {x : Int32} {off : Int} (tgt : Nat) (hdg : decode cc pc = .ok (.ifCond .lt off, 3)) (ht : (pc : Int) + off = (tgt : Int)) (kt : x < 0 → Wx p l e R s m args below meth c Q G nL cells slots S tgt lv rest) (kf : ¬ x < 0 → Wx p l e R s m args below meth c Q G nL cells slots S (pc + 3) lv rest) : Wx p l e R s m args below meth c Q G nL cells slots S pc lv (.int x :: rest) := fun H locs ls hH hS hl => lv_if_lt C.1 C.2.1 hdg ht (fun q => kt q H locs ls hH hS hl) (fun q => kf q H locs ls hH hS hl)
theorem x_ic_lt (C : Cx p s m c cc nL args own G) {x y : Int32} {off : Int} (tgt : Nat) (hdg : decode cc pc = .ok (.if_icmp .lt off, 3)) (ht : (pc : Int) + off = (tgt : Int)) (kt : x < y → Wx p l e R s m args below meth c Q G nL cells slots S tgt lv rest) (kf : ¬ x < y → Wx p l e R s m args below meth c Q G nL cells slots S (pc + 3) lv rest) : Wx p l e R s m args below meth c Q G nL cells slots S pc lv (.int y :: .int x :: rest) := fun H locs ls hH hS hl => lv_icmp_lt C.1 C.2.1 hdg ht (fun q => kt q H locs ls hH hS hl) (fun q => kf q H locs ls hH hS hl)
theorem x_if_ge (C : Cx p s m c cc nL args own G) {x : Int32} {off : Int} (tgt : Nat) (hdg : decode cc pc = .ok (.ifCond .ge off, 3)) (ht : (pc : Int) + off = (tgt : Int)) (kt : 0 ≤ x → Wx p l e R s m args below meth c Q G nL cells slots S tgt lv rest) (kf : ¬ 0 ≤ x → Wx p l e R s m args below meth c Q G nL cells slots S (pc + 3) lv rest) : Wx p l e R s m args below meth c Q G nL cells slots S pc lv (.int x :: rest) := fun H locs ls hH hS hl => lv_if_ge C.1 C.2.1 hdg ht (fun q => kt q H locs ls hH hS hl) (fun q => kf q H locs ls hH hS hl)
theorem x_ic_ge (C : Cx p s m c cc nL args own G) {x y : Int32} {off : Int} (tgt : Nat) (hdg : decode cc pc = .ok (.if_icmp .ge off, 3)) (ht : (pc : Int) + off = (tgt : Int)) (kt : y ≤ x → Wx p l e R s m args below meth c Q G nL cells slots S tgt lv rest) (kf : ¬ y ≤ x → Wx p l e R s m args below meth c Q G nL cells slots S (pc + 3) lv rest) : Wx p l e R s m args below meth c Q G nL cells slots S pc lv (.int y :: .int x :: rest) := fun H locs ls hH hS hl => lv_icmp_ge C.1 C.2.1 hdg ht (fun q => kt q H locs ls hH hS hl) (fun q => kf q H locs ls hH hS hl)
theorem x_if_gt (C : Cx p s m c cc nL args own G) {x : Int32} {off : Int} (tgt : Nat) (hdg : decode cc pc = .ok (.ifCond .gt off, 3)) (ht : (pc : Int) + off = (tgt : Int)) (kt : 0 < x → Wx p l e R s m args below meth c Q G nL cells slots S tgt lv rest) (kf : ¬ 0 < x → Wx p l e R s m args below meth c Q G nL cells slots S (pc + 3) lv rest) : Wx p l e R s m args below meth c Q G nL cells slots S pc lv (.int x :: rest) := fun H locs ls hH hS hl => lv_if_gt C.1 C.2.1 hdg ht (fun q => kt q H locs ls hH hS hl) (fun q => kf q H locs ls hH hS hl)
theorem x_ic_gt (C : Cx p s m c cc nL args own G) {x y : Int32} {off : Int} (tgt : Nat) (hdg : decode cc pc = .ok (.if_icmp .gt off, 3)) (ht : (pc : Int) + off = (tgt : Int)) (kt : y < x → Wx p l e R s m args below meth c Q G nL cells slots S tgt lv rest) (kf : ¬ y < x → Wx p l e R s m args below meth c Q G nL cells slots S (pc + 3) lv rest) : Wx p l e R s m args below meth c Q G nL cells slots S pc lv (.int y :: .int x :: rest) := fun H locs ls hH hS hl => lv_icmp_gt C.1 C.2.1 hdg ht (fun q => kt q H locs ls hH hS hl) (fun q => kf q H locs ls hH hS hl)
theorem x_if_le (C : Cx p s m c cc nL args own G) {x : Int32} {off : Int} (tgt : Nat) (hdg : decode cc pc = .ok (.ifCond .le off, 3)) (ht : (pc : Int) + off = (tgt : Int)) (kt : x ≤ 0 → Wx p l e R s m args below meth c Q G nL cells slots S tgt lv rest) (kf : ¬ x ≤ 0 → Wx p l e R s m args below meth c Q G nL cells slots S (pc + 3) lv rest) : Wx p l e R s m args below meth c Q G nL cells slots S pc lv (.int x :: rest) := fun H locs ls hH hS hl => lv_if_le C.1 C.2.1 hdg ht (fun q => kt q H locs ls hH hS hl) (fun q => kf q H locs ls hH hS hl)
theorem x_ic_le (C : Cx p s m c cc nL args own G) {x y : Int32} {off : Int} (tgt : Nat) (hdg : decode cc pc = .ok (.if_icmp .le off, 3)) (ht : (pc : Int) + off = (tgt : Int)) (kt : x ≤ y → Wx p l e R s m args below meth c Q G nL cells slots S tgt lv rest) (kf : ¬ x ≤ y → Wx p l e R s m args below meth c Q G nL cells slots S (pc + 3) lv rest) : Wx p l e R s m args below meth c Q G nL cells slots S pc lv (.int y :: .int x :: rest) := fun H locs ls hH hS hl => lv_icmp_le C.1 C.2.1 hdg ht (fun q => kt q H locs ls hH hS hl) (fun q => kf q H locs ls hH hS hl)
theorem x_goto (C : Cx p s m c cc nL args own G) {off : Int} (tgt : Nat) (hdg : decode cc pc = .ok (.goto off, 3)) (ht : (pc : Int) + off = (tgt : Int)) (k : Wx p l e R s m args below meth c Q G nL cells slots S tgt lv rest) : Wx p l e R s m args below meth c Q G nL cells slots S pc lv rest := fun H locs ls hH hS hl => lv_goto C.1 C.2.1 hdg ht (k H locs ls hH hS hl)
theorem x_ifnull (C : Cx p s m c cc nL args own G) {t : Option Nat} {off : Int} (tgt : Nat) (hdg : decode cc pc = .ok (.ifnull off, 3)) (ht : (pc : Int) + off = (tgt : Int)) (kt : t = none → Wx p l e R s m args below meth c Q G nL cells slots S tgt lv rest) (kf : ∀ b, t = some b → Wx p l e R s m args below meth c Q G nL cells slots S (pc + 3) lv rest) : Wx p l e R s m args below meth c Q G nL cells slots S pc lv (va_rf t :: rest) := by
  intro H locs ls hH hS hl
  cases t with
  | none => exact lv_ifnullN C.1 C.2.1 hdg ht (kt rfl H locs ls hH hS hl)
  | some b => exact lv_ifnull C.1 C.2.1 hdg (kf b rfl H locs ls hH hS hl)
theorem x_ifnonnull (C : Cx p s m c cc nL args own G) {t : Option Nat} {off : Int} (tgt : Nat) (hdg : decode cc pc = .ok (.ifnonnull off, 3)) (ht : (pc : Int) + off = (tgt : Int)) (kf : t = none → Wx p l e R s m args below meth c Q G nL cells slots S (pc + 3) lv rest) (kt : ∀ b, t = some b → Wx p l e R s m args below meth c Q G nL cells slots S tgt lv rest) : Wx p l e R s m args below meth c Q G nL cells slots S pc lv (va_rf t :: rest) := by
  intro H locs ls hH hS hl
  cases t with
  | none => exact lv_ifnonnullN C.1 C.2.1 hdg (kf rfl H locs ls hH hS hl)
  | some b => exact lv_ifnonnull C.1 C.2.1 hdg ht (kt b rfl H locs ls hH hS hl)
theorem x_sub (ks : List Nat) (lv' : List (Nat × Value)) (h : lv_pick lv ks = lv') (k : Wx p l e R s m args below meth c Q G nL cells slots S pc lv' rest) : Wx p l e R s m args below meth c Q G nL cells slots S pc lv rest := fun H locs ls hH hS hl => k H locs ls hH hS (lv_sub hl ks h)
theorem x_pc (h : pc = pc') (k : Wx p l e R s m args below meth c Q G nL cells slots S pc' lv rest) : Wx p l e R s m args below meth c Q G nL cells slots S pc lv rest := h ▸ k
theorem x_tableOut (C : Cx p s m c cc nL args own G) {dflt lo hi : Int} {offs : Array Int} {len : Nat} {x : Int32} (tgt : Nat) (hdg : decode cc pc = .ok (.tableswitch dflt lo hi offs, len)) (h : x.toInt < lo ∨ hi < x.toInt) (ht : (pc : Int) + dflt = (tgt : Int)) (k : Wx p l e R s m args below meth c Q G nL cells slots S tgt lv rest) : Wx p l e R s m args below meth c Q G nL cells slots S pc lv (.int x :: rest) := fun H locs ls hH hS hl => lv_tableOut C.1 C.2.1 hdg h ht (k H locs ls hH hS hl)
theorem x_tableIn (C : Cx p s m c cc nL args own G) {dflt lo hi : Int} {offs : Array Int} {len : Nat} {x : Int32} {off : Int} (tgt : Nat) (hdg : decode cc pc = .ok (.tableswitch dflt lo hi offs, len)) (h1 : ¬ x.toInt < lo) (h2 : ¬ hi < x.toInt) (ho : offs[(x.toInt - lo).toNat]? = some off) (ht : (pc : Int) + off = (tgt : Int)) (k : Wx p l e R s m args below meth c Q G nL cells slots S tgt lv rest) : Wx p l e R s m args below meth c Q G nL cells slots S pc lv (.int x :: rest) := fun H locs ls hH hS hl => lv_tableIn C.1 C.2.1 hdg h1 h2 ho ht (k H locs ls hH hS hl)
theorem x_lookup (C : Cx p s m c cc nL args own G) {dflt : Int} {ps : Array (Int × Int)} {len : Nat} {x : Int32} {off : Int} (tgt : Nat) (hdg : decode cc pc = .ok (.lookupswitch dflt ps, len)) (hp : (ps.toList.zip (ps.toList.drop 1)).all (fun (a, next) => a.1 < next.1) = true) (ho : Op.lookupswitch.offset ps.toList dflt x.toInt = off) (ht : (pc : Int) + off = (tgt : Int)) (k : Wx p l e R s m args below meth c Q G nL cells slots S tgt lv rest) : Wx p l e R s m args below meth c Q G nL cells slots S pc lv (.int x :: rest) := fun H locs ls hH hS hl => lv_lookup C.1 C.2.1 hdg hp ho ht (k H locs ls hH hS hl)
/-- a field that an instruction names: its class's kind, its type (0 int, 1 long, 2 reference), its number -/
def FldR (own : String) (index kd t f : Nat) : Prop := ∃ (C : String) (T : u_T) (N k : Nat), 0 < kd ∧ kd < 14 ∧ vwCl[kd - 1]? = some (C, T, N) ∧ (flds kd)[k]? = some (t, f) ∧ (∀ w ∈ u_ws C T N, w ∈ TBL) ∧ k < N ∧ Cond.fieldLink own index (T k).1 (T k).2.1 (T k).2.2.1 ∈ TBL
def FldN (own : String) (index kd t f : Nat) : Prop := ∃ (C : String) (T : u_T) (N k : Nat) (host : String), 0 < kd ∧ kd < 14 ∧ vwCl[kd - 1]? = some (C, T, N) ∧ (flds kd)[k]? = some (t, f) ∧ (∀ w ∈ u_ws C T N, w ∈ TBL) ∧ k < N ∧ Cond.fieldLinkNest own index (T k).1 (T k).2.1 (T k).2.2.1 host ∈ TBL
def FldW (own : String) (index kd t f : Nat) (fin : Bool) (ty : FieldType) : Prop := ∃ (C : String) (T : u_T) (N k : Nat) (ty0 : Nat → FieldType), 0 < kd ∧ kd < 14 ∧ vwCl[kd - 1]? = some (C, T, N) ∧ (flds kd)[k]? = some (t, f) ∧ (∀ w ∈ u_ws C T N, w ∈ TBL) ∧ k < N ∧ Cond.fieldLink own index (T k).1 (T k).2.1 (T k).2.2.1 ∈ TBL ∧ (∀ j, j < N → parseFieldDescriptor (T j).2.2.1 = some (ty0 j)) ∧ (∀ a, a < N → ∀ b, b < N → a ≠ b → (T a).2.1 ≠ (T b).2.1) ∧ (T k).2.2.2 = fin ∧ ty0 k = ty ∧ (T k).1 = own
theorem flds_num0 : ∀ kd, kd < 14 → ∀ j, j < 70 → ((flds kd)[j]?.all fun x => x.2 == 100 * kd + j) = true := by decide +kernel
theorem flds_len0 : ∀ kd, kd < 14 → (flds kd).length ≤ 70 := by decide +kernel
theorem flds_num {kd j : Nat} {x : Nat × Nat} (hk : kd < 14) (h : (flds kd)[j]? = some x) : x.2 = 100 * kd + j := by
  have h1 := (List.getElem?_eq_some_iff.mp h).1
  have h2 := flds_num0 kd hk j (by have := flds_len0 kd hk; omega)
  rw [h] at h2
  simpa using h2
theorem x_getI (C : Cx p s m c cc nL args own G) {index kd f a : Nat} (F : FldR own index kd 0 f) (hk : gK S a = kd) (hdg : decode cc pc = .ok (.getfield index, 3)) (kk : Wx p l e R s m args below meth c Q G nL cells slots S (pc + 3) lv (.int (gI S f a) :: rest)) : Wx p l e R s m args below meth c Q G nL cells slots S pc lv (.ref a :: rest) := by
  intro H locs ls hH hS hl
  obtain ⟨C0, T, N, k, h0, h1, hc, hf, hin, hkN, hlink⟩ := F
  obtain ⟨L, hL, hP, hD⟩ := id hH
  have ha : a ∈ L := (hL a).mp (by rw [hk]; omega)
  obtain ⟨q0, hq⟩ := va_pl_get (X := []) (f := ent G.2.1 S) ha
  rw [ent_obj hk (by omega)] at hq
  refine va_get C.1 C.2.1 C.2.2.2.2.1 hin C.2.2.2.1 C.2.2.2.2.2.1 hP q0 hq hc k hkN (C.2.2.2.2.1 _ hlink) (fun _ h => h) (v := .int (gI S f a)) ?_ hdg (kk H locs ls hH hS hl)
  rw [List.getElem?_map, hf]; rfl
theorem x_getJ (C : Cx p s m c cc nL args own G) {index kd f a : Nat} (F : FldR own index kd 1 f) (hk : gK S a = kd) (hdg : decode cc pc = .ok (.getfield index, 3)) (kk : Wx p l e R s m args below meth c Q G nL cells slots S (pc + 3) lv (.long (gJ S f a) :: rest)) : Wx p l e R s m args below meth c Q G nL cells slots S pc lv (.ref a :: rest) := by
  intro H locs ls hH hS hl
  obtain ⟨C0, T, N, k, h0, h1, hc, hf, hin, hkN, hlink⟩ := F
  obtain ⟨L, hL, hP, hD⟩ := id hH
  have ha : a ∈ L := (hL a).mp (by rw [hk]; omega)
  obtain ⟨q0, hq⟩ := va_pl_get (X := []) (f := ent G.2.1 S) ha
  rw [ent_obj hk (by omega)] at hq
  refine va_get C.1 C.2.1 C.2.2.2.2.1 hin C.2.2.2.1 C.2.2.2.2.2.1 hP q0 hq hc k hkN (C.2.2.2.2.1 _ hlink) (fun _ h => h) (v := .long (gJ S f a)) ?_ hdg (kk H locs ls hH hS hl)
  rw [List.getElem?_map, hf]; rfl
theorem x_getR (C : Cx p s m c cc nL args own G) {index kd f a : Nat} (F : FldR own index kd 2 f) (hk : gK S a = kd) (hdg : decode cc pc = .ok (.getfield index, 3)) (kk : Wx p l e R s m args below meth c Q G nL cells slots S (pc + 3) lv (va_rf (gR S f a) :: rest)) : Wx p l e R s m args below meth c Q G nL cells slots S pc lv (.ref a :: rest) := by
  intro H locs ls hH hS hl
  obtain ⟨C0, T, N, k, h0, h1, hc, hf, hin, hkN, hlink⟩ := F
  obtain ⟨L, hL, hP, hD⟩ := id hH
  have ha : a ∈ L := (hL a).mp (by rw [hk]; omega)
  obtain ⟨q0, hq⟩ := va_pl_get (X := []) (f := ent G.2.1 S) ha
  rw [ent_obj hk (by omega)] at hq
  refine va_get C.1 C.2.1 C.2.2.2.2.1 hin C.2.2.2.1 C.2.2.2.2.2.1 hP q0 hq hc k hkN (C.2.2.2.2.1 _ hlink) (fun _ h => h) (v := va_rf (gR S f a)) ?_ hdg (kk H locs ls hH hS hl)
  rw [List.getElem?_map, hf]; rfl
theorem x_getIN (C : Cx p s m c cc nL args own G) {index kd f a : Nat} (F : FldN own index kd 0 f) (hk : gK S a = kd) (hdg : decode cc pc = .ok (.getfield index, 3)) (kk : Wx p l e R s m args below meth c Q G nL cells slots S (pc + 3) lv (.int (gI S f a) :: rest)) : Wx p l e R s m args below meth c Q G nL cells slots S pc lv (.ref a :: rest) := by
  intro H locs ls hH hS hl
  obtain ⟨C0, T, N, k, host, h0, h1, hc, hf, hin, hkN, hlink⟩ := F
  obtain ⟨L, hL, hP, hD⟩ := id hH
  have ha : a ∈ L := (hL a).mp (by rw [hk]; omega)
  obtain ⟨q0, hq⟩ := va_pl_get (X := []) (f := ent G.2.1 S) ha
  rw [ent_obj hk (by omega)] at hq
  refine va_getN C.1 C.2.1 C.2.2.2.2.1 hin C.2.2.2.1 C.2.2.2.2.2.1 hP q0 hq hc k hkN (C.2.2.2.2.1 _ hlink) (fun _ h => h) (v := .int (gI S f a)) ?_ hdg (kk H locs ls hH hS hl)
  rw [List.getElem?_map, hf]; rfl
theorem x_getRN (C : Cx p s m c cc nL args own G) {index kd f a : Nat} (F : FldN own index kd 2 f) (hk : gK S a = kd) (hdg : decode cc pc = .ok (.getfield index, 3)) (kk : Wx p l e R s m args below meth c Q G nL cells slots S (pc + 3) lv (va_rf (gR S f a) :: rest)) : Wx p l e R s m args below meth c Q G nL cells slots S pc lv (.ref a :: rest) := by
  intro H locs ls hH hS hl
  obtain ⟨C0, T, N, k, host, h0, h1, hc, hf, hin, hkN, hlink⟩ := F
  obtain ⟨L, hL, hP, hD⟩ := id hH
  have ha : a ∈ L := (hL a).mp (by rw [hk]; omega)
  obtain ⟨q0, hq⟩ := va_pl_get (X := []) (f := ent G.2.1 S) ha
  rw [ent_obj hk (by omega)] at hq
  refine va_getN C.1 C.2.1 C.2.2.2.2.1 hin C.2.2.2.1 C.2.2.2.2.2.1 hP q0 hq hc k hkN (C.2.2.2.2.1 _ hlink) (fun _ h => h) (v := va_rf (gR S f a)) ?_ hdg (kk H locs ls hH hS hl)
  rw [List.getElem?_map, hf]; rfl
theorem ent_put_uI {cy : Nat → ClassId} {S : HSt} {a kd k f : Nat} {v : Int32} (hk : gK S a = kd) (h1 : kd < 14) (hf : (flds kd)[k]? = some (0, f)) : ent cy (uI S f a v) a = .inr (kd - 1, ((flds kd).map (fval (fun f => gI S f a) (fun f => gJ S f a) (fun f => gR S f a))).set k (.int v)) := by
  rw [ent_obj (S := uI S f a v) (k := kd) hk (by omega)]
  refine congrArg (fun x => (Sum.inr : Nat × List Value → va_E) (kd - 1, x)) ?_
  symm
  refine map_set_of (fun x hx => ?_) (fun j x hj hx => ?_)
  · rw [hf] at hx
    cases hx
    simp [fval, gI, uI, up2]
  · have e1 := flds_num h1 hf
    have e2 := flds_num h1 hx
    have e3 : x.2 ≠ f := fun q => hj (by simp only at e1; omega)
    simp [fval, gI, gJ, gR, uI, up2, e3]
theorem x_putIF (C : Cx p s m c cc nL args own G) {index kd f a : Nat} {v : Int32} {ty : FieldType} (F : FldW own index kd 0 f true ty) (hk : gK S a = kd) (hn : narrow ty (.int v) = .int v) (hfit : fits ty (.int v) = true) (hin2 : meth.name = "<init>") (hdg : decode cc pc = .ok (.putfield index, 3)) (kk : Wx p l e R s m args below meth c Q G nL cells slots (uI S f a v) (pc + 3) lv rest) : Wx p l e R s m args below meth c Q G nL cells slots S pc lv (.int v :: .ref a :: rest) := by
  intro H locs ls hH hS hl
  obtain ⟨C0, T, N, k, ty0, h0, h1, hc, hf, hin, hkN, hlink, hty, hnm, hfin, hty2, hdecl⟩ := F
  obtain ⟨L, hL, hP, hD⟩ := id hH
  have ha : a ∈ L := (hL a).mp (by rw [hk]; omega)
  obtain ⟨q0, hq⟩ := va_pl_get (X := []) (f := ent G.2.1 S) ha
  have hq0 := hq
  rw [ent_obj hk (by omega)] at hq
  refine va_putF C.1 C.2.1 C.2.2.2.2.1 hin ty0 hty hnm C.2.2.2.1 C.2.2.2.2.2.1 hP hD hS q0 hq hc k hkN (C.2.2.2.2.1 _ hlink) (fun _ h => h) hfin hin2 hdecl (ty := ty) (v := .int v) ((hty k hkN).trans (congrArg some hty2)) hn hfit (by rw [List.length_map]; exact (List.getElem?_eq_some_iff.mp hf).1) hdg (fun H1 locs1 hP1 hD1 hS1 => kk H1 locs1 ls ?_ hS1 hl)
  have e1 := va_pl_set (X := []) (e := (.inr (kd - 1, ((flds kd).map (fval (fun f => gI S f a) (fun f => gJ S f a) (fun f => gR S f a))).set k (.int v)) : va_E)) hD ha hq0
  have e2 : va_pl L (va_up (ent G.2.1 S) a (.inr (kd - 1, ((flds kd).map (fval (fun f => gI S f a) (fun f => gJ S f a) (fun f => gR S f a))).set k (.int v)))) = va_pl L (ent G.2.1 (uI S f a v)) := va_pl_congr (fun b => by
    by_cases hb : b = a
    · subst hb; rw [va_up_self, ent_put_uI hk h1 hf]
    · rw [va_up_ne _ _ hb, ent_uI S f a v hb])
  have e3 := e1.trans e2
  exact ⟨L, hL, e3 ▸ hP1, e3 ▸ hD1⟩
theorem x_putI (C : Cx p s m c cc nL args own G) {index kd f a : Nat} {v : Int32} {ty : FieldType} (F : FldW own index kd 0 f false ty) (hk : gK S a = kd) (hn : narrow ty (.int v) = .int v) (hfit : fits ty (.int v) = true) (hdg : decode cc pc = .ok (.putfield index, 3)) (kk : Wx p l e R s m args below meth c Q G nL cells slots (uI S f a v) (pc + 3) lv rest) : Wx p l e R s m args below meth c Q G nL cells slots S pc lv (.int v :: .ref a :: rest) := by
  intro H locs ls hH hS hl
  obtain ⟨C0, T, N, k, ty0, h0, h1, hc, hf, hin, hkN, hlink, hty, hnm, hfin, hty2, hdecl⟩ := F
  obtain ⟨L, hL, hP, hD⟩ := id hH
  have ha : a ∈ L := (hL a).mp (by rw [hk]; omega)
  obtain ⟨q0, hq⟩ := va_pl_get (X := []) (f := ent G.2.1 S) ha
  have hq0 := hq
  rw [ent_obj hk (by omega)] at hq
  refine va_put C.1 C.2.1 C.2.2.2.2.1 hin ty0 hty hnm C.2.2.2.1 C.2.2.2.2.2.1 hP hD hS q0 hq hc k hkN (C.2.2.2.2.1 _ hlink) (fun _ h => h) hfin (ty := ty) (v := .int v) ((hty k hkN).trans (congrArg some hty2)) hn hfit (by rw [List.length_map]; exact (List.getElem?_eq_some_iff.mp hf).1) hdg (fun H1 locs1 hP1 hD1 hS1 => kk H1 locs1 ls ?_ hS1 hl)
  have e1 := va_pl_set (X := []) (e := (.inr (kd - 1, ((flds kd).map (fval (fun f => gI S f a) (fun f => gJ S f a) (fun f => gR S f a))).set k (.int v)) : va_E)) hD ha hq0
  have e2 : va_pl L (va_up (ent G.2.1 S) a (.inr (kd - 1, ((flds kd).map (fval (fun f => gI S f a) (fun f => gJ S f a) (fun f => gR S f a))).set k (.int v)))) = va_pl L (ent G.2.1 (uI S f a v)) := va_pl_congr (fun b => by
    by_cases hb : b = a
    · subst hb; rw [va_up_self, ent_put_uI hk h1 hf]
    · rw [va_up_ne _ _ hb, ent_uI S f a v hb])
  have e3 := e1.trans e2
  exact ⟨L, hL, e3 ▸ hP1, e3 ▸ hD1⟩
theorem ent_put_uJ {cy : Nat → ClassId} {S : HSt} {a kd k f : Nat} {v : Int64} (hk : gK S a = kd) (h1 : kd < 14) (hf : (flds kd)[k]? = some (1, f)) : ent cy (uJ S f a v) a = .inr (kd - 1, ((flds kd).map (fval (fun f => gI S f a) (fun f => gJ S f a) (fun f => gR S f a))).set k (.long v)) := by
  rw [ent_obj (S := uJ S f a v) (k := kd) hk (by omega)]
  refine congrArg (fun x => (Sum.inr : Nat × List Value → va_E) (kd - 1, x)) ?_
  symm
  refine map_set_of (fun x hx => ?_) (fun j x hj hx => ?_)
  · rw [hf] at hx
    cases hx
    simp [fval, gJ, uJ, up2]
  · have e1 := flds_num h1 hf
    have e2 := flds_num h1 hx
    have e3 : x.2 ≠ f := fun q => hj (by simp only at e1; omega)
    simp [fval, gI, gJ, gR, uJ, up2, e3]
theorem x_putJF (C : Cx p s m c cc nL args own G) {index kd f a : Nat} {v : Int64} {ty : FieldType} (F : FldW own index kd 1 f true ty) (hk : gK S a = kd) (hn : narrow ty (.long v) = .long v) (hfit : fits ty (.long v) = true) (hin2 : meth.name = "<init>") (hdg : decode cc pc = .ok (.putfield index, 3)) (kk : Wx p l e R s m args below meth c Q G nL cells slots (uJ S f a v) (pc + 3) lv rest) : Wx p l e R s m args below meth c Q G nL cells slots S pc lv (.long v :: .ref a :: rest) := by
  intro H locs ls hH hS hl
  obtain ⟨C0, T, N, k, ty0, h0, h1, hc, hf, hin, hkN, hlink, hty, hnm, hfin, hty2, hdecl⟩ := F
  obtain ⟨L, hL, hP, hD⟩ := id hH
  have ha : a ∈ L := (hL a).mp (by rw [hk]; omega)
  obtain ⟨q0, hq⟩ := va_pl_get (X := []) (f := ent G.2.1 S) ha
  have hq0 := hq
  rw [ent_obj hk (by omega)] at hq
  refine va_putF C.1 C.2.1 C.2.2.2.2.1 hin ty0 hty hnm C.2.2.2.1 C.2.2.2.2.2.1 hP hD hS q0 hq hc k hkN (C.2.2.2.2.1 _ hlink) (fun _ h => h) hfin hin2 hdecl (ty := ty) (v := .long v) ((hty k hkN).trans (congrArg some hty2)) hn hfit (by rw [List.length_map]; exact (List.getElem?_eq_some_iff.mp hf).1) hdg (fun H1 locs1 hP1 hD1 hS1 => kk H1 locs1 ls ?_ hS1 hl)
  have e1 := va_pl_set (X := []) (e := (.inr (kd - 1, ((flds kd).map (fval (fun f => gI S f a) (fun f => gJ S f a) (fun f => gR S f a))).set k (.long v)) : va_E)) hD ha hq0
  have e2 : va_pl L (va_up (ent G.2.1 S) a (.inr (kd - 1, ((flds kd).map (fval (fun f => gI S f a) (fun f => gJ S f a) (fun f => gR S f a))).set k (.long v)))) = va_pl L (ent G.2.1 (uJ S f a v)) := va_pl_congr (fun b => by
    by_cases hb : b = a
    · subst hb; rw [va_up_self, ent_put_uJ hk h1 hf]
    · rw [va_up_ne _ _ hb, ent_uJ S f a v hb])
  have e3 := e1.trans e2
  exact ⟨L, hL, e3 ▸ hP1, e3 ▸ hD1⟩
theorem x_putJ (C : Cx p s m c cc nL args own G) {index kd f a : Nat} {v : Int64} {ty : FieldType} (F : FldW own index kd 1 f false ty) (hk : gK S a = kd) (hn : narrow ty (.long v) = .long v) (hfit : fits ty (.long v) = true) (hdg : decode cc pc = .ok (.putfield index, 3)) (kk : Wx p l e R s m args below meth c Q G nL cells slots (uJ S f a v) (pc + 3) lv rest) : Wx p l e R s m args below meth c Q G nL cells slots S pc lv (.long v :: .ref a :: rest) := by
  intro H locs ls hH hS hl
  obtain ⟨C0, T, N, k, ty0, h0, h1, hc, hf, hin, hkN, hlink, hty, hnm, hfin, hty2, hdecl⟩ := F
  obtain ⟨L, hL, hP, hD⟩ := id hH
  have ha : a ∈ L := (hL a).mp (by rw [hk]; omega)
  obtain ⟨q0, hq⟩ := va_pl_get (X := []) (f := ent G.2.1 S) ha
  have hq0 := hq
  rw [ent_obj hk (by omega)] at hq
  refine va_put C.1 C.2.1 C.2.2.2.2.1 hin ty0 hty hnm C.2.2.2.1 C.2.2.2.2.2.1 hP hD hS q0 hq hc k hkN (C.2.2.2.2.1 _ hlink) (fun _ h => h) hfin (ty := ty) (v := .long v) ((hty k hkN).trans (congrArg some hty2)) hn hfit (by rw [List.length_map]; exact (List.getElem?_eq_some_iff.mp hf).1) hdg (fun H1 locs1 hP1 hD1 hS1 => kk H1 locs1 ls ?_ hS1 hl)
  have e1 := va_pl_set (X := []) (e := (.inr (kd - 1, ((flds kd).map (fval (fun f => gI S f a) (fun f => gJ S f a) (fun f => gR S f a))).set k (.long v)) : va_E)) hD ha hq0
  have e2 : va_pl L (va_up (ent G.2.1 S) a (.inr (kd - 1, ((flds kd).map (fval (fun f => gI S f a) (fun f => gJ S f a) (fun f => gR S f a))).set k (.long v)))) = va_pl L (ent G.2.1 (uJ S f a v)) := va_pl_congr (fun b => by
    by_cases hb : b = a
    · subst hb; rw [va_up_self, ent_put_uJ hk h1 hf]
    · rw [va_up_ne _ _ hb, ent_uJ S f a v hb])
  have e3 := e1.trans e2
  exact ⟨L, hL, e3 ▸ hP1, e3 ▸ hD1⟩
theorem ent_put_uR {cy : Nat → ClassId} {S : HSt} {a kd k f : Nat} {v : Option Nat} (hk : gK S a = kd) (h1 : kd < 14) (hf : (flds kd)[k]? = some (2, f)) : ent cy (uR S f a v) a = .inr (kd - 1, ((flds kd).map (fval (fun f => gI S f a) (fun f => gJ S f a) (fun f => gR S f a))).set k (va_rf v)) := by
  rw [ent_obj (S := uR S f a v) (k := kd) hk (by omega)]
  refine congrArg (fun x => (Sum.inr : Nat × List Value → va_E) (kd - 1, x)) ?_
  symm
  refine map_set_of (fun x hx => ?_) (fun j x hj hx => ?_)
  · rw [hf] at hx
    cases hx
    simp [fval, gR, uR, up2]
  · have e1 := flds_num h1 hf
    have e2 := flds_num h1 hx
    have e3 : x.2 ≠ f := fun q => hj (by simp only at e1; omega)
    simp [fval, gI, gJ, gR, uR, up2, e3]
theorem x_putRF (C : Cx p s m c cc nL args own G) {index kd f a : Nat} {v : Option Nat} {ty : FieldType} (F : FldW own index kd 2 f true ty) (hk : gK S a = kd) (hn : narrow ty (va_rf v) = va_rf v) (hfit : fits ty (va_rf v) = true) (hin2 : meth.name = "<init>") (hdg : decode cc pc = .ok (.putfield index, 3)) (kk : Wx p l e R s m args below meth c Q G nL cells slots (uR S f a v) (pc + 3) lv rest) : Wx p l e R s m args below meth c Q G nL cells slots S pc lv (va_rf v :: .ref a :: rest) := by
  intro H locs ls hH hS hl
  obtain ⟨C0, T, N, k, ty0, h0, h1, hc, hf, hin, hkN, hlink, hty, hnm, hfin, hty2, hdecl⟩ := F
  obtain ⟨L, hL, hP, hD⟩ := id hH
  have ha : a ∈ L := (hL a).mp (by rw [hk]; omega)
  obtain ⟨q0, hq⟩ := va_pl_get (X := []) (f := ent G.2.1 S) ha
  have hq0 := hq
  rw [ent_obj hk (by omega)] at hq
  refine va_putF C.1 C.2.1 C.2.2.2.2.1 hin ty0 hty hnm C.2.2.2.1 C.2.2.2.2.2.1 hP hD hS q0 hq hc k hkN (C.2.2.2.2.1 _ hlink) (fun _ h => h) hfin hin2 hdecl (ty := ty) (v := va_rf v) ((hty k hkN).trans (congrArg some hty2)) hn hfit (by rw [List.length_map]; exact (List.getElem?_eq_some_iff.mp hf).1) hdg (fun H1 locs1 hP1 hD1 hS1 => kk H1 locs1 ls ?_ hS1 hl)
  have e1 := va_pl_set (X := []) (e := (.inr (kd - 1, ((flds kd).map (fval (fun f => gI S f a) (fun f => gJ S f a) (fun f => gR S f a))).set k (va_rf v)) : va_E)) hD ha hq0
  have e2 : va_pl L (va_up (ent G.2.1 S) a (.inr (kd - 1, ((flds kd).map (fval (fun f => gI S f a) (fun f => gJ S f a) (fun f => gR S f a))).set k (va_rf v)))) = va_pl L (ent G.2.1 (uR S f a v)) := va_pl_congr (fun b => by
    by_cases hb : b = a
    · subst hb; rw [va_up_self, ent_put_uR hk h1 hf]
    · rw [va_up_ne _ _ hb, ent_uR S f a v hb])
  have e3 := e1.trans e2
  exact ⟨L, hL, e3 ▸ hP1, e3 ▸ hD1⟩
theorem x_putR (C : Cx p s m c cc nL args own G) {index kd f a : Nat} {v : Option Nat} {ty : FieldType} (F : FldW own index kd 2 f false ty) (hk : gK S a = kd) (hn : narrow ty (va_rf v) = va_rf v) (hfit : fits ty (va_rf v) = true) (hdg : decode cc pc = .ok (.putfield index, 3)) (kk : Wx p l e R s m args below meth c Q G nL cells slots (uR S f a v) (pc + 3) lv rest) : Wx p l e R s m args below meth c Q G nL cells slots S pc lv (va_rf v :: .ref a :: rest) := by
  intro H locs ls hH hS hl
  obtain ⟨C0, T, N, k, ty0, h0, h1, hc, hf, hin, hkN, hlink, hty, hnm, hfin, hty2, hdecl⟩ := F
  obtain ⟨L, hL, hP, hD⟩ := id hH
  have ha : a ∈ L := (hL a).mp (by rw [hk]; omega)
  obtain ⟨q0, hq⟩ := va_pl_get (X := []) (f := ent G.2.1 S) ha
  have hq0 := hq
  rw [ent_obj hk (by omega)] at hq
  refine va_put C.1 C.2.1 C.2.2.2.2.1 hin ty0 hty hnm C.2.2.2.1 C.2.2.2.2.2.1 hP hD hS q0 hq hc k hkN (C.2.2.2.2.1 _ hlink) (fun _ h => h) hfin (ty := ty) (v := va_rf v) ((hty k hkN).trans (congrArg some hty2)) hn hfit (by rw [List.length_map]; exact (List.getElem?_eq_some_iff.mp hf).1) hdg (fun H1 locs1 hP1 hD1 hS1 => kk H1 locs1 ls ?_ hS1 hl)
  have e1 := va_pl_set (X := []) (e := (.inr (kd - 1, ((flds kd).map (fval (fun f => gI S f a) (fun f => gJ S f a) (fun f => gR S f a))).set k (va_rf v)) : va_E)) hD ha hq0
  have e2 : va_pl L (va_up (ent G.2.1 S) a (.inr (kd - 1, ((flds kd).map (fval (fun f => gI S f a) (fun f => gJ S f a) (fun f => gR S f a))).set k (va_rf v)))) = va_pl L (ent G.2.1 (uR S f a v)) := va_pl_congr (fun b => by
    by_cases hb : b = a
    · subst hb; rw [va_up_self, ent_put_uR hk h1 hf]
    · rw [va_up_ne _ _ hb, ent_uR S f a v hb])
  have e3 := e1.trans e2
  exact ⟨L, hL, e3 ▸ hP1, e3 ▸ hD1⟩
theorem x_iald (C : Cx p s m c cc nL args own G) {kd a : Nat} {i : Int32} (hk : gK S a = kd) (h2 : kd / 100 = 2) (hin : vp_in i (gN S a)) (hdg : decode cc pc = .ok (.iaload, 1)) (kk : Wx p l e R s m args below meth c Q G nL cells slots S (pc + 1) lv (.int (gA S kd a i.toNatClampNeg) :: rest)) : Wx p l e R s m args below meth c Q G nL cells slots S pc lv (.int i :: .ref a :: rest) := by
  intro H locs ls hH hS hl
  obtain ⟨L, hL, hP, hD⟩ := id hH
  have ha : a ∈ L := (hL a).mp (by rw [hk]; omega)
  obtain ⟨q0, hq⟩ := va_pl_get (X := []) (f := ent G.2.1 S) ha
  rw [ent_num hk (by omega) (by omega), h2] at hq
  exact va_iald C.1 C.2.1 C.2.2.2.2.2.1 hP q0 1 hq rfl hin hdg (kk H locs ls hH hS hl)
theorem x_bald (C : Cx p s m c cc nL args own G) {kd a : Nat} {i : Int32} (hk : gK S a = kd) (h2 : kd / 100 = 1) (hin : vp_in i (gN S a)) (hdg : decode cc pc = .ok (.baload, 1)) (kk : Wx p l e R s m args below meth c Q G nL cells slots S (pc + 1) lv (.int (gA S kd a i.toNatClampNeg) :: rest)) : Wx p l e R s m args below meth c Q G nL cells slots S pc lv (.int i :: .ref a :: rest) := by
  intro H locs ls hH hS hl
  obtain ⟨L, hL, hP, hD⟩ := id hH
  have ha : a ∈ L := (hL a).mp (by rw [hk]; omega)
  obtain ⟨q0, hq⟩ := va_pl_get (X := []) (f := ent G.2.1 S) ha
  rw [ent_num hk (by omega) (by omega), h2] at hq
  exact va_bald C.1 C.2.1 C.2.2.2.2.2.1 hP q0 0 hq rfl hin hdg (kk H locs ls hH hS hl)
theorem x_zald (C : Cx p s m c cc nL args own G) {kd a : Nat} {i : Int32} (hk : gK S a = kd) (h2 : kd / 100 = 3) (hin : vp_in i (gN S a)) (hdg : decode cc pc = .ok (.baload, 1)) (kk : Wx p l e R s m args below meth c Q G nL cells slots S (pc + 1) lv (.int (gA S kd a i.toNatClampNeg) :: rest)) : Wx p l e R s m args below meth c Q G nL cells slots S pc lv (.int i :: .ref a :: rest) := by
  intro H locs ls hH hS hl
  obtain ⟨L, hL, hP, hD⟩ := id hH
  have ha : a ∈ L := (hL a).mp (by rw [hk]; omega)
  obtain ⟨q0, hq⟩ := va_pl_get (X := []) (f := ent G.2.1 S) ha
  rw [ent_num hk (by omega) (by omega), h2] at hq
  exact va_zald C.1 C.2.1 C.2.2.2.2.2.1 hP q0 2 hq rfl hin hdg (kk H locs ls hH hS hl)
theorem x_iast (C : Cx p s m c cc nL args own G) {kd a : Nat} {i v : Int32} (hk : gK S a = kd) (h2 : kd / 100 = 2) (hin : vp_in i (gN S a)) (hdg : decode cc pc = .ok (.iastore, 1)) (kk : Wx p l e R s m args below meth c Q G nL cells slots (uA S kd a i.toNatClampNeg v) (pc + 1) lv rest) : Wx p l e R s m args below meth c Q G nL cells slots S pc lv (.int v :: .int i :: .ref a :: rest) := by
  intro H locs ls hH hS hl
  obtain ⟨L, hL, hP, hD⟩ := id hH
  have ha : a ∈ L := (hL a).mp (by rw [hk]; omega)
  obtain ⟨q0, hq⟩ := va_pl_get (X := []) (f := ent G.2.1 S) ha
  have hq0 := hq
  rw [ent_num hk (by omega) (by omega), h2] at hq
  refine va_iast C.1 C.2.1 C.2.2.2.2.2.1 hP hD hS q0 1 hq rfl hin hdg (fun H1 locs1 hP1 hD1 hS1 => kk H1 locs1 ls ?_ hS1 hl)
  have e3 := (va_pl_set (X := []) hD ha hq0).trans (va_pl_congr (L := L) (f := va_up (ent G.2.1 S) a (.inl (G.2.1 (2 - 1), gN S a, .inl (upd (gA S kd a) i.toNatClampNeg v)))) (g := ent G.2.1 (uA S kd a i.toNatClampNeg v)) (fun b => by
    by_cases hb : b = a
    · subst hb; rw [va_up_self, ent_num (S := uA S kd b i.toNatClampNeg v) (k := kd) hk (by omega) (by omega), h2]
      refine congrArg (fun x => (Sum.inl (G.2.1 (2 - 1), gN S b, Sum.inl x) : va_E)) ?_
      simp [uA, sA, gA, up2]
    · rw [va_up_ne _ _ hb]; exact (ent_sA S kd a _ hb).symm))
  exact ⟨L, hL, e3 ▸ hP1, e3 ▸ hD1⟩
theorem x_bast (C : Cx p s m c cc nL args own G) {kd a : Nat} {i v : Int32} (hk : gK S a = kd) (h2 : kd / 100 = 1) (hin : vp_in i (gN S a)) (hdg : decode cc pc = .ok (.bastore, 1)) (kk : Wx p l e R s m args below meth c Q G nL cells slots (uA S kd a i.toNatClampNeg (vp_nar .byte v)) (pc + 1) lv rest) : Wx p l e R s m args below meth c Q G nL cells slots S pc lv (.int v :: .int i :: .ref a :: rest) := by
  intro H locs ls hH hS hl
  obtain ⟨L, hL, hP, hD⟩ := id hH
  have ha : a ∈ L := (hL a).mp (by rw [hk]; omega)
  obtain ⟨q0, hq⟩ := va_pl_get (X := []) (f := ent G.2.1 S) ha
  have hq0 := hq
  rw [ent_num hk (by omega) (by omega), h2] at hq
  refine va_bast C.1 C.2.1 C.2.2.2.2.2.1 hP hD hS q0 0 hq rfl hin hdg (fun H1 locs1 hP1 hD1 hS1 => kk H1 locs1 ls ?_ hS1 hl)
  have e3 := (va_pl_set (X := []) hD ha hq0).trans (va_pl_congr (L := L) (f := va_up (ent G.2.1 S) a (.inl (G.2.1 (1 - 1), gN S a, .inl (upd (gA S kd a) i.toNatClampNeg (vp_nar .byte v))))) (g := ent G.2.1 (uA S kd a i.toNatClampNeg (vp_nar .byte v))) (fun b => by
    by_cases hb : b = a
    · subst hb; rw [va_up_self, ent_num (S := uA S kd b i.toNatClampNeg (vp_nar .byte v)) (k := kd) hk (by omega) (by omega), h2]
      refine congrArg (fun x => (Sum.inl (G.2.1 (1 - 1), gN S b, Sum.inl x) : va_E)) ?_
      simp [uA, sA, gA, up2]
    · rw [va_up_ne _ _ hb]; exact (ent_sA S kd a _ hb).symm))
  exact ⟨L, hL, e3 ▸ hP1, e3 ▸ hD1⟩
theorem x_zast (C : Cx p s m c cc nL args own G) {kd a : Nat} {i v : Int32} (hk : gK S a = kd) (h2 : kd / 100 = 3) (hin : vp_in i (gN S a)) (hdg : decode cc pc = .ok (.bastore, 1)) (kk : Wx p l e R s m args below meth c Q G nL cells slots (uA S kd a i.toNatClampNeg (vp_nar .boolean v)) (pc + 1) lv rest) : Wx p l e R s m args below meth c Q G nL cells slots S pc lv (.int v :: .int i :: .ref a :: rest) := by
  intro H locs ls hH hS hl
  obtain ⟨L, hL, hP, hD⟩ := id hH
  have ha : a ∈ L := (hL a).mp (by rw [hk]; omega)
  obtain ⟨q0, hq⟩ := va_pl_get (X := []) (f := ent G.2.1 S) ha
  have hq0 := hq
  rw [ent_num hk (by omega) (by omega), h2] at hq
  refine va_zast C.1 C.2.1 C.2.2.2.2.2.1 hP hD hS q0 2 hq rfl hin hdg (fun H1 locs1 hP1 hD1 hS1 => kk H1 locs1 ls ?_ hS1 hl)
  have e3 := (va_pl_set (X := []) hD ha hq0).trans (va_pl_congr (L := L) (f := va_up (ent G.2.1 S) a (.inl (G.2.1 (3 - 1), gN S a, .inl (upd (gA S kd a) i.toNatClampNeg (vp_nar .boolean v))))) (g := ent G.2.1 (uA S kd a i.toNatClampNeg (vp_nar .boolean v))) (fun b => by
    by_cases hb : b = a
    · subst hb; rw [va_up_self, ent_num (S := uA S kd b i.toNatClampNeg (vp_nar .boolean v)) (k := kd) hk (by omega) (by omega), h2]
      refine congrArg (fun x => (Sum.inl (G.2.1 (3 - 1), gN S b, Sum.inl x) : va_E)) ?_
      simp [uA, sA, gA, up2]
    · rw [va_up_ne _ _ hb]; exact (ent_sA S kd a _ hb).symm))
  exact ⟨L, hL, e3 ▸ hP1, e3 ▸ hD1⟩
theorem x_alen (C : Cx p s m c cc nL args own G) {kd a : Nat} (hk : gK S a = kd) (h2 : 1 ≤ kd / 100 ∧ kd / 100 ≤ 3) (hdg : decode cc pc = .ok (.arraylength, 1)) (kk : Wx p l e R s m args below meth c Q G nL cells slots S (pc + 1) lv (.int (nI (gN S a)) :: rest)) : Wx p l e R s m args below meth c Q G nL cells slots S pc lv (.ref a :: rest) := by
  intro H locs ls hH hS hl
  obtain ⟨L, hL, hP, hD⟩ := id hH
  have ha : a ∈ L := (hL a).mp (by rw [hk]; omega)
  obtain ⟨q0, hq⟩ := va_pl_get (X := []) (f := ent G.2.1 S) ha
  rw [ent_num hk (by omega) (by omega)] at hq
  rcases (show kd / 100 = 1 ∨ kd / 100 = 2 ∨ kd / 100 = 3 by omega) with h | h | h <;> rw [h] at hq
  · exact va_alen C.1 C.2.1 C.2.2.2.2.2.1 hP q0 0 hq rfl rfl hdg (kk H locs ls hH hS hl)
  · exact va_alen C.1 C.2.1 C.2.2.2.2.2.1 hP q0 1 hq rfl rfl hdg (kk H locs ls hH hS hl)
  · exact va_alen C.1 C.2.1 C.2.2.2.2.2.1 hP q0 2 hq rfl rfl hdg (kk H locs ls hH hS hl)
theorem x_alenq (C : Cx p s m c cc nL args own G) {kd a : Nat} {ty : FieldType} (hk : gK S a = kd) (h2 : 400 ≤ kd) (ht : (xtys G.2.1)[kd / 100 - 1]? = some (G.2.1 (kd / 100 - 1), ty)) (hdg : decode cc pc = .ok (.arraylength, 1)) (kk : Wx p l e R s m args below meth c Q G nL cells slots S (pc + 1) lv (.int (nI (gN S a)) :: rest)) : Wx p l e R s m args below meth c Q G nL cells slots S pc lv (.ref a :: rest) := by
  intro H locs ls hH hS hl
  obtain ⟨L, hL, hP, hD⟩ := id hH
  have ha : a ∈ L := (hL a).mp (by rw [hk]; omega)
  obtain ⟨q0, hq⟩ := va_pl_get (X := []) (f := ent G.2.1 S) ha
  rw [ent_ref hk h2] at hq
  exact va_alen C.1 C.2.1 C.2.2.2.2.2.1 hP q0 _ hq ht rfl hdg (kk H locs ls hH hS hl)
theorem x_aaldq (C : Cx p s m c cc nL args own G) {kd a : Nat} {i : Int32} {C0 : String} (hk : gK S a = kd) (h2 : 400 ≤ kd) (ht : (xtys G.2.1)[kd / 100 - 1]? = some (G.2.1 (kd / 100 - 1), .object C0)) (hin : vp_in i (gN S a)) (hdg : decode cc pc = .ok (.aaload, 1)) (kk : Wx p l e R s m args below meth c Q G nL cells slots S (pc + 1) lv (va_rf (gB S kd a i.toNatClampNeg) :: rest)) : Wx p l e R s m args below meth c Q G nL cells slots S pc lv (.int i :: .ref a :: rest) := by
  intro H locs ls hH hS hl
  obtain ⟨L, hL, hP, hD⟩ := id hH
  have ha : a ∈ L := (hL a).mp (by rw [hk]; omega)
  obtain ⟨q0, hq⟩ := va_pl_get (X := []) (f := ent G.2.1 S) ha
  rw [ent_ref hk h2] at hq
  exact va_aldq C.1 C.2.1 C.2.2.2.2.2.1 hP q0 _ hq ht hin hdg (kk H locs ls hH hS hl)
theorem x_aaldA (C : Cx p s m c cc nL args own G) {kd a : Nat} {i : Int32} (hk : gK S a = kd) (h2 : kd / 100 = 10) (hin : vp_in i (gN S a)) (hdg : decode cc pc = .ok (.aaload, 1)) (kk : Wx p l e R s m args below meth c Q G nL cells slots S (pc + 1) lv (va_rf (gB S kd a i.toNatClampNeg) :: rest)) : Wx p l e R s m args below meth c Q G nL cells slots S pc lv (.int i :: .ref a :: rest) := by
  intro H locs ls hH hS hl
  obtain ⟨L, hL, hP, hD⟩ := id hH
  have ha : a ∈ L := (hL a).mp (by rw [hk]; omega)
  obtain ⟨q0, hq⟩ := va_pl_get (X := []) (f := ent G.2.1 S) ha
  rw [ent_ref hk (by omega), h2] at hq
  have hlt : i.toNatClampNeg < gN S a := Nat.not_le.mp fun q => hin (Or.inr q)
  exact W.aald (v := va_rf (gB S kd a i.toNatClampNeg)) (ty := .array .int) C.1 C.2.1 (hP q0 _ hq) ((C.2.2.2.2.2.1.2 9 _ rfl).1 (gN S a) (fun j => va_rf (gB S kd a j))) rfl (fun q => by cases q) (by show ¬ (i < 0 ∨ (arrV _ _ _).slots.size ≤ _); rw [arrV_size]; exact hin) (by show (arrV _ _ _).slots[_]? = _; rw [arrV_read _ _ hlt]) rfl rfl hdg (kk H locs ls hH hS hl)
theorem x_aastq (C : Cx p s m c cc nL args own G) {kd a b kb : Nat} {i : Int32} {r : vw_C} (hk : gK S a = kd) (h2 : 400 ≤ kd) (ht : (xtys G.2.1)[kd / 100 - 1]? = some (G.2.1 (kd / 100 - 1), .object r.1)) (hkb : gK S b = kb) (hb1 : 0 < kb ∧ kb < 14) (hc : vwCl[kb - 1]? = some r) (hin : vp_in i (gN S a)) (hdg : decode cc pc = .ok (.aastore, 1)) (kk : Wx p l e R s m args below meth c Q G nL cells slots (uB S kd a i.toNatClampNeg (some b)) (pc + 1) lv rest) : Wx p l e R s m args below meth c Q G nL cells slots S pc lv (.ref b :: .int i :: .ref a :: rest) := by
  intro H locs ls hH hS hl
  obtain ⟨L, hL, hP, hD⟩ := id hH
  have ha : a ∈ L := (hL a).mp (by rw [hk]; omega)
  have hbL : b ∈ L := (hL b).mp (by rw [hkb]; omega)
  obtain ⟨q0, hq⟩ := va_pl_get (X := []) (f := ent G.2.1 S) ha
  obtain ⟨q1, hq1⟩ := va_pl_get (X := []) (f := ent G.2.1 S) hbL
  have hq0 := hq
  rw [ent_ref hk h2] at hq
  rw [ent_obj hkb (by omega)] at hq1
  refine va_astq C.1 C.2.1 C.2.2.2.2.2.1 hP hD hS q0 _ q1 _ hq ht hq1 hc hin hdg (fun H1 locs1 hP1 hD1 hS1 => kk H1 locs1 ls ?_ hS1 hl)
  have e3 := (va_pl_set (X := []) hD ha hq0).trans (va_pl_congr (L := L) (f := va_up (ent G.2.1 S) a (.inl (G.2.1 (kd / 100 - 1), gN S a, .inr (.inr (.inr (.inr (va_up (gB S kd a) i.toNatClampNeg (some b)))))))) (g := ent G.2.1 (uB S kd a i.toNatClampNeg (some b))) (fun x => by
    by_cases hx : x = a
    · subst hx; rw [va_up_self, ent_ref (S := uB S kd x i.toNatClampNeg (some b)) (k := kd) hk h2]
      refine congrArg (fun y => (Sum.inl (G.2.1 (kd / 100 - 1), gN S x, Sum.inr (Sum.inr (Sum.inr (Sum.inr y)))) : va_E)) ?_
      simp [uB, sB, gB, up2]
    · rw [va_up_ne _ _ hx]; exact (ent_sB S kd a _ hx).symm))
  exact ⟨L, hL, e3 ▸ hP1, e3 ▸ hD1⟩
theorem xtys_int {cy : Nat → ClassId} : (xtys cy)[1]? = some (cy 1, .int) := rfl
theorem Hq_push {G : XG} {S S' : HSt} {H1 : Heap} {L : List Nat} {q : Nat} {e0 : va_E} (hL : ∀ a, gK S a ≠ 0 ↔ a ∈ L) (hP : va_P G.1 vwCl (va_pl L (ent G.2.1 S) ++ [(q, e0)]) H1) (hD : va_D G.2.2 (va_pl L (ent G.2.1 S) ++ [(q, e0)])) (hk : gK S' q ≠ 0) (hko : ∀ a, a ≠ q → gK S' a = gK S a) (he : ent G.2.1 S' q = e0) (ho : ∀ a, a ≠ q → ent G.2.1 S' a = ent G.2.1 S a) : Hq G S' H1 := by
  have hn : q ∉ L := va_pl_fresh2 (X := []) hD
  have e1 : va_pl L (ent G.2.1 S) ++ [(q, e0)] = va_pl (L ++ [q]) (ent G.2.1 S') := (va_pl_push hn).trans (va_pl_congr (fun b => by
    by_cases hb : b = q
    · subst hb; rw [va_up_self]; exact he.symm
    · rw [va_up_ne _ _ hb]; exact (ho b hb).symm))
  refine ⟨L ++ [q], fun a => ?_, e1 ▸ hP, e1 ▸ hD⟩
  by_cases hb : a = q
  · subst hb; simp [hk]
  · rw [hko a hb, hL a]; simp [hb]
theorem Hq_fresh {G : XG} {S : HSt} {L : List Nat} {q : Nat} {e0 : va_E} (hL : ∀ a, gK S a ≠ 0 ↔ a ∈ L) (hD : va_D G.2.2 (va_pl L (ent G.2.1 S) ++ [(q, e0)])) : gK S q = 0 := by
  have hn : q ∉ L := va_pl_fresh2 (X := []) hD
  by_cases h : gK S q = 0
  · exact h
  · exact absurd ((hL q).mp h) hn
theorem ent_ne {cy : Nat → ClassId} {S S' : HSt} {b : Nat} (h0 : gK S' b = gK S b) (h1 : ∀ f, gI S' f b = gI S f b) (h2 : ∀ f, gJ S' f b = gJ S f b) (h3 : ∀ f, gR S' f b = gR S f b) (h4 : gN S' b = gN S b) (h5 : ∀ k, gA S' k b = gA S k b) (h6 : ∀ k, gB S' k b = gB S k b) : ent cy S' b = ent cy S b := by
  unfold ent
  rw [h0, h4, funext h1, funext h2, funext h3, funext h5, funext h6]
theorem cl2_ne {α : Type} (g : Nat → Nat → α) {a b : Nat} (v : α) (f : Nat) (h : b ≠ a) : cl2 g a v f b = g f b := by simp [cl2, h]
theorem ent_nO {cy : Nat → ClassId} (S : HSt) (k a : Nat) {b : Nat} (h : b ≠ a) : ent cy (nO S k a) b = ent cy S b :=
  ent_ne (va_up_ne _ _ h) (fun f => cl2_ne S.2.1 0 f h) (fun f => cl2_ne S.2.2.1 0 f h) (fun f => cl2_ne S.2.2.2.1 none f h) rfl (fun _ => rfl) (fun _ => rfl)
theorem ent_nA {cy : Nat → ClassId} (S : HSt) (k a n : Nat) {b : Nat} (h : b ≠ a) : ent cy (nA S k a n) b = ent cy S b :=
  ent_ne (va_up_ne _ _ h) (fun _ => rfl) (fun _ => rfl) (fun _ => rfl) (va_up_ne _ _ h) (fun f => cl2_ne S.2.2.2.2.2.1 _ f h) (fun f => cl2_ne S.2.2.2.2.2.2 _ f h)
/-- an object that an instruction makes -/
def NewR (own : String) (index kd N : Nat) : Prop := ∃ (C : String) (T : u_T) (ty : Nat → FieldType), 0 < kd ∧ kd < 14 ∧ vwCl[kd - 1]? = some (C, T, N) ∧ (∀ w ∈ u_ws C T N, w ∈ TBL) ∧ (∀ j, j < N → parseFieldDescriptor (T j).2.2.1 = some (ty j)) ∧ Cond.classLink own index C ∈ TBL ∧ Cond.instantiable C N ∈ TBL ∧ Cond.initialized C ∈ TBL ∧ ∀ j, j < N → defaultValue (ty j) = vp_V ((flds kd).map (fval (fun _ => 0) (fun _ => 0) (fun _ => none))) j
theorem x_new (C : Cx p s m c cc nL args own G) {index kd N : Nat} (F : NewR own index kd N) (hdg : decode cc pc = .ok (.new index, 3)) (h1 : cells + 1 ≤ R.cells) (h2 : slots + N ≤ R.slots) (kk : ∀ q : Nat, gK S q = 0 → Wx p l e R s m args below meth c Q G nL (cells + 1) (slots + N) (nO S kd q) (pc + 3) lv (.ref q :: rest)) : Wx p l e R s m args below meth c Q G nL cells slots S pc lv rest := by
  intro H locs ls hH hS hl
  obtain ⟨C0, T, ty, h0, hlt, hc, hin, hty, hcl, hinst, hini, hdef⟩ := F
  obtain ⟨L, hL, hP, hD⟩ := id hH
  refine va_new (ci := kd - 1) C.1 C.2.1 C.2.2.2.2.1 hin ty hty C.2.2.2.1 (C.2.2.2.2.1 _ hcl) (C.2.2.2.2.1 _ hinst) (C.2.2.2.2.1 _ hini) C.2.2.2.2.2.1 hP hD hS C.2.2.2.2.2.2.1 hc hdef h1 h2 hdg (fun q H1 hP1 hD1 hS1 => ?_)
  refine kk q (Hq_fresh hL hD1) H1 locs ls ?_ hS1 hl
  refine Hq_push (S' := nO S kd q) hL hP1 hD1 (by show va_up S.1 q kd q ≠ 0; rw [va_up_self]; omega) (fun a h => va_up_ne _ _ h) ?_ (fun a h => ent_nO S kd q h)
  rw [ent_obj (k := kd) (by show va_up S.1 q kd q = kd; rw [va_up_self]) (by omega)]
  have e1 : (fun f => gI (nO S kd q) f q) = fun _ => (0 : Int32) := by funext f; simp [gI, nO, cl2]
  have e2 : (fun f => gJ (nO S kd q) f q) = fun _ => (0 : Int64) := by funext f; simp [gJ, nO, cl2]
  have e3 : (fun f => gR (nO S kd q) f q) = fun _ => (none : Option Nat) := by funext f; simp [gR, nO, cl2]
  rw [e1, e2, e3]
theorem vname_of {s : State} {t : Nat} {cy : Nat → ClassId} {D : va_G} {tys : List (ClassId × FieldType)} {cA : ClassId} {ty : FieldType} (h : va_K D vwCl (tys ++ [(cA, ty)]) s) : va_RA s cA ty := by
  exact (h.2 tys.length (cA, ty) (by rw [List.getElem?_append_right (Nat.le_refl _), Nat.sub_self]; rfl)).2
theorem va_RA_eq {s : State} {c1 c2 : ClassId} {ty : FieldType} (h1 : va_RA s c1 ty) (h2 : va_RA s c2 ty) : c1 = c2 := by
  cases ty with
  | object C =>
    obtain ⟨_, _, _, _, _, h1⟩ := h1
    obtain ⟨_, _, _, _, _, h2⟩ := h2
    exact Option.some.inj (h1.symm.trans h2)
  | _ => exact Option.some.inj (Eq.trans (Eq.symm h1) h2)
theorem x_newaG (C : Cx p s m c cc nL args own G) {atype : ArrayType} {ty : FieldType} {kd N : Nat} {n : Int32} (t0 : Nat) (ht : (xtys G.2.1)[t0]? = some (G.2.1 t0, ty)) (hkd : kd / 100 = t0 + 1 ∧ kd < 400) (hdg : decode cc pc = .ok (.newarray atype, 2)) (hw : Cond.arrayClass (newarray.typeOf atype) ∈ TBL) (hty : newarray.typeOf atype = ty) (hdf : ∀ cA : ClassId, vp_cell cA (N, .inl (fun _ => 0)) = arrV cA N (fun _ => defaultValue ty)) (hn : ¬ n < 0) (hN : n.toNatClampNeg = N) (hb : N * componentBytes ty ≤ 536870912) (h1 : cells + 1 ≤ R.cells) (h2 : slots + N ≤ R.slots) (kk : ∀ q : Nat, gK S q = 0 → Wx p l e R s m args below meth c Q G nL (cells + 1) (slots + N) (nA S kd q N) (pc + 2) lv (.ref q :: rest)) : Wx p l e R s m args below meth c Q G nL cells slots S pc lv (.int n :: rest) := by
  intro H locs ls hH hS hl
  obtain ⟨L, hL, hP, hD⟩ := id hH
  refine va_newa C.1 C.2.1 (C.2.2.2.2.1 _ hw) hty C.2.2.2.2.2.1 hP hD hS C.2.2.2.2.2.2.1 hdf hn hN hb h1 h2 hdg (fun q cA H1 hK1 hP1 hD1 hS1 => ?_)
  have hcA : cA = G.2.1 t0 := va_RA_eq (vname_of (t := 0) (cy := G.2.1) hK1) (C.2.2.2.2.2.1.2 t0 _ ht).2
  refine kk q (Hq_fresh hL hD1) H1 locs ls ?_ hS1 hl
  have hkq : gK (nA S kd q N) q = kd := by show va_up S.1 q kd q = kd; rw [va_up_self]
  refine Hq_push (S' := nA S kd q N) hL hP1 hD1 (by rw [hkq]; omega) (fun a h => va_up_ne _ _ h) ?_ (fun a h => ent_nA S kd q N h)
  rw [ent_num hkq (by omega) hkd.2, hkd.1, hcA]
  have e1 : gA (nA S kd q N) kd q = fun _ => (0 : Int32) := by simp [gA, nA, cl2]
  have e2 : gN (nA S kd q N) q = N := by show va_up S.2.2.2.2.1 q N q = N; rw [va_up_self]
  rw [e1, e2]; rfl
theorem x_newq (C : Cx p s m c cc nL args own G) {C0 : String} {index kd N : Nat} {n : Int32} (t0 : Nat) (ht : (xtys G.2.1)[t0]? = some (G.2.1 t0, .object C0)) (hkd : kd / 100 = t0 + 1 ∧ 400 ≤ kd) (hdg : decode cc pc = .ok (.anewarray index, 3)) (hcl : Cond.classLink own index C0 ∈ TBL) (hw : Cond.arrayOver (.object C0) ∈ TBL) (hn : ¬ n < 0) (hN : n.toNatClampNeg = N) (hb : N * 4 ≤ 536870912) (h1 : cells + 1 ≤ R.cells) (h2 : slots + N ≤ R.slots) (kk : ∀ q : Nat, gK S q = 0 → Wx p l e R s m args below meth c Q G nL (cells + 1) (slots + N) (nA S kd q N) (pc + 3) lv (.ref q :: rest)) : Wx p l e R s m args below meth c Q G nL cells slots S pc lv (.int n :: rest) := by
  intro H locs ls hH hS hl
  obtain ⟨L, hL, hP, hD⟩ := id hH
  refine va_newq C.1 C.2.1 C.2.2.2.1 (C.2.2.2.2.1 _ hcl) (va_AO.of (C.2.2.2.2.1 _ hw)) C.2.2.2.2.2.1 hP hD hS C.2.2.2.2.2.2.1 hn hN hb h1 h2 hdg (fun q cA H1 hK1 hP1 hD1 hS1 => ?_)
  have hcA : cA = G.2.1 t0 := va_RA_eq (vname_of (t := 0) (cy := G.2.1) hK1) (C.2.2.2.2.2.1.2 t0 _ ht).2
  refine kk q (Hq_fresh hL hD1) H1 locs ls ?_ hS1 hl
  have hkq : gK (nA S kd q N) q = kd := by show va_up S.1 q kd q = kd; rw [va_up_self]
  refine Hq_push (S' := nA S kd q N) hL hP1 hD1 (by rw [hkq]; omega) (fun a h => va_up_ne _ _ h) ?_ (fun a h => ent_nA S kd q N h)
  rw [ent_ref hkq hkd.2, hkd.1, hcA]
  have e1 : gB (nA S kd q N) kd q = fun _ => (none : Option Nat) := by simp [gB, nA, cl2]
  have e2 : gN (nA S kd q N) q = N := by show va_up S.2.2.2.2.1 q N q = N; rw [va_up_self]
  rw [e1, e2]; rfl
/-- room by levels of calls -/
def rmL (lev mc ms : Nat) : Room := { frames := lev, cells := mc, slots := ms, locals := 40 * lev }
def vI (x : Int32) : Option Value := some (.int x)
def vL (x : Int64) : Option Value := some (.long x)
def vR (x : Option Nat) : Option Value := some (va_rf x)
def vV (_ : Unit) : Option Value := none
def Wd (G : XG) (S : HSt) (U : State) : Prop := Hq G S U.heap ∧ va_K G.1 vwCl (xtys G.2.1) U ∧ (∀ q, U.heap.size ≤ q → G.2.2 q) ∧ Amb G U U.heap
def Qx {α : Type} (G : XG) (val : α → Option Value) (Post : α → HSt → Prop) : Array Value → State → Outcome → State → Prop := fun _ st o t => (∃ (r : α) (S' : HSt), o = .returned (val r) ∧ Post r S' ∧ Hq G S' t.heap) ∧ va_F G.2.2 st t
/-- A CONTRACT: from the part S and the arguments As, method y returns, and what it returns and the part then hold Post -/
def Mx {α : Type} (l : Launch) (y : MethodName) (b : ByteArray) (n : Nat) (ret : Option FieldType) (lev mc ms : Nat) (G : XG) (val : α → Option Value) (As : List Value) (S : HSt) (Post : α → HSt → Prop) : Prop :=
  Met l y (Cond.code y b n ret :: TBL) (rmL lev mc ms) (va_Pc As (Wd G S)) (Qx G val Post) mc ms G.2.2
theorem Mx.mono {α : Type} {l : Launch} {y : MethodName} {b : ByteArray} {n : Nat} {ret : Option FieldType} {lev mc ms : Nat} {G : XG} {val : α → Option Value} {As : List Value} {S : HSt} {Post Post' : α → HSt → Prop} (h : Mx l y b n ret lev mc ms G val As S Post) (hp : ∀ r S', Post r S' → Post' r S') : Mx l y b n ret lev mc ms G val As S Post' := by
  intro p e ha hc hk s m args below hf hr h1 h2
  obtain ⟨k, o, g1, g2, g3, ⟨⟨⟨r, S', q1, q2, q3⟩, q4⟩, g5⟩⟩ := h p e ha hc hk s m args below hf hr h1 h2
  exact ⟨k, o, g1, g2, g3, ⟨⟨⟨r, S', q1, hp r S' q2, q3⟩, q4⟩, g5⟩⟩
theorem x_met {α : Type} {l : Launch} {y : MethodName} {b : ByteArray} {n : Nat} {ret : Option FieldType} {lev mc ms : Nat} {G : XG} {val : α → Option Value} {As : List Value} {S : HSt} {Post : α → HSt → Prop} (lv0 : List (Nat × Value)) (hy : plainName y.cls = true) (hn : (lg_sl As).length ≤ n) (hlv : lv_args 0 As = lv0)
    (body : ∀ (p : Program) (e : Env) (s : State) (m : MethodId) (args : Array Value) (below : List Frame) (meth : Method) (c : Code), Cx p s m c b n args y.cls G → meth.sig.returnType = ret → meth.locks = false → meth.name = y.name →
      Wx p l e (rmL lev mc ms) s m args below meth c (MQ below (Qx G val Post) args s mc ms G.2.2) G n 0 0 S 0 lv0 []) : Mx l y b n ret lev mc ms G val As S Post := by
  subst hlv
  refine Met.ofW (cc := b) (maxL := n) (ret := ret) hy rfl ?_
  intro p e s m args below meth c s₁ B hml hv
  obtain ⟨rfl, hH, hK, hA, hAmb⟩ := hv
  have hts := atoms_spec (ws := Cond.code y b n ret :: TBL) B.pre
  have hown : s.vm.findClass y.cls = some m.cls := findClass_of_methodNamed B.named
  have hin : meth.name = y.name := (name_of_methodNamed B.named B.method).1
  have hl := lv_entry As (n := n) hn
  rw [lg_entry_eq]
  exact body p e s m As.toArray below meth c ⟨B.exec, B.bytes, hml, hown, fun w h => hts w (List.mem_cons_of_mem _ h), hK, hA, hAmb⟩ B.returns B.notSynchronized hin s.heap [] _ hH va_S.rf hl
theorem x_iret (C : Cx p s m c cc nL args own G) {mc ms : Nat} {Post : Int32 → HSt → Prop} {v : Int32} (hr : meth.sig.returnType = some .int) (hk : meth.locks = false) (hdg : decode cc pc = .ok (.ireturn, 1)) (h1 : cells ≤ mc) (h2 : slots ≤ ms) (hp : Post v S) : Wx p l e R s m args below meth c (MQ below (Qx G vI Post) args s mc ms G.2.2) G nL cells slots S pc lv [.int v] := fun H locs ls hH hS hl =>
  W.widen h1 h2 (W.iret C.1 C.2.1 hr (fun t ht _ => ⟨⟨v, S, rfl, hp, by rw [ht]; exact hH⟩, hS.F ht⟩) hS.2.2 hdg hk)
theorem x_zret (C : Cx p s m c cc nL args own G) {mc ms : Nat} {Post : Int32 → HSt → Prop} {v : Int32} (hr : meth.sig.returnType = some .boolean) (hk : meth.locks = false) (hdg : decode cc pc = .ok (.ireturn, 1)) (h1 : cells ≤ mc) (h2 : slots ≤ ms) (hz : narrow .boolean (.int v) = .int v) (hp : Post v S) : Wx p l e R s m args below meth c (MQ below (Qx G vI Post) args s mc ms G.2.2) G nL cells slots S pc lv [.int v] := fun H locs ls hH hS hl =>
  W.widen h1 h2 (W.zret C.1 C.2.1 hr hz (fun t ht _ => ⟨⟨v, S, rfl, hp, by rw [ht]; exact hH⟩, hS.F ht⟩) hS.2.2 hdg hk)
theorem x_cret (C : Cx p s m c cc nL args own G) {mc ms : Nat} {Post : Int32 → HSt → Prop} {v : Int32} {ty : FieldType} (hr : meth.sig.returnType = some ty) (hk : meth.locks = false) (hdg : decode cc pc = .ok (.ireturn, 1)) (h1 : cells ≤ mc) (h2 : slots ≤ ms) (hz : narrow ty (.int v) = .int v) (hp : Post v S) : Wx p l e R s m args below meth c (MQ below (Qx G vI Post) args s mc ms G.2.2) G nL cells slots S pc lv [.int v] := fun H locs ls hH hS hl =>
  W.widen h1 h2 (W.zret C.1 C.2.1 hr hz (fun t ht _ => ⟨⟨v, S, rfl, hp, by rw [ht]; exact hH⟩, hS.F ht⟩) hS.2.2 hdg hk)
theorem x_lret (C : Cx p s m c cc nL args own G) {mc ms : Nat} {Post : Int64 → HSt → Prop} {v : Int64} (hr : meth.sig.returnType = some .long) (hk : meth.locks = false) (hdg : decode cc pc = .ok (.lreturn, 1)) (h1 : cells ≤ mc) (h2 : slots ≤ ms) (hp : Post v S) : Wx p l e R s m args below meth c (MQ below (Qx G vL Post) args s mc ms G.2.2) G nL cells slots S pc lv [.long v] := fun H locs ls hH hS hl =>
  W.widen h1 h2 (W.lret C.1 C.2.1 hr (fun t ht _ => ⟨⟨v, S, rfl, hp, by rw [ht]; exact hH⟩, hS.F ht⟩) hS.2.2 hdg hk)
theorem x_vret (C : Cx p s m c cc nL args own G) {mc ms : Nat} {Post : Unit → HSt → Prop} (hr : meth.sig.returnType = none) (hk : meth.locks = false) (hdg : decode cc pc = .ok (.return_, 1)) (h1 : cells ≤ mc) (h2 : slots ≤ ms) (hp : Post () S) : Wx p l e R s m args below meth c (MQ below (Qx G vV Post) args s mc ms G.2.2) G nL cells slots S pc lv [] := fun H locs ls hH hS hl =>
  W.widen h1 h2 (W.vret C.1 C.2.1 hr (fun t ht _ => ⟨⟨(), S, rfl, hp, by rw [ht]; exact hH⟩, hS.F ht⟩) hS.2.2 hdg hk)
theorem x_aret (C : Cx p s m c cc nL args own G) {mc ms : Nat} {Post : Option Nat → HSt → Prop} {v : Option Nat} {C0 : String} (hr : meth.sig.returnType = some (.object C0)) (hk : meth.locks = false) (hdg : decode cc pc = .ok (.areturn, 1)) (h1 : cells ≤ mc) (h2 : slots ≤ ms) (hp : Post v S) : Wx p l e R s m args below meth c (MQ below (Qx G vR Post) args s mc ms G.2.2) G nL cells slots S pc lv [va_rf v] := fun H locs ls hH hS hl =>
  W.widen h1 h2 (W.aret C.1 C.2.1 hr (Or.inl ⟨_, rfl⟩) (va_rf_or v) (fun t ht _ => ⟨⟨v, S, rfl, hp, by rw [ht]; exact hH⟩, hS.F ht⟩) hS.2.2 hdg hk)
/-- behind a call -/
theorem x_after {α : Type} {val : α → Option Value} {Post : α → HSt → Prop} {mc ms : Nat} {st0 : List Value} {H : Heap} {locs : List Loc} {ls : Array Slot} {a0 : Array Value} (hS : va_S G.2.2 s.heap H locs) (hl : lv_has ls nL lv) (hr : va_Run p l e R s m args below meth c H locs cells slots mc ms (F0 m pc ls st0) rest (Qx G val Post a0) G.2.2)
    (kk : ∀ (r : α) (S' : HSt), Post r S' → Wx p l e R s m args below meth c Q G nL (cells + mc) (slots + ms) S' (pc + 3) lv ((val r).toList ++ rest)) : W p l e R s m args below meth c H locs cells slots Q (F0 m pc ls st0) := by
  intro T hT X
  obtain ⟨v, st₀, t, T', L, h0, X', hL, e1, e2, ⟨⟨r, S', hv, hp, hH⟩, hz, hk⟩, st⟩ := hr T hT X
  cases hv
  rw [h0] at hz hk
  obtain ⟨t2, a1, b1⟩ := kk r S' hp T'.heap (locs ++ L) ls (by rw [e1]; exact hH)
    ⟨Nat.le_trans hS.1 (by rw [e1]; exact hz), fun q h1 h2 => by rw [e1, hk q (Nat.lt_of_lt_of_le h1 hS.1) h2]; exact hS.2.1 q h1 h2, fun q hq => by
      rcases List.mem_append.mp hq with h | h
      · exact hS.2.2 q h
      · exact hL q h⟩ hl T' rfl X'
  exact ⟨t2, st t2 a1, b1⟩
/-- a method of the claim: what stands of it in the tables -/
def MeR (y : MethodName) (b : ByteArray) (n : Nat) (ret : Option FieldType) (na : Nat) : Prop := Cond.code y b n ret ∈ TBL ∧ Cond.initialized y.cls ∈ TBL ∧ y.cls ≠ "java/lang/invoke/MethodHandle" ∧ y.cls ≠ "java/lang/invoke/VarHandle" ∧ (parseMethodDescriptor y.desc).map (fun d => d.parameters.length) = some na ∧ n ≤ 21
/-- a virtual method's receiver -/
def MeV (y : MethodName) (kd : Nat) : Prop := 0 < kd ∧ kd < 14 ∧ Cond.instanceMethod y ∈ TBL ∧ Cond.selects y.cls y y ∈ TBL ∧ ∃ (T : u_T) (N : Nat), vwCl[kd - 1]? = some (y.cls, T, N)
theorem Wd.of {H : Heap} {locs : List Loc} {As : List Value} (C : Cx p s m c cc nL args own G) (hH : Hq G S H) (hS : va_S G.2.2 s.heap H locs) : FrameBlind (va_Pc As (Wd G S)) ∧ ∀ U : State, U.heap = H → s.WarmedH U.vm → va_Pc As (Wd G S) As.toArray U := by
  refine ⟨fun a U g mk q => ?_, fun U hU hW => ⟨rfl, by rw [hU]; exact hH, va_K.moved hW.alike C.2.2.2.2.2.1, fun q hq => C.2.2.2.2.2.2.1 q (Nat.le_trans hS.1 (by rw [← hU]; exact hq)), by rw [hU]; exact C.2.2.2.2.2.2.2.at hW hS⟩⟩
  obtain ⟨q0, q1, q2, q3, q4⟩ := q
  exact ⟨q0, q1, va_K.moved (u := U) (U := U.calling g mk a) (Vm.Alike.refl U.vm) q2, q3, q4.same rfl⟩
theorem recvX {H : Heap} {locs : List Loc} {a kd : Nat} {y : MethodName} (C : Cx p s m c cc nL args own G) (M : MeV y kd) (hk : gK S a = kd) (hH : Hq G S H) : ∃ cell : Cell, H[a]? = some cell ∧ cell.vm.isStatics = false ∧ s.vm.findClass y.cls = some cell.cls := by
  obtain ⟨h0, h1, _, _, T, N, hc⟩ := M
  obtain ⟨L, hL, hP, hD⟩ := hH
  have ha : a ∈ L := (hL a).mp (by rw [hk]; omega)
  obtain ⟨q0, hq⟩ := va_pl_get (X := []) (f := ent G.2.1 S) ha
  rw [ent_obj hk (by omega)] at hq
  exact va_recv C.2.2.2.2.2.1 hP hc hq
section XCALL
variable {α : Type} {y : MethodName} {b : ByteArray} {n na : Nat} {ret : Option FieldType} {lev mc ms lev0 mc0 ms0 : Nat} {val : α → Option Value} {Post : α → HSt → Prop} {a kd index : Nat} {As : List Value} {host : String}
theorem rm_ok (hn : n ≤ 21) (hlev : lev + 1 ≤ lev0) : (rmL lev mc ms).frames + 1 ≤ (rmL lev0 mc0 ms0).frames ∧ 8 + (n + 11) + (rmL lev mc ms).locals ≤ (rmL lev0 mc0 ms0).locals := ⟨hlev, by show 8 + (n + 11) + 40 * lev ≤ 40 * lev0; omega⟩
theorem x_callV (C : Cx p s m c cc nL args own G) (As : List Value) (M : MeR y b n ret na) (MV : MeV y kd) (hlk : Cond.methodLink own index y ∈ TBL) (hM : Mx l y b n ret lev mc ms G val (.ref a :: As) S Post) (hk : gK S a = kd) (hna : As.length = na) (hrest : (rest.map fun v => v.category).sum ≤ 8) (hdg : decode cc pc = .ok (.invokevirtual index, 3)) (hlev : lev + 1 ≤ lev0) (hmc : cells + mc ≤ mc0) (hms : slots + ms ≤ ms0)
    (kk : ∀ (r : α) (S' : HSt), Post r S' → Wx p l e (rmL lev0 mc0 ms0) s m args below meth c Q G nL (cells + mc) (slots + ms) S' (pc + 3) lv ((val r).toList ++ rest)) : Wx p l e (rmL lev0 mc0 ms0) s m args below meth c Q G nL cells slots S pc lv (As.reverse ++ .ref a :: rest) := by
  intro H locs ls hH hS hl
  obtain ⟨hcode, hini, hd1, hd2, hd3, hn⟩ := M
  have hw := Wd.of (As := .ref a :: As) C hH hS
  refine x_after hS hl (va_runV (As := As) (rest := rest) (nL := nL) (Ts := TBL) ⟨C.1, C.2.1, C.2.2.1, C.2.2.2.1, C.2.2.2.2.1⟩ hM (cwV (C := y.cls) na C.2.2.2.2.1 (fun w hw => ?_) rfl rfl rfl ⟨rfl, hd1, hd2, hd3⟩ (rm_ok hn hlev)) ⟨hw.1, recvX (locs := locs) C MV hk hH, hw.2⟩ rfl hna hl.1 rfl (lv_room hrest) hdg ⟨hmc, hms⟩) kk
  have h9 : w ∈ TBL := by
    rcases List.mem_append.mp hw with h | h
    · have h := h
      simp only [List.mem_cons, List.not_mem_nil, or_false] at h
      rcases h with rfl | rfl | rfl | rfl
      · exact hlk
      · exact MV.2.2.1
      · exact MV.2.2.2.1
      · exact hini
    · rcases List.mem_cons.mp h with rfl | h
      · exact hcode
      · exact h
  exact ⟨h9, good_of_word (TBL_good w h9)⟩
theorem x_callS (C : Cx p s m c cc nL args own G) (As : List Value) (M : MeR y b n ret na) (hst : Cond.static y ∈ TBL) (ho : y.cls = own) (hlk : Cond.methodLink own index y ∈ TBL) (hM : Mx l y b n ret lev mc ms G val As S Post) (hna : As.length = na) (hrest : (rest.map fun v => v.category).sum ≤ 8) (hdg : decode cc pc = .ok (.invokestatic index, 3)) (hlev : lev + 1 ≤ lev0) (hmc : cells + mc ≤ mc0) (hms : slots + ms ≤ ms0)
    (kk : ∀ (r : α) (S' : HSt), Post r S' → Wx p l e (rmL lev0 mc0 ms0) s m args below meth c Q G nL (cells + mc) (slots + ms) S' (pc + 3) lv ((val r).toList ++ rest)) : Wx p l e (rmL lev0 mc0 ms0) s m args below meth c Q G nL cells slots S pc lv (As.reverse ++ rest) := by
  intro H locs ls hH hS hl
  obtain ⟨hcode, hini, hd1, hd2, hd3, hn⟩ := M
  have hw := Wd.of (As := As) C hH hS
  have hG : GoodIn TBL (Cond.code y b n ret :: TBL) := TBL_GL hcode
  exact x_after hS hl (va_runS (As := As) (rest := rest) (nL := nL) (Ts := TBL) ⟨C.1, C.2.1, C.2.2.1, C.2.2.2.1, C.2.2.2.2.1⟩ hM ⟨callB_of na C.2.2.2.2.1 hG rfl rfl rfl (C.2.2.2.2.1 _ hini) (C.2.2.2.2.1 _ hlk) ⟨hd1, hd2, hd3⟩ (rm_ok hn hlev), C.2.2.2.2.1 _ hst⟩ hw rfl hna hl.1 rfl (lv_room hrest) hdg ⟨hmc, hms⟩) kk
theorem x_callSN (C : Cx p s m c cc nL args own G) (As : List Value) (M : MeR y b n ret na) (hst : Cond.static y ∈ TBL) (hlk : Cond.methodLinkNest own index y host ∈ TBL) (hM : Mx l y b n ret lev mc ms G val As S Post) (hna : As.length = na) (hrest : (rest.map fun v => v.category).sum ≤ 8) (hdg : decode cc pc = .ok (.invokestatic index, 3)) (hlev : lev + 1 ≤ lev0) (hmc : cells + mc ≤ mc0) (hms : slots + ms ≤ ms0)
    (kk : ∀ (r : α) (S' : HSt), Post r S' → Wx p l e (rmL lev0 mc0 ms0) s m args below meth c Q G nL (cells + mc) (slots + ms) S' (pc + 3) lv ((val r).toList ++ rest)) : Wx p l e (rmL lev0 mc0 ms0) s m args below meth c Q G nL cells slots S pc lv (As.reverse ++ rest) := by
  intro H locs ls hH hS hl
  obtain ⟨hcode, hini, hd1, hd2, hd3, hn⟩ := M
  have hw := Wd.of (As := As) C hH hS
  have hG : GoodIn TBL (Cond.code y b n ret :: TBL) := TBL_GL hcode
  exact x_after hS hl (va_runSN (As := As) (rest := rest) (nL := nL) (Ts := TBL) ⟨C.1, C.2.1, C.2.2.1, C.2.2.2.1, C.2.2.2.2.1⟩ hM ⟨va_cnB na C.2.2.2.2.1 hG rfl rfl rfl (va_Nw.of rfl (C.2.2.2.2.1 _ hlk)) (C.2.2.2.2.1 _ hini) ⟨hd1, hd2, hd3⟩ (rm_ok hn hlev), C.2.2.2.2.1 _ hst, trivial⟩ hw rfl hna hl.1 rfl (lv_room hrest) hdg ⟨hmc, hms⟩) kk
theorem x_callI {Post : Unit → HSt → Prop} (C : Cx p s m c cc nL args own G) (As : List Value) (M : MeR y b n none na) (hy1 : y.name = "<init>") (hin : Cond.instanceMethod y ∈ TBL) (hlk : Cond.methodLink own index y ∈ TBL) (hM : Mx l y b n none lev mc ms G vV (.ref a :: As) S Post) (hna : As.length = na) (hrest : (rest.map fun v => v.category).sum ≤ 8) (hdg : decode cc pc = .ok (.invokespecial index, 3)) (hlev : lev + 1 ≤ lev0) (hmc : cells + mc ≤ mc0) (hms : slots + ms ≤ ms0)
    (kk : ∀ (S' : HSt), Post () S' → Wx p l e (rmL lev0 mc0 ms0) s m args below meth c Q G nL (cells + mc) (slots + ms) S' (pc + 3) lv rest) : Wx p l e (rmL lev0 mc0 ms0) s m args below meth c Q G nL cells slots S pc lv (As.reverse ++ .ref a :: rest) := by
  intro H locs ls hH hS hl
  obtain ⟨hcode, hini, hd1, hd2, hd3, hn⟩ := M
  have hw := Wd.of (As := .ref a :: As) C hH hS
  have hG : GoodIn TBL (Cond.code y b n none :: TBL) := TBL_GL hcode
  exact x_after hS hl (va_runI (As := As) (rest := rest) (nL := nL) (Ts := TBL) ⟨C.1, C.2.1, C.2.2.1, C.2.2.2.1, C.2.2.2.2.1⟩ hM (cwI na C.2.2.2.2.1 hG rfl rfl rfl (C.2.2.2.2.1 _ hini) (C.2.2.2.2.1 _ hlk) (C.2.2.2.2.1 _ hin) hy1 ⟨hd1, hd2, hd3⟩ (rm_ok hn hlev)) hw rfl hna hl.1 rfl (lv_room hrest) hdg ⟨hmc, hms⟩) (fun _ S' h => kk S' h)
theorem x_callIN {Post : Unit → HSt → Prop} (C : Cx p s m c cc nL args own G) (As : List Value) (M : MeR y b n none na) (hy1 : y.name = "<init>") (hin : Cond.instanceMethod y ∈ TBL) (hlk : Cond.methodLinkNest own index y host ∈ TBL) (hM : Mx l y b n none lev mc ms G vV (.ref a :: As) S Post) (hna : As.length = na) (hrest : (rest.map fun v => v.category).sum ≤ 8) (hdg : decode cc pc = .ok (.invokespecial index, 3)) (hlev : lev + 1 ≤ lev0) (hmc : cells + mc ≤ mc0) (hms : slots + ms ≤ ms0)
    (kk : ∀ (S' : HSt), Post () S' → Wx p l e (rmL lev0 mc0 ms0) s m args below meth c Q G nL (cells + mc) (slots + ms) S' (pc + 3) lv rest) : Wx p l e (rmL lev0 mc0 ms0) s m args below meth c Q G nL cells slots S pc lv (As.reverse ++ .ref a :: rest) := by
  intro H locs ls hH hS hl
  obtain ⟨hcode, hini, hd1, hd2, hd3, hn⟩ := M
  have hw := Wd.of (As := .ref a :: As) C hH hS
  have hG : GoodIn TBL (Cond.code y b n none :: TBL) := TBL_GL hcode
  exact x_after hS hl (va_runIN (As := As) (rest := rest) (nL := nL) (Ts := TBL) ⟨C.1, C.2.1, C.2.2.1, C.2.2.2.1, C.2.2.2.2.1⟩ hM ⟨va_cnB na C.2.2.2.2.1 hG rfl rfl rfl (va_Nw.of rfl (C.2.2.2.2.1 _ hlk)) (C.2.2.2.2.1 _ hini) ⟨hd1, hd2, hd3⟩ (rm_ok hn hlev), hy1, C.2.2.2.2.1 _ hin⟩ hw rfl hna hl.1 rfl (lv_room hrest) hdg ⟨hmc, hms⟩) (fun _ S' h => kk S' h)
end XCALL
theorem x_objInit (C : Cx p s m c cc nL args own G) {idx a : Nat} (hlk : Cond.methodLink own idx Lib.objectInit ∈ TBL) (hin : Cond.instanceMethod Lib.objectInit ∈ TBL) (hco : Cond.code Lib.objectInit ⟨#[0xb1]⟩ 1 none ∈ TBL) (hdg : decode cc pc = .ok (.invokespecial idx, 3)) (h1 : 1 ≤ R.frames) (h2 : (rest.map fun v => v.category).sum + 12 ≤ R.locals) (kk : Wx p l e R s m args below meth c Q G nL cells slots S (pc + 3) lv rest) : Wx p l e R s m args below meth c Q G nL cells slots S pc lv (.ref a :: rest) := fun H locs ls hH hS hl =>
  W.objInit C.1 C.2.1 C.2.2.2.1 (C.2.2.2.2.1 _ hlk) (C.2.2.2.2.1 _ hin) (C.2.2.2.2.1 _ hco) rfl (by rw [C.2.2.1]; exact hl.1) rfl hdg h1 (by show 2 * 0 + _ + 12 ≤ _; omega) (kk H locs ls hH hS hl)
theorem x_max (C : Cx p s m c cc nL args own G) {index : Nat} {x y : Int32} (hlk : Cond.methodLink own index Lib.Math.max.name ∈ TBL) (hst : Cond.static Lib.Math.max.name ∈ TBL) (hini : Cond.initialized "java/lang/Math" ∈ TBL) (hco : Cond.code Lib.Math.max.name Lib.Math.max.code 2 (some .int) ∈ TBL) (hdg : decode cc pc = .ok (.invokestatic index, 3)) (h1 : 1 ≤ R.frames) (h2 : (rest.map fun v => v.category).sum + 13 ≤ R.locals) (h3 : cells ≤ R.cells) (h4 : slots ≤ R.slots) (kk : Wx p l e R s m args below meth c Q G nL cells slots S (pc + 3) lv (.int (if x < y then y else x) :: rest)) : Wx p l e R s m args below meth c Q G nL cells slots S pc lv (.int y :: .int x :: rest) := fun H locs ls hH hS hl =>
  va_mmax C.1 C.2.1 (by rw [C.2.2.1]; exact hl.1.symm) C.2.2.2.1 (C.2.2.2.2.1 _ hlk) (C.2.2.2.2.1 _ hst) (C.2.2.2.2.1 _ hini) (C.2.2.2.2.1 _ hco) h1 h2 h3 h4 hdg (kk H locs ls hH hS hl)

end XR
theorem zz_bad : (1:Nat) = 2 := rfl
end
