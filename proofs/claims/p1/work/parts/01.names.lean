-- ===== PART A: goes FIRST, ahead of the names: the tables' words, and 'selects' of the private methods out of them =====
/-- a private method of a class that the tables say can be made, by its rows of tables_1 -/
def lw_okq (q : MethodName × Nat) : Prop := (q.1.cls ≠ "java/lang/invoke/MethodHandle" ∧ q.1.cls ≠ "java/lang/invoke/VarHandle") ∧ Cond.instantiable q.1.cls q.2 ∈ tables_1 ∧ Cond.privateMethod q.1 ∈ tables_1 ∧ Cond.instanceMethod q.1 ∈ tables_1
theorem lw_p0 : lw_okq (⟨"TalkHouse$Cursor", "cutToken", "(LTalkHouse$Row;I)I"⟩, 11) := ⟨⟨by decide +kernel, by decide +kernel⟩, List.mem_of_getElem? (i := 46) (by decide +kernel), List.mem_of_getElem? (i := 567) (by decide +kernel), List.mem_of_getElem? (i := 568) (by decide +kernel)⟩
theorem lw_p1 : lw_okq (⟨"TalkHouse$Cursor", "cutLetters", "(LTalkHouse$Row;I)I"⟩, 11) := ⟨⟨by decide +kernel, by decide +kernel⟩, List.mem_of_getElem? (i := 46) (by decide +kernel), List.mem_of_getElem? (i := 578) (by decide +kernel), List.mem_of_getElem? (i := 579) (by decide +kernel)⟩
theorem lw_p2 : lw_okq (⟨"TalkHouse$Cursor", "note", "(III)V"⟩, 11) := ⟨⟨by decide +kernel, by decide +kernel⟩, List.mem_of_getElem? (i := 46) (by decide +kernel), List.mem_of_getElem? (i := 586) (by decide +kernel), List.mem_of_getElem? (i := 587) (by decide +kernel)⟩
theorem lw_p3 : lw_okq (⟨"TalkHouse$Cursor", "cutDigits", "(LTalkHouse$Row;I)I"⟩, 11) := ⟨⟨by decide +kernel, by decide +kernel⟩, List.mem_of_getElem? (i := 46) (by decide +kernel), List.mem_of_getElem? (i := 593) (by decide +kernel), List.mem_of_getElem? (i := 594) (by decide +kernel)⟩
theorem lw_p4 : lw_okq (⟨"TalkHouse$Reader", "readFresh", "(LTalkHouse$Row;I)I"⟩, 7) := ⟨⟨by decide +kernel, by decide +kernel⟩, List.mem_of_getElem? (i := 317) (by decide +kernel), List.mem_of_getElem? (i := 703) (by decide +kernel), List.mem_of_getElem? (i := 704) (by decide +kernel)⟩
theorem lw_p5 : lw_okq (⟨"TalkHouse$TypeReader", "readType", "(I)I"⟩, 5) := ⟨⟨by decide +kernel, by decide +kernel⟩, List.mem_of_getElem? (i := 348) (by decide +kernel), List.mem_of_getElem? (i := 726) (by decide +kernel), List.mem_of_getElem? (i := 727) (by decide +kernel)⟩
theorem lw_p6 : lw_okq (⟨"TalkHouse$TypeReader", "readKnown", "()I"⟩, 5) := ⟨⟨by decide +kernel, by decide +kernel⟩, List.mem_of_getElem? (i := 348) (by decide +kernel), List.mem_of_getElem? (i := 730) (by decide +kernel), List.mem_of_getElem? (i := 731) (by decide +kernel)⟩
theorem lw_p7 : lw_okq (⟨"TalkHouse$TypeReader", "countParts", "(II)V"⟩, 5) := ⟨⟨by decide +kernel, by decide +kernel⟩, List.mem_of_getElem? (i := 348) (by decide +kernel), List.mem_of_getElem? (i := 738) (by decide +kernel), List.mem_of_getElem? (i := 739) (by decide +kernel)⟩
theorem lw_p8 : lw_okq (⟨"TalkHouse$Types", "addT", "(IIII)I"⟩, 8) := ⟨⟨by decide +kernel, by decide +kernel⟩, List.mem_of_getElem? (i := 163) (by decide +kernel), List.mem_of_getElem? (i := 759) (by decide +kernel), List.mem_of_getElem? (i := 760) (by decide +kernel)⟩
theorem lw_p9 : lw_okq (⟨"TalkHouse$TypeReader", "readChoice", "(II)I"⟩, 5) := ⟨⟨by decide +kernel, by decide +kernel⟩, List.mem_of_getElem? (i := 348) (by decide +kernel), List.mem_of_getElem? (i := 764) (by decide +kernel), List.mem_of_getElem? (i := 765) (by decide +kernel)⟩
theorem lw_p10 : lw_okq (⟨"TalkHouse$TypeReader", "readBranchName", "(I)I"⟩, 5) := ⟨⟨by decide +kernel, by decide +kernel⟩, List.mem_of_getElem? (i := 348) (by decide +kernel), List.mem_of_getElem? (i := 770) (by decide +kernel), List.mem_of_getElem? (i := 771) (by decide +kernel)⟩
theorem lw_p11 : lw_okq (⟨"TalkHouse$TypeReader", "sortLast", "(I)V"⟩, 5) := ⟨⟨by decide +kernel, by decide +kernel⟩, List.mem_of_getElem? (i := 348) (by decide +kernel), List.mem_of_getElem? (i := 779) (by decide +kernel), List.mem_of_getElem? (i := 780) (by decide +kernel)⟩
theorem lw_p12 : lw_okq (⟨"TalkHouse$Types", "isLike", "(ILTalkHouse$Row;LTalkHouse$Row;I)Z"⟩, 8) := ⟨⟨by decide +kernel, by decide +kernel⟩, List.mem_of_getElem? (i := 163) (by decide +kernel), List.mem_of_getElem? (i := 788) (by decide +kernel), List.mem_of_getElem? (i := 789) (by decide +kernel)⟩
theorem lw_p13 : lw_okq (⟨"TalkHouse$TypeReader", "readTalk", "(II)I"⟩, 5) := ⟨⟨by decide +kernel, by decide +kernel⟩, List.mem_of_getElem? (i := 348) (by decide +kernel), List.mem_of_getElem? (i := 793) (by decide +kernel), List.mem_of_getElem? (i := 794) (by decide +kernel)⟩
theorem lw_p14 : lw_okq (⟨"TalkHouse$Scope", "index", "(I)I"⟩, 4) := ⟨⟨by decide +kernel, by decide +kernel⟩, List.mem_of_getElem? (i := 323) (by decide +kernel), List.mem_of_getElem? (i := 817) (by decide +kernel), List.mem_of_getElem? (i := 818) (by decide +kernel)⟩
theorem lw_p15 : lw_okq (⟨"TalkHouse$Reader", "readParams", "()V"⟩, 7) := ⟨⟨by decide +kernel, by decide +kernel⟩, List.mem_of_getElem? (i := 317) (by decide +kernel), List.mem_of_getElem? (i := 825) (by decide +kernel), List.mem_of_getElem? (i := 826) (by decide +kernel)⟩
def lw_privs_1 : List (MethodName × Nat) := [(⟨"TalkHouse$Cursor", "cutToken", "(LTalkHouse$Row;I)I"⟩, 11), (⟨"TalkHouse$Cursor", "cutLetters", "(LTalkHouse$Row;I)I"⟩, 11), (⟨"TalkHouse$Cursor", "note", "(III)V"⟩, 11), (⟨"TalkHouse$Cursor", "cutDigits", "(LTalkHouse$Row;I)I"⟩, 11), (⟨"TalkHouse$Reader", "readFresh", "(LTalkHouse$Row;I)I"⟩, 7), (⟨"TalkHouse$TypeReader", "readType", "(I)I"⟩, 5), (⟨"TalkHouse$TypeReader", "readKnown", "()I"⟩, 5), (⟨"TalkHouse$TypeReader", "countParts", "(II)V"⟩, 5), (⟨"TalkHouse$Types", "addT", "(IIII)I"⟩, 8), (⟨"TalkHouse$TypeReader", "readChoice", "(II)I"⟩, 5), (⟨"TalkHouse$TypeReader", "readBranchName", "(I)I"⟩, 5), (⟨"TalkHouse$TypeReader", "sortLast", "(I)V"⟩, 5), (⟨"TalkHouse$Types", "isLike", "(ILTalkHouse$Row;LTalkHouse$Row;I)Z"⟩, 8), (⟨"TalkHouse$TypeReader", "readTalk", "(II)I"⟩, 5), (⟨"TalkHouse$Scope", "index", "(I)I"⟩, 4), (⟨"TalkHouse$Reader", "readParams", "()V"⟩, 7)]
theorem lw_r1 : ∀ q ∈ lw_privs_1, lw_okq q := List.forall_mem_cons.mpr ⟨lw_p0, List.forall_mem_cons.mpr ⟨lw_p1, List.forall_mem_cons.mpr ⟨lw_p2, List.forall_mem_cons.mpr ⟨lw_p3, List.forall_mem_cons.mpr ⟨lw_p4, List.forall_mem_cons.mpr ⟨lw_p5, List.forall_mem_cons.mpr ⟨lw_p6, List.forall_mem_cons.mpr ⟨lw_p7, List.forall_mem_cons.mpr ⟨lw_p8, List.forall_mem_cons.mpr ⟨lw_p9, List.forall_mem_cons.mpr ⟨lw_p10, List.forall_mem_cons.mpr ⟨lw_p11, List.forall_mem_cons.mpr ⟨lw_p12, List.forall_mem_cons.mpr ⟨lw_p13, List.forall_mem_cons.mpr ⟨lw_p14, List.forall_mem_cons.mpr ⟨lw_p15, fun _ h => absurd h List.not_mem_nil⟩⟩⟩⟩⟩⟩⟩⟩⟩⟩⟩⟩⟩⟩⟩⟩
theorem lw_p16 : lw_okq (⟨"TalkHouse$Reader", "readFreshThing", "()I"⟩, 7) := ⟨⟨by decide +kernel, by decide +kernel⟩, List.mem_of_getElem? (i := 317) (by decide +kernel), List.mem_of_getElem? (i := 833) (by decide +kernel), List.mem_of_getElem? (i := 834) (by decide +kernel)⟩
theorem lw_p17 : lw_okq (⟨"TalkHouse$Reader", "readSteps", "(I)I"⟩, 7) := ⟨⟨by decide +kernel, by decide +kernel⟩, List.mem_of_getElem? (i := 317) (by decide +kernel), List.mem_of_getElem? (i := 844) (by decide +kernel), List.mem_of_getElem? (i := 845) (by decide +kernel)⟩
theorem lw_p18 : lw_okq (⟨"TalkHouse$Reader", "countWord", "(I)V"⟩, 7) := ⟨⟨by decide +kernel, by decide +kernel⟩, List.mem_of_getElem? (i := 317) (by decide +kernel), List.mem_of_getElem? (i := 849) (by decide +kernel), List.mem_of_getElem? (i := 850) (by decide +kernel)⟩
theorem lw_p19 : lw_okq (⟨"TalkHouse$Reader", "readIf", "(I)I"⟩, 7) := ⟨⟨by decide +kernel, by decide +kernel⟩, List.mem_of_getElem? (i := 317) (by decide +kernel), List.mem_of_getElem? (i := 857) (by decide +kernel), List.mem_of_getElem? (i := 858) (by decide +kernel)⟩
theorem lw_p20 : lw_okq (⟨"TalkHouse$Reader", "refuseOpen", "(I)V"⟩, 7) := ⟨⟨by decide +kernel, by decide +kernel⟩, List.mem_of_getElem? (i := 317) (by decide +kernel), List.mem_of_getElem? (i := 866) (by decide +kernel), List.mem_of_getElem? (i := 867) (by decide +kernel)⟩
theorem lw_p21 : lw_okq (⟨"TalkHouse$SumReader", "readSum", "(II)I"⟩, 3) := ⟨⟨by decide +kernel, by decide +kernel⟩, List.mem_of_getElem? (i := 372) (by decide +kernel), List.mem_of_getElem? (i := 871) (by decide +kernel), List.mem_of_getElem? (i := 872) (by decide +kernel)⟩
theorem lw_p22 : lw_okq (⟨"TalkHouse$SumReader", "readUnit", "(I)I"⟩, 3) := ⟨⟨by decide +kernel, by decide +kernel⟩, List.mem_of_getElem? (i := 372) (by decide +kernel), List.mem_of_getElem? (i := 875) (by decide +kernel), List.mem_of_getElem? (i := 876) (by decide +kernel)⟩
theorem lw_p23 : lw_okq (⟨"TalkHouse$Reader", "readBraced", "(I)I"⟩, 7) := ⟨⟨by decide +kernel, by decide +kernel⟩, List.mem_of_getElem? (i := 317) (by decide +kernel), List.mem_of_getElem? (i := 903) (by decide +kernel), List.mem_of_getElem? (i := 904) (by decide +kernel)⟩
theorem lw_p24 : lw_okq (⟨"TalkHouse$Reader", "readCase", "(I)I"⟩, 7) := ⟨⟨by decide +kernel, by decide +kernel⟩, List.mem_of_getElem? (i := 317) (by decide +kernel), List.mem_of_getElem? (i := 917) (by decide +kernel), List.mem_of_getElem? (i := 918) (by decide +kernel)⟩
theorem lw_p25 : lw_okq (⟨"TalkHouse$Reader", "readChannel", "(I)I"⟩, 7) := ⟨⟨by decide +kernel, by decide +kernel⟩, List.mem_of_getElem? (i := 317) (by decide +kernel), List.mem_of_getElem? (i := 921) (by decide +kernel), List.mem_of_getElem? (i := 922) (by decide +kernel)⟩
theorem lw_p26 : lw_okq (⟨"TalkHouse$Reader", "readAlternative", "(II)I"⟩, 7) := ⟨⟨by decide +kernel, by decide +kernel⟩, List.mem_of_getElem? (i := 317) (by decide +kernel), List.mem_of_getElem? (i := 945) (by decide +kernel), List.mem_of_getElem? (i := 946) (by decide +kernel)⟩
theorem lw_p27 : lw_okq (⟨"TalkHouse$Reader", "readClose", "()V"⟩, 7) := ⟨⟨by decide +kernel, by decide +kernel⟩, List.mem_of_getElem? (i := 317) (by decide +kernel), List.mem_of_getElem? (i := 963) (by decide +kernel), List.mem_of_getElem? (i := 964) (by decide +kernel)⟩
theorem lw_p28 : lw_okq (⟨"TalkHouse$Reader", "readGo", "(I)V"⟩, 7) := ⟨⟨by decide +kernel, by decide +kernel⟩, List.mem_of_getElem? (i := 317) (by decide +kernel), List.mem_of_getElem? (i := 967) (by decide +kernel), List.mem_of_getElem? (i := 968) (by decide +kernel)⟩
theorem lw_p29 : lw_okq (⟨"TalkHouse$Reader", "readDefAhead", "()I"⟩, 7) := ⟨⟨by decide +kernel, by decide +kernel⟩, List.mem_of_getElem? (i := 317) (by decide +kernel), List.mem_of_getElem? (i := 971) (by decide +kernel), List.mem_of_getElem? (i := 972) (by decide +kernel)⟩
theorem lw_p30 : lw_okq (⟨"TalkHouse$Reader", "readArgs", "(III)V"⟩, 7) := ⟨⟨by decide +kernel, by decide +kernel⟩, List.mem_of_getElem? (i := 317) (by decide +kernel), List.mem_of_getElem? (i := 975) (by decide +kernel), List.mem_of_getElem? (i := 976) (by decide +kernel)⟩
theorem lw_p31 : lw_okq (⟨"TalkHouse$Reader", "readChannelArg", "(I)I"⟩, 7) := ⟨⟨by decide +kernel, by decide +kernel⟩, List.mem_of_getElem? (i := 317) (by decide +kernel), List.mem_of_getElem? (i := 984) (by decide +kernel), List.mem_of_getElem? (i := 985) (by decide +kernel)⟩
def lw_privs_2 : List (MethodName × Nat) := [(⟨"TalkHouse$Reader", "readFreshThing", "()I"⟩, 7), (⟨"TalkHouse$Reader", "readSteps", "(I)I"⟩, 7), (⟨"TalkHouse$Reader", "countWord", "(I)V"⟩, 7), (⟨"TalkHouse$Reader", "readIf", "(I)I"⟩, 7), (⟨"TalkHouse$Reader", "refuseOpen", "(I)V"⟩, 7), (⟨"TalkHouse$SumReader", "readSum", "(II)I"⟩, 3), (⟨"TalkHouse$SumReader", "readUnit", "(I)I"⟩, 3), (⟨"TalkHouse$Reader", "readBraced", "(I)I"⟩, 7), (⟨"TalkHouse$Reader", "readCase", "(I)I"⟩, 7), (⟨"TalkHouse$Reader", "readChannel", "(I)I"⟩, 7), (⟨"TalkHouse$Reader", "readAlternative", "(II)I"⟩, 7), (⟨"TalkHouse$Reader", "readClose", "()V"⟩, 7), (⟨"TalkHouse$Reader", "readGo", "(I)V"⟩, 7), (⟨"TalkHouse$Reader", "readDefAhead", "()I"⟩, 7), (⟨"TalkHouse$Reader", "readArgs", "(III)V"⟩, 7), (⟨"TalkHouse$Reader", "readChannelArg", "(I)I"⟩, 7)]
theorem lw_r2 : ∀ q ∈ lw_privs_2, lw_okq q := List.forall_mem_cons.mpr ⟨lw_p16, List.forall_mem_cons.mpr ⟨lw_p17, List.forall_mem_cons.mpr ⟨lw_p18, List.forall_mem_cons.mpr ⟨lw_p19, List.forall_mem_cons.mpr ⟨lw_p20, List.forall_mem_cons.mpr ⟨lw_p21, List.forall_mem_cons.mpr ⟨lw_p22, List.forall_mem_cons.mpr ⟨lw_p23, List.forall_mem_cons.mpr ⟨lw_p24, List.forall_mem_cons.mpr ⟨lw_p25, List.forall_mem_cons.mpr ⟨lw_p26, List.forall_mem_cons.mpr ⟨lw_p27, List.forall_mem_cons.mpr ⟨lw_p28, List.forall_mem_cons.mpr ⟨lw_p29, List.forall_mem_cons.mpr ⟨lw_p30, List.forall_mem_cons.mpr ⟨lw_p31, fun _ h => absurd h List.not_mem_nil⟩⟩⟩⟩⟩⟩⟩⟩⟩⟩⟩⟩⟩⟩⟩⟩
theorem lw_p32 : lw_okq (⟨"TalkHouse$Reader", "readSame", "()V"⟩, 7) := ⟨⟨by decide +kernel, by decide +kernel⟩, List.mem_of_getElem? (i := 317) (by decide +kernel), List.mem_of_getElem? (i := 992) (by decide +kernel), List.mem_of_getElem? (i := 993) (by decide +kernel)⟩
theorem lw_p33 : lw_okq (⟨"TalkHouse$Reader", "readJoined", "(Z)I"⟩, 7) := ⟨⟨by decide +kernel, by decide +kernel⟩, List.mem_of_getElem? (i := 317) (by decide +kernel), List.mem_of_getElem? (i := 996) (by decide +kernel), List.mem_of_getElem? (i := 997) (by decide +kernel)⟩
theorem lw_p34 : lw_okq (⟨"TalkHouse$Reader", "readNew", "(I)V"⟩, 7) := ⟨⟨by decide +kernel, by decide +kernel⟩, List.mem_of_getElem? (i := 317) (by decide +kernel), List.mem_of_getElem? (i := 1000) (by decide +kernel), List.mem_of_getElem? (i := 1001) (by decide +kernel)⟩
theorem lw_p35 : lw_okq (⟨"TalkHouse$Reader", "readSay", "(I)V"⟩, 7) := ⟨⟨by decide +kernel, by decide +kernel⟩, List.mem_of_getElem? (i := 317) (by decide +kernel), List.mem_of_getElem? (i := 1004) (by decide +kernel), List.mem_of_getElem? (i := 1005) (by decide +kernel)⟩
theorem lw_p36 : lw_okq (⟨"TalkHouse$Reader", "readTalk", "(II)V"⟩, 7) := ⟨⟨by decide +kernel, by decide +kernel⟩, List.mem_of_getElem? (i := 317) (by decide +kernel), List.mem_of_getElem? (i := 1008) (by decide +kernel), List.mem_of_getElem? (i := 1009) (by decide +kernel)⟩
theorem lw_p37 : lw_okq (⟨"TalkHouse$Reader", "readSent", "(I)I"⟩, 7) := ⟨⟨by decide +kernel, by decide +kernel⟩, List.mem_of_getElem? (i := 317) (by decide +kernel), List.mem_of_getElem? (i := 1012) (by decide +kernel), List.mem_of_getElem? (i := 1013) (by decide +kernel)⟩
theorem lw_p38 : lw_okq (⟨"TalkHouse$Reader", "readPicked", "(II)I"⟩, 7) := ⟨⟨by decide +kernel, by decide +kernel⟩, List.mem_of_getElem? (i := 317) (by decide +kernel), List.mem_of_getElem? (i := 1016) (by decide +kernel), List.mem_of_getElem? (i := 1017) (by decide +kernel)⟩
theorem lw_p39 : lw_okq (⟨"TalkHouse", "takeSpare", "()V"⟩, 8) := ⟨⟨by decide +kernel, by decide +kernel⟩, List.mem_of_getElem? (i := 21) (by decide +kernel), List.mem_of_getElem? (i := 1025) (by decide +kernel), List.mem_of_getElem? (i := 1026) (by decide +kernel)⟩
theorem lw_p40 : lw_okq (⟨"TalkHouse$Stage", "addProcess", "()I"⟩, 16) := ⟨⟨by decide +kernel, by decide +kernel⟩, List.mem_of_getElem? (i := 410) (by decide +kernel), List.mem_of_getElem? (i := 1039) (by decide +kernel), List.mem_of_getElem? (i := 1040) (by decide +kernel)⟩
theorem lw_p41 : lw_okq (⟨"TalkHouse$Stage", "setSlot", "(III)V"⟩, 16) := ⟨⟨by decide +kernel, by decide +kernel⟩, List.mem_of_getElem? (i := 410) (by decide +kernel), List.mem_of_getElem? (i := 1049) (by decide +kernel), List.mem_of_getElem? (i := 1050) (by decide +kernel)⟩
theorem lw_p42 : lw_okq (⟨"TalkHouse$Stage", "goOn", "(II)V"⟩, 16) := ⟨⟨by decide +kernel, by decide +kernel⟩, List.mem_of_getElem? (i := 410) (by decide +kernel), List.mem_of_getElem? (i := 1055) (by decide +kernel), List.mem_of_getElem? (i := 1056) (by decide +kernel)⟩
theorem lw_p43 : lw_okq (⟨"TalkHouse$Stage", "settle", "(I)V"⟩, 16) := ⟨⟨by decide +kernel, by decide +kernel⟩, List.mem_of_getElem? (i := 410) (by decide +kernel), List.mem_of_getElem? (i := 1065) (by decide +kernel), List.mem_of_getElem? (i := 1066) (by decide +kernel)⟩
theorem lw_p44 : lw_okq (⟨"TalkHouse$Stage", "numberOf", "(II)I"⟩, 16) := ⟨⟨by decide +kernel, by decide +kernel⟩, List.mem_of_getElem? (i := 410) (by decide +kernel), List.mem_of_getElem? (i := 1069) (by decide +kernel), List.mem_of_getElem? (i := 1070) (by decide +kernel)⟩
theorem lw_p45 : lw_okq (⟨"TalkHouse$Sums", "valueOf", "(ILTalkHouse$Row;I)I"⟩, 5) := ⟨⟨by decide +kernel, by decide +kernel⟩, List.mem_of_getElem? (i := 200) (by decide +kernel), List.mem_of_getElem? (i := 1077) (by decide +kernel), List.mem_of_getElem? (i := 1078) (by decide +kernel)⟩
theorem lw_p46 : lw_okq (⟨"TalkHouse$Stage", "findReady", "()V"⟩, 16) := ⟨⟨by decide +kernel, by decide +kernel⟩, List.mem_of_getElem? (i := 410) (by decide +kernel), List.mem_of_getElem? (i := 1082) (by decide +kernel), List.mem_of_getElem? (i := 1083) (by decide +kernel)⟩
theorem lw_p47 : lw_okq (⟨"TalkHouse$Stage", "talkedOver", "(II)I"⟩, 16) := ⟨⟨by decide +kernel, by decide +kernel⟩, List.mem_of_getElem? (i := 410) (by decide +kernel), List.mem_of_getElem? (i := 1094) (by decide +kernel), List.mem_of_getElem? (i := 1095) (by decide +kernel)⟩
def lw_privs_3 : List (MethodName × Nat) := [(⟨"TalkHouse$Reader", "readSame", "()V"⟩, 7), (⟨"TalkHouse$Reader", "readJoined", "(Z)I"⟩, 7), (⟨"TalkHouse$Reader", "readNew", "(I)V"⟩, 7), (⟨"TalkHouse$Reader", "readSay", "(I)V"⟩, 7), (⟨"TalkHouse$Reader", "readTalk", "(II)V"⟩, 7), (⟨"TalkHouse$Reader", "readSent", "(I)I"⟩, 7), (⟨"TalkHouse$Reader", "readPicked", "(II)I"⟩, 7), (⟨"TalkHouse", "takeSpare", "()V"⟩, 8), (⟨"TalkHouse$Stage", "addProcess", "()I"⟩, 16), (⟨"TalkHouse$Stage", "setSlot", "(III)V"⟩, 16), (⟨"TalkHouse$Stage", "goOn", "(II)V"⟩, 16), (⟨"TalkHouse$Stage", "settle", "(I)V"⟩, 16), (⟨"TalkHouse$Stage", "numberOf", "(II)I"⟩, 16), (⟨"TalkHouse$Sums", "valueOf", "(ILTalkHouse$Row;I)I"⟩, 5), (⟨"TalkHouse$Stage", "findReady", "()V"⟩, 16), (⟨"TalkHouse$Stage", "talkedOver", "(II)I"⟩, 16)]
theorem lw_r3 : ∀ q ∈ lw_privs_3, lw_okq q := List.forall_mem_cons.mpr ⟨lw_p32, List.forall_mem_cons.mpr ⟨lw_p33, List.forall_mem_cons.mpr ⟨lw_p34, List.forall_mem_cons.mpr ⟨lw_p35, List.forall_mem_cons.mpr ⟨lw_p36, List.forall_mem_cons.mpr ⟨lw_p37, List.forall_mem_cons.mpr ⟨lw_p38, List.forall_mem_cons.mpr ⟨lw_p39, List.forall_mem_cons.mpr ⟨lw_p40, List.forall_mem_cons.mpr ⟨lw_p41, List.forall_mem_cons.mpr ⟨lw_p42, List.forall_mem_cons.mpr ⟨lw_p43, List.forall_mem_cons.mpr ⟨lw_p44, List.forall_mem_cons.mpr ⟨lw_p45, List.forall_mem_cons.mpr ⟨lw_p46, List.forall_mem_cons.mpr ⟨lw_p47, fun _ h => absurd h List.not_mem_nil⟩⟩⟩⟩⟩⟩⟩⟩⟩⟩⟩⟩⟩⟩⟩⟩
theorem lw_p48 : lw_okq (⟨"TalkHouse$Stage", "slotOf", "(II)I"⟩, 16) := ⟨⟨by decide +kernel, by decide +kernel⟩, List.mem_of_getElem? (i := 410) (by decide +kernel), List.mem_of_getElem? (i := 1098) (by decide +kernel), List.mem_of_getElem? (i := 1099) (by decide +kernel)⟩
theorem lw_p49 : lw_okq (⟨"TalkHouse$Stage", "sideTaken", "(I)I"⟩, 16) := ⟨⟨by decide +kernel, by decide +kernel⟩, List.mem_of_getElem? (i := 410) (by decide +kernel), List.mem_of_getElem? (i := 1107) (by decide +kernel), List.mem_of_getElem? (i := 1108) (by decide +kernel)⟩
theorem lw_p50 : lw_okq (⟨"TalkHouse", "talkOf", "(II)I"⟩, 8) := ⟨⟨by decide +kernel, by decide +kernel⟩, List.mem_of_getElem? (i := 21) (by decide +kernel), List.mem_of_getElem? (i := 1147) (by decide +kernel), List.mem_of_getElem? (i := 1148) (by decide +kernel)⟩
theorem lw_p51 : lw_okq (⟨"TalkHouse$Types", "writeAhead", "(IILTalkHouse$Row;)I"⟩, 8) := ⟨⟨by decide +kernel, by decide +kernel⟩, List.mem_of_getElem? (i := 163) (by decide +kernel), List.mem_of_getElem? (i := 1156) (by decide +kernel), List.mem_of_getElem? (i := 1157) (by decide +kernel)⟩
theorem lw_p52 : lw_okq (⟨"TalkHouse$Types", "writeBranch", "(IILTalkHouse$Row;)I"⟩, 8) := ⟨⟨by decide +kernel, by decide +kernel⟩, List.mem_of_getElem? (i := 163) (by decide +kernel), List.mem_of_getElem? (i := 1160) (by decide +kernel), List.mem_of_getElem? (i := 1161) (by decide +kernel)⟩
theorem lw_p53 : lw_okq (⟨"TalkHouse$Stage", "doStep", "(I)V"⟩, 16) := ⟨⟨by decide +kernel, by decide +kernel⟩, List.mem_of_getElem? (i := 410) (by decide +kernel), List.mem_of_getElem? (i := 1215) (by decide +kernel), List.mem_of_getElem? (i := 1216) (by decide +kernel)⟩
theorem lw_p54 : lw_okq (⟨"TalkHouse$Stage", "lay", "(IIII)V"⟩, 16) := ⟨⟨by decide +kernel, by decide +kernel⟩, List.mem_of_getElem? (i := 410) (by decide +kernel), List.mem_of_getElem? (i := 1219) (by decide +kernel), List.mem_of_getElem? (i := 1220) (by decide +kernel)⟩
theorem lw_p55 : lw_okq (⟨"TalkHouse$Stage", "finish", "(I)V"⟩, 16) := ⟨⟨by decide +kernel, by decide +kernel⟩, List.mem_of_getElem? (i := 410) (by decide +kernel), List.mem_of_getElem? (i := 1229) (by decide +kernel), List.mem_of_getElem? (i := 1230) (by decide +kernel)⟩
theorem lw_p56 : lw_okq (⟨"TalkHouse$Stage", "gatherArgs", "(II)V"⟩, 16) := ⟨⟨by decide +kernel, by decide +kernel⟩, List.mem_of_getElem? (i := 410) (by decide +kernel), List.mem_of_getElem? (i := 1233) (by decide +kernel), List.mem_of_getElem? (i := 1234) (by decide +kernel)⟩
theorem lw_p57 : lw_okq (⟨"TalkHouse$Stage", "makeProcess", "(II)V"⟩, 16) := ⟨⟨by decide +kernel, by decide +kernel⟩, List.mem_of_getElem? (i := 410) (by decide +kernel), List.mem_of_getElem? (i := 1238) (by decide +kernel), List.mem_of_getElem? (i := 1239) (by decide +kernel)⟩
theorem lw_p58 : lw_okq (⟨"TalkHouse$Channels", "append", "(II)V"⟩, 7) := ⟨⟨by decide +kernel, by decide +kernel⟩, List.mem_of_getElem? (i := 416) (by decide +kernel), List.mem_of_getElem? (i := 1246) (by decide +kernel), List.mem_of_getElem? (i := 1247) (by decide +kernel)⟩
theorem lw_p59 : lw_okq (⟨"TalkHouse$Stage", "keepSaid", "(II)V"⟩, 16) := ⟨⟨by decide +kernel, by decide +kernel⟩, List.mem_of_getElem? (i := 410) (by decide +kernel), List.mem_of_getElem? (i := 1250) (by decide +kernel), List.mem_of_getElem? (i := 1251) (by decide +kernel)⟩
theorem lw_p60 : lw_okq (⟨"TalkHouse$Stage", "takeMessage", "(II)V"⟩, 16) := ⟨⟨by decide +kernel, by decide +kernel⟩, List.mem_of_getElem? (i := 410) (by decide +kernel), List.mem_of_getElem? (i := 1254) (by decide +kernel), List.mem_of_getElem? (i := 1255) (by decide +kernel)⟩
theorem lw_p61 : lw_okq (⟨"TalkHouseModel", "look0", "()V"⟩, 81) := ⟨⟨by decide +kernel, by decide +kernel⟩, List.mem_of_getElem? (i := 1301) (by decide +kernel), List.mem_of_getElem? (i := 1557) (by decide +kernel), List.mem_of_getElem? (i := 1558) (by decide +kernel)⟩
theorem lw_p62 : lw_okq (⟨"TalkHouseModel", "see", "(I)I"⟩, 81) := ⟨⟨by decide +kernel, by decide +kernel⟩, List.mem_of_getElem? (i := 1301) (by decide +kernel), List.mem_of_getElem? (i := 1561) (by decide +kernel), List.mem_of_getElem? (i := 1562) (by decide +kernel)⟩
theorem lw_p63 : lw_okq (⟨"TalkHouseModel", "word", "()I"⟩, 81) := ⟨⟨by decide +kernel, by decide +kernel⟩, List.mem_of_getElem? (i := 1301) (by decide +kernel), List.mem_of_getElem? (i := 1571) (by decide +kernel), List.mem_of_getElem? (i := 1572) (by decide +kernel)⟩
def lw_privs_4 : List (MethodName × Nat) := [(⟨"TalkHouse$Stage", "slotOf", "(II)I"⟩, 16), (⟨"TalkHouse$Stage", "sideTaken", "(I)I"⟩, 16), (⟨"TalkHouse", "talkOf", "(II)I"⟩, 8), (⟨"TalkHouse$Types", "writeAhead", "(IILTalkHouse$Row;)I"⟩, 8), (⟨"TalkHouse$Types", "writeBranch", "(IILTalkHouse$Row;)I"⟩, 8), (⟨"TalkHouse$Stage", "doStep", "(I)V"⟩, 16), (⟨"TalkHouse$Stage", "lay", "(IIII)V"⟩, 16), (⟨"TalkHouse$Stage", "finish", "(I)V"⟩, 16), (⟨"TalkHouse$Stage", "gatherArgs", "(II)V"⟩, 16), (⟨"TalkHouse$Stage", "makeProcess", "(II)V"⟩, 16), (⟨"TalkHouse$Channels", "append", "(II)V"⟩, 7), (⟨"TalkHouse$Stage", "keepSaid", "(II)V"⟩, 16), (⟨"TalkHouse$Stage", "takeMessage", "(II)V"⟩, 16), (⟨"TalkHouseModel", "look0", "()V"⟩, 81), (⟨"TalkHouseModel", "see", "(I)I"⟩, 81), (⟨"TalkHouseModel", "word", "()I"⟩, 81)]
theorem lw_r4 : ∀ q ∈ lw_privs_4, lw_okq q := List.forall_mem_cons.mpr ⟨lw_p48, List.forall_mem_cons.mpr ⟨lw_p49, List.forall_mem_cons.mpr ⟨lw_p50, List.forall_mem_cons.mpr ⟨lw_p51, List.forall_mem_cons.mpr ⟨lw_p52, List.forall_mem_cons.mpr ⟨lw_p53, List.forall_mem_cons.mpr ⟨lw_p54, List.forall_mem_cons.mpr ⟨lw_p55, List.forall_mem_cons.mpr ⟨lw_p56, List.forall_mem_cons.mpr ⟨lw_p57, List.forall_mem_cons.mpr ⟨lw_p58, List.forall_mem_cons.mpr ⟨lw_p59, List.forall_mem_cons.mpr ⟨lw_p60, List.forall_mem_cons.mpr ⟨lw_p61, List.forall_mem_cons.mpr ⟨lw_p62, List.forall_mem_cons.mpr ⟨lw_p63, fun _ h => absurd h List.not_mem_nil⟩⟩⟩⟩⟩⟩⟩⟩⟩⟩⟩⟩⟩⟩⟩⟩
theorem lw_p64 : lw_okq (⟨"TalkHouseModel", "text", "()Z"⟩, 81) := ⟨⟨by decide +kernel, by decide +kernel⟩, List.mem_of_getElem? (i := 1301) (by decide +kernel), List.mem_of_getElem? (i := 1595) (by decide +kernel), List.mem_of_getElem? (i := 1596) (by decide +kernel)⟩
theorem lw_p65 : lw_okq (⟨"TalkHouseModel", "typeText", "()Z"⟩, 81) := ⟨⟨by decide +kernel, by decide +kernel⟩, List.mem_of_getElem? (i := 1301) (by decide +kernel), List.mem_of_getElem? (i := 1599) (by decide +kernel), List.mem_of_getElem? (i := 1600) (by decide +kernel)⟩
theorem lw_p66 : lw_okq (⟨"TalkHouseModel", "bad", "(II)Z"⟩, 81) := ⟨⟨by decide +kernel, by decide +kernel⟩, List.mem_of_getElem? (i := 1301) (by decide +kernel), List.mem_of_getElem? (i := 1603) (by decide +kernel), List.mem_of_getElem? (i := 1604) (by decide +kernel)⟩
theorem lw_p67 : lw_okq (⟨"TalkHouseModel", "findType", "(J)I"⟩, 81) := ⟨⟨by decide +kernel, by decide +kernel⟩, List.mem_of_getElem? (i := 1301) (by decide +kernel), List.mem_of_getElem? (i := 1607) (by decide +kernel), List.mem_of_getElem? (i := 1608) (by decide +kernel)⟩
theorem lw_p68 : lw_okq (⟨"TalkHouseModel", "need", "(I)Z"⟩, 81) := ⟨⟨by decide +kernel, by decide +kernel⟩, List.mem_of_getElem? (i := 1301) (by decide +kernel), List.mem_of_getElem? (i := 1611) (by decide +kernel), List.mem_of_getElem? (i := 1612) (by decide +kernel)⟩
theorem lw_p69 : lw_okq (⟨"TalkHouseModel", "isSign", "(I)Z"⟩, 81) := ⟨⟨by decide +kernel, by decide +kernel⟩, List.mem_of_getElem? (i := 1301) (by decide +kernel), List.mem_of_getElem? (i := 1615) (by decide +kernel), List.mem_of_getElem? (i := 1616) (by decide +kernel)⟩
theorem lw_p70 : lw_okq (⟨"TalkHouseModel", "wholeType", "()Z"⟩, 81) := ⟨⟨by decide +kernel, by decide +kernel⟩, List.mem_of_getElem? (i := 1301) (by decide +kernel), List.mem_of_getElem? (i := 1619) (by decide +kernel), List.mem_of_getElem? (i := 1620) (by decide +kernel)⟩
theorem lw_p71 : lw_okq (⟨"TalkHouseModel", "readType", "()Z"⟩, 81) := ⟨⟨by decide +kernel, by decide +kernel⟩, List.mem_of_getElem? (i := 1301) (by decide +kernel), List.mem_of_getElem? (i := 1623) (by decide +kernel), List.mem_of_getElem? (i := 1624) (by decide +kernel)⟩
theorem lw_p72 : lw_okq (⟨"TalkHouseModel", "more", "(I)Z"⟩, 81) := ⟨⟨by decide +kernel, by decide +kernel⟩, List.mem_of_getElem? (i := 1301) (by decide +kernel), List.mem_of_getElem? (i := 1627) (by decide +kernel), List.mem_of_getElem? (i := 1628) (by decide +kernel)⟩
theorem lw_p73 : lw_okq (⟨"TalkHouseModel", "node", "(IIIJ)I"⟩, 81) := ⟨⟨by decide +kernel, by decide +kernel⟩, List.mem_of_getElem? (i := 1301) (by decide +kernel), List.mem_of_getElem? (i := 1631) (by decide +kernel), List.mem_of_getElem? (i := 1632) (by decide +kernel)⟩
theorem lw_p74 : lw_okq (⟨"TalkHouseModel", "partsOf", "(I)I"⟩, 81) := ⟨⟨by decide +kernel, by decide +kernel⟩, List.mem_of_getElem? (i := 1301) (by decide +kernel), List.mem_of_getElem? (i := 1635) (by decide +kernel), List.mem_of_getElem? (i := 1636) (by decide +kernel)⟩
theorem lw_p75 : lw_okq (⟨"TalkHouseModel", "choice", "(I)Z"⟩, 81) := ⟨⟨by decide +kernel, by decide +kernel⟩, List.mem_of_getElem? (i := 1301) (by decide +kernel), List.mem_of_getElem? (i := 1639) (by decide +kernel), List.mem_of_getElem? (i := 1640) (by decide +kernel)⟩
theorem lw_p76 : lw_okq (⟨"TalkHouseModel", "branch", "(IJ)I"⟩, 81) := ⟨⟨by decide +kernel, by decide +kernel⟩, List.mem_of_getElem? (i := 1301) (by decide +kernel), List.mem_of_getElem? (i := 1643) (by decide +kernel), List.mem_of_getElem? (i := 1644) (by decide +kernel)⟩
theorem lw_p77 : lw_okq (⟨"TalkHouseModel", "defText", "()Z"⟩, 81) := ⟨⟨by decide +kernel, by decide +kernel⟩, List.mem_of_getElem? (i := 1301) (by decide +kernel), List.mem_of_getElem? (i := 1650) (by decide +kernel), List.mem_of_getElem? (i := 1651) (by decide +kernel)⟩
theorem lw_p78 : lw_okq (⟨"TalkHouseModel", "needWord", "(I)Z"⟩, 81) := ⟨⟨by decide +kernel, by decide +kernel⟩, List.mem_of_getElem? (i := 1301) (by decide +kernel), List.mem_of_getElem? (i := 1654) (by decide +kernel), List.mem_of_getElem? (i := 1655) (by decide +kernel)⟩
theorem lw_p79 : lw_okq (⟨"TalkHouseModel", "findDef", "(J)I"⟩, 81) := ⟨⟨by decide +kernel, by decide +kernel⟩, List.mem_of_getElem? (i := 1301) (by decide +kernel), List.mem_of_getElem? (i := 1658) (by decide +kernel), List.mem_of_getElem? (i := 1659) (by decide +kernel)⟩
def lw_privs_5 : List (MethodName × Nat) := [(⟨"TalkHouseModel", "text", "()Z"⟩, 81), (⟨"TalkHouseModel", "typeText", "()Z"⟩, 81), (⟨"TalkHouseModel", "bad", "(II)Z"⟩, 81), (⟨"TalkHouseModel", "findType", "(J)I"⟩, 81), (⟨"TalkHouseModel", "need", "(I)Z"⟩, 81), (⟨"TalkHouseModel", "isSign", "(I)Z"⟩, 81), (⟨"TalkHouseModel", "wholeType", "()Z"⟩, 81), (⟨"TalkHouseModel", "readType", "()Z"⟩, 81), (⟨"TalkHouseModel", "more", "(I)Z"⟩, 81), (⟨"TalkHouseModel", "node", "(IIIJ)I"⟩, 81), (⟨"TalkHouseModel", "partsOf", "(I)I"⟩, 81), (⟨"TalkHouseModel", "choice", "(I)Z"⟩, 81), (⟨"TalkHouseModel", "branch", "(IJ)I"⟩, 81), (⟨"TalkHouseModel", "defText", "()Z"⟩, 81), (⟨"TalkHouseModel", "needWord", "(I)Z"⟩, 81), (⟨"TalkHouseModel", "findDef", "(J)I"⟩, 81)]
theorem lw_r5 : ∀ q ∈ lw_privs_5, lw_okq q := List.forall_mem_cons.mpr ⟨lw_p64, List.forall_mem_cons.mpr ⟨lw_p65, List.forall_mem_cons.mpr ⟨lw_p66, List.forall_mem_cons.mpr ⟨lw_p67, List.forall_mem_cons.mpr ⟨lw_p68, List.forall_mem_cons.mpr ⟨lw_p69, List.forall_mem_cons.mpr ⟨lw_p70, List.forall_mem_cons.mpr ⟨lw_p71, List.forall_mem_cons.mpr ⟨lw_p72, List.forall_mem_cons.mpr ⟨lw_p73, List.forall_mem_cons.mpr ⟨lw_p74, List.forall_mem_cons.mpr ⟨lw_p75, List.forall_mem_cons.mpr ⟨lw_p76, List.forall_mem_cons.mpr ⟨lw_p77, List.forall_mem_cons.mpr ⟨lw_p78, List.forall_mem_cons.mpr ⟨lw_p79, fun _ h => absurd h List.not_mem_nil⟩⟩⟩⟩⟩⟩⟩⟩⟩⟩⟩⟩⟩⟩⟩⟩
theorem lw_p80 : lw_okq (⟨"TalkHouseModel", "isFree", "()Z"⟩, 81) := ⟨⟨by decide +kernel, by decide +kernel⟩, List.mem_of_getElem? (i := 1301) (by decide +kernel), List.mem_of_getElem? (i := 1662) (by decide +kernel), List.mem_of_getElem? (i := 1663) (by decide +kernel)⟩
theorem lw_p81 : lw_okq (⟨"TalkHouseModel", "slot", "(J)I"⟩, 81) := ⟨⟨by decide +kernel, by decide +kernel⟩, List.mem_of_getElem? (i := 1301) (by decide +kernel), List.mem_of_getElem? (i := 1666) (by decide +kernel), List.mem_of_getElem? (i := 1667) (by decide +kernel)⟩
theorem lw_p82 : lw_okq (⟨"TalkHouseModel", "newSlot", "(JII)I"⟩, 81) := ⟨⟨by decide +kernel, by decide +kernel⟩, List.mem_of_getElem? (i := 1301) (by decide +kernel), List.mem_of_getElem? (i := 1670) (by decide +kernel), List.mem_of_getElem? (i := 1671) (by decide +kernel)⟩
theorem lw_p83 : lw_okq (⟨"TalkHouseModel", "readProcess", "()Z"⟩, 81) := ⟨⟨by decide +kernel, by decide +kernel⟩, List.mem_of_getElem? (i := 1301) (by decide +kernel), List.mem_of_getElem? (i := 1674) (by decide +kernel), List.mem_of_getElem? (i := 1675) (by decide +kernel)⟩
theorem lw_p84 : lw_okq (⟨"TalkHouseModel", "has", "()Z"⟩, 81) := ⟨⟨by decide +kernel, by decide +kernel⟩, List.mem_of_getElem? (i := 1301) (by decide +kernel), List.mem_of_getElem? (i := 1678) (by decide +kernel), List.mem_of_getElem? (i := 1679) (by decide +kernel)⟩
theorem lw_p85 : lw_okq (⟨"TalkHouseModel", "act", "(I)Z"⟩, 81) := ⟨⟨by decide +kernel, by decide +kernel⟩, List.mem_of_getElem? (i := 1301) (by decide +kernel), List.mem_of_getElem? (i := 1682) (by decide +kernel), List.mem_of_getElem? (i := 1683) (by decide +kernel)⟩
theorem lw_p86 : lw_okq (⟨"TalkHouseModel", "opens", "()Z"⟩, 81) := ⟨⟨by decide +kernel, by decide +kernel⟩, List.mem_of_getElem? (i := 1301) (by decide +kernel), List.mem_of_getElem? (i := 1686) (by decide +kernel), List.mem_of_getElem? (i := 1687) (by decide +kernel)⟩
theorem lw_p87 : lw_okq (⟨"TalkHouseModel", "cases", "()Z"⟩, 81) := ⟨⟨by decide +kernel, by decide +kernel⟩, List.mem_of_getElem? (i := 1301) (by decide +kernel), List.mem_of_getElem? (i := 1690) (by decide +kernel), List.mem_of_getElem? (i := 1691) (by decide +kernel)⟩
theorem lw_p88 : lw_okq (⟨"TalkHouseModel", "aChannel", "(II)Z"⟩, 81) := ⟨⟨by decide +kernel, by decide +kernel⟩, List.mem_of_getElem? (i := 1301) (by decide +kernel), List.mem_of_getElem? (i := 1694) (by decide +kernel), List.mem_of_getElem? (i := 1695) (by decide +kernel)⟩
theorem lw_p89 : lw_okq (⟨"TalkHouseModel", "save", "(I)V"⟩, 81) := ⟨⟨by decide +kernel, by decide +kernel⟩, List.mem_of_getElem? (i := 1301) (by decide +kernel), List.mem_of_getElem? (i := 1698) (by decide +kernel), List.mem_of_getElem? (i := 1699) (by decide +kernel)⟩
theorem lw_p90 : lw_okq (⟨"TalkHouseModel", "back", "(I)V"⟩, 81) := ⟨⟨by decide +kernel, by decide +kernel⟩, List.mem_of_getElem? (i := 1301) (by decide +kernel), List.mem_of_getElem? (i := 1702) (by decide +kernel), List.mem_of_getElem? (i := 1703) (by decide +kernel)⟩
theorem lw_p91 : lw_okq (⟨"TalkHouseModel", "asks", "()Z"⟩, 81) := ⟨⟨by decide +kernel, by decide +kernel⟩, List.mem_of_getElem? (i := 1301) (by decide +kernel), List.mem_of_getElem? (i := 1706) (by decide +kernel), List.mem_of_getElem? (i := 1707) (by decide +kernel)⟩
theorem lw_p92 : lw_okq (⟨"TalkHouseModel", "expression", "()Z"⟩, 81) := ⟨⟨by decide +kernel, by decide +kernel⟩, List.mem_of_getElem? (i := 1301) (by decide +kernel), List.mem_of_getElem? (i := 1710) (by decide +kernel), List.mem_of_getElem? (i := 1711) (by decide +kernel)⟩
theorem lw_p93 : lw_okq (⟨"TalkHouseModel", "sum", "()Z"⟩, 81) := ⟨⟨by decide +kernel, by decide +kernel⟩, List.mem_of_getElem? (i := 1301) (by decide +kernel), List.mem_of_getElem? (i := 1714) (by decide +kernel), List.mem_of_getElem? (i := 1715) (by decide +kernel)⟩
theorem lw_p94 : lw_okq (⟨"TalkHouseModel", "product", "()Z"⟩, 81) := ⟨⟨by decide +kernel, by decide +kernel⟩, List.mem_of_getElem? (i := 1301) (by decide +kernel), List.mem_of_getElem? (i := 1718) (by decide +kernel), List.mem_of_getElem? (i := 1719) (by decide +kernel)⟩
theorem lw_p95 : lw_okq (⟨"TalkHouseModel", "unit", "()Z"⟩, 81) := ⟨⟨by decide +kernel, by decide +kernel⟩, List.mem_of_getElem? (i := 1301) (by decide +kernel), List.mem_of_getElem? (i := 1722) (by decide +kernel), List.mem_of_getElem? (i := 1723) (by decide +kernel)⟩
def lw_privs_6 : List (MethodName × Nat) := [(⟨"TalkHouseModel", "isFree", "()Z"⟩, 81), (⟨"TalkHouseModel", "slot", "(J)I"⟩, 81), (⟨"TalkHouseModel", "newSlot", "(JII)I"⟩, 81), (⟨"TalkHouseModel", "readProcess", "()Z"⟩, 81), (⟨"TalkHouseModel", "has", "()Z"⟩, 81), (⟨"TalkHouseModel", "act", "(I)Z"⟩, 81), (⟨"TalkHouseModel", "opens", "()Z"⟩, 81), (⟨"TalkHouseModel", "cases", "()Z"⟩, 81), (⟨"TalkHouseModel", "aChannel", "(II)Z"⟩, 81), (⟨"TalkHouseModel", "save", "(I)V"⟩, 81), (⟨"TalkHouseModel", "back", "(I)V"⟩, 81), (⟨"TalkHouseModel", "asks", "()Z"⟩, 81), (⟨"TalkHouseModel", "expression", "()Z"⟩, 81), (⟨"TalkHouseModel", "sum", "()Z"⟩, 81), (⟨"TalkHouseModel", "product", "()Z"⟩, 81), (⟨"TalkHouseModel", "unit", "()Z"⟩, 81)]
theorem lw_r6 : ∀ q ∈ lw_privs_6, lw_okq q := List.forall_mem_cons.mpr ⟨lw_p80, List.forall_mem_cons.mpr ⟨lw_p81, List.forall_mem_cons.mpr ⟨lw_p82, List.forall_mem_cons.mpr ⟨lw_p83, List.forall_mem_cons.mpr ⟨lw_p84, List.forall_mem_cons.mpr ⟨lw_p85, List.forall_mem_cons.mpr ⟨lw_p86, List.forall_mem_cons.mpr ⟨lw_p87, List.forall_mem_cons.mpr ⟨lw_p88, List.forall_mem_cons.mpr ⟨lw_p89, List.forall_mem_cons.mpr ⟨lw_p90, List.forall_mem_cons.mpr ⟨lw_p91, List.forall_mem_cons.mpr ⟨lw_p92, List.forall_mem_cons.mpr ⟨lw_p93, List.forall_mem_cons.mpr ⟨lw_p94, List.forall_mem_cons.mpr ⟨lw_p95, fun _ h => absurd h List.not_mem_nil⟩⟩⟩⟩⟩⟩⟩⟩⟩⟩⟩⟩⟩⟩⟩⟩
theorem lw_p96 : lw_okq (⟨"TalkHouseModel", "aGiven", "(I)Z"⟩, 81) := ⟨⟨by decide +kernel, by decide +kernel⟩, List.mem_of_getElem? (i := 1301) (by decide +kernel), List.mem_of_getElem? (i := 1726) (by decide +kernel), List.mem_of_getElem? (i := 1727) (by decide +kernel)⟩
theorem lw_p97 : lw_okq (⟨"TalkHouseModel", "sends", "()Z"⟩, 81) := ⟨⟨by decide +kernel, by decide +kernel⟩, List.mem_of_getElem? (i := 1301) (by decide +kernel), List.mem_of_getElem? (i := 1730) (by decide +kernel), List.mem_of_getElem? (i := 1731) (by decide +kernel)⟩
theorem lw_p98 : lw_okq (⟨"TalkHouseModel", "alike", "(II)Z"⟩, 81) := ⟨⟨by decide +kernel, by decide +kernel⟩, List.mem_of_getElem? (i := 1301) (by decide +kernel), List.mem_of_getElem? (i := 1734) (by decide +kernel), List.mem_of_getElem? (i := 1735) (by decide +kernel)⟩
theorem lw_p99 : lw_okq (⟨"TalkHouseModel", "news", "()Z"⟩, 81) := ⟨⟨by decide +kernel, by decide +kernel⟩, List.mem_of_getElem? (i := 1301) (by decide +kernel), List.mem_of_getElem? (i := 1738) (by decide +kernel), List.mem_of_getElem? (i := 1739) (by decide +kernel)⟩
theorem lw_p100 : lw_okq (⟨"TalkHouseModel", "call", "()Z"⟩, 81) := ⟨⟨by decide +kernel, by decide +kernel⟩, List.mem_of_getElem? (i := 1301) (by decide +kernel), List.mem_of_getElem? (i := 1742) (by decide +kernel), List.mem_of_getElem? (i := 1743) (by decide +kernel)⟩
theorem lw_p101 : lw_okq (⟨"TalkHouseModel", "goes", "(I)Z"⟩, 81) := ⟨⟨by decide +kernel, by decide +kernel⟩, List.mem_of_getElem? (i := 1301) (by decide +kernel), List.mem_of_getElem? (i := 1746) (by decide +kernel), List.mem_of_getElem? (i := 1747) (by decide +kernel)⟩
theorem lw_p102 : lw_okq (⟨"TalkHouseModel", "given", "()I"⟩, 81) := ⟨⟨by decide +kernel, by decide +kernel⟩, List.mem_of_getElem? (i := 1301) (by decide +kernel), List.mem_of_getElem? (i := 1750) (by decide +kernel), List.mem_of_getElem? (i := 1751) (by decide +kernel)⟩
theorem lw_p103 : lw_okq (⟨"TalkHouseModel", "readSame", "(I)Z"⟩, 81) := ⟨⟨by decide +kernel, by decide +kernel⟩, List.mem_of_getElem? (i := 1301) (by decide +kernel), List.mem_of_getElem? (i := 1754) (by decide +kernel), List.mem_of_getElem? (i := 1755) (by decide +kernel)⟩
theorem lw_p104 : lw_okq (⟨"TalkHouseModel", "begins", "()V"⟩, 81) := ⟨⟨by decide +kernel, by decide +kernel⟩, List.mem_of_getElem? (i := 1301) (by decide +kernel), List.mem_of_getElem? (i := 1758) (by decide +kernel), List.mem_of_getElem? (i := 1759) (by decide +kernel)⟩
theorem lw_p105 : lw_okq (⟨"TalkHouseModel", "newChannel", "()I"⟩, 81) := ⟨⟨by decide +kernel, by decide +kernel⟩, List.mem_of_getElem? (i := 1301) (by decide +kernel), List.mem_of_getElem? (i := 1762) (by decide +kernel), List.mem_of_getElem? (i := 1763) (by decide +kernel)⟩
theorem lw_p106 : lw_okq (⟨"TalkHouseModel", "fresh0", "(I)V"⟩, 81) := ⟨⟨by decide +kernel, by decide +kernel⟩, List.mem_of_getElem? (i := 1301) (by decide +kernel), List.mem_of_getElem? (i := 1766) (by decide +kernel), List.mem_of_getElem? (i := 1767) (by decide +kernel)⟩
theorem lw_p107 : lw_okq (⟨"TalkHouseModel", "enters", "(II)V"⟩, 81) := ⟨⟨by decide +kernel, by decide +kernel⟩, List.mem_of_getElem? (i := 1301) (by decide +kernel), List.mem_of_getElem? (i := 1770) (by decide +kernel), List.mem_of_getElem? (i := 1771) (by decide +kernel)⟩
theorem lw_p108 : lw_okq (⟨"TalkHouseModel", "def0", "(I)I"⟩, 81) := ⟨⟨by decide +kernel, by decide +kernel⟩, List.mem_of_getElem? (i := 1301) (by decide +kernel), List.mem_of_getElem? (i := 1774) (by decide +kernel), List.mem_of_getElem? (i := 1775) (by decide +kernel)⟩
theorem lw_p109 : lw_okq (⟨"TalkHouseModel", "settles", "(I)V"⟩, 81) := ⟨⟨by decide +kernel, by decide +kernel⟩, List.mem_of_getElem? (i := 1301) (by decide +kernel), List.mem_of_getElem? (i := 1778) (by decide +kernel), List.mem_of_getElem? (i := 1779) (by decide +kernel)⟩
theorem lw_p110 : lw_okq (⟨"TalkHouseModel", "worth", "(II)I"⟩, 81) := ⟨⟨by decide +kernel, by decide +kernel⟩, List.mem_of_getElem? (i := 1301) (by decide +kernel), List.mem_of_getElem? (i := 1782) (by decide +kernel), List.mem_of_getElem? (i := 1783) (by decide +kernel)⟩
theorem lw_p111 : lw_okq (⟨"TalkHouseModel", "value", "(II)I"⟩, 81) := ⟨⟨by decide +kernel, by decide +kernel⟩, List.mem_of_getElem? (i := 1301) (by decide +kernel), List.mem_of_getElem? (i := 1786) (by decide +kernel), List.mem_of_getElem? (i := 1787) (by decide +kernel)⟩
def lw_privs_7 : List (MethodName × Nat) := [(⟨"TalkHouseModel", "aGiven", "(I)Z"⟩, 81), (⟨"TalkHouseModel", "sends", "()Z"⟩, 81), (⟨"TalkHouseModel", "alike", "(II)Z"⟩, 81), (⟨"TalkHouseModel", "news", "()Z"⟩, 81), (⟨"TalkHouseModel", "call", "()Z"⟩, 81), (⟨"TalkHouseModel", "goes", "(I)Z"⟩, 81), (⟨"TalkHouseModel", "given", "()I"⟩, 81), (⟨"TalkHouseModel", "readSame", "(I)Z"⟩, 81), (⟨"TalkHouseModel", "begins", "()V"⟩, 81), (⟨"TalkHouseModel", "newChannel", "()I"⟩, 81), (⟨"TalkHouseModel", "fresh0", "(I)V"⟩, 81), (⟨"TalkHouseModel", "enters", "(II)V"⟩, 81), (⟨"TalkHouseModel", "def0", "(I)I"⟩, 81), (⟨"TalkHouseModel", "settles", "(I)V"⟩, 81), (⟨"TalkHouseModel", "worth", "(II)I"⟩, 81), (⟨"TalkHouseModel", "value", "(II)I"⟩, 81)]
theorem lw_r7 : ∀ q ∈ lw_privs_7, lw_okq q := List.forall_mem_cons.mpr ⟨lw_p96, List.forall_mem_cons.mpr ⟨lw_p97, List.forall_mem_cons.mpr ⟨lw_p98, List.forall_mem_cons.mpr ⟨lw_p99, List.forall_mem_cons.mpr ⟨lw_p100, List.forall_mem_cons.mpr ⟨lw_p101, List.forall_mem_cons.mpr ⟨lw_p102, List.forall_mem_cons.mpr ⟨lw_p103, List.forall_mem_cons.mpr ⟨lw_p104, List.forall_mem_cons.mpr ⟨lw_p105, List.forall_mem_cons.mpr ⟨lw_p106, List.forall_mem_cons.mpr ⟨lw_p107, List.forall_mem_cons.mpr ⟨lw_p108, List.forall_mem_cons.mpr ⟨lw_p109, List.forall_mem_cons.mpr ⟨lw_p110, List.forall_mem_cons.mpr ⟨lw_p111, fun _ h => absurd h List.not_mem_nil⟩⟩⟩⟩⟩⟩⟩⟩⟩⟩⟩⟩⟩⟩⟩⟩
theorem lw_p112 : lw_okq (⟨"TalkHouseModel", "waits", "(I)Z"⟩, 81) := ⟨⟨by decide +kernel, by decide +kernel⟩, List.mem_of_getElem? (i := 1301) (by decide +kernel), List.mem_of_getElem? (i := 1809) (by decide +kernel), List.mem_of_getElem? (i := 1810) (by decide +kernel)⟩
theorem lw_p113 : lw_okq (⟨"TalkHouseModel", "reads", "(II)I"⟩, 81) := ⟨⟨by decide +kernel, by decide +kernel⟩, List.mem_of_getElem? (i := 1301) (by decide +kernel), List.mem_of_getElem? (i := 1816) (by decide +kernel), List.mem_of_getElem? (i := 1817) (by decide +kernel)⟩
theorem lw_p114 : lw_okq (⟨"TalkHouseModel", "real", "(I)I"⟩, 81) := ⟨⟨by decide +kernel, by decide +kernel⟩, List.mem_of_getElem? (i := 1301) (by decide +kernel), List.mem_of_getElem? (i := 1820) (by decide +kernel), List.mem_of_getElem? (i := 1821) (by decide +kernel)⟩
theorem lw_p115 : lw_okq (⟨"TalkHouseModel", "isGiven", "(II)Z"⟩, 81) := ⟨⟨by decide +kernel, by decide +kernel⟩, List.mem_of_getElem? (i := 1301) (by decide +kernel), List.mem_of_getElem? (i := 1824) (by decide +kernel), List.mem_of_getElem? (i := 1825) (by decide +kernel)⟩
theorem lw_p116 : lw_okq (⟨"TalkHouseModel", "goesOn", "(I)V"⟩, 81) := ⟨⟨by decide +kernel, by decide +kernel⟩, List.mem_of_getElem? (i := 1301) (by decide +kernel), List.mem_of_getElem? (i := 1838) (by decide +kernel), List.mem_of_getElem? (i := 1839) (by decide +kernel)⟩
theorem lw_p117 : lw_okq (⟨"TalkHouseModel", "writes", "(II)I"⟩, 81) := ⟨⟨by decide +kernel, by decide +kernel⟩, List.mem_of_getElem? (i := 1301) (by decide +kernel), List.mem_of_getElem? (i := 1842) (by decide +kernel), List.mem_of_getElem? (i := 1843) (by decide +kernel)⟩
theorem lw_p118 : lw_okq (⟨"TalkHouseModel", "lay", "(IIIJ)V"⟩, 81) := ⟨⟨by decide +kernel, by decide +kernel⟩, List.mem_of_getElem? (i := 1301) (by decide +kernel), List.mem_of_getElem? (i := 1846) (by decide +kernel), List.mem_of_getElem? (i := 1847) (by decide +kernel)⟩
theorem lw_p119 : lw_okq (⟨"TalkHouseModel", "take", "(I)I"⟩, 81) := ⟨⟨by decide +kernel, by decide +kernel⟩, List.mem_of_getElem? (i := 1301) (by decide +kernel), List.mem_of_getElem? (i := 1850) (by decide +kernel), List.mem_of_getElem? (i := 1851) (by decide +kernel)⟩
theorem lw_p120 : lw_okq (⟨"TalkHouseModel", "makes", "(II)V"⟩, 81) := ⟨⟨by decide +kernel, by decide +kernel⟩, List.mem_of_getElem? (i := 1301) (by decide +kernel), List.mem_of_getElem? (i := 1854) (by decide +kernel), List.mem_of_getElem? (i := 1855) (by decide +kernel)⟩
theorem lw_p121 : lw_okq (⟨"TalkHouseModel", "tells", "(IIII)I"⟩, 81) := ⟨⟨by decide +kernel, by decide +kernel⟩, List.mem_of_getElem? (i := 1301) (by decide +kernel), List.mem_of_getElem? (i := 1858) (by decide +kernel), List.mem_of_getElem? (i := 1859) (by decide +kernel)⟩
theorem lw_p122 : lw_okq (⟨"TalkHouseModel", "joins", "(II)V"⟩, 81) := ⟨⟨by decide +kernel, by decide +kernel⟩, List.mem_of_getElem? (i := 1301) (by decide +kernel), List.mem_of_getElem? (i := 1862) (by decide +kernel), List.mem_of_getElem? (i := 1863) (by decide +kernel)⟩
theorem lw_p123 : lw_okq (⟨"TalkHouseModel", "append", "(III)V"⟩, 81) := ⟨⟨by decide +kernel, by decide +kernel⟩, List.mem_of_getElem? (i := 1301) (by decide +kernel), List.mem_of_getElem? (i := 1866) (by decide +kernel), List.mem_of_getElem? (i := 1867) (by decide +kernel)⟩
theorem lw_p124 : lw_okq (⟨"TalkHouseModel", "says", "(II)V"⟩, 81) := ⟨⟨by decide +kernel, by decide +kernel⟩, List.mem_of_getElem? (i := 1301) (by decide +kernel), List.mem_of_getElem? (i := 1870) (by decide +kernel), List.mem_of_getElem? (i := 1871) (by decide +kernel)⟩
theorem lw_p125 : lw_okq (⟨"TalkHouseModel", "isDef", "(I)Z"⟩, 81) := ⟨⟨by decide +kernel, by decide +kernel⟩, List.mem_of_getElem? (i := 1301) (by decide +kernel), List.mem_of_getElem? (i := 1892) (by decide +kernel), List.mem_of_getElem? (i := 1893) (by decide +kernel)⟩
theorem lw_p126 : lw_okq (⟨"TalkHouseModel", "least", "(I)I"⟩, 81) := ⟨⟨by decide +kernel, by decide +kernel⟩, List.mem_of_getElem? (i := 1301) (by decide +kernel), List.mem_of_getElem? (i := 1896) (by decide +kernel), List.mem_of_getElem? (i := 1897) (by decide +kernel)⟩
theorem lw_p127 : lw_okq (⟨"TalkHouseModel", "typeOf", "(II)I"⟩, 81) := ⟨⟨by decide +kernel, by decide +kernel⟩, List.mem_of_getElem? (i := 1301) (by decide +kernel), List.mem_of_getElem? (i := 1904) (by decide +kernel), List.mem_of_getElem? (i := 1905) (by decide +kernel)⟩
def lw_privs_8 : List (MethodName × Nat) := [(⟨"TalkHouseModel", "waits", "(I)Z"⟩, 81), (⟨"TalkHouseModel", "reads", "(II)I"⟩, 81), (⟨"TalkHouseModel", "real", "(I)I"⟩, 81), (⟨"TalkHouseModel", "isGiven", "(II)Z"⟩, 81), (⟨"TalkHouseModel", "goesOn", "(I)V"⟩, 81), (⟨"TalkHouseModel", "writes", "(II)I"⟩, 81), (⟨"TalkHouseModel", "lay", "(IIIJ)V"⟩, 81), (⟨"TalkHouseModel", "take", "(I)I"⟩, 81), (⟨"TalkHouseModel", "makes", "(II)V"⟩, 81), (⟨"TalkHouseModel", "tells", "(IIII)I"⟩, 81), (⟨"TalkHouseModel", "joins", "(II)V"⟩, 81), (⟨"TalkHouseModel", "append", "(III)V"⟩, 81), (⟨"TalkHouseModel", "says", "(II)V"⟩, 81), (⟨"TalkHouseModel", "isDef", "(I)Z"⟩, 81), (⟨"TalkHouseModel", "least", "(I)I"⟩, 81), (⟨"TalkHouseModel", "typeOf", "(II)I"⟩, 81)]
theorem lw_r8 : ∀ q ∈ lw_privs_8, lw_okq q := List.forall_mem_cons.mpr ⟨lw_p112, List.forall_mem_cons.mpr ⟨lw_p113, List.forall_mem_cons.mpr ⟨lw_p114, List.forall_mem_cons.mpr ⟨lw_p115, List.forall_mem_cons.mpr ⟨lw_p116, List.forall_mem_cons.mpr ⟨lw_p117, List.forall_mem_cons.mpr ⟨lw_p118, List.forall_mem_cons.mpr ⟨lw_p119, List.forall_mem_cons.mpr ⟨lw_p120, List.forall_mem_cons.mpr ⟨lw_p121, List.forall_mem_cons.mpr ⟨lw_p122, List.forall_mem_cons.mpr ⟨lw_p123, List.forall_mem_cons.mpr ⟨lw_p124, List.forall_mem_cons.mpr ⟨lw_p125, List.forall_mem_cons.mpr ⟨lw_p126, List.forall_mem_cons.mpr ⟨lw_p127, fun _ h => absurd h List.not_mem_nil⟩⟩⟩⟩⟩⟩⟩⟩⟩⟩⟩⟩⟩⟩⟩⟩
theorem lw_p128 : lw_okq (⟨"TalkHouseModel", "sayType", "(I)V"⟩, 81) := ⟨⟨by decide +kernel, by decide +kernel⟩, List.mem_of_getElem? (i := 1301) (by decide +kernel), List.mem_of_getElem? (i := 1912) (by decide +kernel), List.mem_of_getElem? (i := 1913) (by decide +kernel)⟩
theorem lw_p129 : lw_okq (⟨"TalkHouseModel", "sayName", "(J)V"⟩, 81) := ⟨⟨by decide +kernel, by decide +kernel⟩, List.mem_of_getElem? (i := 1301) (by decide +kernel), List.mem_of_getElem? (i := 1916) (by decide +kernel), List.mem_of_getElem? (i := 1917) (by decide +kernel)⟩
theorem lw_p130 : lw_okq (⟨"TalkHouseModel", "say", "(I)V"⟩, 81) := ⟨⟨by decide +kernel, by decide +kernel⟩, List.mem_of_getElem? (i := 1301) (by decide +kernel), List.mem_of_getElem? (i := 1921) (by decide +kernel), List.mem_of_getElem? (i := 1922) (by decide +kernel)⟩
theorem lw_p131 : lw_okq (⟨"TalkHouseModel", "long0", "(I)I"⟩, 81) := ⟨⟨by decide +kernel, by decide +kernel⟩, List.mem_of_getElem? (i := 1301) (by decide +kernel), List.mem_of_getElem? (i := 1937) (by decide +kernel), List.mem_of_getElem? (i := 1938) (by decide +kernel)⟩
def lw_privs_9 : List (MethodName × Nat) := [(⟨"TalkHouseModel", "sayType", "(I)V"⟩, 81), (⟨"TalkHouseModel", "sayName", "(J)V"⟩, 81), (⟨"TalkHouseModel", "say", "(I)V"⟩, 81), (⟨"TalkHouseModel", "long0", "(I)I"⟩, 81)]
theorem lw_r9 : ∀ q ∈ lw_privs_9, lw_okq q := List.forall_mem_cons.mpr ⟨lw_p128, List.forall_mem_cons.mpr ⟨lw_p129, List.forall_mem_cons.mpr ⟨lw_p130, List.forall_mem_cons.mpr ⟨lw_p131, fun _ h => absurd h List.not_mem_nil⟩⟩⟩⟩
def lw_privs : List (MethodName × Nat) := lw_privs_1 ++ (lw_privs_2 ++ (lw_privs_3 ++ (lw_privs_4 ++ (lw_privs_5 ++ (lw_privs_6 ++ (lw_privs_7 ++ (lw_privs_8 ++ (lw_privs_9))))))))
def lw_tbl : List Cond := k2_sels lw_privs ++ tables_1
theorem lw_privs_ok : ∀ q ∈ lw_privs, lw_okq q := by
  show ∀ q ∈ lw_privs_1 ++ (lw_privs_2 ++ (lw_privs_3 ++ (lw_privs_4 ++ (lw_privs_5 ++ (lw_privs_6 ++ (lw_privs_7 ++ (lw_privs_8 ++ (lw_privs_9)))))))), lw_okq q
  exact List.forall_mem_append.mpr ⟨lw_r1, List.forall_mem_append.mpr ⟨lw_r2, List.forall_mem_append.mpr ⟨lw_r3, List.forall_mem_append.mpr ⟨lw_r4, List.forall_mem_append.mpr ⟨lw_r5, List.forall_mem_append.mpr ⟨lw_r6, List.forall_mem_append.mpr ⟨lw_r7, List.forall_mem_append.mpr ⟨lw_r8, lw_r9⟩⟩⟩⟩⟩⟩⟩⟩
def RX0 : String := "TalkHouse$Book"
def TX0 : u_T := fun k => match k with
  | 0 => ("TalkHouse$Book", "types", "LTalkHouse$Types;", true)
  | 1 => ("TalkHouse$Book", "sums", "LTalkHouse$Sums;", true)
  | 2 => ("TalkHouse$Book", "typeNames", "LTalkHouse$Row;", true)
  | 3 => ("TalkHouse$Book", "typeTs", "LTalkHouse$Row;", true)
  | 4 => ("TalkHouse$Book", "defNames", "LTalkHouse$Row;", true)
  | 5 => ("TalkHouse$Book", "gives", "LTalkHouse$Row;", true)
  | 6 => ("TalkHouse$Book", "starts", "LTalkHouse$Row;", true)
  | 7 => ("TalkHouse$Book", "wordCounts", "LTalkHouse$Row;", true)
  | 8 => ("TalkHouse$Book", "leasts", "LTalkHouse$Row;", true)
  | 9 => ("TalkHouse$Book", "paramCounts", "LTalkHouse$Row;", true)
  | 10 => ("TalkHouse$Book", "paramTs", "LTalkHouse$Row;", true)
  | 11 => ("TalkHouse$Book", "ops", "LTalkHouse$Row;", true)
  | 12 => ("TalkHouse$Book", "channels", "LTalkHouse$Row;", true)
  | 13 => ("TalkHouse$Book", "others", "LTalkHouse$Row;", true)
  | 14 => ("TalkHouse$Book", "extras", "LTalkHouse$Row;", true)
  | 15 => ("TalkHouse$Book", "caseNames", "LTalkHouse$Row;", true)
  | 16 => ("TalkHouse$Book", "caseStarts", "LTalkHouse$Row;", true)
  | _ => ("TalkHouse$Book", "args", "LTalkHouse$Row;", true)
def tyX0 : Nat → FieldType := fun k => match k with
  | 0 => .object "TalkHouse$Types"
  | 1 => .object "TalkHouse$Sums"
  | 2 => .object "TalkHouse$Row"
  | 3 => .object "TalkHouse$Row"
  | 4 => .object "TalkHouse$Row"
  | 5 => .object "TalkHouse$Row"
  | 6 => .object "TalkHouse$Row"
  | 7 => .object "TalkHouse$Row"
  | 8 => .object "TalkHouse$Row"
  | 9 => .object "TalkHouse$Row"
  | 10 => .object "TalkHouse$Row"
  | 11 => .object "TalkHouse$Row"
  | 12 => .object "TalkHouse$Row"
  | 13 => .object "TalkHouse$Row"
  | 14 => .object "TalkHouse$Row"
  | 15 => .object "TalkHouse$Row"
  | 16 => .object "TalkHouse$Row"
  | _ => .object "TalkHouse$Row"
theorem nmX0 : ∀ a, a < 18 → ∀ b, b < 18 → a ≠ b → (TX0 a).2.1 ≠ (TX0 b).2.1 := by decide +kernel
theorem tyX0_ok : ∀ k, k < 18 → parseFieldDescriptor (TX0 k).2.2.1 = some (tyX0 k) := by decide +kernel
abbrev cX0_init : ByteArray := prog_2_method_1_code
def yX0_init : MethodName := ⟨RX0, "<init>", "()V"⟩
abbrev cX0_clear : ByteArray := prog_2_method_2_code
def yX0_clear : MethodName := ⟨RX0, "clear", "()V"⟩
abbrev cX0_isDef : ByteArray := prog_2_method_3_code
def yX0_isDef : MethodName := ⟨RX0, "isDef", "(I)Z"⟩
abbrev cX0_paramT : ByteArray := prog_2_method_4_code
def yX0_paramT : MethodName := ⟨RX0, "paramT", "(II)I"⟩
abbrev cX0_channelParams : ByteArray := prog_2_method_5_code
def yX0_channelParams : MethodName := ⟨RX0, "channelParams", "(I)I"⟩
abbrev cX0_addNode : ByteArray := prog_2_method_6_code
def yX0_addNode : MethodName := ⟨RX0, "addNode", "(I)I"⟩
abbrev cX0_addAlternatives : ByteArray := prog_2_method_7_code
def yX0_addAlternatives : MethodName := ⟨RX0, "addAlternatives", "(I)I"⟩
abbrev cX0_alternative : ByteArray := prog_2_method_8_code
def yX0_alternative : MethodName := ⟨RX0, "alternative", "(II)I"⟩
def RX1 : String := "TalkHouse$Channels"
def TX1 : u_T := fun k => match k with
  | 0 => ("TalkHouse$Channels", "joined", "LTalkHouse$Row;", true)
  | 1 => ("TalkHouse$Channels", "heads", "LTalkHouse$Row;", true)
  | 2 => ("TalkHouse$Channels", "tails", "LTalkHouse$Row;", true)
  | 3 => ("TalkHouse$Channels", "counts", "LTalkHouse$Row;", true)
  | 4 => ("TalkHouse$Channels", "kinds", "LTalkHouse$Row;", true)
  | 5 => ("TalkHouse$Channels", "values", "LTalkHouse$Row;", true)
  | _ => ("TalkHouse$Channels", "links", "LTalkHouse$Row;", true)
def tyX1 : Nat → FieldType := fun k => match k with
  | 0 => .object "TalkHouse$Row"
  | 1 => .object "TalkHouse$Row"
  | 2 => .object "TalkHouse$Row"
  | 3 => .object "TalkHouse$Row"
  | 4 => .object "TalkHouse$Row"
  | 5 => .object "TalkHouse$Row"
  | _ => .object "TalkHouse$Row"
theorem nmX1 : ∀ a, a < 7 → ∀ b, b < 7 → a ≠ b → (TX1 a).2.1 ≠ (TX1 b).2.1 := by decide +kernel
theorem tyX1_ok : ∀ k, k < 7 → parseFieldDescriptor (TX1 k).2.2.1 = some (tyX1 k) := by decide +kernel
abbrev cX1_init : ByteArray := prog_3_method_1_code
def yX1_init : MethodName := ⟨RX1, "<init>", "()V"⟩
abbrev cX1_clear : ByteArray := prog_3_method_2_code
def yX1_clear : MethodName := ⟨RX1, "clear", "()V"⟩
abbrev cX1_made : ByteArray := prog_3_method_3_code
def yX1_made : MethodName := ⟨RX1, "made", "()I"⟩
abbrev cX1_open : ByteArray := prog_3_method_4_code
def yX1_open : MethodName := ⟨RX1, "open", "()I"⟩
abbrev cX1_follow : ByteArray := prog_3_method_5_code
def yX1_follow : MethodName := ⟨RX1, "follow", "(I)I"⟩
abbrev cX1_count : ByteArray := prog_3_method_6_code
def yX1_count : MethodName := ⟨RX1, "count", "(II)I"⟩
abbrev cX1_lay : ByteArray := prog_3_method_7_code
def yX1_lay : MethodName := ⟨RX1, "lay", "(IIII)V"⟩
abbrev cX1_takeFirst : ByteArray := prog_3_method_8_code
def yX1_takeFirst : MethodName := ⟨RX1, "takeFirst", "(II)I"⟩
abbrev cX1_find : ByteArray := prog_3_method_9_code
def yX1_find : MethodName := ⟨RX1, "find", "(II)I"⟩
abbrev cX1_join : ByteArray := prog_3_method_10_code
def yX1_join : MethodName := ⟨RX1, "join", "(II)V"⟩
abbrev cX1_append : ByteArray := prog_3_method_11_code
def yX1_append : MethodName := ⟨RX1, "append", "(II)V"⟩
def RX2 : String := "TalkHouse$Cursor"
def TX2 : u_T := fun k => match k with
  | 0 => ("TalkHouse$Cursor", "words", "LTalkHouse$Row;", true)
  | 1 => ("TalkHouse$Cursor", "kinds", "[I", true)
  | 2 => ("TalkHouse$Cursor", "values", "[I", true)
  | 3 => ("TalkHouse$Cursor", "places", "[I", true)
  | 4 => ("TalkHouse$Cursor", "count", "I", false)
  | 5 => ("TalkHouse$Cursor", "next", "I", false)
  | 6 => ("TalkHouse$Cursor", "kind", "I", false)
  | 7 => ("TalkHouse$Cursor", "value", "I", false)
  | 8 => ("TalkHouse$Cursor", "place", "I", false)
  | 9 => ("TalkHouse$Cursor", "fault", "I", false)
  | _ => ("TalkHouse$Cursor", "faultPlace", "I", false)
def tyX2 : Nat → FieldType := fun k => match k with
  | 0 => .object "TalkHouse$Row"
  | 1 => .array .int
  | 2 => .array .int
  | 3 => .array .int
  | 4 => .int
  | 5 => .int
  | 6 => .int
  | 7 => .int
  | 8 => .int
  | 9 => .int
  | _ => .int
theorem nmX2 : ∀ a, a < 11 → ∀ b, b < 11 → a ≠ b → (TX2 a).2.1 ≠ (TX2 b).2.1 := by decide +kernel
theorem tyX2_ok : ∀ k, k < 11 → parseFieldDescriptor (TX2 k).2.2.1 = some (tyX2 k) := by decide +kernel
abbrev cX2_init : ByteArray := prog_4_method_1_code
def yX2_init : MethodName := ⟨RX2, "<init>", "()V"⟩
abbrev cX2_start : ByteArray := prog_4_method_2_code
def yX2_start : MethodName := ⟨RX2, "start", "(LTalkHouse$Row;)V"⟩
abbrev cX2_cutToken : ByteArray := prog_4_method_3_code
def yX2_cutToken : MethodName := ⟨RX2, "cutToken", "(LTalkHouse$Row;I)I"⟩
abbrev cX2_cutLetters : ByteArray := prog_4_method_4_code
def yX2_cutLetters : MethodName := ⟨RX2, "cutLetters", "(LTalkHouse$Row;I)I"⟩
abbrev cX2_cutDigits : ByteArray := prog_4_method_5_code
def yX2_cutDigits : MethodName := ⟨RX2, "cutDigits", "(LTalkHouse$Row;I)I"⟩
abbrev cX2_note : ByteArray := prog_4_method_6_code
def yX2_note : MethodName := ⟨RX2, "note", "(III)V"⟩
abbrev cX2_advance : ByteArray := prog_4_method_7_code
def yX2_advance : MethodName := ⟨RX2, "advance", "()V"⟩
abbrev cX2_refuse : ByteArray := prog_4_method_8_code
def yX2_refuse : MethodName := ⟨RX2, "refuse", "(II)V"⟩
abbrev cX2_failed : ByteArray := prog_4_method_9_code
def yX2_failed : MethodName := ⟨RX2, "failed", "()Z"⟩
abbrev cX2_is : ByteArray := prog_4_method_10_code
def yX2_is : MethodName := ⟨RX2, "is", "(I)Z"⟩
abbrev cX2_skip : ByteArray := prog_4_method_11_code
def yX2_skip : MethodName := ⟨RX2, "skip", "(I)Z"⟩
abbrev cX2_want : ByteArray := prog_4_method_12_code
def yX2_want : MethodName := ⟨RX2, "want", "(I)V"⟩
abbrev cX2_takeName : ByteArray := prog_4_method_13_code
def yX2_takeName : MethodName := ⟨RX2, "takeName", "()I"⟩
def RX3 : String := "TalkHouse$Reader"
def TX3 : u_T := fun k => match k with
  | 0 => ("TalkHouse$Reader", "cursor", "LTalkHouse$Cursor;", true)
  | 1 => ("TalkHouse$Reader", "scope", "LTalkHouse$Scope;", true)
  | 2 => ("TalkHouse$Reader", "typeReader", "LTalkHouse$TypeReader;", true)
  | 3 => ("TalkHouse$Reader", "sumReader", "LTalkHouse$SumReader;", true)
  | 4 => ("TalkHouse$Reader", "book", "LTalkHouse$Book;", false)
  | 5 => ("TalkHouse$Reader", "words", "I", false)
  | _ => ("TalkHouse$Reader", "firstParam", "I", false)
def tyX3 : Nat → FieldType := fun k => match k with
  | 0 => .object "TalkHouse$Cursor"
  | 1 => .object "TalkHouse$Scope"
  | 2 => .object "TalkHouse$TypeReader"
  | 3 => .object "TalkHouse$SumReader"
  | 4 => .object "TalkHouse$Book"
  | 5 => .int
  | _ => .int
theorem nmX3 : ∀ a, a < 7 → ∀ b, b < 7 → a ≠ b → (TX3 a).2.1 ≠ (TX3 b).2.1 := by decide +kernel
theorem tyX3_ok : ∀ k, k < 7 → parseFieldDescriptor (TX3 k).2.2.1 = some (tyX3 k) := by decide +kernel
abbrev cX3_init : ByteArray := prog_5_method_1_code
def yX3_init : MethodName := ⟨RX3, "<init>", "(LTalkHouse$Cursor;LTalkHouse$Book;)V"⟩
abbrev cX3_use : ByteArray := prog_5_method_2_code
def yX3_use : MethodName := ⟨RX3, "use", "(LTalkHouse$Book;)V"⟩
abbrev cX3_readTypes : ByteArray := prog_5_method_3_code
def yX3_readTypes : MethodName := ⟨RX3, "readTypes", "()V"⟩
abbrev cX3_readFresh : ByteArray := prog_5_method_4_code
def yX3_readFresh : MethodName := ⟨RX3, "readFresh", "(LTalkHouse$Row;I)I"⟩
abbrev cX3_readDef : ByteArray := prog_5_method_5_code
def yX3_readDef : MethodName := ⟨RX3, "readDef", "()V"⟩
abbrev cX3_readParams : ByteArray := prog_5_method_6_code
def yX3_readParams : MethodName := ⟨RX3, "readParams", "()V"⟩
abbrev cX3_readFreshThing : ByteArray := prog_5_method_7_code
def yX3_readFreshThing : MethodName := ⟨RX3, "readFreshThing", "()I"⟩
abbrev cX3_judgeLast : ByteArray := prog_5_method_8_code
def yX3_judgeLast : MethodName := ⟨RX3, "judgeLast", "()V"⟩
abbrev cX3_readSteps : ByteArray := prog_5_method_9_code
def yX3_readSteps : MethodName := ⟨RX3, "readSteps", "(I)I"⟩
abbrev cX3_countWord : ByteArray := prog_5_method_10_code
def yX3_countWord : MethodName := ⟨RX3, "countWord", "(I)V"⟩
abbrev cX3_refuseOpen : ByteArray := prog_5_method_11_code
def yX3_refuseOpen : MethodName := ⟨RX3, "refuseOpen", "(I)V"⟩
abbrev cX3_readIf : ByteArray := prog_5_method_12_code
def yX3_readIf : MethodName := ⟨RX3, "readIf", "(I)I"⟩
abbrev cX3_readBraced : ByteArray := prog_5_method_13_code
def yX3_readBraced : MethodName := ⟨RX3, "readBraced", "(I)I"⟩
abbrev cX3_readCase : ByteArray := prog_5_method_14_code
def yX3_readCase : MethodName := ⟨RX3, "readCase", "(I)I"⟩
abbrev cX3_readAlternative : ByteArray := prog_5_method_15_code
def yX3_readAlternative : MethodName := ⟨RX3, "readAlternative", "(II)I"⟩
abbrev cX3_readChannel : ByteArray := prog_5_method_16_code
def yX3_readChannel : MethodName := ⟨RX3, "readChannel", "(I)I"⟩
abbrev cX3_talkFor : ByteArray := prog_5_method_17_code
def yX3_talkFor : MethodName := ⟨RX3, "talkFor", "(IZ)I"⟩
abbrev cX3_readTalk : ByteArray := prog_5_method_18_code
def yX3_readTalk : MethodName := ⟨RX3, "readTalk", "(II)V"⟩
abbrev cX3_readSent : ByteArray := prog_5_method_19_code
def yX3_readSent : MethodName := ⟨RX3, "readSent", "(I)I"⟩
abbrev cX3_readPicked : ByteArray := prog_5_method_20_code
def yX3_readPicked : MethodName := ⟨RX3, "readPicked", "(II)I"⟩
abbrev cX3_readClose : ByteArray := prog_5_method_21_code
def yX3_readClose : MethodName := ⟨RX3, "readClose", "()V"⟩
abbrev cX3_readSay : ByteArray := prog_5_method_22_code
def yX3_readSay : MethodName := ⟨RX3, "readSay", "(I)V"⟩
abbrev cX3_readNew : ByteArray := prog_5_method_23_code
def yX3_readNew : MethodName := ⟨RX3, "readNew", "(I)V"⟩
abbrev cX3_readGo : ByteArray := prog_5_method_24_code
def yX3_readGo : MethodName := ⟨RX3, "readGo", "(I)V"⟩
abbrev cX3_readSame : ByteArray := prog_5_method_25_code
def yX3_readSame : MethodName := ⟨RX3, "readSame", "()V"⟩
abbrev cX3_readJoined : ByteArray := prog_5_method_26_code
def yX3_readJoined : MethodName := ⟨RX3, "readJoined", "(Z)I"⟩
abbrev cX3_readDefAhead : ByteArray := prog_5_method_27_code
def yX3_readDefAhead : MethodName := ⟨RX3, "readDefAhead", "()I"⟩
abbrev cX3_readArgs : ByteArray := prog_5_method_28_code
def yX3_readArgs : MethodName := ⟨RX3, "readArgs", "(III)V"⟩
abbrev cX3_readChannelArg : ByteArray := prog_5_method_29_code
def yX3_readChannelArg : MethodName := ⟨RX3, "readChannelArg", "(I)I"⟩
def RX4 : String := "TalkHouse$Row"
def TX4 : u_T := fun k => match k with
  | 0 => ("TalkHouse$Row", "items", "[I", true)
  | _ => ("TalkHouse$Row", "size", "I", false)
def tyX4 : Nat → FieldType := fun k => match k with
  | 0 => .array .int
  | _ => .int
theorem nmX4 : ∀ a, a < 2 → ∀ b, b < 2 → a ≠ b → (TX4 a).2.1 ≠ (TX4 b).2.1 := by decide +kernel
theorem tyX4_ok : ∀ k, k < 2 → parseFieldDescriptor (TX4 k).2.2.1 = some (tyX4 k) := by decide +kernel
abbrev cX4_init : ByteArray := prog_6_method_1_code
def yX4_init : MethodName := ⟨RX4, "<init>", "(I)V"⟩
abbrev cX4_size : ByteArray := prog_6_method_2_code
def yX4_size : MethodName := ⟨RX4, "size", "()I"⟩
abbrev cX4_clear : ByteArray := prog_6_method_3_code
def yX4_clear : MethodName := ⟨RX4, "clear", "()V"⟩
abbrev cX4_cut : ByteArray := prog_6_method_4_code
def yX4_cut : MethodName := ⟨RX4, "cut", "(I)V"⟩
abbrev cX4_at : ByteArray := prog_6_method_5_code
def yX4_at : MethodName := ⟨RX4, "at", "(I)I"⟩
abbrev cX4_put : ByteArray := prog_6_method_6_code
def yX4_put : MethodName := ⟨RX4, "put", "(II)V"⟩
abbrev cX4_bump : ByteArray := prog_6_method_7_code
def yX4_bump : MethodName := ⟨RX4, "bump", "(II)V"⟩
abbrev cX4_add : ByteArray := prog_6_method_8_code
def yX4_add : MethodName := ⟨RX4, "add", "(I)I"⟩
abbrev cX4_addBytes : ByteArray := prog_6_method_9_code
def yX4_addBytes : MethodName := ⟨RX4, "addBytes", "(I)V"⟩
abbrev cX4_addText : ByteArray := prog_6_method_10_code
def yX4_addText : MethodName := ⟨RX4, "addText", "(Ljava/lang/String;)V"⟩
abbrev cX4_fill : ByteArray := prog_6_method_11_code
def yX4_fill : MethodName := ⟨RX4, "fill", "(I)V"⟩
abbrev cX4_find : ByteArray := prog_6_method_12_code
def yX4_find : MethodName := ⟨RX4, "find", "(I)I"⟩
def RX5 : String := "TalkHouse$Scope"
def TX5 : u_T := fun k => match k with
  | 0 => ("TalkHouse$Scope", "names", "LTalkHouse$Row;", true)
  | 1 => ("TalkHouse$Scope", "talks", "LTalkHouse$Row;", true)
  | 2 => ("TalkHouse$Scope", "sizes", "LTalkHouse$Row;", true)
  | _ => ("TalkHouse$Scope", "level", "I", false)
def tyX5 : Nat → FieldType := fun k => match k with
  | 0 => .object "TalkHouse$Row"
  | 1 => .object "TalkHouse$Row"
  | 2 => .object "TalkHouse$Row"
  | _ => .int
theorem nmX5 : ∀ a, a < 4 → ∀ b, b < 4 → a ≠ b → (TX5 a).2.1 ≠ (TX5 b).2.1 := by decide +kernel
theorem tyX5_ok : ∀ k, k < 4 → parseFieldDescriptor (TX5 k).2.2.1 = some (tyX5 k) := by decide +kernel
abbrev cX5_init : ByteArray := prog_7_method_1_code
def yX5_init : MethodName := ⟨RX5, "<init>", "()V"⟩
abbrev cX5_start : ByteArray := prog_7_method_2_code
def yX5_start : MethodName := ⟨RX5, "start", "()V"⟩
abbrev cX5_enter : ByteArray := prog_7_method_3_code
def yX5_enter : MethodName := ⟨RX5, "enter", "()V"⟩
abbrev cX5_leave : ByteArray := prog_7_method_4_code
def yX5_leave : MethodName := ⟨RX5, "leave", "()V"⟩
abbrev cX5_index : ByteArray := prog_7_method_5_code
def yX5_index : MethodName := ⟨RX5, "index", "(I)I"⟩
abbrev cX5_find : ByteArray := prog_7_method_6_code
def yX5_find : MethodName := ⟨RX5, "find", "(I)I"⟩
abbrev cX5_talkAt : ByteArray := prog_7_method_7_code
def yX5_talkAt : MethodName := ⟨RX5, "talkAt", "(I)I"⟩
abbrev cX5_setTalk : ByteArray := prog_7_method_8_code
def yX5_setTalk : MethodName := ⟨RX5, "setTalk", "(II)V"⟩
abbrev cX5_set : ByteArray := prog_7_method_9_code
def yX5_set : MethodName := ⟨RX5, "set", "(III)V"⟩
abbrev cX5_add : ByteArray := prog_7_method_10_code
def yX5_add : MethodName := ⟨RX5, "add", "(II)I"⟩
abbrev cX5_drop : ByteArray := prog_7_method_11_code
def yX5_drop : MethodName := ⟨RX5, "drop", "(I)V"⟩
abbrev cX5_hasChannels : ByteArray := prog_7_method_12_code
def yX5_hasChannels : MethodName := ⟨RX5, "hasChannels", "()Z"⟩
def RX6 : String := "TalkHouse$Stage"
def TX6 : u_T := fun k => match k with
  | 0 => ("TalkHouse$Stage", "channels", "LTalkHouse$Channels;", true)
  | 1 => ("TalkHouse$Stage", "defs", "LTalkHouse$Row;", true)
  | 2 => ("TalkHouse$Stage", "nodes", "LTalkHouse$Row;", true)
  | 3 => ("TalkHouse$Stage", "overs", "LTalkHouse$Row;", true)
  | 4 => ("TalkHouse$Stage", "steps", "LTalkHouse$Row;", true)
  | 5 => ("TalkHouse$Stage", "has", "LTalkHouse$Row;", true)
  | 6 => ("TalkHouse$Stage", "saids", "LTalkHouse$Row;", true)
  | 7 => ("TalkHouse$Stage", "slots", "LTalkHouse$Row;", true)
  | 8 => ("TalkHouse$Stage", "fresh", "LTalkHouse$Row;", true)
  | 9 => ("TalkHouse$Stage", "readies", "LTalkHouse$Row;", true)
  | 10 => ("TalkHouse$Stage", "saidNumbers", "LTalkHouse$Row;", true)
  | 11 => ("TalkHouse$Stage", "saidProcesses", "LTalkHouse$Row;", true)
  | 12 => ("TalkHouse$Stage", "book", "LTalkHouse$Book;", false)
  | 13 => ("TalkHouse$Stage", "saidCount", "I", false)
  | 14 => ("TalkHouse$Stage", "done", "I", false)
  | _ => ("TalkHouse$Stage", "spent", "Z", false)
def tyX6 : Nat → FieldType := fun k => match k with
  | 0 => .object "TalkHouse$Channels"
  | 1 => .object "TalkHouse$Row"
  | 2 => .object "TalkHouse$Row"
  | 3 => .object "TalkHouse$Row"
  | 4 => .object "TalkHouse$Row"
  | 5 => .object "TalkHouse$Row"
  | 6 => .object "TalkHouse$Row"
  | 7 => .object "TalkHouse$Row"
  | 8 => .object "TalkHouse$Row"
  | 9 => .object "TalkHouse$Row"
  | 10 => .object "TalkHouse$Row"
  | 11 => .object "TalkHouse$Row"
  | 12 => .object "TalkHouse$Book"
  | 13 => .int
  | 14 => .int
  | _ => .boolean
theorem nmX6 : ∀ a, a < 16 → ∀ b, b < 16 → a ≠ b → (TX6 a).2.1 ≠ (TX6 b).2.1 := by decide +kernel
theorem tyX6_ok : ∀ k, k < 16 → parseFieldDescriptor (TX6 k).2.2.1 = some (tyX6 k) := by decide +kernel
abbrev cX6_init : ByteArray := prog_8_method_1_code
def yX6_init : MethodName := ⟨RX6, "<init>", "(LTalkHouse$Book;)V"⟩
abbrev cX6_start : ByteArray := prog_8_method_2_code
def yX6_start : MethodName := ⟨RX6, "start", "(LTalkHouse$Book;)V"⟩
abbrev cX6_made : ByteArray := prog_8_method_3_code
def yX6_made : MethodName := ⟨RX6, "made", "()I"⟩
abbrev cX6_alive : ByteArray := prog_8_method_4_code
def yX6_alive : MethodName := ⟨RX6, "alive", "()I"⟩
abbrev cX6_givenBy : ByteArray := prog_8_method_5_code
def yX6_givenBy : MethodName := ⟨RX6, "givenBy", "(I)I"⟩
abbrev cX6_slotOf : ByteArray := prog_8_method_6_code
def yX6_slotOf : MethodName := ⟨RX6, "slotOf", "(II)I"⟩
abbrev cX6_setSlot : ByteArray := prog_8_method_7_code
def yX6_setSlot : MethodName := ⟨RX6, "setSlot", "(III)V"⟩
abbrev cX6_addProcess : ByteArray := prog_8_method_8_code
def yX6_addProcess : MethodName := ⟨RX6, "addProcess", "()I"⟩
abbrev cX6_goOn : ByteArray := prog_8_method_9_code
def yX6_goOn : MethodName := ⟨RX6, "goOn", "(II)V"⟩
abbrev cX6_settle : ByteArray := prog_8_method_10_code
def yX6_settle : MethodName := ⟨RX6, "settle", "(I)V"⟩
abbrev cX6_numberOf : ByteArray := prog_8_method_11_code
def yX6_numberOf : MethodName := ⟨RX6, "numberOf", "(II)I"⟩
abbrev cX6_isWaiting : ByteArray := prog_8_method_12_code
def yX6_isWaiting : MethodName := ⟨RX6, "isWaiting", "(I)Z"⟩
abbrev cX6_talkedOver : ByteArray := prog_8_method_13_code
def yX6_talkedOver : MethodName := ⟨RX6, "talkedOver", "(II)I"⟩
abbrev cX6_sideTaken : ByteArray := prog_8_method_14_code
def yX6_sideTaken : MethodName := ⟨RX6, "sideTaken", "(I)I"⟩
abbrev cX6_findReady : ByteArray := prog_8_method_15_code
def yX6_findReady : MethodName := ⟨RX6, "findReady", "()V"⟩
abbrev cX6_advance : ByteArray := prog_8_method_16_code
def yX6_advance : MethodName := ⟨RX6, "advance", "(I)I"⟩
abbrev cX6_doStep : ByteArray := prog_8_method_17_code
def yX6_doStep : MethodName := ⟨RX6, "doStep", "(I)V"⟩
abbrev cX6_lay : ByteArray := prog_8_method_18_code
def yX6_lay : MethodName := ⟨RX6, "lay", "(IIII)V"⟩
abbrev cX6_takeMessage : ByteArray := prog_8_method_19_code
def yX6_takeMessage : MethodName := ⟨RX6, "takeMessage", "(II)V"⟩
abbrev cX6_makeProcess : ByteArray := prog_8_method_20_code
def yX6_makeProcess : MethodName := ⟨RX6, "makeProcess", "(II)V"⟩
abbrev cX6_gatherArgs : ByteArray := prog_8_method_21_code
def yX6_gatherArgs : MethodName := ⟨RX6, "gatherArgs", "(II)V"⟩
abbrev cX6_finish : ByteArray := prog_8_method_22_code
def yX6_finish : MethodName := ⟨RX6, "finish", "(I)V"⟩
abbrev cX6_keepSaid : ByteArray := prog_8_method_23_code
def yX6_keepSaid : MethodName := ⟨RX6, "keepSaid", "(II)V"⟩
def RX7 : String := "TalkHouse$SumReader"
def TX7 : u_T := fun k => match k with
  | 0 => ("TalkHouse$SumReader", "cursor", "LTalkHouse$Cursor;", true)
  | 1 => ("TalkHouse$SumReader", "scope", "LTalkHouse$Scope;", true)
  | _ => ("TalkHouse$SumReader", "sums", "LTalkHouse$Sums;", false)
def tyX7 : Nat → FieldType := fun k => match k with
  | 0 => .object "TalkHouse$Cursor"
  | 1 => .object "TalkHouse$Scope"
  | _ => .object "TalkHouse$Sums"
theorem nmX7 : ∀ a, a < 3 → ∀ b, b < 3 → a ≠ b → (TX7 a).2.1 ≠ (TX7 b).2.1 := by decide +kernel
theorem tyX7_ok : ∀ k, k < 3 → parseFieldDescriptor (TX7 k).2.2.1 = some (tyX7 k) := by decide +kernel
abbrev cX7_init : ByteArray := prog_9_method_1_code
def yX7_init : MethodName := ⟨RX7, "<init>", "(LTalkHouse$Cursor;LTalkHouse$Scope;LTalkHouse$Sums;)V"⟩
abbrev cX7_use : ByteArray := prog_9_method_2_code
def yX7_use : MethodName := ⟨RX7, "use", "(LTalkHouse$Sums;)V"⟩
abbrev cX7_readSum : ByteArray := prog_9_method_3_code
def yX7_readSum : MethodName := ⟨RX7, "readSum", "(II)I"⟩
abbrev cX7_joins : ByteArray := prog_9_method_4_code
def yX7_joins : MethodName := ⟨RX7, "joins", "(II)Z"⟩
abbrev cX7_readUnit : ByteArray := prog_9_method_5_code
def yX7_readUnit : MethodName := ⟨RX7, "readUnit", "(I)I"⟩
def RX8 : String := "TalkHouse$Sums"
def TX8 : u_T := fun k => match k with
  | 0 => ("TalkHouse$Sums", "ops", "LTalkHouse$Row;", true)
  | 1 => ("TalkHouse$Sums", "lefts", "LTalkHouse$Row;", true)
  | 2 => ("TalkHouse$Sums", "rights", "LTalkHouse$Row;", true)
  | 3 => ("TalkHouse$Sums", "firsts", "LTalkHouse$Row;", true)
  | _ => ("TalkHouse$Sums", "values", "LTalkHouse$Row;", true)
def tyX8 : Nat → FieldType := fun k => match k with
  | 0 => .object "TalkHouse$Row"
  | 1 => .object "TalkHouse$Row"
  | 2 => .object "TalkHouse$Row"
  | 3 => .object "TalkHouse$Row"
  | _ => .object "TalkHouse$Row"
theorem nmX8 : ∀ a, a < 5 → ∀ b, b < 5 → a ≠ b → (TX8 a).2.1 ≠ (TX8 b).2.1 := by decide +kernel
theorem tyX8_ok : ∀ k, k < 5 → parseFieldDescriptor (TX8 k).2.2.1 = some (tyX8 k) := by decide +kernel
abbrev cX8_init : ByteArray := prog_10_method_1_code
def yX8_init : MethodName := ⟨RX8, "<init>", "()V"⟩
abbrev cX8_clear : ByteArray := prog_10_method_2_code
def yX8_clear : MethodName := ⟨RX8, "clear", "()V"⟩
abbrev cX8_addLeaf : ByteArray := prog_10_method_3_code
def yX8_addLeaf : MethodName := ⟨RX8, "addLeaf", "(II)I"⟩
abbrev cX8_addNode : ByteArray := prog_10_method_4_code
def yX8_addNode : MethodName := ⟨RX8, "addNode", "(III)I"⟩
abbrev cX8_evaluate : ByteArray := prog_10_method_5_code
def yX8_evaluate : MethodName := ⟨RX8, "evaluate", "(ILTalkHouse$Row;I)I"⟩
abbrev cX8_valueOf : ByteArray := prog_10_method_6_code
def yX8_valueOf : MethodName := ⟨RX8, "valueOf", "(ILTalkHouse$Row;I)I"⟩
def RX9 : String := "TalkHouse$TypeReader"
def TX9 : u_T := fun k => match k with
  | 0 => ("TalkHouse$TypeReader", "cursor", "LTalkHouse$Cursor;", true)
  | 1 => ("TalkHouse$TypeReader", "draftNames", "LTalkHouse$Row;", true)
  | 2 => ("TalkHouse$TypeReader", "draftTs", "LTalkHouse$Row;", true)
  | 3 => ("TalkHouse$TypeReader", "book", "LTalkHouse$Book;", false)
  | _ => ("TalkHouse$TypeReader", "parts", "I", false)
def tyX9 : Nat → FieldType := fun k => match k with
  | 0 => .object "TalkHouse$Cursor"
  | 1 => .object "TalkHouse$Row"
  | 2 => .object "TalkHouse$Row"
  | 3 => .object "TalkHouse$Book"
  | _ => .int
theorem nmX9 : ∀ a, a < 5 → ∀ b, b < 5 → a ≠ b → (TX9 a).2.1 ≠ (TX9 b).2.1 := by decide +kernel
theorem tyX9_ok : ∀ k, k < 5 → parseFieldDescriptor (TX9 k).2.2.1 = some (tyX9 k) := by decide +kernel
abbrev cX9_init : ByteArray := prog_11_method_1_code
def yX9_init : MethodName := ⟨RX9, "<init>", "(LTalkHouse$Cursor;LTalkHouse$Book;)V"⟩
abbrev cX9_use : ByteArray := prog_11_method_2_code
def yX9_use : MethodName := ⟨RX9, "use", "(LTalkHouse$Book;)V"⟩
abbrev cX9_readWhole : ByteArray := prog_11_method_3_code
def yX9_readWhole : MethodName := ⟨RX9, "readWhole", "()I"⟩
abbrev cX9_readType : ByteArray := prog_11_method_4_code
def yX9_readType : MethodName := ⟨RX9, "readType", "(I)I"⟩
abbrev cX9_isTalkSign : ByteArray := prog_11_method_5_code
def yX9_isTalkSign : MethodName := ⟨RX9, "isTalkSign", "(I)Z"⟩
abbrev cX9_readKnown : ByteArray := prog_11_method_6_code
def yX9_readKnown : MethodName := ⟨RX9, "readKnown", "()I"⟩
abbrev cX9_countParts : ByteArray := prog_11_method_7_code
def yX9_countParts : MethodName := ⟨RX9, "countParts", "(II)V"⟩
abbrev cX9_readTalk : ByteArray := prog_11_method_8_code
def yX9_readTalk : MethodName := ⟨RX9, "readTalk", "(II)I"⟩
abbrev cX9_readChoice : ByteArray := prog_11_method_9_code
def yX9_readChoice : MethodName := ⟨RX9, "readChoice", "(II)I"⟩
abbrev cX9_readBranchName : ByteArray := prog_11_method_10_code
def yX9_readBranchName : MethodName := ⟨RX9, "readBranchName", "(I)I"⟩
abbrev cX9_sortLast : ByteArray := prog_11_method_11_code
def yX9_sortLast : MethodName := ⟨RX9, "sortLast", "(I)V"⟩
def RX10 : String := "TalkHouse$Types"
def TX10 : u_T := fun k => match k with
  | 0 => ("TalkHouse$Types", "kinds", "LTalkHouse$Row;", true)
  | 1 => ("TalkHouse$Types", "firsts", "LTalkHouse$Row;", true)
  | 2 => ("TalkHouse$Types", "seconds", "LTalkHouse$Row;", true)
  | 3 => ("TalkHouse$Types", "parts", "LTalkHouse$Row;", true)
  | 4 => ("TalkHouse$Types", "branchNames", "LTalkHouse$Row;", true)
  | 5 => ("TalkHouse$Types", "branchTs", "LTalkHouse$Row;", true)
  | 6 => ("TalkHouse$Types", "openTs", "LTalkHouse$Row;", true)
  | _ => ("TalkHouse$Types", "openTurns", "LTalkHouse$Row;", true)
def tyX10 : Nat → FieldType := fun k => match k with
  | 0 => .object "TalkHouse$Row"
  | 1 => .object "TalkHouse$Row"
  | 2 => .object "TalkHouse$Row"
  | 3 => .object "TalkHouse$Row"
  | 4 => .object "TalkHouse$Row"
  | 5 => .object "TalkHouse$Row"
  | 6 => .object "TalkHouse$Row"
  | _ => .object "TalkHouse$Row"
theorem nmX10 : ∀ a, a < 8 → ∀ b, b < 8 → a ≠ b → (TX10 a).2.1 ≠ (TX10 b).2.1 := by decide +kernel
theorem tyX10_ok : ∀ k, k < 8 → parseFieldDescriptor (TX10 k).2.2.1 = some (tyX10 k) := by decide +kernel
abbrev cX10_init : ByteArray := prog_12_method_1_code
def yX10_init : MethodName := ⟨RX10, "<init>", "()V"⟩
abbrev cX10_clear : ByteArray := prog_12_method_2_code
def yX10_clear : MethodName := ⟨RX10, "clear", "()V"⟩
abbrev cX10_isChoice : ByteArray := prog_12_method_3_code
def yX10_isChoice : MethodName := ⟨RX10, "isChoice", "(I)Z"⟩
abbrev cX10_make : ByteArray := prog_12_method_4_code
def yX10_make : MethodName := ⟨RX10, "make", "(III)I"⟩
abbrev cX10_makeChoice : ByteArray := prog_12_method_5_code
def yX10_makeChoice : MethodName := ⟨RX10, "makeChoice", "(ILTalkHouse$Row;LTalkHouse$Row;I)I"⟩
abbrev cX10_isLike : ByteArray := prog_12_method_6_code
def yX10_isLike : MethodName := ⟨RX10, "isLike", "(ILTalkHouse$Row;LTalkHouse$Row;I)Z"⟩
abbrev cX10_addT : ByteArray := prog_12_method_7_code
def yX10_addT : MethodName := ⟨RX10, "addT", "(IIII)I"⟩
abbrev cX10_branches : ByteArray := prog_12_method_8_code
def yX10_branches : MethodName := ⟨RX10, "branches", "(I)I"⟩
abbrev cX10_branchName : ByteArray := prog_12_method_9_code
def yX10_branchName : MethodName := ⟨RX10, "branchName", "(II)I"⟩
abbrev cX10_branchT : ByteArray := prog_12_method_10_code
def yX10_branchT : MethodName := ⟨RX10, "branchT", "(II)I"⟩
abbrev cX10_findBranch : ByteArray := prog_12_method_11_code
def yX10_findBranch : MethodName := ⟨RX10, "findBranch", "(II)I"⟩
abbrev cX10_write : ByteArray := prog_12_method_12_code
def yX10_write : MethodName := ⟨RX10, "write", "(ILTalkHouse$Row;)V"⟩
abbrev cX10_writeAhead : ByteArray := prog_12_method_13_code
def yX10_writeAhead : MethodName := ⟨RX10, "writeAhead", "(IILTalkHouse$Row;)I"⟩
abbrev cX10_writeBranch : ByteArray := prog_12_method_14_code
def yX10_writeBranch : MethodName := ⟨RX10, "writeBranch", "(IILTalkHouse$Row;)I"⟩
def RX11 : String := "TalkHouse"
def TX11 : u_T := fun k => match k with
  | 0 => ("TalkHouse", "tape", "LTalkHouse$Row;", true)
  | 1 => ("TalkHouse", "printed", "LTalkHouse$Row;", true)
  | 2 => ("TalkHouse", "cursor", "LTalkHouse$Cursor;", true)
  | 3 => ("TalkHouse", "reader", "LTalkHouse$Reader;", true)
  | 4 => ("TalkHouse", "stage", "LTalkHouse$Stage;", true)
  | 5 => ("TalkHouse", "now", "LTalkHouse$Book;", false)
  | 6 => ("TalkHouse", "spare", "LTalkHouse$Book;", false)
  | _ => ("TalkHouse", "loaded", "Z", false)
def tyX11 : Nat → FieldType := fun k => match k with
  | 0 => .object "TalkHouse$Row"
  | 1 => .object "TalkHouse$Row"
  | 2 => .object "TalkHouse$Cursor"
  | 3 => .object "TalkHouse$Reader"
  | 4 => .object "TalkHouse$Stage"
  | 5 => .object "TalkHouse$Book"
  | 6 => .object "TalkHouse$Book"
  | _ => .boolean
theorem nmX11 : ∀ a, a < 8 → ∀ b, b < 8 → a ≠ b → (TX11 a).2.1 ≠ (TX11 b).2.1 := by decide +kernel
theorem tyX11_ok : ∀ k, k < 8 → parseFieldDescriptor (TX11 k).2.2.1 = some (tyX11 k) := by decide +kernel
abbrev cX11_init : ByteArray := prog_1_method_1_code
def yX11_init : MethodName := ⟨RX11, "<init>", "()V"⟩
abbrev cX11_feed : ByteArray := prog_1_method_2_code
def yX11_feed : MethodName := ⟨RX11, "feed", "(IIIII)I"⟩
abbrev cX11_end : ByteArray := prog_1_method_3_code
def yX11_end : MethodName := ⟨RX11, "end", "(I)Z"⟩
abbrev cX11_load : ByteArray := prog_1_method_4_code
def yX11_load : MethodName := ⟨RX11, "load", "()I"⟩
abbrev cX11_takeSpare : ByteArray := prog_1_method_5_code
def yX11_takeSpare : MethodName := ⟨RX11, "takeSpare", "()V"⟩
abbrev cX11_fault : ByteArray := prog_1_method_6_code
def yX11_fault : MethodName := ⟨RX11, "fault", "(I)I"⟩
abbrev cX11_look : ByteArray := prog_1_method_7_code
def yX11_look : MethodName := ⟨RX11, "look", "(I)I"⟩
abbrev cX11_def : ByteArray := prog_1_method_8_code
def yX11_def : MethodName := ⟨RX11, "def", "(II)I"⟩
abbrev cX11_print : ByteArray := prog_1_method_9_code
def yX11_print : MethodName := ⟨RX11, "print", "(II)I"⟩
abbrev cX11_same : ByteArray := prog_1_method_10_code
def yX11_same : MethodName := ⟨RX11, "same", "(IIII)Z"⟩
abbrev cX11_talkOf : ByteArray := prog_1_method_11_code
def yX11_talkOf : MethodName := ⟨RX11, "talkOf", "(II)I"⟩
abbrev cX11_out : ByteArray := prog_1_method_12_code
def yX11_out : MethodName := ⟨RX11, "out", "(I)I"⟩
abbrev cX11_begin : ByteArray := prog_1_method_13_code
def yX11_begin : MethodName := ⟨RX11, "begin", "()Z"⟩
abbrev cX11_ready : ByteArray := prog_1_method_14_code
def yX11_ready : MethodName := ⟨RX11, "ready", "()I"⟩
abbrev cX11_which : ByteArray := prog_1_method_15_code
def yX11_which : MethodName := ⟨RX11, "which", "(I)I"⟩
abbrev cX11_step : ByteArray := prog_1_method_16_code
def yX11_step : MethodName := ⟨RX11, "step", "(I)I"⟩
abbrev cX11_run : ByteArray := prog_1_method_17_code
def yX11_run : MethodName := ⟨RX11, "run", "(II)I"⟩
abbrev cX11_process : ByteArray := prog_1_method_18_code
def yX11_process : MethodName := ⟨RX11, "process", "(II)I"⟩
abbrev cX11_channel : ByteArray := prog_1_method_19_code
def yX11_channel : MethodName := ⟨RX11, "channel", "(II)I"⟩
abbrev cX11_message : ByteArray := prog_1_method_20_code
def yX11_message : MethodName := ⟨RX11, "message", "(III)I"⟩
abbrev cX11_said : ByteArray := prog_1_method_21_code
def yX11_said : MethodName := ⟨RX11, "said", "(II)I"⟩
abbrev cX11_isSmallLetter : ByteArray := prog_1_method_22_code
def yX11_isSmallLetter : MethodName := ⟨RX11, "isSmallLetter", "(I)Z"⟩
abbrev cX11_isLetter : ByteArray := prog_1_method_23_code
def yX11_isLetter : MethodName := ⟨RX11, "isLetter", "(I)Z"⟩
abbrev cX11_isDigit : ByteArray := prog_1_method_24_code
def yX11_isDigit : MethodName := ⟨RX11, "isDigit", "(I)Z"⟩
abbrev cX11_shiftOf : ByteArray := prog_1_method_25_code
def yX11_shiftOf : MethodName := ⟨RX11, "shiftOf", "(I)I"⟩
abbrev cX11_withLetter : ByteArray := prog_1_method_26_code
def yX11_withLetter : MethodName := ⟨RX11, "withLetter", "(III)I"⟩
abbrev cX11_letterOf : ByteArray := prog_1_method_27_code
def yX11_letterOf : MethodName := ⟨RX11, "letterOf", "(II)I"⟩
abbrev cX11_lettersIn : ByteArray := prog_1_method_28_code
def yX11_lettersIn : MethodName := ⟨RX11, "lettersIn", "(I)I"⟩
def RX12 : String := "TalkHouseModel"
def TX12 : u_T := fun k => match k with
  | 0 => ("TalkHouseModel", "tape", "[I", true)
  | 1 => ("TalkHouseModel", "taped", "I", false)
  | 2 => ("TalkHouseModel", "at", "I", false)
  | 3 => ("TalkHouseModel", "token", "I", false)
  | 4 => ("TalkHouseModel", "tokenAt", "I", false)
  | 5 => ("TalkHouseModel", "number", "I", false)
  | 6 => ("TalkHouseModel", "read", "J", false)
  | 7 => ("TalkHouseModel", "wrong", "I", false)
  | 8 => ("TalkHouseModel", "wrongAt", "I", false)
  | 9 => ("TalkHouseModel", "faultKind", "I", false)
  | 10 => ("TalkHouseModel", "faultPlace", "I", false)
  | 11 => ("TalkHouseModel", "what", "[I", true)
  | 12 => ("TalkHouseModel", "one", "[I", true)
  | 13 => ("TalkHouseModel", "two", "[I", true)
  | 14 => ("TalkHouseModel", "next", "[I", true)
  | 15 => ("TalkHouseModel", "named", "[J", true)
  | 16 => ("TalkHouseModel", "base", "I", false)
  | 17 => ("TalkHouseModel", "made", "I", false)
  | 18 => ("TalkHouseModel", "typeName", "[J", true)
  | 19 => ("TalkHouseModel", "defName", "[J", true)
  | 20 => ("TalkHouseModel", "paramName", "[J", true)
  | 21 => ("TalkHouseModel", "giveName", "[J", true)
  | 22 => ("TalkHouseModel", "typeRoot", "[I", true)
  | 23 => ("TalkHouseModel", "paramMany", "[I", true)
  | 24 => ("TalkHouseModel", "paramType", "[I", true)
  | 25 => ("TalkHouseModel", "giveType", "[I", true)
  | 26 => ("TalkHouseModel", "body", "[I", true)
  | 27 => ("TalkHouseModel", "wordMany", "[I", true)
  | 28 => ("TalkHouseModel", "firstParam", "[I", true)
  | 29 => ("TalkHouseModel", "typeMany", "[I", true)
  | 30 => ("TalkHouseModel", "defMany", "[I", true)
  | 31 => ("TalkHouseModel", "now", "I", false)
  | 32 => ("TalkHouseModel", "fresh", "I", false)
  | 33 => ("TalkHouseModel", "some", "Z", false)
  | 34 => ("TalkHouseModel", "parts", "I", false)
  | 35 => ("TalkHouseModel", "open", "I", false)
  | 36 => ("TalkHouseModel", "type", "I", false)
  | 37 => ("TalkHouseModel", "slotName", "[J", true)
  | 38 => ("TalkHouseModel", "savedName", "[J", true)
  | 39 => ("TalkHouseModel", "slotSort", "[I", true)
  | 40 => ("TalkHouseModel", "slotType", "[I", true)
  | 41 => ("TalkHouseModel", "savedSort", "[I", true)
  | 42 => ("TalkHouseModel", "savedType", "[I", true)
  | 43 => ("TalkHouseModel", "slots", "I", false)
  | 44 => ("TalkHouseModel", "words", "I", false)
  | 45 => ("TalkHouseModel", "nest", "I", false)
  | 46 => ("TalkHouseModel", "def", "I", false)
  | 47 => ("TalkHouseModel", "term", "I", false)
  | 48 => ("TalkHouseModel", "channel", "I", false)
  | 49 => ("TalkHouseModel", "head", "I", false)
  | 50 => ("TalkHouseModel", "list", "I", false)
  | 51 => ("TalkHouseModel", "last", "I", false)
  | 52 => ("TalkHouseModel", "pDef", "[I", true)
  | 53 => ("TalkHouseModel", "pNode", "[I", true)
  | 54 => ("TalkHouseModel", "pGives", "[I", true)
  | 55 => ("TalkHouseModel", "pSteps", "[I", true)
  | 56 => ("TalkHouseModel", "pSaid", "[I", true)
  | 57 => ("TalkHouseModel", "pHas", "[I", true)
  | 58 => ("TalkHouseModel", "slotsOf", "[I", true)
  | 59 => ("TalkHouseModel", "pOver", "[Z", true)
  | 60 => ("TalkHouseModel", "processes", "I", false)
  | 61 => ("TalkHouseModel", "channels", "I", false)
  | 62 => ("TalkHouseModel", "steps", "I", false)
  | 63 => ("TalkHouseModel", "said", "I", false)
  | 64 => ("TalkHouseModel", "messages", "I", false)
  | 65 => ("TalkHouseModel", "spent", "Z", false)
  | 66 => ("TalkHouseModel", "alias", "[I", true)
  | 67 => ("TalkHouseModel", "first", "[I", true)
  | 68 => ("TalkHouseModel", "tail", "[I", true)
  | 69 => ("TalkHouseModel", "mKind", "[I", true)
  | 70 => ("TalkHouseModel", "mValue", "[I", true)
  | 71 => ("TalkHouseModel", "mNext", "[I", true)
  | 72 => ("TalkHouseModel", "mName", "[J", true)
  | 73 => ("TalkHouseModel", "saidValue", "[I", true)
  | 74 => ("TalkHouseModel", "saidBy", "[I", true)
  | 75 => ("TalkHouseModel", "chain", "[I", true)
  | 76 => ("TalkHouseModel", "chained", "I", false)
  | 77 => ("TalkHouseModel", "passed", "[I", true)
  | 78 => ("TalkHouseModel", "mLast", "I", false)
  | 79 => ("TalkHouseModel", "out", "[I", true)
  | _ => ("TalkHouseModel", "outs", "I", false)
def tyX12 : Nat → FieldType := fun k => match k with
  | 0 => .array .int
  | 1 => .int
  | 2 => .int
  | 3 => .int
  | 4 => .int
  | 5 => .int
  | 6 => .long
  | 7 => .int
  | 8 => .int
  | 9 => .int
  | 10 => .int
  | 11 => .array .int
  | 12 => .array .int
  | 13 => .array .int
  | 14 => .array .int
  | 15 => .array .long
  | 16 => .int
  | 17 => .int
  | 18 => .array .long
  | 19 => .array .long
  | 20 => .array .long
  | 21 => .array .long
  | 22 => .array .int
  | 23 => .array .int
  | 24 => .array .int
  | 25 => .array .int
  | 26 => .array .int
  | 27 => .array .int
  | 28 => .array .int
  | 29 => .array .int
  | 30 => .array .int
  | 31 => .int
  | 32 => .int
  | 33 => .boolean
  | 34 => .int
  | 35 => .int
  | 36 => .int
  | 37 => .array .long
  | 38 => .array .long
  | 39 => .array .int
  | 40 => .array .int
  | 41 => .array .int
  | 42 => .array .int
  | 43 => .int
  | 44 => .int
  | 45 => .int
  | 46 => .int
  | 47 => .int
  | 48 => .int
  | 49 => .int
  | 50 => .int
  | 51 => .int
  | 52 => .array .int
  | 53 => .array .int
  | 54 => .array .int
  | 55 => .array .int
  | 56 => .array .int
  | 57 => .array .int
  | 58 => .array .int
  | 59 => .array .boolean
  | 60 => .int
  | 61 => .int
  | 62 => .int
  | 63 => .int
  | 64 => .int
  | 65 => .boolean
  | 66 => .array .int
  | 67 => .array .int
  | 68 => .array .int
  | 69 => .array .int
  | 70 => .array .int
  | 71 => .array .int
  | 72 => .array .long
  | 73 => .array .int
  | 74 => .array .int
  | 75 => .array .int
  | 76 => .int
  | 77 => .array .int
  | 78 => .int
  | 79 => .array .int
  | _ => .int
theorem nmX12 : ∀ a, a < 81 → ∀ b, b < 81 → a ≠ b → (TX12 a).2.1 ≠ (TX12 b).2.1 := by decide +kernel
theorem tyX12_ok : ∀ k, k < 81 → parseFieldDescriptor (TX12 k).2.2.1 = some (tyX12 k) := by decide +kernel
abbrev cX12_init : ByteArray := prog_14_method_1_code
def yX12_init : MethodName := ⟨RX12, "<init>", "()V"⟩
abbrev cX12_isIn : ByteArray := prog_14_method_2_code
def yX12_isIn : MethodName := ⟨RX12, "isIn", "(III)Z"⟩
abbrev cX12_see : ByteArray := prog_14_method_3_code
def yX12_see : MethodName := ⟨RX12, "see", "(I)I"⟩
abbrev cX12_isSmall : ByteArray := prog_14_method_4_code
def yX12_isSmall : MethodName := ⟨RX12, "isSmall", "(I)Z"⟩
abbrev cX12_isLetter : ByteArray := prog_14_method_5_code
def yX12_isLetter : MethodName := ⟨RX12, "isLetter", "(I)Z"⟩
abbrev cX12_word : ByteArray := prog_14_method_6_code
def yX12_word : MethodName := ⟨RX12, "word", "()I"⟩
abbrev cX12_look0 : ByteArray := prog_14_method_7_code
def yX12_look0 : MethodName := ⟨RX12, "look0", "()V"⟩
abbrev cX12_isSign : ByteArray := prog_14_method_8_code
def yX12_isSign : MethodName := ⟨RX12, "isSign", "(I)Z"⟩
abbrev cX12_bad : ByteArray := prog_14_method_9_code
def yX12_bad : MethodName := ⟨RX12, "bad", "(II)Z"⟩
abbrev cX12_need : ByteArray := prog_14_method_10_code
def yX12_need : MethodName := ⟨RX12, "need", "(I)Z"⟩
abbrev cX12_needWord : ByteArray := prog_14_method_11_code
def yX12_needWord : MethodName := ⟨RX12, "needWord", "(I)Z"⟩
abbrev cX12_node : ByteArray := prog_14_method_12_code
def yX12_node : MethodName := ⟨RX12, "node", "(IIIJ)I"⟩
abbrev cX12_aligned : ByteArray := prog_14_method_13_code
def yX12_aligned : MethodName := ⟨RX12, "aligned", "(J)J"⟩
abbrev cX12_partsOf : ByteArray := prog_14_method_14_code
def yX12_partsOf : MethodName := ⟨RX12, "partsOf", "(I)I"⟩
abbrev cX12_more : ByteArray := prog_14_method_15_code
def yX12_more : MethodName := ⟨RX12, "more", "(I)Z"⟩
abbrev cX12_findType : ByteArray := prog_14_method_16_code
def yX12_findType : MethodName := ⟨RX12, "findType", "(J)I"⟩
abbrev cX12_wholeType : ByteArray := prog_14_method_17_code
def yX12_wholeType : MethodName := ⟨RX12, "wholeType", "()Z"⟩
abbrev cX12_readType : ByteArray := prog_14_method_18_code
def yX12_readType : MethodName := ⟨RX12, "readType", "()Z"⟩
abbrev cX12_choice : ByteArray := prog_14_method_19_code
def yX12_choice : MethodName := ⟨RX12, "choice", "(I)Z"⟩
abbrev cX12_branch : ByteArray := prog_14_method_20_code
def yX12_branch : MethodName := ⟨RX12, "branch", "(IJ)I"⟩
abbrev cX12_alike : ByteArray := prog_14_method_21_code
def yX12_alike : MethodName := ⟨RX12, "alike", "(II)Z"⟩
abbrev cX12_slot : ByteArray := prog_14_method_22_code
def yX12_slot : MethodName := ⟨RX12, "slot", "(J)I"⟩
abbrev cX12_newSlot : ByteArray := prog_14_method_23_code
def yX12_newSlot : MethodName := ⟨RX12, "newSlot", "(JII)I"⟩
abbrev cX12_save : ByteArray := prog_14_method_24_code
def yX12_save : MethodName := ⟨RX12, "save", "(I)V"⟩
abbrev cX12_back : ByteArray := prog_14_method_25_code
def yX12_back : MethodName := ⟨RX12, "back", "(I)V"⟩
abbrev cX12_has : ByteArray := prog_14_method_26_code
def yX12_has : MethodName := ⟨RX12, "has", "()Z"⟩
abbrev cX12_given : ByteArray := prog_14_method_27_code
def yX12_given : MethodName := ⟨RX12, "given", "()I"⟩
abbrev cX12_opens : ByteArray := prog_14_method_28_code
def yX12_opens : MethodName := ⟨RX12, "opens", "()Z"⟩
abbrev cX12_unit : ByteArray := prog_14_method_29_code
def yX12_unit : MethodName := ⟨RX12, "unit", "()Z"⟩
abbrev cX12_product : ByteArray := prog_14_method_30_code
def yX12_product : MethodName := ⟨RX12, "product", "()Z"⟩
abbrev cX12_sum : ByteArray := prog_14_method_31_code
def yX12_sum : MethodName := ⟨RX12, "sum", "()Z"⟩
abbrev cX12_expression : ByteArray := prog_14_method_32_code
def yX12_expression : MethodName := ⟨RX12, "expression", "()Z"⟩
abbrev cX12_aChannel : ByteArray := prog_14_method_33_code
def yX12_aChannel : MethodName := ⟨RX12, "aChannel", "(II)Z"⟩
abbrev cX12_isFree : ByteArray := prog_14_method_34_code
def yX12_isFree : MethodName := ⟨RX12, "isFree", "()Z"⟩
abbrev cX12_readProcess : ByteArray := prog_14_method_35_code
def yX12_readProcess : MethodName := ⟨RX12, "readProcess", "()Z"⟩
abbrev cX12_act : ByteArray := prog_14_method_36_code
def yX12_act : MethodName := ⟨RX12, "act", "(I)Z"⟩
abbrev cX12_aGiven : ByteArray := prog_14_method_37_code
def yX12_aGiven : MethodName := ⟨RX12, "aGiven", "(I)Z"⟩
abbrev cX12_sends : ByteArray := prog_14_method_38_code
def yX12_sends : MethodName := ⟨RX12, "sends", "()Z"⟩
abbrev cX12_findDef : ByteArray := prog_14_method_39_code
def yX12_findDef : MethodName := ⟨RX12, "findDef", "(J)I"⟩
abbrev cX12_call : ByteArray := prog_14_method_40_code
def yX12_call : MethodName := ⟨RX12, "call", "()Z"⟩
abbrev cX12_news : ByteArray := prog_14_method_41_code
def yX12_news : MethodName := ⟨RX12, "news", "()Z"⟩
abbrev cX12_goes : ByteArray := prog_14_method_42_code
def yX12_goes : MethodName := ⟨RX12, "goes", "(I)Z"⟩
abbrev cX12_readSame : ByteArray := prog_14_method_43_code
def yX12_readSame : MethodName := ⟨RX12, "readSame", "(I)Z"⟩
abbrev cX12_asks : ByteArray := prog_14_method_44_code
def yX12_asks : MethodName := ⟨RX12, "asks", "()Z"⟩
abbrev cX12_cases : ByteArray := prog_14_method_45_code
def yX12_cases : MethodName := ⟨RX12, "cases", "()Z"⟩
abbrev cX12_typeText : ByteArray := prog_14_method_46_code
def yX12_typeText : MethodName := ⟨RX12, "typeText", "()Z"⟩
abbrev cX12_defText : ByteArray := prog_14_method_47_code
def yX12_defText : MethodName := ⟨RX12, "defText", "()Z"⟩
abbrev cX12_text : ByteArray := prog_14_method_48_code
def yX12_text : MethodName := ⟨RX12, "text", "()Z"⟩
abbrev cX12_load : ByteArray := prog_14_method_49_code
def yX12_load : MethodName := ⟨RX12, "load", "()I"⟩
abbrev cX12_fault : ByteArray := prog_14_method_50_code
def yX12_fault : MethodName := ⟨RX12, "fault", "(I)I"⟩
abbrev cX12_feed : ByteArray := prog_14_method_51_code
def yX12_feed : MethodName := ⟨RX12, "feed", "(IIIII)I"⟩
abbrev cX12_end : ByteArray := prog_14_method_52_code
def yX12_end : MethodName := ⟨RX12, "end", "(I)Z"⟩
abbrev cX12_def0 : ByteArray := prog_14_method_53_code
def yX12_def0 : MethodName := ⟨RX12, "def0", "(I)I"⟩
abbrev cX12_real : ByteArray := prog_14_method_54_code
def yX12_real : MethodName := ⟨RX12, "real", "(I)I"⟩
abbrev cX12_newChannel : ByteArray := prog_14_method_55_code
def yX12_newChannel : MethodName := ⟨RX12, "newChannel", "()I"⟩
abbrev cX12_enters : ByteArray := prog_14_method_56_code
def yX12_enters : MethodName := ⟨RX12, "enters", "(II)V"⟩
abbrev cX12_begins : ByteArray := prog_14_method_57_code
def yX12_begins : MethodName := ⟨RX12, "begins", "()V"⟩
abbrev cX12_fresh0 : ByteArray := prog_14_method_58_code
def yX12_fresh0 : MethodName := ⟨RX12, "fresh0", "(I)V"⟩
abbrev cX12_value : ByteArray := prog_14_method_59_code
def yX12_value : MethodName := ⟨RX12, "value", "(II)I"⟩
abbrev cX12_worth : ByteArray := prog_14_method_60_code
def yX12_worth : MethodName := ⟨RX12, "worth", "(II)I"⟩
abbrev cX12_both : ByteArray := prog_14_method_61_code
def yX12_both : MethodName := ⟨RX12, "both", "(III)I"⟩
abbrev cX12_settles : ByteArray := prog_14_method_62_code
def yX12_settles : MethodName := ⟨RX12, "settles", "(I)V"⟩
abbrev cX12_isGiven : ByteArray := prog_14_method_63_code
def yX12_isGiven : MethodName := ⟨RX12, "isGiven", "(II)Z"⟩
abbrev cX12_writes : ByteArray := prog_14_method_64_code
def yX12_writes : MethodName := ⟨RX12, "writes", "(II)I"⟩
abbrev cX12_reads : ByteArray := prog_14_method_65_code
def yX12_reads : MethodName := ⟨RX12, "reads", "(II)I"⟩
abbrev cX12_isReading : ByteArray := prog_14_method_66_code
def yX12_isReading : MethodName := ⟨RX12, "isReading", "(I)Z"⟩
abbrev cX12_waits : ByteArray := prog_14_method_67_code
def yX12_waits : MethodName := ⟨RX12, "waits", "(I)Z"⟩
abbrev cX12_ready : ByteArray := prog_14_method_68_code
def yX12_ready : MethodName := ⟨RX12, "ready", "()I"⟩
abbrev cX12_which : ByteArray := prog_14_method_69_code
def yX12_which : MethodName := ⟨RX12, "which", "(I)I"⟩
abbrev cX12_lay : ByteArray := prog_14_method_70_code
def yX12_lay : MethodName := ⟨RX12, "lay", "(IIIJ)V"⟩
abbrev cX12_take : ByteArray := prog_14_method_71_code
def yX12_take : MethodName := ⟨RX12, "take", "(I)I"⟩
abbrev cX12_tells : ByteArray := prog_14_method_72_code
def yX12_tells : MethodName := ⟨RX12, "tells", "(IIII)I"⟩
abbrev cX12_joins : ByteArray := prog_14_method_73_code
def yX12_joins : MethodName := ⟨RX12, "joins", "(II)V"⟩
abbrev cX12_append : ByteArray := prog_14_method_74_code
def yX12_append : MethodName := ⟨RX12, "append", "(III)V"⟩
abbrev cX12_goesOn : ByteArray := prog_14_method_75_code
def yX12_goesOn : MethodName := ⟨RX12, "goesOn", "(I)V"⟩
abbrev cX12_says : ByteArray := prog_14_method_76_code
def yX12_says : MethodName := ⟨RX12, "says", "(II)V"⟩
abbrev cX12_makes : ByteArray := prog_14_method_77_code
def yX12_makes : MethodName := ⟨RX12, "makes", "(II)V"⟩
abbrev cX12_step : ByteArray := prog_14_method_78_code
def yX12_step : MethodName := ⟨RX12, "step", "(I)I"⟩
abbrev cX12_run : ByteArray := prog_14_method_79_code
def yX12_run : MethodName := ⟨RX12, "run", "(II)I"⟩
abbrev cX12_begin : ByteArray := prog_14_method_80_code
def yX12_begin : MethodName := ⟨RX12, "begin", "()Z"⟩
abbrev cX12_look : ByteArray := prog_14_method_81_code
def yX12_look : MethodName := ⟨RX12, "look", "(I)I"⟩
abbrev cX12_isDef : ByteArray := prog_14_method_82_code
def yX12_isDef : MethodName := ⟨RX12, "isDef", "(I)Z"⟩
abbrev cX12_least : ByteArray := prog_14_method_83_code
def yX12_least : MethodName := ⟨RX12, "least", "(I)I"⟩
abbrev cX12_def : ByteArray := prog_14_method_84_code
def yX12_def : MethodName := ⟨RX12, "def", "(II)I"⟩
abbrev cX12_typeOf : ByteArray := prog_14_method_85_code
def yX12_typeOf : MethodName := ⟨RX12, "typeOf", "(II)I"⟩
abbrev cX12_same : ByteArray := prog_14_method_86_code
def yX12_same : MethodName := ⟨RX12, "same", "(IIII)Z"⟩
abbrev cX12_say : ByteArray := prog_14_method_87_code
def yX12_say : MethodName := ⟨RX12, "say", "(I)V"⟩
abbrev cX12_sayName : ByteArray := prog_14_method_88_code
def yX12_sayName : MethodName := ⟨RX12, "sayName", "(J)V"⟩
abbrev cX12_sayType : ByteArray := prog_14_method_89_code
def yX12_sayType : MethodName := ⟨RX12, "sayType", "(I)V"⟩
abbrev cX12_print : ByteArray := prog_14_method_90_code
def yX12_print : MethodName := ⟨RX12, "print", "(II)I"⟩
abbrev cX12_out : ByteArray := prog_14_method_91_code
def yX12_out : MethodName := ⟨RX12, "out", "(I)I"⟩
abbrev cX12_process : ByteArray := prog_14_method_92_code
def yX12_process : MethodName := ⟨RX12, "process", "(II)I"⟩
abbrev cX12_long0 : ByteArray := prog_14_method_93_code
def yX12_long0 : MethodName := ⟨RX12, "long0", "(I)I"⟩
abbrev cX12_channel : ByteArray := prog_14_method_94_code
def yX12_channel : MethodName := ⟨RX12, "channel", "(II)I"⟩
abbrev cX12_message : ByteArray := prog_14_method_95_code
def yX12_message : MethodName := ⟨RX12, "message", "(III)I"⟩
abbrev cX12_said : ByteArray := prog_14_method_96_code
def yX12_said : MethodName := ⟨RX12, "said", "(II)I"⟩
def RJ11 : String := "java/lang/Character"
abbrev cJ11_isValidCodePoint_9a6ad : ByteArray := prog_15_method_11_code
def yJ11_isValidCodePoint_9a6ad : MethodName := ⟨RJ11, "isValidCodePoint", "(I)Z"⟩
abbrev cJ11_highSurrogate_5068e : ByteArray := prog_15_method_28_code
def yJ11_highSurrogate_5068e : MethodName := ⟨RJ11, "highSurrogate", "(I)C"⟩
abbrev cJ11_lowSurrogate_5068e : ByteArray := prog_15_method_29_code
def yJ11_lowSurrogate_5068e : MethodName := ⟨RJ11, "lowSurrogate", "(I)C"⟩
def RJ9 : String := "java/lang/Math"
abbrev cJ9_max_7cf53 : ByteArray := prog_16_method_65_code
def yJ9_max_7cf53 : MethodName := ⟨RJ9, "max", "(II)I"⟩
abbrev cJ9_min_7cf53 : ByteArray := prog_16_method_69_code
def yJ9_min_7cf53 : MethodName := ⟨RJ9, "min", "(II)I"⟩
def RJ0 : String := "java/lang/String"
abbrev cJ0_length_8abf5 : ByteArray := prog_17_method_54_code
def yJ0_length_8abf5 : MethodName := ⟨RJ0, "length", "()I"⟩
abbrev cJ0_charAt_5068e : ByteArray := prog_17_method_56_code
def yJ0_charAt_5068e : MethodName := ⟨RJ0, "charAt", "(I)C"⟩
abbrev cJ0_indexOf_0f7a4 : ByteArray := prog_17_method_79_code
def yJ0_indexOf_0f7a4 : MethodName := ⟨RJ0, "indexOf", "(I)I"⟩
abbrev cJ0_indexOf_7cf53 : ByteArray := prog_17_method_80_code
def yJ0_indexOf_7cf53 : MethodName := ⟨RJ0, "indexOf", "(II)I"⟩
abbrev cJ0_coder_7d493 : ByteArray := prog_17_method_152_code
def yJ0_coder_7d493 : MethodName := ⟨RJ0, "coder", "()B"⟩
abbrev cJ0_isLatin1_aae02 : ByteArray := prog_17_method_154_code
def yJ0_isLatin1_aae02 : MethodName := ⟨RJ0, "isLatin1", "()Z"⟩
abbrev cJ0_checkIndex_df160 : ByteArray := prog_17_method_155_code
def yJ0_checkIndex_df160 : MethodName := ⟨RJ0, "checkIndex", "(II)V"⟩
abbrev cJ0_checkBoundsBeginEnd_23922 : ByteArray := prog_17_method_158_code
def yJ0_checkBoundsBeginEnd_23922 : MethodName := ⟨RJ0, "checkBoundsBeginEnd", "(III)V"⟩
def RJ1 : String := "java/lang/StringLatin1"
abbrev cJ1_charAt_3b067 : ByteArray := prog_18_method_2_code
def yJ1_charAt_3b067 : MethodName := ⟨RJ1, "charAt", "([BI)C"⟩
abbrev cJ1_canEncode_9a6ad : ByteArray := prog_18_method_4_code
def yJ1_canEncode_9a6ad : MethodName := ⟨RJ1, "canEncode", "(I)Z"⟩
abbrev cJ1_indexOf_4cfef : ByteArray := prog_18_method_22_code
def yJ1_indexOf_4cfef : MethodName := ⟨RJ1, "indexOf", "([BIII)I"⟩
abbrev cJ1_indexOfChar_4cfef : ByteArray := prog_18_method_23_code
def yJ1_indexOfChar_4cfef : MethodName := ⟨RJ1, "indexOfChar", "([BIII)I"⟩
def RJ2 : String := "java/lang/StringUTF16"
abbrev cJ2_getChar_3b067 : ByteArray := prog_19_method_5_code
def yJ2_getChar_3b067 : MethodName := ⟨RJ2, "getChar", "([BI)C"⟩
abbrev cJ2_length_9d52b : ByteArray := prog_19_method_6_code
def yJ2_length_9d52b : MethodName := ⟨RJ2, "length", "([B)I"⟩
abbrev cJ2_indexOf_4cfef : ByteArray := prog_19_method_40_code
def yJ2_indexOf_4cfef : MethodName := ⟨RJ2, "indexOf", "([BIII)I"⟩
abbrev cJ2_indexOfChar_4cfef : ByteArray := prog_19_method_47_code
def yJ2_indexOfChar_4cfef : MethodName := ⟨RJ2, "indexOfChar", "([BIII)I"⟩
abbrev cJ2_indexOfCharUnsafe_4cfef : ByteArray := prog_19_method_48_code
def yJ2_indexOfCharUnsafe_4cfef : MethodName := ⟨RJ2, "indexOfCharUnsafe", "([BIII)I"⟩
abbrev cJ2_indexOfSupplementary_4cfef : ByteArray := prog_19_method_49_code
def yJ2_indexOfSupplementary_4cfef : MethodName := ⟨RJ2, "indexOfSupplementary", "([BIII)I"⟩
abbrev cJ2_charAt_3b067 : ByteArray := prog_19_method_83_code
def yJ2_charAt_3b067 : MethodName := ⟨RJ2, "charAt", "([BI)C"⟩
abbrev cJ2_checkIndex_2214a : ByteArray := prog_19_method_91_code
def yJ2_checkIndex_2214a : MethodName := ⟨RJ2, "checkIndex", "(I[B)V"⟩
abbrev cJ2_checkBoundsBeginEnd_d044e : ByteArray := prog_19_method_93_code
def yJ2_checkBoundsBeginEnd_d044e : MethodName := ⟨RJ2, "checkBoundsBeginEnd", "(II[B)V"⟩
def RJ3 : String := "jdk/internal/util/Preconditions"
abbrev cJ3_checkIndex_8e157 : ByteArray := prog_20_method_11_code
def yJ3_checkIndex_8e157 : MethodName := ⟨RJ3, "checkIndex", "(IILjava/util/function/BiFunction;)I"⟩
abbrev cJ3_checkFromToIndex_8c36e : ByteArray := prog_20_method_12_code
def yJ3_checkFromToIndex_8c36e : MethodName := ⟨RJ3, "checkFromToIndex", "(IIILjava/util/function/BiFunction;)I"⟩
def RL : String := "TalkHouseLaw"
abbrev vwCl : List vw_C := [(RX0, TX0, 18), (RX1, TX1, 7), (RX2, TX2, 11), (RX3, TX3, 7), (RX4, TX4, 2), (RX5, TX5, 4), (RX6, TX6, 16), (RX7, TX7, 3), (RX8, TX8, 5), (RX9, TX9, 5), (RX10, TX10, 8), (RX11, TX11, 8), (RX12, TX12, 81)]
