section
-- ===== PART A: goes FIRST, ahead of the names: the tables' words, and 'selects' of the private methods out of them =====
/-- a private method of a class that the tables say can be made, by its rows of tables_1 -/
def lw_okq (q : MethodName × Nat) : Prop := (q.1.cls ≠ "java/lang/invoke/MethodHandle" ∧ q.1.cls ≠ "java/lang/invoke/VarHandle") ∧ Cond.instantiable q.1.cls q.2 ∈ tables_1 ∧ Cond.privateMethod q.1 ∈ tables_1 ∧ Cond.instanceMethod q.1 ∈ tables_1
theorem lw_p0 : lw_okq (⟨"InterlockTables$Words", "kindOf", "(LInterlockTables$Bytes;II)I"⟩, 5) := ⟨⟨by decide +kernel, by decide +kernel⟩, List.mem_of_getElem? (i := 156) (by decide +kernel), List.mem_of_getElem? (i := 199) (by decide +kernel), List.mem_of_getElem? (i := 200) (by decide +kernel)⟩
theorem lw_p1 : lw_okq (⟨"InterlockTables$Words", "numberedKind", "(LInterlockTables$Bytes;II)I"⟩, 5) := ⟨⟨by decide +kernel, by decide +kernel⟩, List.mem_of_getElem? (i := 156) (by decide +kernel), List.mem_of_getElem? (i := 264) (by decide +kernel), List.mem_of_getElem? (i := 265) (by decide +kernel)⟩
theorem lw_p2 : lw_okq (⟨"InterlockTables$Words", "keep", "(I)V"⟩, 5) := ⟨⟨by decide +kernel, by decide +kernel⟩, List.mem_of_getElem? (i := 156) (by decide +kernel), List.mem_of_getElem? (i := 271) (by decide +kernel), List.mem_of_getElem? (i := 272) (by decide +kernel)⟩
theorem lw_p3 : lw_okq (⟨"InterlockTables$Reader", "takeRow", "()Z"⟩, 3) := ⟨⟨by decide +kernel, by decide +kernel⟩, List.mem_of_getElem? (i := 283) (by decide +kernel), List.mem_of_getElem? (i := 307) (by decide +kernel), List.mem_of_getElem? (i := 308) (by decide +kernel)⟩
theorem lw_p4 : lw_okq (⟨"InterlockTables$Reader", "take", "(I)Z"⟩, 3) := ⟨⟨by decide +kernel, by decide +kernel⟩, List.mem_of_getElem? (i := 283) (by decide +kernel), List.mem_of_getElem? (i := 378) (by decide +kernel), List.mem_of_getElem? (i := 379) (by decide +kernel)⟩
theorem lw_p5 : lw_okq (⟨"InterlockTables$Reader", "takeActs", "(LInterlockTables$Row;)Z"⟩, 3) := ⟨⟨by decide +kernel, by decide +kernel⟩, List.mem_of_getElem? (i := 283) (by decide +kernel), List.mem_of_getElem? (i := 386) (by decide +kernel), List.mem_of_getElem? (i := 387) (by decide +kernel)⟩
theorem lw_p6 : lw_okq (⟨"InterlockTables$Reader", "takeOr", "(LInterlockTables$Row;I)Z"⟩, 3) := ⟨⟨by decide +kernel, by decide +kernel⟩, List.mem_of_getElem? (i := 283) (by decide +kernel), List.mem_of_getElem? (i := 406) (by decide +kernel), List.mem_of_getElem? (i := 407) (by decide +kernel)⟩
theorem lw_p7 : lw_okq (⟨"InterlockTables$Reader", "takeAnd", "(LInterlockTables$Row;I)Z"⟩, 3) := ⟨⟨by decide +kernel, by decide +kernel⟩, List.mem_of_getElem? (i := 283) (by decide +kernel), List.mem_of_getElem? (i := 410) (by decide +kernel), List.mem_of_getElem? (i := 411) (by decide +kernel)⟩
theorem lw_p8 : lw_okq (⟨"InterlockTables$Reader", "takePart", "(LInterlockTables$Row;I)Z"⟩, 3) := ⟨⟨by decide +kernel, by decide +kernel⟩, List.mem_of_getElem? (i := 283) (by decide +kernel), List.mem_of_getElem? (i := 414) (by decide +kernel), List.mem_of_getElem? (i := 415) (by decide +kernel)⟩
theorem lw_p9 : lw_okq (⟨"InterlockTables$Reader", "takeBrackets", "(LInterlockTables$Row;I)Z"⟩, 3) := ⟨⟨by decide +kernel, by decide +kernel⟩, List.mem_of_getElem? (i := 283) (by decide +kernel), List.mem_of_getElem? (i := 418) (by decide +kernel), List.mem_of_getElem? (i := 419) (by decide +kernel)⟩
theorem lw_p10 : lw_okq (⟨"InterlockTables$Reader", "takeCondition", "(LInterlockTables$Row;)Z"⟩, 3) := ⟨⟨by decide +kernel, by decide +kernel⟩, List.mem_of_getElem? (i := 283) (by decide +kernel), List.mem_of_getElem? (i := 422) (by decide +kernel), List.mem_of_getElem? (i := 423) (by decide +kernel)⟩
theorem lw_p11 : lw_okq (⟨"InterlockTables$Reader", "takeFor", "(LInterlockTables$Row;)Z"⟩, 3) := ⟨⟨by decide +kernel, by decide +kernel⟩, List.mem_of_getElem? (i := 283) (by decide +kernel), List.mem_of_getElem? (i := 430) (by decide +kernel), List.mem_of_getElem? (i := 431) (by decide +kernel)⟩
theorem lw_p12 : lw_okq (⟨"java/util/ArrayList", "add", "(Ljava/lang/Object;[Ljava/lang/Object;I)V"⟩, 3) := ⟨⟨by decide +kernel, by decide +kernel⟩, List.mem_of_getElem? (i := 55) (by decide +kernel), List.mem_of_getElem? (i := 438) (by decide +kernel), List.mem_of_getElem? (i := 439) (by decide +kernel)⟩
theorem lw_p13 : lw_okq (⟨"java/util/ArrayList", "grow", "()[Ljava/lang/Object;"⟩, 3) := ⟨⟨by decide +kernel, by decide +kernel⟩, List.mem_of_getElem? (i := 55) (by decide +kernel), List.mem_of_getElem? (i := 442) (by decide +kernel), List.mem_of_getElem? (i := 443) (by decide +kernel)⟩
theorem lw_p14 : lw_okq (⟨"java/util/ArrayList", "grow", "(I)[Ljava/lang/Object;"⟩, 3) := ⟨⟨by decide +kernel, by decide +kernel⟩, List.mem_of_getElem? (i := 55) (by decide +kernel), List.mem_of_getElem? (i := 446) (by decide +kernel), List.mem_of_getElem? (i := 447) (by decide +kernel)⟩
theorem lw_p15 : lw_okq (⟨"InterlockTables$Row", "holds", "(Z)Z"⟩, 13) := ⟨⟨by decide +kernel, by decide +kernel⟩, List.mem_of_getElem? (i := 311) (by decide +kernel), List.mem_of_getElem? (i := 553) (by decide +kernel), List.mem_of_getElem? (i := 554) (by decide +kernel)⟩
def lw_privs_1 : List (MethodName × Nat) := [(⟨"InterlockTables$Words", "kindOf", "(LInterlockTables$Bytes;II)I"⟩, 5), (⟨"InterlockTables$Words", "numberedKind", "(LInterlockTables$Bytes;II)I"⟩, 5), (⟨"InterlockTables$Words", "keep", "(I)V"⟩, 5), (⟨"InterlockTables$Reader", "takeRow", "()Z"⟩, 3), (⟨"InterlockTables$Reader", "take", "(I)Z"⟩, 3), (⟨"InterlockTables$Reader", "takeActs", "(LInterlockTables$Row;)Z"⟩, 3), (⟨"InterlockTables$Reader", "takeOr", "(LInterlockTables$Row;I)Z"⟩, 3), (⟨"InterlockTables$Reader", "takeAnd", "(LInterlockTables$Row;I)Z"⟩, 3), (⟨"InterlockTables$Reader", "takePart", "(LInterlockTables$Row;I)Z"⟩, 3), (⟨"InterlockTables$Reader", "takeBrackets", "(LInterlockTables$Row;I)Z"⟩, 3), (⟨"InterlockTables$Reader", "takeCondition", "(LInterlockTables$Row;)Z"⟩, 3), (⟨"InterlockTables$Reader", "takeFor", "(LInterlockTables$Row;)Z"⟩, 3), (⟨"java/util/ArrayList", "add", "(Ljava/lang/Object;[Ljava/lang/Object;I)V"⟩, 3), (⟨"java/util/ArrayList", "grow", "()[Ljava/lang/Object;"⟩, 3), (⟨"java/util/ArrayList", "grow", "(I)[Ljava/lang/Object;"⟩, 3), (⟨"InterlockTables$Row", "holds", "(Z)Z"⟩, 13)]
theorem lw_r1 : ∀ q ∈ lw_privs_1, lw_okq q := List.forall_mem_cons.mpr ⟨lw_p0, List.forall_mem_cons.mpr ⟨lw_p1, List.forall_mem_cons.mpr ⟨lw_p2, List.forall_mem_cons.mpr ⟨lw_p3, List.forall_mem_cons.mpr ⟨lw_p4, List.forall_mem_cons.mpr ⟨lw_p5, List.forall_mem_cons.mpr ⟨lw_p6, List.forall_mem_cons.mpr ⟨lw_p7, List.forall_mem_cons.mpr ⟨lw_p8, List.forall_mem_cons.mpr ⟨lw_p9, List.forall_mem_cons.mpr ⟨lw_p10, List.forall_mem_cons.mpr ⟨lw_p11, List.forall_mem_cons.mpr ⟨lw_p12, List.forall_mem_cons.mpr ⟨lw_p13, List.forall_mem_cons.mpr ⟨lw_p14, List.forall_mem_cons.mpr ⟨lw_p15, fun _ h => absurd h List.not_mem_nil⟩⟩⟩⟩⟩⟩⟩⟩⟩⟩⟩⟩⟩⟩⟩⟩
theorem lw_p16 : lw_okq (⟨"InterlockTables$Table", "pick", "(IZ)I"⟩, 4) := ⟨⟨by decide +kernel, by decide +kernel⟩, List.mem_of_getElem? (i := 49) (by decide +kernel), List.mem_of_getElem? (i := 589) (by decide +kernel), List.mem_of_getElem? (i := 590) (by decide +kernel)⟩
theorem lw_p17 : lw_okq (⟨"InterlockTables$Survey", "findUsed", "()V"⟩, 5) := ⟨⟨by decide +kernel, by decide +kernel⟩, List.mem_of_getElem? (i := 606) (by decide +kernel), List.mem_of_getElem? (i := 632) (by decide +kernel), List.mem_of_getElem? (i := 633) (by decide +kernel)⟩
theorem lw_p18 : lw_okq (⟨"InterlockTables$Survey", "set", "(I)V"⟩, 5) := ⟨⟨by decide +kernel, by decide +kernel⟩, List.mem_of_getElem? (i := 606) (by decide +kernel), List.mem_of_getElem? (i := 643) (by decide +kernel), List.mem_of_getElem? (i := 644) (by decide +kernel)⟩
theorem lw_p19 : lw_okq (⟨"InterlockTables$Survey", "markBlock", "()I"⟩, 5) := ⟨⟨by decide +kernel, by decide +kernel⟩, List.mem_of_getElem? (i := 606) (by decide +kernel), List.mem_of_getElem? (i := 647) (by decide +kernel), List.mem_of_getElem? (i := 648) (by decide +kernel)⟩
theorem lw_p20 : lw_okq (⟨"InterlockTables$Survey", "cover", "(LInterlockTables$Row;J)Z"⟩, 5) := ⟨⟨by decide +kernel, by decide +kernel⟩, List.mem_of_getElem? (i := 606) (by decide +kernel), List.mem_of_getElem? (i := 657) (by decide +kernel), List.mem_of_getElem? (i := 658) (by decide +kernel)⟩
theorem lw_p21 : lw_okq (⟨"InterlockTables$Writer", "putWord", "(Ljava/lang/String;)V"⟩, 3) := ⟨⟨by decide +kernel, by decide +kernel⟩, List.mem_of_getElem? (i := 681) (by decide +kernel), List.mem_of_getElem? (i := 705) (by decide +kernel), List.mem_of_getElem? (i := 706) (by decide +kernel)⟩
theorem lw_p22 : lw_okq (⟨"InterlockTables$Writer", "putDigits", "(I)V"⟩, 3) := ⟨⟨by decide +kernel, by decide +kernel⟩, List.mem_of_getElem? (i := 681) (by decide +kernel), List.mem_of_getElem? (i := 714) (by decide +kernel), List.mem_of_getElem? (i := 715) (by decide +kernel)⟩
theorem lw_p23 : lw_okq (⟨"InterlockTables$Writer", "putExpression", "(IZI)V"⟩, 3) := ⟨⟨by decide +kernel, by decide +kernel⟩, List.mem_of_getElem? (i := 681) (by decide +kernel), List.mem_of_getElem? (i := 719) (by decide +kernel), List.mem_of_getElem? (i := 720) (by decide +kernel)⟩
theorem lw_p24 : lw_okq (⟨"InterlockTables$Writer", "isJoin", "(I)Z"⟩, 3) := ⟨⟨by decide +kernel, by decide +kernel⟩, List.mem_of_getElem? (i := 681) (by decide +kernel), List.mem_of_getElem? (i := 726) (by decide +kernel), List.mem_of_getElem? (i := 727) (by decide +kernel)⟩
theorem lw_p25 : lw_okq (⟨"InterlockTables$Writer", "isOr", "(I)Z"⟩, 3) := ⟨⟨by decide +kernel, by decide +kernel⟩, List.mem_of_getElem? (i := 681) (by decide +kernel), List.mem_of_getElem? (i := 730) (by decide +kernel), List.mem_of_getElem? (i := 731) (by decide +kernel)⟩
theorem lw_p26 : lw_okq (⟨"InterlockTablesModel", "cut", "()V"⟩, 32) := ⟨⟨by decide +kernel, by decide +kernel⟩, List.mem_of_getElem? (i := 749) (by decide +kernel), List.mem_of_getElem? (i := 863) (by decide +kernel), List.mem_of_getElem? (i := 864) (by decide +kernel)⟩
theorem lw_p27 : lw_okq (⟨"InterlockTablesModel", "is", "(IIIIIIII)Z"⟩, 32) := ⟨⟨by decide +kernel, by decide +kernel⟩, List.mem_of_getElem? (i := 749) (by decide +kernel), List.mem_of_getElem? (i := 870) (by decide +kernel), List.mem_of_getElem? (i := 871) (by decide +kernel)⟩
theorem lw_p28 : lw_okq (⟨"InterlockTablesModel", "wide", "()I"⟩, 32) := ⟨⟨by decide +kernel, by decide +kernel⟩, List.mem_of_getElem? (i := 749) (by decide +kernel), List.mem_of_getElem? (i := 874) (by decide +kernel), List.mem_of_getElem? (i := 875) (by decide +kernel)⟩
theorem lw_p29 : lw_okq (⟨"InterlockTablesModel", "at", "(I)I"⟩, 32) := ⟨⟨by decide +kernel, by decide +kernel⟩, List.mem_of_getElem? (i := 749) (by decide +kernel), List.mem_of_getElem? (i := 878) (by decide +kernel), List.mem_of_getElem? (i := 879) (by decide +kernel)⟩
theorem lw_p30 : lw_okq (⟨"InterlockTablesModel", "readRow", "()Z"⟩, 32) := ⟨⟨by decide +kernel, by decide +kernel⟩, List.mem_of_getElem? (i := 749) (by decide +kernel), List.mem_of_getElem? (i := 882) (by decide +kernel), List.mem_of_getElem? (i := 883) (by decide +kernel)⟩
theorem lw_p31 : lw_okq (⟨"InterlockTablesModel", "act", "()I"⟩, 32) := ⟨⟨by decide +kernel, by decide +kernel⟩, List.mem_of_getElem? (i := 749) (by decide +kernel), List.mem_of_getElem? (i := 886) (by decide +kernel), List.mem_of_getElem? (i := 887) (by decide +kernel)⟩
def lw_privs_2 : List (MethodName × Nat) := [(⟨"InterlockTables$Table", "pick", "(IZ)I"⟩, 4), (⟨"InterlockTables$Survey", "findUsed", "()V"⟩, 5), (⟨"InterlockTables$Survey", "set", "(I)V"⟩, 5), (⟨"InterlockTables$Survey", "markBlock", "()I"⟩, 5), (⟨"InterlockTables$Survey", "cover", "(LInterlockTables$Row;J)Z"⟩, 5), (⟨"InterlockTables$Writer", "putWord", "(Ljava/lang/String;)V"⟩, 3), (⟨"InterlockTables$Writer", "putDigits", "(I)V"⟩, 3), (⟨"InterlockTables$Writer", "putExpression", "(IZI)V"⟩, 3), (⟨"InterlockTables$Writer", "isJoin", "(I)Z"⟩, 3), (⟨"InterlockTables$Writer", "isOr", "(I)Z"⟩, 3), (⟨"InterlockTablesModel", "cut", "()V"⟩, 32), (⟨"InterlockTablesModel", "is", "(IIIIIIII)Z"⟩, 32), (⟨"InterlockTablesModel", "wide", "()I"⟩, 32), (⟨"InterlockTablesModel", "at", "(I)I"⟩, 32), (⟨"InterlockTablesModel", "readRow", "()Z"⟩, 32), (⟨"InterlockTablesModel", "act", "()I"⟩, 32)]
theorem lw_r2 : ∀ q ∈ lw_privs_2, lw_okq q := List.forall_mem_cons.mpr ⟨lw_p16, List.forall_mem_cons.mpr ⟨lw_p17, List.forall_mem_cons.mpr ⟨lw_p18, List.forall_mem_cons.mpr ⟨lw_p19, List.forall_mem_cons.mpr ⟨lw_p20, List.forall_mem_cons.mpr ⟨lw_p21, List.forall_mem_cons.mpr ⟨lw_p22, List.forall_mem_cons.mpr ⟨lw_p23, List.forall_mem_cons.mpr ⟨lw_p24, List.forall_mem_cons.mpr ⟨lw_p25, List.forall_mem_cons.mpr ⟨lw_p26, List.forall_mem_cons.mpr ⟨lw_p27, List.forall_mem_cons.mpr ⟨lw_p28, List.forall_mem_cons.mpr ⟨lw_p29, List.forall_mem_cons.mpr ⟨lw_p30, List.forall_mem_cons.mpr ⟨lw_p31, fun _ h => absurd h List.not_mem_nil⟩⟩⟩⟩⟩⟩⟩⟩⟩⟩⟩⟩⟩⟩⟩⟩
theorem lw_p32 : lw_okq (⟨"InterlockTablesModel", "number", "(II)I"⟩, 32) := ⟨⟨by decide +kernel, by decide +kernel⟩, List.mem_of_getElem? (i := 749) (by decide +kernel), List.mem_of_getElem? (i := 890) (by decide +kernel), List.mem_of_getElem? (i := 891) (by decide +kernel)⟩
theorem lw_p33 : lw_okq (⟨"InterlockTablesModel", "or", "()I"⟩, 32) := ⟨⟨by decide +kernel, by decide +kernel⟩, List.mem_of_getElem? (i := 749) (by decide +kernel), List.mem_of_getElem? (i := 894) (by decide +kernel), List.mem_of_getElem? (i := 895) (by decide +kernel)⟩
theorem lw_p34 : lw_okq (⟨"InterlockTablesModel", "and", "()I"⟩, 32) := ⟨⟨by decide +kernel, by decide +kernel⟩, List.mem_of_getElem? (i := 749) (by decide +kernel), List.mem_of_getElem? (i := 898) (by decide +kernel), List.mem_of_getElem? (i := 899) (by decide +kernel)⟩
theorem lw_p35 : lw_okq (⟨"InterlockTablesModel", "part", "()I"⟩, 32) := ⟨⟨by decide +kernel, by decide +kernel⟩, List.mem_of_getElem? (i := 749) (by decide +kernel), List.mem_of_getElem? (i := 902) (by decide +kernel), List.mem_of_getElem? (i := 903) (by decide +kernel)⟩
theorem lw_p36 : lw_okq (⟨"InterlockTablesModel", "isOne", "(I)Z"⟩, 32) := ⟨⟨by decide +kernel, by decide +kernel⟩, List.mem_of_getElem? (i := 749) (by decide +kernel), List.mem_of_getElem? (i := 906) (by decide +kernel), List.mem_of_getElem? (i := 907) (by decide +kernel)⟩
theorem lw_p37 : lw_okq (⟨"InterlockTablesModel", "node", "(III)I"⟩, 32) := ⟨⟨by decide +kernel, by decide +kernel⟩, List.mem_of_getElem? (i := 749) (by decide +kernel), List.mem_of_getElem? (i := 910) (by decide +kernel), List.mem_of_getElem? (i := 911) (by decide +kernel)⟩
theorem lw_p38 : lw_okq (⟨"InterlockTablesModel", "conditionWord", "()I"⟩, 32) := ⟨⟨by decide +kernel, by decide +kernel⟩, List.mem_of_getElem? (i := 749) (by decide +kernel), List.mem_of_getElem? (i := 914) (by decide +kernel), List.mem_of_getElem? (i := 915) (by decide +kernel)⟩
theorem lw_p39 : lw_okq (⟨"InterlockTablesModel", "isOn", "(I)Z"⟩, 32) := ⟨⟨by decide +kernel, by decide +kernel⟩, List.mem_of_getElem? (i := 749) (by decide +kernel), List.mem_of_getElem? (i := 927) (by decide +kernel), List.mem_of_getElem? (i := 928) (by decide +kernel)⟩
theorem lw_p40 : lw_okq (⟨"InterlockTablesModel", "value", "(I)Z"⟩, 32) := ⟨⟨by decide +kernel, by decide +kernel⟩, List.mem_of_getElem? (i := 749) (by decide +kernel), List.mem_of_getElem? (i := 931) (by decide +kernel), List.mem_of_getElem? (i := 932) (by decide +kernel)⟩
theorem lw_p41 : lw_okq (⟨"InterlockTablesModel", "hasAct", "(II)Z"⟩, 32) := ⟨⟨by decide +kernel, by decide +kernel⟩, List.mem_of_getElem? (i := 749) (by decide +kernel), List.mem_of_getElem? (i := 940) (by decide +kernel), List.mem_of_getElem? (i := 941) (by decide +kernel)⟩
theorem lw_p42 : lw_okq (⟨"InterlockTablesModel", "isRow", "(I)Z"⟩, 32) := ⟨⟨by decide +kernel, by decide +kernel⟩, List.mem_of_getElem? (i := 749) (by decide +kernel), List.mem_of_getElem? (i := 948) (by decide +kernel), List.mem_of_getElem? (i := 949) (by decide +kernel)⟩
theorem lw_p43 : lw_okq (⟨"InterlockTablesModel", "testAll", "()V"⟩, 32) := ⟨⟨by decide +kernel, by decide +kernel⟩, List.mem_of_getElem? (i := 749) (by decide +kernel), List.mem_of_getElem? (i := 964) (by decide +kernel), List.mem_of_getElem? (i := 965) (by decide +kernel)⟩
theorem lw_p44 : lw_okq (⟨"InterlockTablesModel", "table", "(II)V"⟩, 32) := ⟨⟨by decide +kernel, by decide +kernel⟩, List.mem_of_getElem? (i := 749) (by decide +kernel), List.mem_of_getElem? (i := 968) (by decide +kernel), List.mem_of_getElem? (i := 969) (by decide +kernel)⟩
theorem lw_p45 : lw_okq (⟨"InterlockTablesModel", "say8", "(J)V"⟩, 32) := ⟨⟨by decide +kernel, by decide +kernel⟩, List.mem_of_getElem? (i := 749) (by decide +kernel), List.mem_of_getElem? (i := 992) (by decide +kernel), List.mem_of_getElem? (i := 993) (by decide +kernel)⟩
theorem lw_p46 : lw_okq (⟨"InterlockTablesModel", "say", "(I)V"⟩, 32) := ⟨⟨by decide +kernel, by decide +kernel⟩, List.mem_of_getElem? (i := 749) (by decide +kernel), List.mem_of_getElem? (i := 997) (by decide +kernel), List.mem_of_getElem? (i := 998) (by decide +kernel)⟩
theorem lw_p47 : lw_okq (⟨"InterlockTablesModel", "sayNumber", "(I)V"⟩, 32) := ⟨⟨by decide +kernel, by decide +kernel⟩, List.mem_of_getElem? (i := 749) (by decide +kernel), List.mem_of_getElem? (i := 1002) (by decide +kernel), List.mem_of_getElem? (i := 1003) (by decide +kernel)⟩
def lw_privs_3 : List (MethodName × Nat) := [(⟨"InterlockTablesModel", "number", "(II)I"⟩, 32), (⟨"InterlockTablesModel", "or", "()I"⟩, 32), (⟨"InterlockTablesModel", "and", "()I"⟩, 32), (⟨"InterlockTablesModel", "part", "()I"⟩, 32), (⟨"InterlockTablesModel", "isOne", "(I)Z"⟩, 32), (⟨"InterlockTablesModel", "node", "(III)I"⟩, 32), (⟨"InterlockTablesModel", "conditionWord", "()I"⟩, 32), (⟨"InterlockTablesModel", "isOn", "(I)Z"⟩, 32), (⟨"InterlockTablesModel", "value", "(I)Z"⟩, 32), (⟨"InterlockTablesModel", "hasAct", "(II)Z"⟩, 32), (⟨"InterlockTablesModel", "isRow", "(I)Z"⟩, 32), (⟨"InterlockTablesModel", "testAll", "()V"⟩, 32), (⟨"InterlockTablesModel", "table", "(II)V"⟩, 32), (⟨"InterlockTablesModel", "say8", "(J)V"⟩, 32), (⟨"InterlockTablesModel", "say", "(I)V"⟩, 32), (⟨"InterlockTablesModel", "sayNumber", "(I)V"⟩, 32)]
theorem lw_r3 : ∀ q ∈ lw_privs_3, lw_okq q := List.forall_mem_cons.mpr ⟨lw_p32, List.forall_mem_cons.mpr ⟨lw_p33, List.forall_mem_cons.mpr ⟨lw_p34, List.forall_mem_cons.mpr ⟨lw_p35, List.forall_mem_cons.mpr ⟨lw_p36, List.forall_mem_cons.mpr ⟨lw_p37, List.forall_mem_cons.mpr ⟨lw_p38, List.forall_mem_cons.mpr ⟨lw_p39, List.forall_mem_cons.mpr ⟨lw_p40, List.forall_mem_cons.mpr ⟨lw_p41, List.forall_mem_cons.mpr ⟨lw_p42, List.forall_mem_cons.mpr ⟨lw_p43, List.forall_mem_cons.mpr ⟨lw_p44, List.forall_mem_cons.mpr ⟨lw_p45, List.forall_mem_cons.mpr ⟨lw_p46, List.forall_mem_cons.mpr ⟨lw_p47, fun _ h => absurd h List.not_mem_nil⟩⟩⟩⟩⟩⟩⟩⟩⟩⟩⟩⟩⟩⟩⟩⟩
theorem lw_p48 : lw_okq (⟨"InterlockTablesModel", "sayNode", "(II)V"⟩, 32) := ⟨⟨by decide +kernel, by decide +kernel⟩, List.mem_of_getElem? (i := 749) (by decide +kernel), List.mem_of_getElem? (i := 1007) (by decide +kernel), List.mem_of_getElem? (i := 1008) (by decide +kernel)⟩
def lw_privs_4 : List (MethodName × Nat) := [(⟨"InterlockTablesModel", "sayNode", "(II)V"⟩, 32)]
theorem lw_r4 : ∀ q ∈ lw_privs_4, lw_okq q := List.forall_mem_cons.mpr ⟨lw_p48, fun _ h => absurd h List.not_mem_nil⟩
def lw_privs : List (MethodName × Nat) := lw_privs_1 ++ (lw_privs_2 ++ (lw_privs_3 ++ (lw_privs_4)))
def lw_tbl : List Cond := k2_sels lw_privs ++ tables_1
theorem lw_privs_ok : ∀ q ∈ lw_privs, lw_okq q := by
  show ∀ q ∈ lw_privs_1 ++ (lw_privs_2 ++ (lw_privs_3 ++ (lw_privs_4))), lw_okq q
  exact List.forall_mem_append.mpr ⟨lw_r1, List.forall_mem_append.mpr ⟨lw_r2, List.forall_mem_append.mpr ⟨lw_r3, lw_r4⟩⟩⟩
end
section
/-! ===== BEGIN words of one list among another's, by their places ===== -/
theorem goodIn_r {big : List Cond} (ws : List Cond) (ps : List Nat) (hp : ws = ps.filterMap (fun i => big[i]?)) (h : ws.all goodWord = true) : GoodIn big ws := by
  intro w hw
  have h1 := List.all_eq_true.mp h w hw
  rw [hp] at hw
  obtain ⟨i, -, hi⟩ := List.mem_filterMap.mp hw
  have hm : w ∈ big := by first | exact List.mem_of_getElem? hi | exact List.getElem?_mem hi
  exact ⟨hm, good_of_word h1⟩
theorem goodIn_app {big a b : List Cond} (ha : GoodIn big a) (hb : GoodIn big b) : GoodIn big (a ++ b) := fun w h => (List.mem_append.mp h).elim (ha w) (hb w)
theorem goodIn_ca {big a b : List Cond} {c : Cond} (ha : GoodIn big (c :: a)) (hb : GoodIn big b) : GoodIn big (c :: (a ++ b)) := fun w h => (List.mem_cons.mp h).elim (fun e => ha w (List.mem_cons.mpr (Or.inl e))) (fun h => (List.mem_append.mp h).elim (fun h => ha w (List.mem_cons.mpr (Or.inr h))) (hb w))
theorem goodIn_sub {big ws : List Cond} (hm : ∀ w ∈ ws, w ∈ big) (h : ws.all goodWord = true) : GoodIn big ws := fun w hw => ⟨hm w hw, good_of_word (List.all_eq_true.mp h w hw)⟩
/-! ===== END ===== -/

def RX0 : String := "InterlockTables$Bytes"
def TX0 : u_T := fun k => match k with
  | 0 => ("InterlockTables$Bytes", "limit", "I", true)
  | 1 => ("InterlockTables$Bytes", "room", "[B", false)
  | _ => ("InterlockTables$Bytes", "length", "I", false)
def tyX0 : Nat → FieldType := fun k => match k with
  | 0 => .int
  | 1 => .array .byte
  | _ => .int
abbrev wsX00 : List Cond := u_ws RX0 TX0 3
theorem nmX0 : ∀ a, a < 3 → ∀ b, b < 3 → a ≠ b → (TX0 a).2.1 ≠ (TX0 b).2.1 := by decide +kernel
theorem tyX0_ok : ∀ k, k < 3 → parseFieldDescriptor (TX0 k).2.2.1 = some (tyX0 k) := by decide +kernel
abbrev cX0_init : ByteArray := prog_2_method_1_code
def yX0_init : MethodName := ⟨RX0, "<init>", "(I)V"⟩
abbrev cX0_add : ByteArray := prog_2_method_2_code
def yX0_add : MethodName := ⟨RX0, "add", "(I)Z"⟩
abbrev cX0_at : ByteArray := prog_2_method_3_code
def yX0_at : MethodName := ⟨RX0, "at", "(I)I"⟩
abbrev cX0_length : ByteArray := prog_2_method_4_code
def yX0_length : MethodName := ⟨RX0, "length", "()I"⟩
abbrev cX0_empty : ByteArray := prog_2_method_5_code
def yX0_empty : MethodName := ⟨RX0, "empty", "()V"⟩
def RX1 : String := "InterlockTables$Expressions"
def TX1 : u_T := fun k => match k with
  | 0 => ("InterlockTables$Expressions", "code", "[B", true)
  | 1 => ("InterlockTables$Expressions", "size", "I", false)
  | _ => ("InterlockTables$Expressions", "stack", "[J", true)
def tyX1 : Nat → FieldType := fun k => match k with
  | 0 => .array .byte
  | 1 => .int
  | _ => .array .long
abbrev wsX10 : List Cond := u_ws RX1 TX1 3
theorem nmX1 : ∀ a, a < 3 → ∀ b, b < 3 → a ≠ b → (TX1 a).2.1 ≠ (TX1 b).2.1 := by decide +kernel
theorem tyX1_ok : ∀ k, k < 3 → parseFieldDescriptor (TX1 k).2.2.1 = some (tyX1 k) := by decide +kernel
abbrev cX1_init : ByteArray := prog_3_method_1_code
def yX1_init : MethodName := ⟨RX1, "<init>", "(I)V"⟩
abbrev cX1_size : ByteArray := prog_3_method_2_code
def yX1_size : MethodName := ⟨RX1, "size", "()I"⟩
abbrev cX1_at : ByteArray := prog_3_method_3_code
def yX1_at : MethodName := ⟨RX1, "at", "(I)I"⟩
abbrev cX1_add : ByteArray := prog_3_method_4_code
def yX1_add : MethodName := ⟨RX1, "add", "(I)V"⟩
abbrev cX1_leftOf : ByteArray := prog_3_method_5_code
def yX1_leftOf : MethodName := ⟨RX1, "leftOf", "(I)I"⟩
abbrev cX1_valueOf : ByteArray := prog_3_method_6_code
def yX1_valueOf : MethodName := ⟨RX1, "valueOf", "(II[J)J"⟩
abbrev cX1_join : ByteArray := prog_3_method_7_code
def yX1_join : MethodName := ⟨RX1, "join", "(IJJ)J"⟩
abbrev cX1_isCondition : ByteArray := prog_3_method_8_code
def yX1_isCondition : MethodName := ⟨RX1, "isCondition", "(I)Z"⟩
def RX2 : String := "InterlockTables$Reader"
def TX2 : u_T := fun k => match k with
  | 0 => ("InterlockTables$Reader", "words", "LInterlockTables$Words;", true)
  | 1 => ("InterlockTables$Reader", "table", "LInterlockTables$Table;", true)
  | _ => ("InterlockTables$Reader", "expressions", "LInterlockTables$Expressions;", true)
def tyX2 : Nat → FieldType := fun k => match k with
  | 0 => .object "InterlockTables$Words"
  | 1 => .object "InterlockTables$Table"
  | _ => .object "InterlockTables$Expressions"
abbrev wsX20 : List Cond := u_ws RX2 TX2 3
theorem nmX2 : ∀ a, a < 3 → ∀ b, b < 3 → a ≠ b → (TX2 a).2.1 ≠ (TX2 b).2.1 := by decide +kernel
theorem tyX2_ok : ∀ k, k < 3 → parseFieldDescriptor (TX2 k).2.2.1 = some (tyX2 k) := by decide +kernel
abbrev cX2_init : ByteArray := prog_4_method_1_code
def yX2_init : MethodName := ⟨RX2, "<init>", "(LInterlockTables$Words;LInterlockTables$Table;)V"⟩
abbrev cX2_takeText : ByteArray := prog_4_method_2_code
def yX2_takeText : MethodName := ⟨RX2, "takeText", "()Z"⟩
abbrev cX2_takeRow : ByteArray := prog_4_method_3_code
def yX2_takeRow : MethodName := ⟨RX2, "takeRow", "()Z"⟩
abbrev cX2_take : ByteArray := prog_4_method_4_code
def yX2_take : MethodName := ⟨RX2, "take", "(I)Z"⟩
abbrev cX2_takeActs : ByteArray := prog_4_method_5_code
def yX2_takeActs : MethodName := ⟨RX2, "takeActs", "(LInterlockTables$Row;)Z"⟩
abbrev cX2_takeFor : ByteArray := prog_4_method_6_code
def yX2_takeFor : MethodName := ⟨RX2, "takeFor", "(LInterlockTables$Row;)Z"⟩
abbrev cX2_takeOr : ByteArray := prog_4_method_7_code
def yX2_takeOr : MethodName := ⟨RX2, "takeOr", "(LInterlockTables$Row;I)Z"⟩
abbrev cX2_takeAnd : ByteArray := prog_4_method_8_code
def yX2_takeAnd : MethodName := ⟨RX2, "takeAnd", "(LInterlockTables$Row;I)Z"⟩
abbrev cX2_takePart : ByteArray := prog_4_method_9_code
def yX2_takePart : MethodName := ⟨RX2, "takePart", "(LInterlockTables$Row;I)Z"⟩
abbrev cX2_takeBrackets : ByteArray := prog_4_method_10_code
def yX2_takeBrackets : MethodName := ⟨RX2, "takeBrackets", "(LInterlockTables$Row;I)Z"⟩
abbrev cX2_takeCondition : ByteArray := prog_4_method_11_code
def yX2_takeCondition : MethodName := ⟨RX2, "takeCondition", "(LInterlockTables$Row;)Z"⟩
def RX3 : String := "InterlockTables$Row"
def TX3 : u_T := fun k => match k with
  | 0 => ("InterlockTables$Row", "acts", "[I", true)
  | 1 => ("InterlockTables$Row", "actCount", "I", false)
  | 2 => ("InterlockTables$Row", "actBits", "I", false)
  | 3 => ("InterlockTables$Row", "conditionCount", "I", false)
  | 4 => ("InterlockTables$Row", "codeFrom", "I", false)
  | 5 => ("InterlockTables$Row", "codeTo", "I", false)
  | 6 => ("InterlockTables$Row", "hasFor", "Z", false)
  | 7 => ("InterlockTables$Row", "number", "I", false)
  | 8 => ("InterlockTables$Row", "mayLatch", "Z", false)
  | 9 => ("InterlockTables$Row", "count", "I", false)
  | 10 => ("InterlockTables$Row", "latched", "Z", false)
  | 11 => ("InterlockTables$Row", "passLeft", "I", false)
  | _ => ("InterlockTables$Row", "everFirst", "Z", false)
def tyX3 : Nat → FieldType := fun k => match k with
  | 0 => .array .int
  | 1 => .int
  | 2 => .int
  | 3 => .int
  | 4 => .int
  | 5 => .int
  | 6 => .boolean
  | 7 => .int
  | 8 => .boolean
  | 9 => .int
  | 10 => .boolean
  | 11 => .int
  | _ => .boolean
abbrev wsX30 : List Cond := u_ws RX3 TX3 13
theorem nmX3 : ∀ a, a < 13 → ∀ b, b < 13 → a ≠ b → (TX3 a).2.1 ≠ (TX3 b).2.1 := by decide +kernel
theorem tyX3_ok : ∀ k, k < 13 → parseFieldDescriptor (TX3 k).2.2.1 = some (tyX3 k) := by decide +kernel
abbrev cX3_init : ByteArray := prog_5_method_1_code
def yX3_init : MethodName := ⟨RX3, "<init>", "()V"⟩
abbrev cX3_hasAct : ByteArray := prog_5_method_2_code
def yX3_hasAct : MethodName := ⟨RX3, "hasAct", "(I)Z"⟩
abbrev cX3_addAct : ByteArray := prog_5_method_3_code
def yX3_addAct : MethodName := ⟨RX3, "addAct", "(I)Z"⟩
abbrev cX3_actAt : ByteArray := prog_5_method_4_code
def yX3_actAt : MethodName := ⟨RX3, "actAt", "(I)I"⟩
abbrev cX3_bars : ByteArray := prog_5_method_5_code
def yX3_bars : MethodName := ⟨RX3, "bars", "(Z)Z"⟩
abbrev cX3_holds : ByteArray := prog_5_method_6_code
def yX3_holds : MethodName := ⟨RX3, "holds", "(Z)Z"⟩
abbrev cX3_letGoBy : ByteArray := prog_5_method_7_code
def yX3_letGoBy : MethodName := ⟨RX3, "letGoBy", "(IZ)V"⟩
def RX4 : String := "InterlockTables$Survey"
def TX4 : u_T := fun k => match k with
  | 0 => ("InterlockTables$Survey", "table", "LInterlockTables$Table;", true)
  | 1 => ("InterlockTables$Survey", "used", "[I", true)
  | 2 => ("InterlockTables$Survey", "usedCount", "I", false)
  | 3 => ("InterlockTables$Survey", "settings", "[J", true)
  | _ => ("InterlockTables$Survey", "covered", "[J", true)
def tyX4 : Nat → FieldType := fun k => match k with
  | 0 => .object "InterlockTables$Table"
  | 1 => .array .int
  | 2 => .int
  | 3 => .array .long
  | _ => .array .long
abbrev wsX40 : List Cond := u_ws RX4 TX4 5
theorem nmX4 : ∀ a, a < 5 → ∀ b, b < 5 → a ≠ b → (TX4 a).2.1 ≠ (TX4 b).2.1 := by decide +kernel
theorem tyX4_ok : ∀ k, k < 5 → parseFieldDescriptor (TX4 k).2.2.1 = some (tyX4 k) := by decide +kernel
abbrev cX4_init : ByteArray := prog_6_method_1_code
def yX4_init : MethodName := ⟨RX4, "<init>", "(LInterlockTables$Table;)V"⟩
abbrev cX4_markRows : ByteArray := prog_6_method_2_code
def yX4_markRows : MethodName := ⟨RX4, "markRows", "()V"⟩
abbrev cX4_findUsed : ByteArray := prog_6_method_3_code
def yX4_findUsed : MethodName := ⟨RX4, "findUsed", "()V"⟩
abbrev cX4_set : ByteArray := prog_6_method_4_code
def yX4_set : MethodName := ⟨RX4, "set", "(I)V"⟩
abbrev cX4_markBlock : ByteArray := prog_6_method_5_code
def yX4_markBlock : MethodName := ⟨RX4, "markBlock", "()I"⟩
abbrev cX4_cover : ByteArray := prog_6_method_6_code
def yX4_cover : MethodName := ⟨RX4, "cover", "(LInterlockTables$Row;J)Z"⟩
def RX5 : String := "InterlockTables$Table"
def TX5 : u_T := fun k => match k with
  | 0 => ("InterlockTables$Table", "rows", "Ljava/util/ArrayList;", true)
  | 1 => ("InterlockTables$Table", "expressions", "LInterlockTables$Expressions;", true)
  | 2 => ("InterlockTables$Table", "written", "LInterlockTables$Bytes;", false)
  | _ => ("InterlockTables$Table", "surveyed", "Z", false)
def tyX5 : Nat → FieldType := fun k => match k with
  | 0 => .object "java/util/ArrayList"
  | 1 => .object "InterlockTables$Expressions"
  | 2 => .object "InterlockTables$Bytes"
  | _ => .boolean
abbrev wsX50 : List Cond := u_ws RX5 TX5 4
theorem nmX5 : ∀ a, a < 4 → ∀ b, b < 4 → a ≠ b → (TX5 a).2.1 ≠ (TX5 b).2.1 := by decide +kernel
theorem tyX5_ok : ∀ k, k < 4 → parseFieldDescriptor (TX5 k).2.2.1 = some (tyX5 k) := by decide +kernel
abbrev cX5_init : ByteArray := prog_7_method_1_code
def yX5_init : MethodName := ⟨RX5, "<init>", "(I)V"⟩
abbrev cX5_size : ByteArray := prog_7_method_2_code
def yX5_size : MethodName := ⟨RX5, "size", "()I"⟩
abbrev cX5_find : ByteArray := prog_7_method_3_code
def yX5_find : MethodName := ⟨RX5, "find", "(I)LInterlockTables$Row;"⟩
abbrev cX5_isOn : ByteArray := prog_7_method_4_code
def yX5_isOn : MethodName := ⟨RX5, "isOn", "(LInterlockTables$Row;[J)Z"⟩
abbrev cX5_valueOf : ByteArray := prog_7_method_5_code
def yX5_valueOf : MethodName := ⟨RX5, "valueOf", "(LInterlockTables$Row;[J)J"⟩
abbrev cX5_letGoBy : ByteArray := prog_7_method_6_code
def yX5_letGoBy : MethodName := ⟨RX5, "letGoBy", "(I[J)V"⟩
abbrev cX5_firstToBar : ByteArray := prog_7_method_7_code
def yX5_firstToBar : MethodName := ⟨RX5, "firstToBar", "(I[J)I"⟩
abbrev cX5_passedRow : ByteArray := prog_7_method_8_code
def yX5_passedRow : MethodName := ⟨RX5, "passedRow", "(I)I"⟩
abbrev cX5_idleRow : ByteArray := prog_7_method_9_code
def yX5_idleRow : MethodName := ⟨RX5, "idleRow", "(I)I"⟩
abbrev cX5_pick : ByteArray := prog_7_method_10_code
def yX5_pick : MethodName := ⟨RX5, "pick", "(IZ)I"⟩
abbrev cX5_written : ByteArray := prog_7_method_11_code
def yX5_written : MethodName := ⟨RX5, "written", "()LInterlockTables$Bytes;"⟩
def RX6 : String := "InterlockTables$Words"
def TX6 : u_T := fun k => match k with
  | 0 => ("InterlockTables$Words", "kinds", "[B", true)
  | 1 => ("InterlockTables$Words", "values", "[S", true)
  | 2 => ("InterlockTables$Words", "count", "I", false)
  | 3 => ("InterlockTables$Words", "index", "I", false)
  | _ => ("InterlockTables$Words", "value", "I", false)
def tyX6 : Nat → FieldType := fun k => match k with
  | 0 => .array .byte
  | 1 => .array .short
  | 2 => .int
  | 3 => .int
  | _ => .int
abbrev wsX60 : List Cond := u_ws RX6 TX6 5
theorem nmX6 : ∀ a, a < 5 → ∀ b, b < 5 → a ≠ b → (TX6 a).2.1 ≠ (TX6 b).2.1 := by decide +kernel
theorem tyX6_ok : ∀ k, k < 5 → parseFieldDescriptor (TX6 k).2.2.1 = some (tyX6 k) := by decide +kernel
abbrev cX6_init : ByteArray := prog_8_method_1_code
def yX6_init : MethodName := ⟨RX6, "<init>", "(I)V"⟩
abbrev cX6_count : ByteArray := prog_8_method_2_code
def yX6_count : MethodName := ⟨RX6, "count", "()I"⟩
abbrev cX6_index : ByteArray := prog_8_method_3_code
def yX6_index : MethodName := ⟨RX6, "index", "()I"⟩
abbrev cX6_kind : ByteArray := prog_8_method_4_code
def yX6_kind : MethodName := ⟨RX6, "kind", "()I"⟩
abbrev cX6_value : ByteArray := prog_8_method_5_code
def yX6_value : MethodName := ⟨RX6, "value", "()I"⟩
abbrev cX6_advance : ByteArray := prog_8_method_6_code
def yX6_advance : MethodName := ⟨RX6, "advance", "()V"⟩
abbrev cX6_split : ByteArray := prog_8_method_7_code
def yX6_split : MethodName := ⟨RX6, "split", "(LInterlockTables$Bytes;)V"⟩
abbrev cX6_keep : ByteArray := prog_8_method_8_code
def yX6_keep : MethodName := ⟨RX6, "keep", "(I)V"⟩
abbrev cX6_isBlank : ByteArray := prog_8_method_9_code
def yX6_isBlank : MethodName := ⟨RX6, "isBlank", "(I)Z"⟩
abbrev cX6_isInner : ByteArray := prog_8_method_10_code
def yX6_isInner : MethodName := ⟨RX6, "isInner", "(I)Z"⟩
abbrev cX6_kindOf : ByteArray := prog_8_method_11_code
def yX6_kindOf : MethodName := ⟨RX6, "kindOf", "(LInterlockTables$Bytes;II)I"⟩
abbrev cX6_namedKind : ByteArray := prog_8_method_12_code
def yX6_namedKind : MethodName := ⟨RX6, "namedKind", "(LInterlockTables$Bytes;II)I"⟩
abbrev cX6_isWord : ByteArray := prog_8_method_13_code
def yX6_isWord : MethodName := ⟨RX6, "isWord", "(LInterlockTables$Bytes;IILjava/lang/String;)Z"⟩
abbrev cX6_numberedKind : ByteArray := prog_8_method_14_code
def yX6_numberedKind : MethodName := ⟨RX6, "numberedKind", "(LInterlockTables$Bytes;II)I"⟩
abbrev cX6_numberIn : ByteArray := prog_8_method_15_code
def yX6_numberIn : MethodName := ⟨RX6, "numberIn", "(LInterlockTables$Bytes;III)I"⟩
def RX7 : String := "InterlockTables$Writer"
def TX7 : u_T := fun k => match k with
  | 0 => ("InterlockTables$Writer", "expressions", "LInterlockTables$Expressions;", true)
  | 1 => ("InterlockTables$Writer", "out", "LInterlockTables$Bytes;", true)
  | _ => ("InterlockTables$Writer", "blankDue", "Z", false)
def tyX7 : Nat → FieldType := fun k => match k with
  | 0 => .object "InterlockTables$Expressions"
  | 1 => .object "InterlockTables$Bytes"
  | _ => .boolean
abbrev wsX70 : List Cond := u_ws RX7 TX7 3
theorem nmX7 : ∀ a, a < 3 → ∀ b, b < 3 → a ≠ b → (TX7 a).2.1 ≠ (TX7 b).2.1 := by decide +kernel
theorem tyX7_ok : ∀ k, k < 3 → parseFieldDescriptor (TX7 k).2.2.1 = some (tyX7 k) := by decide +kernel
abbrev cX7_init : ByteArray := prog_9_method_1_code
def yX7_init : MethodName := ⟨RX7, "<init>", "(LInterlockTables$Expressions;)V"⟩
abbrev cX7_putRow : ByteArray := prog_9_method_2_code
def yX7_putRow : MethodName := ⟨RX7, "putRow", "(LInterlockTables$Row;)V"⟩
abbrev cX7_putExpression : ByteArray := prog_9_method_3_code
def yX7_putExpression : MethodName := ⟨RX7, "putExpression", "(IZI)V"⟩
abbrev cX7_isJoin : ByteArray := prog_9_method_4_code
def yX7_isJoin : MethodName := ⟨RX7, "isJoin", "(I)Z"⟩
abbrev cX7_isOr : ByteArray := prog_9_method_5_code
def yX7_isOr : MethodName := ⟨RX7, "isOr", "(I)Z"⟩
abbrev cX7_putWord : ByteArray := prog_9_method_6_code
def yX7_putWord : MethodName := ⟨RX7, "putWord", "(Ljava/lang/String;)V"⟩
abbrev cX7_putDigits : ByteArray := prog_9_method_7_code
def yX7_putDigits : MethodName := ⟨RX7, "putDigits", "(I)V"⟩
def RX8 : String := "InterlockTables"
def TX8 : u_T := fun k => match k with
  | 0 => ("InterlockTables", "text", "LInterlockTables$Bytes;", true)
  | 1 => ("InterlockTables", "conditions", "[J", true)
  | _ => ("InterlockTables", "table", "LInterlockTables$Table;", false)
def tyX8 : Nat → FieldType := fun k => match k with
  | 0 => .object "InterlockTables$Bytes"
  | 1 => .array .long
  | _ => .object "InterlockTables$Table"
abbrev wsX80 : List Cond := u_ws RX8 TX8 3
theorem nmX8 : ∀ a, a < 3 → ∀ b, b < 3 → a ≠ b → (TX8 a).2.1 ≠ (TX8 b).2.1 := by decide +kernel
theorem tyX8_ok : ∀ k, k < 3 → parseFieldDescriptor (TX8 k).2.2.1 = some (tyX8 k) := by decide +kernel
abbrev cX8_init : ByteArray := prog_1_method_1_code
def yX8_init : MethodName := ⟨RX8, "<init>", "()V"⟩
abbrev cX8_unit : ByteArray := prog_1_method_2_code
def yX8_unit : MethodName := ⟨RX8, "unit", "(I)Z"⟩
abbrev cX8_read : ByteArray := prog_1_method_3_code
def yX8_read : MethodName := ⟨RX8, "read", "()I"⟩
abbrev cX8_condition : ByteArray := prog_1_method_4_code
def yX8_condition : MethodName := ⟨RX8, "condition", "(IZ)Z"⟩
abbrev cX8_tick : ByteArray := prog_1_method_5_code
def yX8_tick : MethodName := ⟨RX8, "tick", "(I)Z"⟩
abbrev cX8_act : ByteArray := prog_1_method_6_code
def yX8_act : MethodName := ⟨RX8, "act", "(I)I"⟩
abbrev cX8_pass : ByteArray := prog_1_method_7_code
def yX8_pass : MethodName := ⟨RX8, "pass", "(IIII)I"⟩
abbrev cX8_listed : ByteArray := prog_1_method_8_code
def yX8_listed : MethodName := ⟨RX8, "listed", "(I)I"⟩
abbrev cX8_reset : ByteArray := prog_1_method_9_code
def yX8_reset : MethodName := ⟨RX8, "reset", "(I)Z"⟩
abbrev cX8_test : ByteArray := prog_1_method_10_code
def yX8_test : MethodName := ⟨RX8, "test", "(I)I"⟩
abbrev cX8_row : ByteArray := prog_1_method_11_code
def yX8_row : MethodName := ⟨RX8, "row", "(II)I"⟩
abbrev cX8_write : ByteArray := prog_1_method_12_code
def yX8_write : MethodName := ⟨RX8, "write", "(I)I"⟩
abbrev cX8_clear : ByteArray := prog_1_method_13_code
def yX8_clear : MethodName := ⟨RX8, "clear", "()V"⟩
abbrev cX8_isPerson : ByteArray := prog_1_method_14_code
def yX8_isPerson : MethodName := ⟨RX8, "isPerson", "(I)Z"⟩
abbrev cX8_oneIf : ByteArray := prog_1_method_15_code
def yX8_oneIf : MethodName := ⟨RX8, "oneIf", "(Z)I"⟩
def RX9 : String := "InterlockTablesModel"
def TX9 : u_T := fun k => match k with
  | 0 => ("InterlockTablesModel", "text", "[B", true)
  | 1 => ("InterlockTablesModel", "size", "I", false)
  | 2 => ("InterlockTablesModel", "begins", "[I", true)
  | 3 => ("InterlockTablesModel", "ends", "[I", true)
  | 4 => ("InterlockTablesModel", "words", "I", false)
  | 5 => ("InterlockTablesModel", "next", "I", false)
  | 6 => ("InterlockTablesModel", "open", "I", false)
  | 7 => ("InterlockTablesModel", "stood", "I", false)
  | 8 => ("InterlockTablesModel", "whats", "[I", true)
  | 9 => ("InterlockTablesModel", "firsts", "[I", true)
  | 10 => ("InterlockTablesModel", "seconds", "[I", true)
  | 11 => ("InterlockTablesModel", "nodes", "I", false)
  | 12 => ("InterlockTablesModel", "half", "I", false)
  | 13 => ("InterlockTablesModel", "made", "I", false)
  | 14 => ("InterlockTablesModel", "tops", "[I", true)
  | 15 => ("InterlockTablesModel", "actCounts", "[I", true)
  | 16 => ("InterlockTablesModel", "acts", "[I", true)
  | 17 => ("InterlockTablesModel", "numbers", "[I", true)
  | 18 => ("InterlockTablesModel", "latches", "[Z", true)
  | 19 => ("InterlockTablesModel", "conditions", "[I", true)
  | 20 => ("InterlockTablesModel", "rows", "I", false)
  | 21 => ("InterlockTablesModel", "counts", "[I", true)
  | 22 => ("InterlockTablesModel", "latched", "[Z", true)
  | 23 => ("InterlockTablesModel", "passes", "[I", true)
  | 24 => ("InterlockTablesModel", "state", "I", false)
  | 25 => ("InterlockTablesModel", "tables", "[J", true)
  | 26 => ("InterlockTablesModel", "stack", "[J", true)
  | 27 => ("InterlockTablesModel", "covered", "[J", true)
  | 28 => ("InterlockTablesModel", "tested", "Z", false)
  | 29 => ("InterlockTablesModel", "never", "[Z", true)
  | 30 => ("InterlockTablesModel", "written", "[B", false)
  | _ => ("InterlockTablesModel", "length", "I", false)
def tyX9 : Nat → FieldType := fun k => match k with
  | 0 => .array .byte
  | 1 => .int
  | 2 => .array .int
  | 3 => .array .int
  | 4 => .int
  | 5 => .int
  | 6 => .int
  | 7 => .int
  | 8 => .array .int
  | 9 => .array .int
  | 10 => .array .int
  | 11 => .int
  | 12 => .int
  | 13 => .int
  | 14 => .array .int
  | 15 => .array .int
  | 16 => .array .int
  | 17 => .array .int
  | 18 => .array .boolean
  | 19 => .array .int
  | 20 => .int
  | 21 => .array .int
  | 22 => .array .boolean
  | 23 => .array .int
  | 24 => .int
  | 25 => .array .long
  | 26 => .array .long
  | 27 => .array .long
  | 28 => .boolean
  | 29 => .array .boolean
  | 30 => .array .byte
  | _ => .int
abbrev wsX90 : List Cond := u_ws RX9 TX9 32
theorem nmX9 : ∀ a, a < 32 → ∀ b, b < 32 → a ≠ b → (TX9 a).2.1 ≠ (TX9 b).2.1 := by decide +kernel
theorem tyX9_ok : ∀ k, k < 32 → parseFieldDescriptor (TX9 k).2.2.1 = some (tyX9 k) := by decide +kernel
abbrev cX9_init : ByteArray := prog_11_method_1_code
def yX9_init : MethodName := ⟨RX9, "<init>", "()V"⟩
abbrev cX9_unit : ByteArray := prog_11_method_2_code
def yX9_unit : MethodName := ⟨RX9, "unit", "(I)Z"⟩
abbrev cX9_isSign : ByteArray := prog_11_method_3_code
def yX9_isSign : MethodName := ⟨RX9, "isSign", "(I)Z"⟩
abbrev cX9_cut : ByteArray := prog_11_method_4_code
def yX9_cut : MethodName := ⟨RX9, "cut", "()V"⟩
abbrev cX9_at : ByteArray := prog_11_method_5_code
def yX9_at : MethodName := ⟨RX9, "at", "(I)I"⟩
abbrev cX9_wide : ByteArray := prog_11_method_6_code
def yX9_wide : MethodName := ⟨RX9, "wide", "()I"⟩
abbrev cX9_is : ByteArray := prog_11_method_7_code
def yX9_is : MethodName := ⟨RX9, "is", "(IIIIIIII)Z"⟩
abbrev cX9_isOne : ByteArray := prog_11_method_8_code
def yX9_isOne : MethodName := ⟨RX9, "isOne", "(I)Z"⟩
abbrev cX9_number : ByteArray := prog_11_method_9_code
def yX9_number : MethodName := ⟨RX9, "number", "(II)I"⟩
abbrev cX9_act : ByteArray := prog_11_method_10_code
def yX9_act : MethodName := ⟨RX9, "act", "()I"⟩
abbrev cX9_conditionWord : ByteArray := prog_11_method_11_code
def yX9_conditionWord : MethodName := ⟨RX9, "conditionWord", "()I"⟩
abbrev cX9_node : ByteArray := prog_11_method_12_code
def yX9_node : MethodName := ⟨RX9, "node", "(III)I"⟩
abbrev cX9_or : ByteArray := prog_11_method_13_code
def yX9_or : MethodName := ⟨RX9, "or", "()I"⟩
abbrev cX9_and : ByteArray := prog_11_method_14_code
def yX9_and : MethodName := ⟨RX9, "and", "()I"⟩
abbrev cX9_part : ByteArray := prog_11_method_15_code
def yX9_part : MethodName := ⟨RX9, "part", "()I"⟩
abbrev cX9_readRow : ByteArray := prog_11_method_16_code
def yX9_readRow : MethodName := ⟨RX9, "readRow", "()Z"⟩
abbrev cX9_read : ByteArray := prog_11_method_17_code
def yX9_read : MethodName := ⟨RX9, "read", "()I"⟩
abbrev cX9_condition : ByteArray := prog_11_method_18_code
def yX9_condition : MethodName := ⟨RX9, "condition", "(IZ)Z"⟩
abbrev cX9_value : ByteArray := prog_11_method_19_code
def yX9_value : MethodName := ⟨RX9, "value", "(I)Z"⟩
abbrev cX9_isOn : ByteArray := prog_11_method_20_code
def yX9_isOn : MethodName := ⟨RX9, "isOn", "(I)Z"⟩
abbrev cX9_tick : ByteArray := prog_11_method_21_code
def yX9_tick : MethodName := ⟨RX9, "tick", "(I)Z"⟩
abbrev cX9_act_ : ByteArray := prog_11_method_22_code
def yX9_act_ : MethodName := ⟨RX9, "act", "(I)I"⟩
abbrev cX9_hasAct : ByteArray := prog_11_method_23_code
def yX9_hasAct : MethodName := ⟨RX9, "hasAct", "(II)Z"⟩
abbrev cX9_isRow : ByteArray := prog_11_method_24_code
def yX9_isRow : MethodName := ⟨RX9, "isRow", "(I)Z"⟩
abbrev cX9_pass : ByteArray := prog_11_method_25_code
def yX9_pass : MethodName := ⟨RX9, "pass", "(IIII)I"⟩
abbrev cX9_listed : ByteArray := prog_11_method_26_code
def yX9_listed : MethodName := ⟨RX9, "listed", "(I)I"⟩
abbrev cX9_reset : ByteArray := prog_11_method_27_code
def yX9_reset : MethodName := ⟨RX9, "reset", "(I)Z"⟩
abbrev cX9_bits : ByteArray := prog_11_method_28_code
def yX9_bits : MethodName := ⟨RX9, "bits", "(II)J"⟩
abbrev cX9_table : ByteArray := prog_11_method_29_code
def yX9_table : MethodName := ⟨RX9, "table", "(II)V"⟩
abbrev cX9_testAll : ByteArray := prog_11_method_30_code
def yX9_testAll : MethodName := ⟨RX9, "testAll", "()V"⟩
abbrev cX9_test : ByteArray := prog_11_method_31_code
def yX9_test : MethodName := ⟨RX9, "test", "(I)I"⟩
abbrev cX9_row : ByteArray := prog_11_method_32_code
def yX9_row : MethodName := ⟨RX9, "row", "(II)I"⟩
abbrev cX9_say : ByteArray := prog_11_method_33_code
def yX9_say : MethodName := ⟨RX9, "say", "(I)V"⟩
abbrev cX9_say8 : ByteArray := prog_11_method_34_code
def yX9_say8 : MethodName := ⟨RX9, "say8", "(J)V"⟩
abbrev cX9_sayNumber : ByteArray := prog_11_method_35_code
def yX9_sayNumber : MethodName := ⟨RX9, "sayNumber", "(I)V"⟩
abbrev cX9_sayNode : ByteArray := prog_11_method_36_code
def yX9_sayNode : MethodName := ⟨RX9, "sayNode", "(II)V"⟩
abbrev cX9_write : ByteArray := prog_11_method_37_code
def yX9_write : MethodName := ⟨RX9, "write", "(I)I"⟩
abbrev cX9_clear : ByteArray := prog_11_method_38_code
def yX9_clear : MethodName := ⟨RX9, "clear", "()V"⟩
def RJx145de : String := "java/io/Serializable"
def TJx145de : u_T := fun k => match k with
  | _ => ("", "", "", false)
def tyJx145de : Nat → FieldType := fun k => match k with
  | _ => .int
abbrev wsJx145de0 : List Cond := u_ws RJx145de TJx145de 0
theorem nmJx145de : ∀ a, a < 0 → ∀ b, b < 0 → a ≠ b → (TJx145de a).2.1 ≠ (TJx145de b).2.1 := by decide +kernel
theorem tyJx145de_ok : ∀ k, k < 0 → parseFieldDescriptor (TJx145de k).2.2.1 = some (tyJx145de k) := by decide +kernel
def RJx8e188 : String := "java/lang/Cloneable"
def TJx8e188 : u_T := fun k => match k with
  | _ => ("", "", "", false)
def tyJx8e188 : Nat → FieldType := fun k => match k with
  | _ => .int
abbrev wsJx8e1880 : List Cond := u_ws RJx8e188 TJx8e188 0
theorem nmJx8e188 : ∀ a, a < 0 → ∀ b, b < 0 → a ≠ b → (TJx8e188 a).2.1 ≠ (TJx8e188 b).2.1 := by decide +kernel
theorem tyJx8e188_ok : ∀ k, k < 0 → parseFieldDescriptor (TJx8e188 k).2.2.1 = some (tyJx8e188 k) := by decide +kernel
def RJxab1ab : String := "java/lang/Iterable"
def TJxab1ab : u_T := fun k => match k with
  | _ => ("", "", "", false)
def tyJxab1ab : Nat → FieldType := fun k => match k with
  | _ => .int
abbrev wsJxab1ab0 : List Cond := u_ws RJxab1ab TJxab1ab 0
theorem nmJxab1ab : ∀ a, a < 0 → ∀ b, b < 0 → a ≠ b → (TJxab1ab a).2.1 ≠ (TJxab1ab b).2.1 := by decide +kernel
theorem tyJxab1ab_ok : ∀ k, k < 0 → parseFieldDescriptor (TJxab1ab k).2.2.1 = some (tyJxab1ab k) := by decide +kernel
def RJ9 : String := "java/lang/Math"
def TJ9 : u_T := fun k => match k with
  | _ => ("", "", "", false)
def tyJ9 : Nat → FieldType := fun k => match k with
  | _ => .int
abbrev wsJ90 : List Cond := u_ws RJ9 TJ9 0
theorem nmJ9 : ∀ a, a < 0 → ∀ b, b < 0 → a ≠ b → (TJ9 a).2.1 ≠ (TJ9 b).2.1 := by decide +kernel
theorem tyJ9_ok : ∀ k, k < 0 → parseFieldDescriptor (TJ9 k).2.2.1 = some (tyJ9 k) := by decide +kernel
abbrev cJ9_max_7cf53 : ByteArray := prog_15_method_65_code
def yJ9_max_7cf53 : MethodName := ⟨RJ9, "max", "(II)I"⟩
abbrev cJ9_min_7cf53 : ByteArray := prog_15_method_69_code
def yJ9_min_7cf53 : MethodName := ⟨RJ9, "min", "(II)I"⟩
def RJ0 : String := "java/lang/String"
def TJ0 : u_T := fun k => match k with
  | _ => ("", "", "", false)
def tyJ0 : Nat → FieldType := fun k => match k with
  | _ => .int
abbrev wsJ00 : List Cond := u_ws RJ0 TJ0 0
theorem nmJ0 : ∀ a, a < 0 → ∀ b, b < 0 → a ≠ b → (TJ0 a).2.1 ≠ (TJ0 b).2.1 := by decide +kernel
theorem tyJ0_ok : ∀ k, k < 0 → parseFieldDescriptor (TJ0 k).2.2.1 = some (tyJ0 k) := by decide +kernel
abbrev cJ0_length_8abf5 : ByteArray := prog_16_method_54_code
def yJ0_length_8abf5 : MethodName := ⟨RJ0, "length", "()I"⟩
abbrev cJ0_charAt_5068e : ByteArray := prog_16_method_56_code
def yJ0_charAt_5068e : MethodName := ⟨RJ0, "charAt", "(I)C"⟩
abbrev cJ0_coder_7d493 : ByteArray := prog_16_method_152_code
def yJ0_coder_7d493 : MethodName := ⟨RJ0, "coder", "()B"⟩
abbrev cJ0_isLatin1_aae02 : ByteArray := prog_16_method_154_code
def yJ0_isLatin1_aae02 : MethodName := ⟨RJ0, "isLatin1", "()Z"⟩
abbrev cJ0_checkIndex_df160 : ByteArray := prog_16_method_155_code
def yJ0_checkIndex_df160 : MethodName := ⟨RJ0, "checkIndex", "(II)V"⟩
def RJ1 : String := "java/lang/StringLatin1"
def TJ1 : u_T := fun k => match k with
  | _ => ("", "", "", false)
def tyJ1 : Nat → FieldType := fun k => match k with
  | _ => .int
abbrev wsJ10 : List Cond := u_ws RJ1 TJ1 0
theorem nmJ1 : ∀ a, a < 0 → ∀ b, b < 0 → a ≠ b → (TJ1 a).2.1 ≠ (TJ1 b).2.1 := by decide +kernel
theorem tyJ1_ok : ∀ k, k < 0 → parseFieldDescriptor (TJ1 k).2.2.1 = some (tyJ1 k) := by decide +kernel
abbrev cJ1_charAt_3b067 : ByteArray := prog_17_method_2_code
def yJ1_charAt_3b067 : MethodName := ⟨RJ1, "charAt", "([BI)C"⟩
def RJ2 : String := "java/lang/StringUTF16"
def TJ2 : u_T := fun k => match k with
  | _ => ("", "", "", false)
def tyJ2 : Nat → FieldType := fun k => match k with
  | _ => .int
abbrev wsJ20 : List Cond := u_ws RJ2 TJ2 0
theorem nmJ2 : ∀ a, a < 0 → ∀ b, b < 0 → a ≠ b → (TJ2 a).2.1 ≠ (TJ2 b).2.1 := by decide +kernel
theorem tyJ2_ok : ∀ k, k < 0 → parseFieldDescriptor (TJ2 k).2.2.1 = some (tyJ2 k) := by decide +kernel
abbrev cJ2_getChar_3b067 : ByteArray := prog_18_method_5_code
def yJ2_getChar_3b067 : MethodName := ⟨RJ2, "getChar", "([BI)C"⟩
abbrev cJ2_length_9d52b : ByteArray := prog_18_method_6_code
def yJ2_length_9d52b : MethodName := ⟨RJ2, "length", "([B)I"⟩
abbrev cJ2_charAt_3b067 : ByteArray := prog_18_method_83_code
def yJ2_charAt_3b067 : MethodName := ⟨RJ2, "charAt", "([BI)C"⟩
abbrev cJ2_checkIndex_2214a : ByteArray := prog_18_method_91_code
def yJ2_checkIndex_2214a : MethodName := ⟨RJ2, "checkIndex", "(I[B)V"⟩
def RJ10 : String := "java/lang/System"
def TJ10 : u_T := fun k => match k with
  | _ => ("", "", "", false)
def tyJ10 : Nat → FieldType := fun k => match k with
  | _ => .int
abbrev wsJ100 : List Cond := u_ws RJ10 TJ10 0
theorem nmJ10 : ∀ a, a < 0 → ∀ b, b < 0 → a ≠ b → (TJ10 a).2.1 ≠ (TJ10 b).2.1 := by decide +kernel
theorem tyJ10_ok : ∀ k, k < 0 → parseFieldDescriptor (TJ10 k).2.2.1 = some (tyJ10 k) := by decide +kernel
def RJxa1e45 : String := "java/util/AbstractCollection"
def TJxa1e45 : u_T := fun k => match k with
  | _ => ("", "", "", false)
def tyJxa1e45 : Nat → FieldType := fun k => match k with
  | _ => .int
abbrev wsJxa1e450 : List Cond := u_ws RJxa1e45 TJxa1e45 0
theorem nmJxa1e45 : ∀ a, a < 0 → ∀ b, b < 0 → a ≠ b → (TJxa1e45 a).2.1 ≠ (TJxa1e45 b).2.1 := by decide +kernel
theorem tyJxa1e45_ok : ∀ k, k < 0 → parseFieldDescriptor (TJxa1e45 k).2.2.1 = some (tyJxa1e45 k) := by decide +kernel
abbrev cJxa1e45_init_da8c8 : ByteArray := prog_20_method_1_code
def yJxa1e45_init_da8c8 : MethodName := ⟨RJxa1e45, "<init>", "()V"⟩
def RJxc12de : String := "java/util/AbstractList"
def TJxc12de : u_T := fun k => match k with
  | _ => ("", "", "", false)
def tyJxc12de : Nat → FieldType := fun k => match k with
  | _ => .int
abbrev wsJxc12de0 : List Cond := u_ws RJxc12de TJxc12de 0
theorem nmJxc12de : ∀ a, a < 0 → ∀ b, b < 0 → a ≠ b → (TJxc12de a).2.1 ≠ (TJxc12de b).2.1 := by decide +kernel
theorem tyJxc12de_ok : ∀ k, k < 0 → parseFieldDescriptor (TJxc12de k).2.2.1 = some (tyJxc12de k) := by decide +kernel
abbrev cJxc12de_init_da8c8 : ByteArray := prog_21_method_1_code
def yJxc12de_init_da8c8 : MethodName := ⟨RJxc12de, "<init>", "()V"⟩
def RJx4a65c : String := "java/util/ArrayList"
def TJx4a65c : u_T := fun k => match k with
  | 0 => ("java/util/AbstractList", "modCount", "I", false)
  | 1 => ("java/util/ArrayList", "elementData", "[Ljava/lang/Object;", false)
  | _ => ("java/util/ArrayList", "size", "I", false)
def tyJx4a65c : Nat → FieldType := fun k => match k with
  | 0 => .int
  | 1 => .array (.object "java/lang/Object")
  | _ => .int
abbrev wsJx4a65c0 : List Cond := u_ws RJx4a65c TJx4a65c 3
theorem nmJx4a65c : ∀ a, a < 3 → ∀ b, b < 3 → a ≠ b → (TJx4a65c a).2.1 ≠ (TJx4a65c b).2.1 := by decide +kernel
theorem tyJx4a65c_ok : ∀ k, k < 3 → parseFieldDescriptor (TJx4a65c k).2.2.1 = some (tyJx4a65c k) := by decide +kernel
abbrev cJx4a65c_init_da8c8 : ByteArray := prog_22_method_2_code
def yJx4a65c_init_da8c8 : MethodName := ⟨RJx4a65c, "<init>", "()V"⟩
abbrev cJx4a65c_grow_92f84 : ByteArray := prog_22_method_6_code
def yJx4a65c_grow_92f84 : MethodName := ⟨RJx4a65c, "grow", "(I)[Ljava/lang/Object;"⟩
abbrev cJx4a65c_grow_d5877 : ByteArray := prog_22_method_7_code
def yJx4a65c_grow_d5877 : MethodName := ⟨RJx4a65c, "grow", "()[Ljava/lang/Object;"⟩
abbrev cJx4a65c_size_8abf5 : ByteArray := prog_22_method_8_code
def yJx4a65c_size_8abf5 : MethodName := ⟨RJx4a65c, "size", "()I"⟩
abbrev cJx4a65c_elementData_915e3 : ByteArray := prog_22_method_18_code
def yJx4a65c_elementData_915e3 : MethodName := ⟨RJx4a65c, "elementData", "(I)Ljava/lang/Object;"⟩
abbrev cJx4a65c_get_915e3 : ByteArray := prog_22_method_20_code
def yJx4a65c_get_915e3 : MethodName := ⟨RJx4a65c, "get", "(I)Ljava/lang/Object;"⟩
abbrev cJx4a65c_add_72be8 : ByteArray := prog_22_method_24_code
def yJx4a65c_add_72be8 : MethodName := ⟨RJx4a65c, "add", "(Ljava/lang/Object;[Ljava/lang/Object;I)V"⟩
abbrev cJx4a65c_add_9ea2d : ByteArray := prog_22_method_25_code
def yJx4a65c_add_9ea2d : MethodName := ⟨RJx4a65c, "add", "(Ljava/lang/Object;)Z"⟩
def RJ7 : String := "java/util/Arrays"
def TJ7 : u_T := fun k => match k with
  | _ => ("", "", "", false)
def tyJ7 : Nat → FieldType := fun k => match k with
  | _ => .int
abbrev wsJ70 : List Cond := u_ws RJ7 TJ7 0
theorem nmJ7 : ∀ a, a < 0 → ∀ b, b < 0 → a ≠ b → (TJ7 a).2.1 ≠ (TJ7 b).2.1 := by decide +kernel
theorem tyJ7_ok : ∀ k, k < 0 → parseFieldDescriptor (TJ7 k).2.2.1 = some (tyJ7 k) := by decide +kernel
abbrev cJ7_fill_d0a16 : ByteArray := prog_23_method_101_code
def yJ7_fill_d0a16 : MethodName := ⟨RJ7, "fill", "([JJ)V"⟩
abbrev cJ7_copyOf_1904c : ByteArray := prog_23_method_119_code
def yJ7_copyOf_1904c : MethodName := ⟨RJ7, "copyOf", "([Ljava/lang/Object;I)[Ljava/lang/Object;"⟩
abbrev cJ7_copyOf_6403c : ByteArray := prog_23_method_120_code
def yJ7_copyOf_6403c : MethodName := ⟨RJ7, "copyOf", "([Ljava/lang/Object;ILjava/lang/Class;)[Ljava/lang/Object;"⟩
abbrev cJ7_copyOf_9075b : ByteArray := prog_23_method_121_code
def yJ7_copyOf_9075b : MethodName := ⟨RJ7, "copyOf", "([BI)[B"⟩
def RJx5ef63 : String := "java/util/Collection"
def TJx5ef63 : u_T := fun k => match k with
  | _ => ("", "", "", false)
def tyJx5ef63 : Nat → FieldType := fun k => match k with
  | _ => .int
abbrev wsJx5ef630 : List Cond := u_ws RJx5ef63 TJx5ef63 0
theorem nmJx5ef63 : ∀ a, a < 0 → ∀ b, b < 0 → a ≠ b → (TJx5ef63 a).2.1 ≠ (TJx5ef63 b).2.1 := by decide +kernel
theorem tyJx5ef63_ok : ∀ k, k < 0 → parseFieldDescriptor (TJx5ef63 k).2.2.1 = some (tyJx5ef63 k) := by decide +kernel
def RJxbd725 : String := "java/util/List"
def TJxbd725 : u_T := fun k => match k with
  | _ => ("", "", "", false)
def tyJxbd725 : Nat → FieldType := fun k => match k with
  | _ => .int
abbrev wsJxbd7250 : List Cond := u_ws RJxbd725 TJxbd725 0
theorem nmJxbd725 : ∀ a, a < 0 → ∀ b, b < 0 → a ≠ b → (TJxbd725 a).2.1 ≠ (TJxbd725 b).2.1 := by decide +kernel
theorem tyJxbd725_ok : ∀ k, k < 0 → parseFieldDescriptor (TJxbd725 k).2.2.1 = some (tyJxbd725 k) := by decide +kernel
def RJ15 : String := "java/util/Objects"
def TJ15 : u_T := fun k => match k with
  | _ => ("", "", "", false)
def tyJ15 : Nat → FieldType := fun k => match k with
  | _ => .int
abbrev wsJ150 : List Cond := u_ws RJ15 TJ15 0
theorem nmJ15 : ∀ a, a < 0 → ∀ b, b < 0 → a ≠ b → (TJ15 a).2.1 ≠ (TJ15 b).2.1 := by decide +kernel
theorem tyJ15_ok : ∀ k, k < 0 → parseFieldDescriptor (TJ15 k).2.2.1 = some (tyJ15 k) := by decide +kernel
abbrev cJ15_checkIndex_7cf53 : ByteArray := prog_26_method_17_code
def yJ15_checkIndex_7cf53 : MethodName := ⟨RJ15, "checkIndex", "(II)I"⟩
def RJxf0a74 : String := "java/util/RandomAccess"
def TJxf0a74 : u_T := fun k => match k with
  | _ => ("", "", "", false)
def tyJxf0a74 : Nat → FieldType := fun k => match k with
  | _ => .int
abbrev wsJxf0a740 : List Cond := u_ws RJxf0a74 TJxf0a74 0
theorem nmJxf0a74 : ∀ a, a < 0 → ∀ b, b < 0 → a ≠ b → (TJxf0a74 a).2.1 ≠ (TJxf0a74 b).2.1 := by decide +kernel
theorem tyJxf0a74_ok : ∀ k, k < 0 → parseFieldDescriptor (TJxf0a74 k).2.2.1 = some (tyJxf0a74 k) := by decide +kernel
def RJxa66e6 : String := "java/util/SequencedCollection"
def TJxa66e6 : u_T := fun k => match k with
  | _ => ("", "", "", false)
def tyJxa66e6 : Nat → FieldType := fun k => match k with
  | _ => .int
abbrev wsJxa66e60 : List Cond := u_ws RJxa66e6 TJxa66e6 0
theorem nmJxa66e6 : ∀ a, a < 0 → ∀ b, b < 0 → a ≠ b → (TJxa66e6 a).2.1 ≠ (TJxa66e6 b).2.1 := by decide +kernel
theorem tyJxa66e6_ok : ∀ k, k < 0 → parseFieldDescriptor (TJxa66e6 k).2.2.1 = some (tyJxa66e6 k) := by decide +kernel
def RJ8 : String := "jdk/internal/util/ArraysSupport"
def TJ8 : u_T := fun k => match k with
  | _ => ("", "", "", false)
def tyJ8 : Nat → FieldType := fun k => match k with
  | _ => .int
abbrev wsJ80 : List Cond := u_ws RJ8 TJ8 0
theorem nmJ8 : ∀ a, a < 0 → ∀ b, b < 0 → a ≠ b → (TJ8 a).2.1 ≠ (TJ8 b).2.1 := by decide +kernel
theorem tyJ8_ok : ∀ k, k < 0 → parseFieldDescriptor (TJ8 k).2.2.1 = some (tyJ8 k) := by decide +kernel
abbrev cJ8_newLength_cabcc : ByteArray := prog_29_method_27_code
def yJ8_newLength_cabcc : MethodName := ⟨RJ8, "newLength", "(III)I"⟩
abbrev cJ8_hugeLength_7cf53 : ByteArray := prog_29_method_28_code
def yJ8_hugeLength_7cf53 : MethodName := ⟨RJ8, "hugeLength", "(II)I"⟩
def RJ3 : String := "jdk/internal/util/Preconditions"
def TJ3 : u_T := fun k => match k with
  | _ => ("", "", "", false)
def tyJ3 : Nat → FieldType := fun k => match k with
  | _ => .int
abbrev wsJ30 : List Cond := u_ws RJ3 TJ3 0
theorem nmJ3 : ∀ a, a < 0 → ∀ b, b < 0 → a ≠ b → (TJ3 a).2.1 ≠ (TJ3 b).2.1 := by decide +kernel
theorem tyJ3_ok : ∀ k, k < 0 → parseFieldDescriptor (TJ3 k).2.2.1 = some (tyJ3 k) := by decide +kernel
abbrev cJ3_checkIndex_8e157 : ByteArray := prog_30_method_11_code
def yJ3_checkIndex_8e157 : MethodName := ⟨RJ3, "checkIndex", "(IILjava/util/function/BiFunction;)I"⟩
def RL : String := "InterlockTablesLaw"
abbrev cL_law : ByteArray := code
def yL_law : MethodName := ⟨RL, "law", "([I)Z"⟩
def wsX0_init : List Cond := .code yX0_init cX0_init 2 none :: ([.methodLink RX0 3 objectInit, .instanceMethod objectInit, .code objectInit ⟨#[0xb1]⟩ 1 none, .fieldLink RX0 9 "InterlockTables$Bytes" "limit" "I", .arrayClass .byte, .fieldLink RX0 15 "InterlockTables$Bytes" "room" "[B", .fieldLink RX0 19 "InterlockTables$Bytes" "length" "I"] ++ wsX00)
def wsJ7_copyOf_9075b : List Cond := .code yJ7_copyOf_9075b cJ7_copyOf_9075b 3 (some (.array .byte)) :: ([.methodLink RJ7 310 ⟨"[B", "clone", "()Ljava/lang/Object;"⟩, .sameMethod "[B" "java/lang/Object" "clone" "()Ljava/lang/Object;", .native ⟨"java/lang/Object", "clone", "()Ljava/lang/Object;"⟩, .instanceMethod ⟨"java/lang/Object", "clone", "()Ljava/lang/Object;"⟩, .selects "[B" ⟨"[B", "clone", "()Ljava/lang/Object;"⟩ ⟨"java/lang/Object", "clone", "()Ljava/lang/Object;"⟩, .classLink RJ7 311 "[B", .arrayClass .byte, .methodLink RJ7 304 Lib.Math.min.name, .static Lib.Math.min.name, .initialized "java/lang/Math", .code Lib.Math.min.name Lib.Math.min.code 2 (some .int), .methodLink RJ7 150 arraycopyName, .native arraycopyName, .static arraycopyName, .initialized "java/lang/System"])
def wsX0_add : List Cond := .code yX0_add cX0_add 2 (some .boolean) :: ([.fieldLink RX0 19 "InterlockTables$Bytes" "length" "I", .fieldLink RX0 9 "InterlockTables$Bytes" "limit" "I", .fieldLink RX0 15 "InterlockTables$Bytes" "room" "[B", .methodLink RX0 22 yJ7_copyOf_9075b, .static yJ7_copyOf_9075b, .initialized RJ7, .code yJ7_copyOf_9075b cJ7_copyOf_9075b 3 (some (.array .byte)), .methodLink RJ7 310 ⟨"[B", "clone", "()Ljava/lang/Object;"⟩, .sameMethod "[B" "java/lang/Object" "clone" "()Ljava/lang/Object;", .native ⟨"java/lang/Object", "clone", "()Ljava/lang/Object;"⟩, .instanceMethod ⟨"java/lang/Object", "clone", "()Ljava/lang/Object;"⟩, .selects "[B" ⟨"[B", "clone", "()Ljava/lang/Object;"⟩ ⟨"java/lang/Object", "clone", "()Ljava/lang/Object;"⟩, .classLink RJ7 311 "[B", .arrayClass .byte, .methodLink RJ7 304 Lib.Math.min.name, .static Lib.Math.min.name, .initialized "java/lang/Math", .code Lib.Math.min.name Lib.Math.min.code 2 (some .int), .methodLink RJ7 150 arraycopyName, .native arraycopyName, .static arraycopyName, .initialized "java/lang/System"] ++ wsX00)
def wsX0_at : List Cond := .code yX0_at cX0_at 2 (some .int) :: ([.fieldLink RX0 19 "InterlockTables$Bytes" "length" "I", .fieldLink RX0 15 "InterlockTables$Bytes" "room" "[B"] ++ wsX00)
def wsX0_length : List Cond := .code yX0_length cX0_length 1 (some .int) :: ([.fieldLink RX0 19 "InterlockTables$Bytes" "length" "I"] ++ wsX00)
def wsX0_empty : List Cond := .code yX0_empty cX0_empty 1 none :: ([.fieldLink RX0 19 "InterlockTables$Bytes" "length" "I"] ++ wsX00)
def wsX1_init : List Cond := .code yX1_init cX1_init 2 none :: ([.methodLink RX1 3 objectInit, .instanceMethod objectInit, .code objectInit ⟨#[0xb1]⟩ 1 none, .arrayClass .long, .fieldLink RX1 9 "InterlockTables$Expressions" "stack" "[J", .methodLink RX1 15 Lib.Math.max.name, .static Lib.Math.max.name, .initialized "java/lang/Math", .code Lib.Math.max.name Lib.Math.max.code 2 (some .int), .arrayClass .byte, .fieldLink RX1 21 "InterlockTables$Expressions" "code" "[B"] ++ wsX10)
def wsX1_size : List Cond := .code yX1_size cX1_size 1 (some .int) :: ([.fieldLink RX1 25 "InterlockTables$Expressions" "size" "I"] ++ wsX10)
def wsX1_at : List Cond := .code yX1_at cX1_at 2 (some .int) :: ([.fieldLink RX1 25 "InterlockTables$Expressions" "size" "I", .fieldLink RX1 21 "InterlockTables$Expressions" "code" "[B"] ++ wsX10)
def wsX1_add : List Cond := .code yX1_add cX1_add 2 none :: ([.fieldLink RX1 25 "InterlockTables$Expressions" "size" "I", .fieldLink RX1 21 "InterlockTables$Expressions" "code" "[B"] ++ wsX10)
def wsX1_isCondition : List Cond := .code yX1_isCondition cX1_isCondition 1 (some .boolean) :: ([])
def wsX1_leftOf : List Cond := .code yX1_leftOf cX1_leftOf 4 (some .int) :: ([.methodLink RX1 29 yX1_at, .instanceMethod yX1_at, .selects RX1 yX1_at yX1_at, .initialized RX1, .code yX1_at cX1_at 2 (some .int), .fieldLink RX1 25 "InterlockTables$Expressions" "size" "I", .fieldLink RX1 21 "InterlockTables$Expressions" "code" "[B", .methodLink RX1 33 yX1_isCondition, .static yX1_isCondition, .code yX1_isCondition cX1_isCondition 1 (some .boolean)] ++ wsX10)
def wsX1_join : List Cond := .code yX1_join cX1_join 5 (some .long) :: ([])
def wsX1_valueOf : List Cond := .code yX1_valueOf cX1_valueOf 7 (some .long) :: ([.fieldLink RX1 9 "InterlockTables$Expressions" "stack" "[J", .constantLong RX1 37 (-1), .methodLink RX1 29 yX1_at, .instanceMethod yX1_at, .selects RX1 yX1_at yX1_at, .initialized RX1, .code yX1_at cX1_at 2 (some .int), .fieldLink RX1 25 "InterlockTables$Expressions" "size" "I", .fieldLink RX1 21 "InterlockTables$Expressions" "code" "[B", .methodLink RX1 33 yX1_isCondition, .static yX1_isCondition, .code yX1_isCondition cX1_isCondition 1 (some .boolean), .methodLink RX1 39 yX1_join, .static yX1_join, .code yX1_join cX1_join 5 (some .long)] ++ wsX10)
def wsX2_init : List Cond := .code yX2_init cX2_init 3 none :: ([.methodLink RX2 3 objectInit, .instanceMethod objectInit, .code objectInit ⟨#[0xb1]⟩ 1 none, .fieldLink RX2 9 "InterlockTables$Reader" "words" "LInterlockTables$Words;", .fieldLink RX2 15 "InterlockTables$Reader" "table" "LInterlockTables$Table;", .fieldLink RX2 25 "InterlockTables$Reader" "expressions" "LInterlockTables$Expressions;"] ++ wsX20 ++ wsX50)
def wsX6_kind : List Cond := .code yX6_kind cX6_kind 1 (some .int) :: ([.fieldLink RX6 29 "InterlockTables$Words" "index" "I", .fieldLink RX6 25 "InterlockTables$Words" "count" "I", .fieldLink RX6 15 "InterlockTables$Words" "kinds" "[B"] ++ wsX60)
def wsX3_init : List Cond := .code yX3_init cX3_init 1 none :: ([.methodLink RX3 3 objectInit, .instanceMethod objectInit, .code objectInit ⟨#[0xb1]⟩ 1 none, .arrayClass .int, .fieldLink RX3 9 "InterlockTables$Row" "acts" "[I"] ++ wsX30)
def wsX6_advance : List Cond := .code yX6_advance cX6_advance 1 none :: ([.fieldLink RX6 29 "InterlockTables$Words" "index" "I", .fieldLink RX6 25 "InterlockTables$Words" "count" "I"] ++ wsX60)
def wsX2_take : List Cond := .code yX2_take cX2_take 2 (some .boolean) :: ([.fieldLink RX2 9 "InterlockTables$Reader" "words" "LInterlockTables$Words;", .methodLink RX2 26 yX6_kind, .instanceMethod yX6_kind, .selects RX6 yX6_kind yX6_kind, .initialized RX6, .code yX6_kind cX6_kind 1 (some .int), .fieldLink RX6 29 "InterlockTables$Words" "index" "I", .fieldLink RX6 25 "InterlockTables$Words" "count" "I", .fieldLink RX6 15 "InterlockTables$Words" "kinds" "[B", .methodLink RX2 80 yX6_advance, .instanceMethod yX6_advance, .selects RX6 yX6_advance yX6_advance, .code yX6_advance cX6_advance 1 none] ++ wsX20 ++ wsX60)
def wsX6_value : List Cond := .code yX6_value cX6_value 1 (some .int) :: ([.fieldLink RX6 29 "InterlockTables$Words" "index" "I", .fieldLink RX6 25 "InterlockTables$Words" "count" "I", .fieldLink RX6 21 "InterlockTables$Words" "values" "[S"] ++ wsX60)
def wsX3_hasAct : List Cond := .code yX3_hasAct cX3_hasAct 2 (some .boolean) :: ([.fieldLink RX3 15 "InterlockTables$Row" "actBits" "I"] ++ wsX30)
def wsX3_addAct : List Cond := .code yX3_addAct cX3_addAct 2 (some .boolean) :: ([.fieldLink RX3 19 "InterlockTables$Row" "actCount" "I", .fieldLink RX3 9 "InterlockTables$Row" "acts" "[I", .fieldLink RX3 15 "InterlockTables$Row" "actBits" "I", .methodLink RX3 22 yX3_hasAct, .instanceMethod yX3_hasAct, .selects RX3 yX3_hasAct yX3_hasAct, .initialized RX3, .code yX3_hasAct cX3_hasAct 2 (some .boolean)] ++ wsX30)
def wsX2_takeActs_r1 : List Cond := [Cond.fieldLink RX2 9 "InterlockTables$Reader" "words" "LInterlockTables$Words;", Cond.methodLink RX2 26 yX6_kind, Cond.instanceMethod yX6_kind, Cond.selects RX6 yX6_kind yX6_kind, Cond.initialized RX6, Cond.code yX6_kind cX6_kind 1 (some .int), Cond.fieldLink RX6 29 "InterlockTables$Words" "index" "I", Cond.fieldLink RX6 25 "InterlockTables$Words" "count" "I", Cond.fieldLink RX6 15 "InterlockTables$Words" "kinds" "[B", Cond.methodLink RX2 83 yX6_value, Cond.instanceMethod yX6_value, Cond.selects RX6 yX6_value yX6_value, Cond.code yX6_value cX6_value 1 (some .int), Cond.fieldLink RX6 21 "InterlockTables$Words" "values" "[S", Cond.methodLink RX2 86 yX3_addAct, Cond.instanceMethod yX3_addAct, Cond.selects RX3 yX3_addAct yX3_addAct, Cond.initialized RX3, Cond.code yX3_addAct cX3_addAct 2 (some .boolean), Cond.fieldLink RX3 19 "InterlockTables$Row" "actCount" "I", Cond.fieldLink RX3 9 "InterlockTables$Row" "acts" "[I", Cond.fieldLink RX3 15 "InterlockTables$Row" "actBits" "I", Cond.methodLink RX3 22 yX3_hasAct, Cond.instanceMethod yX3_hasAct]
def wsX2_takeActs_r2 : List Cond := [Cond.selects RX3 yX3_hasAct yX3_hasAct, Cond.code yX3_hasAct cX3_hasAct 2 (some .boolean), Cond.methodLink RX2 80 yX6_advance, Cond.instanceMethod yX6_advance, Cond.selects RX6 yX6_advance yX6_advance, Cond.code yX6_advance cX6_advance 1 none]
def wsX2_takeActs : List Cond := .code yX2_takeActs cX2_takeActs 3 (some .boolean) :: ((wsX2_takeActs_r1 ++ wsX2_takeActs_r2) ++ wsX20 ++ wsX30 ++ wsX60)
def wsX2_takeCondition_r1 : List Cond := [Cond.fieldLink RX2 9 "InterlockTables$Reader" "words" "LInterlockTables$Words;", Cond.fieldLink RX2 25 "InterlockTables$Reader" "expressions" "LInterlockTables$Expressions;", Cond.methodLink RX2 26 yX6_kind, Cond.instanceMethod yX6_kind, Cond.selects RX6 yX6_kind yX6_kind, Cond.initialized RX6, Cond.code yX6_kind cX6_kind 1 (some .int), Cond.fieldLink RX6 29 "InterlockTables$Words" "index" "I", Cond.fieldLink RX6 25 "InterlockTables$Words" "count" "I", Cond.fieldLink RX6 15 "InterlockTables$Words" "kinds" "[B", Cond.methodLink RX2 83 yX6_value, Cond.instanceMethod yX6_value, Cond.selects RX6 yX6_value yX6_value, Cond.code yX6_value cX6_value 1 (some .int), Cond.fieldLink RX6 21 "InterlockTables$Words" "values" "[S", Cond.methodLink RX2 101 yX1_add, Cond.instanceMethod yX1_add, Cond.selects RX1 yX1_add yX1_add, Cond.initialized RX1, Cond.code yX1_add cX1_add 2 none, Cond.fieldLink RX1 25 "InterlockTables$Expressions" "size" "I", Cond.fieldLink RX1 21 "InterlockTables$Expressions" "code" "[B", Cond.methodLink RX2 80 yX6_advance, Cond.instanceMethod yX6_advance]
def wsX2_takeCondition_r2 : List Cond := [Cond.selects RX6 yX6_advance yX6_advance, Cond.code yX6_advance cX6_advance 1 none]
def wsX2_takeCondition : List Cond := .code yX2_takeCondition cX2_takeCondition 2 (some .boolean) :: ((wsX2_takeCondition_r1 ++ wsX2_takeCondition_r2) ++ wsX20 ++ wsX30 ++ wsX60 ++ wsX10)
def wsX2_takeAnd_r1 : List Cond := [Cond.fieldLink RX2 9 "InterlockTables$Reader" "words" "LInterlockTables$Words;", Cond.fieldLink RX2 25 "InterlockTables$Reader" "expressions" "LInterlockTables$Expressions;", Cond.methodLink RX2 104 yX2_takePart, Cond.instanceMethod yX2_takePart, Cond.selects RX2 yX2_takePart yX2_takePart, Cond.initialized RX2, Cond.methodLink RX2 26 yX6_kind, Cond.instanceMethod yX6_kind, Cond.selects RX6 yX6_kind yX6_kind, Cond.initialized RX6, Cond.code yX6_kind cX6_kind 1 (some .int), Cond.fieldLink RX6 29 "InterlockTables$Words" "index" "I", Cond.fieldLink RX6 25 "InterlockTables$Words" "count" "I", Cond.fieldLink RX6 15 "InterlockTables$Words" "kinds" "[B", Cond.methodLink RX2 80 yX6_advance, Cond.instanceMethod yX6_advance, Cond.selects RX6 yX6_advance yX6_advance, Cond.code yX6_advance cX6_advance 1 none, Cond.methodLink RX2 101 yX1_add, Cond.instanceMethod yX1_add, Cond.selects RX1 yX1_add yX1_add, Cond.initialized RX1, Cond.code yX1_add cX1_add 2 none, Cond.fieldLink RX1 25 "InterlockTables$Expressions" "size" "I"]
def wsX2_takeAnd_r2 : List Cond := [Cond.fieldLink RX1 21 "InterlockTables$Expressions" "code" "[B", Cond.code yX2_takeBrackets cX2_takeBrackets 3 (some .boolean), Cond.methodLink RX2 56 yX2_takeOr, Cond.instanceMethod yX2_takeOr, Cond.selects RX2 yX2_takeOr yX2_takeOr, Cond.code yX2_takeOr cX2_takeOr 4 (some .boolean), Cond.methodLink RX2 98 yX2_takeAnd, Cond.instanceMethod yX2_takeAnd, Cond.selects RX2 yX2_takeAnd yX2_takeAnd, Cond.code yX2_takePart cX2_takePart 6 (some .boolean), Cond.methodLink RX2 107 yX2_takeBrackets, Cond.instanceMethod yX2_takeBrackets, Cond.selects RX2 yX2_takeBrackets yX2_takeBrackets, Cond.methodLink RX2 110 yX2_takeCondition, Cond.instanceMethod yX2_takeCondition, Cond.selects RX2 yX2_takeCondition yX2_takeCondition, Cond.code yX2_takeCondition cX2_takeCondition 2 (some .boolean), Cond.methodLink RX2 83 yX6_value, Cond.instanceMethod yX6_value, Cond.selects RX6 yX6_value yX6_value, Cond.code yX6_value cX6_value 1 (some .int), Cond.fieldLink RX6 21 "InterlockTables$Words" "values" "[S"]
def wsX2_takeAnd : List Cond := .code yX2_takeAnd cX2_takeAnd 4 (some .boolean) :: ((wsX2_takeAnd_r1 ++ wsX2_takeAnd_r2) ++ wsX20 ++ wsX60 ++ wsX10 ++ wsX30)
def wsX2_takeBrackets_r1 : List Cond := [Cond.fieldLink RX2 9 "InterlockTables$Reader" "words" "LInterlockTables$Words;", Cond.methodLink RX2 80 yX6_advance, Cond.instanceMethod yX6_advance, Cond.selects RX6 yX6_advance yX6_advance, Cond.initialized RX6, Cond.code yX6_advance cX6_advance 1 none, Cond.fieldLink RX6 29 "InterlockTables$Words" "index" "I", Cond.fieldLink RX6 25 "InterlockTables$Words" "count" "I", Cond.methodLink RX2 56 yX2_takeOr, Cond.instanceMethod yX2_takeOr, Cond.selects RX2 yX2_takeOr yX2_takeOr, Cond.initialized RX2, Cond.methodLink RX2 26 yX6_kind, Cond.instanceMethod yX6_kind, Cond.selects RX6 yX6_kind yX6_kind, Cond.code yX6_kind cX6_kind 1 (some .int), Cond.fieldLink RX6 15 "InterlockTables$Words" "kinds" "[B", Cond.code yX2_takeAnd cX2_takeAnd 4 (some .boolean), Cond.fieldLink RX2 25 "InterlockTables$Reader" "expressions" "LInterlockTables$Expressions;", Cond.methodLink RX2 104 yX2_takePart, Cond.instanceMethod yX2_takePart, Cond.selects RX2 yX2_takePart yX2_takePart, Cond.methodLink RX2 101 yX1_add, Cond.instanceMethod yX1_add]
def wsX2_takeBrackets_r2 : List Cond := [Cond.selects RX1 yX1_add yX1_add, Cond.initialized RX1, Cond.code yX1_add cX1_add 2 none, Cond.fieldLink RX1 25 "InterlockTables$Expressions" "size" "I", Cond.fieldLink RX1 21 "InterlockTables$Expressions" "code" "[B", Cond.code yX2_takeOr cX2_takeOr 4 (some .boolean), Cond.methodLink RX2 98 yX2_takeAnd, Cond.instanceMethod yX2_takeAnd, Cond.selects RX2 yX2_takeAnd yX2_takeAnd, Cond.code yX2_takePart cX2_takePart 6 (some .boolean), Cond.methodLink RX2 107 yX2_takeBrackets, Cond.instanceMethod yX2_takeBrackets, Cond.selects RX2 yX2_takeBrackets yX2_takeBrackets, Cond.methodLink RX2 110 yX2_takeCondition, Cond.instanceMethod yX2_takeCondition, Cond.selects RX2 yX2_takeCondition yX2_takeCondition, Cond.code yX2_takeCondition cX2_takeCondition 2 (some .boolean), Cond.methodLink RX2 83 yX6_value, Cond.instanceMethod yX6_value, Cond.selects RX6 yX6_value yX6_value, Cond.code yX6_value cX6_value 1 (some .int), Cond.fieldLink RX6 21 "InterlockTables$Words" "values" "[S"]
def wsX2_takeBrackets : List Cond := .code yX2_takeBrackets cX2_takeBrackets 3 (some .boolean) :: ((wsX2_takeBrackets_r1 ++ wsX2_takeBrackets_r2) ++ wsX20 ++ wsX60 ++ wsX10 ++ wsX30)
def wsX2_takeOr_r1 : List Cond := [Cond.fieldLink RX2 9 "InterlockTables$Reader" "words" "LInterlockTables$Words;", Cond.fieldLink RX2 25 "InterlockTables$Reader" "expressions" "LInterlockTables$Expressions;", Cond.methodLink RX2 98 yX2_takeAnd, Cond.instanceMethod yX2_takeAnd, Cond.selects RX2 yX2_takeAnd yX2_takeAnd, Cond.initialized RX2, Cond.methodLink RX2 26 yX6_kind, Cond.instanceMethod yX6_kind, Cond.selects RX6 yX6_kind yX6_kind, Cond.initialized RX6, Cond.code yX6_kind cX6_kind 1 (some .int), Cond.fieldLink RX6 29 "InterlockTables$Words" "index" "I", Cond.fieldLink RX6 25 "InterlockTables$Words" "count" "I", Cond.fieldLink RX6 15 "InterlockTables$Words" "kinds" "[B", Cond.methodLink RX2 80 yX6_advance, Cond.instanceMethod yX6_advance, Cond.selects RX6 yX6_advance yX6_advance, Cond.code yX6_advance cX6_advance 1 none, Cond.methodLink RX2 101 yX1_add, Cond.instanceMethod yX1_add, Cond.selects RX1 yX1_add yX1_add, Cond.initialized RX1, Cond.code yX1_add cX1_add 2 none, Cond.fieldLink RX1 25 "InterlockTables$Expressions" "size" "I"]
def wsX2_takeOr_r2 : List Cond := [Cond.fieldLink RX1 21 "InterlockTables$Expressions" "code" "[B", Cond.code yX2_takeAnd cX2_takeAnd 4 (some .boolean), Cond.methodLink RX2 104 yX2_takePart, Cond.instanceMethod yX2_takePart, Cond.selects RX2 yX2_takePart yX2_takePart, Cond.code yX2_takeBrackets cX2_takeBrackets 3 (some .boolean), Cond.methodLink RX2 56 yX2_takeOr, Cond.instanceMethod yX2_takeOr, Cond.selects RX2 yX2_takeOr yX2_takeOr, Cond.code yX2_takePart cX2_takePart 6 (some .boolean), Cond.methodLink RX2 107 yX2_takeBrackets, Cond.instanceMethod yX2_takeBrackets, Cond.selects RX2 yX2_takeBrackets yX2_takeBrackets, Cond.methodLink RX2 110 yX2_takeCondition, Cond.instanceMethod yX2_takeCondition, Cond.selects RX2 yX2_takeCondition yX2_takeCondition, Cond.code yX2_takeCondition cX2_takeCondition 2 (some .boolean), Cond.methodLink RX2 83 yX6_value, Cond.instanceMethod yX6_value, Cond.selects RX6 yX6_value yX6_value, Cond.code yX6_value cX6_value 1 (some .int), Cond.fieldLink RX6 21 "InterlockTables$Words" "values" "[S"]
def wsX2_takeOr : List Cond := .code yX2_takeOr cX2_takeOr 4 (some .boolean) :: ((wsX2_takeOr_r1 ++ wsX2_takeOr_r2) ++ wsX20 ++ wsX60 ++ wsX10 ++ wsX30)
def wsX2_takePart_r1 : List Cond := [Cond.fieldLink RX2 9 "InterlockTables$Reader" "words" "LInterlockTables$Words;", Cond.fieldLink RX2 25 "InterlockTables$Reader" "expressions" "LInterlockTables$Expressions;", Cond.methodLink RX2 26 yX6_kind, Cond.instanceMethod yX6_kind, Cond.selects RX6 yX6_kind yX6_kind, Cond.initialized RX6, Cond.code yX6_kind cX6_kind 1 (some .int), Cond.fieldLink RX6 29 "InterlockTables$Words" "index" "I", Cond.fieldLink RX6 25 "InterlockTables$Words" "count" "I", Cond.fieldLink RX6 15 "InterlockTables$Words" "kinds" "[B", Cond.methodLink RX2 80 yX6_advance, Cond.instanceMethod yX6_advance, Cond.selects RX6 yX6_advance yX6_advance, Cond.code yX6_advance cX6_advance 1 none, Cond.methodLink RX2 107 yX2_takeBrackets, Cond.instanceMethod yX2_takeBrackets, Cond.selects RX2 yX2_takeBrackets yX2_takeBrackets, Cond.initialized RX2, Cond.methodLink RX2 110 yX2_takeCondition, Cond.instanceMethod yX2_takeCondition, Cond.selects RX2 yX2_takeCondition yX2_takeCondition, Cond.code yX2_takeCondition cX2_takeCondition 2 (some .boolean), Cond.methodLink RX2 83 yX6_value, Cond.instanceMethod yX6_value]
def wsX2_takePart_r2 : List Cond := [Cond.selects RX6 yX6_value yX6_value, Cond.code yX6_value cX6_value 1 (some .int), Cond.fieldLink RX6 21 "InterlockTables$Words" "values" "[S", Cond.methodLink RX2 101 yX1_add, Cond.instanceMethod yX1_add, Cond.selects RX1 yX1_add yX1_add, Cond.initialized RX1, Cond.code yX1_add cX1_add 2 none, Cond.fieldLink RX1 25 "InterlockTables$Expressions" "size" "I", Cond.fieldLink RX1 21 "InterlockTables$Expressions" "code" "[B", Cond.code yX2_takeAnd cX2_takeAnd 4 (some .boolean), Cond.methodLink RX2 104 yX2_takePart, Cond.instanceMethod yX2_takePart, Cond.selects RX2 yX2_takePart yX2_takePart, Cond.code yX2_takeBrackets cX2_takeBrackets 3 (some .boolean), Cond.methodLink RX2 56 yX2_takeOr, Cond.instanceMethod yX2_takeOr, Cond.selects RX2 yX2_takeOr yX2_takeOr, Cond.code yX2_takeOr cX2_takeOr 4 (some .boolean), Cond.methodLink RX2 98 yX2_takeAnd, Cond.instanceMethod yX2_takeAnd, Cond.selects RX2 yX2_takeAnd yX2_takeAnd]
def wsX2_takePart : List Cond := .code yX2_takePart cX2_takePart 6 (some .boolean) :: ((wsX2_takePart_r1 ++ wsX2_takePart_r2) ++ wsX20 ++ wsX60 ++ wsX10 ++ wsX30)
def wsX2_takeFor : List Cond := .code yX2_takeFor cX2_takeFor 2 (some .boolean) :: ([.fieldLink RX2 9 "InterlockTables$Reader" "words" "LInterlockTables$Words;", .methodLink RX2 39 yX2_take, .instanceMethod yX2_take, .selects RX2 yX2_take yX2_take, .initialized RX2, .code yX2_take cX2_take 2 (some .boolean), .methodLink RX2 26 yX6_kind, .instanceMethod yX6_kind, .selects RX6 yX6_kind yX6_kind, .initialized RX6, .code yX6_kind cX6_kind 1 (some .int), .fieldLink RX6 29 "InterlockTables$Words" "index" "I", .fieldLink RX6 25 "InterlockTables$Words" "count" "I", .fieldLink RX6 15 "InterlockTables$Words" "kinds" "[B", .methodLink RX2 80 yX6_advance, .instanceMethod yX6_advance, .selects RX6 yX6_advance yX6_advance, .code yX6_advance cX6_advance 1 none, .methodLink RX2 83 yX6_value, .instanceMethod yX6_value, .selects RX6 yX6_value yX6_value, .code yX6_value cX6_value 1 (some .int), .fieldLink RX6 21 "InterlockTables$Words" "values" "[S"] ++ wsX30 ++ wsX20 ++ wsX60)
def wsJ8_hugeLength_7cf53 : List Cond := .code yJ8_hugeLength_7cf53 cJ8_hugeLength_7cf53 3 (some .int) :: ([.constant RJ8 200 (2147483639)])
def wsJ8_newLength_cabcc : List Cond := .code yJ8_newLength_cabcc cJ8_newLength_cabcc 4 (some .int) :: ([.methodLink RJ8 194 Lib.Math.max.name, .static Lib.Math.max.name, .initialized "java/lang/Math", .code Lib.Math.max.name Lib.Math.max.code 2 (some .int), .constant RJ8 200 (2147483639), .methodLink RJ8 201 yJ8_hugeLength_7cf53, .static yJ8_hugeLength_7cf53, .initialized RJ8, .code yJ8_hugeLength_7cf53 cJ8_hugeLength_7cf53 3 (some .int)])
def wsJ7_copyOf_6403c : List Cond := .code yJ7_copyOf_6403c cJ7_copyOf_6403c 4 (some (.array (.object "java/lang/Object"))) :: ([.classLink RJ7 110 "[Ljava/lang/Object;", .classLink RJ7 2 "java/lang/Object", .methodLink RJ7 304 Lib.Math.min.name, .static Lib.Math.min.name, .initialized "java/lang/Math", .code Lib.Math.min.name Lib.Math.min.code 2 (some .int), .methodLink RJ7 150 arraycopyName, .native arraycopyName, .static arraycopyName, .initialized "java/lang/System"])
def wsJ7_copyOf_1904c : List Cond := .code yJ7_copyOf_1904c cJ7_copyOf_1904c 2 (some (.array (.object "java/lang/Object"))) :: ([.methodLink RJ7 86 ⟨"java/lang/Object", "getClass", "()Ljava/lang/Class;"⟩, .selects "[Ljava/lang/Object;" ⟨"java/lang/Object", "getClass", "()Ljava/lang/Class;"⟩ ⟨"java/lang/Object", "getClass", "()Ljava/lang/Class;"⟩, .instanceMethod ⟨"java/lang/Object", "getClass", "()Ljava/lang/Class;"⟩, .native ⟨"java/lang/Object", "getClass", "()Ljava/lang/Class;"⟩, .methodLink RJ7 300 yJ7_copyOf_6403c, .static yJ7_copyOf_6403c, .initialized RJ7, .code yJ7_copyOf_6403c cJ7_copyOf_6403c 4 (some (.array (.object "java/lang/Object"))), .classLink RJ7 110 "[Ljava/lang/Object;", .classLink RJ7 2 "java/lang/Object", .methodLink RJ7 304 Lib.Math.min.name, .static Lib.Math.min.name, .initialized "java/lang/Math", .code Lib.Math.min.name Lib.Math.min.code 2 (some .int), .methodLink RJ7 150 arraycopyName, .native arraycopyName, .static arraycopyName, .initialized "java/lang/System"])
def wsJx4a65c_grow_92f84_r1 : List Cond := [Cond.fieldLink RJx4a65c 9 "java/util/ArrayList" "elementData" "[Ljava/lang/Object;", Cond.fieldLink RJx4a65c 39 "java/util/ArrayList" "DEFAULTCAPACITY_EMPTY_ELEMENTDATA" "[Ljava/lang/Object;", Cond.methodLink RJx4a65c 79 Lib.Math.max.name, Cond.static Lib.Math.max.name, Cond.initialized "java/lang/Math", Cond.code Lib.Math.max.name Lib.Math.max.code 2 (some .int), Cond.classLink RJx4a65c 7 "java/lang/Object", Cond.methodLink RJx4a65c 73 yJ8_newLength_cabcc, Cond.static yJ8_newLength_cabcc, Cond.initialized RJ8, Cond.code yJ8_newLength_cabcc cJ8_newLength_cabcc 4 (some .int), Cond.methodLink RJ8 194 Lib.Math.max.name, Cond.constant RJ8 200 (2147483639), Cond.methodLink RJ8 201 yJ8_hugeLength_7cf53, Cond.static yJ8_hugeLength_7cf53, Cond.code yJ8_hugeLength_7cf53 cJ8_hugeLength_7cf53 3 (some .int), Cond.methodLink RJx4a65c 66 yJ7_copyOf_1904c, Cond.static yJ7_copyOf_1904c, Cond.initialized RJ7, Cond.code yJ7_copyOf_1904c cJ7_copyOf_1904c 2 (some (.array (.object "java/lang/Object"))), Cond.methodLink RJ7 86 ⟨"java/lang/Object", "getClass", "()Ljava/lang/Class;"⟩, Cond.selects "[Ljava/lang/Object;" ⟨"java/lang/Object", "getClass", "()Ljava/lang/Class;"⟩ ⟨"java/lang/Object", "getClass", "()Ljava/lang/Class;"⟩, Cond.instanceMethod ⟨"java/lang/Object", "getClass", "()Ljava/lang/Class;"⟩, Cond.native ⟨"java/lang/Object", "getClass", "()Ljava/lang/Class;"⟩]
def wsJx4a65c_grow_92f84_r2 : List Cond := [Cond.methodLink RJ7 300 yJ7_copyOf_6403c, Cond.static yJ7_copyOf_6403c, Cond.code yJ7_copyOf_6403c cJ7_copyOf_6403c 4 (some (.array (.object "java/lang/Object"))), Cond.classLink RJ7 110 "[Ljava/lang/Object;", Cond.classLink RJ7 2 "java/lang/Object", Cond.methodLink RJ7 304 Lib.Math.min.name, Cond.static Lib.Math.min.name, Cond.code Lib.Math.min.name Lib.Math.min.code 2 (some .int), Cond.methodLink RJ7 150 arraycopyName, Cond.native arraycopyName, Cond.static arraycopyName, Cond.initialized "java/lang/System"]
def wsJx4a65c_grow_92f84 : List Cond := .code yJx4a65c_grow_92f84 cJx4a65c_grow_92f84 4 (some (.array (.object "java/lang/Object"))) :: ((wsJx4a65c_grow_92f84_r1 ++ wsJx4a65c_grow_92f84_r2) ++ wsJx4a65c0)
def wsJx4a65c_grow_d5877_r1 : List Cond := [Cond.fieldLink RJx4a65c 48 "java/util/ArrayList" "size" "I", Cond.methodLink RJx4a65c 69 yJx4a65c_grow_92f84, Cond.instanceMethod yJx4a65c_grow_92f84, Cond.selects RJx4a65c yJx4a65c_grow_92f84 yJx4a65c_grow_92f84, Cond.initialized RJx4a65c, Cond.code yJx4a65c_grow_92f84 cJx4a65c_grow_92f84 4 (some (.array (.object "java/lang/Object"))), Cond.fieldLink RJx4a65c 9 "java/util/ArrayList" "elementData" "[Ljava/lang/Object;", Cond.fieldLink RJx4a65c 39 "java/util/ArrayList" "DEFAULTCAPACITY_EMPTY_ELEMENTDATA" "[Ljava/lang/Object;", Cond.methodLink RJx4a65c 79 Lib.Math.max.name, Cond.static Lib.Math.max.name, Cond.initialized "java/lang/Math", Cond.code Lib.Math.max.name Lib.Math.max.code 2 (some .int), Cond.classLink RJx4a65c 7 "java/lang/Object", Cond.methodLink RJx4a65c 73 yJ8_newLength_cabcc, Cond.static yJ8_newLength_cabcc, Cond.initialized RJ8, Cond.code yJ8_newLength_cabcc cJ8_newLength_cabcc 4 (some .int), Cond.methodLink RJ8 194 Lib.Math.max.name, Cond.constant RJ8 200 (2147483639), Cond.methodLink RJ8 201 yJ8_hugeLength_7cf53, Cond.static yJ8_hugeLength_7cf53, Cond.code yJ8_hugeLength_7cf53 cJ8_hugeLength_7cf53 3 (some .int), Cond.methodLink RJx4a65c 66 yJ7_copyOf_1904c, Cond.static yJ7_copyOf_1904c]
def wsJx4a65c_grow_d5877_r2 : List Cond := [Cond.initialized RJ7, Cond.code yJ7_copyOf_1904c cJ7_copyOf_1904c 2 (some (.array (.object "java/lang/Object"))), Cond.methodLink RJ7 86 ⟨"java/lang/Object", "getClass", "()Ljava/lang/Class;"⟩, Cond.selects "[Ljava/lang/Object;" ⟨"java/lang/Object", "getClass", "()Ljava/lang/Class;"⟩ ⟨"java/lang/Object", "getClass", "()Ljava/lang/Class;"⟩, Cond.instanceMethod ⟨"java/lang/Object", "getClass", "()Ljava/lang/Class;"⟩, Cond.native ⟨"java/lang/Object", "getClass", "()Ljava/lang/Class;"⟩, Cond.methodLink RJ7 300 yJ7_copyOf_6403c, Cond.static yJ7_copyOf_6403c, Cond.code yJ7_copyOf_6403c cJ7_copyOf_6403c 4 (some (.array (.object "java/lang/Object"))), Cond.classLink RJ7 110 "[Ljava/lang/Object;", Cond.classLink RJ7 2 "java/lang/Object", Cond.methodLink RJ7 304 Lib.Math.min.name, Cond.static Lib.Math.min.name, Cond.code Lib.Math.min.name Lib.Math.min.code 2 (some .int), Cond.methodLink RJ7 150 arraycopyName, Cond.native arraycopyName, Cond.static arraycopyName, Cond.initialized "java/lang/System"]
def wsJx4a65c_grow_d5877 : List Cond := .code yJx4a65c_grow_d5877 cJx4a65c_grow_d5877 1 (some (.array (.object "java/lang/Object"))) :: ((wsJx4a65c_grow_d5877_r1 ++ wsJx4a65c_grow_d5877_r2) ++ wsJx4a65c0)
def wsJx4a65c_add_72be8_r1 : List Cond := [Cond.fieldLink RJx4a65c 48 "java/util/ArrayList" "size" "I", Cond.methodLink RJx4a65c 129 yJx4a65c_grow_d5877, Cond.instanceMethod yJx4a65c_grow_d5877, Cond.selects RJx4a65c yJx4a65c_grow_d5877 yJx4a65c_grow_d5877, Cond.initialized RJx4a65c, Cond.code yJx4a65c_grow_d5877 cJx4a65c_grow_d5877 1 (some (.array (.object "java/lang/Object"))), Cond.methodLink RJx4a65c 69 yJx4a65c_grow_92f84, Cond.instanceMethod yJx4a65c_grow_92f84, Cond.selects RJx4a65c yJx4a65c_grow_92f84 yJx4a65c_grow_92f84, Cond.code yJx4a65c_grow_92f84 cJx4a65c_grow_92f84 4 (some (.array (.object "java/lang/Object"))), Cond.fieldLink RJx4a65c 9 "java/util/ArrayList" "elementData" "[Ljava/lang/Object;", Cond.fieldLink RJx4a65c 39 "java/util/ArrayList" "DEFAULTCAPACITY_EMPTY_ELEMENTDATA" "[Ljava/lang/Object;", Cond.methodLink RJx4a65c 79 Lib.Math.max.name, Cond.static Lib.Math.max.name, Cond.initialized "java/lang/Math", Cond.code Lib.Math.max.name Lib.Math.max.code 2 (some .int), Cond.classLink RJx4a65c 7 "java/lang/Object", Cond.methodLink RJx4a65c 73 yJ8_newLength_cabcc, Cond.static yJ8_newLength_cabcc, Cond.initialized RJ8, Cond.code yJ8_newLength_cabcc cJ8_newLength_cabcc 4 (some .int), Cond.methodLink RJ8 194 Lib.Math.max.name, Cond.constant RJ8 200 (2147483639), Cond.methodLink RJ8 201 yJ8_hugeLength_7cf53]
def wsJx4a65c_add_72be8_r2 : List Cond := [Cond.static yJ8_hugeLength_7cf53, Cond.code yJ8_hugeLength_7cf53 cJ8_hugeLength_7cf53 3 (some .int), Cond.methodLink RJx4a65c 66 yJ7_copyOf_1904c, Cond.static yJ7_copyOf_1904c, Cond.initialized RJ7, Cond.code yJ7_copyOf_1904c cJ7_copyOf_1904c 2 (some (.array (.object "java/lang/Object"))), Cond.methodLink RJ7 86 ⟨"java/lang/Object", "getClass", "()Ljava/lang/Class;"⟩, Cond.selects "[Ljava/lang/Object;" ⟨"java/lang/Object", "getClass", "()Ljava/lang/Class;"⟩ ⟨"java/lang/Object", "getClass", "()Ljava/lang/Class;"⟩, Cond.instanceMethod ⟨"java/lang/Object", "getClass", "()Ljava/lang/Class;"⟩, Cond.native ⟨"java/lang/Object", "getClass", "()Ljava/lang/Class;"⟩, Cond.methodLink RJ7 300 yJ7_copyOf_6403c, Cond.static yJ7_copyOf_6403c, Cond.code yJ7_copyOf_6403c cJ7_copyOf_6403c 4 (some (.array (.object "java/lang/Object"))), Cond.classLink RJ7 110 "[Ljava/lang/Object;", Cond.classLink RJ7 2 "java/lang/Object", Cond.methodLink RJ7 304 Lib.Math.min.name, Cond.static Lib.Math.min.name, Cond.code Lib.Math.min.name Lib.Math.min.code 2 (some .int), Cond.methodLink RJ7 150 arraycopyName, Cond.native arraycopyName, Cond.static arraycopyName, Cond.initialized "java/lang/System"]
def wsJx4a65c_add_72be8 : List Cond := .code yJx4a65c_add_72be8 cJx4a65c_add_72be8 4 none :: ((wsJx4a65c_add_72be8_r1 ++ wsJx4a65c_add_72be8_r2) ++ wsJx4a65c0)
def wsJx4a65c_add_9ea2d_r1 : List Cond := [Cond.fieldLink RJx4a65c 63 "java/util/ArrayList" "modCount" "I", Cond.sameField "java/util/ArrayList" "java/util/AbstractList" "modCount" "I", Cond.fieldLink RJx4a65c 9 "java/util/ArrayList" "elementData" "[Ljava/lang/Object;", Cond.fieldLink RJx4a65c 48 "java/util/ArrayList" "size" "I", Cond.methodLink RJx4a65c 131 yJx4a65c_add_72be8, Cond.instanceMethod yJx4a65c_add_72be8, Cond.selects RJx4a65c yJx4a65c_add_72be8 yJx4a65c_add_72be8, Cond.initialized RJx4a65c, Cond.code yJx4a65c_add_72be8 cJx4a65c_add_72be8 4 none, Cond.methodLink RJx4a65c 129 yJx4a65c_grow_d5877, Cond.instanceMethod yJx4a65c_grow_d5877, Cond.selects RJx4a65c yJx4a65c_grow_d5877 yJx4a65c_grow_d5877, Cond.code yJx4a65c_grow_d5877 cJx4a65c_grow_d5877 1 (some (.array (.object "java/lang/Object"))), Cond.methodLink RJx4a65c 69 yJx4a65c_grow_92f84, Cond.instanceMethod yJx4a65c_grow_92f84, Cond.selects RJx4a65c yJx4a65c_grow_92f84 yJx4a65c_grow_92f84, Cond.code yJx4a65c_grow_92f84 cJx4a65c_grow_92f84 4 (some (.array (.object "java/lang/Object"))), Cond.fieldLink RJx4a65c 39 "java/util/ArrayList" "DEFAULTCAPACITY_EMPTY_ELEMENTDATA" "[Ljava/lang/Object;", Cond.methodLink RJx4a65c 79 Lib.Math.max.name, Cond.static Lib.Math.max.name, Cond.initialized "java/lang/Math", Cond.code Lib.Math.max.name Lib.Math.max.code 2 (some .int), Cond.classLink RJx4a65c 7 "java/lang/Object", Cond.methodLink RJx4a65c 73 yJ8_newLength_cabcc]
def wsJx4a65c_add_9ea2d_r2 : List Cond := [Cond.static yJ8_newLength_cabcc, Cond.initialized RJ8, Cond.code yJ8_newLength_cabcc cJ8_newLength_cabcc 4 (some .int), Cond.methodLink RJ8 194 Lib.Math.max.name, Cond.constant RJ8 200 (2147483639), Cond.methodLink RJ8 201 yJ8_hugeLength_7cf53, Cond.static yJ8_hugeLength_7cf53, Cond.code yJ8_hugeLength_7cf53 cJ8_hugeLength_7cf53 3 (some .int), Cond.methodLink RJx4a65c 66 yJ7_copyOf_1904c, Cond.static yJ7_copyOf_1904c, Cond.initialized RJ7, Cond.code yJ7_copyOf_1904c cJ7_copyOf_1904c 2 (some (.array (.object "java/lang/Object"))), Cond.methodLink RJ7 86 ⟨"java/lang/Object", "getClass", "()Ljava/lang/Class;"⟩, Cond.selects "[Ljava/lang/Object;" ⟨"java/lang/Object", "getClass", "()Ljava/lang/Class;"⟩ ⟨"java/lang/Object", "getClass", "()Ljava/lang/Class;"⟩, Cond.instanceMethod ⟨"java/lang/Object", "getClass", "()Ljava/lang/Class;"⟩, Cond.native ⟨"java/lang/Object", "getClass", "()Ljava/lang/Class;"⟩, Cond.methodLink RJ7 300 yJ7_copyOf_6403c, Cond.static yJ7_copyOf_6403c, Cond.code yJ7_copyOf_6403c cJ7_copyOf_6403c 4 (some (.array (.object "java/lang/Object"))), Cond.classLink RJ7 110 "[Ljava/lang/Object;", Cond.classLink RJ7 2 "java/lang/Object", Cond.methodLink RJ7 304 Lib.Math.min.name, Cond.static Lib.Math.min.name, Cond.code Lib.Math.min.name Lib.Math.min.code 2 (some .int)]
def wsJx4a65c_add_9ea2d_r3 : List Cond := [Cond.methodLink RJ7 150 arraycopyName, Cond.native arraycopyName, Cond.static arraycopyName, Cond.initialized "java/lang/System"]
def wsJx4a65c_add_9ea2d : List Cond := .code yJx4a65c_add_9ea2d cJx4a65c_add_9ea2d 2 (some .boolean) :: ((wsJx4a65c_add_9ea2d_r1 ++ (wsJx4a65c_add_9ea2d_r2 ++ wsJx4a65c_add_9ea2d_r3)) ++ wsJx4a65c0)
def wsX2_takeRow_r1 : List Cond := [Cond.classLink RX2 36 RX3, Cond.instantiable RX3 13, Cond.initialized RX3, Cond.fieldLink RX2 25 "InterlockTables$Reader" "expressions" "LInterlockTables$Expressions;", Cond.fieldLink RX2 15 "InterlockTables$Reader" "table" "LInterlockTables$Table;", Cond.instanceMethod yX3_init, Cond.code yX3_init cX3_init 1 none, Cond.methodLink RX3 3 objectInit, Cond.instanceMethod objectInit, Cond.code objectInit ⟨#[0xb1]⟩ 1 none, Cond.arrayClass .int, Cond.fieldLink RX3 9 "InterlockTables$Row" "acts" "[I", Cond.methodLink RX2 39 yX2_take, Cond.instanceMethod yX2_take, Cond.selects RX2 yX2_take yX2_take, Cond.initialized RX2, Cond.code yX2_take cX2_take 2 (some .boolean), Cond.fieldLink RX2 9 "InterlockTables$Reader" "words" "LInterlockTables$Words;", Cond.methodLink RX2 26 yX6_kind, Cond.instanceMethod yX6_kind, Cond.selects RX6 yX6_kind yX6_kind, Cond.initialized RX6, Cond.code yX6_kind cX6_kind 1 (some .int), Cond.fieldLink RX6 29 "InterlockTables$Words" "index" "I"]
def wsX2_takeRow_r2 : List Cond := [Cond.fieldLink RX6 25 "InterlockTables$Words" "count" "I", Cond.fieldLink RX6 15 "InterlockTables$Words" "kinds" "[B", Cond.methodLink RX2 80 yX6_advance, Cond.instanceMethod yX6_advance, Cond.selects RX6 yX6_advance yX6_advance, Cond.code yX6_advance cX6_advance 1 none, Cond.methodLink RX2 43 yX2_takeActs, Cond.instanceMethod yX2_takeActs, Cond.selects RX2 yX2_takeActs yX2_takeActs, Cond.code yX2_takeActs cX2_takeActs 3 (some .boolean), Cond.methodLink RX2 83 yX6_value, Cond.instanceMethod yX6_value, Cond.selects RX6 yX6_value yX6_value, Cond.code yX6_value cX6_value 1 (some .int), Cond.fieldLink RX6 21 "InterlockTables$Words" "values" "[S", Cond.methodLink RX2 86 yX3_addAct, Cond.instanceMethod yX3_addAct, Cond.selects RX3 yX3_addAct yX3_addAct, Cond.code yX3_addAct cX3_addAct 2 (some .boolean), Cond.fieldLink RX3 19 "InterlockTables$Row" "actCount" "I", Cond.fieldLink RX3 15 "InterlockTables$Row" "actBits" "I", Cond.methodLink RX3 22 yX3_hasAct, Cond.instanceMethod yX3_hasAct, Cond.selects RX3 yX3_hasAct yX3_hasAct]
def wsX2_takeRow_r3 : List Cond := [Cond.code yX3_hasAct cX3_hasAct 2 (some .boolean), Cond.methodLink RX2 47 yX1_size, Cond.instanceMethod yX1_size, Cond.selects RX1 yX1_size yX1_size, Cond.initialized RX1, Cond.code yX1_size cX1_size 1 (some .int), Cond.fieldLink RX1 25 "InterlockTables$Expressions" "size" "I", Cond.methodLink RX2 56 yX2_takeOr, Cond.instanceMethod yX2_takeOr, Cond.selects RX2 yX2_takeOr yX2_takeOr, Cond.code yX2_takeOr cX2_takeOr 4 (some .boolean), Cond.methodLink RX2 98 yX2_takeAnd, Cond.instanceMethod yX2_takeAnd, Cond.selects RX2 yX2_takeAnd yX2_takeAnd, Cond.methodLink RX2 101 yX1_add, Cond.instanceMethod yX1_add, Cond.selects RX1 yX1_add yX1_add, Cond.code yX1_add cX1_add 2 none, Cond.fieldLink RX1 21 "InterlockTables$Expressions" "code" "[B", Cond.code yX2_takeAnd cX2_takeAnd 4 (some .boolean), Cond.methodLink RX2 104 yX2_takePart, Cond.instanceMethod yX2_takePart, Cond.selects RX2 yX2_takePart yX2_takePart, Cond.code yX2_takeBrackets cX2_takeBrackets 3 (some .boolean)]
def wsX2_takeRow_r4 : List Cond := [Cond.code yX2_takePart cX2_takePart 6 (some .boolean), Cond.methodLink RX2 107 yX2_takeBrackets, Cond.instanceMethod yX2_takeBrackets, Cond.selects RX2 yX2_takeBrackets yX2_takeBrackets, Cond.methodLink RX2 110 yX2_takeCondition, Cond.instanceMethod yX2_takeCondition, Cond.selects RX2 yX2_takeCondition yX2_takeCondition, Cond.code yX2_takeCondition cX2_takeCondition 2 (some .boolean), Cond.methodLink RX2 63 yX2_takeFor, Cond.instanceMethod yX2_takeFor, Cond.selects RX2 yX2_takeFor yX2_takeFor, Cond.code yX2_takeFor cX2_takeFor 2 (some .boolean), Cond.methodLink RX2 74 yJx4a65c_add_9ea2d, Cond.instanceMethod yJx4a65c_add_9ea2d, Cond.selects RJx4a65c yJx4a65c_add_9ea2d yJx4a65c_add_9ea2d, Cond.initialized RJx4a65c, Cond.code yJx4a65c_add_9ea2d cJx4a65c_add_9ea2d 2 (some .boolean), Cond.fieldLink RJx4a65c 63 "java/util/ArrayList" "modCount" "I", Cond.sameField "java/util/ArrayList" "java/util/AbstractList" "modCount" "I", Cond.fieldLink RJx4a65c 9 "java/util/ArrayList" "elementData" "[Ljava/lang/Object;", Cond.fieldLink RJx4a65c 48 "java/util/ArrayList" "size" "I", Cond.methodLink RJx4a65c 131 yJx4a65c_add_72be8, Cond.instanceMethod yJx4a65c_add_72be8, Cond.selects RJx4a65c yJx4a65c_add_72be8 yJx4a65c_add_72be8]
def wsX2_takeRow_r5 : List Cond := [Cond.code yJx4a65c_add_72be8 cJx4a65c_add_72be8 4 none, Cond.methodLink RJx4a65c 129 yJx4a65c_grow_d5877, Cond.instanceMethod yJx4a65c_grow_d5877, Cond.selects RJx4a65c yJx4a65c_grow_d5877 yJx4a65c_grow_d5877, Cond.code yJx4a65c_grow_d5877 cJx4a65c_grow_d5877 1 (some (.array (.object "java/lang/Object"))), Cond.methodLink RJx4a65c 69 yJx4a65c_grow_92f84, Cond.instanceMethod yJx4a65c_grow_92f84, Cond.selects RJx4a65c yJx4a65c_grow_92f84 yJx4a65c_grow_92f84, Cond.code yJx4a65c_grow_92f84 cJx4a65c_grow_92f84 4 (some (.array (.object "java/lang/Object"))), Cond.fieldLink RJx4a65c 39 "java/util/ArrayList" "DEFAULTCAPACITY_EMPTY_ELEMENTDATA" "[Ljava/lang/Object;", Cond.methodLink RJx4a65c 79 Lib.Math.max.name, Cond.static Lib.Math.max.name, Cond.initialized "java/lang/Math", Cond.code Lib.Math.max.name Lib.Math.max.code 2 (some .int), Cond.classLink RJx4a65c 7 "java/lang/Object", Cond.methodLink RJx4a65c 73 yJ8_newLength_cabcc, Cond.static yJ8_newLength_cabcc, Cond.initialized RJ8, Cond.code yJ8_newLength_cabcc cJ8_newLength_cabcc 4 (some .int), Cond.methodLink RJ8 194 Lib.Math.max.name, Cond.constant RJ8 200 (2147483639), Cond.methodLink RJ8 201 yJ8_hugeLength_7cf53, Cond.static yJ8_hugeLength_7cf53, Cond.code yJ8_hugeLength_7cf53 cJ8_hugeLength_7cf53 3 (some .int)]
def wsX2_takeRow_r6 : List Cond := [Cond.methodLink RJx4a65c 66 yJ7_copyOf_1904c, Cond.static yJ7_copyOf_1904c, Cond.initialized RJ7, Cond.code yJ7_copyOf_1904c cJ7_copyOf_1904c 2 (some (.array (.object "java/lang/Object"))), Cond.methodLink RJ7 86 ⟨"java/lang/Object", "getClass", "()Ljava/lang/Class;"⟩, Cond.selects "[Ljava/lang/Object;" ⟨"java/lang/Object", "getClass", "()Ljava/lang/Class;"⟩ ⟨"java/lang/Object", "getClass", "()Ljava/lang/Class;"⟩, Cond.instanceMethod ⟨"java/lang/Object", "getClass", "()Ljava/lang/Class;"⟩, Cond.native ⟨"java/lang/Object", "getClass", "()Ljava/lang/Class;"⟩, Cond.methodLink RJ7 300 yJ7_copyOf_6403c, Cond.static yJ7_copyOf_6403c, Cond.code yJ7_copyOf_6403c cJ7_copyOf_6403c 4 (some (.array (.object "java/lang/Object"))), Cond.classLink RJ7 110 "[Ljava/lang/Object;", Cond.classLink RJ7 2 "java/lang/Object", Cond.methodLink RJ7 304 Lib.Math.min.name, Cond.static Lib.Math.min.name, Cond.code Lib.Math.min.name Lib.Math.min.code 2 (some .int), Cond.methodLink RJ7 150 arraycopyName, Cond.native arraycopyName, Cond.static arraycopyName, Cond.initialized "java/lang/System"]
def wsX2_takeRow : List Cond := .code yX2_takeRow cX2_takeRow 2 (some .boolean) :: ((wsX2_takeRow_r1 ++ (wsX2_takeRow_r2 ++ (wsX2_takeRow_r3 ++ (wsX2_takeRow_r4 ++ (wsX2_takeRow_r5 ++ wsX2_takeRow_r6))))) ++ wsX30 ++ wsX20 ++ wsX50 ++ wsX60 ++ wsX10 ++ wsJx4a65c0)
def wsX2_takeText_r1 : List Cond := [Cond.fieldLink RX2 9 "InterlockTables$Reader" "words" "LInterlockTables$Words;", Cond.methodLink RX2 26 yX6_kind, Cond.instanceMethod yX6_kind, Cond.selects RX6 yX6_kind yX6_kind, Cond.initialized RX6, Cond.code yX6_kind cX6_kind 1 (some .int), Cond.fieldLink RX6 29 "InterlockTables$Words" "index" "I", Cond.fieldLink RX6 25 "InterlockTables$Words" "count" "I", Cond.fieldLink RX6 15 "InterlockTables$Words" "kinds" "[B", Cond.methodLink RX2 32 yX2_takeRow, Cond.instanceMethod yX2_takeRow, Cond.selects RX2 yX2_takeRow yX2_takeRow, Cond.initialized RX2, Cond.code yX2_takeRow cX2_takeRow 2 (some .boolean), Cond.classLink RX2 36 RX3, Cond.instantiable RX3 13, Cond.initialized RX3, Cond.fieldLink RX2 25 "InterlockTables$Reader" "expressions" "LInterlockTables$Expressions;", Cond.fieldLink RX2 15 "InterlockTables$Reader" "table" "LInterlockTables$Table;", Cond.instanceMethod yX3_init, Cond.code yX3_init cX3_init 1 none, Cond.methodLink RX3 3 objectInit, Cond.instanceMethod objectInit, Cond.code objectInit ⟨#[0xb1]⟩ 1 none]
def wsX2_takeText_r2 : List Cond := [Cond.arrayClass .int, Cond.fieldLink RX3 9 "InterlockTables$Row" "acts" "[I", Cond.methodLink RX2 39 yX2_take, Cond.instanceMethod yX2_take, Cond.selects RX2 yX2_take yX2_take, Cond.code yX2_take cX2_take 2 (some .boolean), Cond.methodLink RX2 80 yX6_advance, Cond.instanceMethod yX6_advance, Cond.selects RX6 yX6_advance yX6_advance, Cond.code yX6_advance cX6_advance 1 none, Cond.methodLink RX2 43 yX2_takeActs, Cond.instanceMethod yX2_takeActs, Cond.selects RX2 yX2_takeActs yX2_takeActs, Cond.code yX2_takeActs cX2_takeActs 3 (some .boolean), Cond.methodLink RX2 83 yX6_value, Cond.instanceMethod yX6_value, Cond.selects RX6 yX6_value yX6_value, Cond.code yX6_value cX6_value 1 (some .int), Cond.fieldLink RX6 21 "InterlockTables$Words" "values" "[S", Cond.methodLink RX2 86 yX3_addAct, Cond.instanceMethod yX3_addAct, Cond.selects RX3 yX3_addAct yX3_addAct, Cond.code yX3_addAct cX3_addAct 2 (some .boolean), Cond.fieldLink RX3 19 "InterlockTables$Row" "actCount" "I"]
def wsX2_takeText_r3 : List Cond := [Cond.fieldLink RX3 15 "InterlockTables$Row" "actBits" "I", Cond.methodLink RX3 22 yX3_hasAct, Cond.instanceMethod yX3_hasAct, Cond.selects RX3 yX3_hasAct yX3_hasAct, Cond.code yX3_hasAct cX3_hasAct 2 (some .boolean), Cond.methodLink RX2 47 yX1_size, Cond.instanceMethod yX1_size, Cond.selects RX1 yX1_size yX1_size, Cond.initialized RX1, Cond.code yX1_size cX1_size 1 (some .int), Cond.fieldLink RX1 25 "InterlockTables$Expressions" "size" "I", Cond.methodLink RX2 56 yX2_takeOr, Cond.instanceMethod yX2_takeOr, Cond.selects RX2 yX2_takeOr yX2_takeOr, Cond.code yX2_takeOr cX2_takeOr 4 (some .boolean), Cond.methodLink RX2 98 yX2_takeAnd, Cond.instanceMethod yX2_takeAnd, Cond.selects RX2 yX2_takeAnd yX2_takeAnd, Cond.methodLink RX2 101 yX1_add, Cond.instanceMethod yX1_add, Cond.selects RX1 yX1_add yX1_add, Cond.code yX1_add cX1_add 2 none, Cond.fieldLink RX1 21 "InterlockTables$Expressions" "code" "[B", Cond.code yX2_takeAnd cX2_takeAnd 4 (some .boolean)]
def wsX2_takeText_r4 : List Cond := [Cond.methodLink RX2 104 yX2_takePart, Cond.instanceMethod yX2_takePart, Cond.selects RX2 yX2_takePart yX2_takePart, Cond.code yX2_takeBrackets cX2_takeBrackets 3 (some .boolean), Cond.code yX2_takePart cX2_takePart 6 (some .boolean), Cond.methodLink RX2 107 yX2_takeBrackets, Cond.instanceMethod yX2_takeBrackets, Cond.selects RX2 yX2_takeBrackets yX2_takeBrackets, Cond.methodLink RX2 110 yX2_takeCondition, Cond.instanceMethod yX2_takeCondition, Cond.selects RX2 yX2_takeCondition yX2_takeCondition, Cond.code yX2_takeCondition cX2_takeCondition 2 (some .boolean), Cond.methodLink RX2 63 yX2_takeFor, Cond.instanceMethod yX2_takeFor, Cond.selects RX2 yX2_takeFor yX2_takeFor, Cond.code yX2_takeFor cX2_takeFor 2 (some .boolean), Cond.methodLink RX2 74 yJx4a65c_add_9ea2d, Cond.instanceMethod yJx4a65c_add_9ea2d, Cond.selects RJx4a65c yJx4a65c_add_9ea2d yJx4a65c_add_9ea2d, Cond.initialized RJx4a65c, Cond.code yJx4a65c_add_9ea2d cJx4a65c_add_9ea2d 2 (some .boolean), Cond.fieldLink RJx4a65c 63 "java/util/ArrayList" "modCount" "I", Cond.sameField "java/util/ArrayList" "java/util/AbstractList" "modCount" "I", Cond.fieldLink RJx4a65c 9 "java/util/ArrayList" "elementData" "[Ljava/lang/Object;"]
def wsX2_takeText_r5 : List Cond := [Cond.fieldLink RJx4a65c 48 "java/util/ArrayList" "size" "I", Cond.methodLink RJx4a65c 131 yJx4a65c_add_72be8, Cond.instanceMethod yJx4a65c_add_72be8, Cond.selects RJx4a65c yJx4a65c_add_72be8 yJx4a65c_add_72be8, Cond.code yJx4a65c_add_72be8 cJx4a65c_add_72be8 4 none, Cond.methodLink RJx4a65c 129 yJx4a65c_grow_d5877, Cond.instanceMethod yJx4a65c_grow_d5877, Cond.selects RJx4a65c yJx4a65c_grow_d5877 yJx4a65c_grow_d5877, Cond.code yJx4a65c_grow_d5877 cJx4a65c_grow_d5877 1 (some (.array (.object "java/lang/Object"))), Cond.methodLink RJx4a65c 69 yJx4a65c_grow_92f84, Cond.instanceMethod yJx4a65c_grow_92f84, Cond.selects RJx4a65c yJx4a65c_grow_92f84 yJx4a65c_grow_92f84, Cond.code yJx4a65c_grow_92f84 cJx4a65c_grow_92f84 4 (some (.array (.object "java/lang/Object"))), Cond.fieldLink RJx4a65c 39 "java/util/ArrayList" "DEFAULTCAPACITY_EMPTY_ELEMENTDATA" "[Ljava/lang/Object;", Cond.methodLink RJx4a65c 79 Lib.Math.max.name, Cond.static Lib.Math.max.name, Cond.initialized "java/lang/Math", Cond.code Lib.Math.max.name Lib.Math.max.code 2 (some .int), Cond.classLink RJx4a65c 7 "java/lang/Object", Cond.methodLink RJx4a65c 73 yJ8_newLength_cabcc, Cond.static yJ8_newLength_cabcc, Cond.initialized RJ8, Cond.code yJ8_newLength_cabcc cJ8_newLength_cabcc 4 (some .int), Cond.methodLink RJ8 194 Lib.Math.max.name]
def wsX2_takeText_r6 : List Cond := [Cond.constant RJ8 200 (2147483639), Cond.methodLink RJ8 201 yJ8_hugeLength_7cf53, Cond.static yJ8_hugeLength_7cf53, Cond.code yJ8_hugeLength_7cf53 cJ8_hugeLength_7cf53 3 (some .int), Cond.methodLink RJx4a65c 66 yJ7_copyOf_1904c, Cond.static yJ7_copyOf_1904c, Cond.initialized RJ7, Cond.code yJ7_copyOf_1904c cJ7_copyOf_1904c 2 (some (.array (.object "java/lang/Object"))), Cond.methodLink RJ7 86 ⟨"java/lang/Object", "getClass", "()Ljava/lang/Class;"⟩, Cond.selects "[Ljava/lang/Object;" ⟨"java/lang/Object", "getClass", "()Ljava/lang/Class;"⟩ ⟨"java/lang/Object", "getClass", "()Ljava/lang/Class;"⟩, Cond.instanceMethod ⟨"java/lang/Object", "getClass", "()Ljava/lang/Class;"⟩, Cond.native ⟨"java/lang/Object", "getClass", "()Ljava/lang/Class;"⟩, Cond.methodLink RJ7 300 yJ7_copyOf_6403c, Cond.static yJ7_copyOf_6403c, Cond.code yJ7_copyOf_6403c cJ7_copyOf_6403c 4 (some (.array (.object "java/lang/Object"))), Cond.classLink RJ7 110 "[Ljava/lang/Object;", Cond.classLink RJ7 2 "java/lang/Object", Cond.methodLink RJ7 304 Lib.Math.min.name, Cond.static Lib.Math.min.name, Cond.code Lib.Math.min.name Lib.Math.min.code 2 (some .int), Cond.methodLink RJ7 150 arraycopyName, Cond.native arraycopyName, Cond.static arraycopyName, Cond.initialized "java/lang/System"]
def wsX2_takeText : List Cond := .code yX2_takeText cX2_takeText 2 (some .boolean) :: ((wsX2_takeText_r1 ++ (wsX2_takeText_r2 ++ (wsX2_takeText_r3 ++ (wsX2_takeText_r4 ++ (wsX2_takeText_r5 ++ wsX2_takeText_r6))))) ++ wsX20 ++ wsX60 ++ wsX30 ++ wsX50 ++ wsX10 ++ wsJx4a65c0)
def wsX3_actAt : List Cond := .code yX3_actAt cX3_actAt 2 (some .int) :: ([.fieldLink RX3 19 "InterlockTables$Row" "actCount" "I", .fieldLink RX3 9 "InterlockTables$Row" "acts" "[I"] ++ wsX30)
def wsX3_holds : List Cond := .code yX3_holds cX3_holds 2 (some .boolean) :: ([.fieldLink RX3 37 "InterlockTables$Row" "count" "I", .fieldLink RX3 40 "InterlockTables$Row" "number" "I"] ++ wsX30)
def wsX3_bars : List Cond := .code yX3_bars cX3_bars 2 (some .boolean) :: ([.fieldLink RX3 26 "InterlockTables$Row" "passLeft" "I", .fieldLink RX3 29 "InterlockTables$Row" "latched" "Z", .methodLink RX3 33 yX3_holds, .instanceMethod yX3_holds, .selects RX3 yX3_holds yX3_holds, .initialized RX3, .code yX3_holds cX3_holds 2 (some .boolean), .fieldLink RX3 37 "InterlockTables$Row" "count" "I", .fieldLink RX3 40 "InterlockTables$Row" "number" "I"] ++ wsX30)
def wsX3_letGoBy : List Cond := .code yX3_letGoBy cX3_letGoBy 3 none :: ([.fieldLink RX3 26 "InterlockTables$Row" "passLeft" "I", .methodLink RX3 43 Lib.Math.max.name, .static Lib.Math.max.name, .initialized "java/lang/Math", .code Lib.Math.max.name Lib.Math.max.code 2 (some .int), .constant RX3 49 (1000000), .fieldLink RX3 37 "InterlockTables$Row" "count" "I", .methodLink RX3 50 Lib.Math.min.name, .static Lib.Math.min.name, .code Lib.Math.min.name Lib.Math.min.code 2 (some .int), .fieldLink RX3 53 "InterlockTables$Row" "mayLatch" "Z", .fieldLink RX3 29 "InterlockTables$Row" "latched" "Z", .methodLink RX3 33 yX3_holds, .instanceMethod yX3_holds, .selects RX3 yX3_holds yX3_holds, .initialized RX3, .code yX3_holds cX3_holds 2 (some .boolean), .fieldLink RX3 40 "InterlockTables$Row" "number" "I"] ++ wsX30)
def wsX4_init : List Cond := .code yX4_init cX4_init 2 none :: ([.methodLink RX4 3 objectInit, .instanceMethod objectInit, .code objectInit ⟨#[0xb1]⟩ 1 none, .arrayClass .int, .fieldLink RX4 9 "InterlockTables$Survey" "used" "[I", .arrayClass .long, .fieldLink RX4 15 "InterlockTables$Survey" "settings" "[J", .fieldLink RX4 19 "InterlockTables$Survey" "covered" "[J", .fieldLink RX4 22 "InterlockTables$Survey" "table" "LInterlockTables$Table;"] ++ wsX40)
def wsX4_findUsed : List Cond := .code yX4_findUsed cX4_findUsed 5 none :: ([.fieldLink RX4 22 "InterlockTables$Survey" "table" "LInterlockTables$Table;", .fieldLink RX4 29 "InterlockTables$Survey" "usedCount" "I", .fieldLink RX4 9 "InterlockTables$Survey" "used" "[I", .methodLink RX4 59 yX1_size, .instanceMethod yX1_size, .selects RX1 yX1_size yX1_size, .initialized RX1, .code yX1_size cX1_size 1 (some .int), .fieldLink RX1 25 "InterlockTables$Expressions" "size" "I", .methodLink RX4 62 yX1_at, .instanceMethod yX1_at, .selects RX1 yX1_at yX1_at, .code yX1_at cX1_at 2 (some .int), .fieldLink RX1 21 "InterlockTables$Expressions" "code" "[B", .methodLink RX4 66 yX1_isCondition, .static yX1_isCondition, .code yX1_isCondition cX1_isCondition 1 (some .boolean)] ++ wsX40 ++ wsX50 ++ wsX10)
def wsJx4a65c_size_8abf5 : List Cond := .code yJx4a65c_size_8abf5 cJx4a65c_size_8abf5 1 (some .int) :: ([.fieldLink RJx4a65c 48 "java/util/ArrayList" "size" "I"] ++ wsJx4a65c0)
def wsX5_size : List Cond := .code yX5_size cX5_size 1 (some .int) :: ([.fieldLink RX5 12 "InterlockTables$Table" "rows" "Ljava/util/ArrayList;", .methodLink RX5 27 yJx4a65c_size_8abf5, .instanceMethod yJx4a65c_size_8abf5, .selects RJx4a65c yJx4a65c_size_8abf5 yJx4a65c_size_8abf5, .initialized RJx4a65c, .code yJx4a65c_size_8abf5 cJx4a65c_size_8abf5 1 (some .int), .fieldLink RJx4a65c 48 "java/util/ArrayList" "size" "I"] ++ wsX50 ++ wsJx4a65c0)
def wsX4_set : List Cond := .code yX4_set cX4_set 6 none :: ([.fieldLink RX4 29 "InterlockTables$Survey" "usedCount" "I", .fieldLink RX4 9 "InterlockTables$Survey" "used" "[I", .fieldLink RX4 15 "InterlockTables$Survey" "settings" "[J"] ++ wsX40)
def wsJ7_fill_d0a16 : List Cond := .code yJ7_fill_d0a16 cJ7_fill_d0a16 5 none :: ([])
def wsJ3_checkIndex_8e157 : List Cond := .code yJ3_checkIndex_8e157 cJ3_checkIndex_8e157 3 (some .int) :: ([])
def wsJ15_checkIndex_7cf53 : List Cond := .code yJ15_checkIndex_7cf53 cJ15_checkIndex_7cf53 2 (some .int) :: ([.methodLink RJ15 105 yJ3_checkIndex_8e157, .static yJ3_checkIndex_8e157, .initialized RJ3, .code yJ3_checkIndex_8e157 cJ3_checkIndex_8e157 3 (some .int)])
def wsJx4a65c_elementData_915e3 : List Cond := .code yJx4a65c_elementData_915e3 cJx4a65c_elementData_915e3 2 (some (.object "java/lang/Object")) :: ([.fieldLink RJx4a65c 9 "java/util/ArrayList" "elementData" "[Ljava/lang/Object;"] ++ wsJx4a65c0)
def wsJx4a65c_get_915e3 : List Cond := .code yJx4a65c_get_915e3 cJx4a65c_get_915e3 2 (some (.object "java/lang/Object")) :: ([.fieldLink RJx4a65c 48 "java/util/ArrayList" "size" "I", .methodLink RJx4a65c 118 yJ15_checkIndex_7cf53, .static yJ15_checkIndex_7cf53, .initialized RJ15, .code yJ15_checkIndex_7cf53 cJ15_checkIndex_7cf53 2 (some .int), .methodLink RJ15 105 yJ3_checkIndex_8e157, .static yJ3_checkIndex_8e157, .initialized RJ3, .code yJ3_checkIndex_8e157 cJ3_checkIndex_8e157 3 (some .int), .methodLink RJx4a65c 123 yJx4a65c_elementData_915e3, .instanceMethod yJx4a65c_elementData_915e3, .selects RJx4a65c yJx4a65c_elementData_915e3 yJx4a65c_elementData_915e3, .initialized RJx4a65c, .code yJx4a65c_elementData_915e3 cJx4a65c_elementData_915e3 2 (some (.object "java/lang/Object")), .fieldLink RJx4a65c 9 "java/util/ArrayList" "elementData" "[Ljava/lang/Object;"] ++ wsJx4a65c0)
def wsX5_valueOf : List Cond := .code yX5_valueOf cX5_valueOf 3 (some .long) :: ([.fieldLink RX5 23 "InterlockTables$Table" "expressions" "LInterlockTables$Expressions;", .methodLink RX5 48 yX1_valueOf, .instanceMethod yX1_valueOf, .selects RX1 yX1_valueOf yX1_valueOf, .initialized RX1, .code yX1_valueOf cX1_valueOf 7 (some .long), .fieldLink RX1 9 "InterlockTables$Expressions" "stack" "[J", .constantLong RX1 37 (-1), .methodLink RX1 29 yX1_at, .instanceMethod yX1_at, .selects RX1 yX1_at yX1_at, .code yX1_at cX1_at 2 (some .int), .fieldLink RX1 25 "InterlockTables$Expressions" "size" "I", .fieldLink RX1 21 "InterlockTables$Expressions" "code" "[B", .methodLink RX1 33 yX1_isCondition, .static yX1_isCondition, .code yX1_isCondition cX1_isCondition 1 (some .boolean), .methodLink RX1 39 yX1_join, .static yX1_join, .code yX1_join cX1_join 5 (some .long)] ++ wsX50 ++ wsX30 ++ wsX10)
def wsX4_cover : List Cond := .code yX4_cover cX4_cover 7 (some .boolean) :: ([.fieldLink RX4 19 "InterlockTables$Survey" "covered" "[J", .constantLong RX4 106 (-1), .methodLink RX4 103 yX3_actAt, .instanceMethod yX3_actAt, .selects RX3 yX3_actAt yX3_actAt, .initialized RX3, .code yX3_actAt cX3_actAt 2 (some .int), .fieldLink RX3 19 "InterlockTables$Row" "actCount" "I", .fieldLink RX3 9 "InterlockTables$Row" "acts" "[I"] ++ wsX30 ++ wsX40)
def wsX4_markBlock_r1 : List Cond := [Cond.fieldLink RX4 19 "InterlockTables$Survey" "covered" "[J", Cond.fieldLink RX4 22 "InterlockTables$Survey" "table" "LInterlockTables$Table;", Cond.classLink RX4 86 "InterlockTables$Row", Cond.fieldLink RX4 15 "InterlockTables$Survey" "settings" "[J", Cond.methodLink RX4 70 yJ7_fill_d0a16, Cond.static yJ7_fill_d0a16, Cond.initialized RJ7, Cond.code yJ7_fill_d0a16 cJ7_fill_d0a16 5 none, Cond.methodLink RX4 42 yX5_size, Cond.instanceMethod yX5_size, Cond.selects RX5 yX5_size yX5_size, Cond.initialized RX5, Cond.code yX5_size cX5_size 1 (some .int), Cond.fieldLink RX5 12 "InterlockTables$Table" "rows" "Ljava/util/ArrayList;", Cond.methodLink RX5 27 yJx4a65c_size_8abf5, Cond.instanceMethod yJx4a65c_size_8abf5, Cond.selects RJx4a65c yJx4a65c_size_8abf5 yJx4a65c_size_8abf5, Cond.initialized RJx4a65c, Cond.code yJx4a65c_size_8abf5 cJx4a65c_size_8abf5 1 (some .int), Cond.fieldLink RJx4a65c 48 "java/util/ArrayList" "size" "I", Cond.methodLink RX4 80 yJx4a65c_get_915e3, Cond.instanceMethod yJx4a65c_get_915e3, Cond.selects RJx4a65c yJx4a65c_get_915e3 yJx4a65c_get_915e3, Cond.code yJx4a65c_get_915e3 cJx4a65c_get_915e3 2 (some (.object "java/lang/Object"))]
def wsX4_markBlock_r2 : List Cond := [Cond.methodLink RJx4a65c 118 yJ15_checkIndex_7cf53, Cond.static yJ15_checkIndex_7cf53, Cond.initialized RJ15, Cond.code yJ15_checkIndex_7cf53 cJ15_checkIndex_7cf53 2 (some .int), Cond.methodLink RJ15 105 yJ3_checkIndex_8e157, Cond.static yJ3_checkIndex_8e157, Cond.initialized RJ3, Cond.code yJ3_checkIndex_8e157 cJ3_checkIndex_8e157 3 (some .int), Cond.methodLink RJx4a65c 123 yJx4a65c_elementData_915e3, Cond.instanceMethod yJx4a65c_elementData_915e3, Cond.selects RJx4a65c yJx4a65c_elementData_915e3 yJx4a65c_elementData_915e3, Cond.code yJx4a65c_elementData_915e3 cJx4a65c_elementData_915e3 2 (some (.object "java/lang/Object")), Cond.fieldLink RJx4a65c 9 "java/util/ArrayList" "elementData" "[Ljava/lang/Object;", Cond.methodLink RX4 88 yX5_valueOf, Cond.instanceMethod yX5_valueOf, Cond.selects RX5 yX5_valueOf yX5_valueOf, Cond.code yX5_valueOf cX5_valueOf 3 (some .long), Cond.fieldLink RX5 23 "InterlockTables$Table" "expressions" "LInterlockTables$Expressions;", Cond.methodLink RX5 48 yX1_valueOf, Cond.instanceMethod yX1_valueOf, Cond.selects RX1 yX1_valueOf yX1_valueOf, Cond.initialized RX1, Cond.code yX1_valueOf cX1_valueOf 7 (some .long), Cond.fieldLink RX1 9 "InterlockTables$Expressions" "stack" "[J"]
def wsX4_markBlock_r3 : List Cond := [Cond.constantLong RX1 37 (-1), Cond.methodLink RX1 29 yX1_at, Cond.instanceMethod yX1_at, Cond.selects RX1 yX1_at yX1_at, Cond.code yX1_at cX1_at 2 (some .int), Cond.fieldLink RX1 25 "InterlockTables$Expressions" "size" "I", Cond.fieldLink RX1 21 "InterlockTables$Expressions" "code" "[B", Cond.methodLink RX1 33 yX1_isCondition, Cond.static yX1_isCondition, Cond.code yX1_isCondition cX1_isCondition 1 (some .boolean), Cond.methodLink RX1 39 yX1_join, Cond.static yX1_join, Cond.code yX1_join cX1_join 5 (some .long), Cond.methodLink RX4 92 yX4_cover, Cond.instanceMethod yX4_cover, Cond.selects RX4 yX4_cover yX4_cover, Cond.initialized RX4, Cond.code yX4_cover cX4_cover 7 (some .boolean), Cond.constantLong RX4 106 (-1), Cond.methodLink RX4 103 yX3_actAt, Cond.instanceMethod yX3_actAt, Cond.selects RX3 yX3_actAt yX3_actAt, Cond.initialized RX3, Cond.code yX3_actAt cX3_actAt 2 (some .int)]
def wsX4_markBlock_r4 : List Cond := [Cond.fieldLink RX3 19 "InterlockTables$Row" "actCount" "I", Cond.fieldLink RX3 9 "InterlockTables$Row" "acts" "[I"]
def wsX4_markBlock : List Cond := .code yX4_markBlock cX4_markBlock 5 (some .int) :: ((wsX4_markBlock_r1 ++ (wsX4_markBlock_r2 ++ (wsX4_markBlock_r3 ++ wsX4_markBlock_r4))) ++ wsX40 ++ wsX50 ++ wsX30 ++ wsJx4a65c0 ++ wsX10)
def wsX4_markRows_r1 : List Cond := [Cond.fieldLink RX4 29 "InterlockTables$Survey" "usedCount" "I", Cond.methodLink RX4 36 Lib.Math.max.name, Cond.static Lib.Math.max.name, Cond.initialized "java/lang/Math", Cond.code Lib.Math.max.name Lib.Math.max.code 2 (some .int), Cond.fieldLink RX4 22 "InterlockTables$Survey" "table" "LInterlockTables$Table;", Cond.methodLink RX4 26 yX4_findUsed, Cond.instanceMethod yX4_findUsed, Cond.selects RX4 yX4_findUsed yX4_findUsed, Cond.initialized RX4, Cond.code yX4_findUsed cX4_findUsed 5 none, Cond.fieldLink RX4 9 "InterlockTables$Survey" "used" "[I", Cond.methodLink RX4 59 yX1_size, Cond.instanceMethod yX1_size, Cond.selects RX1 yX1_size yX1_size, Cond.initialized RX1, Cond.code yX1_size cX1_size 1 (some .int), Cond.fieldLink RX1 25 "InterlockTables$Expressions" "size" "I", Cond.methodLink RX4 62 yX1_at, Cond.instanceMethod yX1_at, Cond.selects RX1 yX1_at yX1_at, Cond.code yX1_at cX1_at 2 (some .int), Cond.fieldLink RX1 21 "InterlockTables$Expressions" "code" "[B", Cond.methodLink RX4 66 yX1_isCondition]
def wsX4_markRows_r2 : List Cond := [Cond.static yX1_isCondition, Cond.code yX1_isCondition cX1_isCondition 1 (some .boolean), Cond.methodLink RX4 42 yX5_size, Cond.instanceMethod yX5_size, Cond.selects RX5 yX5_size yX5_size, Cond.initialized RX5, Cond.code yX5_size cX5_size 1 (some .int), Cond.fieldLink RX5 12 "InterlockTables$Table" "rows" "Ljava/util/ArrayList;", Cond.methodLink RX5 27 yJx4a65c_size_8abf5, Cond.instanceMethod yJx4a65c_size_8abf5, Cond.selects RJx4a65c yJx4a65c_size_8abf5 yJx4a65c_size_8abf5, Cond.initialized RJx4a65c, Cond.code yJx4a65c_size_8abf5 cJx4a65c_size_8abf5 1 (some .int), Cond.fieldLink RJx4a65c 48 "java/util/ArrayList" "size" "I", Cond.methodLink RX4 48 yX4_set, Cond.instanceMethod yX4_set, Cond.selects RX4 yX4_set yX4_set, Cond.code yX4_set cX4_set 6 none, Cond.fieldLink RX4 15 "InterlockTables$Survey" "settings" "[J", Cond.methodLink RX4 52 yX4_markBlock, Cond.instanceMethod yX4_markBlock, Cond.selects RX4 yX4_markBlock yX4_markBlock, Cond.code yX4_markBlock cX4_markBlock 5 (some .int), Cond.fieldLink RX4 19 "InterlockTables$Survey" "covered" "[J"]
def wsX4_markRows_r3 : List Cond := [Cond.classLink RX4 86 "InterlockTables$Row", Cond.methodLink RX4 70 yJ7_fill_d0a16, Cond.static yJ7_fill_d0a16, Cond.initialized RJ7, Cond.code yJ7_fill_d0a16 cJ7_fill_d0a16 5 none, Cond.methodLink RX4 80 yJx4a65c_get_915e3, Cond.instanceMethod yJx4a65c_get_915e3, Cond.selects RJx4a65c yJx4a65c_get_915e3 yJx4a65c_get_915e3, Cond.code yJx4a65c_get_915e3 cJx4a65c_get_915e3 2 (some (.object "java/lang/Object")), Cond.methodLink RJx4a65c 118 yJ15_checkIndex_7cf53, Cond.static yJ15_checkIndex_7cf53, Cond.initialized RJ15, Cond.code yJ15_checkIndex_7cf53 cJ15_checkIndex_7cf53 2 (some .int), Cond.methodLink RJ15 105 yJ3_checkIndex_8e157, Cond.static yJ3_checkIndex_8e157, Cond.initialized RJ3, Cond.code yJ3_checkIndex_8e157 cJ3_checkIndex_8e157 3 (some .int), Cond.methodLink RJx4a65c 123 yJx4a65c_elementData_915e3, Cond.instanceMethod yJx4a65c_elementData_915e3, Cond.selects RJx4a65c yJx4a65c_elementData_915e3 yJx4a65c_elementData_915e3, Cond.code yJx4a65c_elementData_915e3 cJx4a65c_elementData_915e3 2 (some (.object "java/lang/Object")), Cond.fieldLink RJx4a65c 9 "java/util/ArrayList" "elementData" "[Ljava/lang/Object;", Cond.methodLink RX4 88 yX5_valueOf, Cond.instanceMethod yX5_valueOf]
def wsX4_markRows_r4 : List Cond := [Cond.selects RX5 yX5_valueOf yX5_valueOf, Cond.code yX5_valueOf cX5_valueOf 3 (some .long), Cond.fieldLink RX5 23 "InterlockTables$Table" "expressions" "LInterlockTables$Expressions;", Cond.methodLink RX5 48 yX1_valueOf, Cond.instanceMethod yX1_valueOf, Cond.selects RX1 yX1_valueOf yX1_valueOf, Cond.code yX1_valueOf cX1_valueOf 7 (some .long), Cond.fieldLink RX1 9 "InterlockTables$Expressions" "stack" "[J", Cond.constantLong RX1 37 (-1), Cond.methodLink RX1 29 yX1_at, Cond.methodLink RX1 33 yX1_isCondition, Cond.methodLink RX1 39 yX1_join, Cond.static yX1_join, Cond.code yX1_join cX1_join 5 (some .long), Cond.methodLink RX4 92 yX4_cover, Cond.instanceMethod yX4_cover, Cond.selects RX4 yX4_cover yX4_cover, Cond.code yX4_cover cX4_cover 7 (some .boolean), Cond.constantLong RX4 106 (-1), Cond.methodLink RX4 103 yX3_actAt, Cond.instanceMethod yX3_actAt, Cond.selects RX3 yX3_actAt yX3_actAt, Cond.initialized RX3, Cond.code yX3_actAt cX3_actAt 2 (some .int)]
def wsX4_markRows_r5 : List Cond := [Cond.fieldLink RX3 19 "InterlockTables$Row" "actCount" "I", Cond.fieldLink RX3 9 "InterlockTables$Row" "acts" "[I"]
def wsX4_markRows : List Cond := .code yX4_markRows cX4_markRows 4 none :: ((wsX4_markRows_r1 ++ (wsX4_markRows_r2 ++ (wsX4_markRows_r3 ++ (wsX4_markRows_r4 ++ wsX4_markRows_r5)))) ++ wsX40 ++ wsX50 ++ wsX10 ++ wsJx4a65c0 ++ wsX30)
def wsJxa1e45_init_da8c8 : List Cond := .code yJxa1e45_init_da8c8 cJxa1e45_init_da8c8 1 none :: ([.methodLink RJxa1e45 1 objectInit, .instanceMethod objectInit, .code objectInit ⟨#[0xb1]⟩ 1 none])
def wsJxc12de_init_da8c8 : List Cond := .code yJxc12de_init_da8c8 cJxc12de_init_da8c8 1 none :: ([.fieldLink RJxc12de 7 "java/util/AbstractList" "modCount" "I", .methodLink RJxc12de 1 yJxa1e45_init_da8c8, .instanceMethod yJxa1e45_init_da8c8, .initialized RJxa1e45, .code yJxa1e45_init_da8c8 cJxa1e45_init_da8c8 1 none, .methodLink RJxa1e45 1 objectInit, .instanceMethod objectInit, .code objectInit ⟨#[0xb1]⟩ 1 none] ++ wsJx4a65c0)
def wsJx4a65c_init_da8c8 : List Cond := .code yJx4a65c_init_da8c8 cJx4a65c_init_da8c8 1 none :: ([.fieldLink RJx4a65c 39 "java/util/ArrayList" "DEFAULTCAPACITY_EMPTY_ELEMENTDATA" "[Ljava/lang/Object;", .fieldLink RJx4a65c 9 "java/util/ArrayList" "elementData" "[Ljava/lang/Object;", .methodLink RJx4a65c 1 yJxc12de_init_da8c8, .instanceMethod yJxc12de_init_da8c8, .initialized RJxc12de, .code yJxc12de_init_da8c8 cJxc12de_init_da8c8 1 none, .fieldLink RJxc12de 7 "java/util/AbstractList" "modCount" "I", .methodLink RJxc12de 1 yJxa1e45_init_da8c8, .instanceMethod yJxa1e45_init_da8c8, .initialized RJxa1e45, .code yJxa1e45_init_da8c8 cJxa1e45_init_da8c8 1 none, .methodLink RJxa1e45 1 objectInit, .instanceMethod objectInit, .code objectInit ⟨#[0xb1]⟩ 1 none] ++ wsJx4a65c0)
def wsX5_init_r1 : List Cond := [Cond.methodLink RX5 3 objectInit, Cond.instanceMethod objectInit, Cond.code objectInit ⟨#[0xb1]⟩ 1 none, Cond.classLink RX5 9 RJx4a65c, Cond.instantiable RJx4a65c 3, Cond.initialized RJx4a65c, Cond.fieldLink RX5 12 "InterlockTables$Table" "rows" "Ljava/util/ArrayList;", Cond.classLink RX5 18 RX1, Cond.instantiable RX1 3, Cond.initialized RX1, Cond.fieldLink RX5 23 "InterlockTables$Table" "expressions" "LInterlockTables$Expressions;", Cond.methodLink RX5 11 yJx4a65c_init_da8c8, Cond.instanceMethod yJx4a65c_init_da8c8, Cond.code yJx4a65c_init_da8c8 cJx4a65c_init_da8c8 1 none, Cond.fieldLink RJx4a65c 39 "java/util/ArrayList" "DEFAULTCAPACITY_EMPTY_ELEMENTDATA" "[Ljava/lang/Object;", Cond.fieldLink RJx4a65c 9 "java/util/ArrayList" "elementData" "[Ljava/lang/Object;", Cond.methodLink RJx4a65c 1 yJxc12de_init_da8c8, Cond.instanceMethod yJxc12de_init_da8c8, Cond.initialized RJxc12de, Cond.code yJxc12de_init_da8c8 cJxc12de_init_da8c8 1 none, Cond.fieldLink RJxc12de 7 "java/util/AbstractList" "modCount" "I", Cond.methodLink RJxc12de 1 yJxa1e45_init_da8c8, Cond.instanceMethod yJxa1e45_init_da8c8, Cond.initialized RJxa1e45]
def wsX5_init_r2 : List Cond := [Cond.code yJxa1e45_init_da8c8 cJxa1e45_init_da8c8 1 none, Cond.methodLink RJxa1e45 1 objectInit, Cond.methodLink RX5 20 yX1_init, Cond.instanceMethod yX1_init, Cond.code yX1_init cX1_init 2 none, Cond.methodLink RX1 3 objectInit, Cond.arrayClass .long, Cond.fieldLink RX1 9 "InterlockTables$Expressions" "stack" "[J", Cond.methodLink RX1 15 Lib.Math.max.name, Cond.static Lib.Math.max.name, Cond.initialized "java/lang/Math", Cond.code Lib.Math.max.name Lib.Math.max.code 2 (some .int), Cond.arrayClass .byte, Cond.fieldLink RX1 21 "InterlockTables$Expressions" "code" "[B"]
def wsX5_init : List Cond := .code yX5_init cX5_init 2 none :: ((wsX5_init_r1 ++ wsX5_init_r2) ++ wsJx4a65c0 ++ wsX50 ++ wsX10)
def wsX5_find_r1 : List Cond := [Cond.fieldLink RX5 12 "InterlockTables$Table" "rows" "Ljava/util/ArrayList;", Cond.classLink RX5 35 "InterlockTables$Row", Cond.methodLink RX5 27 yJx4a65c_size_8abf5, Cond.instanceMethod yJx4a65c_size_8abf5, Cond.selects RJx4a65c yJx4a65c_size_8abf5 yJx4a65c_size_8abf5, Cond.initialized RJx4a65c, Cond.code yJx4a65c_size_8abf5 cJx4a65c_size_8abf5 1 (some .int), Cond.fieldLink RJx4a65c 48 "java/util/ArrayList" "size" "I", Cond.methodLink RX5 31 yJx4a65c_get_915e3, Cond.instanceMethod yJx4a65c_get_915e3, Cond.selects RJx4a65c yJx4a65c_get_915e3 yJx4a65c_get_915e3, Cond.code yJx4a65c_get_915e3 cJx4a65c_get_915e3 2 (some (.object "java/lang/Object")), Cond.methodLink RJx4a65c 118 yJ15_checkIndex_7cf53, Cond.static yJ15_checkIndex_7cf53, Cond.initialized RJ15, Cond.code yJ15_checkIndex_7cf53 cJ15_checkIndex_7cf53 2 (some .int), Cond.methodLink RJ15 105 yJ3_checkIndex_8e157, Cond.static yJ3_checkIndex_8e157, Cond.initialized RJ3, Cond.code yJ3_checkIndex_8e157 cJ3_checkIndex_8e157 3 (some .int), Cond.methodLink RJx4a65c 123 yJx4a65c_elementData_915e3, Cond.instanceMethod yJx4a65c_elementData_915e3, Cond.selects RJx4a65c yJx4a65c_elementData_915e3 yJx4a65c_elementData_915e3, Cond.code yJx4a65c_elementData_915e3 cJx4a65c_elementData_915e3 2 (some (.object "java/lang/Object"))]
def wsX5_find_r2 : List Cond := [Cond.fieldLink RJx4a65c 9 "java/util/ArrayList" "elementData" "[Ljava/lang/Object;"]
def wsX5_find : List Cond := .code yX5_find cX5_find 2 (some (.object "InterlockTables$Row")) :: ((wsX5_find_r1 ++ wsX5_find_r2) ++ wsX50 ++ wsJx4a65c0)
def wsX5_isOn_r1 : List Cond := [Cond.methodLink RX5 37 yX5_valueOf, Cond.instanceMethod yX5_valueOf, Cond.selects RX5 yX5_valueOf yX5_valueOf, Cond.initialized RX5, Cond.code yX5_valueOf cX5_valueOf 3 (some .long), Cond.fieldLink RX5 23 "InterlockTables$Table" "expressions" "LInterlockTables$Expressions;", Cond.methodLink RX5 48 yX1_valueOf, Cond.instanceMethod yX1_valueOf, Cond.selects RX1 yX1_valueOf yX1_valueOf, Cond.initialized RX1, Cond.code yX1_valueOf cX1_valueOf 7 (some .long), Cond.fieldLink RX1 9 "InterlockTables$Expressions" "stack" "[J", Cond.constantLong RX1 37 (-1), Cond.methodLink RX1 29 yX1_at, Cond.instanceMethod yX1_at, Cond.selects RX1 yX1_at yX1_at, Cond.code yX1_at cX1_at 2 (some .int), Cond.fieldLink RX1 25 "InterlockTables$Expressions" "size" "I", Cond.fieldLink RX1 21 "InterlockTables$Expressions" "code" "[B", Cond.methodLink RX1 33 yX1_isCondition, Cond.static yX1_isCondition, Cond.code yX1_isCondition cX1_isCondition 1 (some .boolean), Cond.methodLink RX1 39 yX1_join, Cond.static yX1_join]
def wsX5_isOn_r2 : List Cond := [Cond.code yX1_join cX1_join 5 (some .long)]
def wsX5_isOn : List Cond := .code yX5_isOn cX5_isOn 3 (some .boolean) :: ((wsX5_isOn_r1 ++ wsX5_isOn_r2) ++ wsX50 ++ wsX30 ++ wsX10)
def wsX5_letGoBy_r1 : List Cond := [Cond.fieldLink RX5 12 "InterlockTables$Table" "rows" "Ljava/util/ArrayList;", Cond.classLink RX5 35 "InterlockTables$Row", Cond.methodLink RX5 27 yJx4a65c_size_8abf5, Cond.instanceMethod yJx4a65c_size_8abf5, Cond.selects RJx4a65c yJx4a65c_size_8abf5 yJx4a65c_size_8abf5, Cond.initialized RJx4a65c, Cond.code yJx4a65c_size_8abf5 cJx4a65c_size_8abf5 1 (some .int), Cond.fieldLink RJx4a65c 48 "java/util/ArrayList" "size" "I", Cond.methodLink RX5 31 yJx4a65c_get_915e3, Cond.instanceMethod yJx4a65c_get_915e3, Cond.selects RJx4a65c yJx4a65c_get_915e3 yJx4a65c_get_915e3, Cond.code yJx4a65c_get_915e3 cJx4a65c_get_915e3 2 (some (.object "java/lang/Object")), Cond.methodLink RJx4a65c 118 yJ15_checkIndex_7cf53, Cond.static yJ15_checkIndex_7cf53, Cond.initialized RJ15, Cond.code yJ15_checkIndex_7cf53 cJ15_checkIndex_7cf53 2 (some .int), Cond.methodLink RJ15 105 yJ3_checkIndex_8e157, Cond.static yJ3_checkIndex_8e157, Cond.initialized RJ3, Cond.code yJ3_checkIndex_8e157 cJ3_checkIndex_8e157 3 (some .int), Cond.methodLink RJx4a65c 123 yJx4a65c_elementData_915e3, Cond.instanceMethod yJx4a65c_elementData_915e3, Cond.selects RJx4a65c yJx4a65c_elementData_915e3 yJx4a65c_elementData_915e3, Cond.code yJx4a65c_elementData_915e3 cJx4a65c_elementData_915e3 2 (some (.object "java/lang/Object"))]
def wsX5_letGoBy_r2 : List Cond := [Cond.fieldLink RJx4a65c 9 "java/util/ArrayList" "elementData" "[Ljava/lang/Object;", Cond.methodLink RX5 51 yX5_isOn, Cond.instanceMethod yX5_isOn, Cond.selects RX5 yX5_isOn yX5_isOn, Cond.initialized RX5, Cond.code yX5_isOn cX5_isOn 3 (some .boolean), Cond.methodLink RX5 37 yX5_valueOf, Cond.instanceMethod yX5_valueOf, Cond.selects RX5 yX5_valueOf yX5_valueOf, Cond.code yX5_valueOf cX5_valueOf 3 (some .long), Cond.fieldLink RX5 23 "InterlockTables$Table" "expressions" "LInterlockTables$Expressions;", Cond.methodLink RX5 48 yX1_valueOf, Cond.instanceMethod yX1_valueOf, Cond.selects RX1 yX1_valueOf yX1_valueOf, Cond.initialized RX1, Cond.code yX1_valueOf cX1_valueOf 7 (some .long), Cond.fieldLink RX1 9 "InterlockTables$Expressions" "stack" "[J", Cond.constantLong RX1 37 (-1), Cond.methodLink RX1 29 yX1_at, Cond.instanceMethod yX1_at, Cond.selects RX1 yX1_at yX1_at, Cond.code yX1_at cX1_at 2 (some .int), Cond.fieldLink RX1 25 "InterlockTables$Expressions" "size" "I", Cond.fieldLink RX1 21 "InterlockTables$Expressions" "code" "[B"]
def wsX5_letGoBy_r3 : List Cond := [Cond.methodLink RX1 33 yX1_isCondition, Cond.static yX1_isCondition, Cond.code yX1_isCondition cX1_isCondition 1 (some .boolean), Cond.methodLink RX1 39 yX1_join, Cond.static yX1_join, Cond.code yX1_join cX1_join 5 (some .long), Cond.methodLink RX5 55 yX3_letGoBy, Cond.instanceMethod yX3_letGoBy, Cond.selects RX3 yX3_letGoBy yX3_letGoBy, Cond.initialized RX3, Cond.code yX3_letGoBy cX3_letGoBy 3 none, Cond.fieldLink RX3 26 "InterlockTables$Row" "passLeft" "I", Cond.methodLink RX3 43 Lib.Math.max.name, Cond.static Lib.Math.max.name, Cond.initialized "java/lang/Math", Cond.code Lib.Math.max.name Lib.Math.max.code 2 (some .int), Cond.constant RX3 49 (1000000), Cond.fieldLink RX3 37 "InterlockTables$Row" "count" "I", Cond.methodLink RX3 50 Lib.Math.min.name, Cond.static Lib.Math.min.name, Cond.code Lib.Math.min.name Lib.Math.min.code 2 (some .int), Cond.fieldLink RX3 53 "InterlockTables$Row" "mayLatch" "Z", Cond.fieldLink RX3 29 "InterlockTables$Row" "latched" "Z", Cond.methodLink RX3 33 yX3_holds]
def wsX5_letGoBy_r4 : List Cond := [Cond.instanceMethod yX3_holds, Cond.selects RX3 yX3_holds yX3_holds, Cond.code yX3_holds cX3_holds 2 (some .boolean), Cond.fieldLink RX3 40 "InterlockTables$Row" "number" "I"]
def wsX5_letGoBy : List Cond := .code yX5_letGoBy cX5_letGoBy 5 none :: ((wsX5_letGoBy_r1 ++ (wsX5_letGoBy_r2 ++ (wsX5_letGoBy_r3 ++ wsX5_letGoBy_r4))) ++ wsX50 ++ wsJx4a65c0 ++ wsX30 ++ wsX10)
def wsX5_firstToBar_r1 : List Cond := [Cond.fieldLink RX5 12 "InterlockTables$Table" "rows" "Ljava/util/ArrayList;", Cond.classLink RX5 35 "InterlockTables$Row", Cond.methodLink RX5 27 yJx4a65c_size_8abf5, Cond.instanceMethod yJx4a65c_size_8abf5, Cond.selects RJx4a65c yJx4a65c_size_8abf5 yJx4a65c_size_8abf5, Cond.initialized RJx4a65c, Cond.code yJx4a65c_size_8abf5 cJx4a65c_size_8abf5 1 (some .int), Cond.fieldLink RJx4a65c 48 "java/util/ArrayList" "size" "I", Cond.methodLink RX5 31 yJx4a65c_get_915e3, Cond.instanceMethod yJx4a65c_get_915e3, Cond.selects RJx4a65c yJx4a65c_get_915e3 yJx4a65c_get_915e3, Cond.code yJx4a65c_get_915e3 cJx4a65c_get_915e3 2 (some (.object "java/lang/Object")), Cond.methodLink RJx4a65c 118 yJ15_checkIndex_7cf53, Cond.static yJ15_checkIndex_7cf53, Cond.initialized RJ15, Cond.code yJ15_checkIndex_7cf53 cJ15_checkIndex_7cf53 2 (some .int), Cond.methodLink RJ15 105 yJ3_checkIndex_8e157, Cond.static yJ3_checkIndex_8e157, Cond.initialized RJ3, Cond.code yJ3_checkIndex_8e157 cJ3_checkIndex_8e157 3 (some .int), Cond.methodLink RJx4a65c 123 yJx4a65c_elementData_915e3, Cond.instanceMethod yJx4a65c_elementData_915e3, Cond.selects RJx4a65c yJx4a65c_elementData_915e3 yJx4a65c_elementData_915e3, Cond.code yJx4a65c_elementData_915e3 cJx4a65c_elementData_915e3 2 (some (.object "java/lang/Object"))]
def wsX5_firstToBar_r2 : List Cond := [Cond.fieldLink RJx4a65c 9 "java/util/ArrayList" "elementData" "[Ljava/lang/Object;", Cond.methodLink RX5 59 yX3_hasAct, Cond.instanceMethod yX3_hasAct, Cond.selects RX3 yX3_hasAct yX3_hasAct, Cond.initialized RX3, Cond.code yX3_hasAct cX3_hasAct 2 (some .boolean), Cond.fieldLink RX3 15 "InterlockTables$Row" "actBits" "I", Cond.methodLink RX5 51 yX5_isOn, Cond.instanceMethod yX5_isOn, Cond.selects RX5 yX5_isOn yX5_isOn, Cond.initialized RX5, Cond.code yX5_isOn cX5_isOn 3 (some .boolean), Cond.methodLink RX5 37 yX5_valueOf, Cond.instanceMethod yX5_valueOf, Cond.selects RX5 yX5_valueOf yX5_valueOf, Cond.code yX5_valueOf cX5_valueOf 3 (some .long), Cond.fieldLink RX5 23 "InterlockTables$Table" "expressions" "LInterlockTables$Expressions;", Cond.methodLink RX5 48 yX1_valueOf, Cond.instanceMethod yX1_valueOf, Cond.selects RX1 yX1_valueOf yX1_valueOf, Cond.initialized RX1, Cond.code yX1_valueOf cX1_valueOf 7 (some .long), Cond.fieldLink RX1 9 "InterlockTables$Expressions" "stack" "[J", Cond.constantLong RX1 37 (-1)]
def wsX5_firstToBar_r3 : List Cond := [Cond.methodLink RX1 29 yX1_at, Cond.instanceMethod yX1_at, Cond.selects RX1 yX1_at yX1_at, Cond.code yX1_at cX1_at 2 (some .int), Cond.fieldLink RX1 25 "InterlockTables$Expressions" "size" "I", Cond.fieldLink RX1 21 "InterlockTables$Expressions" "code" "[B", Cond.methodLink RX1 33 yX1_isCondition, Cond.static yX1_isCondition, Cond.code yX1_isCondition cX1_isCondition 1 (some .boolean), Cond.methodLink RX1 39 yX1_join, Cond.static yX1_join, Cond.code yX1_join cX1_join 5 (some .long), Cond.methodLink RX5 63 yX3_bars, Cond.instanceMethod yX3_bars, Cond.selects RX3 yX3_bars yX3_bars, Cond.code yX3_bars cX3_bars 2 (some .boolean), Cond.fieldLink RX3 26 "InterlockTables$Row" "passLeft" "I", Cond.fieldLink RX3 29 "InterlockTables$Row" "latched" "Z", Cond.methodLink RX3 33 yX3_holds, Cond.instanceMethod yX3_holds, Cond.selects RX3 yX3_holds yX3_holds, Cond.code yX3_holds cX3_holds 2 (some .boolean), Cond.fieldLink RX3 37 "InterlockTables$Row" "count" "I", Cond.fieldLink RX3 40 "InterlockTables$Row" "number" "I"]
def wsX5_firstToBar : List Cond := .code yX5_firstToBar cX5_firstToBar 5 (some .int) :: ((wsX5_firstToBar_r1 ++ (wsX5_firstToBar_r2 ++ wsX5_firstToBar_r3)) ++ wsX50 ++ wsJx4a65c0 ++ wsX30 ++ wsX10)
def wsX5_pick_r1 : List Cond := [Cond.fieldLink RX5 12 "InterlockTables$Table" "rows" "Ljava/util/ArrayList;", Cond.classLink RX5 35 "InterlockTables$Row", Cond.methodLink RX5 27 yJx4a65c_size_8abf5, Cond.instanceMethod yJx4a65c_size_8abf5, Cond.selects RJx4a65c yJx4a65c_size_8abf5 yJx4a65c_size_8abf5, Cond.initialized RJx4a65c, Cond.code yJx4a65c_size_8abf5 cJx4a65c_size_8abf5 1 (some .int), Cond.fieldLink RJx4a65c 48 "java/util/ArrayList" "size" "I", Cond.methodLink RX5 31 yJx4a65c_get_915e3, Cond.instanceMethod yJx4a65c_get_915e3, Cond.selects RJx4a65c yJx4a65c_get_915e3 yJx4a65c_get_915e3, Cond.code yJx4a65c_get_915e3 cJx4a65c_get_915e3 2 (some (.object "java/lang/Object")), Cond.methodLink RJx4a65c 118 yJ15_checkIndex_7cf53, Cond.static yJ15_checkIndex_7cf53, Cond.initialized RJ15, Cond.code yJ15_checkIndex_7cf53 cJ15_checkIndex_7cf53 2 (some .int), Cond.methodLink RJ15 105 yJ3_checkIndex_8e157, Cond.static yJ3_checkIndex_8e157, Cond.initialized RJ3, Cond.code yJ3_checkIndex_8e157 cJ3_checkIndex_8e157 3 (some .int), Cond.methodLink RJx4a65c 123 yJx4a65c_elementData_915e3, Cond.instanceMethod yJx4a65c_elementData_915e3, Cond.selects RJx4a65c yJx4a65c_elementData_915e3 yJx4a65c_elementData_915e3, Cond.code yJx4a65c_elementData_915e3 cJx4a65c_elementData_915e3 2 (some (.object "java/lang/Object"))]
def wsX5_pick_r2 : List Cond := [Cond.fieldLink RJx4a65c 9 "java/util/ArrayList" "elementData" "[Ljava/lang/Object;"]
def wsX5_pick : List Cond := .code yX5_pick cX5_pick 6 (some .int) :: ((wsX5_pick_r1 ++ wsX5_pick_r2) ++ wsX50 ++ wsX30 ++ wsJx4a65c0)
def wsX5_passedRow_r1 : List Cond := [Cond.methodLink RX5 67 yX5_pick, Cond.instanceMethod yX5_pick, Cond.selects RX5 yX5_pick yX5_pick, Cond.initialized RX5, Cond.code yX5_pick cX5_pick 6 (some .int), Cond.fieldLink RX5 12 "InterlockTables$Table" "rows" "Ljava/util/ArrayList;", Cond.classLink RX5 35 "InterlockTables$Row", Cond.methodLink RX5 27 yJx4a65c_size_8abf5, Cond.instanceMethod yJx4a65c_size_8abf5, Cond.selects RJx4a65c yJx4a65c_size_8abf5 yJx4a65c_size_8abf5, Cond.initialized RJx4a65c, Cond.code yJx4a65c_size_8abf5 cJx4a65c_size_8abf5 1 (some .int), Cond.fieldLink RJx4a65c 48 "java/util/ArrayList" "size" "I", Cond.methodLink RX5 31 yJx4a65c_get_915e3, Cond.instanceMethod yJx4a65c_get_915e3, Cond.selects RJx4a65c yJx4a65c_get_915e3 yJx4a65c_get_915e3, Cond.code yJx4a65c_get_915e3 cJx4a65c_get_915e3 2 (some (.object "java/lang/Object")), Cond.methodLink RJx4a65c 118 yJ15_checkIndex_7cf53, Cond.static yJ15_checkIndex_7cf53, Cond.initialized RJ15, Cond.code yJ15_checkIndex_7cf53 cJ15_checkIndex_7cf53 2 (some .int), Cond.methodLink RJ15 105 yJ3_checkIndex_8e157, Cond.static yJ3_checkIndex_8e157, Cond.initialized RJ3]
def wsX5_passedRow_r2 : List Cond := [Cond.code yJ3_checkIndex_8e157 cJ3_checkIndex_8e157 3 (some .int), Cond.methodLink RJx4a65c 123 yJx4a65c_elementData_915e3, Cond.instanceMethod yJx4a65c_elementData_915e3, Cond.selects RJx4a65c yJx4a65c_elementData_915e3 yJx4a65c_elementData_915e3, Cond.code yJx4a65c_elementData_915e3 cJx4a65c_elementData_915e3 2 (some (.object "java/lang/Object")), Cond.fieldLink RJx4a65c 9 "java/util/ArrayList" "elementData" "[Ljava/lang/Object;"]
def wsX5_passedRow : List Cond := .code yX5_passedRow cX5_passedRow 2 (some .int) :: ((wsX5_passedRow_r1 ++ wsX5_passedRow_r2) ++ wsX50 ++ wsX30 ++ wsJx4a65c0)
def wsX5_idleRow_r1 : List Cond := [Cond.fieldLink RX5 71 "InterlockTables$Table" "surveyed" "Z", Cond.classLink RX5 75 RX4, Cond.instantiable RX4 5, Cond.initialized RX4, Cond.methodLink RX5 77 yX4_init, Cond.instanceMethod yX4_init, Cond.code yX4_init cX4_init 2 none, Cond.methodLink RX4 3 objectInit, Cond.instanceMethod objectInit, Cond.code objectInit ⟨#[0xb1]⟩ 1 none, Cond.arrayClass .int, Cond.fieldLink RX4 9 "InterlockTables$Survey" "used" "[I", Cond.arrayClass .long, Cond.fieldLink RX4 15 "InterlockTables$Survey" "settings" "[J", Cond.fieldLink RX4 19 "InterlockTables$Survey" "covered" "[J", Cond.fieldLink RX4 22 "InterlockTables$Survey" "table" "LInterlockTables$Table;", Cond.methodLink RX5 80 yX4_markRows, Cond.instanceMethod yX4_markRows, Cond.selects RX4 yX4_markRows yX4_markRows, Cond.code yX4_markRows cX4_markRows 4 none, Cond.fieldLink RX4 29 "InterlockTables$Survey" "usedCount" "I", Cond.methodLink RX4 36 Lib.Math.max.name, Cond.static Lib.Math.max.name, Cond.initialized "java/lang/Math"]
def wsX5_idleRow_r2 : List Cond := [Cond.code Lib.Math.max.name Lib.Math.max.code 2 (some .int), Cond.methodLink RX4 26 yX4_findUsed, Cond.instanceMethod yX4_findUsed, Cond.selects RX4 yX4_findUsed yX4_findUsed, Cond.code yX4_findUsed cX4_findUsed 5 none, Cond.methodLink RX4 59 yX1_size, Cond.instanceMethod yX1_size, Cond.selects RX1 yX1_size yX1_size, Cond.initialized RX1, Cond.code yX1_size cX1_size 1 (some .int), Cond.fieldLink RX1 25 "InterlockTables$Expressions" "size" "I", Cond.methodLink RX4 62 yX1_at, Cond.instanceMethod yX1_at, Cond.selects RX1 yX1_at yX1_at, Cond.code yX1_at cX1_at 2 (some .int), Cond.fieldLink RX1 21 "InterlockTables$Expressions" "code" "[B", Cond.methodLink RX4 66 yX1_isCondition, Cond.static yX1_isCondition, Cond.code yX1_isCondition cX1_isCondition 1 (some .boolean), Cond.methodLink RX4 42 yX5_size, Cond.instanceMethod yX5_size, Cond.selects RX5 yX5_size yX5_size, Cond.initialized RX5, Cond.code yX5_size cX5_size 1 (some .int)]
def wsX5_idleRow_r3 : List Cond := [Cond.fieldLink RX5 12 "InterlockTables$Table" "rows" "Ljava/util/ArrayList;", Cond.methodLink RX5 27 yJx4a65c_size_8abf5, Cond.instanceMethod yJx4a65c_size_8abf5, Cond.selects RJx4a65c yJx4a65c_size_8abf5 yJx4a65c_size_8abf5, Cond.initialized RJx4a65c, Cond.code yJx4a65c_size_8abf5 cJx4a65c_size_8abf5 1 (some .int), Cond.fieldLink RJx4a65c 48 "java/util/ArrayList" "size" "I", Cond.methodLink RX4 48 yX4_set, Cond.instanceMethod yX4_set, Cond.selects RX4 yX4_set yX4_set, Cond.code yX4_set cX4_set 6 none, Cond.methodLink RX4 52 yX4_markBlock, Cond.instanceMethod yX4_markBlock, Cond.selects RX4 yX4_markBlock yX4_markBlock, Cond.code yX4_markBlock cX4_markBlock 5 (some .int), Cond.classLink RX4 86 "InterlockTables$Row", Cond.methodLink RX4 70 yJ7_fill_d0a16, Cond.static yJ7_fill_d0a16, Cond.initialized RJ7, Cond.code yJ7_fill_d0a16 cJ7_fill_d0a16 5 none, Cond.methodLink RX4 80 yJx4a65c_get_915e3, Cond.instanceMethod yJx4a65c_get_915e3, Cond.selects RJx4a65c yJx4a65c_get_915e3 yJx4a65c_get_915e3, Cond.code yJx4a65c_get_915e3 cJx4a65c_get_915e3 2 (some (.object "java/lang/Object"))]
def wsX5_idleRow_r4 : List Cond := [Cond.methodLink RJx4a65c 118 yJ15_checkIndex_7cf53, Cond.static yJ15_checkIndex_7cf53, Cond.initialized RJ15, Cond.code yJ15_checkIndex_7cf53 cJ15_checkIndex_7cf53 2 (some .int), Cond.methodLink RJ15 105 yJ3_checkIndex_8e157, Cond.static yJ3_checkIndex_8e157, Cond.initialized RJ3, Cond.code yJ3_checkIndex_8e157 cJ3_checkIndex_8e157 3 (some .int), Cond.methodLink RJx4a65c 123 yJx4a65c_elementData_915e3, Cond.instanceMethod yJx4a65c_elementData_915e3, Cond.selects RJx4a65c yJx4a65c_elementData_915e3 yJx4a65c_elementData_915e3, Cond.code yJx4a65c_elementData_915e3 cJx4a65c_elementData_915e3 2 (some (.object "java/lang/Object")), Cond.fieldLink RJx4a65c 9 "java/util/ArrayList" "elementData" "[Ljava/lang/Object;", Cond.methodLink RX4 88 yX5_valueOf, Cond.instanceMethod yX5_valueOf, Cond.selects RX5 yX5_valueOf yX5_valueOf, Cond.code yX5_valueOf cX5_valueOf 3 (some .long), Cond.fieldLink RX5 23 "InterlockTables$Table" "expressions" "LInterlockTables$Expressions;", Cond.methodLink RX5 48 yX1_valueOf, Cond.instanceMethod yX1_valueOf, Cond.selects RX1 yX1_valueOf yX1_valueOf, Cond.code yX1_valueOf cX1_valueOf 7 (some .long), Cond.fieldLink RX1 9 "InterlockTables$Expressions" "stack" "[J", Cond.constantLong RX1 37 (-1)]
def wsX5_idleRow_r5 : List Cond := [Cond.methodLink RX1 29 yX1_at, Cond.methodLink RX1 33 yX1_isCondition, Cond.methodLink RX1 39 yX1_join, Cond.static yX1_join, Cond.code yX1_join cX1_join 5 (some .long), Cond.methodLink RX4 92 yX4_cover, Cond.instanceMethod yX4_cover, Cond.selects RX4 yX4_cover yX4_cover, Cond.code yX4_cover cX4_cover 7 (some .boolean), Cond.constantLong RX4 106 (-1), Cond.methodLink RX4 103 yX3_actAt, Cond.instanceMethod yX3_actAt, Cond.selects RX3 yX3_actAt yX3_actAt, Cond.initialized RX3, Cond.code yX3_actAt cX3_actAt 2 (some .int), Cond.fieldLink RX3 19 "InterlockTables$Row" "actCount" "I", Cond.fieldLink RX3 9 "InterlockTables$Row" "acts" "[I", Cond.methodLink RX5 67 yX5_pick, Cond.instanceMethod yX5_pick, Cond.selects RX5 yX5_pick yX5_pick, Cond.code yX5_pick cX5_pick 6 (some .int), Cond.classLink RX5 35 "InterlockTables$Row", Cond.methodLink RX5 31 yJx4a65c_get_915e3]
def wsX5_idleRow : List Cond := .code yX5_idleRow cX5_idleRow 2 (some .int) :: ((wsX5_idleRow_r1 ++ (wsX5_idleRow_r2 ++ (wsX5_idleRow_r3 ++ (wsX5_idleRow_r4 ++ wsX5_idleRow_r5)))) ++ wsX50 ++ wsX40 ++ wsX10 ++ wsJx4a65c0 ++ wsX30)
def wsX7_init : List Cond := .code yX7_init cX7_init 2 none :: ([.methodLink RX7 3 objectInit, .instanceMethod objectInit, .code objectInit ⟨#[0xb1]⟩ 1 none, .classLink RX7 9 RX0, .instantiable RX0 3, .initialized RX0, .fieldLink RX7 14 "InterlockTables$Writer" "out" "LInterlockTables$Bytes;", .fieldLink RX7 20 "InterlockTables$Writer" "expressions" "LInterlockTables$Expressions;", .methodLink RX7 11 yX0_init, .instanceMethod yX0_init, .code yX0_init cX0_init 2 none, .methodLink RX0 3 objectInit, .fieldLink RX0 9 "InterlockTables$Bytes" "limit" "I", .arrayClass .byte, .fieldLink RX0 15 "InterlockTables$Bytes" "room" "[B", .fieldLink RX0 19 "InterlockTables$Bytes" "length" "I"] ++ wsX00 ++ wsX70)
def wsJ0_coder_7d493 : List Cond := .code yJ0_coder_7d493 cJ0_coder_7d493 1 (some .byte) :: ([.fieldLink RJ0 38 "java/lang/String" "COMPACT_STRINGS" "Z", .fieldLink RJ0 15 "java/lang/String" "coder" "B"])
def wsJ0_length_8abf5 : List Cond := .code yJ0_length_8abf5 cJ0_length_8abf5 1 (some .int) :: ([.fieldLink RJ0 9 "java/lang/String" "value" "[B", .methodLink RJ0 335 yJ0_coder_7d493, .instanceMethod yJ0_coder_7d493, .selects RJ0 yJ0_coder_7d493 yJ0_coder_7d493, .initialized RJ0, .code yJ0_coder_7d493 cJ0_coder_7d493 1 (some .byte), .fieldLink RJ0 38 "java/lang/String" "COMPACT_STRINGS" "Z", .fieldLink RJ0 15 "java/lang/String" "coder" "B"])
def wsJ0_isLatin1_aae02 : List Cond := .code yJ0_isLatin1_aae02 cJ0_isLatin1_aae02 1 (some .boolean) :: ([.fieldLink RJ0 38 "java/lang/String" "COMPACT_STRINGS" "Z", .fieldLink RJ0 15 "java/lang/String" "coder" "B"])
def wsJ0_checkIndex_df160 : List Cond := .code yJ0_checkIndex_df160 cJ0_checkIndex_df160 2 none :: ([.fieldLink RJ0 1053 "jdk/internal/util/Preconditions" "SIOOBE_FORMATTER" "Ljava/util/function/BiFunction;", .methodLink RJ0 1059 yJ3_checkIndex_8e157, .static yJ3_checkIndex_8e157, .initialized RJ3, .code yJ3_checkIndex_8e157 cJ3_checkIndex_8e157 3 (some .int)])
def wsJ1_charAt_3b067 : List Cond := .code yJ1_charAt_3b067 cJ1_charAt_3b067 2 (some .char) :: ([.methodLink RJ1 9 yJ0_checkIndex_df160, .static yJ0_checkIndex_df160, .initialized RJ0, .code yJ0_checkIndex_df160 cJ0_checkIndex_df160 2 none, .fieldLink RJ0 1053 "jdk/internal/util/Preconditions" "SIOOBE_FORMATTER" "Ljava/util/function/BiFunction;", .methodLink RJ0 1059 yJ3_checkIndex_8e157, .static yJ3_checkIndex_8e157, .initialized RJ3, .code yJ3_checkIndex_8e157 cJ3_checkIndex_8e157 3 (some .int)])
def wsJ2_length_9d52b : List Cond := .code yJ2_length_9d52b cJ2_length_9d52b 1 (some .int) :: ([])
def wsJ2_checkIndex_2214a : List Cond := .code yJ2_checkIndex_2214a cJ2_checkIndex_2214a 2 none :: ([.methodLink RJ2 48 yJ2_length_9d52b, .static yJ2_length_9d52b, .initialized RJ2, .code yJ2_length_9d52b cJ2_length_9d52b 1 (some .int), .methodLink RJ2 414 yJ0_checkIndex_df160, .static yJ0_checkIndex_df160, .initialized RJ0, .code yJ0_checkIndex_df160 cJ0_checkIndex_df160 2 none, .fieldLink RJ0 1053 "jdk/internal/util/Preconditions" "SIOOBE_FORMATTER" "Ljava/util/function/BiFunction;", .methodLink RJ0 1059 yJ3_checkIndex_8e157, .static yJ3_checkIndex_8e157, .initialized RJ3, .code yJ3_checkIndex_8e157 cJ3_checkIndex_8e157 3 (some .int)])
def wsJ2_getChar_3b067 : List Cond := .code yJ2_getChar_3b067 cJ2_getChar_3b067 2 (some .char) :: ([.fieldLink RJ2 44 "java/lang/StringUTF16" "$assertionsDisabled" "Z", .fieldLink RJ2 59 "java/lang/StringUTF16" "HI_BYTE_SHIFT" "I", .fieldLink RJ2 63 "java/lang/StringUTF16" "LO_BYTE_SHIFT" "I", .methodLink RJ2 48 yJ2_length_9d52b, .static yJ2_length_9d52b, .initialized RJ2, .code yJ2_length_9d52b cJ2_length_9d52b 1 (some .int)])
def wsJ2_charAt_3b067 : List Cond := .code yJ2_charAt_3b067 cJ2_charAt_3b067 2 (some .char) :: ([.methodLink RJ2 67 yJ2_checkIndex_2214a, .static yJ2_checkIndex_2214a, .initialized RJ2, .code yJ2_checkIndex_2214a cJ2_checkIndex_2214a 2 none, .methodLink RJ2 48 yJ2_length_9d52b, .static yJ2_length_9d52b, .code yJ2_length_9d52b cJ2_length_9d52b 1 (some .int), .methodLink RJ2 414 yJ0_checkIndex_df160, .static yJ0_checkIndex_df160, .initialized RJ0, .code yJ0_checkIndex_df160 cJ0_checkIndex_df160 2 none, .fieldLink RJ0 1053 "jdk/internal/util/Preconditions" "SIOOBE_FORMATTER" "Ljava/util/function/BiFunction;", .methodLink RJ0 1059 yJ3_checkIndex_8e157, .static yJ3_checkIndex_8e157, .initialized RJ3, .code yJ3_checkIndex_8e157 cJ3_checkIndex_8e157 3 (some .int), .methodLink RJ2 71 yJ2_getChar_3b067, .static yJ2_getChar_3b067, .code yJ2_getChar_3b067 cJ2_getChar_3b067 2 (some .char), .fieldLink RJ2 44 "java/lang/StringUTF16" "$assertionsDisabled" "Z", .fieldLink RJ2 59 "java/lang/StringUTF16" "HI_BYTE_SHIFT" "I", .fieldLink RJ2 63 "java/lang/StringUTF16" "LO_BYTE_SHIFT" "I"])
def wsJ0_charAt_5068e_r1 : List Cond := [Cond.fieldLink RJ0 9 "java/lang/String" "value" "[B", Cond.methodLink RJ0 492 yJ0_isLatin1_aae02, Cond.instanceMethod yJ0_isLatin1_aae02, Cond.selects RJ0 yJ0_isLatin1_aae02 yJ0_isLatin1_aae02, Cond.initialized RJ0, Cond.code yJ0_isLatin1_aae02 cJ0_isLatin1_aae02 1 (some .boolean), Cond.fieldLink RJ0 38 "java/lang/String" "COMPACT_STRINGS" "Z", Cond.fieldLink RJ0 15 "java/lang/String" "coder" "B", Cond.methodLink RJ0 495 yJ1_charAt_3b067, Cond.static yJ1_charAt_3b067, Cond.initialized RJ1, Cond.code yJ1_charAt_3b067 cJ1_charAt_3b067 2 (some .char), Cond.methodLink RJ1 9 yJ0_checkIndex_df160, Cond.static yJ0_checkIndex_df160, Cond.code yJ0_checkIndex_df160 cJ0_checkIndex_df160 2 none, Cond.fieldLink RJ0 1053 "jdk/internal/util/Preconditions" "SIOOBE_FORMATTER" "Ljava/util/function/BiFunction;", Cond.methodLink RJ0 1059 yJ3_checkIndex_8e157, Cond.static yJ3_checkIndex_8e157, Cond.initialized RJ3, Cond.code yJ3_checkIndex_8e157 cJ3_checkIndex_8e157 3 (some .int), Cond.methodLink RJ0 498 yJ2_charAt_3b067, Cond.static yJ2_charAt_3b067, Cond.initialized RJ2, Cond.code yJ2_charAt_3b067 cJ2_charAt_3b067 2 (some .char)]
def wsJ0_charAt_5068e_r2 : List Cond := [Cond.methodLink RJ2 67 yJ2_checkIndex_2214a, Cond.static yJ2_checkIndex_2214a, Cond.code yJ2_checkIndex_2214a cJ2_checkIndex_2214a 2 none, Cond.methodLink RJ2 48 yJ2_length_9d52b, Cond.static yJ2_length_9d52b, Cond.code yJ2_length_9d52b cJ2_length_9d52b 1 (some .int), Cond.methodLink RJ2 414 yJ0_checkIndex_df160, Cond.methodLink RJ2 71 yJ2_getChar_3b067, Cond.static yJ2_getChar_3b067, Cond.code yJ2_getChar_3b067 cJ2_getChar_3b067 2 (some .char), Cond.fieldLink RJ2 44 "java/lang/StringUTF16" "$assertionsDisabled" "Z", Cond.fieldLink RJ2 59 "java/lang/StringUTF16" "HI_BYTE_SHIFT" "I", Cond.fieldLink RJ2 63 "java/lang/StringUTF16" "LO_BYTE_SHIFT" "I"]
def wsJ0_charAt_5068e : List Cond := .code yJ0_charAt_5068e cJ0_charAt_5068e 2 (some .char) :: ((wsJ0_charAt_5068e_r1 ++ wsJ0_charAt_5068e_r2))
def wsX7_putWord_r1 : List Cond := [Cond.fieldLink RX7 74 "InterlockTables$Writer" "blankDue" "Z", Cond.fieldLink RX7 14 "InterlockTables$Writer" "out" "LInterlockTables$Bytes;", Cond.methodLink RX7 70 yX0_add, Cond.instanceMethod yX0_add, Cond.selects RX0 yX0_add yX0_add, Cond.initialized RX0, Cond.code yX0_add cX0_add 2 (some .boolean), Cond.fieldLink RX0 19 "InterlockTables$Bytes" "length" "I", Cond.fieldLink RX0 9 "InterlockTables$Bytes" "limit" "I", Cond.fieldLink RX0 15 "InterlockTables$Bytes" "room" "[B", Cond.methodLink RX0 22 yJ7_copyOf_9075b, Cond.static yJ7_copyOf_9075b, Cond.initialized RJ7, Cond.code yJ7_copyOf_9075b cJ7_copyOf_9075b 3 (some (.array .byte)), Cond.methodLink RJ7 310 ⟨"[B", "clone", "()Ljava/lang/Object;"⟩, Cond.sameMethod "[B" "java/lang/Object" "clone" "()Ljava/lang/Object;", Cond.native ⟨"java/lang/Object", "clone", "()Ljava/lang/Object;"⟩, Cond.instanceMethod ⟨"java/lang/Object", "clone", "()Ljava/lang/Object;"⟩, Cond.selects "[B" ⟨"[B", "clone", "()Ljava/lang/Object;"⟩ ⟨"java/lang/Object", "clone", "()Ljava/lang/Object;"⟩, Cond.classLink RJ7 311 "[B", Cond.arrayClass .byte, Cond.methodLink RJ7 304 Lib.Math.min.name, Cond.static Lib.Math.min.name, Cond.initialized "java/lang/Math"]
def wsX7_putWord_r2 : List Cond := [Cond.code Lib.Math.min.name Lib.Math.min.code 2 (some .int), Cond.methodLink RJ7 150 arraycopyName, Cond.native arraycopyName, Cond.static arraycopyName, Cond.initialized "java/lang/System", Cond.methodLink RX7 101 yJ0_length_8abf5, Cond.instanceMethod yJ0_length_8abf5, Cond.selects RJ0 yJ0_length_8abf5 yJ0_length_8abf5, Cond.initialized RJ0, Cond.code yJ0_length_8abf5 cJ0_length_8abf5 1 (some .int), Cond.fieldLink RJ0 9 "java/lang/String" "value" "[B", Cond.methodLink RJ0 335 yJ0_coder_7d493, Cond.instanceMethod yJ0_coder_7d493, Cond.selects RJ0 yJ0_coder_7d493 yJ0_coder_7d493, Cond.code yJ0_coder_7d493 cJ0_coder_7d493 1 (some .byte), Cond.fieldLink RJ0 38 "java/lang/String" "COMPACT_STRINGS" "Z", Cond.fieldLink RJ0 15 "java/lang/String" "coder" "B", Cond.methodLink RX7 107 yJ0_charAt_5068e, Cond.instanceMethod yJ0_charAt_5068e, Cond.selects RJ0 yJ0_charAt_5068e yJ0_charAt_5068e, Cond.code yJ0_charAt_5068e cJ0_charAt_5068e 2 (some .char), Cond.methodLink RJ0 492 yJ0_isLatin1_aae02, Cond.instanceMethod yJ0_isLatin1_aae02, Cond.selects RJ0 yJ0_isLatin1_aae02 yJ0_isLatin1_aae02]
def wsX7_putWord_r3 : List Cond := [Cond.code yJ0_isLatin1_aae02 cJ0_isLatin1_aae02 1 (some .boolean), Cond.methodLink RJ0 495 yJ1_charAt_3b067, Cond.static yJ1_charAt_3b067, Cond.initialized RJ1, Cond.code yJ1_charAt_3b067 cJ1_charAt_3b067 2 (some .char), Cond.methodLink RJ1 9 yJ0_checkIndex_df160, Cond.static yJ0_checkIndex_df160, Cond.code yJ0_checkIndex_df160 cJ0_checkIndex_df160 2 none, Cond.fieldLink RJ0 1053 "jdk/internal/util/Preconditions" "SIOOBE_FORMATTER" "Ljava/util/function/BiFunction;", Cond.methodLink RJ0 1059 yJ3_checkIndex_8e157, Cond.static yJ3_checkIndex_8e157, Cond.initialized RJ3, Cond.code yJ3_checkIndex_8e157 cJ3_checkIndex_8e157 3 (some .int), Cond.methodLink RJ0 498 yJ2_charAt_3b067, Cond.static yJ2_charAt_3b067, Cond.initialized RJ2, Cond.code yJ2_charAt_3b067 cJ2_charAt_3b067 2 (some .char), Cond.methodLink RJ2 67 yJ2_checkIndex_2214a, Cond.static yJ2_checkIndex_2214a, Cond.code yJ2_checkIndex_2214a cJ2_checkIndex_2214a 2 none, Cond.methodLink RJ2 48 yJ2_length_9d52b, Cond.static yJ2_length_9d52b, Cond.code yJ2_length_9d52b cJ2_length_9d52b 1 (some .int), Cond.methodLink RJ2 414 yJ0_checkIndex_df160]
def wsX7_putWord_r4 : List Cond := [Cond.methodLink RJ2 71 yJ2_getChar_3b067, Cond.static yJ2_getChar_3b067, Cond.code yJ2_getChar_3b067 cJ2_getChar_3b067 2 (some .char), Cond.fieldLink RJ2 44 "java/lang/StringUTF16" "$assertionsDisabled" "Z", Cond.fieldLink RJ2 59 "java/lang/StringUTF16" "HI_BYTE_SHIFT" "I", Cond.fieldLink RJ2 63 "java/lang/StringUTF16" "LO_BYTE_SHIFT" "I"]
def wsX7_putWord : List Cond := .code yX7_putWord cX7_putWord 3 none :: ((wsX7_putWord_r1 ++ (wsX7_putWord_r2 ++ (wsX7_putWord_r3 ++ wsX7_putWord_r4))) ++ wsX70 ++ wsX00)
def wsX7_putDigits_r1 : List Cond := [Cond.fieldLink RX7 14 "InterlockTables$Writer" "out" "LInterlockTables$Bytes;", Cond.methodLink RX7 70 yX0_add, Cond.instanceMethod yX0_add, Cond.selects RX0 yX0_add yX0_add, Cond.initialized RX0, Cond.code yX0_add cX0_add 2 (some .boolean), Cond.fieldLink RX0 19 "InterlockTables$Bytes" "length" "I", Cond.fieldLink RX0 9 "InterlockTables$Bytes" "limit" "I", Cond.fieldLink RX0 15 "InterlockTables$Bytes" "room" "[B", Cond.methodLink RX0 22 yJ7_copyOf_9075b, Cond.static yJ7_copyOf_9075b, Cond.initialized RJ7, Cond.code yJ7_copyOf_9075b cJ7_copyOf_9075b 3 (some (.array .byte)), Cond.methodLink RJ7 310 ⟨"[B", "clone", "()Ljava/lang/Object;"⟩, Cond.sameMethod "[B" "java/lang/Object" "clone" "()Ljava/lang/Object;", Cond.native ⟨"java/lang/Object", "clone", "()Ljava/lang/Object;"⟩, Cond.instanceMethod ⟨"java/lang/Object", "clone", "()Ljava/lang/Object;"⟩, Cond.selects "[B" ⟨"[B", "clone", "()Ljava/lang/Object;"⟩ ⟨"java/lang/Object", "clone", "()Ljava/lang/Object;"⟩, Cond.classLink RJ7 311 "[B", Cond.arrayClass .byte, Cond.methodLink RJ7 304 Lib.Math.min.name, Cond.static Lib.Math.min.name, Cond.initialized "java/lang/Math", Cond.code Lib.Math.min.name Lib.Math.min.code 2 (some .int)]
def wsX7_putDigits_r2 : List Cond := [Cond.methodLink RJ7 150 arraycopyName, Cond.native arraycopyName, Cond.static arraycopyName, Cond.initialized "java/lang/System"]
def wsX7_putDigits : List Cond := .code yX7_putDigits cX7_putDigits 3 none :: ((wsX7_putDigits_r1 ++ wsX7_putDigits_r2) ++ wsX70 ++ wsX00)
def wsX7_isOr : List Cond := .code yX7_isOr cX7_isOr 2 (some .boolean) :: ([.fieldLink RX7 20 "InterlockTables$Writer" "expressions" "LInterlockTables$Expressions;", .methodLink RX7 79 yX1_at, .instanceMethod yX1_at, .selects RX1 yX1_at yX1_at, .initialized RX1, .code yX1_at cX1_at 2 (some .int), .fieldLink RX1 25 "InterlockTables$Expressions" "size" "I", .fieldLink RX1 21 "InterlockTables$Expressions" "code" "[B"] ++ wsX70 ++ wsX10)
def wsX7_isJoin : List Cond := .code yX7_isJoin cX7_isJoin 2 (some .boolean) :: ([.fieldLink RX7 20 "InterlockTables$Writer" "expressions" "LInterlockTables$Expressions;", .methodLink RX7 79 yX1_at, .instanceMethod yX1_at, .selects RX1 yX1_at yX1_at, .initialized RX1, .code yX1_at cX1_at 2 (some .int), .fieldLink RX1 25 "InterlockTables$Expressions" "size" "I", .fieldLink RX1 21 "InterlockTables$Expressions" "code" "[B", .methodLink RX7 92 yX7_isOr, .instanceMethod yX7_isOr, .selects RX7 yX7_isOr yX7_isOr, .initialized RX7, .code yX7_isOr cX7_isOr 2 (some .boolean)] ++ wsX70 ++ wsX10)
def wsX7_putExpression_r1 : List Cond := [Cond.fieldLink RX7 74 "InterlockTables$Writer" "blankDue" "Z", Cond.fieldLink RX7 20 "InterlockTables$Writer" "expressions" "LInterlockTables$Expressions;", Cond.fieldLink RX7 14 "InterlockTables$Writer" "out" "LInterlockTables$Bytes;", Cond.methodLink RX7 26 yX7_putWord, Cond.instanceMethod yX7_putWord, Cond.selects RX7 yX7_putWord yX7_putWord, Cond.initialized RX7, Cond.code yX7_putWord cX7_putWord 3 none, Cond.methodLink RX7 70 yX0_add, Cond.instanceMethod yX0_add, Cond.selects RX0 yX0_add yX0_add, Cond.initialized RX0, Cond.code yX0_add cX0_add 2 (some .boolean), Cond.fieldLink RX0 19 "InterlockTables$Bytes" "length" "I", Cond.fieldLink RX0 9 "InterlockTables$Bytes" "limit" "I", Cond.fieldLink RX0 15 "InterlockTables$Bytes" "room" "[B", Cond.methodLink RX0 22 yJ7_copyOf_9075b, Cond.static yJ7_copyOf_9075b, Cond.initialized RJ7, Cond.code yJ7_copyOf_9075b cJ7_copyOf_9075b 3 (some (.array .byte)), Cond.methodLink RJ7 310 ⟨"[B", "clone", "()Ljava/lang/Object;"⟩, Cond.sameMethod "[B" "java/lang/Object" "clone" "()Ljava/lang/Object;", Cond.native ⟨"java/lang/Object", "clone", "()Ljava/lang/Object;"⟩, Cond.instanceMethod ⟨"java/lang/Object", "clone", "()Ljava/lang/Object;"⟩]
def wsX7_putExpression_r2 : List Cond := [Cond.selects "[B" ⟨"[B", "clone", "()Ljava/lang/Object;"⟩ ⟨"java/lang/Object", "clone", "()Ljava/lang/Object;"⟩, Cond.classLink RJ7 311 "[B", Cond.arrayClass .byte, Cond.methodLink RJ7 304 Lib.Math.min.name, Cond.static Lib.Math.min.name, Cond.initialized "java/lang/Math", Cond.code Lib.Math.min.name Lib.Math.min.code 2 (some .int), Cond.methodLink RJ7 150 arraycopyName, Cond.native arraycopyName, Cond.static arraycopyName, Cond.initialized "java/lang/System", Cond.methodLink RX7 101 yJ0_length_8abf5, Cond.instanceMethod yJ0_length_8abf5, Cond.selects RJ0 yJ0_length_8abf5 yJ0_length_8abf5, Cond.initialized RJ0, Cond.code yJ0_length_8abf5 cJ0_length_8abf5 1 (some .int), Cond.fieldLink RJ0 9 "java/lang/String" "value" "[B", Cond.methodLink RJ0 335 yJ0_coder_7d493, Cond.instanceMethod yJ0_coder_7d493, Cond.selects RJ0 yJ0_coder_7d493 yJ0_coder_7d493, Cond.code yJ0_coder_7d493 cJ0_coder_7d493 1 (some .byte), Cond.fieldLink RJ0 38 "java/lang/String" "COMPACT_STRINGS" "Z", Cond.fieldLink RJ0 15 "java/lang/String" "coder" "B", Cond.methodLink RX7 107 yJ0_charAt_5068e]
def wsX7_putExpression_r3 : List Cond := [Cond.instanceMethod yJ0_charAt_5068e, Cond.selects RJ0 yJ0_charAt_5068e yJ0_charAt_5068e, Cond.code yJ0_charAt_5068e cJ0_charAt_5068e 2 (some .char), Cond.methodLink RJ0 492 yJ0_isLatin1_aae02, Cond.instanceMethod yJ0_isLatin1_aae02, Cond.selects RJ0 yJ0_isLatin1_aae02 yJ0_isLatin1_aae02, Cond.code yJ0_isLatin1_aae02 cJ0_isLatin1_aae02 1 (some .boolean), Cond.methodLink RJ0 495 yJ1_charAt_3b067, Cond.static yJ1_charAt_3b067, Cond.initialized RJ1, Cond.code yJ1_charAt_3b067 cJ1_charAt_3b067 2 (some .char), Cond.methodLink RJ1 9 yJ0_checkIndex_df160, Cond.static yJ0_checkIndex_df160, Cond.code yJ0_checkIndex_df160 cJ0_checkIndex_df160 2 none, Cond.fieldLink RJ0 1053 "jdk/internal/util/Preconditions" "SIOOBE_FORMATTER" "Ljava/util/function/BiFunction;", Cond.methodLink RJ0 1059 yJ3_checkIndex_8e157, Cond.static yJ3_checkIndex_8e157, Cond.initialized RJ3, Cond.code yJ3_checkIndex_8e157 cJ3_checkIndex_8e157 3 (some .int), Cond.methodLink RJ0 498 yJ2_charAt_3b067, Cond.static yJ2_charAt_3b067, Cond.initialized RJ2, Cond.code yJ2_charAt_3b067 cJ2_charAt_3b067 2 (some .char), Cond.methodLink RJ2 67 yJ2_checkIndex_2214a]
def wsX7_putExpression_r4 : List Cond := [Cond.static yJ2_checkIndex_2214a, Cond.code yJ2_checkIndex_2214a cJ2_checkIndex_2214a 2 none, Cond.methodLink RJ2 48 yJ2_length_9d52b, Cond.static yJ2_length_9d52b, Cond.code yJ2_length_9d52b cJ2_length_9d52b 1 (some .int), Cond.methodLink RJ2 414 yJ0_checkIndex_df160, Cond.methodLink RJ2 71 yJ2_getChar_3b067, Cond.static yJ2_getChar_3b067, Cond.code yJ2_getChar_3b067 cJ2_getChar_3b067 2 (some .char), Cond.fieldLink RJ2 44 "java/lang/StringUTF16" "$assertionsDisabled" "Z", Cond.fieldLink RJ2 59 "java/lang/StringUTF16" "HI_BYTE_SHIFT" "I", Cond.fieldLink RJ2 63 "java/lang/StringUTF16" "LO_BYTE_SHIFT" "I", Cond.methodLink RX7 79 yX1_at, Cond.instanceMethod yX1_at, Cond.selects RX1 yX1_at yX1_at, Cond.initialized RX1, Cond.code yX1_at cX1_at 2 (some .int), Cond.fieldLink RX1 25 "InterlockTables$Expressions" "size" "I", Cond.fieldLink RX1 21 "InterlockTables$Expressions" "code" "[B", Cond.methodLink RX7 86 yX7_isJoin, Cond.instanceMethod yX7_isJoin, Cond.selects RX7 yX7_isJoin yX7_isJoin, Cond.code yX7_isJoin cX7_isJoin 2 (some .boolean), Cond.methodLink RX7 92 yX7_isOr]
def wsX7_putExpression_r5 : List Cond := [Cond.instanceMethod yX7_isOr, Cond.selects RX7 yX7_isOr yX7_isOr, Cond.code yX7_isOr cX7_isOr 2 (some .boolean), Cond.methodLink RX7 50 yX7_putExpression, Cond.instanceMethod yX7_putExpression, Cond.selects RX7 yX7_putExpression yX7_putExpression, Cond.methodLink RX7 89 yX1_leftOf, Cond.instanceMethod yX1_leftOf, Cond.selects RX1 yX1_leftOf yX1_leftOf, Cond.code yX1_leftOf cX1_leftOf 4 (some .int), Cond.methodLink RX1 29 yX1_at, Cond.methodLink RX1 33 yX1_isCondition, Cond.static yX1_isCondition, Cond.code yX1_isCondition cX1_isCondition 1 (some .boolean), Cond.methodLink RX7 42 yX7_putDigits, Cond.instanceMethod yX7_putDigits, Cond.selects RX7 yX7_putDigits yX7_putDigits, Cond.code yX7_putDigits cX7_putDigits 3 none]
def wsX7_putExpression : List Cond := .code yX7_putExpression cX7_putExpression 7 none :: ((wsX7_putExpression_r1 ++ (wsX7_putExpression_r2 ++ (wsX7_putExpression_r3 ++ (wsX7_putExpression_r4 ++ wsX7_putExpression_r5)))) ++ wsX70 ++ wsX00 ++ wsX10)
def wsX7_putRow_r1 : List Cond := [Cond.fieldLink RX7 14 "InterlockTables$Writer" "out" "LInterlockTables$Bytes;", Cond.fieldLink RX7 74 "InterlockTables$Writer" "blankDue" "Z", Cond.methodLink RX7 26 yX7_putWord, Cond.instanceMethod yX7_putWord, Cond.selects RX7 yX7_putWord yX7_putWord, Cond.initialized RX7, Cond.code yX7_putWord cX7_putWord 3 none, Cond.methodLink RX7 70 yX0_add, Cond.instanceMethod yX0_add, Cond.selects RX0 yX0_add yX0_add, Cond.initialized RX0, Cond.code yX0_add cX0_add 2 (some .boolean), Cond.fieldLink RX0 19 "InterlockTables$Bytes" "length" "I", Cond.fieldLink RX0 9 "InterlockTables$Bytes" "limit" "I", Cond.fieldLink RX0 15 "InterlockTables$Bytes" "room" "[B", Cond.methodLink RX0 22 yJ7_copyOf_9075b, Cond.static yJ7_copyOf_9075b, Cond.initialized RJ7, Cond.code yJ7_copyOf_9075b cJ7_copyOf_9075b 3 (some (.array .byte)), Cond.methodLink RJ7 310 ⟨"[B", "clone", "()Ljava/lang/Object;"⟩, Cond.sameMethod "[B" "java/lang/Object" "clone" "()Ljava/lang/Object;", Cond.native ⟨"java/lang/Object", "clone", "()Ljava/lang/Object;"⟩, Cond.instanceMethod ⟨"java/lang/Object", "clone", "()Ljava/lang/Object;"⟩, Cond.selects "[B" ⟨"[B", "clone", "()Ljava/lang/Object;"⟩ ⟨"java/lang/Object", "clone", "()Ljava/lang/Object;"⟩]
def wsX7_putRow_r2 : List Cond := [Cond.classLink RJ7 311 "[B", Cond.arrayClass .byte, Cond.methodLink RJ7 304 Lib.Math.min.name, Cond.static Lib.Math.min.name, Cond.initialized "java/lang/Math", Cond.code Lib.Math.min.name Lib.Math.min.code 2 (some .int), Cond.methodLink RJ7 150 arraycopyName, Cond.native arraycopyName, Cond.static arraycopyName, Cond.initialized "java/lang/System", Cond.methodLink RX7 101 yJ0_length_8abf5, Cond.instanceMethod yJ0_length_8abf5, Cond.selects RJ0 yJ0_length_8abf5 yJ0_length_8abf5, Cond.initialized RJ0, Cond.code yJ0_length_8abf5 cJ0_length_8abf5 1 (some .int), Cond.fieldLink RJ0 9 "java/lang/String" "value" "[B", Cond.methodLink RJ0 335 yJ0_coder_7d493, Cond.instanceMethod yJ0_coder_7d493, Cond.selects RJ0 yJ0_coder_7d493 yJ0_coder_7d493, Cond.code yJ0_coder_7d493 cJ0_coder_7d493 1 (some .byte), Cond.fieldLink RJ0 38 "java/lang/String" "COMPACT_STRINGS" "Z", Cond.fieldLink RJ0 15 "java/lang/String" "coder" "B", Cond.methodLink RX7 107 yJ0_charAt_5068e, Cond.instanceMethod yJ0_charAt_5068e]
def wsX7_putRow_r3 : List Cond := [Cond.selects RJ0 yJ0_charAt_5068e yJ0_charAt_5068e, Cond.code yJ0_charAt_5068e cJ0_charAt_5068e 2 (some .char), Cond.methodLink RJ0 492 yJ0_isLatin1_aae02, Cond.instanceMethod yJ0_isLatin1_aae02, Cond.selects RJ0 yJ0_isLatin1_aae02 yJ0_isLatin1_aae02, Cond.code yJ0_isLatin1_aae02 cJ0_isLatin1_aae02 1 (some .boolean), Cond.methodLink RJ0 495 yJ1_charAt_3b067, Cond.static yJ1_charAt_3b067, Cond.initialized RJ1, Cond.code yJ1_charAt_3b067 cJ1_charAt_3b067 2 (some .char), Cond.methodLink RJ1 9 yJ0_checkIndex_df160, Cond.static yJ0_checkIndex_df160, Cond.code yJ0_checkIndex_df160 cJ0_checkIndex_df160 2 none, Cond.fieldLink RJ0 1053 "jdk/internal/util/Preconditions" "SIOOBE_FORMATTER" "Ljava/util/function/BiFunction;", Cond.methodLink RJ0 1059 yJ3_checkIndex_8e157, Cond.static yJ3_checkIndex_8e157, Cond.initialized RJ3, Cond.code yJ3_checkIndex_8e157 cJ3_checkIndex_8e157 3 (some .int), Cond.methodLink RJ0 498 yJ2_charAt_3b067, Cond.static yJ2_charAt_3b067, Cond.initialized RJ2, Cond.code yJ2_charAt_3b067 cJ2_charAt_3b067 2 (some .char), Cond.methodLink RJ2 67 yJ2_checkIndex_2214a, Cond.static yJ2_checkIndex_2214a]
def wsX7_putRow_r4 : List Cond := [Cond.code yJ2_checkIndex_2214a cJ2_checkIndex_2214a 2 none, Cond.methodLink RJ2 48 yJ2_length_9d52b, Cond.static yJ2_length_9d52b, Cond.code yJ2_length_9d52b cJ2_length_9d52b 1 (some .int), Cond.methodLink RJ2 414 yJ0_checkIndex_df160, Cond.methodLink RJ2 71 yJ2_getChar_3b067, Cond.static yJ2_getChar_3b067, Cond.code yJ2_getChar_3b067 cJ2_getChar_3b067 2 (some .char), Cond.fieldLink RJ2 44 "java/lang/StringUTF16" "$assertionsDisabled" "Z", Cond.fieldLink RJ2 59 "java/lang/StringUTF16" "HI_BYTE_SHIFT" "I", Cond.fieldLink RJ2 63 "java/lang/StringUTF16" "LO_BYTE_SHIFT" "I", Cond.methodLink RX7 38 yX3_actAt, Cond.instanceMethod yX3_actAt, Cond.selects RX3 yX3_actAt yX3_actAt, Cond.initialized RX3, Cond.code yX3_actAt cX3_actAt 2 (some .int), Cond.fieldLink RX3 19 "InterlockTables$Row" "actCount" "I", Cond.fieldLink RX3 9 "InterlockTables$Row" "acts" "[I", Cond.methodLink RX7 42 yX7_putDigits, Cond.instanceMethod yX7_putDigits, Cond.selects RX7 yX7_putDigits yX7_putDigits, Cond.code yX7_putDigits cX7_putDigits 3 none, Cond.methodLink RX7 50 yX7_putExpression, Cond.instanceMethod yX7_putExpression]
def wsX7_putRow_r5 : List Cond := [Cond.selects RX7 yX7_putExpression yX7_putExpression, Cond.code yX7_putExpression cX7_putExpression 7 none, Cond.fieldLink RX7 20 "InterlockTables$Writer" "expressions" "LInterlockTables$Expressions;", Cond.methodLink RX7 79 yX1_at, Cond.instanceMethod yX1_at, Cond.selects RX1 yX1_at yX1_at, Cond.initialized RX1, Cond.code yX1_at cX1_at 2 (some .int), Cond.fieldLink RX1 25 "InterlockTables$Expressions" "size" "I", Cond.fieldLink RX1 21 "InterlockTables$Expressions" "code" "[B", Cond.methodLink RX7 86 yX7_isJoin, Cond.instanceMethod yX7_isJoin, Cond.selects RX7 yX7_isJoin yX7_isJoin, Cond.code yX7_isJoin cX7_isJoin 2 (some .boolean), Cond.methodLink RX7 92 yX7_isOr, Cond.instanceMethod yX7_isOr, Cond.selects RX7 yX7_isOr yX7_isOr, Cond.code yX7_isOr cX7_isOr 2 (some .boolean), Cond.methodLink RX7 89 yX1_leftOf, Cond.instanceMethod yX1_leftOf, Cond.selects RX1 yX1_leftOf yX1_leftOf, Cond.code yX1_leftOf cX1_leftOf 4 (some .int), Cond.methodLink RX1 29 yX1_at, Cond.methodLink RX1 33 yX1_isCondition]
def wsX7_putRow_r6 : List Cond := [Cond.static yX1_isCondition, Cond.code yX1_isCondition cX1_isCondition 1 (some .boolean)]
def wsX7_putRow : List Cond := .code yX7_putRow cX7_putRow 3 none :: ((wsX7_putRow_r1 ++ (wsX7_putRow_r2 ++ (wsX7_putRow_r3 ++ (wsX7_putRow_r4 ++ (wsX7_putRow_r5 ++ wsX7_putRow_r6))))) ++ wsX30 ++ wsX70 ++ wsX00 ++ wsX10)
def wsX5_written_r1 : List Cond := [Cond.fieldLink RX5 89 "InterlockTables$Table" "written" "LInterlockTables$Bytes;", Cond.classLink RX5 93 RX7, Cond.instantiable RX7 3, Cond.initialized RX7, Cond.fieldLink RX5 23 "InterlockTables$Table" "expressions" "LInterlockTables$Expressions;", Cond.fieldLink RX5 12 "InterlockTables$Table" "rows" "Ljava/util/ArrayList;", Cond.classLink RX5 35 "InterlockTables$Row", Cond.methodLink RX5 95 yX7_init, Cond.instanceMethod yX7_init, Cond.code yX7_init cX7_init 2 none, Cond.methodLink RX7 3 objectInit, Cond.instanceMethod objectInit, Cond.code objectInit ⟨#[0xb1]⟩ 1 none, Cond.classLink RX7 9 RX0, Cond.instantiable RX0 3, Cond.initialized RX0, Cond.fieldLink RX7 14 "InterlockTables$Writer" "out" "LInterlockTables$Bytes;", Cond.fieldLink RX7 20 "InterlockTables$Writer" "expressions" "LInterlockTables$Expressions;", Cond.methodLink RX7 11 yX0_init, Cond.instanceMethod yX0_init, Cond.code yX0_init cX0_init 2 none, Cond.methodLink RX0 3 objectInit, Cond.fieldLink RX0 9 "InterlockTables$Bytes" "limit" "I", Cond.arrayClass .byte]
def wsX5_written_r2 : List Cond := [Cond.fieldLink RX0 15 "InterlockTables$Bytes" "room" "[B", Cond.fieldLink RX0 19 "InterlockTables$Bytes" "length" "I", Cond.methodLink RX5 27 yJx4a65c_size_8abf5, Cond.instanceMethod yJx4a65c_size_8abf5, Cond.selects RJx4a65c yJx4a65c_size_8abf5 yJx4a65c_size_8abf5, Cond.initialized RJx4a65c, Cond.code yJx4a65c_size_8abf5 cJx4a65c_size_8abf5 1 (some .int), Cond.fieldLink RJx4a65c 48 "java/util/ArrayList" "size" "I", Cond.methodLink RX5 31 yJx4a65c_get_915e3, Cond.instanceMethod yJx4a65c_get_915e3, Cond.selects RJx4a65c yJx4a65c_get_915e3 yJx4a65c_get_915e3, Cond.code yJx4a65c_get_915e3 cJx4a65c_get_915e3 2 (some (.object "java/lang/Object")), Cond.methodLink RJx4a65c 118 yJ15_checkIndex_7cf53, Cond.static yJ15_checkIndex_7cf53, Cond.initialized RJ15, Cond.code yJ15_checkIndex_7cf53 cJ15_checkIndex_7cf53 2 (some .int), Cond.methodLink RJ15 105 yJ3_checkIndex_8e157, Cond.static yJ3_checkIndex_8e157, Cond.initialized RJ3, Cond.code yJ3_checkIndex_8e157 cJ3_checkIndex_8e157 3 (some .int), Cond.methodLink RJx4a65c 123 yJx4a65c_elementData_915e3, Cond.instanceMethod yJx4a65c_elementData_915e3, Cond.selects RJx4a65c yJx4a65c_elementData_915e3 yJx4a65c_elementData_915e3, Cond.code yJx4a65c_elementData_915e3 cJx4a65c_elementData_915e3 2 (some (.object "java/lang/Object"))]
def wsX5_written_r3 : List Cond := [Cond.fieldLink RJx4a65c 9 "java/util/ArrayList" "elementData" "[Ljava/lang/Object;", Cond.methodLink RX5 98 yX7_putRow, Cond.instanceMethod yX7_putRow, Cond.selects RX7 yX7_putRow yX7_putRow, Cond.code yX7_putRow cX7_putRow 3 none, Cond.fieldLink RX7 74 "InterlockTables$Writer" "blankDue" "Z", Cond.methodLink RX7 26 yX7_putWord, Cond.instanceMethod yX7_putWord, Cond.selects RX7 yX7_putWord yX7_putWord, Cond.code yX7_putWord cX7_putWord 3 none, Cond.methodLink RX7 70 yX0_add, Cond.instanceMethod yX0_add, Cond.selects RX0 yX0_add yX0_add, Cond.code yX0_add cX0_add 2 (some .boolean), Cond.methodLink RX0 22 yJ7_copyOf_9075b, Cond.static yJ7_copyOf_9075b, Cond.initialized RJ7, Cond.code yJ7_copyOf_9075b cJ7_copyOf_9075b 3 (some (.array .byte)), Cond.methodLink RJ7 310 ⟨"[B", "clone", "()Ljava/lang/Object;"⟩, Cond.sameMethod "[B" "java/lang/Object" "clone" "()Ljava/lang/Object;", Cond.native ⟨"java/lang/Object", "clone", "()Ljava/lang/Object;"⟩, Cond.instanceMethod ⟨"java/lang/Object", "clone", "()Ljava/lang/Object;"⟩, Cond.selects "[B" ⟨"[B", "clone", "()Ljava/lang/Object;"⟩ ⟨"java/lang/Object", "clone", "()Ljava/lang/Object;"⟩, Cond.classLink RJ7 311 "[B"]
def wsX5_written_r4 : List Cond := [Cond.methodLink RJ7 304 Lib.Math.min.name, Cond.static Lib.Math.min.name, Cond.initialized "java/lang/Math", Cond.code Lib.Math.min.name Lib.Math.min.code 2 (some .int), Cond.methodLink RJ7 150 arraycopyName, Cond.native arraycopyName, Cond.static arraycopyName, Cond.initialized "java/lang/System", Cond.methodLink RX7 101 yJ0_length_8abf5, Cond.instanceMethod yJ0_length_8abf5, Cond.selects RJ0 yJ0_length_8abf5 yJ0_length_8abf5, Cond.initialized RJ0, Cond.code yJ0_length_8abf5 cJ0_length_8abf5 1 (some .int), Cond.fieldLink RJ0 9 "java/lang/String" "value" "[B", Cond.methodLink RJ0 335 yJ0_coder_7d493, Cond.instanceMethod yJ0_coder_7d493, Cond.selects RJ0 yJ0_coder_7d493 yJ0_coder_7d493, Cond.code yJ0_coder_7d493 cJ0_coder_7d493 1 (some .byte), Cond.fieldLink RJ0 38 "java/lang/String" "COMPACT_STRINGS" "Z", Cond.fieldLink RJ0 15 "java/lang/String" "coder" "B", Cond.methodLink RX7 107 yJ0_charAt_5068e, Cond.instanceMethod yJ0_charAt_5068e, Cond.selects RJ0 yJ0_charAt_5068e yJ0_charAt_5068e, Cond.code yJ0_charAt_5068e cJ0_charAt_5068e 2 (some .char)]
def wsX5_written_r5 : List Cond := [Cond.methodLink RJ0 492 yJ0_isLatin1_aae02, Cond.instanceMethod yJ0_isLatin1_aae02, Cond.selects RJ0 yJ0_isLatin1_aae02 yJ0_isLatin1_aae02, Cond.code yJ0_isLatin1_aae02 cJ0_isLatin1_aae02 1 (some .boolean), Cond.methodLink RJ0 495 yJ1_charAt_3b067, Cond.static yJ1_charAt_3b067, Cond.initialized RJ1, Cond.code yJ1_charAt_3b067 cJ1_charAt_3b067 2 (some .char), Cond.methodLink RJ1 9 yJ0_checkIndex_df160, Cond.static yJ0_checkIndex_df160, Cond.code yJ0_checkIndex_df160 cJ0_checkIndex_df160 2 none, Cond.fieldLink RJ0 1053 "jdk/internal/util/Preconditions" "SIOOBE_FORMATTER" "Ljava/util/function/BiFunction;", Cond.methodLink RJ0 1059 yJ3_checkIndex_8e157, Cond.methodLink RJ0 498 yJ2_charAt_3b067, Cond.static yJ2_charAt_3b067, Cond.initialized RJ2, Cond.code yJ2_charAt_3b067 cJ2_charAt_3b067 2 (some .char), Cond.methodLink RJ2 67 yJ2_checkIndex_2214a, Cond.static yJ2_checkIndex_2214a, Cond.code yJ2_checkIndex_2214a cJ2_checkIndex_2214a 2 none, Cond.methodLink RJ2 48 yJ2_length_9d52b, Cond.static yJ2_length_9d52b, Cond.code yJ2_length_9d52b cJ2_length_9d52b 1 (some .int), Cond.methodLink RJ2 414 yJ0_checkIndex_df160]
def wsX5_written_r6 : List Cond := [Cond.methodLink RJ2 71 yJ2_getChar_3b067, Cond.static yJ2_getChar_3b067, Cond.code yJ2_getChar_3b067 cJ2_getChar_3b067 2 (some .char), Cond.fieldLink RJ2 44 "java/lang/StringUTF16" "$assertionsDisabled" "Z", Cond.fieldLink RJ2 59 "java/lang/StringUTF16" "HI_BYTE_SHIFT" "I", Cond.fieldLink RJ2 63 "java/lang/StringUTF16" "LO_BYTE_SHIFT" "I", Cond.methodLink RX7 38 yX3_actAt, Cond.instanceMethod yX3_actAt, Cond.selects RX3 yX3_actAt yX3_actAt, Cond.initialized RX3, Cond.code yX3_actAt cX3_actAt 2 (some .int), Cond.fieldLink RX3 19 "InterlockTables$Row" "actCount" "I", Cond.fieldLink RX3 9 "InterlockTables$Row" "acts" "[I", Cond.methodLink RX7 42 yX7_putDigits, Cond.instanceMethod yX7_putDigits, Cond.selects RX7 yX7_putDigits yX7_putDigits, Cond.code yX7_putDigits cX7_putDigits 3 none, Cond.methodLink RX7 50 yX7_putExpression, Cond.instanceMethod yX7_putExpression, Cond.selects RX7 yX7_putExpression yX7_putExpression, Cond.code yX7_putExpression cX7_putExpression 7 none, Cond.methodLink RX7 79 yX1_at, Cond.instanceMethod yX1_at, Cond.selects RX1 yX1_at yX1_at]
def wsX5_written_r7 : List Cond := [Cond.initialized RX1, Cond.code yX1_at cX1_at 2 (some .int), Cond.fieldLink RX1 25 "InterlockTables$Expressions" "size" "I", Cond.fieldLink RX1 21 "InterlockTables$Expressions" "code" "[B", Cond.methodLink RX7 86 yX7_isJoin, Cond.instanceMethod yX7_isJoin, Cond.selects RX7 yX7_isJoin yX7_isJoin, Cond.code yX7_isJoin cX7_isJoin 2 (some .boolean), Cond.methodLink RX7 92 yX7_isOr, Cond.instanceMethod yX7_isOr, Cond.selects RX7 yX7_isOr yX7_isOr, Cond.code yX7_isOr cX7_isOr 2 (some .boolean), Cond.methodLink RX7 89 yX1_leftOf, Cond.instanceMethod yX1_leftOf, Cond.selects RX1 yX1_leftOf yX1_leftOf, Cond.code yX1_leftOf cX1_leftOf 4 (some .int), Cond.methodLink RX1 29 yX1_at, Cond.methodLink RX1 33 yX1_isCondition, Cond.static yX1_isCondition, Cond.code yX1_isCondition cX1_isCondition 1 (some .boolean)]
def wsX5_written : List Cond := .code yX5_written cX5_written 3 (some (.object "InterlockTables$Bytes")) :: ((wsX5_written_r1 ++ (wsX5_written_r2 ++ (wsX5_written_r3 ++ (wsX5_written_r4 ++ (wsX5_written_r5 ++ (wsX5_written_r6 ++ wsX5_written_r7)))))) ++ wsX50 ++ wsX70 ++ wsX00 ++ wsJx4a65c0 ++ wsX30 ++ wsX10)
def wsX6_init : List Cond := .code yX6_init cX6_init 3 none :: ([.methodLink RX6 3 objectInit, .instanceMethod objectInit, .code objectInit ⟨#[0xb1]⟩ 1 none, .methodLink RX6 9 Lib.Math.max.name, .static Lib.Math.max.name, .initialized "java/lang/Math", .code Lib.Math.max.name Lib.Math.max.code 2 (some .int), .arrayClass .byte, .fieldLink RX6 15 "InterlockTables$Words" "kinds" "[B", .arrayClass .short, .fieldLink RX6 21 "InterlockTables$Words" "values" "[S"] ++ wsX60)
def wsX6_count : List Cond := .code yX6_count cX6_count 1 (some .int) :: ([.fieldLink RX6 25 "InterlockTables$Words" "count" "I"] ++ wsX60)
def wsX6_index : List Cond := .code yX6_index cX6_index 1 (some .int) :: ([.fieldLink RX6 29 "InterlockTables$Words" "index" "I"] ++ wsX60)
def wsX6_isBlank : List Cond := .code yX6_isBlank cX6_isBlank 1 (some .boolean) :: ([])
def wsX6_isInner : List Cond := .code yX6_isInner cX6_isInner 1 (some .boolean) :: ([.methodLink RX6 46 yX6_isBlank, .static yX6_isBlank, .initialized RX6, .code yX6_isBlank cX6_isBlank 1 (some .boolean)])
def wsX6_isWord_r1 : List Cond := [Cond.methodLink RX6 84 yJ0_length_8abf5, Cond.instanceMethod yJ0_length_8abf5, Cond.selects RJ0 yJ0_length_8abf5 yJ0_length_8abf5, Cond.initialized RJ0, Cond.code yJ0_length_8abf5 cJ0_length_8abf5 1 (some .int), Cond.fieldLink RJ0 9 "java/lang/String" "value" "[B", Cond.methodLink RJ0 335 yJ0_coder_7d493, Cond.instanceMethod yJ0_coder_7d493, Cond.selects RJ0 yJ0_coder_7d493 yJ0_coder_7d493, Cond.code yJ0_coder_7d493 cJ0_coder_7d493 1 (some .byte), Cond.fieldLink RJ0 38 "java/lang/String" "COMPACT_STRINGS" "Z", Cond.fieldLink RJ0 15 "java/lang/String" "coder" "B", Cond.methodLink RX6 38 yX0_at, Cond.instanceMethod yX0_at, Cond.selects RX0 yX0_at yX0_at, Cond.initialized RX0, Cond.code yX0_at cX0_at 2 (some .int), Cond.fieldLink RX0 19 "InterlockTables$Bytes" "length" "I", Cond.fieldLink RX0 15 "InterlockTables$Bytes" "room" "[B", Cond.methodLink RX6 87 yJ0_charAt_5068e, Cond.instanceMethod yJ0_charAt_5068e, Cond.selects RJ0 yJ0_charAt_5068e yJ0_charAt_5068e, Cond.code yJ0_charAt_5068e cJ0_charAt_5068e 2 (some .char), Cond.methodLink RJ0 492 yJ0_isLatin1_aae02]
def wsX6_isWord_r2 : List Cond := [Cond.instanceMethod yJ0_isLatin1_aae02, Cond.selects RJ0 yJ0_isLatin1_aae02 yJ0_isLatin1_aae02, Cond.code yJ0_isLatin1_aae02 cJ0_isLatin1_aae02 1 (some .boolean), Cond.methodLink RJ0 495 yJ1_charAt_3b067, Cond.static yJ1_charAt_3b067, Cond.initialized RJ1, Cond.code yJ1_charAt_3b067 cJ1_charAt_3b067 2 (some .char), Cond.methodLink RJ1 9 yJ0_checkIndex_df160, Cond.static yJ0_checkIndex_df160, Cond.code yJ0_checkIndex_df160 cJ0_checkIndex_df160 2 none, Cond.fieldLink RJ0 1053 "jdk/internal/util/Preconditions" "SIOOBE_FORMATTER" "Ljava/util/function/BiFunction;", Cond.methodLink RJ0 1059 yJ3_checkIndex_8e157, Cond.static yJ3_checkIndex_8e157, Cond.initialized RJ3, Cond.code yJ3_checkIndex_8e157 cJ3_checkIndex_8e157 3 (some .int), Cond.methodLink RJ0 498 yJ2_charAt_3b067, Cond.static yJ2_charAt_3b067, Cond.initialized RJ2, Cond.code yJ2_charAt_3b067 cJ2_charAt_3b067 2 (some .char), Cond.methodLink RJ2 67 yJ2_checkIndex_2214a, Cond.static yJ2_checkIndex_2214a, Cond.code yJ2_checkIndex_2214a cJ2_checkIndex_2214a 2 none, Cond.methodLink RJ2 48 yJ2_length_9d52b, Cond.static yJ2_length_9d52b]
def wsX6_isWord_r3 : List Cond := [Cond.code yJ2_length_9d52b cJ2_length_9d52b 1 (some .int), Cond.methodLink RJ2 414 yJ0_checkIndex_df160, Cond.methodLink RJ2 71 yJ2_getChar_3b067, Cond.static yJ2_getChar_3b067, Cond.code yJ2_getChar_3b067 cJ2_getChar_3b067 2 (some .char), Cond.fieldLink RJ2 44 "java/lang/StringUTF16" "$assertionsDisabled" "Z", Cond.fieldLink RJ2 59 "java/lang/StringUTF16" "HI_BYTE_SHIFT" "I", Cond.fieldLink RJ2 63 "java/lang/StringUTF16" "LO_BYTE_SHIFT" "I"]
def wsX6_isWord : List Cond := .code yX6_isWord cX6_isWord 5 (some .boolean) :: ((wsX6_isWord_r1 ++ (wsX6_isWord_r2 ++ wsX6_isWord_r3)) ++ wsX00)
def wsX6_namedKind_r1 : List Cond := [Cond.methodLink RX6 68 yX6_isWord, Cond.static yX6_isWord, Cond.initialized RX6, Cond.code yX6_isWord cX6_isWord 5 (some .boolean), Cond.methodLink RX6 84 yJ0_length_8abf5, Cond.instanceMethod yJ0_length_8abf5, Cond.selects RJ0 yJ0_length_8abf5 yJ0_length_8abf5, Cond.initialized RJ0, Cond.code yJ0_length_8abf5 cJ0_length_8abf5 1 (some .int), Cond.fieldLink RJ0 9 "java/lang/String" "value" "[B", Cond.methodLink RJ0 335 yJ0_coder_7d493, Cond.instanceMethod yJ0_coder_7d493, Cond.selects RJ0 yJ0_coder_7d493 yJ0_coder_7d493, Cond.code yJ0_coder_7d493 cJ0_coder_7d493 1 (some .byte), Cond.fieldLink RJ0 38 "java/lang/String" "COMPACT_STRINGS" "Z", Cond.fieldLink RJ0 15 "java/lang/String" "coder" "B", Cond.methodLink RX6 38 yX0_at, Cond.instanceMethod yX0_at, Cond.selects RX0 yX0_at yX0_at, Cond.initialized RX0, Cond.code yX0_at cX0_at 2 (some .int), Cond.fieldLink RX0 19 "InterlockTables$Bytes" "length" "I", Cond.fieldLink RX0 15 "InterlockTables$Bytes" "room" "[B", Cond.methodLink RX6 87 yJ0_charAt_5068e]
def wsX6_namedKind_r2 : List Cond := [Cond.instanceMethod yJ0_charAt_5068e, Cond.selects RJ0 yJ0_charAt_5068e yJ0_charAt_5068e, Cond.code yJ0_charAt_5068e cJ0_charAt_5068e 2 (some .char), Cond.methodLink RJ0 492 yJ0_isLatin1_aae02, Cond.instanceMethod yJ0_isLatin1_aae02, Cond.selects RJ0 yJ0_isLatin1_aae02 yJ0_isLatin1_aae02, Cond.code yJ0_isLatin1_aae02 cJ0_isLatin1_aae02 1 (some .boolean), Cond.methodLink RJ0 495 yJ1_charAt_3b067, Cond.static yJ1_charAt_3b067, Cond.initialized RJ1, Cond.code yJ1_charAt_3b067 cJ1_charAt_3b067 2 (some .char), Cond.methodLink RJ1 9 yJ0_checkIndex_df160, Cond.static yJ0_checkIndex_df160, Cond.code yJ0_checkIndex_df160 cJ0_checkIndex_df160 2 none, Cond.fieldLink RJ0 1053 "jdk/internal/util/Preconditions" "SIOOBE_FORMATTER" "Ljava/util/function/BiFunction;", Cond.methodLink RJ0 1059 yJ3_checkIndex_8e157, Cond.static yJ3_checkIndex_8e157, Cond.initialized RJ3, Cond.code yJ3_checkIndex_8e157 cJ3_checkIndex_8e157 3 (some .int), Cond.methodLink RJ0 498 yJ2_charAt_3b067, Cond.static yJ2_charAt_3b067, Cond.initialized RJ2, Cond.code yJ2_charAt_3b067 cJ2_charAt_3b067 2 (some .char), Cond.methodLink RJ2 67 yJ2_checkIndex_2214a]
def wsX6_namedKind_r3 : List Cond := [Cond.static yJ2_checkIndex_2214a, Cond.code yJ2_checkIndex_2214a cJ2_checkIndex_2214a 2 none, Cond.methodLink RJ2 48 yJ2_length_9d52b, Cond.static yJ2_length_9d52b, Cond.code yJ2_length_9d52b cJ2_length_9d52b 1 (some .int), Cond.methodLink RJ2 414 yJ0_checkIndex_df160, Cond.methodLink RJ2 71 yJ2_getChar_3b067, Cond.static yJ2_getChar_3b067, Cond.code yJ2_getChar_3b067 cJ2_getChar_3b067 2 (some .char), Cond.fieldLink RJ2 44 "java/lang/StringUTF16" "$assertionsDisabled" "Z", Cond.fieldLink RJ2 59 "java/lang/StringUTF16" "HI_BYTE_SHIFT" "I", Cond.fieldLink RJ2 63 "java/lang/StringUTF16" "LO_BYTE_SHIFT" "I"]
def wsX6_namedKind : List Cond := .code yX6_namedKind cX6_namedKind 3 (some .int) :: ((wsX6_namedKind_r1 ++ (wsX6_namedKind_r2 ++ wsX6_namedKind_r3)) ++ wsX00)
def wsX6_numberIn : List Cond := .code yX6_numberIn cX6_numberIn 7 (some .int) :: ([.methodLink RX6 38 yX0_at, .instanceMethod yX0_at, .selects RX0 yX0_at yX0_at, .initialized RX0, .code yX0_at cX0_at 2 (some .int), .fieldLink RX0 19 "InterlockTables$Bytes" "length" "I", .fieldLink RX0 15 "InterlockTables$Bytes" "room" "[B"] ++ wsX00)
def wsX6_numberedKind : List Cond := .code yX6_numberedKind cX6_numberedKind 5 (some .int) :: ([.fieldLink RX6 57 "InterlockTables$Words" "value" "I", .methodLink RX6 38 yX0_at, .instanceMethod yX0_at, .selects RX0 yX0_at yX0_at, .initialized RX0, .code yX0_at cX0_at 2 (some .int), .fieldLink RX0 19 "InterlockTables$Bytes" "length" "I", .fieldLink RX0 15 "InterlockTables$Bytes" "room" "[B", .methodLink RX6 91 yX6_numberIn, .static yX6_numberIn, .initialized RX6, .code yX6_numberIn cX6_numberIn 7 (some .int)] ++ wsX60 ++ wsX00)
def wsX6_kindOf_r1 : List Cond := [Cond.fieldLink RX6 57 "InterlockTables$Words" "value" "I", Cond.methodLink RX6 38 yX0_at, Cond.instanceMethod yX0_at, Cond.selects RX0 yX0_at yX0_at, Cond.initialized RX0, Cond.code yX0_at cX0_at 2 (some .int), Cond.fieldLink RX0 19 "InterlockTables$Bytes" "length" "I", Cond.fieldLink RX0 15 "InterlockTables$Bytes" "room" "[B", Cond.methodLink RX6 60 yX6_namedKind, Cond.static yX6_namedKind, Cond.initialized RX6, Cond.code yX6_namedKind cX6_namedKind 3 (some .int), Cond.methodLink RX6 68 yX6_isWord, Cond.static yX6_isWord, Cond.code yX6_isWord cX6_isWord 5 (some .boolean), Cond.methodLink RX6 84 yJ0_length_8abf5, Cond.instanceMethod yJ0_length_8abf5, Cond.selects RJ0 yJ0_length_8abf5 yJ0_length_8abf5, Cond.initialized RJ0, Cond.code yJ0_length_8abf5 cJ0_length_8abf5 1 (some .int), Cond.fieldLink RJ0 9 "java/lang/String" "value" "[B", Cond.methodLink RJ0 335 yJ0_coder_7d493, Cond.instanceMethod yJ0_coder_7d493, Cond.selects RJ0 yJ0_coder_7d493 yJ0_coder_7d493]
def wsX6_kindOf_r2 : List Cond := [Cond.code yJ0_coder_7d493 cJ0_coder_7d493 1 (some .byte), Cond.fieldLink RJ0 38 "java/lang/String" "COMPACT_STRINGS" "Z", Cond.fieldLink RJ0 15 "java/lang/String" "coder" "B", Cond.methodLink RX6 87 yJ0_charAt_5068e, Cond.instanceMethod yJ0_charAt_5068e, Cond.selects RJ0 yJ0_charAt_5068e yJ0_charAt_5068e, Cond.code yJ0_charAt_5068e cJ0_charAt_5068e 2 (some .char), Cond.methodLink RJ0 492 yJ0_isLatin1_aae02, Cond.instanceMethod yJ0_isLatin1_aae02, Cond.selects RJ0 yJ0_isLatin1_aae02 yJ0_isLatin1_aae02, Cond.code yJ0_isLatin1_aae02 cJ0_isLatin1_aae02 1 (some .boolean), Cond.methodLink RJ0 495 yJ1_charAt_3b067, Cond.static yJ1_charAt_3b067, Cond.initialized RJ1, Cond.code yJ1_charAt_3b067 cJ1_charAt_3b067 2 (some .char), Cond.methodLink RJ1 9 yJ0_checkIndex_df160, Cond.static yJ0_checkIndex_df160, Cond.code yJ0_checkIndex_df160 cJ0_checkIndex_df160 2 none, Cond.fieldLink RJ0 1053 "jdk/internal/util/Preconditions" "SIOOBE_FORMATTER" "Ljava/util/function/BiFunction;", Cond.methodLink RJ0 1059 yJ3_checkIndex_8e157, Cond.static yJ3_checkIndex_8e157, Cond.initialized RJ3, Cond.code yJ3_checkIndex_8e157 cJ3_checkIndex_8e157 3 (some .int), Cond.methodLink RJ0 498 yJ2_charAt_3b067]
def wsX6_kindOf_r3 : List Cond := [Cond.static yJ2_charAt_3b067, Cond.initialized RJ2, Cond.code yJ2_charAt_3b067 cJ2_charAt_3b067 2 (some .char), Cond.methodLink RJ2 67 yJ2_checkIndex_2214a, Cond.static yJ2_checkIndex_2214a, Cond.code yJ2_checkIndex_2214a cJ2_checkIndex_2214a 2 none, Cond.methodLink RJ2 48 yJ2_length_9d52b, Cond.static yJ2_length_9d52b, Cond.code yJ2_length_9d52b cJ2_length_9d52b 1 (some .int), Cond.methodLink RJ2 414 yJ0_checkIndex_df160, Cond.methodLink RJ2 71 yJ2_getChar_3b067, Cond.static yJ2_getChar_3b067, Cond.code yJ2_getChar_3b067 cJ2_getChar_3b067 2 (some .char), Cond.fieldLink RJ2 44 "java/lang/StringUTF16" "$assertionsDisabled" "Z", Cond.fieldLink RJ2 59 "java/lang/StringUTF16" "HI_BYTE_SHIFT" "I", Cond.fieldLink RJ2 63 "java/lang/StringUTF16" "LO_BYTE_SHIFT" "I", Cond.methodLink RX6 63 yX6_numberedKind, Cond.instanceMethod yX6_numberedKind, Cond.selects RX6 yX6_numberedKind yX6_numberedKind, Cond.code yX6_numberedKind cX6_numberedKind 5 (some .int), Cond.methodLink RX6 91 yX6_numberIn, Cond.static yX6_numberIn, Cond.code yX6_numberIn cX6_numberIn 7 (some .int)]
def wsX6_kindOf : List Cond := .code yX6_kindOf cX6_kindOf 5 (some .int) :: ((wsX6_kindOf_r1 ++ (wsX6_kindOf_r2 ++ wsX6_kindOf_r3)) ++ wsX60 ++ wsX00)
def wsX6_keep : List Cond := .code yX6_keep cX6_keep 2 none :: ([.fieldLink RX6 25 "InterlockTables$Words" "count" "I", .fieldLink RX6 15 "InterlockTables$Words" "kinds" "[B", .fieldLink RX6 21 "InterlockTables$Words" "values" "[S", .fieldLink RX6 57 "InterlockTables$Words" "value" "I"] ++ wsX60)
def wsX6_split_r1 : List Cond := [Cond.methodLink RX6 32 yX0_length, Cond.instanceMethod yX0_length, Cond.selects RX0 yX0_length yX0_length, Cond.initialized RX0, Cond.code yX0_length cX0_length 1 (some .int), Cond.fieldLink RX0 19 "InterlockTables$Bytes" "length" "I", Cond.methodLink RX6 38 yX0_at, Cond.instanceMethod yX0_at, Cond.selects RX0 yX0_at yX0_at, Cond.code yX0_at cX0_at 2 (some .int), Cond.fieldLink RX0 15 "InterlockTables$Bytes" "room" "[B", Cond.methodLink RX6 42 yX6_isInner, Cond.static yX6_isInner, Cond.initialized RX6, Cond.code yX6_isInner cX6_isInner 1 (some .boolean), Cond.methodLink RX6 46 yX6_isBlank, Cond.static yX6_isBlank, Cond.code yX6_isBlank cX6_isBlank 1 (some .boolean), Cond.methodLink RX6 49 yX6_kindOf, Cond.instanceMethod yX6_kindOf, Cond.selects RX6 yX6_kindOf yX6_kindOf, Cond.code yX6_kindOf cX6_kindOf 5 (some .int), Cond.fieldLink RX6 57 "InterlockTables$Words" "value" "I", Cond.methodLink RX6 60 yX6_namedKind]
def wsX6_split_r2 : List Cond := [Cond.static yX6_namedKind, Cond.code yX6_namedKind cX6_namedKind 3 (some .int), Cond.methodLink RX6 68 yX6_isWord, Cond.static yX6_isWord, Cond.code yX6_isWord cX6_isWord 5 (some .boolean), Cond.methodLink RX6 84 yJ0_length_8abf5, Cond.instanceMethod yJ0_length_8abf5, Cond.selects RJ0 yJ0_length_8abf5 yJ0_length_8abf5, Cond.initialized RJ0, Cond.code yJ0_length_8abf5 cJ0_length_8abf5 1 (some .int), Cond.fieldLink RJ0 9 "java/lang/String" "value" "[B", Cond.methodLink RJ0 335 yJ0_coder_7d493, Cond.instanceMethod yJ0_coder_7d493, Cond.selects RJ0 yJ0_coder_7d493 yJ0_coder_7d493, Cond.code yJ0_coder_7d493 cJ0_coder_7d493 1 (some .byte), Cond.fieldLink RJ0 38 "java/lang/String" "COMPACT_STRINGS" "Z", Cond.fieldLink RJ0 15 "java/lang/String" "coder" "B", Cond.methodLink RX6 87 yJ0_charAt_5068e, Cond.instanceMethod yJ0_charAt_5068e, Cond.selects RJ0 yJ0_charAt_5068e yJ0_charAt_5068e, Cond.code yJ0_charAt_5068e cJ0_charAt_5068e 2 (some .char), Cond.methodLink RJ0 492 yJ0_isLatin1_aae02, Cond.instanceMethod yJ0_isLatin1_aae02, Cond.selects RJ0 yJ0_isLatin1_aae02 yJ0_isLatin1_aae02]
def wsX6_split_r3 : List Cond := [Cond.code yJ0_isLatin1_aae02 cJ0_isLatin1_aae02 1 (some .boolean), Cond.methodLink RJ0 495 yJ1_charAt_3b067, Cond.static yJ1_charAt_3b067, Cond.initialized RJ1, Cond.code yJ1_charAt_3b067 cJ1_charAt_3b067 2 (some .char), Cond.methodLink RJ1 9 yJ0_checkIndex_df160, Cond.static yJ0_checkIndex_df160, Cond.code yJ0_checkIndex_df160 cJ0_checkIndex_df160 2 none, Cond.fieldLink RJ0 1053 "jdk/internal/util/Preconditions" "SIOOBE_FORMATTER" "Ljava/util/function/BiFunction;", Cond.methodLink RJ0 1059 yJ3_checkIndex_8e157, Cond.static yJ3_checkIndex_8e157, Cond.initialized RJ3, Cond.code yJ3_checkIndex_8e157 cJ3_checkIndex_8e157 3 (some .int), Cond.methodLink RJ0 498 yJ2_charAt_3b067, Cond.static yJ2_charAt_3b067, Cond.initialized RJ2, Cond.code yJ2_charAt_3b067 cJ2_charAt_3b067 2 (some .char), Cond.methodLink RJ2 67 yJ2_checkIndex_2214a, Cond.static yJ2_checkIndex_2214a, Cond.code yJ2_checkIndex_2214a cJ2_checkIndex_2214a 2 none, Cond.methodLink RJ2 48 yJ2_length_9d52b, Cond.static yJ2_length_9d52b, Cond.code yJ2_length_9d52b cJ2_length_9d52b 1 (some .int), Cond.methodLink RJ2 414 yJ0_checkIndex_df160]
def wsX6_split_r4 : List Cond := [Cond.methodLink RJ2 71 yJ2_getChar_3b067, Cond.static yJ2_getChar_3b067, Cond.code yJ2_getChar_3b067 cJ2_getChar_3b067 2 (some .char), Cond.fieldLink RJ2 44 "java/lang/StringUTF16" "$assertionsDisabled" "Z", Cond.fieldLink RJ2 59 "java/lang/StringUTF16" "HI_BYTE_SHIFT" "I", Cond.fieldLink RJ2 63 "java/lang/StringUTF16" "LO_BYTE_SHIFT" "I", Cond.methodLink RX6 63 yX6_numberedKind, Cond.instanceMethod yX6_numberedKind, Cond.selects RX6 yX6_numberedKind yX6_numberedKind, Cond.code yX6_numberedKind cX6_numberedKind 5 (some .int), Cond.methodLink RX6 91 yX6_numberIn, Cond.static yX6_numberIn, Cond.code yX6_numberIn cX6_numberIn 7 (some .int), Cond.methodLink RX6 53 yX6_keep, Cond.instanceMethod yX6_keep, Cond.selects RX6 yX6_keep yX6_keep, Cond.code yX6_keep cX6_keep 2 none, Cond.fieldLink RX6 25 "InterlockTables$Words" "count" "I", Cond.fieldLink RX6 15 "InterlockTables$Words" "kinds" "[B", Cond.fieldLink RX6 21 "InterlockTables$Words" "values" "[S"]
def wsX6_split : List Cond := .code yX6_split cX6_split 4 none :: ((wsX6_split_r1 ++ (wsX6_split_r2 ++ (wsX6_split_r3 ++ wsX6_split_r4))) ++ wsX00 ++ wsX60)
def wsX8_init_r1 : List Cond := [Cond.methodLink RX8 3 objectInit, Cond.instanceMethod objectInit, Cond.code objectInit ⟨#[0xb1]⟩ 1 none, Cond.classLink RX8 9 RX0, Cond.instantiable RX0 3, Cond.initialized RX0, Cond.fieldLink RX8 14 "InterlockTables" "text" "LInterlockTables$Bytes;", Cond.arrayClass .long, Cond.fieldLink RX8 18 "InterlockTables" "conditions" "[J", Cond.classLink RX8 22 RX5, Cond.instantiable RX5 4, Cond.initialized RX5, Cond.fieldLink RX8 25 "InterlockTables" "table" "LInterlockTables$Table;", Cond.methodLink RX8 11 yX0_init, Cond.instanceMethod yX0_init, Cond.code yX0_init cX0_init 2 none, Cond.methodLink RX0 3 objectInit, Cond.fieldLink RX0 9 "InterlockTables$Bytes" "limit" "I", Cond.arrayClass .byte, Cond.fieldLink RX0 15 "InterlockTables$Bytes" "room" "[B", Cond.fieldLink RX0 19 "InterlockTables$Bytes" "length" "I", Cond.methodLink RX8 24 yX5_init, Cond.instanceMethod yX5_init, Cond.code yX5_init cX5_init 2 none]
def wsX8_init_r2 : List Cond := [Cond.methodLink RX5 3 objectInit, Cond.classLink RX5 9 RJx4a65c, Cond.instantiable RJx4a65c 3, Cond.initialized RJx4a65c, Cond.fieldLink RX5 12 "InterlockTables$Table" "rows" "Ljava/util/ArrayList;", Cond.classLink RX5 18 RX1, Cond.instantiable RX1 3, Cond.initialized RX1, Cond.fieldLink RX5 23 "InterlockTables$Table" "expressions" "LInterlockTables$Expressions;", Cond.methodLink RX5 11 yJx4a65c_init_da8c8, Cond.instanceMethod yJx4a65c_init_da8c8, Cond.code yJx4a65c_init_da8c8 cJx4a65c_init_da8c8 1 none, Cond.fieldLink RJx4a65c 39 "java/util/ArrayList" "DEFAULTCAPACITY_EMPTY_ELEMENTDATA" "[Ljava/lang/Object;", Cond.fieldLink RJx4a65c 9 "java/util/ArrayList" "elementData" "[Ljava/lang/Object;", Cond.methodLink RJx4a65c 1 yJxc12de_init_da8c8, Cond.instanceMethod yJxc12de_init_da8c8, Cond.initialized RJxc12de, Cond.code yJxc12de_init_da8c8 cJxc12de_init_da8c8 1 none, Cond.fieldLink RJxc12de 7 "java/util/AbstractList" "modCount" "I", Cond.methodLink RJxc12de 1 yJxa1e45_init_da8c8, Cond.instanceMethod yJxa1e45_init_da8c8, Cond.initialized RJxa1e45, Cond.code yJxa1e45_init_da8c8 cJxa1e45_init_da8c8 1 none, Cond.methodLink RJxa1e45 1 objectInit]
def wsX8_init_r3 : List Cond := [Cond.methodLink RX5 20 yX1_init, Cond.instanceMethod yX1_init, Cond.code yX1_init cX1_init 2 none, Cond.methodLink RX1 3 objectInit, Cond.fieldLink RX1 9 "InterlockTables$Expressions" "stack" "[J", Cond.methodLink RX1 15 Lib.Math.max.name, Cond.static Lib.Math.max.name, Cond.initialized "java/lang/Math", Cond.code Lib.Math.max.name Lib.Math.max.code 2 (some .int), Cond.fieldLink RX1 21 "InterlockTables$Expressions" "code" "[B"]
def wsX8_init : List Cond := .code yX8_init cX8_init 1 none :: ((wsX8_init_r1 ++ (wsX8_init_r2 ++ wsX8_init_r3)) ++ wsX00 ++ wsX80 ++ wsX50 ++ wsJx4a65c0 ++ wsX10)
def wsX8_unit_r1 : List Cond := [Cond.fieldLink RX8 14 "InterlockTables" "text" "LInterlockTables$Bytes;", Cond.methodLink RX8 29 yX0_add, Cond.instanceMethod yX0_add, Cond.selects RX0 yX0_add yX0_add, Cond.initialized RX0, Cond.code yX0_add cX0_add 2 (some .boolean), Cond.fieldLink RX0 19 "InterlockTables$Bytes" "length" "I", Cond.fieldLink RX0 9 "InterlockTables$Bytes" "limit" "I", Cond.fieldLink RX0 15 "InterlockTables$Bytes" "room" "[B", Cond.methodLink RX0 22 yJ7_copyOf_9075b, Cond.static yJ7_copyOf_9075b, Cond.initialized RJ7, Cond.code yJ7_copyOf_9075b cJ7_copyOf_9075b 3 (some (.array .byte)), Cond.methodLink RJ7 310 ⟨"[B", "clone", "()Ljava/lang/Object;"⟩, Cond.sameMethod "[B" "java/lang/Object" "clone" "()Ljava/lang/Object;", Cond.native ⟨"java/lang/Object", "clone", "()Ljava/lang/Object;"⟩, Cond.instanceMethod ⟨"java/lang/Object", "clone", "()Ljava/lang/Object;"⟩, Cond.selects "[B" ⟨"[B", "clone", "()Ljava/lang/Object;"⟩ ⟨"java/lang/Object", "clone", "()Ljava/lang/Object;"⟩, Cond.classLink RJ7 311 "[B", Cond.arrayClass .byte, Cond.methodLink RJ7 304 Lib.Math.min.name, Cond.static Lib.Math.min.name, Cond.initialized "java/lang/Math", Cond.code Lib.Math.min.name Lib.Math.min.code 2 (some .int)]
def wsX8_unit_r2 : List Cond := [Cond.methodLink RJ7 150 arraycopyName, Cond.native arraycopyName, Cond.static arraycopyName, Cond.initialized "java/lang/System"]
def wsX8_unit : List Cond := .code yX8_unit cX8_unit 2 (some .boolean) :: ((wsX8_unit_r1 ++ wsX8_unit_r2) ++ wsX80 ++ wsX00)
def wsX8_read_r1 : List Cond := [Cond.classLink RX8 33 RX6, Cond.instantiable RX6 5, Cond.initialized RX6, Cond.fieldLink RX8 14 "InterlockTables" "text" "LInterlockTables$Bytes;", Cond.classLink RX8 22 RX5, Cond.instantiable RX5 4, Cond.initialized RX5, Cond.classLink RX8 50 RX2, Cond.instantiable RX2 3, Cond.initialized RX2, Cond.fieldLink RX8 25 "InterlockTables" "table" "LInterlockTables$Table;", Cond.methodLink RX8 35 yX0_length, Cond.instanceMethod yX0_length, Cond.selects RX0 yX0_length yX0_length, Cond.initialized RX0, Cond.code yX0_length cX0_length 1 (some .int), Cond.fieldLink RX0 19 "InterlockTables$Bytes" "length" "I", Cond.methodLink RX8 39 yX6_init, Cond.instanceMethod yX6_init, Cond.code yX6_init cX6_init 3 none, Cond.methodLink RX6 3 objectInit, Cond.instanceMethod objectInit, Cond.code objectInit ⟨#[0xb1]⟩ 1 none, Cond.methodLink RX6 9 Lib.Math.max.name]
def wsX8_read_r2 : List Cond := [Cond.static Lib.Math.max.name, Cond.initialized "java/lang/Math", Cond.code Lib.Math.max.name Lib.Math.max.code 2 (some .int), Cond.arrayClass .byte, Cond.fieldLink RX6 15 "InterlockTables$Words" "kinds" "[B", Cond.arrayClass .short, Cond.fieldLink RX6 21 "InterlockTables$Words" "values" "[S", Cond.methodLink RX8 40 yX6_split, Cond.instanceMethod yX6_split, Cond.selects RX6 yX6_split yX6_split, Cond.code yX6_split cX6_split 4 none, Cond.methodLink RX6 32 yX0_length, Cond.methodLink RX6 38 yX0_at, Cond.instanceMethod yX0_at, Cond.selects RX0 yX0_at yX0_at, Cond.code yX0_at cX0_at 2 (some .int), Cond.fieldLink RX0 15 "InterlockTables$Bytes" "room" "[B", Cond.methodLink RX6 42 yX6_isInner, Cond.static yX6_isInner, Cond.code yX6_isInner cX6_isInner 1 (some .boolean), Cond.methodLink RX6 46 yX6_isBlank, Cond.static yX6_isBlank, Cond.code yX6_isBlank cX6_isBlank 1 (some .boolean), Cond.methodLink RX6 49 yX6_kindOf]
def wsX8_read_r3 : List Cond := [Cond.instanceMethod yX6_kindOf, Cond.selects RX6 yX6_kindOf yX6_kindOf, Cond.code yX6_kindOf cX6_kindOf 5 (some .int), Cond.fieldLink RX6 57 "InterlockTables$Words" "value" "I", Cond.methodLink RX6 60 yX6_namedKind, Cond.static yX6_namedKind, Cond.code yX6_namedKind cX6_namedKind 3 (some .int), Cond.methodLink RX6 68 yX6_isWord, Cond.static yX6_isWord, Cond.code yX6_isWord cX6_isWord 5 (some .boolean), Cond.methodLink RX6 84 yJ0_length_8abf5, Cond.instanceMethod yJ0_length_8abf5, Cond.selects RJ0 yJ0_length_8abf5 yJ0_length_8abf5, Cond.initialized RJ0, Cond.code yJ0_length_8abf5 cJ0_length_8abf5 1 (some .int), Cond.fieldLink RJ0 9 "java/lang/String" "value" "[B", Cond.methodLink RJ0 335 yJ0_coder_7d493, Cond.instanceMethod yJ0_coder_7d493, Cond.selects RJ0 yJ0_coder_7d493 yJ0_coder_7d493, Cond.code yJ0_coder_7d493 cJ0_coder_7d493 1 (some .byte), Cond.fieldLink RJ0 38 "java/lang/String" "COMPACT_STRINGS" "Z", Cond.fieldLink RJ0 15 "java/lang/String" "coder" "B", Cond.methodLink RX6 87 yJ0_charAt_5068e, Cond.instanceMethod yJ0_charAt_5068e]
def wsX8_read_r4 : List Cond := [Cond.selects RJ0 yJ0_charAt_5068e yJ0_charAt_5068e, Cond.code yJ0_charAt_5068e cJ0_charAt_5068e 2 (some .char), Cond.methodLink RJ0 492 yJ0_isLatin1_aae02, Cond.instanceMethod yJ0_isLatin1_aae02, Cond.selects RJ0 yJ0_isLatin1_aae02 yJ0_isLatin1_aae02, Cond.code yJ0_isLatin1_aae02 cJ0_isLatin1_aae02 1 (some .boolean), Cond.methodLink RJ0 495 yJ1_charAt_3b067, Cond.static yJ1_charAt_3b067, Cond.initialized RJ1, Cond.code yJ1_charAt_3b067 cJ1_charAt_3b067 2 (some .char), Cond.methodLink RJ1 9 yJ0_checkIndex_df160, Cond.static yJ0_checkIndex_df160, Cond.code yJ0_checkIndex_df160 cJ0_checkIndex_df160 2 none, Cond.fieldLink RJ0 1053 "jdk/internal/util/Preconditions" "SIOOBE_FORMATTER" "Ljava/util/function/BiFunction;", Cond.methodLink RJ0 1059 yJ3_checkIndex_8e157, Cond.static yJ3_checkIndex_8e157, Cond.initialized RJ3, Cond.code yJ3_checkIndex_8e157 cJ3_checkIndex_8e157 3 (some .int), Cond.methodLink RJ0 498 yJ2_charAt_3b067, Cond.static yJ2_charAt_3b067, Cond.initialized RJ2, Cond.code yJ2_charAt_3b067 cJ2_charAt_3b067 2 (some .char), Cond.methodLink RJ2 67 yJ2_checkIndex_2214a, Cond.static yJ2_checkIndex_2214a]
def wsX8_read_r5 : List Cond := [Cond.code yJ2_checkIndex_2214a cJ2_checkIndex_2214a 2 none, Cond.methodLink RJ2 48 yJ2_length_9d52b, Cond.static yJ2_length_9d52b, Cond.code yJ2_length_9d52b cJ2_length_9d52b 1 (some .int), Cond.methodLink RJ2 414 yJ0_checkIndex_df160, Cond.methodLink RJ2 71 yJ2_getChar_3b067, Cond.static yJ2_getChar_3b067, Cond.code yJ2_getChar_3b067 cJ2_getChar_3b067 2 (some .char), Cond.fieldLink RJ2 44 "java/lang/StringUTF16" "$assertionsDisabled" "Z", Cond.fieldLink RJ2 59 "java/lang/StringUTF16" "HI_BYTE_SHIFT" "I", Cond.fieldLink RJ2 63 "java/lang/StringUTF16" "LO_BYTE_SHIFT" "I", Cond.methodLink RX6 63 yX6_numberedKind, Cond.instanceMethod yX6_numberedKind, Cond.selects RX6 yX6_numberedKind yX6_numberedKind, Cond.code yX6_numberedKind cX6_numberedKind 5 (some .int), Cond.methodLink RX6 91 yX6_numberIn, Cond.static yX6_numberIn, Cond.code yX6_numberIn cX6_numberIn 7 (some .int), Cond.methodLink RX6 53 yX6_keep, Cond.instanceMethod yX6_keep, Cond.selects RX6 yX6_keep yX6_keep, Cond.code yX6_keep cX6_keep 2 none, Cond.fieldLink RX6 25 "InterlockTables$Words" "count" "I", Cond.methodLink RX8 44 yX0_empty]
def wsX8_read_r6 : List Cond := [Cond.instanceMethod yX0_empty, Cond.selects RX0 yX0_empty yX0_empty, Cond.code yX0_empty cX0_empty 1 none, Cond.methodLink RX8 47 yX6_count, Cond.instanceMethod yX6_count, Cond.selects RX6 yX6_count yX6_count, Cond.code yX6_count cX6_count 1 (some .int), Cond.methodLink RX8 24 yX5_init, Cond.instanceMethod yX5_init, Cond.code yX5_init cX5_init 2 none, Cond.methodLink RX5 3 objectInit, Cond.classLink RX5 9 RJx4a65c, Cond.instantiable RJx4a65c 3, Cond.initialized RJx4a65c, Cond.fieldLink RX5 12 "InterlockTables$Table" "rows" "Ljava/util/ArrayList;", Cond.classLink RX5 18 RX1, Cond.instantiable RX1 3, Cond.initialized RX1, Cond.fieldLink RX5 23 "InterlockTables$Table" "expressions" "LInterlockTables$Expressions;", Cond.methodLink RX5 11 yJx4a65c_init_da8c8, Cond.instanceMethod yJx4a65c_init_da8c8, Cond.code yJx4a65c_init_da8c8 cJx4a65c_init_da8c8 1 none, Cond.fieldLink RJx4a65c 39 "java/util/ArrayList" "DEFAULTCAPACITY_EMPTY_ELEMENTDATA" "[Ljava/lang/Object;", Cond.fieldLink RJx4a65c 9 "java/util/ArrayList" "elementData" "[Ljava/lang/Object;"]
def wsX8_read_r7 : List Cond := [Cond.methodLink RJx4a65c 1 yJxc12de_init_da8c8, Cond.instanceMethod yJxc12de_init_da8c8, Cond.initialized RJxc12de, Cond.code yJxc12de_init_da8c8 cJxc12de_init_da8c8 1 none, Cond.fieldLink RJxc12de 7 "java/util/AbstractList" "modCount" "I", Cond.methodLink RJxc12de 1 yJxa1e45_init_da8c8, Cond.instanceMethod yJxa1e45_init_da8c8, Cond.initialized RJxa1e45, Cond.code yJxa1e45_init_da8c8 cJxa1e45_init_da8c8 1 none, Cond.methodLink RJxa1e45 1 objectInit, Cond.methodLink RX5 20 yX1_init, Cond.instanceMethod yX1_init, Cond.code yX1_init cX1_init 2 none, Cond.methodLink RX1 3 objectInit, Cond.arrayClass .long, Cond.fieldLink RX1 9 "InterlockTables$Expressions" "stack" "[J", Cond.methodLink RX1 15 Lib.Math.max.name, Cond.fieldLink RX1 21 "InterlockTables$Expressions" "code" "[B", Cond.methodLink RX8 52 yX2_init, Cond.instanceMethod yX2_init, Cond.code yX2_init cX2_init 3 none, Cond.methodLink RX2 3 objectInit, Cond.fieldLink RX2 9 "InterlockTables$Reader" "words" "LInterlockTables$Words;", Cond.fieldLink RX2 15 "InterlockTables$Reader" "table" "LInterlockTables$Table;"]
def wsX8_read_r8 : List Cond := [Cond.fieldLink RX2 25 "InterlockTables$Reader" "expressions" "LInterlockTables$Expressions;", Cond.methodLink RX8 55 yX2_takeText, Cond.instanceMethod yX2_takeText, Cond.selects RX2 yX2_takeText yX2_takeText, Cond.code yX2_takeText cX2_takeText 2 (some .boolean), Cond.methodLink RX2 26 yX6_kind, Cond.instanceMethod yX6_kind, Cond.selects RX6 yX6_kind yX6_kind, Cond.code yX6_kind cX6_kind 1 (some .int), Cond.fieldLink RX6 29 "InterlockTables$Words" "index" "I", Cond.methodLink RX2 32 yX2_takeRow, Cond.instanceMethod yX2_takeRow, Cond.selects RX2 yX2_takeRow yX2_takeRow, Cond.code yX2_takeRow cX2_takeRow 2 (some .boolean), Cond.classLink RX2 36 RX3, Cond.instantiable RX3 13, Cond.initialized RX3, Cond.instanceMethod yX3_init, Cond.code yX3_init cX3_init 1 none, Cond.methodLink RX3 3 objectInit, Cond.arrayClass .int, Cond.fieldLink RX3 9 "InterlockTables$Row" "acts" "[I", Cond.methodLink RX2 39 yX2_take, Cond.instanceMethod yX2_take]
def wsX8_read_r9 : List Cond := [Cond.selects RX2 yX2_take yX2_take, Cond.code yX2_take cX2_take 2 (some .boolean), Cond.methodLink RX2 80 yX6_advance, Cond.instanceMethod yX6_advance, Cond.selects RX6 yX6_advance yX6_advance, Cond.code yX6_advance cX6_advance 1 none, Cond.methodLink RX2 43 yX2_takeActs, Cond.instanceMethod yX2_takeActs, Cond.selects RX2 yX2_takeActs yX2_takeActs, Cond.code yX2_takeActs cX2_takeActs 3 (some .boolean), Cond.methodLink RX2 83 yX6_value, Cond.instanceMethod yX6_value, Cond.selects RX6 yX6_value yX6_value, Cond.code yX6_value cX6_value 1 (some .int), Cond.methodLink RX2 86 yX3_addAct, Cond.instanceMethod yX3_addAct, Cond.selects RX3 yX3_addAct yX3_addAct, Cond.code yX3_addAct cX3_addAct 2 (some .boolean), Cond.fieldLink RX3 19 "InterlockTables$Row" "actCount" "I", Cond.fieldLink RX3 15 "InterlockTables$Row" "actBits" "I", Cond.methodLink RX3 22 yX3_hasAct, Cond.instanceMethod yX3_hasAct, Cond.selects RX3 yX3_hasAct yX3_hasAct, Cond.code yX3_hasAct cX3_hasAct 2 (some .boolean)]
def wsX8_read_r10 : List Cond := [Cond.methodLink RX2 47 yX1_size, Cond.instanceMethod yX1_size, Cond.selects RX1 yX1_size yX1_size, Cond.code yX1_size cX1_size 1 (some .int), Cond.fieldLink RX1 25 "InterlockTables$Expressions" "size" "I", Cond.methodLink RX2 56 yX2_takeOr, Cond.instanceMethod yX2_takeOr, Cond.selects RX2 yX2_takeOr yX2_takeOr, Cond.code yX2_takeOr cX2_takeOr 4 (some .boolean), Cond.methodLink RX2 98 yX2_takeAnd, Cond.instanceMethod yX2_takeAnd, Cond.selects RX2 yX2_takeAnd yX2_takeAnd, Cond.methodLink RX2 101 yX1_add, Cond.instanceMethod yX1_add, Cond.selects RX1 yX1_add yX1_add, Cond.code yX1_add cX1_add 2 none, Cond.code yX2_takeAnd cX2_takeAnd 4 (some .boolean), Cond.methodLink RX2 104 yX2_takePart, Cond.instanceMethod yX2_takePart, Cond.selects RX2 yX2_takePart yX2_takePart, Cond.code yX2_takeBrackets cX2_takeBrackets 3 (some .boolean), Cond.code yX2_takePart cX2_takePart 6 (some .boolean), Cond.methodLink RX2 107 yX2_takeBrackets, Cond.instanceMethod yX2_takeBrackets]
def wsX8_read_r11 : List Cond := [Cond.selects RX2 yX2_takeBrackets yX2_takeBrackets, Cond.methodLink RX2 110 yX2_takeCondition, Cond.instanceMethod yX2_takeCondition, Cond.selects RX2 yX2_takeCondition yX2_takeCondition, Cond.code yX2_takeCondition cX2_takeCondition 2 (some .boolean), Cond.methodLink RX2 63 yX2_takeFor, Cond.instanceMethod yX2_takeFor, Cond.selects RX2 yX2_takeFor yX2_takeFor, Cond.code yX2_takeFor cX2_takeFor 2 (some .boolean), Cond.methodLink RX2 74 yJx4a65c_add_9ea2d, Cond.instanceMethod yJx4a65c_add_9ea2d, Cond.selects RJx4a65c yJx4a65c_add_9ea2d yJx4a65c_add_9ea2d, Cond.code yJx4a65c_add_9ea2d cJx4a65c_add_9ea2d 2 (some .boolean), Cond.fieldLink RJx4a65c 63 "java/util/ArrayList" "modCount" "I", Cond.sameField "java/util/ArrayList" "java/util/AbstractList" "modCount" "I", Cond.fieldLink RJx4a65c 48 "java/util/ArrayList" "size" "I", Cond.methodLink RJx4a65c 131 yJx4a65c_add_72be8, Cond.instanceMethod yJx4a65c_add_72be8, Cond.selects RJx4a65c yJx4a65c_add_72be8 yJx4a65c_add_72be8, Cond.code yJx4a65c_add_72be8 cJx4a65c_add_72be8 4 none, Cond.methodLink RJx4a65c 129 yJx4a65c_grow_d5877, Cond.instanceMethod yJx4a65c_grow_d5877, Cond.selects RJx4a65c yJx4a65c_grow_d5877 yJx4a65c_grow_d5877, Cond.code yJx4a65c_grow_d5877 cJx4a65c_grow_d5877 1 (some (.array (.object "java/lang/Object")))]
def wsX8_read_r12 : List Cond := [Cond.methodLink RJx4a65c 69 yJx4a65c_grow_92f84, Cond.instanceMethod yJx4a65c_grow_92f84, Cond.selects RJx4a65c yJx4a65c_grow_92f84 yJx4a65c_grow_92f84, Cond.code yJx4a65c_grow_92f84 cJx4a65c_grow_92f84 4 (some (.array (.object "java/lang/Object"))), Cond.methodLink RJx4a65c 79 Lib.Math.max.name, Cond.classLink RJx4a65c 7 "java/lang/Object", Cond.methodLink RJx4a65c 73 yJ8_newLength_cabcc, Cond.static yJ8_newLength_cabcc, Cond.initialized RJ8, Cond.code yJ8_newLength_cabcc cJ8_newLength_cabcc 4 (some .int), Cond.methodLink RJ8 194 Lib.Math.max.name, Cond.constant RJ8 200 (2147483639), Cond.methodLink RJ8 201 yJ8_hugeLength_7cf53, Cond.static yJ8_hugeLength_7cf53, Cond.code yJ8_hugeLength_7cf53 cJ8_hugeLength_7cf53 3 (some .int), Cond.methodLink RJx4a65c 66 yJ7_copyOf_1904c, Cond.static yJ7_copyOf_1904c, Cond.initialized RJ7, Cond.code yJ7_copyOf_1904c cJ7_copyOf_1904c 2 (some (.array (.object "java/lang/Object"))), Cond.methodLink RJ7 86 ⟨"java/lang/Object", "getClass", "()Ljava/lang/Class;"⟩, Cond.selects "[Ljava/lang/Object;" ⟨"java/lang/Object", "getClass", "()Ljava/lang/Class;"⟩ ⟨"java/lang/Object", "getClass", "()Ljava/lang/Class;"⟩, Cond.instanceMethod ⟨"java/lang/Object", "getClass", "()Ljava/lang/Class;"⟩, Cond.native ⟨"java/lang/Object", "getClass", "()Ljava/lang/Class;"⟩, Cond.methodLink RJ7 300 yJ7_copyOf_6403c]
def wsX8_read_r13 : List Cond := [Cond.static yJ7_copyOf_6403c, Cond.code yJ7_copyOf_6403c cJ7_copyOf_6403c 4 (some (.array (.object "java/lang/Object"))), Cond.classLink RJ7 110 "[Ljava/lang/Object;", Cond.classLink RJ7 2 "java/lang/Object", Cond.methodLink RJ7 304 Lib.Math.min.name, Cond.static Lib.Math.min.name, Cond.code Lib.Math.min.name Lib.Math.min.code 2 (some .int), Cond.methodLink RJ7 150 arraycopyName, Cond.native arraycopyName, Cond.static arraycopyName, Cond.initialized "java/lang/System", Cond.methodLink RX8 59 yX6_index, Cond.instanceMethod yX6_index, Cond.selects RX6 yX6_index yX6_index, Cond.code yX6_index cX6_index 1 (some .int), Cond.methodLink RX8 62 yX5_size, Cond.instanceMethod yX5_size, Cond.selects RX5 yX5_size yX5_size, Cond.code yX5_size cX5_size 1 (some .int), Cond.methodLink RX5 27 yJx4a65c_size_8abf5, Cond.instanceMethod yJx4a65c_size_8abf5, Cond.selects RJx4a65c yJx4a65c_size_8abf5 yJx4a65c_size_8abf5, Cond.code yJx4a65c_size_8abf5 cJx4a65c_size_8abf5 1 (some .int)]
def wsX8_read : List Cond := .code yX8_read cX8_read 3 (some .int) :: ((wsX8_read_r1 ++ (wsX8_read_r2 ++ (wsX8_read_r3 ++ (wsX8_read_r4 ++ (wsX8_read_r5 ++ (wsX8_read_r6 ++ (wsX8_read_r7 ++ (wsX8_read_r8 ++ (wsX8_read_r9 ++ (wsX8_read_r10 ++ (wsX8_read_r11 ++ (wsX8_read_r12 ++ wsX8_read_r13)))))))))))) ++ wsX60 ++ wsX80 ++ wsX50 ++ wsX20 ++ wsX00 ++ wsJx4a65c0 ++ wsX10 ++ wsX30)
def wsX8_condition : List Cond := .code yX8_condition cX8_condition 6 (some .boolean) :: ([.constantLong RX8 65 (-1), .fieldLink RX8 18 "InterlockTables" "conditions" "[J"] ++ wsX80)
def wsX8_tick_r1 : List Cond := [Cond.constant RX8 67 (100000), Cond.fieldLink RX8 25 "InterlockTables" "table" "LInterlockTables$Table;", Cond.fieldLink RX8 18 "InterlockTables" "conditions" "[J", Cond.methodLink RX8 68 yX5_letGoBy, Cond.instanceMethod yX5_letGoBy, Cond.selects RX5 yX5_letGoBy yX5_letGoBy, Cond.initialized RX5, Cond.code yX5_letGoBy cX5_letGoBy 5 none, Cond.fieldLink RX5 12 "InterlockTables$Table" "rows" "Ljava/util/ArrayList;", Cond.classLink RX5 35 "InterlockTables$Row", Cond.methodLink RX5 27 yJx4a65c_size_8abf5, Cond.instanceMethod yJx4a65c_size_8abf5, Cond.selects RJx4a65c yJx4a65c_size_8abf5 yJx4a65c_size_8abf5, Cond.initialized RJx4a65c, Cond.code yJx4a65c_size_8abf5 cJx4a65c_size_8abf5 1 (some .int), Cond.fieldLink RJx4a65c 48 "java/util/ArrayList" "size" "I", Cond.methodLink RX5 31 yJx4a65c_get_915e3, Cond.instanceMethod yJx4a65c_get_915e3, Cond.selects RJx4a65c yJx4a65c_get_915e3 yJx4a65c_get_915e3, Cond.code yJx4a65c_get_915e3 cJx4a65c_get_915e3 2 (some (.object "java/lang/Object")), Cond.methodLink RJx4a65c 118 yJ15_checkIndex_7cf53, Cond.static yJ15_checkIndex_7cf53, Cond.initialized RJ15, Cond.code yJ15_checkIndex_7cf53 cJ15_checkIndex_7cf53 2 (some .int)]
def wsX8_tick_r2 : List Cond := [Cond.methodLink RJ15 105 yJ3_checkIndex_8e157, Cond.static yJ3_checkIndex_8e157, Cond.initialized RJ3, Cond.code yJ3_checkIndex_8e157 cJ3_checkIndex_8e157 3 (some .int), Cond.methodLink RJx4a65c 123 yJx4a65c_elementData_915e3, Cond.instanceMethod yJx4a65c_elementData_915e3, Cond.selects RJx4a65c yJx4a65c_elementData_915e3 yJx4a65c_elementData_915e3, Cond.code yJx4a65c_elementData_915e3 cJx4a65c_elementData_915e3 2 (some (.object "java/lang/Object")), Cond.fieldLink RJx4a65c 9 "java/util/ArrayList" "elementData" "[Ljava/lang/Object;", Cond.methodLink RX5 51 yX5_isOn, Cond.instanceMethod yX5_isOn, Cond.selects RX5 yX5_isOn yX5_isOn, Cond.code yX5_isOn cX5_isOn 3 (some .boolean), Cond.methodLink RX5 37 yX5_valueOf, Cond.instanceMethod yX5_valueOf, Cond.selects RX5 yX5_valueOf yX5_valueOf, Cond.code yX5_valueOf cX5_valueOf 3 (some .long), Cond.fieldLink RX5 23 "InterlockTables$Table" "expressions" "LInterlockTables$Expressions;", Cond.methodLink RX5 48 yX1_valueOf, Cond.instanceMethod yX1_valueOf, Cond.selects RX1 yX1_valueOf yX1_valueOf, Cond.initialized RX1, Cond.code yX1_valueOf cX1_valueOf 7 (some .long), Cond.fieldLink RX1 9 "InterlockTables$Expressions" "stack" "[J"]
def wsX8_tick_r3 : List Cond := [Cond.constantLong RX1 37 (-1), Cond.methodLink RX1 29 yX1_at, Cond.instanceMethod yX1_at, Cond.selects RX1 yX1_at yX1_at, Cond.code yX1_at cX1_at 2 (some .int), Cond.fieldLink RX1 25 "InterlockTables$Expressions" "size" "I", Cond.fieldLink RX1 21 "InterlockTables$Expressions" "code" "[B", Cond.methodLink RX1 33 yX1_isCondition, Cond.static yX1_isCondition, Cond.code yX1_isCondition cX1_isCondition 1 (some .boolean), Cond.methodLink RX1 39 yX1_join, Cond.static yX1_join, Cond.code yX1_join cX1_join 5 (some .long), Cond.methodLink RX5 55 yX3_letGoBy, Cond.instanceMethod yX3_letGoBy, Cond.selects RX3 yX3_letGoBy yX3_letGoBy, Cond.initialized RX3, Cond.code yX3_letGoBy cX3_letGoBy 3 none, Cond.fieldLink RX3 26 "InterlockTables$Row" "passLeft" "I", Cond.methodLink RX3 43 Lib.Math.max.name, Cond.static Lib.Math.max.name, Cond.initialized "java/lang/Math", Cond.code Lib.Math.max.name Lib.Math.max.code 2 (some .int), Cond.constant RX3 49 (1000000)]
def wsX8_tick_r4 : List Cond := [Cond.fieldLink RX3 37 "InterlockTables$Row" "count" "I", Cond.methodLink RX3 50 Lib.Math.min.name, Cond.static Lib.Math.min.name, Cond.code Lib.Math.min.name Lib.Math.min.code 2 (some .int), Cond.fieldLink RX3 53 "InterlockTables$Row" "mayLatch" "Z", Cond.fieldLink RX3 29 "InterlockTables$Row" "latched" "Z", Cond.methodLink RX3 33 yX3_holds, Cond.instanceMethod yX3_holds, Cond.selects RX3 yX3_holds yX3_holds, Cond.code yX3_holds cX3_holds 2 (some .boolean), Cond.fieldLink RX3 40 "InterlockTables$Row" "number" "I"]
def wsX8_tick : List Cond := .code yX8_tick cX8_tick 2 (some .boolean) :: ((wsX8_tick_r1 ++ (wsX8_tick_r2 ++ (wsX8_tick_r3 ++ wsX8_tick_r4))) ++ wsX80 ++ wsX50 ++ wsJx4a65c0 ++ wsX30 ++ wsX10)
def wsX8_act_r1 : List Cond := [Cond.fieldLink RX8 25 "InterlockTables" "table" "LInterlockTables$Table;", Cond.fieldLink RX8 18 "InterlockTables" "conditions" "[J", Cond.methodLink RX8 72 yX5_firstToBar, Cond.instanceMethod yX5_firstToBar, Cond.selects RX5 yX5_firstToBar yX5_firstToBar, Cond.initialized RX5, Cond.code yX5_firstToBar cX5_firstToBar 5 (some .int), Cond.fieldLink RX5 12 "InterlockTables$Table" "rows" "Ljava/util/ArrayList;", Cond.classLink RX5 35 "InterlockTables$Row", Cond.methodLink RX5 27 yJx4a65c_size_8abf5, Cond.instanceMethod yJx4a65c_size_8abf5, Cond.selects RJx4a65c yJx4a65c_size_8abf5 yJx4a65c_size_8abf5, Cond.initialized RJx4a65c, Cond.code yJx4a65c_size_8abf5 cJx4a65c_size_8abf5 1 (some .int), Cond.fieldLink RJx4a65c 48 "java/util/ArrayList" "size" "I", Cond.methodLink RX5 31 yJx4a65c_get_915e3, Cond.instanceMethod yJx4a65c_get_915e3, Cond.selects RJx4a65c yJx4a65c_get_915e3 yJx4a65c_get_915e3, Cond.code yJx4a65c_get_915e3 cJx4a65c_get_915e3 2 (some (.object "java/lang/Object")), Cond.methodLink RJx4a65c 118 yJ15_checkIndex_7cf53, Cond.static yJ15_checkIndex_7cf53, Cond.initialized RJ15, Cond.code yJ15_checkIndex_7cf53 cJ15_checkIndex_7cf53 2 (some .int), Cond.methodLink RJ15 105 yJ3_checkIndex_8e157]
def wsX8_act_r2 : List Cond := [Cond.static yJ3_checkIndex_8e157, Cond.initialized RJ3, Cond.code yJ3_checkIndex_8e157 cJ3_checkIndex_8e157 3 (some .int), Cond.methodLink RJx4a65c 123 yJx4a65c_elementData_915e3, Cond.instanceMethod yJx4a65c_elementData_915e3, Cond.selects RJx4a65c yJx4a65c_elementData_915e3 yJx4a65c_elementData_915e3, Cond.code yJx4a65c_elementData_915e3 cJx4a65c_elementData_915e3 2 (some (.object "java/lang/Object")), Cond.fieldLink RJx4a65c 9 "java/util/ArrayList" "elementData" "[Ljava/lang/Object;", Cond.methodLink RX5 59 yX3_hasAct, Cond.instanceMethod yX3_hasAct, Cond.selects RX3 yX3_hasAct yX3_hasAct, Cond.initialized RX3, Cond.code yX3_hasAct cX3_hasAct 2 (some .boolean), Cond.fieldLink RX3 15 "InterlockTables$Row" "actBits" "I", Cond.methodLink RX5 51 yX5_isOn, Cond.instanceMethod yX5_isOn, Cond.selects RX5 yX5_isOn yX5_isOn, Cond.code yX5_isOn cX5_isOn 3 (some .boolean), Cond.methodLink RX5 37 yX5_valueOf, Cond.instanceMethod yX5_valueOf, Cond.selects RX5 yX5_valueOf yX5_valueOf, Cond.code yX5_valueOf cX5_valueOf 3 (some .long), Cond.fieldLink RX5 23 "InterlockTables$Table" "expressions" "LInterlockTables$Expressions;", Cond.methodLink RX5 48 yX1_valueOf]
def wsX8_act_r3 : List Cond := [Cond.instanceMethod yX1_valueOf, Cond.selects RX1 yX1_valueOf yX1_valueOf, Cond.initialized RX1, Cond.code yX1_valueOf cX1_valueOf 7 (some .long), Cond.fieldLink RX1 9 "InterlockTables$Expressions" "stack" "[J", Cond.constantLong RX1 37 (-1), Cond.methodLink RX1 29 yX1_at, Cond.instanceMethod yX1_at, Cond.selects RX1 yX1_at yX1_at, Cond.code yX1_at cX1_at 2 (some .int), Cond.fieldLink RX1 25 "InterlockTables$Expressions" "size" "I", Cond.fieldLink RX1 21 "InterlockTables$Expressions" "code" "[B", Cond.methodLink RX1 33 yX1_isCondition, Cond.static yX1_isCondition, Cond.code yX1_isCondition cX1_isCondition 1 (some .boolean), Cond.methodLink RX1 39 yX1_join, Cond.static yX1_join, Cond.code yX1_join cX1_join 5 (some .long), Cond.methodLink RX5 63 yX3_bars, Cond.instanceMethod yX3_bars, Cond.selects RX3 yX3_bars yX3_bars, Cond.code yX3_bars cX3_bars 2 (some .boolean), Cond.fieldLink RX3 26 "InterlockTables$Row" "passLeft" "I", Cond.fieldLink RX3 29 "InterlockTables$Row" "latched" "Z"]
def wsX8_act_r4 : List Cond := [Cond.methodLink RX3 33 yX3_holds, Cond.instanceMethod yX3_holds, Cond.selects RX3 yX3_holds yX3_holds, Cond.code yX3_holds cX3_holds 2 (some .boolean), Cond.fieldLink RX3 37 "InterlockTables$Row" "count" "I", Cond.fieldLink RX3 40 "InterlockTables$Row" "number" "I"]
def wsX8_act : List Cond := .code yX8_act cX8_act 2 (some .int) :: ((wsX8_act_r1 ++ (wsX8_act_r2 ++ (wsX8_act_r3 ++ wsX8_act_r4))) ++ wsX80 ++ wsX50 ++ wsJx4a65c0 ++ wsX30 ++ wsX10)
def wsX8_isPerson : List Cond := .code yX8_isPerson cX8_isPerson 1 (some .boolean) :: ([])
def wsX8_pass_r1 : List Cond := [Cond.fieldLink RX8 25 "InterlockTables" "table" "LInterlockTables$Table;", Cond.methodLink RX8 76 yX5_find, Cond.instanceMethod yX5_find, Cond.selects RX5 yX5_find yX5_find, Cond.initialized RX5, Cond.code yX5_find cX5_find 2 (some (.object "InterlockTables$Row")), Cond.fieldLink RX5 12 "InterlockTables$Table" "rows" "Ljava/util/ArrayList;", Cond.classLink RX5 35 "InterlockTables$Row", Cond.methodLink RX5 27 yJx4a65c_size_8abf5, Cond.instanceMethod yJx4a65c_size_8abf5, Cond.selects RJx4a65c yJx4a65c_size_8abf5 yJx4a65c_size_8abf5, Cond.initialized RJx4a65c, Cond.code yJx4a65c_size_8abf5 cJx4a65c_size_8abf5 1 (some .int), Cond.fieldLink RJx4a65c 48 "java/util/ArrayList" "size" "I", Cond.methodLink RX5 31 yJx4a65c_get_915e3, Cond.instanceMethod yJx4a65c_get_915e3, Cond.selects RJx4a65c yJx4a65c_get_915e3 yJx4a65c_get_915e3, Cond.code yJx4a65c_get_915e3 cJx4a65c_get_915e3 2 (some (.object "java/lang/Object")), Cond.methodLink RJx4a65c 118 yJ15_checkIndex_7cf53, Cond.static yJ15_checkIndex_7cf53, Cond.initialized RJ15, Cond.code yJ15_checkIndex_7cf53 cJ15_checkIndex_7cf53 2 (some .int), Cond.methodLink RJ15 105 yJ3_checkIndex_8e157, Cond.static yJ3_checkIndex_8e157]
def wsX8_pass_r2 : List Cond := [Cond.initialized RJ3, Cond.code yJ3_checkIndex_8e157 cJ3_checkIndex_8e157 3 (some .int), Cond.methodLink RJx4a65c 123 yJx4a65c_elementData_915e3, Cond.instanceMethod yJx4a65c_elementData_915e3, Cond.selects RJx4a65c yJx4a65c_elementData_915e3 yJx4a65c_elementData_915e3, Cond.code yJx4a65c_elementData_915e3 cJx4a65c_elementData_915e3 2 (some (.object "java/lang/Object")), Cond.fieldLink RJx4a65c 9 "java/util/ArrayList" "elementData" "[Ljava/lang/Object;", Cond.methodLink RX8 80 yX8_isPerson, Cond.static yX8_isPerson, Cond.initialized RX8, Cond.code yX8_isPerson cX8_isPerson 1 (some .boolean)]
def wsX8_pass : List Cond := .code yX8_pass cX8_pass 6 (some .int) :: ((wsX8_pass_r1 ++ wsX8_pass_r2) ++ wsX80 ++ wsX30 ++ wsX50 ++ wsJx4a65c0)
def wsX8_listed_r1 : List Cond := [Cond.fieldLink RX8 25 "InterlockTables" "table" "LInterlockTables$Table;", Cond.methodLink RX8 89 yX5_passedRow, Cond.instanceMethod yX5_passedRow, Cond.selects RX5 yX5_passedRow yX5_passedRow, Cond.initialized RX5, Cond.code yX5_passedRow cX5_passedRow 2 (some .int), Cond.methodLink RX5 67 yX5_pick, Cond.instanceMethod yX5_pick, Cond.selects RX5 yX5_pick yX5_pick, Cond.code yX5_pick cX5_pick 6 (some .int), Cond.fieldLink RX5 12 "InterlockTables$Table" "rows" "Ljava/util/ArrayList;", Cond.classLink RX5 35 "InterlockTables$Row", Cond.methodLink RX5 27 yJx4a65c_size_8abf5, Cond.instanceMethod yJx4a65c_size_8abf5, Cond.selects RJx4a65c yJx4a65c_size_8abf5 yJx4a65c_size_8abf5, Cond.initialized RJx4a65c, Cond.code yJx4a65c_size_8abf5 cJx4a65c_size_8abf5 1 (some .int), Cond.fieldLink RJx4a65c 48 "java/util/ArrayList" "size" "I", Cond.methodLink RX5 31 yJx4a65c_get_915e3, Cond.instanceMethod yJx4a65c_get_915e3, Cond.selects RJx4a65c yJx4a65c_get_915e3 yJx4a65c_get_915e3, Cond.code yJx4a65c_get_915e3 cJx4a65c_get_915e3 2 (some (.object "java/lang/Object")), Cond.methodLink RJx4a65c 118 yJ15_checkIndex_7cf53, Cond.static yJ15_checkIndex_7cf53]
def wsX8_listed_r2 : List Cond := [Cond.initialized RJ15, Cond.code yJ15_checkIndex_7cf53 cJ15_checkIndex_7cf53 2 (some .int), Cond.methodLink RJ15 105 yJ3_checkIndex_8e157, Cond.static yJ3_checkIndex_8e157, Cond.initialized RJ3, Cond.code yJ3_checkIndex_8e157 cJ3_checkIndex_8e157 3 (some .int), Cond.methodLink RJx4a65c 123 yJx4a65c_elementData_915e3, Cond.instanceMethod yJx4a65c_elementData_915e3, Cond.selects RJx4a65c yJx4a65c_elementData_915e3 yJx4a65c_elementData_915e3, Cond.code yJx4a65c_elementData_915e3 cJx4a65c_elementData_915e3 2 (some (.object "java/lang/Object")), Cond.fieldLink RJx4a65c 9 "java/util/ArrayList" "elementData" "[Ljava/lang/Object;"]
def wsX8_listed : List Cond := .code yX8_listed cX8_listed 2 (some .int) :: ((wsX8_listed_r1 ++ wsX8_listed_r2) ++ wsX80 ++ wsX50 ++ wsX30 ++ wsJx4a65c0)
def wsX8_reset_r1 : List Cond := [Cond.fieldLink RX8 25 "InterlockTables" "table" "LInterlockTables$Table;", Cond.fieldLink RX8 18 "InterlockTables" "conditions" "[J", Cond.methodLink RX8 76 yX5_find, Cond.instanceMethod yX5_find, Cond.selects RX5 yX5_find yX5_find, Cond.initialized RX5, Cond.code yX5_find cX5_find 2 (some (.object "InterlockTables$Row")), Cond.fieldLink RX5 12 "InterlockTables$Table" "rows" "Ljava/util/ArrayList;", Cond.classLink RX5 35 "InterlockTables$Row", Cond.methodLink RX5 27 yJx4a65c_size_8abf5, Cond.instanceMethod yJx4a65c_size_8abf5, Cond.selects RJx4a65c yJx4a65c_size_8abf5 yJx4a65c_size_8abf5, Cond.initialized RJx4a65c, Cond.code yJx4a65c_size_8abf5 cJx4a65c_size_8abf5 1 (some .int), Cond.fieldLink RJx4a65c 48 "java/util/ArrayList" "size" "I", Cond.methodLink RX5 31 yJx4a65c_get_915e3, Cond.instanceMethod yJx4a65c_get_915e3, Cond.selects RJx4a65c yJx4a65c_get_915e3 yJx4a65c_get_915e3, Cond.code yJx4a65c_get_915e3 cJx4a65c_get_915e3 2 (some (.object "java/lang/Object")), Cond.methodLink RJx4a65c 118 yJ15_checkIndex_7cf53, Cond.static yJ15_checkIndex_7cf53, Cond.initialized RJ15, Cond.code yJ15_checkIndex_7cf53 cJ15_checkIndex_7cf53 2 (some .int), Cond.methodLink RJ15 105 yJ3_checkIndex_8e157]
def wsX8_reset_r2 : List Cond := [Cond.static yJ3_checkIndex_8e157, Cond.initialized RJ3, Cond.code yJ3_checkIndex_8e157 cJ3_checkIndex_8e157 3 (some .int), Cond.methodLink RJx4a65c 123 yJx4a65c_elementData_915e3, Cond.instanceMethod yJx4a65c_elementData_915e3, Cond.selects RJx4a65c yJx4a65c_elementData_915e3 yJx4a65c_elementData_915e3, Cond.code yJx4a65c_elementData_915e3 cJx4a65c_elementData_915e3 2 (some (.object "java/lang/Object")), Cond.fieldLink RJx4a65c 9 "java/util/ArrayList" "elementData" "[Ljava/lang/Object;", Cond.methodLink RX8 97 yX5_isOn, Cond.instanceMethod yX5_isOn, Cond.selects RX5 yX5_isOn yX5_isOn, Cond.code yX5_isOn cX5_isOn 3 (some .boolean), Cond.methodLink RX5 37 yX5_valueOf, Cond.instanceMethod yX5_valueOf, Cond.selects RX5 yX5_valueOf yX5_valueOf, Cond.code yX5_valueOf cX5_valueOf 3 (some .long), Cond.fieldLink RX5 23 "InterlockTables$Table" "expressions" "LInterlockTables$Expressions;", Cond.methodLink RX5 48 yX1_valueOf, Cond.instanceMethod yX1_valueOf, Cond.selects RX1 yX1_valueOf yX1_valueOf, Cond.initialized RX1, Cond.code yX1_valueOf cX1_valueOf 7 (some .long), Cond.fieldLink RX1 9 "InterlockTables$Expressions" "stack" "[J", Cond.constantLong RX1 37 (-1)]
def wsX8_reset_r3 : List Cond := [Cond.methodLink RX1 29 yX1_at, Cond.instanceMethod yX1_at, Cond.selects RX1 yX1_at yX1_at, Cond.code yX1_at cX1_at 2 (some .int), Cond.fieldLink RX1 25 "InterlockTables$Expressions" "size" "I", Cond.fieldLink RX1 21 "InterlockTables$Expressions" "code" "[B", Cond.methodLink RX1 33 yX1_isCondition, Cond.static yX1_isCondition, Cond.code yX1_isCondition cX1_isCondition 1 (some .boolean), Cond.methodLink RX1 39 yX1_join, Cond.static yX1_join, Cond.code yX1_join cX1_join 5 (some .long)]
def wsX8_reset : List Cond := .code yX8_reset cX8_reset 3 (some .boolean) :: ((wsX8_reset_r1 ++ (wsX8_reset_r2 ++ wsX8_reset_r3)) ++ wsX80 ++ wsX30 ++ wsX50 ++ wsJx4a65c0 ++ wsX10)
def wsX8_test_r1 : List Cond := [Cond.fieldLink RX8 25 "InterlockTables" "table" "LInterlockTables$Table;", Cond.methodLink RX8 101 yX5_idleRow, Cond.instanceMethod yX5_idleRow, Cond.selects RX5 yX5_idleRow yX5_idleRow, Cond.initialized RX5, Cond.code yX5_idleRow cX5_idleRow 2 (some .int), Cond.fieldLink RX5 71 "InterlockTables$Table" "surveyed" "Z", Cond.classLink RX5 75 RX4, Cond.instantiable RX4 5, Cond.initialized RX4, Cond.methodLink RX5 77 yX4_init, Cond.instanceMethod yX4_init, Cond.code yX4_init cX4_init 2 none, Cond.methodLink RX4 3 objectInit, Cond.instanceMethod objectInit, Cond.code objectInit ⟨#[0xb1]⟩ 1 none, Cond.arrayClass .int, Cond.fieldLink RX4 9 "InterlockTables$Survey" "used" "[I", Cond.arrayClass .long, Cond.fieldLink RX4 15 "InterlockTables$Survey" "settings" "[J", Cond.fieldLink RX4 19 "InterlockTables$Survey" "covered" "[J", Cond.fieldLink RX4 22 "InterlockTables$Survey" "table" "LInterlockTables$Table;", Cond.methodLink RX5 80 yX4_markRows, Cond.instanceMethod yX4_markRows]
def wsX8_test_r2 : List Cond := [Cond.selects RX4 yX4_markRows yX4_markRows, Cond.code yX4_markRows cX4_markRows 4 none, Cond.fieldLink RX4 29 "InterlockTables$Survey" "usedCount" "I", Cond.methodLink RX4 36 Lib.Math.max.name, Cond.static Lib.Math.max.name, Cond.initialized "java/lang/Math", Cond.code Lib.Math.max.name Lib.Math.max.code 2 (some .int), Cond.methodLink RX4 26 yX4_findUsed, Cond.instanceMethod yX4_findUsed, Cond.selects RX4 yX4_findUsed yX4_findUsed, Cond.code yX4_findUsed cX4_findUsed 5 none, Cond.methodLink RX4 59 yX1_size, Cond.instanceMethod yX1_size, Cond.selects RX1 yX1_size yX1_size, Cond.initialized RX1, Cond.code yX1_size cX1_size 1 (some .int), Cond.fieldLink RX1 25 "InterlockTables$Expressions" "size" "I", Cond.methodLink RX4 62 yX1_at, Cond.instanceMethod yX1_at, Cond.selects RX1 yX1_at yX1_at, Cond.code yX1_at cX1_at 2 (some .int), Cond.fieldLink RX1 21 "InterlockTables$Expressions" "code" "[B", Cond.methodLink RX4 66 yX1_isCondition, Cond.static yX1_isCondition]
def wsX8_test_r3 : List Cond := [Cond.code yX1_isCondition cX1_isCondition 1 (some .boolean), Cond.methodLink RX4 42 yX5_size, Cond.instanceMethod yX5_size, Cond.selects RX5 yX5_size yX5_size, Cond.code yX5_size cX5_size 1 (some .int), Cond.fieldLink RX5 12 "InterlockTables$Table" "rows" "Ljava/util/ArrayList;", Cond.methodLink RX5 27 yJx4a65c_size_8abf5, Cond.instanceMethod yJx4a65c_size_8abf5, Cond.selects RJx4a65c yJx4a65c_size_8abf5 yJx4a65c_size_8abf5, Cond.initialized RJx4a65c, Cond.code yJx4a65c_size_8abf5 cJx4a65c_size_8abf5 1 (some .int), Cond.fieldLink RJx4a65c 48 "java/util/ArrayList" "size" "I", Cond.methodLink RX4 48 yX4_set, Cond.instanceMethod yX4_set, Cond.selects RX4 yX4_set yX4_set, Cond.code yX4_set cX4_set 6 none, Cond.methodLink RX4 52 yX4_markBlock, Cond.instanceMethod yX4_markBlock, Cond.selects RX4 yX4_markBlock yX4_markBlock, Cond.code yX4_markBlock cX4_markBlock 5 (some .int), Cond.classLink RX4 86 "InterlockTables$Row", Cond.methodLink RX4 70 yJ7_fill_d0a16, Cond.static yJ7_fill_d0a16, Cond.initialized RJ7]
def wsX8_test_r4 : List Cond := [Cond.code yJ7_fill_d0a16 cJ7_fill_d0a16 5 none, Cond.methodLink RX4 80 yJx4a65c_get_915e3, Cond.instanceMethod yJx4a65c_get_915e3, Cond.selects RJx4a65c yJx4a65c_get_915e3 yJx4a65c_get_915e3, Cond.code yJx4a65c_get_915e3 cJx4a65c_get_915e3 2 (some (.object "java/lang/Object")), Cond.methodLink RJx4a65c 118 yJ15_checkIndex_7cf53, Cond.static yJ15_checkIndex_7cf53, Cond.initialized RJ15, Cond.code yJ15_checkIndex_7cf53 cJ15_checkIndex_7cf53 2 (some .int), Cond.methodLink RJ15 105 yJ3_checkIndex_8e157, Cond.static yJ3_checkIndex_8e157, Cond.initialized RJ3, Cond.code yJ3_checkIndex_8e157 cJ3_checkIndex_8e157 3 (some .int), Cond.methodLink RJx4a65c 123 yJx4a65c_elementData_915e3, Cond.instanceMethod yJx4a65c_elementData_915e3, Cond.selects RJx4a65c yJx4a65c_elementData_915e3 yJx4a65c_elementData_915e3, Cond.code yJx4a65c_elementData_915e3 cJx4a65c_elementData_915e3 2 (some (.object "java/lang/Object")), Cond.fieldLink RJx4a65c 9 "java/util/ArrayList" "elementData" "[Ljava/lang/Object;", Cond.methodLink RX4 88 yX5_valueOf, Cond.instanceMethod yX5_valueOf, Cond.selects RX5 yX5_valueOf yX5_valueOf, Cond.code yX5_valueOf cX5_valueOf 3 (some .long), Cond.fieldLink RX5 23 "InterlockTables$Table" "expressions" "LInterlockTables$Expressions;", Cond.methodLink RX5 48 yX1_valueOf]
def wsX8_test_r5 : List Cond := [Cond.instanceMethod yX1_valueOf, Cond.selects RX1 yX1_valueOf yX1_valueOf, Cond.code yX1_valueOf cX1_valueOf 7 (some .long), Cond.fieldLink RX1 9 "InterlockTables$Expressions" "stack" "[J", Cond.constantLong RX1 37 (-1), Cond.methodLink RX1 29 yX1_at, Cond.methodLink RX1 33 yX1_isCondition, Cond.methodLink RX1 39 yX1_join, Cond.static yX1_join, Cond.code yX1_join cX1_join 5 (some .long), Cond.methodLink RX4 92 yX4_cover, Cond.instanceMethod yX4_cover, Cond.selects RX4 yX4_cover yX4_cover, Cond.code yX4_cover cX4_cover 7 (some .boolean), Cond.constantLong RX4 106 (-1), Cond.methodLink RX4 103 yX3_actAt, Cond.instanceMethod yX3_actAt, Cond.selects RX3 yX3_actAt yX3_actAt, Cond.initialized RX3, Cond.code yX3_actAt cX3_actAt 2 (some .int), Cond.fieldLink RX3 19 "InterlockTables$Row" "actCount" "I", Cond.fieldLink RX3 9 "InterlockTables$Row" "acts" "[I", Cond.methodLink RX5 67 yX5_pick, Cond.instanceMethod yX5_pick]
def wsX8_test_r6 : List Cond := [Cond.selects RX5 yX5_pick yX5_pick, Cond.code yX5_pick cX5_pick 6 (some .int), Cond.classLink RX5 35 "InterlockTables$Row", Cond.methodLink RX5 31 yJx4a65c_get_915e3]
def wsX8_test : List Cond := .code yX8_test cX8_test 2 (some .int) :: ((wsX8_test_r1 ++ (wsX8_test_r2 ++ (wsX8_test_r3 ++ (wsX8_test_r4 ++ (wsX8_test_r5 ++ wsX8_test_r6))))) ++ wsX80 ++ wsX50 ++ wsX40 ++ wsX10 ++ wsJx4a65c0 ++ wsX30)
def wsX8_oneIf : List Cond := .code yX8_oneIf cX8_oneIf 1 (some .int) :: ([])
def wsX8_row_r1 : List Cond := [Cond.fieldLink RX8 25 "InterlockTables" "table" "LInterlockTables$Table;", Cond.fieldLink RX8 18 "InterlockTables" "conditions" "[J", Cond.methodLink RX8 76 yX5_find, Cond.instanceMethod yX5_find, Cond.selects RX5 yX5_find yX5_find, Cond.initialized RX5, Cond.code yX5_find cX5_find 2 (some (.object "InterlockTables$Row")), Cond.fieldLink RX5 12 "InterlockTables$Table" "rows" "Ljava/util/ArrayList;", Cond.classLink RX5 35 "InterlockTables$Row", Cond.methodLink RX5 27 yJx4a65c_size_8abf5, Cond.instanceMethod yJx4a65c_size_8abf5, Cond.selects RJx4a65c yJx4a65c_size_8abf5 yJx4a65c_size_8abf5, Cond.initialized RJx4a65c, Cond.code yJx4a65c_size_8abf5 cJx4a65c_size_8abf5 1 (some .int), Cond.fieldLink RJx4a65c 48 "java/util/ArrayList" "size" "I", Cond.methodLink RX5 31 yJx4a65c_get_915e3, Cond.instanceMethod yJx4a65c_get_915e3, Cond.selects RJx4a65c yJx4a65c_get_915e3 yJx4a65c_get_915e3, Cond.code yJx4a65c_get_915e3 cJx4a65c_get_915e3 2 (some (.object "java/lang/Object")), Cond.methodLink RJx4a65c 118 yJ15_checkIndex_7cf53, Cond.static yJ15_checkIndex_7cf53, Cond.initialized RJ15, Cond.code yJ15_checkIndex_7cf53 cJ15_checkIndex_7cf53 2 (some .int), Cond.methodLink RJ15 105 yJ3_checkIndex_8e157]
def wsX8_row_r2 : List Cond := [Cond.static yJ3_checkIndex_8e157, Cond.initialized RJ3, Cond.code yJ3_checkIndex_8e157 cJ3_checkIndex_8e157 3 (some .int), Cond.methodLink RJx4a65c 123 yJx4a65c_elementData_915e3, Cond.instanceMethod yJx4a65c_elementData_915e3, Cond.selects RJx4a65c yJx4a65c_elementData_915e3 yJx4a65c_elementData_915e3, Cond.code yJx4a65c_elementData_915e3 cJx4a65c_elementData_915e3 2 (some (.object "java/lang/Object")), Cond.fieldLink RJx4a65c 9 "java/util/ArrayList" "elementData" "[Ljava/lang/Object;", Cond.methodLink RX8 113 yX8_oneIf, Cond.static yX8_oneIf, Cond.initialized RX8, Cond.code yX8_oneIf cX8_oneIf 1 (some .int), Cond.methodLink RX8 97 yX5_isOn, Cond.instanceMethod yX5_isOn, Cond.selects RX5 yX5_isOn yX5_isOn, Cond.code yX5_isOn cX5_isOn 3 (some .boolean), Cond.methodLink RX5 37 yX5_valueOf, Cond.instanceMethod yX5_valueOf, Cond.selects RX5 yX5_valueOf yX5_valueOf, Cond.code yX5_valueOf cX5_valueOf 3 (some .long), Cond.fieldLink RX5 23 "InterlockTables$Table" "expressions" "LInterlockTables$Expressions;", Cond.methodLink RX5 48 yX1_valueOf, Cond.instanceMethod yX1_valueOf, Cond.selects RX1 yX1_valueOf yX1_valueOf]
def wsX8_row_r3 : List Cond := [Cond.initialized RX1, Cond.code yX1_valueOf cX1_valueOf 7 (some .long), Cond.fieldLink RX1 9 "InterlockTables$Expressions" "stack" "[J", Cond.constantLong RX1 37 (-1), Cond.methodLink RX1 29 yX1_at, Cond.instanceMethod yX1_at, Cond.selects RX1 yX1_at yX1_at, Cond.code yX1_at cX1_at 2 (some .int), Cond.fieldLink RX1 25 "InterlockTables$Expressions" "size" "I", Cond.fieldLink RX1 21 "InterlockTables$Expressions" "code" "[B", Cond.methodLink RX1 33 yX1_isCondition, Cond.static yX1_isCondition, Cond.code yX1_isCondition cX1_isCondition 1 (some .boolean), Cond.methodLink RX1 39 yX1_join, Cond.static yX1_join, Cond.code yX1_join cX1_join 5 (some .long)]
def wsX8_row : List Cond := .code yX8_row cX8_row 4 (some .int) :: ((wsX8_row_r1 ++ (wsX8_row_r2 ++ wsX8_row_r3)) ++ wsX80 ++ wsX30 ++ wsX50 ++ wsJx4a65c0 ++ wsX10)
def wsX8_write_r1 : List Cond := [Cond.fieldLink RX8 25 "InterlockTables" "table" "LInterlockTables$Table;", Cond.methodLink RX8 122 yX5_written, Cond.instanceMethod yX5_written, Cond.selects RX5 yX5_written yX5_written, Cond.initialized RX5, Cond.code yX5_written cX5_written 3 (some (.object "InterlockTables$Bytes")), Cond.fieldLink RX5 89 "InterlockTables$Table" "written" "LInterlockTables$Bytes;", Cond.classLink RX5 93 RX7, Cond.instantiable RX7 3, Cond.initialized RX7, Cond.fieldLink RX5 23 "InterlockTables$Table" "expressions" "LInterlockTables$Expressions;", Cond.fieldLink RX5 12 "InterlockTables$Table" "rows" "Ljava/util/ArrayList;", Cond.classLink RX5 35 "InterlockTables$Row", Cond.methodLink RX5 95 yX7_init, Cond.instanceMethod yX7_init, Cond.code yX7_init cX7_init 2 none, Cond.methodLink RX7 3 objectInit, Cond.instanceMethod objectInit, Cond.code objectInit ⟨#[0xb1]⟩ 1 none, Cond.classLink RX7 9 RX0, Cond.instantiable RX0 3, Cond.initialized RX0, Cond.fieldLink RX7 14 "InterlockTables$Writer" "out" "LInterlockTables$Bytes;", Cond.fieldLink RX7 20 "InterlockTables$Writer" "expressions" "LInterlockTables$Expressions;"]
def wsX8_write_r2 : List Cond := [Cond.methodLink RX7 11 yX0_init, Cond.instanceMethod yX0_init, Cond.code yX0_init cX0_init 2 none, Cond.methodLink RX0 3 objectInit, Cond.fieldLink RX0 9 "InterlockTables$Bytes" "limit" "I", Cond.arrayClass .byte, Cond.fieldLink RX0 15 "InterlockTables$Bytes" "room" "[B", Cond.fieldLink RX0 19 "InterlockTables$Bytes" "length" "I", Cond.methodLink RX5 27 yJx4a65c_size_8abf5, Cond.instanceMethod yJx4a65c_size_8abf5, Cond.selects RJx4a65c yJx4a65c_size_8abf5 yJx4a65c_size_8abf5, Cond.initialized RJx4a65c, Cond.code yJx4a65c_size_8abf5 cJx4a65c_size_8abf5 1 (some .int), Cond.fieldLink RJx4a65c 48 "java/util/ArrayList" "size" "I", Cond.methodLink RX5 31 yJx4a65c_get_915e3, Cond.instanceMethod yJx4a65c_get_915e3, Cond.selects RJx4a65c yJx4a65c_get_915e3 yJx4a65c_get_915e3, Cond.code yJx4a65c_get_915e3 cJx4a65c_get_915e3 2 (some (.object "java/lang/Object")), Cond.methodLink RJx4a65c 118 yJ15_checkIndex_7cf53, Cond.static yJ15_checkIndex_7cf53, Cond.initialized RJ15, Cond.code yJ15_checkIndex_7cf53 cJ15_checkIndex_7cf53 2 (some .int), Cond.methodLink RJ15 105 yJ3_checkIndex_8e157, Cond.static yJ3_checkIndex_8e157]
def wsX8_write_r3 : List Cond := [Cond.initialized RJ3, Cond.code yJ3_checkIndex_8e157 cJ3_checkIndex_8e157 3 (some .int), Cond.methodLink RJx4a65c 123 yJx4a65c_elementData_915e3, Cond.instanceMethod yJx4a65c_elementData_915e3, Cond.selects RJx4a65c yJx4a65c_elementData_915e3 yJx4a65c_elementData_915e3, Cond.code yJx4a65c_elementData_915e3 cJx4a65c_elementData_915e3 2 (some (.object "java/lang/Object")), Cond.fieldLink RJx4a65c 9 "java/util/ArrayList" "elementData" "[Ljava/lang/Object;", Cond.methodLink RX5 98 yX7_putRow, Cond.instanceMethod yX7_putRow, Cond.selects RX7 yX7_putRow yX7_putRow, Cond.code yX7_putRow cX7_putRow 3 none, Cond.fieldLink RX7 74 "InterlockTables$Writer" "blankDue" "Z", Cond.methodLink RX7 26 yX7_putWord, Cond.instanceMethod yX7_putWord, Cond.selects RX7 yX7_putWord yX7_putWord, Cond.code yX7_putWord cX7_putWord 3 none, Cond.methodLink RX7 70 yX0_add, Cond.instanceMethod yX0_add, Cond.selects RX0 yX0_add yX0_add, Cond.code yX0_add cX0_add 2 (some .boolean), Cond.methodLink RX0 22 yJ7_copyOf_9075b, Cond.static yJ7_copyOf_9075b, Cond.initialized RJ7, Cond.code yJ7_copyOf_9075b cJ7_copyOf_9075b 3 (some (.array .byte))]
def wsX8_write_r4 : List Cond := [Cond.methodLink RJ7 310 ⟨"[B", "clone", "()Ljava/lang/Object;"⟩, Cond.sameMethod "[B" "java/lang/Object" "clone" "()Ljava/lang/Object;", Cond.native ⟨"java/lang/Object", "clone", "()Ljava/lang/Object;"⟩, Cond.instanceMethod ⟨"java/lang/Object", "clone", "()Ljava/lang/Object;"⟩, Cond.selects "[B" ⟨"[B", "clone", "()Ljava/lang/Object;"⟩ ⟨"java/lang/Object", "clone", "()Ljava/lang/Object;"⟩, Cond.classLink RJ7 311 "[B", Cond.methodLink RJ7 304 Lib.Math.min.name, Cond.static Lib.Math.min.name, Cond.initialized "java/lang/Math", Cond.code Lib.Math.min.name Lib.Math.min.code 2 (some .int), Cond.methodLink RJ7 150 arraycopyName, Cond.native arraycopyName, Cond.static arraycopyName, Cond.initialized "java/lang/System", Cond.methodLink RX7 101 yJ0_length_8abf5, Cond.instanceMethod yJ0_length_8abf5, Cond.selects RJ0 yJ0_length_8abf5 yJ0_length_8abf5, Cond.initialized RJ0, Cond.code yJ0_length_8abf5 cJ0_length_8abf5 1 (some .int), Cond.fieldLink RJ0 9 "java/lang/String" "value" "[B", Cond.methodLink RJ0 335 yJ0_coder_7d493, Cond.instanceMethod yJ0_coder_7d493, Cond.selects RJ0 yJ0_coder_7d493 yJ0_coder_7d493, Cond.code yJ0_coder_7d493 cJ0_coder_7d493 1 (some .byte)]
def wsX8_write_r5 : List Cond := [Cond.fieldLink RJ0 38 "java/lang/String" "COMPACT_STRINGS" "Z", Cond.fieldLink RJ0 15 "java/lang/String" "coder" "B", Cond.methodLink RX7 107 yJ0_charAt_5068e, Cond.instanceMethod yJ0_charAt_5068e, Cond.selects RJ0 yJ0_charAt_5068e yJ0_charAt_5068e, Cond.code yJ0_charAt_5068e cJ0_charAt_5068e 2 (some .char), Cond.methodLink RJ0 492 yJ0_isLatin1_aae02, Cond.instanceMethod yJ0_isLatin1_aae02, Cond.selects RJ0 yJ0_isLatin1_aae02 yJ0_isLatin1_aae02, Cond.code yJ0_isLatin1_aae02 cJ0_isLatin1_aae02 1 (some .boolean), Cond.methodLink RJ0 495 yJ1_charAt_3b067, Cond.static yJ1_charAt_3b067, Cond.initialized RJ1, Cond.code yJ1_charAt_3b067 cJ1_charAt_3b067 2 (some .char), Cond.methodLink RJ1 9 yJ0_checkIndex_df160, Cond.static yJ0_checkIndex_df160, Cond.code yJ0_checkIndex_df160 cJ0_checkIndex_df160 2 none, Cond.fieldLink RJ0 1053 "jdk/internal/util/Preconditions" "SIOOBE_FORMATTER" "Ljava/util/function/BiFunction;", Cond.methodLink RJ0 1059 yJ3_checkIndex_8e157, Cond.methodLink RJ0 498 yJ2_charAt_3b067, Cond.static yJ2_charAt_3b067, Cond.initialized RJ2, Cond.code yJ2_charAt_3b067 cJ2_charAt_3b067 2 (some .char), Cond.methodLink RJ2 67 yJ2_checkIndex_2214a]
def wsX8_write_r6 : List Cond := [Cond.static yJ2_checkIndex_2214a, Cond.code yJ2_checkIndex_2214a cJ2_checkIndex_2214a 2 none, Cond.methodLink RJ2 48 yJ2_length_9d52b, Cond.static yJ2_length_9d52b, Cond.code yJ2_length_9d52b cJ2_length_9d52b 1 (some .int), Cond.methodLink RJ2 414 yJ0_checkIndex_df160, Cond.methodLink RJ2 71 yJ2_getChar_3b067, Cond.static yJ2_getChar_3b067, Cond.code yJ2_getChar_3b067 cJ2_getChar_3b067 2 (some .char), Cond.fieldLink RJ2 44 "java/lang/StringUTF16" "$assertionsDisabled" "Z", Cond.fieldLink RJ2 59 "java/lang/StringUTF16" "HI_BYTE_SHIFT" "I", Cond.fieldLink RJ2 63 "java/lang/StringUTF16" "LO_BYTE_SHIFT" "I", Cond.methodLink RX7 38 yX3_actAt, Cond.instanceMethod yX3_actAt, Cond.selects RX3 yX3_actAt yX3_actAt, Cond.initialized RX3, Cond.code yX3_actAt cX3_actAt 2 (some .int), Cond.fieldLink RX3 19 "InterlockTables$Row" "actCount" "I", Cond.fieldLink RX3 9 "InterlockTables$Row" "acts" "[I", Cond.methodLink RX7 42 yX7_putDigits, Cond.instanceMethod yX7_putDigits, Cond.selects RX7 yX7_putDigits yX7_putDigits, Cond.code yX7_putDigits cX7_putDigits 3 none, Cond.methodLink RX7 50 yX7_putExpression]
def wsX8_write_r7 : List Cond := [Cond.instanceMethod yX7_putExpression, Cond.selects RX7 yX7_putExpression yX7_putExpression, Cond.code yX7_putExpression cX7_putExpression 7 none, Cond.methodLink RX7 79 yX1_at, Cond.instanceMethod yX1_at, Cond.selects RX1 yX1_at yX1_at, Cond.initialized RX1, Cond.code yX1_at cX1_at 2 (some .int), Cond.fieldLink RX1 25 "InterlockTables$Expressions" "size" "I", Cond.fieldLink RX1 21 "InterlockTables$Expressions" "code" "[B", Cond.methodLink RX7 86 yX7_isJoin, Cond.instanceMethod yX7_isJoin, Cond.selects RX7 yX7_isJoin yX7_isJoin, Cond.code yX7_isJoin cX7_isJoin 2 (some .boolean), Cond.methodLink RX7 92 yX7_isOr, Cond.instanceMethod yX7_isOr, Cond.selects RX7 yX7_isOr yX7_isOr, Cond.code yX7_isOr cX7_isOr 2 (some .boolean), Cond.methodLink RX7 89 yX1_leftOf, Cond.instanceMethod yX1_leftOf, Cond.selects RX1 yX1_leftOf yX1_leftOf, Cond.code yX1_leftOf cX1_leftOf 4 (some .int), Cond.methodLink RX1 29 yX1_at, Cond.methodLink RX1 33 yX1_isCondition]
def wsX8_write_r8 : List Cond := [Cond.static yX1_isCondition, Cond.code yX1_isCondition cX1_isCondition 1 (some .boolean), Cond.methodLink RX8 126 yX0_at, Cond.instanceMethod yX0_at, Cond.selects RX0 yX0_at yX0_at, Cond.code yX0_at cX0_at 2 (some .int)]
def wsX8_write : List Cond := .code yX8_write cX8_write 2 (some .int) :: ((wsX8_write_r1 ++ (wsX8_write_r2 ++ (wsX8_write_r3 ++ (wsX8_write_r4 ++ (wsX8_write_r5 ++ (wsX8_write_r6 ++ (wsX8_write_r7 ++ wsX8_write_r8))))))) ++ wsX80 ++ wsX50 ++ wsX70 ++ wsX00 ++ wsJx4a65c0 ++ wsX30 ++ wsX10)
def wsX8_clear_r1 : List Cond := [Cond.classLink RX8 22 RX5, Cond.instantiable RX5 4, Cond.initialized RX5, Cond.fieldLink RX8 25 "InterlockTables" "table" "LInterlockTables$Table;", Cond.fieldLink RX8 14 "InterlockTables" "text" "LInterlockTables$Bytes;", Cond.methodLink RX8 24 yX5_init, Cond.instanceMethod yX5_init, Cond.code yX5_init cX5_init 2 none, Cond.methodLink RX5 3 objectInit, Cond.instanceMethod objectInit, Cond.code objectInit ⟨#[0xb1]⟩ 1 none, Cond.classLink RX5 9 RJx4a65c, Cond.instantiable RJx4a65c 3, Cond.initialized RJx4a65c, Cond.fieldLink RX5 12 "InterlockTables$Table" "rows" "Ljava/util/ArrayList;", Cond.classLink RX5 18 RX1, Cond.instantiable RX1 3, Cond.initialized RX1, Cond.fieldLink RX5 23 "InterlockTables$Table" "expressions" "LInterlockTables$Expressions;", Cond.methodLink RX5 11 yJx4a65c_init_da8c8, Cond.instanceMethod yJx4a65c_init_da8c8, Cond.code yJx4a65c_init_da8c8 cJx4a65c_init_da8c8 1 none, Cond.fieldLink RJx4a65c 39 "java/util/ArrayList" "DEFAULTCAPACITY_EMPTY_ELEMENTDATA" "[Ljava/lang/Object;", Cond.fieldLink RJx4a65c 9 "java/util/ArrayList" "elementData" "[Ljava/lang/Object;"]
def wsX8_clear_r2 : List Cond := [Cond.methodLink RJx4a65c 1 yJxc12de_init_da8c8, Cond.instanceMethod yJxc12de_init_da8c8, Cond.initialized RJxc12de, Cond.code yJxc12de_init_da8c8 cJxc12de_init_da8c8 1 none, Cond.fieldLink RJxc12de 7 "java/util/AbstractList" "modCount" "I", Cond.methodLink RJxc12de 1 yJxa1e45_init_da8c8, Cond.instanceMethod yJxa1e45_init_da8c8, Cond.initialized RJxa1e45, Cond.code yJxa1e45_init_da8c8 cJxa1e45_init_da8c8 1 none, Cond.methodLink RJxa1e45 1 objectInit, Cond.methodLink RX5 20 yX1_init, Cond.instanceMethod yX1_init, Cond.code yX1_init cX1_init 2 none, Cond.methodLink RX1 3 objectInit, Cond.arrayClass .long, Cond.fieldLink RX1 9 "InterlockTables$Expressions" "stack" "[J", Cond.methodLink RX1 15 Lib.Math.max.name, Cond.static Lib.Math.max.name, Cond.initialized "java/lang/Math", Cond.code Lib.Math.max.name Lib.Math.max.code 2 (some .int), Cond.arrayClass .byte, Cond.fieldLink RX1 21 "InterlockTables$Expressions" "code" "[B", Cond.methodLink RX8 44 yX0_empty, Cond.instanceMethod yX0_empty]
def wsX8_clear_r3 : List Cond := [Cond.selects RX0 yX0_empty yX0_empty, Cond.initialized RX0, Cond.code yX0_empty cX0_empty 1 none, Cond.fieldLink RX0 19 "InterlockTables$Bytes" "length" "I"]
def wsX8_clear : List Cond := .code yX8_clear cX8_clear 1 none :: ((wsX8_clear_r1 ++ (wsX8_clear_r2 ++ wsX8_clear_r3)) ++ wsX50 ++ wsX80 ++ wsJx4a65c0 ++ wsX10 ++ wsX00)
def wsX9_init_r1 : List Cond := [Cond.methodLink RX9 1 objectInit, Cond.instanceMethod objectInit, Cond.code objectInit ⟨#[0xb1]⟩ 1 none, Cond.arrayClass .byte, Cond.fieldLink RX9 9 "InterlockTablesModel" "text" "[B", Cond.arrayClass .int, Cond.fieldLink RX9 13 "InterlockTablesModel" "begins" "[I", Cond.fieldLink RX9 17 "InterlockTablesModel" "ends" "[I", Cond.fieldLink RX9 20 "InterlockTablesModel" "whats" "[I", Cond.fieldLink RX9 23 "InterlockTablesModel" "firsts" "[I", Cond.fieldLink RX9 26 "InterlockTablesModel" "seconds" "[I", Cond.fieldLink RX9 29 "InterlockTablesModel" "tops" "[I", Cond.fieldLink RX9 32 "InterlockTablesModel" "actCounts" "[I", Cond.fieldLink RX9 35 "InterlockTablesModel" "acts" "[I", Cond.fieldLink RX9 38 "InterlockTablesModel" "numbers" "[I", Cond.arrayClass .boolean, Cond.fieldLink RX9 41 "InterlockTablesModel" "latches" "[Z", Cond.fieldLink RX9 45 "InterlockTablesModel" "conditions" "[I", Cond.fieldLink RX9 48 "InterlockTablesModel" "counts" "[I", Cond.fieldLink RX9 51 "InterlockTablesModel" "latched" "[Z", Cond.fieldLink RX9 54 "InterlockTablesModel" "passes" "[I", Cond.constant RX9 57 (40960), Cond.arrayClass .long, Cond.fieldLink RX9 58 "InterlockTablesModel" "tables" "[J"]
def wsX9_init_r2 : List Cond := [Cond.constant RX9 62 (71680), Cond.fieldLink RX9 63 "InterlockTablesModel" "stack" "[J", Cond.fieldLink RX9 66 "InterlockTablesModel" "covered" "[J", Cond.fieldLink RX9 69 "InterlockTablesModel" "never" "[Z", Cond.fieldLink RX9 72 "InterlockTablesModel" "written" "[B"]
def wsX9_init : List Cond := .code yX9_init cX9_init 1 none :: ((wsX9_init_r1 ++ wsX9_init_r2) ++ wsX90)
def wsX9_unit : List Cond := .code yX9_unit cX9_unit 2 (some .boolean) :: ([.fieldLink RX9 75 "InterlockTablesModel" "size" "I", .fieldLink RX9 9 "InterlockTablesModel" "text" "[B"] ++ wsX90)
def wsX9_isSign : List Cond := .code yX9_isSign cX9_isSign 1 (some .boolean) :: ([])
def wsX9_cut : List Cond := .code yX9_cut cX9_cut 3 none :: ([.fieldLink RX9 79 "InterlockTablesModel" "words" "I", .fieldLink RX9 75 "InterlockTablesModel" "size" "I", .fieldLink RX9 9 "InterlockTablesModel" "text" "[B", .fieldLink RX9 13 "InterlockTablesModel" "begins" "[I", .fieldLink RX9 17 "InterlockTablesModel" "ends" "[I", .methodLink RX9 82 yX9_isSign, .static yX9_isSign, .initialized RX9, .code yX9_isSign cX9_isSign 1 (some .boolean)] ++ wsX90)
def wsX9_at : List Cond := .code yX9_at cX9_at 3 (some .int) :: ([.fieldLink RX9 86 "InterlockTablesModel" "next" "I", .fieldLink RX9 79 "InterlockTablesModel" "words" "I", .fieldLink RX9 13 "InterlockTablesModel" "begins" "[I", .fieldLink RX9 17 "InterlockTablesModel" "ends" "[I", .fieldLink RX9 9 "InterlockTablesModel" "text" "[B"] ++ wsX90)
def wsX9_wide : List Cond := .code yX9_wide cX9_wide 1 (some .int) :: ([.fieldLink RX9 86 "InterlockTablesModel" "next" "I", .fieldLink RX9 79 "InterlockTablesModel" "words" "I", .fieldLink RX9 17 "InterlockTablesModel" "ends" "[I", .fieldLink RX9 13 "InterlockTablesModel" "begins" "[I"] ++ wsX90)
def wsX9_is : List Cond := .code yX9_is cX9_is 9 (some .boolean) :: ([.methodLink RX9 89 yX9_wide, .instanceMethod yX9_wide, .selects RX9 yX9_wide yX9_wide, .initialized RX9, .code yX9_wide cX9_wide 1 (some .int), .fieldLink RX9 86 "InterlockTablesModel" "next" "I", .fieldLink RX9 79 "InterlockTablesModel" "words" "I", .fieldLink RX9 17 "InterlockTablesModel" "ends" "[I", .fieldLink RX9 13 "InterlockTablesModel" "begins" "[I", .methodLink RX9 93 yX9_at, .instanceMethod yX9_at, .selects RX9 yX9_at yX9_at, .code yX9_at cX9_at 3 (some .int), .fieldLink RX9 9 "InterlockTablesModel" "text" "[B"] ++ wsX90)
def wsX9_isOne : List Cond := .code yX9_isOne cX9_isOne 2 (some .boolean) :: ([.methodLink RX9 89 yX9_wide, .instanceMethod yX9_wide, .selects RX9 yX9_wide yX9_wide, .initialized RX9, .code yX9_wide cX9_wide 1 (some .int), .fieldLink RX9 86 "InterlockTablesModel" "next" "I", .fieldLink RX9 79 "InterlockTablesModel" "words" "I", .fieldLink RX9 17 "InterlockTablesModel" "ends" "[I", .fieldLink RX9 13 "InterlockTablesModel" "begins" "[I", .methodLink RX9 93 yX9_at, .instanceMethod yX9_at, .selects RX9 yX9_at yX9_at, .code yX9_at cX9_at 3 (some .int), .fieldLink RX9 9 "InterlockTablesModel" "text" "[B"] ++ wsX90)
def wsX9_number : List Cond := .code yX9_number cX9_number 7 (some .int) :: ([.methodLink RX9 89 yX9_wide, .instanceMethod yX9_wide, .selects RX9 yX9_wide yX9_wide, .initialized RX9, .code yX9_wide cX9_wide 1 (some .int), .fieldLink RX9 86 "InterlockTablesModel" "next" "I", .fieldLink RX9 79 "InterlockTablesModel" "words" "I", .fieldLink RX9 17 "InterlockTablesModel" "ends" "[I", .fieldLink RX9 13 "InterlockTablesModel" "begins" "[I", .methodLink RX9 93 yX9_at, .instanceMethod yX9_at, .selects RX9 yX9_at yX9_at, .code yX9_at cX9_at 3 (some .int), .fieldLink RX9 9 "InterlockTablesModel" "text" "[B"] ++ wsX90)
def wsX9_act : List Cond := .code yX9_act cX9_act 1 (some .int) :: ([.methodLink RX9 93 yX9_at, .instanceMethod yX9_at, .selects RX9 yX9_at yX9_at, .initialized RX9, .code yX9_at cX9_at 3 (some .int), .fieldLink RX9 86 "InterlockTablesModel" "next" "I", .fieldLink RX9 79 "InterlockTablesModel" "words" "I", .fieldLink RX9 13 "InterlockTablesModel" "begins" "[I", .fieldLink RX9 17 "InterlockTablesModel" "ends" "[I", .fieldLink RX9 9 "InterlockTablesModel" "text" "[B", .methodLink RX9 97 yX9_number, .instanceMethod yX9_number, .selects RX9 yX9_number yX9_number, .code yX9_number cX9_number 7 (some .int), .methodLink RX9 89 yX9_wide, .instanceMethod yX9_wide, .selects RX9 yX9_wide yX9_wide, .code yX9_wide cX9_wide 1 (some .int)] ++ wsX90)
def wsX9_conditionWord : List Cond := .code yX9_conditionWord cX9_conditionWord 1 (some .int) :: ([.methodLink RX9 93 yX9_at, .instanceMethod yX9_at, .selects RX9 yX9_at yX9_at, .initialized RX9, .code yX9_at cX9_at 3 (some .int), .fieldLink RX9 86 "InterlockTablesModel" "next" "I", .fieldLink RX9 79 "InterlockTablesModel" "words" "I", .fieldLink RX9 13 "InterlockTablesModel" "begins" "[I", .fieldLink RX9 17 "InterlockTablesModel" "ends" "[I", .fieldLink RX9 9 "InterlockTablesModel" "text" "[B", .methodLink RX9 97 yX9_number, .instanceMethod yX9_number, .selects RX9 yX9_number yX9_number, .code yX9_number cX9_number 7 (some .int), .methodLink RX9 89 yX9_wide, .instanceMethod yX9_wide, .selects RX9 yX9_wide yX9_wide, .code yX9_wide cX9_wide 1 (some .int)] ++ wsX90)
def wsX9_node : List Cond := .code yX9_node cX9_node 5 (some .int) :: ([.fieldLink RX9 101 "InterlockTablesModel" "half" "I", .fieldLink RX9 104 "InterlockTablesModel" "nodes" "I", .fieldLink RX9 20 "InterlockTablesModel" "whats" "[I", .fieldLink RX9 23 "InterlockTablesModel" "firsts" "[I", .fieldLink RX9 26 "InterlockTablesModel" "seconds" "[I"] ++ wsX90)
def wsX9_and_r1 : List Cond := [Cond.fieldLink RX9 86 "InterlockTablesModel" "next" "I", Cond.methodLink RX9 118 yX9_part, Cond.instanceMethod yX9_part, Cond.selects RX9 yX9_part yX9_part, Cond.initialized RX9, Cond.methodLink RX9 110 yX9_is, Cond.instanceMethod yX9_is, Cond.selects RX9 yX9_is yX9_is, Cond.code yX9_is cX9_is 9 (some .boolean), Cond.methodLink RX9 89 yX9_wide, Cond.instanceMethod yX9_wide, Cond.selects RX9 yX9_wide yX9_wide, Cond.code yX9_wide cX9_wide 1 (some .int), Cond.fieldLink RX9 79 "InterlockTablesModel" "words" "I", Cond.fieldLink RX9 17 "InterlockTablesModel" "ends" "[I", Cond.fieldLink RX9 13 "InterlockTablesModel" "begins" "[I", Cond.methodLink RX9 93 yX9_at, Cond.instanceMethod yX9_at, Cond.selects RX9 yX9_at yX9_at, Cond.code yX9_at cX9_at 3 (some .int), Cond.fieldLink RX9 9 "InterlockTablesModel" "text" "[B", Cond.methodLink RX9 114 yX9_node, Cond.instanceMethod yX9_node, Cond.selects RX9 yX9_node yX9_node]
def wsX9_and_r2 : List Cond := [Cond.code yX9_node cX9_node 5 (some .int), Cond.fieldLink RX9 101 "InterlockTablesModel" "half" "I", Cond.fieldLink RX9 104 "InterlockTablesModel" "nodes" "I", Cond.fieldLink RX9 20 "InterlockTablesModel" "whats" "[I", Cond.fieldLink RX9 23 "InterlockTablesModel" "firsts" "[I", Cond.fieldLink RX9 26 "InterlockTablesModel" "seconds" "[I", Cond.code yX9_or cX9_or 3 (some .int), Cond.methodLink RX9 107 yX9_and, Cond.instanceMethod yX9_and, Cond.selects RX9 yX9_and yX9_and, Cond.code yX9_part cX9_part 3 (some .int), Cond.fieldLink RX9 124 "InterlockTablesModel" "open" "I", Cond.fieldLink RX9 133 "InterlockTablesModel" "stood" "I", Cond.methodLink RX9 121 yX9_isOne, Cond.instanceMethod yX9_isOne, Cond.selects RX9 yX9_isOne yX9_isOne, Cond.code yX9_isOne cX9_isOne 2 (some .boolean), Cond.methodLink RX9 127 yX9_or, Cond.instanceMethod yX9_or, Cond.selects RX9 yX9_or yX9_or, Cond.methodLink RX9 130 yX9_conditionWord, Cond.instanceMethod yX9_conditionWord, Cond.selects RX9 yX9_conditionWord yX9_conditionWord, Cond.code yX9_conditionWord cX9_conditionWord 1 (some .int)]
def wsX9_and_r3 : List Cond := [Cond.methodLink RX9 97 yX9_number, Cond.instanceMethod yX9_number, Cond.selects RX9 yX9_number yX9_number, Cond.code yX9_number cX9_number 7 (some .int)]
def wsX9_and : List Cond := .code yX9_and cX9_and 3 (some .int) :: ((wsX9_and_r1 ++ (wsX9_and_r2 ++ wsX9_and_r3)) ++ wsX90)
def wsX9_or_r1 : List Cond := [Cond.fieldLink RX9 86 "InterlockTablesModel" "next" "I", Cond.methodLink RX9 107 yX9_and, Cond.instanceMethod yX9_and, Cond.selects RX9 yX9_and yX9_and, Cond.initialized RX9, Cond.methodLink RX9 110 yX9_is, Cond.instanceMethod yX9_is, Cond.selects RX9 yX9_is yX9_is, Cond.code yX9_is cX9_is 9 (some .boolean), Cond.methodLink RX9 89 yX9_wide, Cond.instanceMethod yX9_wide, Cond.selects RX9 yX9_wide yX9_wide, Cond.code yX9_wide cX9_wide 1 (some .int), Cond.fieldLink RX9 79 "InterlockTablesModel" "words" "I", Cond.fieldLink RX9 17 "InterlockTablesModel" "ends" "[I", Cond.fieldLink RX9 13 "InterlockTablesModel" "begins" "[I", Cond.methodLink RX9 93 yX9_at, Cond.instanceMethod yX9_at, Cond.selects RX9 yX9_at yX9_at, Cond.code yX9_at cX9_at 3 (some .int), Cond.fieldLink RX9 9 "InterlockTablesModel" "text" "[B", Cond.methodLink RX9 114 yX9_node, Cond.instanceMethod yX9_node, Cond.selects RX9 yX9_node yX9_node]
def wsX9_or_r2 : List Cond := [Cond.code yX9_node cX9_node 5 (some .int), Cond.fieldLink RX9 101 "InterlockTablesModel" "half" "I", Cond.fieldLink RX9 104 "InterlockTablesModel" "nodes" "I", Cond.fieldLink RX9 20 "InterlockTablesModel" "whats" "[I", Cond.fieldLink RX9 23 "InterlockTablesModel" "firsts" "[I", Cond.fieldLink RX9 26 "InterlockTablesModel" "seconds" "[I", Cond.code yX9_and cX9_and 3 (some .int), Cond.methodLink RX9 118 yX9_part, Cond.instanceMethod yX9_part, Cond.selects RX9 yX9_part yX9_part, Cond.code yX9_part cX9_part 3 (some .int), Cond.fieldLink RX9 124 "InterlockTablesModel" "open" "I", Cond.fieldLink RX9 133 "InterlockTablesModel" "stood" "I", Cond.methodLink RX9 121 yX9_isOne, Cond.instanceMethod yX9_isOne, Cond.selects RX9 yX9_isOne yX9_isOne, Cond.code yX9_isOne cX9_isOne 2 (some .boolean), Cond.methodLink RX9 127 yX9_or, Cond.instanceMethod yX9_or, Cond.selects RX9 yX9_or yX9_or, Cond.methodLink RX9 130 yX9_conditionWord, Cond.instanceMethod yX9_conditionWord, Cond.selects RX9 yX9_conditionWord yX9_conditionWord, Cond.code yX9_conditionWord cX9_conditionWord 1 (some .int)]
def wsX9_or_r3 : List Cond := [Cond.methodLink RX9 97 yX9_number, Cond.instanceMethod yX9_number, Cond.selects RX9 yX9_number yX9_number, Cond.code yX9_number cX9_number 7 (some .int)]
def wsX9_or : List Cond := .code yX9_or cX9_or 3 (some .int) :: ((wsX9_or_r1 ++ (wsX9_or_r2 ++ wsX9_or_r3)) ++ wsX90)
def wsX9_part_r1 : List Cond := [Cond.fieldLink RX9 124 "InterlockTablesModel" "open" "I", Cond.fieldLink RX9 86 "InterlockTablesModel" "next" "I", Cond.fieldLink RX9 133 "InterlockTablesModel" "stood" "I", Cond.methodLink RX9 110 yX9_is, Cond.instanceMethod yX9_is, Cond.selects RX9 yX9_is yX9_is, Cond.initialized RX9, Cond.code yX9_is cX9_is 9 (some .boolean), Cond.methodLink RX9 89 yX9_wide, Cond.instanceMethod yX9_wide, Cond.selects RX9 yX9_wide yX9_wide, Cond.code yX9_wide cX9_wide 1 (some .int), Cond.fieldLink RX9 79 "InterlockTablesModel" "words" "I", Cond.fieldLink RX9 17 "InterlockTablesModel" "ends" "[I", Cond.fieldLink RX9 13 "InterlockTablesModel" "begins" "[I", Cond.methodLink RX9 93 yX9_at, Cond.instanceMethod yX9_at, Cond.selects RX9 yX9_at yX9_at, Cond.code yX9_at cX9_at 3 (some .int), Cond.fieldLink RX9 9 "InterlockTablesModel" "text" "[B", Cond.methodLink RX9 121 yX9_isOne, Cond.instanceMethod yX9_isOne, Cond.selects RX9 yX9_isOne yX9_isOne, Cond.code yX9_isOne cX9_isOne 2 (some .boolean)]
def wsX9_part_r2 : List Cond := [Cond.methodLink RX9 118 yX9_part, Cond.instanceMethod yX9_part, Cond.selects RX9 yX9_part yX9_part, Cond.methodLink RX9 127 yX9_or, Cond.instanceMethod yX9_or, Cond.selects RX9 yX9_or yX9_or, Cond.methodLink RX9 114 yX9_node, Cond.instanceMethod yX9_node, Cond.selects RX9 yX9_node yX9_node, Cond.code yX9_node cX9_node 5 (some .int), Cond.fieldLink RX9 101 "InterlockTablesModel" "half" "I", Cond.fieldLink RX9 104 "InterlockTablesModel" "nodes" "I", Cond.fieldLink RX9 20 "InterlockTablesModel" "whats" "[I", Cond.fieldLink RX9 23 "InterlockTablesModel" "firsts" "[I", Cond.fieldLink RX9 26 "InterlockTablesModel" "seconds" "[I", Cond.methodLink RX9 130 yX9_conditionWord, Cond.instanceMethod yX9_conditionWord, Cond.selects RX9 yX9_conditionWord yX9_conditionWord, Cond.code yX9_conditionWord cX9_conditionWord 1 (some .int), Cond.methodLink RX9 97 yX9_number, Cond.instanceMethod yX9_number, Cond.selects RX9 yX9_number yX9_number, Cond.code yX9_number cX9_number 7 (some .int), Cond.code yX9_and cX9_and 3 (some .int)]
def wsX9_part_r3 : List Cond := [Cond.code yX9_or cX9_or 3 (some .int), Cond.methodLink RX9 107 yX9_and, Cond.instanceMethod yX9_and, Cond.selects RX9 yX9_and yX9_and]
def wsX9_part : List Cond := .code yX9_part cX9_part 3 (some .int) :: ((wsX9_part_r1 ++ (wsX9_part_r2 ++ wsX9_part_r3)) ++ wsX90)
def wsX9_readRow_r1 : List Cond := [Cond.fieldLink RX9 101 "InterlockTablesModel" "half" "I", Cond.fieldLink RX9 136 "InterlockTablesModel" "made" "I", Cond.fieldLink RX9 86 "InterlockTablesModel" "next" "I", Cond.fieldLink RX9 35 "InterlockTablesModel" "acts" "[I", Cond.fieldLink RX9 32 "InterlockTablesModel" "actCounts" "[I", Cond.fieldLink RX9 124 "InterlockTablesModel" "open" "I", Cond.fieldLink RX9 133 "InterlockTablesModel" "stood" "I", Cond.fieldLink RX9 29 "InterlockTablesModel" "tops" "[I", Cond.fieldLink RX9 45 "InterlockTablesModel" "conditions" "[I", Cond.fieldLink RX9 38 "InterlockTablesModel" "numbers" "[I", Cond.fieldLink RX9 41 "InterlockTablesModel" "latches" "[Z", Cond.methodLink RX9 139 yX9_act, Cond.instanceMethod yX9_act, Cond.selects RX9 yX9_act yX9_act, Cond.initialized RX9, Cond.code yX9_act cX9_act 1 (some .int), Cond.methodLink RX9 93 yX9_at, Cond.instanceMethod yX9_at, Cond.selects RX9 yX9_at yX9_at, Cond.code yX9_at cX9_at 3 (some .int), Cond.fieldLink RX9 79 "InterlockTablesModel" "words" "I", Cond.fieldLink RX9 13 "InterlockTablesModel" "begins" "[I", Cond.fieldLink RX9 17 "InterlockTablesModel" "ends" "[I", Cond.fieldLink RX9 9 "InterlockTablesModel" "text" "[B"]
def wsX9_readRow_r2 : List Cond := [Cond.methodLink RX9 97 yX9_number, Cond.instanceMethod yX9_number, Cond.selects RX9 yX9_number yX9_number, Cond.code yX9_number cX9_number 7 (some .int), Cond.methodLink RX9 89 yX9_wide, Cond.instanceMethod yX9_wide, Cond.selects RX9 yX9_wide yX9_wide, Cond.code yX9_wide cX9_wide 1 (some .int), Cond.methodLink RX9 110 yX9_is, Cond.instanceMethod yX9_is, Cond.selects RX9 yX9_is yX9_is, Cond.code yX9_is cX9_is 9 (some .boolean), Cond.methodLink RX9 127 yX9_or, Cond.instanceMethod yX9_or, Cond.selects RX9 yX9_or yX9_or, Cond.code yX9_or cX9_or 3 (some .int), Cond.methodLink RX9 107 yX9_and, Cond.instanceMethod yX9_and, Cond.selects RX9 yX9_and yX9_and, Cond.methodLink RX9 114 yX9_node, Cond.instanceMethod yX9_node, Cond.selects RX9 yX9_node yX9_node, Cond.code yX9_node cX9_node 5 (some .int), Cond.fieldLink RX9 104 "InterlockTablesModel" "nodes" "I"]
def wsX9_readRow_r3 : List Cond := [Cond.fieldLink RX9 20 "InterlockTablesModel" "whats" "[I", Cond.fieldLink RX9 23 "InterlockTablesModel" "firsts" "[I", Cond.fieldLink RX9 26 "InterlockTablesModel" "seconds" "[I", Cond.code yX9_and cX9_and 3 (some .int), Cond.methodLink RX9 118 yX9_part, Cond.instanceMethod yX9_part, Cond.selects RX9 yX9_part yX9_part, Cond.code yX9_part cX9_part 3 (some .int), Cond.methodLink RX9 121 yX9_isOne, Cond.instanceMethod yX9_isOne, Cond.selects RX9 yX9_isOne yX9_isOne, Cond.code yX9_isOne cX9_isOne 2 (some .boolean), Cond.methodLink RX9 130 yX9_conditionWord, Cond.instanceMethod yX9_conditionWord, Cond.selects RX9 yX9_conditionWord yX9_conditionWord, Cond.code yX9_conditionWord cX9_conditionWord 1 (some .int)]
def wsX9_readRow : List Cond := .code yX9_readRow cX9_readRow 6 (some .boolean) :: ((wsX9_readRow_r1 ++ (wsX9_readRow_r2 ++ wsX9_readRow_r3)) ++ wsX90)
def wsX9_read_r1 : List Cond := [Cond.fieldLink RX9 75 "InterlockTablesModel" "size" "I", Cond.fieldLink RX9 86 "InterlockTablesModel" "next" "I", Cond.fieldLink RX9 104 "InterlockTablesModel" "nodes" "I", Cond.fieldLink RX9 136 "InterlockTablesModel" "made" "I", Cond.fieldLink RX9 79 "InterlockTablesModel" "words" "I", Cond.fieldLink RX9 101 "InterlockTablesModel" "half" "I", Cond.fieldLink RX9 149 "InterlockTablesModel" "rows" "I", Cond.fieldLink RX9 152 "InterlockTablesModel" "tested" "Z", Cond.fieldLink RX9 48 "InterlockTablesModel" "counts" "[I", Cond.fieldLink RX9 51 "InterlockTablesModel" "latched" "[Z", Cond.fieldLink RX9 54 "InterlockTablesModel" "passes" "[I", Cond.methodLink RX9 142 yX9_cut, Cond.instanceMethod yX9_cut, Cond.selects RX9 yX9_cut yX9_cut, Cond.initialized RX9, Cond.code yX9_cut cX9_cut 3 none, Cond.fieldLink RX9 9 "InterlockTablesModel" "text" "[B", Cond.fieldLink RX9 13 "InterlockTablesModel" "begins" "[I", Cond.fieldLink RX9 17 "InterlockTablesModel" "ends" "[I", Cond.methodLink RX9 82 yX9_isSign, Cond.static yX9_isSign, Cond.code yX9_isSign cX9_isSign 1 (some .boolean), Cond.methodLink RX9 110 yX9_is, Cond.instanceMethod yX9_is]
def wsX9_read_r2 : List Cond := [Cond.selects RX9 yX9_is yX9_is, Cond.code yX9_is cX9_is 9 (some .boolean), Cond.methodLink RX9 89 yX9_wide, Cond.instanceMethod yX9_wide, Cond.selects RX9 yX9_wide yX9_wide, Cond.code yX9_wide cX9_wide 1 (some .int), Cond.methodLink RX9 93 yX9_at, Cond.instanceMethod yX9_at, Cond.selects RX9 yX9_at yX9_at, Cond.code yX9_at cX9_at 3 (some .int), Cond.methodLink RX9 145 yX9_readRow, Cond.instanceMethod yX9_readRow, Cond.selects RX9 yX9_readRow yX9_readRow, Cond.code yX9_readRow cX9_readRow 6 (some .boolean), Cond.fieldLink RX9 35 "InterlockTablesModel" "acts" "[I", Cond.fieldLink RX9 32 "InterlockTablesModel" "actCounts" "[I", Cond.fieldLink RX9 124 "InterlockTablesModel" "open" "I", Cond.fieldLink RX9 133 "InterlockTablesModel" "stood" "I", Cond.fieldLink RX9 29 "InterlockTablesModel" "tops" "[I", Cond.fieldLink RX9 45 "InterlockTablesModel" "conditions" "[I", Cond.fieldLink RX9 38 "InterlockTablesModel" "numbers" "[I", Cond.fieldLink RX9 41 "InterlockTablesModel" "latches" "[Z", Cond.methodLink RX9 139 yX9_act, Cond.instanceMethod yX9_act]
def wsX9_read_r3 : List Cond := [Cond.selects RX9 yX9_act yX9_act, Cond.code yX9_act cX9_act 1 (some .int), Cond.methodLink RX9 97 yX9_number, Cond.instanceMethod yX9_number, Cond.selects RX9 yX9_number yX9_number, Cond.code yX9_number cX9_number 7 (some .int), Cond.methodLink RX9 127 yX9_or, Cond.instanceMethod yX9_or, Cond.selects RX9 yX9_or yX9_or, Cond.code yX9_or cX9_or 3 (some .int), Cond.methodLink RX9 107 yX9_and, Cond.instanceMethod yX9_and, Cond.selects RX9 yX9_and yX9_and, Cond.methodLink RX9 114 yX9_node, Cond.instanceMethod yX9_node, Cond.selects RX9 yX9_node yX9_node, Cond.code yX9_node cX9_node 5 (some .int), Cond.fieldLink RX9 20 "InterlockTablesModel" "whats" "[I", Cond.fieldLink RX9 23 "InterlockTablesModel" "firsts" "[I", Cond.fieldLink RX9 26 "InterlockTablesModel" "seconds" "[I", Cond.code yX9_and cX9_and 3 (some .int), Cond.methodLink RX9 118 yX9_part, Cond.instanceMethod yX9_part, Cond.selects RX9 yX9_part yX9_part]
def wsX9_read_r4 : List Cond := [Cond.code yX9_part cX9_part 3 (some .int), Cond.methodLink RX9 121 yX9_isOne, Cond.instanceMethod yX9_isOne, Cond.selects RX9 yX9_isOne yX9_isOne, Cond.code yX9_isOne cX9_isOne 2 (some .boolean), Cond.methodLink RX9 130 yX9_conditionWord, Cond.instanceMethod yX9_conditionWord, Cond.selects RX9 yX9_conditionWord yX9_conditionWord, Cond.code yX9_conditionWord cX9_conditionWord 1 (some .int)]
def wsX9_read : List Cond := .code yX9_read cX9_read 3 (some .int) :: ((wsX9_read_r1 ++ (wsX9_read_r2 ++ (wsX9_read_r3 ++ wsX9_read_r4))) ++ wsX90)
def wsX9_condition : List Cond := .code yX9_condition cX9_condition 3 (some .boolean) :: ([.fieldLink RX9 156 "InterlockTablesModel" "state" "I"] ++ wsX90)
def wsX9_value : List Cond := .code yX9_value cX9_value 2 (some .boolean) :: ([.fieldLink RX9 20 "InterlockTablesModel" "whats" "[I", .fieldLink RX9 23 "InterlockTablesModel" "firsts" "[I", .fieldLink RX9 26 "InterlockTablesModel" "seconds" "[I", .fieldLink RX9 156 "InterlockTablesModel" "state" "I", .methodLink RX9 159 yX9_value, .instanceMethod yX9_value, .selects RX9 yX9_value yX9_value, .initialized RX9] ++ wsX90)
def wsX9_isOn : List Cond := .code yX9_isOn cX9_isOn 2 (some .boolean) :: ([.fieldLink RX9 29 "InterlockTablesModel" "tops" "[I", .fieldLink RX9 101 "InterlockTablesModel" "half" "I", .methodLink RX9 159 yX9_value, .instanceMethod yX9_value, .selects RX9 yX9_value yX9_value, .initialized RX9, .code yX9_value cX9_value 2 (some .boolean), .fieldLink RX9 20 "InterlockTablesModel" "whats" "[I", .fieldLink RX9 23 "InterlockTablesModel" "firsts" "[I", .fieldLink RX9 26 "InterlockTablesModel" "seconds" "[I", .fieldLink RX9 156 "InterlockTablesModel" "state" "I"] ++ wsX90)
def wsX9_tick : List Cond := .code yX9_tick cX9_tick 4 (some .boolean) :: ([.constant RX9 162 (100000), .fieldLink RX9 149 "InterlockTablesModel" "rows" "I", .fieldLink RX9 48 "InterlockTablesModel" "counts" "[I", .constant RX9 166 (1000000), .fieldLink RX9 51 "InterlockTablesModel" "latched" "[Z", .fieldLink RX9 41 "InterlockTablesModel" "latches" "[Z", .fieldLink RX9 101 "InterlockTablesModel" "half" "I", .fieldLink RX9 38 "InterlockTablesModel" "numbers" "[I", .fieldLink RX9 54 "InterlockTablesModel" "passes" "[I", .methodLink RX9 163 yX9_isOn, .instanceMethod yX9_isOn, .selects RX9 yX9_isOn yX9_isOn, .initialized RX9, .code yX9_isOn cX9_isOn 2 (some .boolean), .fieldLink RX9 29 "InterlockTablesModel" "tops" "[I", .methodLink RX9 159 yX9_value, .instanceMethod yX9_value, .selects RX9 yX9_value yX9_value, .code yX9_value cX9_value 2 (some .boolean), .fieldLink RX9 20 "InterlockTablesModel" "whats" "[I", .fieldLink RX9 23 "InterlockTablesModel" "firsts" "[I", .fieldLink RX9 26 "InterlockTablesModel" "seconds" "[I", .fieldLink RX9 156 "InterlockTablesModel" "state" "I"] ++ wsX90)
def wsX9_hasAct : List Cond := .code yX9_hasAct cX9_hasAct 6 (some .boolean) :: ([.fieldLink RX9 101 "InterlockTablesModel" "half" "I", .fieldLink RX9 32 "InterlockTablesModel" "actCounts" "[I", .fieldLink RX9 35 "InterlockTablesModel" "acts" "[I"] ++ wsX90)
def wsX9_act__r1 : List Cond := [Cond.fieldLink RX9 149 "InterlockTablesModel" "rows" "I", Cond.fieldLink RX9 54 "InterlockTablesModel" "passes" "[I", Cond.fieldLink RX9 51 "InterlockTablesModel" "latched" "[Z", Cond.fieldLink RX9 48 "InterlockTablesModel" "counts" "[I", Cond.fieldLink RX9 38 "InterlockTablesModel" "numbers" "[I", Cond.fieldLink RX9 101 "InterlockTablesModel" "half" "I", Cond.methodLink RX9 163 yX9_isOn, Cond.instanceMethod yX9_isOn, Cond.selects RX9 yX9_isOn yX9_isOn, Cond.initialized RX9, Cond.code yX9_isOn cX9_isOn 2 (some .boolean), Cond.fieldLink RX9 29 "InterlockTablesModel" "tops" "[I", Cond.methodLink RX9 159 yX9_value, Cond.instanceMethod yX9_value, Cond.selects RX9 yX9_value yX9_value, Cond.code yX9_value cX9_value 2 (some .boolean), Cond.fieldLink RX9 20 "InterlockTablesModel" "whats" "[I", Cond.fieldLink RX9 23 "InterlockTablesModel" "firsts" "[I", Cond.fieldLink RX9 26 "InterlockTablesModel" "seconds" "[I", Cond.fieldLink RX9 156 "InterlockTablesModel" "state" "I", Cond.methodLink RX9 167 yX9_hasAct, Cond.instanceMethod yX9_hasAct, Cond.selects RX9 yX9_hasAct yX9_hasAct, Cond.code yX9_hasAct cX9_hasAct 6 (some .boolean)]
def wsX9_act__r2 : List Cond := [Cond.fieldLink RX9 32 "InterlockTablesModel" "actCounts" "[I", Cond.fieldLink RX9 35 "InterlockTablesModel" "acts" "[I"]
def wsX9_act_ : List Cond := .code yX9_act_ cX9_act_ 4 (some .int) :: ((wsX9_act__r1 ++ wsX9_act__r2) ++ wsX90)
def wsX9_isRow : List Cond := .code yX9_isRow cX9_isRow 2 (some .boolean) :: ([.fieldLink RX9 149 "InterlockTablesModel" "rows" "I"] ++ wsX90)
def wsX9_pass : List Cond := .code yX9_pass cX9_pass 5 (some .int) :: ([.fieldLink RX9 54 "InterlockTablesModel" "passes" "[I", .methodLink RX9 171 yX9_isRow, .instanceMethod yX9_isRow, .selects RX9 yX9_isRow yX9_isRow, .initialized RX9, .code yX9_isRow cX9_isRow 2 (some .boolean), .fieldLink RX9 149 "InterlockTablesModel" "rows" "I"] ++ wsX90)
def wsX9_listed : List Cond := .code yX9_listed cX9_listed 4 (some .int) :: ([.fieldLink RX9 149 "InterlockTablesModel" "rows" "I", .fieldLink RX9 54 "InterlockTablesModel" "passes" "[I"] ++ wsX90)
def wsX9_reset : List Cond := .code yX9_reset cX9_reset 2 (some .boolean) :: ([.fieldLink RX9 51 "InterlockTablesModel" "latched" "[Z", .methodLink RX9 171 yX9_isRow, .instanceMethod yX9_isRow, .selects RX9 yX9_isRow yX9_isRow, .initialized RX9, .code yX9_isRow cX9_isRow 2 (some .boolean), .fieldLink RX9 149 "InterlockTablesModel" "rows" "I", .methodLink RX9 163 yX9_isOn, .instanceMethod yX9_isOn, .selects RX9 yX9_isOn yX9_isOn, .code yX9_isOn cX9_isOn 2 (some .boolean), .fieldLink RX9 29 "InterlockTablesModel" "tops" "[I", .fieldLink RX9 101 "InterlockTablesModel" "half" "I", .methodLink RX9 159 yX9_value, .instanceMethod yX9_value, .selects RX9 yX9_value yX9_value, .code yX9_value cX9_value 2 (some .boolean), .fieldLink RX9 20 "InterlockTablesModel" "whats" "[I", .fieldLink RX9 23 "InterlockTablesModel" "firsts" "[I", .fieldLink RX9 26 "InterlockTablesModel" "seconds" "[I", .fieldLink RX9 156 "InterlockTablesModel" "state" "I"] ++ wsX90)
def wsX9_bits : List Cond := .code yX9_bits cX9_bits 2 (some .long) :: ([.constantLong RX9 174 (-6148914691236517206), .constantLong RX9 176 (-3689348814741910324), .constantLong RX9 178 (-1085102592571150096), .constantLong RX9 180 (-71777214294589696), .constantLong RX9 182 (-281470681808896), .constantLong RX9 184 (-4294967296), .constantLong RX9 186 (-1)])
def wsX9_table : List Cond := .code yX9_table cX9_table 9 none :: ([.fieldLink RX9 20 "InterlockTablesModel" "whats" "[I", .fieldLink RX9 23 "InterlockTablesModel" "firsts" "[I", .fieldLink RX9 63 "InterlockTablesModel" "stack" "[J", .constantLong RX9 186 (-1), .fieldLink RX9 26 "InterlockTablesModel" "seconds" "[I", .methodLink RX9 188 yX9_table, .instanceMethod yX9_table, .selects RX9 yX9_table yX9_table, .initialized RX9, .methodLink RX9 192 yX9_bits, .static yX9_bits, .code yX9_bits cX9_bits 2 (some .long), .constantLong RX9 174 (-6148914691236517206), .constantLong RX9 176 (-3689348814741910324), .constantLong RX9 178 (-1085102592571150096), .constantLong RX9 180 (-71777214294589696), .constantLong RX9 182 (-281470681808896), .constantLong RX9 184 (-4294967296)] ++ wsX90)
def wsX9_testAll_r1 : List Cond := [Cond.fieldLink RX9 149 "InterlockTablesModel" "rows" "I", Cond.fieldLink RX9 29 "InterlockTablesModel" "tops" "[I", Cond.fieldLink RX9 101 "InterlockTablesModel" "half" "I", Cond.fieldLink RX9 63 "InterlockTablesModel" "stack" "[J", Cond.fieldLink RX9 58 "InterlockTablesModel" "tables" "[J", Cond.methodLink RX9 196 arraycopyName, Cond.native arraycopyName, Cond.static arraycopyName, Cond.initialized "java/lang/System", Cond.fieldLink RX9 32 "InterlockTablesModel" "actCounts" "[I", Cond.fieldLink RX9 35 "InterlockTablesModel" "acts" "[I", Cond.fieldLink RX9 66 "InterlockTablesModel" "covered" "[J", Cond.constantLong RX9 186 (-1), Cond.fieldLink RX9 69 "InterlockTablesModel" "never" "[Z", Cond.fieldLink RX9 152 "InterlockTablesModel" "tested" "Z", Cond.methodLink RX9 188 yX9_table, Cond.instanceMethod yX9_table, Cond.selects RX9 yX9_table yX9_table, Cond.initialized RX9, Cond.code yX9_table cX9_table 9 none, Cond.fieldLink RX9 20 "InterlockTablesModel" "whats" "[I", Cond.fieldLink RX9 23 "InterlockTablesModel" "firsts" "[I", Cond.fieldLink RX9 26 "InterlockTablesModel" "seconds" "[I", Cond.methodLink RX9 192 yX9_bits]
def wsX9_testAll_r2 : List Cond := [Cond.static yX9_bits, Cond.code yX9_bits cX9_bits 2 (some .long), Cond.constantLong RX9 174 (-6148914691236517206), Cond.constantLong RX9 176 (-3689348814741910324), Cond.constantLong RX9 178 (-1085102592571150096), Cond.constantLong RX9 180 (-71777214294589696), Cond.constantLong RX9 182 (-281470681808896), Cond.constantLong RX9 184 (-4294967296), Cond.methodLink RX9 167 yX9_hasAct, Cond.instanceMethod yX9_hasAct, Cond.selects RX9 yX9_hasAct yX9_hasAct, Cond.code yX9_hasAct cX9_hasAct 6 (some .boolean)]
def wsX9_testAll : List Cond := .code yX9_testAll cX9_testAll 7 none :: ((wsX9_testAll_r1 ++ wsX9_testAll_r2) ++ wsX90)
def wsX9_test_r1 : List Cond := [Cond.fieldLink RX9 152 "InterlockTablesModel" "tested" "Z", Cond.fieldLink RX9 149 "InterlockTablesModel" "rows" "I", Cond.fieldLink RX9 69 "InterlockTablesModel" "never" "[Z", Cond.methodLink RX9 202 yX9_testAll, Cond.instanceMethod yX9_testAll, Cond.selects RX9 yX9_testAll yX9_testAll, Cond.initialized RX9, Cond.code yX9_testAll cX9_testAll 7 none, Cond.fieldLink RX9 29 "InterlockTablesModel" "tops" "[I", Cond.fieldLink RX9 101 "InterlockTablesModel" "half" "I", Cond.fieldLink RX9 63 "InterlockTablesModel" "stack" "[J", Cond.fieldLink RX9 58 "InterlockTablesModel" "tables" "[J", Cond.methodLink RX9 196 arraycopyName, Cond.native arraycopyName, Cond.static arraycopyName, Cond.initialized "java/lang/System", Cond.fieldLink RX9 32 "InterlockTablesModel" "actCounts" "[I", Cond.fieldLink RX9 35 "InterlockTablesModel" "acts" "[I", Cond.fieldLink RX9 66 "InterlockTablesModel" "covered" "[J", Cond.constantLong RX9 186 (-1), Cond.methodLink RX9 188 yX9_table, Cond.instanceMethod yX9_table, Cond.selects RX9 yX9_table yX9_table, Cond.code yX9_table cX9_table 9 none]
def wsX9_test_r2 : List Cond := [Cond.fieldLink RX9 20 "InterlockTablesModel" "whats" "[I", Cond.fieldLink RX9 23 "InterlockTablesModel" "firsts" "[I", Cond.fieldLink RX9 26 "InterlockTablesModel" "seconds" "[I", Cond.methodLink RX9 192 yX9_bits, Cond.static yX9_bits, Cond.code yX9_bits cX9_bits 2 (some .long), Cond.constantLong RX9 174 (-6148914691236517206), Cond.constantLong RX9 176 (-3689348814741910324), Cond.constantLong RX9 178 (-1085102592571150096), Cond.constantLong RX9 180 (-71777214294589696), Cond.constantLong RX9 182 (-281470681808896), Cond.constantLong RX9 184 (-4294967296), Cond.methodLink RX9 167 yX9_hasAct, Cond.instanceMethod yX9_hasAct, Cond.selects RX9 yX9_hasAct yX9_hasAct, Cond.code yX9_hasAct cX9_hasAct 6 (some .boolean)]
def wsX9_test : List Cond := .code yX9_test cX9_test 4 (some .int) :: ((wsX9_test_r1 ++ wsX9_test_r2) ++ wsX90)
def wsX9_row_r1 : List Cond := [Cond.fieldLink RX9 101 "InterlockTablesModel" "half" "I", Cond.fieldLink RX9 32 "InterlockTablesModel" "actCounts" "[I", Cond.fieldLink RX9 38 "InterlockTablesModel" "numbers" "[I", Cond.fieldLink RX9 41 "InterlockTablesModel" "latches" "[Z", Cond.fieldLink RX9 48 "InterlockTablesModel" "counts" "[I", Cond.fieldLink RX9 51 "InterlockTablesModel" "latched" "[Z", Cond.fieldLink RX9 54 "InterlockTablesModel" "passes" "[I", Cond.fieldLink RX9 45 "InterlockTablesModel" "conditions" "[I", Cond.methodLink RX9 171 yX9_isRow, Cond.instanceMethod yX9_isRow, Cond.selects RX9 yX9_isRow yX9_isRow, Cond.initialized RX9, Cond.code yX9_isRow cX9_isRow 2 (some .boolean), Cond.fieldLink RX9 149 "InterlockTablesModel" "rows" "I", Cond.methodLink RX9 163 yX9_isOn, Cond.instanceMethod yX9_isOn, Cond.selects RX9 yX9_isOn yX9_isOn, Cond.code yX9_isOn cX9_isOn 2 (some .boolean), Cond.fieldLink RX9 29 "InterlockTablesModel" "tops" "[I", Cond.methodLink RX9 159 yX9_value, Cond.instanceMethod yX9_value, Cond.selects RX9 yX9_value yX9_value, Cond.code yX9_value cX9_value 2 (some .boolean), Cond.fieldLink RX9 20 "InterlockTablesModel" "whats" "[I"]
def wsX9_row_r2 : List Cond := [Cond.fieldLink RX9 23 "InterlockTablesModel" "firsts" "[I", Cond.fieldLink RX9 26 "InterlockTablesModel" "seconds" "[I", Cond.fieldLink RX9 156 "InterlockTablesModel" "state" "I"]
def wsX9_row : List Cond := .code yX9_row cX9_row 4 (some .int) :: ((wsX9_row_r1 ++ wsX9_row_r2) ++ wsX90)
def wsX9_say : List Cond := .code yX9_say cX9_say 3 none :: ([.fieldLink RX9 205 "InterlockTablesModel" "length" "I", .fieldLink RX9 72 "InterlockTablesModel" "written" "[B", .arrayClass .byte, .methodLink RX9 196 arraycopyName, .native arraycopyName, .static arraycopyName, .initialized "java/lang/System"] ++ wsX90)
def wsX9_say8 : List Cond := .code yX9_say8 cX9_say8 5 none :: ([.constantLong RX9 208 (255), .methodLink RX9 210 yX9_say, .instanceMethod yX9_say, .selects RX9 yX9_say yX9_say, .initialized RX9, .code yX9_say cX9_say 3 none, .fieldLink RX9 205 "InterlockTablesModel" "length" "I", .fieldLink RX9 72 "InterlockTablesModel" "written" "[B", .arrayClass .byte, .methodLink RX9 196 arraycopyName, .native arraycopyName, .static arraycopyName, .initialized "java/lang/System"] ++ wsX90)
def wsX9_sayNumber : List Cond := .code yX9_sayNumber cX9_sayNumber 4 none :: ([.methodLink RX9 210 yX9_say, .instanceMethod yX9_say, .selects RX9 yX9_say yX9_say, .initialized RX9, .code yX9_say cX9_say 3 none, .fieldLink RX9 205 "InterlockTablesModel" "length" "I", .fieldLink RX9 72 "InterlockTablesModel" "written" "[B", .arrayClass .byte, .methodLink RX9 196 arraycopyName, .native arraycopyName, .static arraycopyName, .initialized "java/lang/System"] ++ wsX90)
def wsX9_sayNode_r1 : List Cond := [Cond.fieldLink RX9 20 "InterlockTablesModel" "whats" "[I", Cond.constantLong RX9 217 (544501614), Cond.fieldLink RX9 23 "InterlockTablesModel" "firsts" "[I", Cond.constantLong RX9 226 (139123908896), Cond.constantLong RX9 228 (544370464), Cond.fieldLink RX9 26 "InterlockTablesModel" "seconds" "[I", Cond.methodLink RX9 210 yX9_say, Cond.instanceMethod yX9_say, Cond.selects RX9 yX9_say yX9_say, Cond.initialized RX9, Cond.code yX9_say cX9_say 3 none, Cond.fieldLink RX9 205 "InterlockTablesModel" "length" "I", Cond.fieldLink RX9 72 "InterlockTablesModel" "written" "[B", Cond.arrayClass .byte, Cond.methodLink RX9 196 arraycopyName, Cond.native arraycopyName, Cond.static arraycopyName, Cond.initialized "java/lang/System", Cond.methodLink RX9 214 yX9_sayNumber, Cond.instanceMethod yX9_sayNumber, Cond.selects RX9 yX9_sayNumber yX9_sayNumber, Cond.code yX9_sayNumber cX9_sayNumber 4 none, Cond.methodLink RX9 219 yX9_say8, Cond.instanceMethod yX9_say8]
def wsX9_sayNode_r2 : List Cond := [Cond.selects RX9 yX9_say8 yX9_say8, Cond.code yX9_say8 cX9_say8 5 none, Cond.constantLong RX9 208 (255), Cond.methodLink RX9 223 yX9_sayNode, Cond.instanceMethod yX9_sayNode, Cond.selects RX9 yX9_sayNode yX9_sayNode]
def wsX9_sayNode : List Cond := .code yX9_sayNode cX9_sayNode 5 none :: ((wsX9_sayNode_r1 ++ wsX9_sayNode_r2) ++ wsX90)
def wsX9_write_r1 : List Cond := [Cond.fieldLink RX9 205 "InterlockTablesModel" "length" "I", Cond.fieldLink RX9 149 "InterlockTablesModel" "rows" "I", Cond.fieldLink RX9 101 "InterlockTablesModel" "half" "I", Cond.constantLong RX9 230 (7496034), Cond.fieldLink RX9 32 "InterlockTablesModel" "actCounts" "[I", Cond.constantLong RX9 232 (24864), Cond.fieldLink RX9 35 "InterlockTablesModel" "acts" "[I", Cond.constantLong RX9 234 (35658519836448), Cond.fieldLink RX9 29 "InterlockTablesModel" "tops" "[I", Cond.fieldLink RX9 38 "InterlockTablesModel" "numbers" "[I", Cond.constantLong RX9 236 (139358856736), Cond.fieldLink RX9 41 "InterlockTablesModel" "latches" "[Z", Cond.constantLong RX9 238 (28543749011368992), Cond.fieldLink RX9 72 "InterlockTablesModel" "written" "[B", Cond.methodLink RX9 219 yX9_say8, Cond.instanceMethod yX9_say8, Cond.selects RX9 yX9_say8 yX9_say8, Cond.initialized RX9, Cond.code yX9_say8 cX9_say8 5 none, Cond.constantLong RX9 208 (255), Cond.methodLink RX9 210 yX9_say, Cond.instanceMethod yX9_say, Cond.selects RX9 yX9_say yX9_say, Cond.code yX9_say cX9_say 3 none]
def wsX9_write_r2 : List Cond := [Cond.arrayClass .byte, Cond.methodLink RX9 196 arraycopyName, Cond.native arraycopyName, Cond.static arraycopyName, Cond.initialized "java/lang/System", Cond.methodLink RX9 214 yX9_sayNumber, Cond.instanceMethod yX9_sayNumber, Cond.selects RX9 yX9_sayNumber yX9_sayNumber, Cond.code yX9_sayNumber cX9_sayNumber 4 none, Cond.methodLink RX9 223 yX9_sayNode, Cond.instanceMethod yX9_sayNode, Cond.selects RX9 yX9_sayNode yX9_sayNode, Cond.code yX9_sayNode cX9_sayNode 5 none, Cond.fieldLink RX9 20 "InterlockTablesModel" "whats" "[I", Cond.constantLong RX9 217 (544501614), Cond.fieldLink RX9 23 "InterlockTablesModel" "firsts" "[I", Cond.constantLong RX9 226 (139123908896), Cond.constantLong RX9 228 (544370464), Cond.fieldLink RX9 26 "InterlockTablesModel" "seconds" "[I"]
def wsX9_write : List Cond := .code yX9_write cX9_write 5 (some .int) :: ((wsX9_write_r1 ++ wsX9_write_r2) ++ wsX90)
def wsX9_clear : List Cond := .code yX9_clear cX9_clear 1 none :: ([.fieldLink RX9 149 "InterlockTablesModel" "rows" "I", .fieldLink RX9 75 "InterlockTablesModel" "size" "I", .fieldLink RX9 152 "InterlockTablesModel" "tested" "Z"] ++ wsX90)
def wsJ9_max_7cf53 : List Cond := .code yJ9_max_7cf53 cJ9_max_7cf53 2 (some .int) :: ([])
def wsJ9_min_7cf53 : List Cond := .code yJ9_min_7cf53 cJ9_min_7cf53 2 (some .int) :: ([])
def wsL_law_r1 : List Cond := [Cond.classLink RL 7 RX8, Cond.instantiable RX8 3, Cond.initialized RX8, Cond.classLink RL 10 RX9, Cond.instantiable RX9 32, Cond.initialized RX9, Cond.methodLink RL 9 yX8_init, Cond.instanceMethod yX8_init, Cond.code yX8_init cX8_init 1 none, Cond.methodLink RX8 3 objectInit, Cond.instanceMethod objectInit, Cond.code objectInit ⟨#[0xb1]⟩ 1 none, Cond.classLink RX8 9 RX0, Cond.instantiable RX0 3, Cond.initialized RX0, Cond.fieldLink RX8 14 "InterlockTables" "text" "LInterlockTables$Bytes;", Cond.arrayClass .long, Cond.fieldLink RX8 18 "InterlockTables" "conditions" "[J", Cond.classLink RX8 22 RX5, Cond.instantiable RX5 4, Cond.initialized RX5, Cond.fieldLink RX8 25 "InterlockTables" "table" "LInterlockTables$Table;", Cond.methodLink RX8 11 yX0_init, Cond.instanceMethod yX0_init]
def wsL_law_r2 : List Cond := [Cond.code yX0_init cX0_init 2 none, Cond.methodLink RX0 3 objectInit, Cond.fieldLink RX0 9 "InterlockTables$Bytes" "limit" "I", Cond.arrayClass .byte, Cond.fieldLink RX0 15 "InterlockTables$Bytes" "room" "[B", Cond.fieldLink RX0 19 "InterlockTables$Bytes" "length" "I", Cond.methodLink RX8 24 yX5_init, Cond.instanceMethod yX5_init, Cond.code yX5_init cX5_init 2 none, Cond.methodLink RX5 3 objectInit, Cond.classLink RX5 9 RJx4a65c, Cond.instantiable RJx4a65c 3, Cond.initialized RJx4a65c, Cond.fieldLink RX5 12 "InterlockTables$Table" "rows" "Ljava/util/ArrayList;", Cond.classLink RX5 18 RX1, Cond.instantiable RX1 3, Cond.initialized RX1, Cond.fieldLink RX5 23 "InterlockTables$Table" "expressions" "LInterlockTables$Expressions;", Cond.methodLink RX5 11 yJx4a65c_init_da8c8, Cond.instanceMethod yJx4a65c_init_da8c8, Cond.code yJx4a65c_init_da8c8 cJx4a65c_init_da8c8 1 none, Cond.fieldLink RJx4a65c 39 "java/util/ArrayList" "DEFAULTCAPACITY_EMPTY_ELEMENTDATA" "[Ljava/lang/Object;", Cond.fieldLink RJx4a65c 9 "java/util/ArrayList" "elementData" "[Ljava/lang/Object;", Cond.methodLink RJx4a65c 1 yJxc12de_init_da8c8]
def wsL_law_r3 : List Cond := [Cond.instanceMethod yJxc12de_init_da8c8, Cond.initialized RJxc12de, Cond.code yJxc12de_init_da8c8 cJxc12de_init_da8c8 1 none, Cond.fieldLink RJxc12de 7 "java/util/AbstractList" "modCount" "I", Cond.methodLink RJxc12de 1 yJxa1e45_init_da8c8, Cond.instanceMethod yJxa1e45_init_da8c8, Cond.initialized RJxa1e45, Cond.code yJxa1e45_init_da8c8 cJxa1e45_init_da8c8 1 none, Cond.methodLink RJxa1e45 1 objectInit, Cond.methodLink RX5 20 yX1_init, Cond.instanceMethod yX1_init, Cond.code yX1_init cX1_init 2 none, Cond.methodLink RX1 3 objectInit, Cond.fieldLink RX1 9 "InterlockTables$Expressions" "stack" "[J", Cond.methodLink RX1 15 Lib.Math.max.name, Cond.static Lib.Math.max.name, Cond.initialized "java/lang/Math", Cond.code Lib.Math.max.name Lib.Math.max.code 2 (some .int), Cond.fieldLink RX1 21 "InterlockTables$Expressions" "code" "[B", Cond.methodLink RL 12 yX9_init, Cond.instanceMethod yX9_init, Cond.code yX9_init cX9_init 1 none, Cond.methodLink RX9 1 objectInit, Cond.fieldLink RX9 9 "InterlockTablesModel" "text" "[B"]
def wsL_law_r4 : List Cond := [Cond.arrayClass .int, Cond.fieldLink RX9 13 "InterlockTablesModel" "begins" "[I", Cond.fieldLink RX9 17 "InterlockTablesModel" "ends" "[I", Cond.fieldLink RX9 20 "InterlockTablesModel" "whats" "[I", Cond.fieldLink RX9 23 "InterlockTablesModel" "firsts" "[I", Cond.fieldLink RX9 26 "InterlockTablesModel" "seconds" "[I", Cond.fieldLink RX9 29 "InterlockTablesModel" "tops" "[I", Cond.fieldLink RX9 32 "InterlockTablesModel" "actCounts" "[I", Cond.fieldLink RX9 35 "InterlockTablesModel" "acts" "[I", Cond.fieldLink RX9 38 "InterlockTablesModel" "numbers" "[I", Cond.arrayClass .boolean, Cond.fieldLink RX9 41 "InterlockTablesModel" "latches" "[Z", Cond.fieldLink RX9 45 "InterlockTablesModel" "conditions" "[I", Cond.fieldLink RX9 48 "InterlockTablesModel" "counts" "[I", Cond.fieldLink RX9 51 "InterlockTablesModel" "latched" "[Z", Cond.fieldLink RX9 54 "InterlockTablesModel" "passes" "[I", Cond.constant RX9 57 (40960), Cond.fieldLink RX9 58 "InterlockTablesModel" "tables" "[J", Cond.constant RX9 62 (71680), Cond.fieldLink RX9 63 "InterlockTablesModel" "stack" "[J", Cond.fieldLink RX9 66 "InterlockTablesModel" "covered" "[J", Cond.fieldLink RX9 69 "InterlockTablesModel" "never" "[Z", Cond.fieldLink RX9 72 "InterlockTablesModel" "written" "[B", Cond.methodLink RL 13 yX8_unit]
def wsL_law_r5 : List Cond := [Cond.instanceMethod yX8_unit, Cond.selects RX8 yX8_unit yX8_unit, Cond.code yX8_unit cX8_unit 2 (some .boolean), Cond.methodLink RX8 29 yX0_add, Cond.instanceMethod yX0_add, Cond.selects RX0 yX0_add yX0_add, Cond.code yX0_add cX0_add 2 (some .boolean), Cond.methodLink RX0 22 yJ7_copyOf_9075b, Cond.static yJ7_copyOf_9075b, Cond.initialized RJ7, Cond.code yJ7_copyOf_9075b cJ7_copyOf_9075b 3 (some (.array .byte)), Cond.methodLink RJ7 310 ⟨"[B", "clone", "()Ljava/lang/Object;"⟩, Cond.sameMethod "[B" "java/lang/Object" "clone" "()Ljava/lang/Object;", Cond.native ⟨"java/lang/Object", "clone", "()Ljava/lang/Object;"⟩, Cond.instanceMethod ⟨"java/lang/Object", "clone", "()Ljava/lang/Object;"⟩, Cond.selects "[B" ⟨"[B", "clone", "()Ljava/lang/Object;"⟩ ⟨"java/lang/Object", "clone", "()Ljava/lang/Object;"⟩, Cond.classLink RJ7 311 "[B", Cond.methodLink RJ7 304 Lib.Math.min.name, Cond.static Lib.Math.min.name, Cond.code Lib.Math.min.name Lib.Math.min.code 2 (some .int), Cond.methodLink RJ7 150 arraycopyName, Cond.native arraycopyName, Cond.static arraycopyName, Cond.initialized "java/lang/System"]
def wsL_law_r6 : List Cond := [Cond.methodLink RL 17 yX9_unit, Cond.instanceMethod yX9_unit, Cond.selects RX9 yX9_unit yX9_unit, Cond.code yX9_unit cX9_unit 2 (some .boolean), Cond.fieldLink RX9 75 "InterlockTablesModel" "size" "I", Cond.methodLink RL 18 yX8_read, Cond.instanceMethod yX8_read, Cond.selects RX8 yX8_read yX8_read, Cond.code yX8_read cX8_read 3 (some .int), Cond.classLink RX8 33 RX6, Cond.instantiable RX6 5, Cond.initialized RX6, Cond.classLink RX8 50 RX2, Cond.instantiable RX2 3, Cond.initialized RX2, Cond.methodLink RX8 35 yX0_length, Cond.instanceMethod yX0_length, Cond.selects RX0 yX0_length yX0_length, Cond.code yX0_length cX0_length 1 (some .int), Cond.methodLink RX8 39 yX6_init, Cond.instanceMethod yX6_init, Cond.code yX6_init cX6_init 3 none, Cond.methodLink RX6 3 objectInit, Cond.methodLink RX6 9 Lib.Math.max.name]
def wsL_law_r7 : List Cond := [Cond.fieldLink RX6 15 "InterlockTables$Words" "kinds" "[B", Cond.arrayClass .short, Cond.fieldLink RX6 21 "InterlockTables$Words" "values" "[S", Cond.methodLink RX8 40 yX6_split, Cond.instanceMethod yX6_split, Cond.selects RX6 yX6_split yX6_split, Cond.code yX6_split cX6_split 4 none, Cond.methodLink RX6 32 yX0_length, Cond.methodLink RX6 38 yX0_at, Cond.instanceMethod yX0_at, Cond.selects RX0 yX0_at yX0_at, Cond.code yX0_at cX0_at 2 (some .int), Cond.methodLink RX6 42 yX6_isInner, Cond.static yX6_isInner, Cond.code yX6_isInner cX6_isInner 1 (some .boolean), Cond.methodLink RX6 46 yX6_isBlank, Cond.static yX6_isBlank, Cond.code yX6_isBlank cX6_isBlank 1 (some .boolean), Cond.methodLink RX6 49 yX6_kindOf, Cond.instanceMethod yX6_kindOf, Cond.selects RX6 yX6_kindOf yX6_kindOf, Cond.code yX6_kindOf cX6_kindOf 5 (some .int), Cond.fieldLink RX6 57 "InterlockTables$Words" "value" "I", Cond.methodLink RX6 60 yX6_namedKind]
def wsL_law_r8 : List Cond := [Cond.static yX6_namedKind, Cond.code yX6_namedKind cX6_namedKind 3 (some .int), Cond.methodLink RX6 68 yX6_isWord, Cond.static yX6_isWord, Cond.code yX6_isWord cX6_isWord 5 (some .boolean), Cond.methodLink RX6 84 yJ0_length_8abf5, Cond.instanceMethod yJ0_length_8abf5, Cond.selects RJ0 yJ0_length_8abf5 yJ0_length_8abf5, Cond.initialized RJ0, Cond.code yJ0_length_8abf5 cJ0_length_8abf5 1 (some .int), Cond.fieldLink RJ0 9 "java/lang/String" "value" "[B", Cond.methodLink RJ0 335 yJ0_coder_7d493, Cond.instanceMethod yJ0_coder_7d493, Cond.selects RJ0 yJ0_coder_7d493 yJ0_coder_7d493, Cond.code yJ0_coder_7d493 cJ0_coder_7d493 1 (some .byte), Cond.fieldLink RJ0 38 "java/lang/String" "COMPACT_STRINGS" "Z", Cond.fieldLink RJ0 15 "java/lang/String" "coder" "B", Cond.methodLink RX6 87 yJ0_charAt_5068e, Cond.instanceMethod yJ0_charAt_5068e, Cond.selects RJ0 yJ0_charAt_5068e yJ0_charAt_5068e, Cond.code yJ0_charAt_5068e cJ0_charAt_5068e 2 (some .char), Cond.methodLink RJ0 492 yJ0_isLatin1_aae02, Cond.instanceMethod yJ0_isLatin1_aae02, Cond.selects RJ0 yJ0_isLatin1_aae02 yJ0_isLatin1_aae02]
def wsL_law_r9 : List Cond := [Cond.code yJ0_isLatin1_aae02 cJ0_isLatin1_aae02 1 (some .boolean), Cond.methodLink RJ0 495 yJ1_charAt_3b067, Cond.static yJ1_charAt_3b067, Cond.initialized RJ1, Cond.code yJ1_charAt_3b067 cJ1_charAt_3b067 2 (some .char), Cond.methodLink RJ1 9 yJ0_checkIndex_df160, Cond.static yJ0_checkIndex_df160, Cond.code yJ0_checkIndex_df160 cJ0_checkIndex_df160 2 none, Cond.fieldLink RJ0 1053 "jdk/internal/util/Preconditions" "SIOOBE_FORMATTER" "Ljava/util/function/BiFunction;", Cond.methodLink RJ0 1059 yJ3_checkIndex_8e157, Cond.static yJ3_checkIndex_8e157, Cond.initialized RJ3, Cond.code yJ3_checkIndex_8e157 cJ3_checkIndex_8e157 3 (some .int), Cond.methodLink RJ0 498 yJ2_charAt_3b067, Cond.static yJ2_charAt_3b067, Cond.initialized RJ2, Cond.code yJ2_charAt_3b067 cJ2_charAt_3b067 2 (some .char), Cond.methodLink RJ2 67 yJ2_checkIndex_2214a, Cond.static yJ2_checkIndex_2214a, Cond.code yJ2_checkIndex_2214a cJ2_checkIndex_2214a 2 none, Cond.methodLink RJ2 48 yJ2_length_9d52b, Cond.static yJ2_length_9d52b, Cond.code yJ2_length_9d52b cJ2_length_9d52b 1 (some .int), Cond.methodLink RJ2 414 yJ0_checkIndex_df160]
def wsL_law_r10 : List Cond := [Cond.methodLink RJ2 71 yJ2_getChar_3b067, Cond.static yJ2_getChar_3b067, Cond.code yJ2_getChar_3b067 cJ2_getChar_3b067 2 (some .char), Cond.fieldLink RJ2 44 "java/lang/StringUTF16" "$assertionsDisabled" "Z", Cond.fieldLink RJ2 59 "java/lang/StringUTF16" "HI_BYTE_SHIFT" "I", Cond.fieldLink RJ2 63 "java/lang/StringUTF16" "LO_BYTE_SHIFT" "I", Cond.methodLink RX6 63 yX6_numberedKind, Cond.instanceMethod yX6_numberedKind, Cond.selects RX6 yX6_numberedKind yX6_numberedKind, Cond.code yX6_numberedKind cX6_numberedKind 5 (some .int), Cond.methodLink RX6 91 yX6_numberIn, Cond.static yX6_numberIn, Cond.code yX6_numberIn cX6_numberIn 7 (some .int), Cond.methodLink RX6 53 yX6_keep, Cond.instanceMethod yX6_keep, Cond.selects RX6 yX6_keep yX6_keep, Cond.code yX6_keep cX6_keep 2 none, Cond.fieldLink RX6 25 "InterlockTables$Words" "count" "I", Cond.methodLink RX8 44 yX0_empty, Cond.instanceMethod yX0_empty, Cond.selects RX0 yX0_empty yX0_empty, Cond.code yX0_empty cX0_empty 1 none, Cond.methodLink RX8 47 yX6_count, Cond.instanceMethod yX6_count]
def wsL_law_r11 : List Cond := [Cond.selects RX6 yX6_count yX6_count, Cond.code yX6_count cX6_count 1 (some .int), Cond.methodLink RX8 52 yX2_init, Cond.instanceMethod yX2_init, Cond.code yX2_init cX2_init 3 none, Cond.methodLink RX2 3 objectInit, Cond.fieldLink RX2 9 "InterlockTables$Reader" "words" "LInterlockTables$Words;", Cond.fieldLink RX2 15 "InterlockTables$Reader" "table" "LInterlockTables$Table;", Cond.fieldLink RX2 25 "InterlockTables$Reader" "expressions" "LInterlockTables$Expressions;", Cond.methodLink RX8 55 yX2_takeText, Cond.instanceMethod yX2_takeText, Cond.selects RX2 yX2_takeText yX2_takeText, Cond.code yX2_takeText cX2_takeText 2 (some .boolean), Cond.methodLink RX2 26 yX6_kind, Cond.instanceMethod yX6_kind, Cond.selects RX6 yX6_kind yX6_kind, Cond.code yX6_kind cX6_kind 1 (some .int), Cond.fieldLink RX6 29 "InterlockTables$Words" "index" "I", Cond.methodLink RX2 32 yX2_takeRow, Cond.instanceMethod yX2_takeRow, Cond.selects RX2 yX2_takeRow yX2_takeRow, Cond.code yX2_takeRow cX2_takeRow 2 (some .boolean), Cond.classLink RX2 36 RX3, Cond.instantiable RX3 13]
def wsL_law_r12 : List Cond := [Cond.initialized RX3, Cond.instanceMethod yX3_init, Cond.code yX3_init cX3_init 1 none, Cond.methodLink RX3 3 objectInit, Cond.fieldLink RX3 9 "InterlockTables$Row" "acts" "[I", Cond.methodLink RX2 39 yX2_take, Cond.instanceMethod yX2_take, Cond.selects RX2 yX2_take yX2_take, Cond.code yX2_take cX2_take 2 (some .boolean), Cond.methodLink RX2 80 yX6_advance, Cond.instanceMethod yX6_advance, Cond.selects RX6 yX6_advance yX6_advance, Cond.code yX6_advance cX6_advance 1 none, Cond.methodLink RX2 43 yX2_takeActs, Cond.instanceMethod yX2_takeActs, Cond.selects RX2 yX2_takeActs yX2_takeActs, Cond.code yX2_takeActs cX2_takeActs 3 (some .boolean), Cond.methodLink RX2 83 yX6_value, Cond.instanceMethod yX6_value, Cond.selects RX6 yX6_value yX6_value, Cond.code yX6_value cX6_value 1 (some .int), Cond.methodLink RX2 86 yX3_addAct, Cond.instanceMethod yX3_addAct, Cond.selects RX3 yX3_addAct yX3_addAct]
def wsL_law_r13 : List Cond := [Cond.code yX3_addAct cX3_addAct 2 (some .boolean), Cond.fieldLink RX3 19 "InterlockTables$Row" "actCount" "I", Cond.fieldLink RX3 15 "InterlockTables$Row" "actBits" "I", Cond.methodLink RX3 22 yX3_hasAct, Cond.instanceMethod yX3_hasAct, Cond.selects RX3 yX3_hasAct yX3_hasAct, Cond.code yX3_hasAct cX3_hasAct 2 (some .boolean), Cond.methodLink RX2 47 yX1_size, Cond.instanceMethod yX1_size, Cond.selects RX1 yX1_size yX1_size, Cond.code yX1_size cX1_size 1 (some .int), Cond.fieldLink RX1 25 "InterlockTables$Expressions" "size" "I", Cond.methodLink RX2 56 yX2_takeOr, Cond.instanceMethod yX2_takeOr, Cond.selects RX2 yX2_takeOr yX2_takeOr, Cond.code yX2_takeOr cX2_takeOr 4 (some .boolean), Cond.methodLink RX2 98 yX2_takeAnd, Cond.instanceMethod yX2_takeAnd, Cond.selects RX2 yX2_takeAnd yX2_takeAnd, Cond.methodLink RX2 101 yX1_add, Cond.instanceMethod yX1_add, Cond.selects RX1 yX1_add yX1_add, Cond.code yX1_add cX1_add 2 none, Cond.code yX2_takeAnd cX2_takeAnd 4 (some .boolean)]
def wsL_law_r14 : List Cond := [Cond.methodLink RX2 104 yX2_takePart, Cond.instanceMethod yX2_takePart, Cond.selects RX2 yX2_takePart yX2_takePart, Cond.code yX2_takeBrackets cX2_takeBrackets 3 (some .boolean), Cond.code yX2_takePart cX2_takePart 6 (some .boolean), Cond.methodLink RX2 107 yX2_takeBrackets, Cond.instanceMethod yX2_takeBrackets, Cond.selects RX2 yX2_takeBrackets yX2_takeBrackets, Cond.methodLink RX2 110 yX2_takeCondition, Cond.instanceMethod yX2_takeCondition, Cond.selects RX2 yX2_takeCondition yX2_takeCondition, Cond.code yX2_takeCondition cX2_takeCondition 2 (some .boolean), Cond.methodLink RX2 63 yX2_takeFor, Cond.instanceMethod yX2_takeFor, Cond.selects RX2 yX2_takeFor yX2_takeFor, Cond.code yX2_takeFor cX2_takeFor 2 (some .boolean), Cond.methodLink RX2 74 yJx4a65c_add_9ea2d, Cond.instanceMethod yJx4a65c_add_9ea2d, Cond.selects RJx4a65c yJx4a65c_add_9ea2d yJx4a65c_add_9ea2d, Cond.code yJx4a65c_add_9ea2d cJx4a65c_add_9ea2d 2 (some .boolean), Cond.fieldLink RJx4a65c 63 "java/util/ArrayList" "modCount" "I", Cond.sameField "java/util/ArrayList" "java/util/AbstractList" "modCount" "I", Cond.fieldLink RJx4a65c 48 "java/util/ArrayList" "size" "I", Cond.methodLink RJx4a65c 131 yJx4a65c_add_72be8]
def wsL_law_r15 : List Cond := [Cond.instanceMethod yJx4a65c_add_72be8, Cond.selects RJx4a65c yJx4a65c_add_72be8 yJx4a65c_add_72be8, Cond.code yJx4a65c_add_72be8 cJx4a65c_add_72be8 4 none, Cond.methodLink RJx4a65c 129 yJx4a65c_grow_d5877, Cond.instanceMethod yJx4a65c_grow_d5877, Cond.selects RJx4a65c yJx4a65c_grow_d5877 yJx4a65c_grow_d5877, Cond.code yJx4a65c_grow_d5877 cJx4a65c_grow_d5877 1 (some (.array (.object "java/lang/Object"))), Cond.methodLink RJx4a65c 69 yJx4a65c_grow_92f84, Cond.instanceMethod yJx4a65c_grow_92f84, Cond.selects RJx4a65c yJx4a65c_grow_92f84 yJx4a65c_grow_92f84, Cond.code yJx4a65c_grow_92f84 cJx4a65c_grow_92f84 4 (some (.array (.object "java/lang/Object"))), Cond.methodLink RJx4a65c 79 Lib.Math.max.name, Cond.classLink RJx4a65c 7 "java/lang/Object", Cond.methodLink RJx4a65c 73 yJ8_newLength_cabcc, Cond.static yJ8_newLength_cabcc, Cond.initialized RJ8, Cond.code yJ8_newLength_cabcc cJ8_newLength_cabcc 4 (some .int), Cond.methodLink RJ8 194 Lib.Math.max.name, Cond.constant RJ8 200 (2147483639), Cond.methodLink RJ8 201 yJ8_hugeLength_7cf53, Cond.static yJ8_hugeLength_7cf53, Cond.code yJ8_hugeLength_7cf53 cJ8_hugeLength_7cf53 3 (some .int), Cond.methodLink RJx4a65c 66 yJ7_copyOf_1904c, Cond.static yJ7_copyOf_1904c]
def wsL_law_r16 : List Cond := [Cond.code yJ7_copyOf_1904c cJ7_copyOf_1904c 2 (some (.array (.object "java/lang/Object"))), Cond.methodLink RJ7 86 ⟨"java/lang/Object", "getClass", "()Ljava/lang/Class;"⟩, Cond.selects "[Ljava/lang/Object;" ⟨"java/lang/Object", "getClass", "()Ljava/lang/Class;"⟩ ⟨"java/lang/Object", "getClass", "()Ljava/lang/Class;"⟩, Cond.instanceMethod ⟨"java/lang/Object", "getClass", "()Ljava/lang/Class;"⟩, Cond.native ⟨"java/lang/Object", "getClass", "()Ljava/lang/Class;"⟩, Cond.methodLink RJ7 300 yJ7_copyOf_6403c, Cond.static yJ7_copyOf_6403c, Cond.code yJ7_copyOf_6403c cJ7_copyOf_6403c 4 (some (.array (.object "java/lang/Object"))), Cond.classLink RJ7 110 "[Ljava/lang/Object;", Cond.classLink RJ7 2 "java/lang/Object", Cond.methodLink RX8 59 yX6_index, Cond.instanceMethod yX6_index, Cond.selects RX6 yX6_index yX6_index, Cond.code yX6_index cX6_index 1 (some .int), Cond.methodLink RX8 62 yX5_size, Cond.instanceMethod yX5_size, Cond.selects RX5 yX5_size yX5_size, Cond.code yX5_size cX5_size 1 (some .int), Cond.methodLink RX5 27 yJx4a65c_size_8abf5, Cond.instanceMethod yJx4a65c_size_8abf5, Cond.selects RJx4a65c yJx4a65c_size_8abf5 yJx4a65c_size_8abf5, Cond.code yJx4a65c_size_8abf5 cJx4a65c_size_8abf5 1 (some .int), Cond.methodLink RL 22 yX9_read, Cond.instanceMethod yX9_read]
def wsL_law_r17 : List Cond := [Cond.selects RX9 yX9_read yX9_read, Cond.code yX9_read cX9_read 3 (some .int), Cond.fieldLink RX9 86 "InterlockTablesModel" "next" "I", Cond.fieldLink RX9 104 "InterlockTablesModel" "nodes" "I", Cond.fieldLink RX9 136 "InterlockTablesModel" "made" "I", Cond.fieldLink RX9 79 "InterlockTablesModel" "words" "I", Cond.fieldLink RX9 101 "InterlockTablesModel" "half" "I", Cond.fieldLink RX9 149 "InterlockTablesModel" "rows" "I", Cond.fieldLink RX9 152 "InterlockTablesModel" "tested" "Z", Cond.methodLink RX9 142 yX9_cut, Cond.instanceMethod yX9_cut, Cond.selects RX9 yX9_cut yX9_cut, Cond.code yX9_cut cX9_cut 3 none, Cond.methodLink RX9 82 yX9_isSign, Cond.static yX9_isSign, Cond.code yX9_isSign cX9_isSign 1 (some .boolean), Cond.methodLink RX9 110 yX9_is, Cond.instanceMethod yX9_is, Cond.selects RX9 yX9_is yX9_is, Cond.code yX9_is cX9_is 9 (some .boolean), Cond.methodLink RX9 89 yX9_wide, Cond.instanceMethod yX9_wide, Cond.selects RX9 yX9_wide yX9_wide, Cond.code yX9_wide cX9_wide 1 (some .int)]
def wsL_law_r18 : List Cond := [Cond.methodLink RX9 93 yX9_at, Cond.instanceMethod yX9_at, Cond.selects RX9 yX9_at yX9_at, Cond.code yX9_at cX9_at 3 (some .int), Cond.methodLink RX9 145 yX9_readRow, Cond.instanceMethod yX9_readRow, Cond.selects RX9 yX9_readRow yX9_readRow, Cond.code yX9_readRow cX9_readRow 6 (some .boolean), Cond.fieldLink RX9 124 "InterlockTablesModel" "open" "I", Cond.fieldLink RX9 133 "InterlockTablesModel" "stood" "I", Cond.methodLink RX9 139 yX9_act, Cond.instanceMethod yX9_act, Cond.selects RX9 yX9_act yX9_act, Cond.code yX9_act cX9_act 1 (some .int), Cond.methodLink RX9 97 yX9_number, Cond.instanceMethod yX9_number, Cond.selects RX9 yX9_number yX9_number, Cond.code yX9_number cX9_number 7 (some .int), Cond.methodLink RX9 127 yX9_or, Cond.instanceMethod yX9_or, Cond.selects RX9 yX9_or yX9_or, Cond.code yX9_or cX9_or 3 (some .int), Cond.methodLink RX9 107 yX9_and, Cond.instanceMethod yX9_and]
def wsL_law_r19 : List Cond := [Cond.selects RX9 yX9_and yX9_and, Cond.methodLink RX9 114 yX9_node, Cond.instanceMethod yX9_node, Cond.selects RX9 yX9_node yX9_node, Cond.code yX9_node cX9_node 5 (some .int), Cond.code yX9_and cX9_and 3 (some .int), Cond.methodLink RX9 118 yX9_part, Cond.instanceMethod yX9_part, Cond.selects RX9 yX9_part yX9_part, Cond.code yX9_part cX9_part 3 (some .int), Cond.methodLink RX9 121 yX9_isOne, Cond.instanceMethod yX9_isOne, Cond.selects RX9 yX9_isOne yX9_isOne, Cond.code yX9_isOne cX9_isOne 2 (some .boolean), Cond.methodLink RX9 130 yX9_conditionWord, Cond.instanceMethod yX9_conditionWord, Cond.selects RX9 yX9_conditionWord yX9_conditionWord, Cond.code yX9_conditionWord cX9_conditionWord 1 (some .int), Cond.methodLink RL 23 yX8_condition, Cond.instanceMethod yX8_condition, Cond.selects RX8 yX8_condition yX8_condition, Cond.code yX8_condition cX8_condition 6 (some .boolean), Cond.constantLong RX8 65 (-1), Cond.methodLink RL 27 yX9_condition]
def wsL_law_r20 : List Cond := [Cond.instanceMethod yX9_condition, Cond.selects RX9 yX9_condition yX9_condition, Cond.code yX9_condition cX9_condition 3 (some .boolean), Cond.fieldLink RX9 156 "InterlockTablesModel" "state" "I", Cond.methodLink RL 28 yX8_tick, Cond.instanceMethod yX8_tick, Cond.selects RX8 yX8_tick yX8_tick, Cond.code yX8_tick cX8_tick 2 (some .boolean), Cond.constant RX8 67 (100000), Cond.methodLink RX8 68 yX5_letGoBy, Cond.instanceMethod yX5_letGoBy, Cond.selects RX5 yX5_letGoBy yX5_letGoBy, Cond.code yX5_letGoBy cX5_letGoBy 5 none, Cond.classLink RX5 35 "InterlockTables$Row", Cond.methodLink RX5 31 yJx4a65c_get_915e3, Cond.instanceMethod yJx4a65c_get_915e3, Cond.selects RJx4a65c yJx4a65c_get_915e3 yJx4a65c_get_915e3, Cond.code yJx4a65c_get_915e3 cJx4a65c_get_915e3 2 (some (.object "java/lang/Object")), Cond.methodLink RJx4a65c 118 yJ15_checkIndex_7cf53, Cond.static yJ15_checkIndex_7cf53, Cond.initialized RJ15, Cond.code yJ15_checkIndex_7cf53 cJ15_checkIndex_7cf53 2 (some .int), Cond.methodLink RJ15 105 yJ3_checkIndex_8e157, Cond.methodLink RJx4a65c 123 yJx4a65c_elementData_915e3]
def wsL_law_r21 : List Cond := [Cond.instanceMethod yJx4a65c_elementData_915e3, Cond.selects RJx4a65c yJx4a65c_elementData_915e3 yJx4a65c_elementData_915e3, Cond.code yJx4a65c_elementData_915e3 cJx4a65c_elementData_915e3 2 (some (.object "java/lang/Object")), Cond.methodLink RX5 51 yX5_isOn, Cond.instanceMethod yX5_isOn, Cond.selects RX5 yX5_isOn yX5_isOn, Cond.code yX5_isOn cX5_isOn 3 (some .boolean), Cond.methodLink RX5 37 yX5_valueOf, Cond.instanceMethod yX5_valueOf, Cond.selects RX5 yX5_valueOf yX5_valueOf, Cond.code yX5_valueOf cX5_valueOf 3 (some .long), Cond.methodLink RX5 48 yX1_valueOf, Cond.instanceMethod yX1_valueOf, Cond.selects RX1 yX1_valueOf yX1_valueOf, Cond.code yX1_valueOf cX1_valueOf 7 (some .long), Cond.constantLong RX1 37 (-1), Cond.methodLink RX1 29 yX1_at, Cond.instanceMethod yX1_at, Cond.selects RX1 yX1_at yX1_at, Cond.code yX1_at cX1_at 2 (some .int), Cond.methodLink RX1 33 yX1_isCondition, Cond.static yX1_isCondition, Cond.code yX1_isCondition cX1_isCondition 1 (some .boolean), Cond.methodLink RX1 39 yX1_join]
def wsL_law_r22 : List Cond := [Cond.static yX1_join, Cond.code yX1_join cX1_join 5 (some .long), Cond.methodLink RX5 55 yX3_letGoBy, Cond.instanceMethod yX3_letGoBy, Cond.selects RX3 yX3_letGoBy yX3_letGoBy, Cond.code yX3_letGoBy cX3_letGoBy 3 none, Cond.fieldLink RX3 26 "InterlockTables$Row" "passLeft" "I", Cond.methodLink RX3 43 Lib.Math.max.name, Cond.constant RX3 49 (1000000), Cond.fieldLink RX3 37 "InterlockTables$Row" "count" "I", Cond.methodLink RX3 50 Lib.Math.min.name, Cond.fieldLink RX3 53 "InterlockTables$Row" "mayLatch" "Z", Cond.fieldLink RX3 29 "InterlockTables$Row" "latched" "Z", Cond.methodLink RX3 33 yX3_holds, Cond.instanceMethod yX3_holds, Cond.selects RX3 yX3_holds yX3_holds, Cond.code yX3_holds cX3_holds 2 (some .boolean), Cond.fieldLink RX3 40 "InterlockTables$Row" "number" "I", Cond.methodLink RL 31 yX9_tick, Cond.instanceMethod yX9_tick, Cond.selects RX9 yX9_tick yX9_tick, Cond.code yX9_tick cX9_tick 4 (some .boolean), Cond.constant RX9 162 (100000), Cond.constant RX9 166 (1000000)]
def wsL_law_r23 : List Cond := [Cond.methodLink RX9 163 yX9_isOn, Cond.instanceMethod yX9_isOn, Cond.selects RX9 yX9_isOn yX9_isOn, Cond.code yX9_isOn cX9_isOn 2 (some .boolean), Cond.methodLink RX9 159 yX9_value, Cond.instanceMethod yX9_value, Cond.selects RX9 yX9_value yX9_value, Cond.code yX9_value cX9_value 2 (some .boolean), Cond.methodLink RL 32 yX8_act, Cond.instanceMethod yX8_act, Cond.selects RX8 yX8_act yX8_act, Cond.code yX8_act cX8_act 2 (some .int), Cond.methodLink RX8 72 yX5_firstToBar, Cond.instanceMethod yX5_firstToBar, Cond.selects RX5 yX5_firstToBar yX5_firstToBar, Cond.code yX5_firstToBar cX5_firstToBar 5 (some .int), Cond.methodLink RX5 59 yX3_hasAct, Cond.methodLink RX5 63 yX3_bars, Cond.instanceMethod yX3_bars, Cond.selects RX3 yX3_bars yX3_bars, Cond.code yX3_bars cX3_bars 2 (some .boolean), Cond.methodLink RL 36 yX9_act_, Cond.instanceMethod yX9_act_, Cond.selects RX9 yX9_act_ yX9_act_]
def wsL_law_r24 : List Cond := [Cond.code yX9_act_ cX9_act_ 4 (some .int), Cond.methodLink RX9 167 yX9_hasAct, Cond.instanceMethod yX9_hasAct, Cond.selects RX9 yX9_hasAct yX9_hasAct, Cond.code yX9_hasAct cX9_hasAct 6 (some .boolean), Cond.methodLink RL 37 yX8_pass, Cond.instanceMethod yX8_pass, Cond.selects RX8 yX8_pass yX8_pass, Cond.code yX8_pass cX8_pass 6 (some .int), Cond.methodLink RX8 76 yX5_find, Cond.instanceMethod yX5_find, Cond.selects RX5 yX5_find yX5_find, Cond.code yX5_find cX5_find 2 (some (.object "InterlockTables$Row")), Cond.methodLink RX8 80 yX8_isPerson, Cond.static yX8_isPerson, Cond.code yX8_isPerson cX8_isPerson 1 (some .boolean), Cond.methodLink RL 41 yX9_pass, Cond.instanceMethod yX9_pass, Cond.selects RX9 yX9_pass yX9_pass, Cond.code yX9_pass cX9_pass 5 (some .int), Cond.methodLink RX9 171 yX9_isRow, Cond.instanceMethod yX9_isRow, Cond.selects RX9 yX9_isRow yX9_isRow, Cond.code yX9_isRow cX9_isRow 2 (some .boolean)]
def wsL_law_r25 : List Cond := [Cond.methodLink RL 42 yX8_listed, Cond.instanceMethod yX8_listed, Cond.selects RX8 yX8_listed yX8_listed, Cond.code yX8_listed cX8_listed 2 (some .int), Cond.methodLink RX8 89 yX5_passedRow, Cond.instanceMethod yX5_passedRow, Cond.selects RX5 yX5_passedRow yX5_passedRow, Cond.code yX5_passedRow cX5_passedRow 2 (some .int), Cond.methodLink RX5 67 yX5_pick, Cond.instanceMethod yX5_pick, Cond.selects RX5 yX5_pick yX5_pick, Cond.code yX5_pick cX5_pick 6 (some .int), Cond.methodLink RL 45 yX9_listed, Cond.instanceMethod yX9_listed, Cond.selects RX9 yX9_listed yX9_listed, Cond.code yX9_listed cX9_listed 4 (some .int), Cond.methodLink RL 46 yX8_reset, Cond.instanceMethod yX8_reset, Cond.selects RX8 yX8_reset yX8_reset, Cond.code yX8_reset cX8_reset 3 (some .boolean), Cond.methodLink RX8 97 yX5_isOn, Cond.methodLink RL 49 yX9_reset, Cond.instanceMethod yX9_reset, Cond.selects RX9 yX9_reset yX9_reset]
def wsL_law_r26 : List Cond := [Cond.code yX9_reset cX9_reset 2 (some .boolean), Cond.methodLink RL 50 yX8_test, Cond.instanceMethod yX8_test, Cond.selects RX8 yX8_test yX8_test, Cond.code yX8_test cX8_test 2 (some .int), Cond.methodLink RX8 101 yX5_idleRow, Cond.instanceMethod yX5_idleRow, Cond.selects RX5 yX5_idleRow yX5_idleRow, Cond.code yX5_idleRow cX5_idleRow 2 (some .int), Cond.fieldLink RX5 71 "InterlockTables$Table" "surveyed" "Z", Cond.classLink RX5 75 RX4, Cond.instantiable RX4 5, Cond.initialized RX4, Cond.methodLink RX5 77 yX4_init, Cond.instanceMethod yX4_init, Cond.code yX4_init cX4_init 2 none, Cond.methodLink RX4 3 objectInit, Cond.fieldLink RX4 9 "InterlockTables$Survey" "used" "[I", Cond.fieldLink RX4 15 "InterlockTables$Survey" "settings" "[J", Cond.fieldLink RX4 19 "InterlockTables$Survey" "covered" "[J", Cond.fieldLink RX4 22 "InterlockTables$Survey" "table" "LInterlockTables$Table;", Cond.methodLink RX5 80 yX4_markRows, Cond.instanceMethod yX4_markRows, Cond.selects RX4 yX4_markRows yX4_markRows]
def wsL_law_r27 : List Cond := [Cond.code yX4_markRows cX4_markRows 4 none, Cond.fieldLink RX4 29 "InterlockTables$Survey" "usedCount" "I", Cond.methodLink RX4 36 Lib.Math.max.name, Cond.methodLink RX4 26 yX4_findUsed, Cond.instanceMethod yX4_findUsed, Cond.selects RX4 yX4_findUsed yX4_findUsed, Cond.code yX4_findUsed cX4_findUsed 5 none, Cond.methodLink RX4 59 yX1_size, Cond.methodLink RX4 62 yX1_at, Cond.methodLink RX4 66 yX1_isCondition, Cond.methodLink RX4 42 yX5_size, Cond.methodLink RX4 48 yX4_set, Cond.instanceMethod yX4_set, Cond.selects RX4 yX4_set yX4_set, Cond.code yX4_set cX4_set 6 none, Cond.methodLink RX4 52 yX4_markBlock, Cond.instanceMethod yX4_markBlock, Cond.selects RX4 yX4_markBlock yX4_markBlock, Cond.code yX4_markBlock cX4_markBlock 5 (some .int), Cond.classLink RX4 86 "InterlockTables$Row", Cond.methodLink RX4 70 yJ7_fill_d0a16, Cond.static yJ7_fill_d0a16, Cond.code yJ7_fill_d0a16 cJ7_fill_d0a16 5 none, Cond.methodLink RX4 80 yJx4a65c_get_915e3]
def wsL_law_r28 : List Cond := [Cond.methodLink RX4 88 yX5_valueOf, Cond.methodLink RX4 92 yX4_cover, Cond.instanceMethod yX4_cover, Cond.selects RX4 yX4_cover yX4_cover, Cond.code yX4_cover cX4_cover 7 (some .boolean), Cond.constantLong RX4 106 (-1), Cond.methodLink RX4 103 yX3_actAt, Cond.instanceMethod yX3_actAt, Cond.selects RX3 yX3_actAt yX3_actAt, Cond.code yX3_actAt cX3_actAt 2 (some .int), Cond.methodLink RL 53 yX9_test, Cond.instanceMethod yX9_test, Cond.selects RX9 yX9_test yX9_test, Cond.code yX9_test cX9_test 4 (some .int), Cond.methodLink RX9 202 yX9_testAll, Cond.instanceMethod yX9_testAll, Cond.selects RX9 yX9_testAll yX9_testAll, Cond.code yX9_testAll cX9_testAll 7 none, Cond.methodLink RX9 196 arraycopyName, Cond.constantLong RX9 186 (-1), Cond.methodLink RX9 188 yX9_table, Cond.instanceMethod yX9_table, Cond.selects RX9 yX9_table yX9_table, Cond.code yX9_table cX9_table 9 none]
def wsL_law_r29 : List Cond := [Cond.methodLink RX9 192 yX9_bits, Cond.static yX9_bits, Cond.code yX9_bits cX9_bits 2 (some .long), Cond.constantLong RX9 174 (-6148914691236517206), Cond.constantLong RX9 176 (-3689348814741910324), Cond.constantLong RX9 178 (-1085102592571150096), Cond.constantLong RX9 180 (-71777214294589696), Cond.constantLong RX9 182 (-281470681808896), Cond.constantLong RX9 184 (-4294967296), Cond.methodLink RL 54 yX8_row, Cond.instanceMethod yX8_row, Cond.selects RX8 yX8_row yX8_row, Cond.code yX8_row cX8_row 4 (some .int), Cond.methodLink RX8 113 yX8_oneIf, Cond.static yX8_oneIf, Cond.code yX8_oneIf cX8_oneIf 1 (some .int), Cond.methodLink RL 58 yX9_row, Cond.instanceMethod yX9_row, Cond.selects RX9 yX9_row yX9_row, Cond.code yX9_row cX9_row 4 (some .int), Cond.methodLink RL 59 yX8_write, Cond.instanceMethod yX8_write, Cond.selects RX8 yX8_write yX8_write, Cond.code yX8_write cX8_write 2 (some .int)]
def wsL_law_r30 : List Cond := [Cond.methodLink RX8 122 yX5_written, Cond.instanceMethod yX5_written, Cond.selects RX5 yX5_written yX5_written, Cond.code yX5_written cX5_written 3 (some (.object "InterlockTables$Bytes")), Cond.fieldLink RX5 89 "InterlockTables$Table" "written" "LInterlockTables$Bytes;", Cond.classLink RX5 93 RX7, Cond.instantiable RX7 3, Cond.initialized RX7, Cond.methodLink RX5 95 yX7_init, Cond.instanceMethod yX7_init, Cond.code yX7_init cX7_init 2 none, Cond.methodLink RX7 3 objectInit, Cond.classLink RX7 9 RX0, Cond.fieldLink RX7 14 "InterlockTables$Writer" "out" "LInterlockTables$Bytes;", Cond.fieldLink RX7 20 "InterlockTables$Writer" "expressions" "LInterlockTables$Expressions;", Cond.methodLink RX7 11 yX0_init, Cond.methodLink RX5 98 yX7_putRow, Cond.instanceMethod yX7_putRow, Cond.selects RX7 yX7_putRow yX7_putRow, Cond.code yX7_putRow cX7_putRow 3 none, Cond.fieldLink RX7 74 "InterlockTables$Writer" "blankDue" "Z", Cond.methodLink RX7 26 yX7_putWord, Cond.instanceMethod yX7_putWord, Cond.selects RX7 yX7_putWord yX7_putWord]
def wsL_law_r31 : List Cond := [Cond.code yX7_putWord cX7_putWord 3 none, Cond.methodLink RX7 70 yX0_add, Cond.methodLink RX7 101 yJ0_length_8abf5, Cond.methodLink RX7 107 yJ0_charAt_5068e, Cond.methodLink RX7 38 yX3_actAt, Cond.methodLink RX7 42 yX7_putDigits, Cond.instanceMethod yX7_putDigits, Cond.selects RX7 yX7_putDigits yX7_putDigits, Cond.code yX7_putDigits cX7_putDigits 3 none, Cond.methodLink RX7 50 yX7_putExpression, Cond.instanceMethod yX7_putExpression, Cond.selects RX7 yX7_putExpression yX7_putExpression, Cond.code yX7_putExpression cX7_putExpression 7 none, Cond.methodLink RX7 79 yX1_at, Cond.methodLink RX7 86 yX7_isJoin, Cond.instanceMethod yX7_isJoin, Cond.selects RX7 yX7_isJoin yX7_isJoin, Cond.code yX7_isJoin cX7_isJoin 2 (some .boolean), Cond.methodLink RX7 92 yX7_isOr, Cond.instanceMethod yX7_isOr, Cond.selects RX7 yX7_isOr yX7_isOr, Cond.code yX7_isOr cX7_isOr 2 (some .boolean), Cond.methodLink RX7 89 yX1_leftOf, Cond.instanceMethod yX1_leftOf]
def wsL_law_r32 : List Cond := [Cond.selects RX1 yX1_leftOf yX1_leftOf, Cond.code yX1_leftOf cX1_leftOf 4 (some .int), Cond.methodLink RX8 126 yX0_at, Cond.methodLink RL 62 yX9_write, Cond.instanceMethod yX9_write, Cond.selects RX9 yX9_write yX9_write, Cond.code yX9_write cX9_write 5 (some .int), Cond.fieldLink RX9 205 "InterlockTablesModel" "length" "I", Cond.constantLong RX9 230 (7496034), Cond.constantLong RX9 232 (24864), Cond.constantLong RX9 234 (35658519836448), Cond.constantLong RX9 236 (139358856736), Cond.constantLong RX9 238 (28543749011368992), Cond.methodLink RX9 219 yX9_say8, Cond.instanceMethod yX9_say8, Cond.selects RX9 yX9_say8 yX9_say8, Cond.code yX9_say8 cX9_say8 5 none, Cond.constantLong RX9 208 (255), Cond.methodLink RX9 210 yX9_say, Cond.instanceMethod yX9_say, Cond.selects RX9 yX9_say yX9_say, Cond.code yX9_say cX9_say 3 none, Cond.methodLink RX9 214 yX9_sayNumber, Cond.instanceMethod yX9_sayNumber]
def wsL_law_r33 : List Cond := [Cond.selects RX9 yX9_sayNumber yX9_sayNumber, Cond.code yX9_sayNumber cX9_sayNumber 4 none, Cond.methodLink RX9 223 yX9_sayNode, Cond.instanceMethod yX9_sayNode, Cond.selects RX9 yX9_sayNode yX9_sayNode, Cond.code yX9_sayNode cX9_sayNode 5 none, Cond.constantLong RX9 217 (544501614), Cond.constantLong RX9 226 (139123908896), Cond.constantLong RX9 228 (544370464), Cond.methodLink RL 63 yX8_clear, Cond.instanceMethod yX8_clear, Cond.selects RX8 yX8_clear yX8_clear, Cond.code yX8_clear cX8_clear 1 none, Cond.methodLink RL 66 yX9_clear, Cond.instanceMethod yX9_clear, Cond.selects RX9 yX9_clear yX9_clear, Cond.code yX9_clear cX9_clear 1 none]
def wsL_law : List Cond := (wsL_law_r1 ++ (wsL_law_r2 ++ (wsL_law_r3 ++ (wsL_law_r4 ++ (wsL_law_r5 ++ (wsL_law_r6 ++ (wsL_law_r7 ++ (wsL_law_r8 ++ (wsL_law_r9 ++ (wsL_law_r10 ++ (wsL_law_r11 ++ (wsL_law_r12 ++ (wsL_law_r13 ++ (wsL_law_r14 ++ (wsL_law_r15 ++ (wsL_law_r16 ++ (wsL_law_r17 ++ (wsL_law_r18 ++ (wsL_law_r19 ++ (wsL_law_r20 ++ (wsL_law_r21 ++ (wsL_law_r22 ++ (wsL_law_r23 ++ (wsL_law_r24 ++ (wsL_law_r25 ++ (wsL_law_r26 ++ (wsL_law_r27 ++ (wsL_law_r28 ++ (wsL_law_r29 ++ (wsL_law_r30 ++ (wsL_law_r31 ++ (wsL_law_r32 ++ wsL_law_r33)))))))))))))))))))))))))))))))) ++ wsX80 ++ wsX90 ++ wsX00 ++ wsX50 ++ wsJx4a65c0 ++ wsX10 ++ wsX60 ++ wsX20 ++ wsX30 ++ wsX40 ++ wsX70 ++ ([] : List Cond)
abbrev vwCl : List vw_C := [(RJx4a65c, TJx4a65c, 3), (RX0, TX0, 3), (RX1, TX1, 3), (RX2, TX2, 3), (RX3, TX3, 13), (RX4, TX4, 5), (RX5, TX5, 4), (RX6, TX6, 5), (RX7, TX7, 3), (RX8, TX8, 3), (RX9, TX9, 32)]
end
section
theorem tb_in {ws : List Cond} (ps : List Nat) (h : ws = ps.filterMap (fun i => lw_tbl[i]?)) : ∀ w ∈ ws, w ∈ lw_tbl := by
  intro w hw
  rw [h] at hw
  obtain ⟨i, -, hi⟩ := List.mem_filterMap.mp hw
  exact List.mem_of_getElem? hi
theorem tb_app {a b : List Cond} (ha : ∀ w ∈ a, w ∈ lw_tbl) (hb : ∀ w ∈ b, w ∈ lw_tbl) : ∀ w ∈ a ++ b, w ∈ lw_tbl := fun w h => (List.mem_append.mp h).elim (ha w) (hb w)
set_option maxRecDepth 20000 in
theorem wlr1 : ∀ w ∈ wsL_law_r1, w ∈ lw_tbl := tb_in [72, 73, 50, 797, 798, 58, 74, 75, 76, 77, 78, 79, 80, 81, 51, 166, 129, 167, 97, 98, 52, 168, 82, 83] (by decide +kernel)
set_option maxRecDepth 20000 in
theorem wlr2 : ∀ w ∈ wsL_law_r2, w ∈ lw_tbl := tb_in [84, 85, 86, 96, 87, 88, 99, 100, 101, 102, 103, 104, 55, 149, 130, 131, 56, 153, 105, 106, 107, 115, 117, 108] (by decide +kernel)
set_option maxRecDepth 20000 in
theorem wlr3 : ∀ w ∈ wsL_law_r3, w ∈ lw_tbl := tb_in [109, 54, 110, 119, 111, 112, 53, 113, 114, 132, 133, 134, 135, 141, 136, 137, 57, 138, 139, 799, 800, 801, 802, 805] (by decide +kernel)
set_option maxRecDepth 20000 in
theorem wlr4 : ∀ w ∈ wsL_law_r4, w ∈ lw_tbl := tb_in [425, 807, 808, 813, 814, 815, 819, 820, 821, 822, 902, 823, 824, 826, 827, 828, 803, 830, 804, 831, 832, 834, 835, 176] (by decide +kernel)
set_option maxRecDepth 20000 in
theorem wlr5 : ∀ w ∈ wsL_law_r5, w ∈ lw_tbl := tb_in [177, 178, 179, 180, 181, 182, 183, 184, 185, 59, 186, 187, 188, 189, 190, 191, 193, 194, 195, 196, 197, 199, 198, 60] (by decide +kernel)
set_option maxRecDepth 20000 in
theorem wlr6 : ∀ w ∈ wsL_law_r6, w ∈ lw_tbl := tb_in [903, 904, 905, 906, 806, 200, 201, 202, 203, 204, 205, 61, 331, 332, 66, 206, 207, 208, 209, 210, 211, 212, 213, 214] (by decide +kernel)
set_option maxRecDepth 20000 in
theorem wlr7 : ∀ w ∈ wsL_law_r7, w ∈ lw_tbl := tb_in [215, 231, 216, 232, 233, 234, 235, 236, 237, 238, 239, 240, 241, 242, 243, 244, 245, 246, 247, 249, 0, 250, 219, 251] (by decide +kernel)
set_option maxRecDepth 20000 in
theorem wlr8 : ∀ w ∈ wsL_law_r8, w ∈ lw_tbl := tb_in [252, 253, 255, 256, 257, 258, 259, 260, 62, 261, 1083, 262, 263, 264, 265, 266, 1084, 268, 269, 270, 271, 272, 273, 274] (by decide +kernel)
set_option maxRecDepth 20000 in
theorem wlr9 : ∀ w ∈ wsL_law_r9, w ∈ lw_tbl := tb_in [275, 276, 277, 63, 278, 279, 280, 281, 282, 284, 285, 64, 286, 287, 288, 65, 289, 290, 291, 292, 293, 294, 295, 296] (by decide +kernel)
set_option maxRecDepth 20000 in
theorem wlr10 : ∀ w ∈ wsL_law_r10, w ∈ lw_tbl := tb_in [297, 298, 299, 300, 302, 304, 312, 314, 1, 315, 316, 317, 318, 319, 321, 2, 322, 217, 323, 324, 325, 326, 327, 328] (by decide +kernel)
set_option maxRecDepth 20000 in
theorem wlr11 : ∀ w ∈ wsL_law_r11, w ∈ lw_tbl := tb_in [329, 330, 333, 334, 335, 336, 337, 338, 339, 347, 348, 349, 350, 351, 352, 353, 354, 218, 355, 357, 3, 358, 359, 360] (by decide +kernel)
set_option maxRecDepth 20000 in
theorem wlr12 : ∀ w ∈ wsL_law_r12, w ∈ lw_tbl := tb_in [67, 362, 363, 364, 365, 426, 428, 4, 429, 430, 431, 432, 433, 434, 436, 5, 437, 438, 439, 440, 441, 442, 443, 444] (by decide +kernel)
set_option maxRecDepth 20000 in
theorem wlr13 : ∀ w ∈ wsL_law_r13, w ∈ lw_tbl := tb_in [445, 367, 371, 446, 447, 448, 449, 450, 451, 452, 453, 140, 454, 456, 6, 457, 458, 460, 7, 474, 475, 476, 477, 461] (by decide +kernel)
set_option maxRecDepth 20000 in
theorem wlr14 : ∀ w ∈ wsL_law_r14, w ∈ lw_tbl := tb_in [462, 464, 8, 469, 465, 466, 468, 9, 470, 472, 10, 473, 478, 480, 11, 481, 482, 483, 484, 485, 120, 121, 118, 486] (by decide +kernel)
set_option maxRecDepth 20000 in
theorem wlr15 : ∀ w ∈ wsL_law_r15, w ∈ lw_tbl := tb_in [488, 12, 489, 490, 492, 13, 493, 494, 496, 14, 497, 530, 531, 498, 499, 68, 500, 501, 502, 503, 504, 505, 506, 507] (by decide +kernel)
set_option maxRecDepth 20000 in
theorem wlr16 : ∀ w ∈ wsL_law_r16, w ∈ lw_tbl := tb_in [508, 509, 1070, 510, 523, 524, 525, 526, 527, 529, 532, 533, 534, 535, 536, 537, 538, 539, 540, 541, 542, 543, 907, 908] (by decide +kernel)
set_option maxRecDepth 20000 in
theorem wlr17 : ∀ w ∈ wsL_law_r17, w ∈ lw_tbl := tb_in [909, 910, 810, 816, 818, 809, 817, 825, 833, 911, 913, 26, 914, 915, 916, 917, 918, 920, 27, 921, 922, 924, 28, 925] (by decide +kernel)
set_option maxRecDepth 20000 in
theorem wlr18 : ∀ w ∈ wsL_law_r18, w ∈ lw_tbl := tb_in [926, 928, 29, 929, 930, 932, 30, 933, 811, 812, 934, 936, 31, 937, 938, 940, 32, 941, 942, 944, 33, 945, 946, 948] (by decide +kernel)
set_option maxRecDepth 20000 in
theorem wlr19 : ∀ w ∈ wsL_law_r19, w ∈ lw_tbl := tb_in [34, 958, 960, 37, 961, 949, 950, 952, 35, 953, 954, 956, 36, 957, 962, 964, 38, 965, 544, 545, 546, 547, 548, 966] (by decide +kernel)
set_option maxRecDepth 20000 in
theorem wlr20 : ∀ w ∈ wsL_law_r20, w ∈ lw_tbl := tb_in [967, 968, 969, 829, 549, 550, 551, 552, 553, 554, 555, 556, 557, 570, 558, 559, 560, 561, 562, 563, 69, 564, 565, 566] (by decide +kernel)
set_option maxRecDepth 20000 in
theorem wlr21 : ∀ w ∈ wsL_law_r21, w ∈ lw_tbl := tb_in [567, 568, 569, 571, 572, 573, 574, 575, 576, 577, 578, 579, 580, 581, 582, 590, 583, 584, 585, 586, 587, 588, 589, 591] (by decide +kernel)
set_option maxRecDepth 20000 in
theorem wlr22 : ∀ w ∈ wsL_law_r22, w ∈ lw_tbl := tb_in [592, 593, 594, 595, 596, 597, 393, 598, 599, 389, 600, 387, 391, 601, 603, 15, 604, 382, 970, 971, 972, 973, 974, 983] (by decide +kernel)
set_option maxRecDepth 20000 in
theorem wlr23 : ∀ w ∈ wsL_law_r23, w ∈ lw_tbl := tb_in [975, 977, 39, 978, 979, 981, 40, 982, 605, 606, 607, 608, 609, 610, 611, 612, 613, 614, 615, 616, 617, 984, 985, 986] (by decide +kernel)
set_option maxRecDepth 20000 in
theorem wlr24 : ∀ w ∈ wsL_law_r24, w ∈ lw_tbl := tb_in [987, 988, 990, 41, 991, 618, 619, 620, 621, 622, 623, 624, 625, 626, 627, 628, 992, 993, 994, 995, 996, 998, 42, 999] (by decide +kernel)
set_option maxRecDepth 20000 in
theorem wlr25 : ∀ w ∈ wsL_law_r25, w ∈ lw_tbl := tb_in [629, 630, 631, 632, 633, 634, 635, 636, 637, 639, 16, 640, 1000, 1001, 1002, 1003, 641, 642, 643, 644, 645, 1004, 1005, 1006] (by decide +kernel)
set_option maxRecDepth 20000 in
theorem wlr26 : ∀ w ∈ wsL_law_r26, w ∈ lw_tbl := tb_in [1007, 646, 647, 648, 649, 650, 651, 652, 653, 156, 654, 655, 70, 656, 657, 658, 659, 661, 663, 664, 660, 676, 677, 678] (by decide +kernel)
set_option maxRecDepth 20000 in
theorem wlr27 : ∀ w ∈ wsL_law_r27, w ∈ lw_tbl := tb_in [679, 662, 689, 680, 682, 17, 683, 684, 685, 686, 690, 691, 693, 18, 694, 695, 697, 19, 698, 703, 699, 700, 701, 702] (by decide +kernel)
set_option maxRecDepth 20000 in
theorem wlr28 : ∀ w ∈ wsL_law_r28, w ∈ lw_tbl := tb_in [704, 705, 707, 20, 708, 713, 709, 710, 711, 712, 1008, 1009, 1010, 1011, 1012, 1014, 43, 1015, 1030, 1020, 1016, 1018, 44, 1019] (by decide +kernel)
set_option maxRecDepth 20000 in
theorem wlr29 : ∀ w ∈ wsL_law_r29, w ∈ lw_tbl := tb_in [1021, 1022, 1023, 1024, 1025, 1026, 1027, 1028, 1029, 714, 715, 716, 717, 718, 719, 720, 1031, 1032, 1033, 1034, 721, 722, 723, 724] (by decide +kernel)
set_option maxRecDepth 20000 in
theorem wlr30 : ∀ w ∈ wsL_law_r30, w ∈ lw_tbl := tb_in [725, 726, 727, 728, 155, 729, 730, 71, 731, 732, 733, 734, 735, 738, 737, 736, 748, 749, 750, 751, 740, 753, 755, 21] (by decide +kernel)
set_option maxRecDepth 20000 in
theorem wlr31 : ∀ w ∈ wsL_law_r31, w ∈ lw_tbl := tb_in [756, 757, 758, 759, 761, 762, 764, 22, 765, 767, 769, 23, 770, 772, 774, 776, 24, 777, 778, 780, 25, 781, 782, 783] (by decide +kernel)
set_option maxRecDepth 20000 in
theorem wlr32 : ∀ w ∈ wsL_law_r32, w ∈ lw_tbl := tb_in [784, 785, 792, 1035, 1036, 1037, 1038, 836, 1039, 1049, 1054, 1062, 1063, 1040, 1042, 45, 1043, 1044, 1045, 1047, 46, 1048, 1050, 1052] (by decide +kernel)
set_option maxRecDepth 20000 in
theorem wlr33 : ∀ w ∈ wsL_law_r33, w ∈ lw_tbl := tb_in [47, 1053, 1055, 1057, 48, 1058, 1059, 1060, 1061, 793, 794, 795, 796, 1064, 1065, 1066, 1067] (by decide +kernel)
set_option maxRecDepth 20000 in
theorem wlcX8 : ∀ w ∈ wsX80, w ∈ lw_tbl := tb_in [169, 171, 173] (by decide +kernel)
set_option maxRecDepth 20000 in
theorem wlcX9 : ∀ w ∈ wsX90, w ∈ lw_tbl := tb_in [837, 839, 841, 843, 845, 847, 849, 851, 853, 855, 857, 859, 861, 863, 865, 867, 869, 871, 873, 875, 877, 879, 881, 883, 885, 887, 889, 891, 893, 895, 897, 899] (by decide +kernel)
set_option maxRecDepth 20000 in
theorem wlcX0 : ∀ w ∈ wsX00, w ∈ lw_tbl := tb_in [89, 91, 93] (by decide +kernel)
set_option maxRecDepth 20000 in
theorem wlcX5 : ∀ w ∈ wsX50, w ∈ lw_tbl := tb_in [157, 159, 161, 163] (by decide +kernel)
set_option maxRecDepth 20000 in
theorem wlcJx4a65c : ∀ w ∈ wsJx4a65c0, w ∈ lw_tbl := tb_in [126, 122, 124] (by decide +kernel)
set_option maxRecDepth 20000 in
theorem wlcX1 : ∀ w ∈ wsX10, w ∈ lw_tbl := tb_in [142, 144, 146] (by decide +kernel)
set_option maxRecDepth 20000 in
theorem wlcX6 : ∀ w ∈ wsX60, w ∈ lw_tbl := tb_in [220, 222, 224, 226, 228] (by decide +kernel)
set_option maxRecDepth 20000 in
theorem wlcX2 : ∀ w ∈ wsX20, w ∈ lw_tbl := tb_in [340, 342, 344] (by decide +kernel)
set_option maxRecDepth 20000 in
theorem wlcX3 : ∀ w ∈ wsX30, w ∈ lw_tbl := tb_in [398, 400, 402, 404, 406, 408, 410, 412, 414, 416, 418, 420, 422] (by decide +kernel)
set_option maxRecDepth 20000 in
theorem wlcX4 : ∀ w ∈ wsX40, w ∈ lw_tbl := tb_in [665, 667, 669, 671, 673] (by decide +kernel)
set_option maxRecDepth 20000 in
theorem wlcX7 : ∀ w ∈ wsX70, w ∈ lw_tbl := tb_in [741, 743, 745] (by decide +kernel)
theorem wsL_law_in : ∀ w ∈ wsL_law, w ∈ lw_tbl := tb_app (tb_app (tb_app (tb_app (tb_app (tb_app (tb_app (tb_app (tb_app (tb_app (tb_app (tb_app (tb_app wlr1 (tb_app wlr2 (tb_app wlr3 (tb_app wlr4 (tb_app wlr5 (tb_app wlr6 (tb_app wlr7 (tb_app wlr8 (tb_app wlr9 (tb_app wlr10 (tb_app wlr11 (tb_app wlr12 (tb_app wlr13 (tb_app wlr14 (tb_app wlr15 (tb_app wlr16 (tb_app wlr17 (tb_app wlr18 (tb_app wlr19 (tb_app wlr20 (tb_app wlr21 (tb_app wlr22 (tb_app wlr23 (tb_app wlr24 (tb_app wlr25 (tb_app wlr26 (tb_app wlr27 (tb_app wlr28 (tb_app wlr29 (tb_app wlr30 (tb_app wlr31 (tb_app wlr32 (wlr33))))))))))))))))))))))))))))))))) wlcX8) wlcX9) wlcX0) wlcX5) wlcJx4a65c) wlcX1) wlcX6) wlcX2) wlcX3) wlcX4) wlcX7) (fun _ h => absurd h List.not_mem_nil)
theorem inlX0 : ∀ w ∈ wsX00, w ∈ wsL_law := fun _ h => List.mem_append_left _ (List.mem_append_left _ (List.mem_append_left _ (List.mem_append_left _ (List.mem_append_left _ (List.mem_append_left _ (List.mem_append_left _ (List.mem_append_left _ (List.mem_append_left _ (List.mem_append_right _ h)))))))))
theorem inX0 : ∀ w ∈ wsX00, w ∈ lw_tbl := fun w h => wsL_law_in w (inlX0 w h)
theorem inlX1 : ∀ w ∈ wsX10, w ∈ wsL_law := fun _ h => List.mem_append_left _ (List.mem_append_left _ (List.mem_append_left _ (List.mem_append_left _ (List.mem_append_left _ (List.mem_append_left _ (List.mem_append_right _ h))))))
theorem inX1 : ∀ w ∈ wsX10, w ∈ lw_tbl := fun w h => wsL_law_in w (inlX1 w h)
theorem inlX2 : ∀ w ∈ wsX20, w ∈ wsL_law := fun _ h => List.mem_append_left _ (List.mem_append_left _ (List.mem_append_left _ (List.mem_append_left _ (List.mem_append_right _ h))))
theorem inX2 : ∀ w ∈ wsX20, w ∈ lw_tbl := fun w h => wsL_law_in w (inlX2 w h)
theorem inlX3 : ∀ w ∈ wsX30, w ∈ wsL_law := fun _ h => List.mem_append_left _ (List.mem_append_left _ (List.mem_append_left _ (List.mem_append_right _ h)))
theorem inX3 : ∀ w ∈ wsX30, w ∈ lw_tbl := fun w h => wsL_law_in w (inlX3 w h)
theorem inlX4 : ∀ w ∈ wsX40, w ∈ wsL_law := fun _ h => List.mem_append_left _ (List.mem_append_left _ (List.mem_append_right _ h))
theorem inX4 : ∀ w ∈ wsX40, w ∈ lw_tbl := fun w h => wsL_law_in w (inlX4 w h)
theorem inlX5 : ∀ w ∈ wsX50, w ∈ wsL_law := fun _ h => List.mem_append_left _ (List.mem_append_left _ (List.mem_append_left _ (List.mem_append_left _ (List.mem_append_left _ (List.mem_append_left _ (List.mem_append_left _ (List.mem_append_left _ (List.mem_append_right _ h))))))))
theorem inX5 : ∀ w ∈ wsX50, w ∈ lw_tbl := fun w h => wsL_law_in w (inlX5 w h)
theorem inlX6 : ∀ w ∈ wsX60, w ∈ wsL_law := fun _ h => List.mem_append_left _ (List.mem_append_left _ (List.mem_append_left _ (List.mem_append_left _ (List.mem_append_left _ (List.mem_append_right _ h)))))
theorem inX6 : ∀ w ∈ wsX60, w ∈ lw_tbl := fun w h => wsL_law_in w (inlX6 w h)
theorem inlX7 : ∀ w ∈ wsX70, w ∈ wsL_law := fun _ h => List.mem_append_left _ (List.mem_append_right _ h)
theorem inX7 : ∀ w ∈ wsX70, w ∈ lw_tbl := fun w h => wsL_law_in w (inlX7 w h)
theorem inlX8 : ∀ w ∈ wsX80, w ∈ wsL_law := fun _ h => List.mem_append_left _ (List.mem_append_left _ (List.mem_append_left _ (List.mem_append_left _ (List.mem_append_left _ (List.mem_append_left _ (List.mem_append_left _ (List.mem_append_left _ (List.mem_append_left _ (List.mem_append_left _ (List.mem_append_left _ (List.mem_append_right _ h)))))))))))
theorem inX8 : ∀ w ∈ wsX80, w ∈ lw_tbl := fun w h => wsL_law_in w (inlX8 w h)
theorem inlX9 : ∀ w ∈ wsX90, w ∈ wsL_law := fun _ h => List.mem_append_left _ (List.mem_append_left _ (List.mem_append_left _ (List.mem_append_left _ (List.mem_append_left _ (List.mem_append_left _ (List.mem_append_left _ (List.mem_append_left _ (List.mem_append_left _ (List.mem_append_left _ (List.mem_append_right _ h))))))))))
theorem inX9 : ∀ w ∈ wsX90, w ∈ lw_tbl := fun w h => wsL_law_in w (inlX9 w h)
theorem inJx145de : ∀ w ∈ wsJx145de0, w ∈ lw_tbl := by decide +kernel
theorem inJx8e188 : ∀ w ∈ wsJx8e1880, w ∈ lw_tbl := by decide +kernel
theorem inJxab1ab : ∀ w ∈ wsJxab1ab0, w ∈ lw_tbl := by decide +kernel
theorem inJ9 : ∀ w ∈ wsJ90, w ∈ lw_tbl := by decide +kernel
theorem inJ0 : ∀ w ∈ wsJ00, w ∈ lw_tbl := by decide +kernel
theorem inJ1 : ∀ w ∈ wsJ10, w ∈ lw_tbl := by decide +kernel
theorem inJ2 : ∀ w ∈ wsJ20, w ∈ lw_tbl := by decide +kernel
theorem inJ10 : ∀ w ∈ wsJ100, w ∈ lw_tbl := by decide +kernel
theorem inJxa1e45 : ∀ w ∈ wsJxa1e450, w ∈ lw_tbl := by decide +kernel
theorem inJxc12de : ∀ w ∈ wsJxc12de0, w ∈ lw_tbl := by decide +kernel
theorem inlJx4a65c : ∀ w ∈ wsJx4a65c0, w ∈ wsL_law := fun _ h => List.mem_append_left _ (List.mem_append_left _ (List.mem_append_left _ (List.mem_append_left _ (List.mem_append_left _ (List.mem_append_left _ (List.mem_append_left _ (List.mem_append_right _ h)))))))
theorem inJx4a65c : ∀ w ∈ wsJx4a65c0, w ∈ lw_tbl := fun w h => wsL_law_in w (inlJx4a65c w h)
theorem inJ7 : ∀ w ∈ wsJ70, w ∈ lw_tbl := by decide +kernel
theorem inJx5ef63 : ∀ w ∈ wsJx5ef630, w ∈ lw_tbl := by decide +kernel
theorem inJxbd725 : ∀ w ∈ wsJxbd7250, w ∈ lw_tbl := by decide +kernel
theorem inJ15 : ∀ w ∈ wsJ150, w ∈ lw_tbl := by decide +kernel
theorem inJxf0a74 : ∀ w ∈ wsJxf0a740, w ∈ lw_tbl := by decide +kernel
theorem inJxa66e6 : ∀ w ∈ wsJxa66e60, w ∈ lw_tbl := by decide +kernel
theorem inJ8 : ∀ w ∈ wsJ80, w ∈ lw_tbl := by decide +kernel
theorem inJ3 : ∀ w ∈ wsJ30, w ∈ lw_tbl := by decide +kernel
end
section
theorem dX0_init_0 : decode cX0_init 0 = .ok (.aload_n 0, 1) := by decide +kernel
theorem dX0_init_1 : decode cX0_init 1 = .ok (.invokespecial 3, 3) := by decide +kernel
theorem dX0_init_4 : decode cX0_init 4 = .ok (.aload_n 0, 1) := by decide +kernel
theorem dX0_init_5 : decode cX0_init 5 = .ok (.iload_n 1, 1) := by decide +kernel
theorem dX0_init_6 : decode cX0_init 6 = .ok (.putfield 9, 3) := by decide +kernel
theorem dX0_init_9 : decode cX0_init 9 = .ok (.aload_n 0, 1) := by decide +kernel
theorem dX0_init_10 : decode cX0_init 10 = .ok (.bipush 64, 2) := by decide +kernel
theorem dX0_init_12 : decode cX0_init 12 = .ok (.newarray .byte, 2) := by decide +kernel
theorem dX0_init_14 : decode cX0_init 14 = .ok (.putfield 15, 3) := by decide +kernel
theorem dX0_init_17 : decode cX0_init 17 = .ok (.aload_n 0, 1) := by decide +kernel
theorem dX0_init_18 : decode cX0_init 18 = .ok (.iconst 0, 1) := by decide +kernel
theorem dX0_init_19 : decode cX0_init 19 = .ok (.putfield 19, 3) := by decide +kernel
theorem dX0_init_22 : decode cX0_init 22 = .ok (.return_, 1) := by decide +kernel
set_option maxRecDepth 20000 in
theorem ggX0_add_J7_copyOf_9075b : GoodIn wsX0_add wsJ7_copyOf_9075b := goodIn_r _ [7, 8, 9, 10, 11, 12, 13, 14, 15, 16, 17, 18, 19, 20, 21, 22] (by decide +kernel) (by decide +kernel)
set_option maxRecDepth 20000 in
theorem gX0_add_J7_copyOf_9075b : GoodIn wsX0_add (va_wsS RX0 22 yJ7_copyOf_9075b wsJ7_copyOf_9075b) := goodIn_app (goodIn_of _ (by decide +kernel)) ggX0_add_J7_copyOf_9075b
theorem dX0_add_0 : decode cX0_add 0 = .ok (.aload_n 0, 1) := by decide +kernel
theorem dX0_add_1 : decode cX0_add 1 = .ok (.getfield 19, 3) := by decide +kernel
theorem dX0_add_4 : decode cX0_add 4 = .ok (.aload_n 0, 1) := by decide +kernel
theorem dX0_add_5 : decode cX0_add 5 = .ok (.getfield 9, 3) := by decide +kernel
theorem dX0_add_8 : decode cX0_add 8 = .ok (.if_icmp .lt 5, 3) := by decide +kernel
theorem dX0_add_11 : decode cX0_add 11 = .ok (.iconst 0, 1) := by decide +kernel
theorem dX0_add_12 : decode cX0_add 12 = .ok (.ireturn, 1) := by decide +kernel
theorem dX0_add_13 : decode cX0_add 13 = .ok (.aload_n 0, 1) := by decide +kernel
theorem dX0_add_14 : decode cX0_add 14 = .ok (.getfield 19, 3) := by decide +kernel
theorem dX0_add_17 : decode cX0_add 17 = .ok (.aload_n 0, 1) := by decide +kernel
theorem dX0_add_18 : decode cX0_add 18 = .ok (.getfield 15, 3) := by decide +kernel
theorem dX0_add_21 : decode cX0_add 21 = .ok (.arraylength, 1) := by decide +kernel
theorem dX0_add_22 : decode cX0_add 22 = .ok (.if_icmp .lt 21, 3) := by decide +kernel
theorem dX0_add_25 : decode cX0_add 25 = .ok (.aload_n 0, 1) := by decide +kernel
theorem dX0_add_26 : decode cX0_add 26 = .ok (.aload_n 0, 1) := by decide +kernel
theorem dX0_add_27 : decode cX0_add 27 = .ok (.getfield 15, 3) := by decide +kernel
theorem dX0_add_30 : decode cX0_add 30 = .ok (.iconst 2, 1) := by decide +kernel
theorem dX0_add_31 : decode cX0_add 31 = .ok (.aload_n 0, 1) := by decide +kernel
theorem dX0_add_32 : decode cX0_add 32 = .ok (.getfield 15, 3) := by decide +kernel
theorem dX0_add_35 : decode cX0_add 35 = .ok (.arraylength, 1) := by decide +kernel
theorem dX0_add_36 : decode cX0_add 36 = .ok (.imul, 1) := by decide +kernel
theorem dX0_add_37 : decode cX0_add 37 = .ok (.invokestatic 22, 3) := by decide +kernel
theorem dX0_add_40 : decode cX0_add 40 = .ok (.putfield 15, 3) := by decide +kernel
theorem dX0_add_43 : decode cX0_add 43 = .ok (.aload_n 0, 1) := by decide +kernel
theorem dX0_add_44 : decode cX0_add 44 = .ok (.getfield 15, 3) := by decide +kernel
theorem dX0_add_47 : decode cX0_add 47 = .ok (.aload_n 0, 1) := by decide +kernel
theorem dX0_add_48 : decode cX0_add 48 = .ok (.getfield 19, 3) := by decide +kernel
theorem dX0_add_51 : decode cX0_add 51 = .ok (.iload_n 1, 1) := by decide +kernel
theorem dX0_add_52 : decode cX0_add 52 = .ok (.i2b, 1) := by decide +kernel
theorem dX0_add_53 : decode cX0_add 53 = .ok (.bastore, 1) := by decide +kernel
theorem dX0_add_54 : decode cX0_add 54 = .ok (.aload_n 0, 1) := by decide +kernel
theorem dX0_add_55 : decode cX0_add 55 = .ok (.dup, 1) := by decide +kernel
theorem dX0_add_56 : decode cX0_add 56 = .ok (.getfield 19, 3) := by decide +kernel
theorem dX0_add_59 : decode cX0_add 59 = .ok (.iconst 1, 1) := by decide +kernel
theorem dX0_add_60 : decode cX0_add 60 = .ok (.iadd, 1) := by decide +kernel
theorem dX0_add_61 : decode cX0_add 61 = .ok (.putfield 19, 3) := by decide +kernel
theorem dX0_add_64 : decode cX0_add 64 = .ok (.iconst 1, 1) := by decide +kernel
theorem dX0_add_65 : decode cX0_add 65 = .ok (.ireturn, 1) := by decide +kernel
theorem dX0_at_0 : decode cX0_at 0 = .ok (.iload_n 1, 1) := by decide +kernel
theorem dX0_at_1 : decode cX0_at 1 = .ok (.ifCond .lt 11, 3) := by decide +kernel
theorem dX0_at_4 : decode cX0_at 4 = .ok (.iload_n 1, 1) := by decide +kernel
theorem dX0_at_5 : decode cX0_at 5 = .ok (.aload_n 0, 1) := by decide +kernel
theorem dX0_at_6 : decode cX0_at 6 = .ok (.getfield 19, 3) := by decide +kernel
theorem dX0_at_9 : decode cX0_at 9 = .ok (.if_icmp .lt 7, 3) := by decide +kernel
theorem dX0_at_12 : decode cX0_at 12 = .ok (.iconst (-1), 1) := by decide +kernel
theorem dX0_at_13 : decode cX0_at 13 = .ok (.goto 9, 3) := by decide +kernel
theorem dX0_at_16 : decode cX0_at 16 = .ok (.aload_n 0, 1) := by decide +kernel
theorem dX0_at_17 : decode cX0_at 17 = .ok (.getfield 15, 3) := by decide +kernel
theorem dX0_at_20 : decode cX0_at 20 = .ok (.iload_n 1, 1) := by decide +kernel
theorem dX0_at_21 : decode cX0_at 21 = .ok (.baload, 1) := by decide +kernel
theorem dX0_at_22 : decode cX0_at 22 = .ok (.ireturn, 1) := by decide +kernel
theorem dX0_length_0 : decode cX0_length 0 = .ok (.aload_n 0, 1) := by decide +kernel
theorem dX0_length_1 : decode cX0_length 1 = .ok (.getfield 19, 3) := by decide +kernel
theorem dX0_length_4 : decode cX0_length 4 = .ok (.ireturn, 1) := by decide +kernel
theorem dX0_empty_0 : decode cX0_empty 0 = .ok (.aload_n 0, 1) := by decide +kernel
theorem dX0_empty_1 : decode cX0_empty 1 = .ok (.iconst 0, 1) := by decide +kernel
theorem dX0_empty_2 : decode cX0_empty 2 = .ok (.putfield 19, 3) := by decide +kernel
theorem dX0_empty_5 : decode cX0_empty 5 = .ok (.return_, 1) := by decide +kernel
theorem dX1_init_0 : decode cX1_init 0 = .ok (.aload_n 0, 1) := by decide +kernel
theorem dX1_init_1 : decode cX1_init 1 = .ok (.invokespecial 3, 3) := by decide +kernel
theorem dX1_init_4 : decode cX1_init 4 = .ok (.aload_n 0, 1) := by decide +kernel
theorem dX1_init_5 : decode cX1_init 5 = .ok (.bipush 32, 2) := by decide +kernel
theorem dX1_init_7 : decode cX1_init 7 = .ok (.newarray .long, 2) := by decide +kernel
theorem dX1_init_9 : decode cX1_init 9 = .ok (.putfield 9, 3) := by decide +kernel
theorem dX1_init_12 : decode cX1_init 12 = .ok (.aload_n 0, 1) := by decide +kernel
theorem dX1_init_13 : decode cX1_init 13 = .ok (.iconst 0, 1) := by decide +kernel
theorem dX1_init_14 : decode cX1_init 14 = .ok (.iload_n 1, 1) := by decide +kernel
theorem dX1_init_15 : decode cX1_init 15 = .ok (.invokestatic 15, 3) := by decide +kernel
theorem dX1_init_18 : decode cX1_init 18 = .ok (.newarray .byte, 2) := by decide +kernel
theorem dX1_init_20 : decode cX1_init 20 = .ok (.putfield 21, 3) := by decide +kernel
theorem dX1_init_23 : decode cX1_init 23 = .ok (.return_, 1) := by decide +kernel
theorem dX1_size_0 : decode cX1_size 0 = .ok (.aload_n 0, 1) := by decide +kernel
theorem dX1_size_1 : decode cX1_size 1 = .ok (.getfield 25, 3) := by decide +kernel
theorem dX1_size_4 : decode cX1_size 4 = .ok (.ireturn, 1) := by decide +kernel
theorem dX1_at_0 : decode cX1_at 0 = .ok (.iload_n 1, 1) := by decide +kernel
theorem dX1_at_1 : decode cX1_at 1 = .ok (.ifCond .lt 11, 3) := by decide +kernel
theorem dX1_at_4 : decode cX1_at 4 = .ok (.iload_n 1, 1) := by decide +kernel
theorem dX1_at_5 : decode cX1_at 5 = .ok (.aload_n 0, 1) := by decide +kernel
theorem dX1_at_6 : decode cX1_at 6 = .ok (.getfield 25, 3) := by decide +kernel
theorem dX1_at_9 : decode cX1_at 9 = .ok (.if_icmp .lt 7, 3) := by decide +kernel
theorem dX1_at_12 : decode cX1_at 12 = .ok (.iconst (-1), 1) := by decide +kernel
theorem dX1_at_13 : decode cX1_at 13 = .ok (.goto 9, 3) := by decide +kernel
theorem dX1_at_16 : decode cX1_at 16 = .ok (.aload_n 0, 1) := by decide +kernel
theorem dX1_at_17 : decode cX1_at 17 = .ok (.getfield 21, 3) := by decide +kernel
theorem dX1_at_20 : decode cX1_at 20 = .ok (.iload_n 1, 1) := by decide +kernel
theorem dX1_at_21 : decode cX1_at 21 = .ok (.baload, 1) := by decide +kernel
theorem dX1_at_22 : decode cX1_at 22 = .ok (.ireturn, 1) := by decide +kernel
theorem dX1_add_0 : decode cX1_add 0 = .ok (.aload_n 0, 1) := by decide +kernel
theorem dX1_add_1 : decode cX1_add 1 = .ok (.getfield 25, 3) := by decide +kernel
theorem dX1_add_4 : decode cX1_add 4 = .ok (.aload_n 0, 1) := by decide +kernel
theorem dX1_add_5 : decode cX1_add 5 = .ok (.getfield 21, 3) := by decide +kernel
theorem dX1_add_8 : decode cX1_add 8 = .ok (.arraylength, 1) := by decide +kernel
theorem dX1_add_9 : decode cX1_add 9 = .ok (.if_icmp .ge 24, 3) := by decide +kernel
theorem dX1_add_12 : decode cX1_add 12 = .ok (.aload_n 0, 1) := by decide +kernel
theorem dX1_add_13 : decode cX1_add 13 = .ok (.getfield 21, 3) := by decide +kernel
theorem dX1_add_16 : decode cX1_add 16 = .ok (.aload_n 0, 1) := by decide +kernel
theorem dX1_add_17 : decode cX1_add 17 = .ok (.getfield 25, 3) := by decide +kernel
theorem dX1_add_20 : decode cX1_add 20 = .ok (.iload_n 1, 1) := by decide +kernel
theorem dX1_add_21 : decode cX1_add 21 = .ok (.i2b, 1) := by decide +kernel
theorem dX1_add_22 : decode cX1_add 22 = .ok (.bastore, 1) := by decide +kernel
theorem dX1_add_23 : decode cX1_add 23 = .ok (.aload_n 0, 1) := by decide +kernel
theorem dX1_add_24 : decode cX1_add 24 = .ok (.dup, 1) := by decide +kernel
theorem dX1_add_25 : decode cX1_add 25 = .ok (.getfield 25, 3) := by decide +kernel
theorem dX1_add_28 : decode cX1_add 28 = .ok (.iconst 1, 1) := by decide +kernel
theorem dX1_add_29 : decode cX1_add 29 = .ok (.iadd, 1) := by decide +kernel
theorem dX1_add_30 : decode cX1_add 30 = .ok (.putfield 25, 3) := by decide +kernel
theorem dX1_add_33 : decode cX1_add 33 = .ok (.return_, 1) := by decide +kernel
set_option maxRecDepth 20000 in
theorem ggX1_leftOf_X1_at : GoodIn wsX1_leftOf wsX1_at := goodIn_r _ [5, 6, 7, 11, 12, 13] (by decide +kernel) (by decide +kernel)
set_option maxRecDepth 20000 in
theorem gX1_leftOf_X1_at : GoodIn wsX1_leftOf (wsV RX1 29 RX1 yX1_at wsX1_at) := goodIn_app (goodIn_of _ (by decide +kernel)) ggX1_leftOf_X1_at
set_option maxRecDepth 20000 in
theorem ggX1_leftOf_X1_isCondition : GoodIn wsX1_leftOf wsX1_isCondition := goodIn_r _ [10] (by decide +kernel) (by decide +kernel)
set_option maxRecDepth 20000 in
theorem gX1_leftOf_X1_isCondition : GoodIn wsX1_leftOf (va_wsS RX1 33 yX1_isCondition wsX1_isCondition) := goodIn_app (goodIn_of _ (by decide +kernel)) ggX1_leftOf_X1_isCondition
theorem dX1_leftOf_0 : decode cX1_leftOf 0 = .ok (.iconst 1, 1) := by decide +kernel
theorem dX1_leftOf_1 : decode cX1_leftOf 1 = .ok (.istore_n 2, 1) := by decide +kernel
theorem dX1_leftOf_2 : decode cX1_leftOf 2 = .ok (.iload_n 1, 1) := by decide +kernel
theorem dX1_leftOf_3 : decode cX1_leftOf 3 = .ok (.iconst 1, 1) := by decide +kernel
theorem dX1_leftOf_4 : decode cX1_leftOf 4 = .ok (.isub, 1) := by decide +kernel
theorem dX1_leftOf_5 : decode cX1_leftOf 5 = .ok (.istore_n 3, 1) := by decide +kernel
theorem dX1_leftOf_6 : decode cX1_leftOf 6 = .ok (.iload_n 3, 1) := by decide +kernel
theorem dX1_leftOf_7 : decode cX1_leftOf 7 = .ok (.ifCond .lt 43, 3) := by decide +kernel
theorem dX1_leftOf_10 : decode cX1_leftOf 10 = .ok (.iload_n 2, 1) := by decide +kernel
theorem dX1_leftOf_11 : decode cX1_leftOf 11 = .ok (.ifCond .le 39, 3) := by decide +kernel
theorem dX1_leftOf_14 : decode cX1_leftOf 14 = .ok (.aload_n 0, 1) := by decide +kernel
theorem dX1_leftOf_15 : decode cX1_leftOf 15 = .ok (.iload_n 3, 1) := by decide +kernel
theorem dX1_leftOf_16 : decode cX1_leftOf 16 = .ok (.invokevirtual 29, 3) := by decide +kernel
theorem dX1_leftOf_19 : decode cX1_leftOf 19 = .ok (.invokestatic 33, 3) := by decide +kernel
theorem dX1_leftOf_22 : decode cX1_leftOf 22 = .ok (.ifCond .eq 9, 3) := by decide +kernel
theorem dX1_leftOf_25 : decode cX1_leftOf 25 = .ok (.iinc 2 (-1), 3) := by decide +kernel
theorem dX1_leftOf_28 : decode cX1_leftOf 28 = .ok (.goto 16, 3) := by decide +kernel
theorem dX1_leftOf_31 : decode cX1_leftOf 31 = .ok (.aload_n 0, 1) := by decide +kernel
theorem dX1_leftOf_32 : decode cX1_leftOf 32 = .ok (.iload_n 3, 1) := by decide +kernel
theorem dX1_leftOf_33 : decode cX1_leftOf 33 = .ok (.invokevirtual 29, 3) := by decide +kernel
theorem dX1_leftOf_36 : decode cX1_leftOf 36 = .ok (.bipush 16, 2) := by decide +kernel
theorem dX1_leftOf_38 : decode cX1_leftOf 38 = .ok (.if_icmp .eq 6, 3) := by decide +kernel
theorem dX1_leftOf_41 : decode cX1_leftOf 41 = .ok (.iinc 2 1, 3) := by decide +kernel
theorem dX1_leftOf_44 : decode cX1_leftOf 44 = .ok (.iinc 3 (-1), 3) := by decide +kernel
theorem dX1_leftOf_47 : decode cX1_leftOf 47 = .ok (.goto (-41), 3) := by decide +kernel
theorem dX1_leftOf_50 : decode cX1_leftOf 50 = .ok (.iload_n 3, 1) := by decide +kernel
theorem dX1_leftOf_51 : decode cX1_leftOf 51 = .ok (.ireturn, 1) := by decide +kernel
set_option maxRecDepth 20000 in
theorem ggX1_valueOf_X1_at : GoodIn wsX1_valueOf wsX1_at := goodIn_r _ [7, 8, 9, 16, 17, 18] (by decide +kernel) (by decide +kernel)
set_option maxRecDepth 20000 in
theorem gX1_valueOf_X1_at : GoodIn wsX1_valueOf (wsV RX1 29 RX1 yX1_at wsX1_at) := goodIn_app (goodIn_of _ (by decide +kernel)) ggX1_valueOf_X1_at
set_option maxRecDepth 20000 in
theorem ggX1_valueOf_X1_isCondition : GoodIn wsX1_valueOf wsX1_isCondition := goodIn_r _ [12] (by decide +kernel) (by decide +kernel)
set_option maxRecDepth 20000 in
theorem gX1_valueOf_X1_isCondition : GoodIn wsX1_valueOf (va_wsS RX1 33 yX1_isCondition wsX1_isCondition) := goodIn_app (goodIn_of _ (by decide +kernel)) ggX1_valueOf_X1_isCondition
set_option maxRecDepth 20000 in
theorem ggX1_valueOf_X1_join : GoodIn wsX1_valueOf wsX1_join := goodIn_r _ [15] (by decide +kernel) (by decide +kernel)
set_option maxRecDepth 20000 in
theorem gX1_valueOf_X1_join : GoodIn wsX1_valueOf (va_wsS RX1 39 yX1_join wsX1_join) := goodIn_app (goodIn_of _ (by decide +kernel)) ggX1_valueOf_X1_join
theorem dX1_valueOf_0 : decode cX1_valueOf 0 = .ok (.iconst 0, 1) := by decide +kernel
theorem dX1_valueOf_1 : decode cX1_valueOf 1 = .ok (.istore 4, 2) := by decide +kernel
theorem dX1_valueOf_3 : decode cX1_valueOf 3 = .ok (.iload_n 1, 1) := by decide +kernel
theorem dX1_valueOf_4 : decode cX1_valueOf 4 = .ok (.istore 5, 2) := by decide +kernel
theorem dX1_valueOf_6 : decode cX1_valueOf 6 = .ok (.iload 5, 2) := by decide +kernel
theorem dX1_valueOf_8 : decode cX1_valueOf 8 = .ok (.iload_n 2, 1) := by decide +kernel
theorem dX1_valueOf_9 : decode cX1_valueOf 9 = .ok (.if_icmp .ge 136, 3) := by decide +kernel
theorem dX1_valueOf_12 : decode cX1_valueOf 12 = .ok (.aload_n 0, 1) := by decide +kernel
theorem dX1_valueOf_13 : decode cX1_valueOf 13 = .ok (.iload 5, 2) := by decide +kernel
theorem dX1_valueOf_15 : decode cX1_valueOf 15 = .ok (.invokevirtual 29, 3) := by decide +kernel
theorem dX1_valueOf_18 : decode cX1_valueOf 18 = .ok (.istore 6, 2) := by decide +kernel
theorem dX1_valueOf_20 : decode cX1_valueOf 20 = .ok (.iload 6, 2) := by decide +kernel
theorem dX1_valueOf_22 : decode cX1_valueOf 22 = .ok (.invokestatic 33, 3) := by decide +kernel
theorem dX1_valueOf_25 : decode cX1_valueOf 25 = .ok (.ifCond .eq 37, 3) := by decide +kernel
theorem dX1_valueOf_28 : decode cX1_valueOf 28 = .ok (.iload 4, 2) := by decide +kernel
theorem dX1_valueOf_30 : decode cX1_valueOf 30 = .ok (.aload_n 0, 1) := by decide +kernel
theorem dX1_valueOf_31 : decode cX1_valueOf 31 = .ok (.getfield 9, 3) := by decide +kernel
theorem dX1_valueOf_34 : decode cX1_valueOf 34 = .ok (.arraylength, 1) := by decide +kernel
theorem dX1_valueOf_35 : decode cX1_valueOf 35 = .ok (.if_icmp .ge 104, 3) := by decide +kernel
theorem dX1_valueOf_38 : decode cX1_valueOf 38 = .ok (.iload 6, 2) := by decide +kernel
theorem dX1_valueOf_40 : decode cX1_valueOf 40 = .ok (.aload_n 3, 1) := by decide +kernel
theorem dX1_valueOf_41 : decode cX1_valueOf 41 = .ok (.arraylength, 1) := by decide +kernel
theorem dX1_valueOf_42 : decode cX1_valueOf 42 = .ok (.if_icmp .ge 97, 3) := by decide +kernel
theorem dX1_valueOf_45 : decode cX1_valueOf 45 = .ok (.aload_n 0, 1) := by decide +kernel
theorem dX1_valueOf_46 : decode cX1_valueOf 46 = .ok (.getfield 9, 3) := by decide +kernel
theorem dX1_valueOf_49 : decode cX1_valueOf 49 = .ok (.iload 4, 2) := by decide +kernel
theorem dX1_valueOf_51 : decode cX1_valueOf 51 = .ok (.aload_n 3, 1) := by decide +kernel
theorem dX1_valueOf_52 : decode cX1_valueOf 52 = .ok (.iload 6, 2) := by decide +kernel
theorem dX1_valueOf_54 : decode cX1_valueOf 54 = .ok (.laload, 1) := by decide +kernel
theorem dX1_valueOf_55 : decode cX1_valueOf 55 = .ok (.lastore, 1) := by decide +kernel
theorem dX1_valueOf_56 : decode cX1_valueOf 56 = .ok (.iinc 4 1, 3) := by decide +kernel
theorem dX1_valueOf_59 : decode cX1_valueOf 59 = .ok (.goto 80, 3) := by decide +kernel
theorem dX1_valueOf_62 : decode cX1_valueOf 62 = .ok (.iload 6, 2) := by decide +kernel
theorem dX1_valueOf_64 : decode cX1_valueOf 64 = .ok (.bipush 16, 2) := by decide +kernel
theorem dX1_valueOf_66 : decode cX1_valueOf 66 = .ok (.if_icmp .ne 34, 3) := by decide +kernel
theorem dX1_valueOf_69 : decode cX1_valueOf 69 = .ok (.iload 4, 2) := by decide +kernel
theorem dX1_valueOf_71 : decode cX1_valueOf 71 = .ok (.iconst 1, 1) := by decide +kernel
theorem dX1_valueOf_72 : decode cX1_valueOf 72 = .ok (.if_icmp .lt 28, 3) := by decide +kernel
theorem dX1_valueOf_75 : decode cX1_valueOf 75 = .ok (.aload_n 0, 1) := by decide +kernel
theorem dX1_valueOf_76 : decode cX1_valueOf 76 = .ok (.getfield 9, 3) := by decide +kernel
theorem dX1_valueOf_79 : decode cX1_valueOf 79 = .ok (.iload 4, 2) := by decide +kernel
theorem dX1_valueOf_81 : decode cX1_valueOf 81 = .ok (.iconst 1, 1) := by decide +kernel
theorem dX1_valueOf_82 : decode cX1_valueOf 82 = .ok (.isub, 1) := by decide +kernel
theorem dX1_valueOf_83 : decode cX1_valueOf 83 = .ok (.aload_n 0, 1) := by decide +kernel
theorem dX1_valueOf_84 : decode cX1_valueOf 84 = .ok (.getfield 9, 3) := by decide +kernel
theorem dX1_valueOf_87 : decode cX1_valueOf 87 = .ok (.iload 4, 2) := by decide +kernel
theorem dX1_valueOf_89 : decode cX1_valueOf 89 = .ok (.iconst 1, 1) := by decide +kernel
theorem dX1_valueOf_90 : decode cX1_valueOf 90 = .ok (.isub, 1) := by decide +kernel
theorem dX1_valueOf_91 : decode cX1_valueOf 91 = .ok (.laload, 1) := by decide +kernel
theorem dX1_valueOf_92 : decode cX1_valueOf 92 = .ok (.ldc2_w 37, 3) := by decide +kernel
theorem dX1_valueOf_95 : decode cX1_valueOf 95 = .ok (.lxor, 1) := by decide +kernel
theorem dX1_valueOf_96 : decode cX1_valueOf 96 = .ok (.lastore, 1) := by decide +kernel
theorem dX1_valueOf_97 : decode cX1_valueOf 97 = .ok (.goto 42, 3) := by decide +kernel
theorem dX1_valueOf_100 : decode cX1_valueOf 100 = .ok (.iload 4, 2) := by decide +kernel
theorem dX1_valueOf_102 : decode cX1_valueOf 102 = .ok (.iconst 2, 1) := by decide +kernel
theorem dX1_valueOf_103 : decode cX1_valueOf 103 = .ok (.if_icmp .lt 36, 3) := by decide +kernel
theorem dX1_valueOf_106 : decode cX1_valueOf 106 = .ok (.iinc 4 (-1), 3) := by decide +kernel
theorem dX1_valueOf_109 : decode cX1_valueOf 109 = .ok (.aload_n 0, 1) := by decide +kernel
theorem dX1_valueOf_110 : decode cX1_valueOf 110 = .ok (.getfield 9, 3) := by decide +kernel
theorem dX1_valueOf_113 : decode cX1_valueOf 113 = .ok (.iload 4, 2) := by decide +kernel
theorem dX1_valueOf_115 : decode cX1_valueOf 115 = .ok (.iconst 1, 1) := by decide +kernel
theorem dX1_valueOf_116 : decode cX1_valueOf 116 = .ok (.isub, 1) := by decide +kernel
theorem dX1_valueOf_117 : decode cX1_valueOf 117 = .ok (.iload 6, 2) := by decide +kernel
theorem dX1_valueOf_119 : decode cX1_valueOf 119 = .ok (.aload_n 0, 1) := by decide +kernel
theorem dX1_valueOf_120 : decode cX1_valueOf 120 = .ok (.getfield 9, 3) := by decide +kernel
theorem dX1_valueOf_123 : decode cX1_valueOf 123 = .ok (.iload 4, 2) := by decide +kernel
theorem dX1_valueOf_125 : decode cX1_valueOf 125 = .ok (.iconst 1, 1) := by decide +kernel
theorem dX1_valueOf_126 : decode cX1_valueOf 126 = .ok (.isub, 1) := by decide +kernel
theorem dX1_valueOf_127 : decode cX1_valueOf 127 = .ok (.laload, 1) := by decide +kernel
theorem dX1_valueOf_128 : decode cX1_valueOf 128 = .ok (.aload_n 0, 1) := by decide +kernel
theorem dX1_valueOf_129 : decode cX1_valueOf 129 = .ok (.getfield 9, 3) := by decide +kernel
theorem dX1_valueOf_132 : decode cX1_valueOf 132 = .ok (.iload 4, 2) := by decide +kernel
theorem dX1_valueOf_134 : decode cX1_valueOf 134 = .ok (.laload, 1) := by decide +kernel
theorem dX1_valueOf_135 : decode cX1_valueOf 135 = .ok (.invokestatic 39, 3) := by decide +kernel
theorem dX1_valueOf_138 : decode cX1_valueOf 138 = .ok (.lastore, 1) := by decide +kernel
theorem dX1_valueOf_139 : decode cX1_valueOf 139 = .ok (.iinc 5 1, 3) := by decide +kernel
theorem dX1_valueOf_142 : decode cX1_valueOf 142 = .ok (.goto (-136), 3) := by decide +kernel
theorem dX1_valueOf_145 : decode cX1_valueOf 145 = .ok (.iload 4, 2) := by decide +kernel
theorem dX1_valueOf_147 : decode cX1_valueOf 147 = .ok (.ifCond .le 12, 3) := by decide +kernel
theorem dX1_valueOf_150 : decode cX1_valueOf 150 = .ok (.aload_n 0, 1) := by decide +kernel
theorem dX1_valueOf_151 : decode cX1_valueOf 151 = .ok (.getfield 9, 3) := by decide +kernel
theorem dX1_valueOf_154 : decode cX1_valueOf 154 = .ok (.iconst 0, 1) := by decide +kernel
theorem dX1_valueOf_155 : decode cX1_valueOf 155 = .ok (.laload, 1) := by decide +kernel
theorem dX1_valueOf_156 : decode cX1_valueOf 156 = .ok (.goto 4, 3) := by decide +kernel
theorem dX1_valueOf_159 : decode cX1_valueOf 159 = .ok (.lconst 0, 1) := by decide +kernel
theorem dX1_valueOf_160 : decode cX1_valueOf 160 = .ok (.lreturn, 1) := by decide +kernel
theorem dX1_join_0 : decode cX1_join 0 = .ok (.iload_n 0, 1) := by decide +kernel
theorem dX1_join_1 : decode cX1_join 1 = .ok (.bipush 17, 2) := by decide +kernel
theorem dX1_join_3 : decode cX1_join 3 = .ok (.if_icmp .ne 9, 3) := by decide +kernel
theorem dX1_join_6 : decode cX1_join 6 = .ok (.lload_n 1, 1) := by decide +kernel
theorem dX1_join_7 : decode cX1_join 7 = .ok (.lload_n 3, 1) := by decide +kernel
theorem dX1_join_8 : decode cX1_join 8 = .ok (.land, 1) := by decide +kernel
theorem dX1_join_9 : decode cX1_join 9 = .ok (.goto 6, 3) := by decide +kernel
theorem dX1_join_12 : decode cX1_join 12 = .ok (.lload_n 1, 1) := by decide +kernel
theorem dX1_join_13 : decode cX1_join 13 = .ok (.lload_n 3, 1) := by decide +kernel
theorem dX1_join_14 : decode cX1_join 14 = .ok (.lor, 1) := by decide +kernel
theorem dX1_join_15 : decode cX1_join 15 = .ok (.lreturn, 1) := by decide +kernel
theorem dX1_isCondition_0 : decode cX1_isCondition 0 = .ok (.iload_n 0, 1) := by decide +kernel
theorem dX1_isCondition_1 : decode cX1_isCondition 1 = .ok (.ifCond .lt 13, 3) := by decide +kernel
theorem dX1_isCondition_4 : decode cX1_isCondition 4 = .ok (.iload_n 0, 1) := by decide +kernel
theorem dX1_isCondition_5 : decode cX1_isCondition 5 = .ok (.bipush 16, 2) := by decide +kernel
theorem dX1_isCondition_7 : decode cX1_isCondition 7 = .ok (.if_icmp .ge 7, 3) := by decide +kernel
theorem dX1_isCondition_10 : decode cX1_isCondition 10 = .ok (.iconst 1, 1) := by decide +kernel
theorem dX1_isCondition_11 : decode cX1_isCondition 11 = .ok (.goto 4, 3) := by decide +kernel
theorem dX1_isCondition_14 : decode cX1_isCondition 14 = .ok (.iconst 0, 1) := by decide +kernel
theorem dX1_isCondition_15 : decode cX1_isCondition 15 = .ok (.ireturn, 1) := by decide +kernel
theorem dX2_init_0 : decode cX2_init 0 = .ok (.aload_n 0, 1) := by decide +kernel
theorem dX2_init_1 : decode cX2_init 1 = .ok (.invokespecial 3, 3) := by decide +kernel
theorem dX2_init_4 : decode cX2_init 4 = .ok (.aload_n 0, 1) := by decide +kernel
theorem dX2_init_5 : decode cX2_init 5 = .ok (.aload_n 1, 1) := by decide +kernel
theorem dX2_init_6 : decode cX2_init 6 = .ok (.putfield 9, 3) := by decide +kernel
theorem dX2_init_9 : decode cX2_init 9 = .ok (.aload_n 0, 1) := by decide +kernel
theorem dX2_init_10 : decode cX2_init 10 = .ok (.aload_n 2, 1) := by decide +kernel
theorem dX2_init_11 : decode cX2_init 11 = .ok (.putfield 15, 3) := by decide +kernel
theorem dX2_init_14 : decode cX2_init 14 = .ok (.aload_n 0, 1) := by decide +kernel
theorem dX2_init_15 : decode cX2_init 15 = .ok (.aload_n 2, 1) := by decide +kernel
theorem dX2_init_16 : decode cX2_init 16 = .ok (.getfield 19, 3) := by decide +kernel
theorem dX2_init_19 : decode cX2_init 19 = .ok (.putfield 25, 3) := by decide +kernel
theorem dX2_init_22 : decode cX2_init 22 = .ok (.return_, 1) := by decide +kernel
set_option maxRecDepth 20000 in
theorem ggX2_takeText_X6_kind : GoodIn wsX2_takeText wsX6_kind := goodIn_r _ [6, 7, 8, 9, 148, 149, 150, 151, 152] (by decide +kernel) (by decide +kernel)
set_option maxRecDepth 20000 in
theorem gX2_takeText_X6_kind : GoodIn wsX2_takeText (wsV RX2 26 RX6 yX6_kind wsX6_kind) := goodIn_app (goodIn_of _ (by decide +kernel)) ggX2_takeText_X6_kind
set_option maxRecDepth 20000 in
theorem ggX2_takeText_X2_takeRow : GoodIn wsX2_takeText wsX2_takeRow := goodIn_r _ [14, 15, 16, 17, 18, 19, 20, 21, 22, 23, 24, 25, 26, 27, 28, 29, 13, 30, 1, 2, 3, 4, 5, 6, 7, 8, 9, 31, 32, 33, 34, 35, 36, 37, 38, 39, 40, 41, 42, 43, 44, 45, 46, 47, 48, 49, 50, 51, 52, 53, 54, 55, 56, 57, 58, 59, 60, 61, 62, 63, 64, 65, 66, 67, 68, 69, 70, 71, 72, 73, 74, 75, 76, 77, 78, 79, 80, 81, 82, 83, 84, 85, 86, 87, 88, 89, 90, 91, 92, 93, 94, 95, 96, 97, 98, 99, 100, 101, 102, 103, 104, 105, 106, 107, 108, 109, 110, 111, 112, 113, 114, 115, 116, 117, 118, 119, 120, 121, 122, 123, 124, 125, 126, 127, 128, 129, 130, 131, 132, 133, 134, 135, 136, 137, 138, 139, 140, 141, 142, 143, 144, 153, 154, 155, 156, 157, 158, 159, 160, 161, 162, 163, 164, 165, 145, 146, 147, 166, 167, 168, 169, 148, 149, 150, 151, 152, 170, 171, 172, 173, 174, 175] (by decide +kernel) (by decide +kernel)
set_option maxRecDepth 20000 in
theorem gX2_takeText_X2_takeRow : GoodIn wsX2_takeText (wsV RX2 32 RX2 yX2_takeRow wsX2_takeRow) := goodIn_app (goodIn_of _ (by decide +kernel)) ggX2_takeText_X2_takeRow
theorem dX2_takeText_0 : decode cX2_takeText 0 = .ok (.iconst 0, 1) := by decide +kernel
theorem dX2_takeText_1 : decode cX2_takeText 1 = .ok (.istore_n 1, 1) := by decide +kernel
theorem dX2_takeText_2 : decode cX2_takeText 2 = .ok (.iload_n 1, 1) := by decide +kernel
theorem dX2_takeText_3 : decode cX2_takeText 3 = .ok (.bipush 40, 2) := by decide +kernel
theorem dX2_takeText_5 : decode cX2_takeText 5 = .ok (.if_icmp .ge 29, 3) := by decide +kernel
theorem dX2_takeText_8 : decode cX2_takeText 8 = .ok (.aload_n 0, 1) := by decide +kernel
theorem dX2_takeText_9 : decode cX2_takeText 9 = .ok (.getfield 9, 3) := by decide +kernel
theorem dX2_takeText_12 : decode cX2_takeText 12 = .ok (.invokevirtual 26, 3) := by decide +kernel
theorem dX2_takeText_15 : decode cX2_takeText 15 = .ok (.iconst 5, 1) := by decide +kernel
theorem dX2_takeText_16 : decode cX2_takeText 16 = .ok (.if_icmp .ne 18, 3) := by decide +kernel
theorem dX2_takeText_19 : decode cX2_takeText 19 = .ok (.aload_n 0, 1) := by decide +kernel
theorem dX2_takeText_20 : decode cX2_takeText 20 = .ok (.invokevirtual 32, 3) := by decide +kernel
theorem dX2_takeText_23 : decode cX2_takeText 23 = .ok (.ifCond .ne 5, 3) := by decide +kernel
theorem dX2_takeText_26 : decode cX2_takeText 26 = .ok (.iconst 0, 1) := by decide +kernel
theorem dX2_takeText_27 : decode cX2_takeText 27 = .ok (.ireturn, 1) := by decide +kernel
theorem dX2_takeText_28 : decode cX2_takeText 28 = .ok (.iinc 1 1, 3) := by decide +kernel
theorem dX2_takeText_31 : decode cX2_takeText 31 = .ok (.goto (-29), 3) := by decide +kernel
theorem dX2_takeText_34 : decode cX2_takeText 34 = .ok (.aload_n 0, 1) := by decide +kernel
theorem dX2_takeText_35 : decode cX2_takeText 35 = .ok (.getfield 9, 3) := by decide +kernel
theorem dX2_takeText_38 : decode cX2_takeText 38 = .ok (.invokevirtual 26, 3) := by decide +kernel
theorem dX2_takeText_41 : decode cX2_takeText 41 = .ok (.ifCond .ne 7, 3) := by decide +kernel
theorem dX2_takeText_44 : decode cX2_takeText 44 = .ok (.iconst 1, 1) := by decide +kernel
theorem dX2_takeText_45 : decode cX2_takeText 45 = .ok (.goto 4, 3) := by decide +kernel
theorem dX2_takeText_48 : decode cX2_takeText 48 = .ok (.iconst 0, 1) := by decide +kernel
theorem dX2_takeText_49 : decode cX2_takeText 49 = .ok (.ireturn, 1) := by decide +kernel
set_option maxRecDepth 20000 in
theorem ggX2_takeRow_X3_init : GoodIn wsX2_takeRow wsX3_init := goodIn_r _ [7, 8, 9, 10, 11, 12, 141, 142, 143, 144, 145, 146, 147, 148, 149, 150, 151, 152, 153] (by decide +kernel) (by decide +kernel)
set_option maxRecDepth 20000 in
theorem gX2_takeRow_X3_init_n38 : GoodIn wsX2_takeRow (wsX3_init) := ggX2_takeRow_X3_init
set_option maxRecDepth 20000 in
theorem ggX2_takeRow_X2_take : GoodIn wsX2_takeRow wsX2_take := goodIn_r _ [17, 18, 19, 20, 21, 22, 23, 24, 25, 26, 27, 28, 29, 30, 154, 155, 156, 161, 162, 163, 164, 165] (by decide +kernel) (by decide +kernel)
set_option maxRecDepth 20000 in
theorem gX2_takeRow_X2_take : GoodIn wsX2_takeRow (wsV RX2 39 RX2 yX2_take wsX2_take) := goodIn_app (goodIn_of _ (by decide +kernel)) ggX2_takeRow_X2_take
set_option maxRecDepth 20000 in
theorem ggX2_takeRow_X2_takeActs : GoodIn wsX2_takeRow wsX2_takeActs := goodIn_r _ [34, 18, 19, 20, 21, 22, 23, 24, 25, 26, 35, 36, 37, 38, 39, 40, 41, 42, 3, 43, 44, 12, 45, 46, 47, 48, 49, 27, 28, 29, 30, 154, 155, 156, 141, 142, 143, 144, 145, 146, 147, 148, 149, 150, 151, 152, 153, 161, 162, 163, 164, 165] (by decide +kernel) (by decide +kernel)
set_option maxRecDepth 20000 in
theorem gX2_takeRow_X2_takeActs : GoodIn wsX2_takeRow (wsV RX2 43 RX2 yX2_takeActs wsX2_takeActs) := goodIn_app (goodIn_of _ (by decide +kernel)) ggX2_takeRow_X2_takeActs
set_option maxRecDepth 20000 in
theorem ggX2_takeRow_X1_size : GoodIn wsX2_takeRow wsX1_size := goodIn_r _ [54, 55, 166, 167, 168] (by decide +kernel) (by decide +kernel)
set_option maxRecDepth 20000 in
theorem gX2_takeRow_X1_size : GoodIn wsX2_takeRow (wsV RX2 47 RX1 yX1_size wsX1_size) := goodIn_app (goodIn_of _ (by decide +kernel)) ggX2_takeRow_X1_size
set_option maxRecDepth 20000 in
theorem ggX2_takeRow_X2_takeOr : GoodIn wsX2_takeRow wsX2_takeOr := goodIn_r _ [59, 18, 4, 60, 61, 62, 16, 19, 20, 21, 22, 23, 24, 25, 26, 27, 28, 29, 30, 63, 64, 65, 53, 66, 55, 67, 68, 69, 70, 71, 72, 56, 57, 58, 73, 74, 75, 76, 77, 78, 79, 80, 35, 36, 37, 38, 39, 154, 155, 156, 161, 162, 163, 164, 165, 166, 167, 168, 141, 142, 143, 144, 145, 146, 147, 148, 149, 150, 151, 152, 153] (by decide +kernel) (by decide +kernel)
set_option maxRecDepth 20000 in
theorem gX2_takeRow_X2_takeOr : GoodIn wsX2_takeRow (wsV RX2 56 RX2 yX2_takeOr wsX2_takeOr) := goodIn_app (goodIn_of _ (by decide +kernel)) ggX2_takeRow_X2_takeOr
set_option maxRecDepth 20000 in
theorem ggX2_takeRow_X2_takeFor : GoodIn wsX2_takeRow wsX2_takeFor := goodIn_r _ [84, 18, 13, 14, 15, 16, 17, 19, 20, 21, 22, 23, 24, 25, 26, 27, 28, 29, 30, 35, 36, 37, 38, 39, 141, 142, 143, 144, 145, 146, 147, 148, 149, 150, 151, 152, 153, 154, 155, 156, 161, 162, 163, 164, 165] (by decide +kernel) (by decide +kernel)
set_option maxRecDepth 20000 in
theorem gX2_takeRow_X2_takeFor : GoodIn wsX2_takeRow (wsV RX2 63 RX2 yX2_takeFor wsX2_takeFor) := goodIn_app (goodIn_of _ (by decide +kernel)) ggX2_takeRow_X2_takeFor
set_option maxRecDepth 20000 in
theorem ggX2_takeRow_Jx4a65c_add_9ea2d : GoodIn wsX2_takeRow wsJx4a65c_add_9ea2d := goodIn_r _ [89, 90, 91, 92, 93, 94, 95, 96, 88, 97, 98, 99, 100, 101, 102, 103, 104, 105, 106, 107, 108, 109, 110, 111, 112, 113, 114, 115, 116, 117, 118, 119, 120, 121, 122, 123, 124, 125, 126, 127, 128, 129, 130, 131, 132, 133, 134, 135, 136, 137, 138, 139, 140, 169, 170, 171] (by decide +kernel) (by decide +kernel)
set_option maxRecDepth 20000 in
theorem gX2_takeRow_Jx4a65c_add_9ea2d : GoodIn wsX2_takeRow (wsV RX2 74 RJx4a65c yJx4a65c_add_9ea2d wsJx4a65c_add_9ea2d) := goodIn_app (goodIn_of _ (by decide +kernel)) ggX2_takeRow_Jx4a65c_add_9ea2d
theorem dX2_takeRow_0 : decode cX2_takeRow 0 = .ok (.new 36, 3) := by decide +kernel
theorem dX2_takeRow_3 : decode cX2_takeRow 3 = .ok (.dup, 1) := by decide +kernel
theorem dX2_takeRow_4 : decode cX2_takeRow 4 = .ok (.invokespecial 38, 3) := by decide +kernel
theorem dX2_takeRow_7 : decode cX2_takeRow 7 = .ok (.astore_n 1, 1) := by decide +kernel
theorem dX2_takeRow_8 : decode cX2_takeRow 8 = .ok (.aload_n 0, 1) := by decide +kernel
theorem dX2_takeRow_9 : decode cX2_takeRow 9 = .ok (.iconst 5, 1) := by decide +kernel
theorem dX2_takeRow_10 : decode cX2_takeRow 10 = .ok (.invokevirtual 39, 3) := by decide +kernel
theorem dX2_takeRow_13 : decode cX2_takeRow 13 = .ok (.ifCond .eq 20, 3) := by decide +kernel
theorem dX2_takeRow_16 : decode cX2_takeRow 16 = .ok (.aload_n 0, 1) := by decide +kernel
theorem dX2_takeRow_17 : decode cX2_takeRow 17 = .ok (.aload_n 1, 1) := by decide +kernel
theorem dX2_takeRow_18 : decode cX2_takeRow 18 = .ok (.invokevirtual 43, 3) := by decide +kernel
theorem dX2_takeRow_21 : decode cX2_takeRow 21 = .ok (.ifCond .eq 12, 3) := by decide +kernel
theorem dX2_takeRow_24 : decode cX2_takeRow 24 = .ok (.aload_n 0, 1) := by decide +kernel
theorem dX2_takeRow_25 : decode cX2_takeRow 25 = .ok (.bipush 6, 2) := by decide +kernel
theorem dX2_takeRow_27 : decode cX2_takeRow 27 = .ok (.invokevirtual 39, 3) := by decide +kernel
theorem dX2_takeRow_30 : decode cX2_takeRow 30 = .ok (.ifCond .ne 5, 3) := by decide +kernel
theorem dX2_takeRow_33 : decode cX2_takeRow 33 = .ok (.iconst 0, 1) := by decide +kernel
theorem dX2_takeRow_34 : decode cX2_takeRow 34 = .ok (.ireturn, 1) := by decide +kernel
theorem dX2_takeRow_35 : decode cX2_takeRow 35 = .ok (.aload_n 1, 1) := by decide +kernel
theorem dX2_takeRow_36 : decode cX2_takeRow 36 = .ok (.aload_n 0, 1) := by decide +kernel
theorem dX2_takeRow_37 : decode cX2_takeRow 37 = .ok (.getfield 25, 3) := by decide +kernel
theorem dX2_takeRow_40 : decode cX2_takeRow 40 = .ok (.invokevirtual 47, 3) := by decide +kernel
theorem dX2_takeRow_43 : decode cX2_takeRow 43 = .ok (.putfield 52, 3) := by decide +kernel
theorem dX2_takeRow_46 : decode cX2_takeRow 46 = .ok (.aload_n 0, 1) := by decide +kernel
theorem dX2_takeRow_47 : decode cX2_takeRow 47 = .ok (.aload_n 1, 1) := by decide +kernel
theorem dX2_takeRow_48 : decode cX2_takeRow 48 = .ok (.iconst 0, 1) := by decide +kernel
theorem dX2_takeRow_49 : decode cX2_takeRow 49 = .ok (.invokevirtual 56, 3) := by decide +kernel
theorem dX2_takeRow_52 : decode cX2_takeRow 52 = .ok (.ifCond .ne 5, 3) := by decide +kernel
theorem dX2_takeRow_55 : decode cX2_takeRow 55 = .ok (.iconst 0, 1) := by decide +kernel
theorem dX2_takeRow_56 : decode cX2_takeRow 56 = .ok (.ireturn, 1) := by decide +kernel
theorem dX2_takeRow_57 : decode cX2_takeRow 57 = .ok (.aload_n 1, 1) := by decide +kernel
theorem dX2_takeRow_58 : decode cX2_takeRow 58 = .ok (.aload_n 0, 1) := by decide +kernel
theorem dX2_takeRow_59 : decode cX2_takeRow 59 = .ok (.getfield 25, 3) := by decide +kernel
theorem dX2_takeRow_62 : decode cX2_takeRow 62 = .ok (.invokevirtual 47, 3) := by decide +kernel
theorem dX2_takeRow_65 : decode cX2_takeRow 65 = .ok (.putfield 60, 3) := by decide +kernel
theorem dX2_takeRow_68 : decode cX2_takeRow 68 = .ok (.aload_n 0, 1) := by decide +kernel
theorem dX2_takeRow_69 : decode cX2_takeRow 69 = .ok (.aload_n 1, 1) := by decide +kernel
theorem dX2_takeRow_70 : decode cX2_takeRow 70 = .ok (.invokevirtual 63, 3) := by decide +kernel
theorem dX2_takeRow_73 : decode cX2_takeRow 73 = .ok (.ifCond .ne 5, 3) := by decide +kernel
theorem dX2_takeRow_76 : decode cX2_takeRow 76 = .ok (.iconst 0, 1) := by decide +kernel
theorem dX2_takeRow_77 : decode cX2_takeRow 77 = .ok (.ireturn, 1) := by decide +kernel
theorem dX2_takeRow_78 : decode cX2_takeRow 78 = .ok (.aload_n 1, 1) := by decide +kernel
theorem dX2_takeRow_79 : decode cX2_takeRow 79 = .ok (.aload_n 0, 1) := by decide +kernel
theorem dX2_takeRow_80 : decode cX2_takeRow 80 = .ok (.bipush 8, 2) := by decide +kernel
theorem dX2_takeRow_82 : decode cX2_takeRow 82 = .ok (.invokevirtual 39, 3) := by decide +kernel
theorem dX2_takeRow_85 : decode cX2_takeRow 85 = .ok (.putfield 66, 3) := by decide +kernel
theorem dX2_takeRow_88 : decode cX2_takeRow 88 = .ok (.aload_n 0, 1) := by decide +kernel
theorem dX2_takeRow_89 : decode cX2_takeRow 89 = .ok (.iconst 4, 1) := by decide +kernel
theorem dX2_takeRow_90 : decode cX2_takeRow 90 = .ok (.invokevirtual 39, 3) := by decide +kernel
theorem dX2_takeRow_93 : decode cX2_takeRow 93 = .ok (.ifCond .ne 5, 3) := by decide +kernel
theorem dX2_takeRow_96 : decode cX2_takeRow 96 = .ok (.iconst 0, 1) := by decide +kernel
theorem dX2_takeRow_97 : decode cX2_takeRow 97 = .ok (.ireturn, 1) := by decide +kernel
theorem dX2_takeRow_98 : decode cX2_takeRow 98 = .ok (.aload_n 0, 1) := by decide +kernel
theorem dX2_takeRow_99 : decode cX2_takeRow 99 = .ok (.getfield 15, 3) := by decide +kernel
theorem dX2_takeRow_102 : decode cX2_takeRow 102 = .ok (.getfield 70, 3) := by decide +kernel
theorem dX2_takeRow_105 : decode cX2_takeRow 105 = .ok (.aload_n 1, 1) := by decide +kernel
theorem dX2_takeRow_106 : decode cX2_takeRow 106 = .ok (.invokevirtual 74, 3) := by decide +kernel
theorem dX2_takeRow_109 : decode cX2_takeRow 109 = .ok (.pop, 1) := by decide +kernel
theorem dX2_takeRow_110 : decode cX2_takeRow 110 = .ok (.iconst 1, 1) := by decide +kernel
theorem dX2_takeRow_111 : decode cX2_takeRow 111 = .ok (.ireturn, 1) := by decide +kernel
set_option maxRecDepth 20000 in
theorem ggX2_take_X6_kind : GoodIn wsX2_take wsX6_kind := goodIn_r _ [6, 7, 8, 9, 17, 18, 19, 20, 21] (by decide +kernel) (by decide +kernel)
set_option maxRecDepth 20000 in
theorem gX2_take_X6_kind : GoodIn wsX2_take (wsV RX2 26 RX6 yX6_kind wsX6_kind) := goodIn_app (goodIn_of _ (by decide +kernel)) ggX2_take_X6_kind
set_option maxRecDepth 20000 in
theorem ggX2_take_X6_advance : GoodIn wsX2_take wsX6_advance := goodIn_r _ [13, 7, 8, 17, 18, 19, 20, 21] (by decide +kernel) (by decide +kernel)
set_option maxRecDepth 20000 in
theorem gX2_take_X6_advance : GoodIn wsX2_take (wsV RX2 80 RX6 yX6_advance wsX6_advance) := goodIn_app (goodIn_of _ (by decide +kernel)) ggX2_take_X6_advance
theorem dX2_take_0 : decode cX2_take 0 = .ok (.aload_n 0, 1) := by decide +kernel
theorem dX2_take_1 : decode cX2_take 1 = .ok (.getfield 9, 3) := by decide +kernel
theorem dX2_take_4 : decode cX2_take 4 = .ok (.invokevirtual 26, 3) := by decide +kernel
theorem dX2_take_7 : decode cX2_take 7 = .ok (.iload_n 1, 1) := by decide +kernel
theorem dX2_take_8 : decode cX2_take 8 = .ok (.if_icmp .eq 5, 3) := by decide +kernel
theorem dX2_take_11 : decode cX2_take 11 = .ok (.iconst 0, 1) := by decide +kernel
theorem dX2_take_12 : decode cX2_take 12 = .ok (.ireturn, 1) := by decide +kernel
theorem dX2_take_13 : decode cX2_take 13 = .ok (.aload_n 0, 1) := by decide +kernel
theorem dX2_take_14 : decode cX2_take 14 = .ok (.getfield 9, 3) := by decide +kernel
theorem dX2_take_17 : decode cX2_take 17 = .ok (.invokevirtual 80, 3) := by decide +kernel
theorem dX2_take_20 : decode cX2_take 20 = .ok (.iconst 1, 1) := by decide +kernel
theorem dX2_take_21 : decode cX2_take 21 = .ok (.ireturn, 1) := by decide +kernel
set_option maxRecDepth 20000 in
theorem ggX2_takeActs_X6_kind : GoodIn wsX2_takeActs wsX6_kind := goodIn_r _ [6, 7, 8, 9, 47, 48, 49, 50, 51] (by decide +kernel) (by decide +kernel)
set_option maxRecDepth 20000 in
theorem gX2_takeActs_X6_kind : GoodIn wsX2_takeActs (wsV RX2 26 RX6 yX6_kind wsX6_kind) := goodIn_app (goodIn_of _ (by decide +kernel)) ggX2_takeActs_X6_kind
set_option maxRecDepth 20000 in
theorem ggX2_takeActs_X6_value : GoodIn wsX2_takeActs wsX6_value := goodIn_r _ [13, 7, 8, 14, 47, 48, 49, 50, 51] (by decide +kernel) (by decide +kernel)
set_option maxRecDepth 20000 in
theorem gX2_takeActs_X6_value : GoodIn wsX2_takeActs (wsV RX2 83 RX6 yX6_value wsX6_value) := goodIn_app (goodIn_of _ (by decide +kernel)) ggX2_takeActs_X6_value
set_option maxRecDepth 20000 in
theorem ggX2_takeActs_X3_addAct : GoodIn wsX2_takeActs wsX3_addAct := goodIn_r _ [19, 20, 21, 22, 23, 24, 25, 18, 26, 34, 35, 36, 37, 38, 39, 40, 41, 42, 43, 44, 45, 46] (by decide +kernel) (by decide +kernel)
set_option maxRecDepth 20000 in
theorem gX2_takeActs_X3_addAct : GoodIn wsX2_takeActs (wsV RX2 86 RX3 yX3_addAct wsX3_addAct) := goodIn_app (goodIn_of _ (by decide +kernel)) ggX2_takeActs_X3_addAct
set_option maxRecDepth 20000 in
theorem ggX2_takeActs_X6_advance : GoodIn wsX2_takeActs wsX6_advance := goodIn_r _ [30, 7, 8, 47, 48, 49, 50, 51] (by decide +kernel) (by decide +kernel)
set_option maxRecDepth 20000 in
theorem gX2_takeActs_X6_advance : GoodIn wsX2_takeActs (wsV RX2 80 RX6 yX6_advance wsX6_advance) := goodIn_app (goodIn_of _ (by decide +kernel)) ggX2_takeActs_X6_advance
theorem dX2_takeActs_0 : decode cX2_takeActs 0 = .ok (.iconst 0, 1) := by decide +kernel
theorem dX2_takeActs_1 : decode cX2_takeActs 1 = .ok (.istore_n 2, 1) := by decide +kernel
theorem dX2_takeActs_2 : decode cX2_takeActs 2 = .ok (.iload_n 2, 1) := by decide +kernel
theorem dX2_takeActs_3 : decode cX2_takeActs 3 = .ok (.bipush 8, 2) := by decide +kernel
theorem dX2_takeActs_5 : decode cX2_takeActs 5 = .ok (.if_icmp .ge 44, 3) := by decide +kernel
theorem dX2_takeActs_8 : decode cX2_takeActs 8 = .ok (.aload_n 0, 1) := by decide +kernel
theorem dX2_takeActs_9 : decode cX2_takeActs 9 = .ok (.getfield 9, 3) := by decide +kernel
theorem dX2_takeActs_12 : decode cX2_takeActs 12 = .ok (.invokevirtual 26, 3) := by decide +kernel
theorem dX2_takeActs_15 : decode cX2_takeActs 15 = .ok (.bipush 12, 2) := by decide +kernel
theorem dX2_takeActs_17 : decode cX2_takeActs 17 = .ok (.if_icmp .ne 32, 3) := by decide +kernel
theorem dX2_takeActs_20 : decode cX2_takeActs 20 = .ok (.aload_n 1, 1) := by decide +kernel
theorem dX2_takeActs_21 : decode cX2_takeActs 21 = .ok (.aload_n 0, 1) := by decide +kernel
theorem dX2_takeActs_22 : decode cX2_takeActs 22 = .ok (.getfield 9, 3) := by decide +kernel
theorem dX2_takeActs_25 : decode cX2_takeActs 25 = .ok (.invokevirtual 83, 3) := by decide +kernel
theorem dX2_takeActs_28 : decode cX2_takeActs 28 = .ok (.invokevirtual 86, 3) := by decide +kernel
theorem dX2_takeActs_31 : decode cX2_takeActs 31 = .ok (.ifCond .ne 5, 3) := by decide +kernel
theorem dX2_takeActs_34 : decode cX2_takeActs 34 = .ok (.iconst 0, 1) := by decide +kernel
theorem dX2_takeActs_35 : decode cX2_takeActs 35 = .ok (.ireturn, 1) := by decide +kernel
theorem dX2_takeActs_36 : decode cX2_takeActs 36 = .ok (.aload_n 0, 1) := by decide +kernel
theorem dX2_takeActs_37 : decode cX2_takeActs 37 = .ok (.getfield 9, 3) := by decide +kernel
theorem dX2_takeActs_40 : decode cX2_takeActs 40 = .ok (.invokevirtual 80, 3) := by decide +kernel
theorem dX2_takeActs_43 : decode cX2_takeActs 43 = .ok (.iinc 2 1, 3) := by decide +kernel
theorem dX2_takeActs_46 : decode cX2_takeActs 46 = .ok (.goto (-44), 3) := by decide +kernel
theorem dX2_takeActs_49 : decode cX2_takeActs 49 = .ok (.aload_n 1, 1) := by decide +kernel
theorem dX2_takeActs_50 : decode cX2_takeActs 50 = .ok (.getfield 89, 3) := by decide +kernel
theorem dX2_takeActs_53 : decode cX2_takeActs 53 = .ok (.ifCond .le 7, 3) := by decide +kernel
theorem dX2_takeActs_56 : decode cX2_takeActs 56 = .ok (.iconst 1, 1) := by decide +kernel
theorem dX2_takeActs_57 : decode cX2_takeActs 57 = .ok (.goto 4, 3) := by decide +kernel
theorem dX2_takeActs_60 : decode cX2_takeActs 60 = .ok (.iconst 0, 1) := by decide +kernel
theorem dX2_takeActs_61 : decode cX2_takeActs 61 = .ok (.ireturn, 1) := by decide +kernel
set_option maxRecDepth 20000 in
theorem ggX2_takeFor_X2_take : GoodIn wsX2_takeFor wsX2_take := goodIn_r _ [6, 1, 7, 8, 9, 10, 11, 12, 13, 14, 15, 16, 17, 18, 37, 38, 39, 40, 41, 42, 43, 44] (by decide +kernel) (by decide +kernel)
set_option maxRecDepth 20000 in
theorem gX2_takeFor_X2_take : GoodIn wsX2_takeFor (wsV RX2 39 RX2 yX2_take wsX2_take) := goodIn_app (goodIn_of _ (by decide +kernel)) ggX2_takeFor_X2_take
set_option maxRecDepth 20000 in
theorem ggX2_takeFor_X6_value : GoodIn wsX2_takeFor wsX6_value := goodIn_r _ [22, 12, 13, 23, 40, 41, 42, 43, 44] (by decide +kernel) (by decide +kernel)
set_option maxRecDepth 20000 in
theorem gX2_takeFor_X6_value : GoodIn wsX2_takeFor (wsV RX2 83 RX6 yX6_value wsX6_value) := goodIn_app (goodIn_of _ (by decide +kernel)) ggX2_takeFor_X6_value
theorem dX2_takeFor_0 : decode cX2_takeFor 0 = .ok (.aload_n 0, 1) := by decide +kernel
theorem dX2_takeFor_1 : decode cX2_takeFor 1 = .ok (.bipush 7, 2) := by decide +kernel
theorem dX2_takeFor_3 : decode cX2_takeFor 3 = .ok (.invokevirtual 39, 3) := by decide +kernel
theorem dX2_takeFor_6 : decode cX2_takeFor 6 = .ok (.ifCond .ne 5, 3) := by decide +kernel
theorem dX2_takeFor_9 : decode cX2_takeFor 9 = .ok (.iconst 1, 1) := by decide +kernel
theorem dX2_takeFor_10 : decode cX2_takeFor 10 = .ok (.ireturn, 1) := by decide +kernel
theorem dX2_takeFor_11 : decode cX2_takeFor 11 = .ok (.aload_n 1, 1) := by decide +kernel
theorem dX2_takeFor_12 : decode cX2_takeFor 12 = .ok (.iconst 1, 1) := by decide +kernel
theorem dX2_takeFor_13 : decode cX2_takeFor 13 = .ok (.putfield 92, 3) := by decide +kernel
theorem dX2_takeFor_16 : decode cX2_takeFor 16 = .ok (.aload_n 1, 1) := by decide +kernel
theorem dX2_takeFor_17 : decode cX2_takeFor 17 = .ok (.aload_n 0, 1) := by decide +kernel
theorem dX2_takeFor_18 : decode cX2_takeFor 18 = .ok (.getfield 9, 3) := by decide +kernel
theorem dX2_takeFor_21 : decode cX2_takeFor 21 = .ok (.invokevirtual 83, 3) := by decide +kernel
theorem dX2_takeFor_24 : decode cX2_takeFor 24 = .ok (.putfield 95, 3) := by decide +kernel
theorem dX2_takeFor_27 : decode cX2_takeFor 27 = .ok (.aload_n 0, 1) := by decide +kernel
theorem dX2_takeFor_28 : decode cX2_takeFor 28 = .ok (.bipush 14, 2) := by decide +kernel
theorem dX2_takeFor_30 : decode cX2_takeFor 30 = .ok (.invokevirtual 39, 3) := by decide +kernel
theorem dX2_takeFor_33 : decode cX2_takeFor 33 = .ok (.ireturn, 1) := by decide +kernel
set_option maxRecDepth 20000 in
theorem ggX2_takeOr_X2_takeAnd : GoodIn wsX2_takeOr wsX2_takeAnd := goodIn_r _ [26, 1, 2, 27, 28, 29, 6, 7, 8, 9, 10, 11, 12, 13, 14, 15, 16, 17, 18, 19, 20, 21, 22, 23, 24, 25, 30, 31, 32, 33, 0, 3, 4, 5, 34, 35, 36, 37, 38, 39, 40, 41, 42, 43, 44, 45, 46, 47, 48, 49, 50, 51, 52, 53, 54, 55, 56, 57, 58, 59, 60, 61, 62, 63, 64, 65, 66, 67, 68, 69, 70] (by decide +kernel) (by decide +kernel)
set_option maxRecDepth 20000 in
theorem gX2_takeOr_X2_takeAnd : GoodIn wsX2_takeOr (wsV RX2 98 RX2 yX2_takeAnd wsX2_takeAnd) := goodIn_app (goodIn_of _ (by decide +kernel)) ggX2_takeOr_X2_takeAnd
set_option maxRecDepth 20000 in
theorem ggX2_takeOr_X6_kind : GoodIn wsX2_takeOr wsX6_kind := goodIn_r _ [11, 12, 13, 14, 50, 51, 52, 53, 54] (by decide +kernel) (by decide +kernel)
set_option maxRecDepth 20000 in
theorem gX2_takeOr_X6_kind : GoodIn wsX2_takeOr (wsV RX2 26 RX6 yX6_kind wsX6_kind) := goodIn_app (goodIn_of _ (by decide +kernel)) ggX2_takeOr_X6_kind
set_option maxRecDepth 20000 in
theorem ggX2_takeOr_X6_advance : GoodIn wsX2_takeOr wsX6_advance := goodIn_r _ [18, 12, 13, 50, 51, 52, 53, 54] (by decide +kernel) (by decide +kernel)
set_option maxRecDepth 20000 in
theorem gX2_takeOr_X6_advance : GoodIn wsX2_takeOr (wsV RX2 80 RX6 yX6_advance wsX6_advance) := goodIn_app (goodIn_of _ (by decide +kernel)) ggX2_takeOr_X6_advance
set_option maxRecDepth 20000 in
theorem ggX2_takeOr_X1_add : GoodIn wsX2_takeOr wsX1_add := goodIn_r _ [23, 24, 25, 55, 56, 57] (by decide +kernel) (by decide +kernel)
set_option maxRecDepth 20000 in
theorem gX2_takeOr_X1_add : GoodIn wsX2_takeOr (wsV RX2 101 RX1 yX1_add wsX1_add) := goodIn_app (goodIn_of _ (by decide +kernel)) ggX2_takeOr_X1_add
theorem dX2_takeOr_0 : decode cX2_takeOr 0 = .ok (.aload_n 0, 1) := by decide +kernel
theorem dX2_takeOr_1 : decode cX2_takeOr 1 = .ok (.aload_n 1, 1) := by decide +kernel
theorem dX2_takeOr_2 : decode cX2_takeOr 2 = .ok (.iload_n 2, 1) := by decide +kernel
theorem dX2_takeOr_3 : decode cX2_takeOr 3 = .ok (.invokevirtual 98, 3) := by decide +kernel
theorem dX2_takeOr_6 : decode cX2_takeOr 6 = .ok (.ifCond .ne 5, 3) := by decide +kernel
theorem dX2_takeOr_9 : decode cX2_takeOr 9 = .ok (.iconst 0, 1) := by decide +kernel
theorem dX2_takeOr_10 : decode cX2_takeOr 10 = .ok (.ireturn, 1) := by decide +kernel
theorem dX2_takeOr_11 : decode cX2_takeOr 11 = .ok (.iconst 0, 1) := by decide +kernel
theorem dX2_takeOr_12 : decode cX2_takeOr 12 = .ok (.istore_n 3, 1) := by decide +kernel
theorem dX2_takeOr_13 : decode cX2_takeOr 13 = .ok (.iload_n 3, 1) := by decide +kernel
theorem dX2_takeOr_14 : decode cX2_takeOr 14 = .ok (.bipush 32, 2) := by decide +kernel
theorem dX2_takeOr_16 : decode cX2_takeOr 16 = .ok (.if_icmp .ge 48, 3) := by decide +kernel
theorem dX2_takeOr_19 : decode cX2_takeOr 19 = .ok (.aload_n 0, 1) := by decide +kernel
theorem dX2_takeOr_20 : decode cX2_takeOr 20 = .ok (.getfield 9, 3) := by decide +kernel
theorem dX2_takeOr_23 : decode cX2_takeOr 23 = .ok (.invokevirtual 26, 3) := by decide +kernel
theorem dX2_takeOr_26 : decode cX2_takeOr 26 = .ok (.bipush 9, 2) := by decide +kernel
theorem dX2_takeOr_28 : decode cX2_takeOr 28 = .ok (.if_icmp .ne 36, 3) := by decide +kernel
theorem dX2_takeOr_31 : decode cX2_takeOr 31 = .ok (.aload_n 0, 1) := by decide +kernel
theorem dX2_takeOr_32 : decode cX2_takeOr 32 = .ok (.getfield 9, 3) := by decide +kernel
theorem dX2_takeOr_35 : decode cX2_takeOr 35 = .ok (.invokevirtual 80, 3) := by decide +kernel
theorem dX2_takeOr_38 : decode cX2_takeOr 38 = .ok (.aload_n 0, 1) := by decide +kernel
theorem dX2_takeOr_39 : decode cX2_takeOr 39 = .ok (.aload_n 1, 1) := by decide +kernel
theorem dX2_takeOr_40 : decode cX2_takeOr 40 = .ok (.iload_n 2, 1) := by decide +kernel
theorem dX2_takeOr_41 : decode cX2_takeOr 41 = .ok (.invokevirtual 98, 3) := by decide +kernel
theorem dX2_takeOr_44 : decode cX2_takeOr 44 = .ok (.ifCond .ne 5, 3) := by decide +kernel
theorem dX2_takeOr_47 : decode cX2_takeOr 47 = .ok (.iconst 0, 1) := by decide +kernel
theorem dX2_takeOr_48 : decode cX2_takeOr 48 = .ok (.ireturn, 1) := by decide +kernel
theorem dX2_takeOr_49 : decode cX2_takeOr 49 = .ok (.aload_n 0, 1) := by decide +kernel
theorem dX2_takeOr_50 : decode cX2_takeOr 50 = .ok (.getfield 25, 3) := by decide +kernel
theorem dX2_takeOr_53 : decode cX2_takeOr 53 = .ok (.bipush 18, 2) := by decide +kernel
theorem dX2_takeOr_55 : decode cX2_takeOr 55 = .ok (.invokevirtual 101, 3) := by decide +kernel
theorem dX2_takeOr_58 : decode cX2_takeOr 58 = .ok (.iinc 3 1, 3) := by decide +kernel
theorem dX2_takeOr_61 : decode cX2_takeOr 61 = .ok (.goto (-48), 3) := by decide +kernel
theorem dX2_takeOr_64 : decode cX2_takeOr 64 = .ok (.iconst 1, 1) := by decide +kernel
theorem dX2_takeOr_65 : decode cX2_takeOr 65 = .ok (.ireturn, 1) := by decide +kernel
set_option maxRecDepth 20000 in
theorem ggX2_takeAnd_X2_takePart : GoodIn wsX2_takeAnd wsX2_takePart := goodIn_r _ [34, 1, 2, 7, 8, 9, 10, 11, 12, 13, 14, 15, 16, 17, 18, 35, 36, 37, 6, 38, 39, 40, 41, 42, 43, 44, 45, 46, 19, 20, 21, 22, 23, 24, 25, 0, 3, 4, 5, 26, 27, 28, 29, 30, 31, 32, 33, 47, 48, 49, 50, 51, 52, 53, 54, 55, 56, 57, 58, 59, 60, 61, 62, 63, 64, 65, 66, 67, 68, 69, 70] (by decide +kernel) (by decide +kernel)
set_option maxRecDepth 20000 in
theorem gX2_takeAnd_X2_takePart : GoodIn wsX2_takeAnd (wsV RX2 104 RX2 yX2_takePart wsX2_takePart) := goodIn_app (goodIn_of _ (by decide +kernel)) ggX2_takeAnd_X2_takePart
set_option maxRecDepth 20000 in
theorem ggX2_takeAnd_X6_kind : GoodIn wsX2_takeAnd wsX6_kind := goodIn_r _ [11, 12, 13, 14, 50, 51, 52, 53, 54] (by decide +kernel) (by decide +kernel)
set_option maxRecDepth 20000 in
theorem gX2_takeAnd_X6_kind : GoodIn wsX2_takeAnd (wsV RX2 26 RX6 yX6_kind wsX6_kind) := goodIn_app (goodIn_of _ (by decide +kernel)) ggX2_takeAnd_X6_kind
set_option maxRecDepth 20000 in
theorem ggX2_takeAnd_X6_advance : GoodIn wsX2_takeAnd wsX6_advance := goodIn_r _ [18, 12, 13, 50, 51, 52, 53, 54] (by decide +kernel) (by decide +kernel)
set_option maxRecDepth 20000 in
theorem gX2_takeAnd_X6_advance : GoodIn wsX2_takeAnd (wsV RX2 80 RX6 yX6_advance wsX6_advance) := goodIn_app (goodIn_of _ (by decide +kernel)) ggX2_takeAnd_X6_advance
set_option maxRecDepth 20000 in
theorem ggX2_takeAnd_X1_add : GoodIn wsX2_takeAnd wsX1_add := goodIn_r _ [23, 24, 25, 55, 56, 57] (by decide +kernel) (by decide +kernel)
set_option maxRecDepth 20000 in
theorem gX2_takeAnd_X1_add : GoodIn wsX2_takeAnd (wsV RX2 101 RX1 yX1_add wsX1_add) := goodIn_app (goodIn_of _ (by decide +kernel)) ggX2_takeAnd_X1_add
theorem dX2_takeAnd_0 : decode cX2_takeAnd 0 = .ok (.aload_n 0, 1) := by decide +kernel
theorem dX2_takeAnd_1 : decode cX2_takeAnd 1 = .ok (.aload_n 1, 1) := by decide +kernel
theorem dX2_takeAnd_2 : decode cX2_takeAnd 2 = .ok (.iload_n 2, 1) := by decide +kernel
theorem dX2_takeAnd_3 : decode cX2_takeAnd 3 = .ok (.invokevirtual 104, 3) := by decide +kernel
theorem dX2_takeAnd_6 : decode cX2_takeAnd 6 = .ok (.ifCond .ne 5, 3) := by decide +kernel
theorem dX2_takeAnd_9 : decode cX2_takeAnd 9 = .ok (.iconst 0, 1) := by decide +kernel
theorem dX2_takeAnd_10 : decode cX2_takeAnd 10 = .ok (.ireturn, 1) := by decide +kernel
theorem dX2_takeAnd_11 : decode cX2_takeAnd 11 = .ok (.iconst 0, 1) := by decide +kernel
theorem dX2_takeAnd_12 : decode cX2_takeAnd 12 = .ok (.istore_n 3, 1) := by decide +kernel
theorem dX2_takeAnd_13 : decode cX2_takeAnd 13 = .ok (.iload_n 3, 1) := by decide +kernel
theorem dX2_takeAnd_14 : decode cX2_takeAnd 14 = .ok (.bipush 32, 2) := by decide +kernel
theorem dX2_takeAnd_16 : decode cX2_takeAnd 16 = .ok (.if_icmp .ge 48, 3) := by decide +kernel
theorem dX2_takeAnd_19 : decode cX2_takeAnd 19 = .ok (.aload_n 0, 1) := by decide +kernel
theorem dX2_takeAnd_20 : decode cX2_takeAnd 20 = .ok (.getfield 9, 3) := by decide +kernel
theorem dX2_takeAnd_23 : decode cX2_takeAnd 23 = .ok (.invokevirtual 26, 3) := by decide +kernel
theorem dX2_takeAnd_26 : decode cX2_takeAnd 26 = .ok (.bipush 10, 2) := by decide +kernel
theorem dX2_takeAnd_28 : decode cX2_takeAnd 28 = .ok (.if_icmp .ne 36, 3) := by decide +kernel
theorem dX2_takeAnd_31 : decode cX2_takeAnd 31 = .ok (.aload_n 0, 1) := by decide +kernel
theorem dX2_takeAnd_32 : decode cX2_takeAnd 32 = .ok (.getfield 9, 3) := by decide +kernel
theorem dX2_takeAnd_35 : decode cX2_takeAnd 35 = .ok (.invokevirtual 80, 3) := by decide +kernel
theorem dX2_takeAnd_38 : decode cX2_takeAnd 38 = .ok (.aload_n 0, 1) := by decide +kernel
theorem dX2_takeAnd_39 : decode cX2_takeAnd 39 = .ok (.aload_n 1, 1) := by decide +kernel
theorem dX2_takeAnd_40 : decode cX2_takeAnd 40 = .ok (.iload_n 2, 1) := by decide +kernel
theorem dX2_takeAnd_41 : decode cX2_takeAnd 41 = .ok (.invokevirtual 104, 3) := by decide +kernel
theorem dX2_takeAnd_44 : decode cX2_takeAnd 44 = .ok (.ifCond .ne 5, 3) := by decide +kernel
theorem dX2_takeAnd_47 : decode cX2_takeAnd 47 = .ok (.iconst 0, 1) := by decide +kernel
theorem dX2_takeAnd_48 : decode cX2_takeAnd 48 = .ok (.ireturn, 1) := by decide +kernel
theorem dX2_takeAnd_49 : decode cX2_takeAnd 49 = .ok (.aload_n 0, 1) := by decide +kernel
theorem dX2_takeAnd_50 : decode cX2_takeAnd 50 = .ok (.getfield 25, 3) := by decide +kernel
theorem dX2_takeAnd_53 : decode cX2_takeAnd 53 = .ok (.bipush 17, 2) := by decide +kernel
theorem dX2_takeAnd_55 : decode cX2_takeAnd 55 = .ok (.invokevirtual 101, 3) := by decide +kernel
theorem dX2_takeAnd_58 : decode cX2_takeAnd 58 = .ok (.iinc 3 1, 3) := by decide +kernel
theorem dX2_takeAnd_61 : decode cX2_takeAnd 61 = .ok (.goto (-48), 3) := by decide +kernel
theorem dX2_takeAnd_64 : decode cX2_takeAnd 64 = .ok (.iconst 1, 1) := by decide +kernel
theorem dX2_takeAnd_65 : decode cX2_takeAnd 65 = .ok (.ireturn, 1) := by decide +kernel
set_option maxRecDepth 20000 in
theorem ggX2_takePart_X6_kind : GoodIn wsX2_takePart wsX6_kind := goodIn_r _ [7, 8, 9, 10, 50, 51, 52, 53, 54] (by decide +kernel) (by decide +kernel)
set_option maxRecDepth 20000 in
theorem gX2_takePart_X6_kind : GoodIn wsX2_takePart (wsV RX2 26 RX6 yX6_kind wsX6_kind) := goodIn_app (goodIn_of _ (by decide +kernel)) ggX2_takePart_X6_kind
set_option maxRecDepth 20000 in
theorem ggX2_takePart_X6_advance : GoodIn wsX2_takePart wsX6_advance := goodIn_r _ [14, 8, 9, 50, 51, 52, 53, 54] (by decide +kernel) (by decide +kernel)
set_option maxRecDepth 20000 in
theorem gX2_takePart_X6_advance : GoodIn wsX2_takePart (wsV RX2 80 RX6 yX6_advance wsX6_advance) := goodIn_app (goodIn_of _ (by decide +kernel)) ggX2_takePart_X6_advance
set_option maxRecDepth 20000 in
theorem ggX2_takePart_X2_takeBrackets : GoodIn wsX2_takePart wsX2_takeBrackets := goodIn_r _ [39, 1, 11, 12, 13, 6, 14, 8, 9, 40, 41, 42, 18, 3, 4, 5, 7, 10, 35, 2, 36, 37, 38, 28, 29, 30, 31, 32, 33, 34, 43, 44, 45, 46, 0, 15, 16, 17, 19, 20, 21, 22, 23, 24, 25, 26, 27, 47, 48, 49, 50, 51, 52, 53, 54, 55, 56, 57, 58, 59, 60, 61, 62, 63, 64, 65, 66, 67, 68, 69, 70] (by decide +kernel) (by decide +kernel)
set_option maxRecDepth 20000 in
theorem gX2_takePart_X2_takeBrackets : GoodIn wsX2_takePart (wsV RX2 107 RX2 yX2_takeBrackets wsX2_takeBrackets) := goodIn_app (goodIn_of _ (by decide +kernel)) ggX2_takePart_X2_takeBrackets
set_option maxRecDepth 20000 in
theorem ggX2_takePart_X2_takeCondition : GoodIn wsX2_takePart wsX2_takeCondition := goodIn_r _ [22, 1, 2, 3, 4, 5, 6, 7, 8, 9, 10, 23, 24, 25, 26, 27, 28, 29, 30, 31, 32, 33, 34, 11, 12, 13, 14, 47, 48, 49, 58, 59, 60, 61, 62, 63, 64, 65, 66, 67, 68, 69, 70, 50, 51, 52, 53, 54, 55, 56, 57] (by decide +kernel) (by decide +kernel)
set_option maxRecDepth 20000 in
theorem gX2_takePart_X2_takeCondition : GoodIn wsX2_takePart (wsV RX2 110 RX2 yX2_takeCondition wsX2_takeCondition) := goodIn_app (goodIn_of _ (by decide +kernel)) ggX2_takePart_X2_takeCondition
set_option maxRecDepth 20000 in
theorem ggX2_takePart_X1_add : GoodIn wsX2_takePart wsX1_add := goodIn_r _ [32, 33, 34, 55, 56, 57] (by decide +kernel) (by decide +kernel)
set_option maxRecDepth 20000 in
theorem gX2_takePart_X1_add : GoodIn wsX2_takePart (wsV RX2 101 RX1 yX1_add wsX1_add) := goodIn_app (goodIn_of _ (by decide +kernel)) ggX2_takePart_X1_add
theorem dX2_takePart_0 : decode cX2_takePart 0 = .ok (.iconst 0, 1) := by decide +kernel
theorem dX2_takePart_1 : decode cX2_takePart 1 = .ok (.istore_n 3, 1) := by decide +kernel
theorem dX2_takePart_2 : decode cX2_takePart 2 = .ok (.iload_n 2, 1) := by decide +kernel
theorem dX2_takePart_3 : decode cX2_takePart 3 = .ok (.iload_n 3, 1) := by decide +kernel
theorem dX2_takePart_4 : decode cX2_takePart 4 = .ok (.iadd, 1) := by decide +kernel
theorem dX2_takePart_5 : decode cX2_takePart 5 = .ok (.bipush 20, 2) := by decide +kernel
theorem dX2_takePart_7 : decode cX2_takePart 7 = .ok (.if_icmp .ge 28, 3) := by decide +kernel
theorem dX2_takePart_10 : decode cX2_takePart 10 = .ok (.aload_n 0, 1) := by decide +kernel
theorem dX2_takePart_11 : decode cX2_takePart 11 = .ok (.getfield 9, 3) := by decide +kernel
theorem dX2_takePart_14 : decode cX2_takePart 14 = .ok (.invokevirtual 26, 3) := by decide +kernel
theorem dX2_takePart_17 : decode cX2_takePart 17 = .ok (.bipush 11, 2) := by decide +kernel
theorem dX2_takePart_19 : decode cX2_takePart 19 = .ok (.if_icmp .ne 16, 3) := by decide +kernel
theorem dX2_takePart_22 : decode cX2_takePart 22 = .ok (.aload_n 0, 1) := by decide +kernel
theorem dX2_takePart_23 : decode cX2_takePart 23 = .ok (.getfield 9, 3) := by decide +kernel
theorem dX2_takePart_26 : decode cX2_takePart 26 = .ok (.invokevirtual 80, 3) := by decide +kernel
theorem dX2_takePart_29 : decode cX2_takePart 29 = .ok (.iinc 3 1, 3) := by decide +kernel
theorem dX2_takePart_32 : decode cX2_takePart 32 = .ok (.goto (-30), 3) := by decide +kernel
theorem dX2_takePart_35 : decode cX2_takePart 35 = .ok (.aload_n 0, 1) := by decide +kernel
theorem dX2_takePart_36 : decode cX2_takePart 36 = .ok (.getfield 9, 3) := by decide +kernel
theorem dX2_takePart_39 : decode cX2_takePart 39 = .ok (.invokevirtual 26, 3) := by decide +kernel
theorem dX2_takePart_42 : decode cX2_takePart 42 = .ok (.iconst 2, 1) := by decide +kernel
theorem dX2_takePart_43 : decode cX2_takePart 43 = .ok (.if_icmp .ne 14, 3) := by decide +kernel
theorem dX2_takePart_46 : decode cX2_takePart 46 = .ok (.aload_n 0, 1) := by decide +kernel
theorem dX2_takePart_47 : decode cX2_takePart 47 = .ok (.aload_n 1, 1) := by decide +kernel
theorem dX2_takePart_48 : decode cX2_takePart 48 = .ok (.iload_n 2, 1) := by decide +kernel
theorem dX2_takePart_49 : decode cX2_takePart 49 = .ok (.iload_n 3, 1) := by decide +kernel
theorem dX2_takePart_50 : decode cX2_takePart 50 = .ok (.iadd, 1) := by decide +kernel
theorem dX2_takePart_51 : decode cX2_takePart 51 = .ok (.invokevirtual 107, 3) := by decide +kernel
theorem dX2_takePart_54 : decode cX2_takePart 54 = .ok (.goto 8, 3) := by decide +kernel
theorem dX2_takePart_57 : decode cX2_takePart 57 = .ok (.aload_n 0, 1) := by decide +kernel
theorem dX2_takePart_58 : decode cX2_takePart 58 = .ok (.aload_n 1, 1) := by decide +kernel
theorem dX2_takePart_59 : decode cX2_takePart 59 = .ok (.invokevirtual 110, 3) := by decide +kernel
theorem dX2_takePart_62 : decode cX2_takePart 62 = .ok (.istore 4, 2) := by decide +kernel
theorem dX2_takePart_64 : decode cX2_takePart 64 = .ok (.iload 4, 2) := by decide +kernel
theorem dX2_takePart_66 : decode cX2_takePart 66 = .ok (.ifCond .ne 5, 3) := by decide +kernel
theorem dX2_takePart_69 : decode cX2_takePart 69 = .ok (.iconst 0, 1) := by decide +kernel
theorem dX2_takePart_70 : decode cX2_takePart 70 = .ok (.ireturn, 1) := by decide +kernel
theorem dX2_takePart_71 : decode cX2_takePart 71 = .ok (.iconst 0, 1) := by decide +kernel
theorem dX2_takePart_72 : decode cX2_takePart 72 = .ok (.istore 5, 2) := by decide +kernel
theorem dX2_takePart_74 : decode cX2_takePart 74 = .ok (.iload 5, 2) := by decide +kernel
theorem dX2_takePart_76 : decode cX2_takePart 76 = .ok (.iload_n 3, 1) := by decide +kernel
theorem dX2_takePart_77 : decode cX2_takePart 77 = .ok (.if_icmp .ge 18, 3) := by decide +kernel
theorem dX2_takePart_80 : decode cX2_takePart 80 = .ok (.aload_n 0, 1) := by decide +kernel
theorem dX2_takePart_81 : decode cX2_takePart 81 = .ok (.getfield 25, 3) := by decide +kernel
theorem dX2_takePart_84 : decode cX2_takePart 84 = .ok (.bipush 16, 2) := by decide +kernel
theorem dX2_takePart_86 : decode cX2_takePart 86 = .ok (.invokevirtual 101, 3) := by decide +kernel
theorem dX2_takePart_89 : decode cX2_takePart 89 = .ok (.iinc 5 1, 3) := by decide +kernel
theorem dX2_takePart_92 : decode cX2_takePart 92 = .ok (.goto (-18), 3) := by decide +kernel
theorem dX2_takePart_95 : decode cX2_takePart 95 = .ok (.iconst 1, 1) := by decide +kernel
theorem dX2_takePart_96 : decode cX2_takePart 96 = .ok (.ireturn, 1) := by decide +kernel
set_option maxRecDepth 20000 in
theorem ggX2_takeBrackets_X6_advance : GoodIn wsX2_takeBrackets wsX6_advance := goodIn_r _ [6, 7, 8, 50, 51, 52, 53, 54] (by decide +kernel) (by decide +kernel)
set_option maxRecDepth 20000 in
theorem gX2_takeBrackets_X6_advance : GoodIn wsX2_takeBrackets (wsV RX2 80 RX6 yX6_advance wsX6_advance) := goodIn_app (goodIn_of _ (by decide +kernel)) ggX2_takeBrackets_X6_advance
set_option maxRecDepth 20000 in
theorem ggX2_takeBrackets_X2_takeOr : GoodIn wsX2_takeBrackets wsX2_takeOr := goodIn_r _ [30, 1, 19, 31, 32, 33, 12, 13, 14, 15, 5, 16, 7, 8, 17, 2, 3, 4, 6, 23, 24, 25, 26, 27, 28, 29, 18, 20, 21, 22, 0, 9, 10, 11, 34, 35, 36, 37, 38, 39, 40, 41, 42, 43, 44, 45, 46, 47, 48, 49, 50, 51, 52, 53, 54, 55, 56, 57, 58, 59, 60, 61, 62, 63, 64, 65, 66, 67, 68, 69, 70] (by decide +kernel) (by decide +kernel)
set_option maxRecDepth 20000 in
theorem gX2_takeBrackets_X2_takeOr : GoodIn wsX2_takeBrackets (wsV RX2 56 RX2 yX2_takeOr wsX2_takeOr) := goodIn_app (goodIn_of _ (by decide +kernel)) ggX2_takeBrackets_X2_takeOr
set_option maxRecDepth 20000 in
theorem ggX2_takeBrackets_X6_kind : GoodIn wsX2_takeBrackets wsX6_kind := goodIn_r _ [16, 7, 8, 17, 50, 51, 52, 53, 54] (by decide +kernel) (by decide +kernel)
set_option maxRecDepth 20000 in
theorem gX2_takeBrackets_X6_kind : GoodIn wsX2_takeBrackets (wsV RX2 26 RX6 yX6_kind wsX6_kind) := goodIn_app (goodIn_of _ (by decide +kernel)) ggX2_takeBrackets_X6_kind
theorem dX2_takeBrackets_0 : decode cX2_takeBrackets 0 = .ok (.iload_n 2, 1) := by decide +kernel
theorem dX2_takeBrackets_1 : decode cX2_takeBrackets 1 = .ok (.bipush 20, 2) := by decide +kernel
theorem dX2_takeBrackets_3 : decode cX2_takeBrackets 3 = .ok (.if_icmp .lt 5, 3) := by decide +kernel
theorem dX2_takeBrackets_6 : decode cX2_takeBrackets 6 = .ok (.iconst 0, 1) := by decide +kernel
theorem dX2_takeBrackets_7 : decode cX2_takeBrackets 7 = .ok (.ireturn, 1) := by decide +kernel
theorem dX2_takeBrackets_8 : decode cX2_takeBrackets 8 = .ok (.aload_n 0, 1) := by decide +kernel
theorem dX2_takeBrackets_9 : decode cX2_takeBrackets 9 = .ok (.getfield 9, 3) := by decide +kernel
theorem dX2_takeBrackets_12 : decode cX2_takeBrackets 12 = .ok (.invokevirtual 80, 3) := by decide +kernel
theorem dX2_takeBrackets_15 : decode cX2_takeBrackets 15 = .ok (.aload_n 0, 1) := by decide +kernel
theorem dX2_takeBrackets_16 : decode cX2_takeBrackets 16 = .ok (.aload_n 1, 1) := by decide +kernel
theorem dX2_takeBrackets_17 : decode cX2_takeBrackets 17 = .ok (.iload_n 2, 1) := by decide +kernel
theorem dX2_takeBrackets_18 : decode cX2_takeBrackets 18 = .ok (.iconst 1, 1) := by decide +kernel
theorem dX2_takeBrackets_19 : decode cX2_takeBrackets 19 = .ok (.iadd, 1) := by decide +kernel
theorem dX2_takeBrackets_20 : decode cX2_takeBrackets 20 = .ok (.invokevirtual 56, 3) := by decide +kernel
theorem dX2_takeBrackets_23 : decode cX2_takeBrackets 23 = .ok (.ifCond .eq 14, 3) := by decide +kernel
theorem dX2_takeBrackets_26 : decode cX2_takeBrackets 26 = .ok (.aload_n 0, 1) := by decide +kernel
theorem dX2_takeBrackets_27 : decode cX2_takeBrackets 27 = .ok (.getfield 9, 3) := by decide +kernel
theorem dX2_takeBrackets_30 : decode cX2_takeBrackets 30 = .ok (.invokevirtual 26, 3) := by decide +kernel
theorem dX2_takeBrackets_33 : decode cX2_takeBrackets 33 = .ok (.iconst 3, 1) := by decide +kernel
theorem dX2_takeBrackets_34 : decode cX2_takeBrackets 34 = .ok (.if_icmp .eq 5, 3) := by decide +kernel
theorem dX2_takeBrackets_37 : decode cX2_takeBrackets 37 = .ok (.iconst 0, 1) := by decide +kernel
theorem dX2_takeBrackets_38 : decode cX2_takeBrackets 38 = .ok (.ireturn, 1) := by decide +kernel
theorem dX2_takeBrackets_39 : decode cX2_takeBrackets 39 = .ok (.aload_n 0, 1) := by decide +kernel
theorem dX2_takeBrackets_40 : decode cX2_takeBrackets 40 = .ok (.getfield 9, 3) := by decide +kernel
theorem dX2_takeBrackets_43 : decode cX2_takeBrackets 43 = .ok (.invokevirtual 80, 3) := by decide +kernel
theorem dX2_takeBrackets_46 : decode cX2_takeBrackets 46 = .ok (.iconst 1, 1) := by decide +kernel
theorem dX2_takeBrackets_47 : decode cX2_takeBrackets 47 = .ok (.ireturn, 1) := by decide +kernel
set_option maxRecDepth 20000 in
theorem ggX2_takeCondition_X6_kind : GoodIn wsX2_takeCondition wsX6_kind := goodIn_r _ [7, 8, 9, 10, 43, 44, 45, 46, 47] (by decide +kernel) (by decide +kernel)
set_option maxRecDepth 20000 in
theorem gX2_takeCondition_X6_kind : GoodIn wsX2_takeCondition (wsV RX2 26 RX6 yX6_kind wsX6_kind) := goodIn_app (goodIn_of _ (by decide +kernel)) ggX2_takeCondition_X6_kind
set_option maxRecDepth 20000 in
theorem ggX2_takeCondition_X6_value : GoodIn wsX2_takeCondition wsX6_value := goodIn_r _ [14, 8, 9, 15, 43, 44, 45, 46, 47] (by decide +kernel) (by decide +kernel)
set_option maxRecDepth 20000 in
theorem gX2_takeCondition_X6_value : GoodIn wsX2_takeCondition (wsV RX2 83 RX6 yX6_value wsX6_value) := goodIn_app (goodIn_of _ (by decide +kernel)) ggX2_takeCondition_X6_value
set_option maxRecDepth 20000 in
theorem ggX2_takeCondition_X1_add : GoodIn wsX2_takeCondition wsX1_add := goodIn_r _ [20, 21, 22, 48, 49, 50] (by decide +kernel) (by decide +kernel)
set_option maxRecDepth 20000 in
theorem gX2_takeCondition_X1_add : GoodIn wsX2_takeCondition (wsV RX2 101 RX1 yX1_add wsX1_add) := goodIn_app (goodIn_of _ (by decide +kernel)) ggX2_takeCondition_X1_add
set_option maxRecDepth 20000 in
theorem ggX2_takeCondition_X6_advance : GoodIn wsX2_takeCondition wsX6_advance := goodIn_r _ [26, 8, 9, 43, 44, 45, 46, 47] (by decide +kernel) (by decide +kernel)
set_option maxRecDepth 20000 in
theorem gX2_takeCondition_X6_advance : GoodIn wsX2_takeCondition (wsV RX2 80 RX6 yX6_advance wsX6_advance) := goodIn_app (goodIn_of _ (by decide +kernel)) ggX2_takeCondition_X6_advance
theorem dX2_takeCondition_0 : decode cX2_takeCondition 0 = .ok (.aload_n 0, 1) := by decide +kernel
theorem dX2_takeCondition_1 : decode cX2_takeCondition 1 = .ok (.getfield 9, 3) := by decide +kernel
theorem dX2_takeCondition_4 : decode cX2_takeCondition 4 = .ok (.invokevirtual 26, 3) := by decide +kernel
theorem dX2_takeCondition_7 : decode cX2_takeCondition 7 = .ok (.bipush 13, 2) := by decide +kernel
theorem dX2_takeCondition_9 : decode cX2_takeCondition 9 = .ok (.if_icmp .ne 12, 3) := by decide +kernel
theorem dX2_takeCondition_12 : decode cX2_takeCondition 12 = .ok (.aload_n 1, 1) := by decide +kernel
theorem dX2_takeCondition_13 : decode cX2_takeCondition 13 = .ok (.getfield 113, 3) := by decide +kernel
theorem dX2_takeCondition_16 : decode cX2_takeCondition 16 = .ok (.bipush 32, 2) := by decide +kernel
theorem dX2_takeCondition_18 : decode cX2_takeCondition 18 = .ok (.if_icmp .lt 5, 3) := by decide +kernel
theorem dX2_takeCondition_21 : decode cX2_takeCondition 21 = .ok (.iconst 0, 1) := by decide +kernel
theorem dX2_takeCondition_22 : decode cX2_takeCondition 22 = .ok (.ireturn, 1) := by decide +kernel
theorem dX2_takeCondition_23 : decode cX2_takeCondition 23 = .ok (.aload_n 0, 1) := by decide +kernel
theorem dX2_takeCondition_24 : decode cX2_takeCondition 24 = .ok (.getfield 25, 3) := by decide +kernel
theorem dX2_takeCondition_27 : decode cX2_takeCondition 27 = .ok (.aload_n 0, 1) := by decide +kernel
theorem dX2_takeCondition_28 : decode cX2_takeCondition 28 = .ok (.getfield 9, 3) := by decide +kernel
theorem dX2_takeCondition_31 : decode cX2_takeCondition 31 = .ok (.invokevirtual 83, 3) := by decide +kernel
theorem dX2_takeCondition_34 : decode cX2_takeCondition 34 = .ok (.invokevirtual 101, 3) := by decide +kernel
theorem dX2_takeCondition_37 : decode cX2_takeCondition 37 = .ok (.aload_n 1, 1) := by decide +kernel
theorem dX2_takeCondition_38 : decode cX2_takeCondition 38 = .ok (.dup, 1) := by decide +kernel
theorem dX2_takeCondition_39 : decode cX2_takeCondition 39 = .ok (.getfield 113, 3) := by decide +kernel
theorem dX2_takeCondition_42 : decode cX2_takeCondition 42 = .ok (.iconst 1, 1) := by decide +kernel
theorem dX2_takeCondition_43 : decode cX2_takeCondition 43 = .ok (.iadd, 1) := by decide +kernel
theorem dX2_takeCondition_44 : decode cX2_takeCondition 44 = .ok (.putfield 113, 3) := by decide +kernel
theorem dX2_takeCondition_47 : decode cX2_takeCondition 47 = .ok (.aload_n 0, 1) := by decide +kernel
theorem dX2_takeCondition_48 : decode cX2_takeCondition 48 = .ok (.getfield 9, 3) := by decide +kernel
theorem dX2_takeCondition_51 : decode cX2_takeCondition 51 = .ok (.invokevirtual 80, 3) := by decide +kernel
theorem dX2_takeCondition_54 : decode cX2_takeCondition 54 = .ok (.iconst 1, 1) := by decide +kernel
theorem dX2_takeCondition_55 : decode cX2_takeCondition 55 = .ok (.ireturn, 1) := by decide +kernel
theorem dX3_init_0 : decode cX3_init 0 = .ok (.aload_n 0, 1) := by decide +kernel
theorem dX3_init_1 : decode cX3_init 1 = .ok (.invokespecial 3, 3) := by decide +kernel
theorem dX3_init_4 : decode cX3_init 4 = .ok (.aload_n 0, 1) := by decide +kernel
theorem dX3_init_5 : decode cX3_init 5 = .ok (.bipush 8, 2) := by decide +kernel
theorem dX3_init_7 : decode cX3_init 7 = .ok (.newarray .int, 2) := by decide +kernel
theorem dX3_init_9 : decode cX3_init 9 = .ok (.putfield 9, 3) := by decide +kernel
theorem dX3_init_12 : decode cX3_init 12 = .ok (.return_, 1) := by decide +kernel
theorem dX3_hasAct_0 : decode cX3_hasAct 0 = .ok (.aload_n 0, 1) := by decide +kernel
theorem dX3_hasAct_1 : decode cX3_hasAct 1 = .ok (.getfield 15, 3) := by decide +kernel
theorem dX3_hasAct_4 : decode cX3_hasAct 4 = .ok (.iload_n 1, 1) := by decide +kernel
theorem dX3_hasAct_5 : decode cX3_hasAct 5 = .ok (.iushr, 1) := by decide +kernel
theorem dX3_hasAct_6 : decode cX3_hasAct 6 = .ok (.iconst 1, 1) := by decide +kernel
theorem dX3_hasAct_7 : decode cX3_hasAct 7 = .ok (.iand, 1) := by decide +kernel
theorem dX3_hasAct_8 : decode cX3_hasAct 8 = .ok (.ifCond .eq 7, 3) := by decide +kernel
theorem dX3_hasAct_11 : decode cX3_hasAct 11 = .ok (.iconst 1, 1) := by decide +kernel
theorem dX3_hasAct_12 : decode cX3_hasAct 12 = .ok (.goto 4, 3) := by decide +kernel
theorem dX3_hasAct_15 : decode cX3_hasAct 15 = .ok (.iconst 0, 1) := by decide +kernel
theorem dX3_hasAct_16 : decode cX3_hasAct 16 = .ok (.ireturn, 1) := by decide +kernel
set_option maxRecDepth 20000 in
theorem ggX3_addAct_X3_hasAct : GoodIn wsX3_addAct wsX3_hasAct := goodIn_r _ [8, 3, 9, 10, 11, 12, 13, 14, 15, 16, 17, 18, 19, 20, 21] (by decide +kernel) (by decide +kernel)
set_option maxRecDepth 20000 in
theorem gX3_addAct_X3_hasAct : GoodIn wsX3_addAct (wsV RX3 22 RX3 yX3_hasAct wsX3_hasAct) := goodIn_app (goodIn_of _ (by decide +kernel)) ggX3_addAct_X3_hasAct
theorem dX3_addAct_0 : decode cX3_addAct 0 = .ok (.aload_n 0, 1) := by decide +kernel
theorem dX3_addAct_1 : decode cX3_addAct 1 = .ok (.getfield 19, 3) := by decide +kernel
theorem dX3_addAct_4 : decode cX3_addAct 4 = .ok (.aload_n 0, 1) := by decide +kernel
theorem dX3_addAct_5 : decode cX3_addAct 5 = .ok (.getfield 9, 3) := by decide +kernel
theorem dX3_addAct_8 : decode cX3_addAct 8 = .ok (.arraylength, 1) := by decide +kernel
theorem dX3_addAct_9 : decode cX3_addAct 9 = .ok (.if_icmp .ge 11, 3) := by decide +kernel
theorem dX3_addAct_12 : decode cX3_addAct 12 = .ok (.aload_n 0, 1) := by decide +kernel
theorem dX3_addAct_13 : decode cX3_addAct 13 = .ok (.iload_n 1, 1) := by decide +kernel
theorem dX3_addAct_14 : decode cX3_addAct 14 = .ok (.invokevirtual 22, 3) := by decide +kernel
theorem dX3_addAct_17 : decode cX3_addAct 17 = .ok (.ifCond .eq 5, 3) := by decide +kernel
theorem dX3_addAct_20 : decode cX3_addAct 20 = .ok (.iconst 0, 1) := by decide +kernel
theorem dX3_addAct_21 : decode cX3_addAct 21 = .ok (.ireturn, 1) := by decide +kernel
theorem dX3_addAct_22 : decode cX3_addAct 22 = .ok (.aload_n 0, 1) := by decide +kernel
theorem dX3_addAct_23 : decode cX3_addAct 23 = .ok (.getfield 9, 3) := by decide +kernel
theorem dX3_addAct_26 : decode cX3_addAct 26 = .ok (.aload_n 0, 1) := by decide +kernel
theorem dX3_addAct_27 : decode cX3_addAct 27 = .ok (.getfield 19, 3) := by decide +kernel
theorem dX3_addAct_30 : decode cX3_addAct 30 = .ok (.iload_n 1, 1) := by decide +kernel
theorem dX3_addAct_31 : decode cX3_addAct 31 = .ok (.iastore, 1) := by decide +kernel
theorem dX3_addAct_32 : decode cX3_addAct 32 = .ok (.aload_n 0, 1) := by decide +kernel
theorem dX3_addAct_33 : decode cX3_addAct 33 = .ok (.dup, 1) := by decide +kernel
theorem dX3_addAct_34 : decode cX3_addAct 34 = .ok (.getfield 19, 3) := by decide +kernel
theorem dX3_addAct_37 : decode cX3_addAct 37 = .ok (.iconst 1, 1) := by decide +kernel
theorem dX3_addAct_38 : decode cX3_addAct 38 = .ok (.iadd, 1) := by decide +kernel
theorem dX3_addAct_39 : decode cX3_addAct 39 = .ok (.putfield 19, 3) := by decide +kernel
theorem dX3_addAct_42 : decode cX3_addAct 42 = .ok (.aload_n 0, 1) := by decide +kernel
theorem dX3_addAct_43 : decode cX3_addAct 43 = .ok (.dup, 1) := by decide +kernel
theorem dX3_addAct_44 : decode cX3_addAct 44 = .ok (.getfield 15, 3) := by decide +kernel
theorem dX3_addAct_47 : decode cX3_addAct 47 = .ok (.iconst 1, 1) := by decide +kernel
theorem dX3_addAct_48 : decode cX3_addAct 48 = .ok (.iload_n 1, 1) := by decide +kernel
theorem dX3_addAct_49 : decode cX3_addAct 49 = .ok (.ishl, 1) := by decide +kernel
theorem dX3_addAct_50 : decode cX3_addAct 50 = .ok (.ior, 1) := by decide +kernel
theorem dX3_addAct_51 : decode cX3_addAct 51 = .ok (.putfield 15, 3) := by decide +kernel
theorem dX3_addAct_54 : decode cX3_addAct 54 = .ok (.iconst 1, 1) := by decide +kernel
theorem dX3_addAct_55 : decode cX3_addAct 55 = .ok (.ireturn, 1) := by decide +kernel
theorem dX3_actAt_0 : decode cX3_actAt 0 = .ok (.iload_n 1, 1) := by decide +kernel
theorem dX3_actAt_1 : decode cX3_actAt 1 = .ok (.ifCond .lt 20, 3) := by decide +kernel
theorem dX3_actAt_4 : decode cX3_actAt 4 = .ok (.iload_n 1, 1) := by decide +kernel
theorem dX3_actAt_5 : decode cX3_actAt 5 = .ok (.aload_n 0, 1) := by decide +kernel
theorem dX3_actAt_6 : decode cX3_actAt 6 = .ok (.getfield 19, 3) := by decide +kernel
theorem dX3_actAt_9 : decode cX3_actAt 9 = .ok (.if_icmp .ge 12, 3) := by decide +kernel
theorem dX3_actAt_12 : decode cX3_actAt 12 = .ok (.iload_n 1, 1) := by decide +kernel
theorem dX3_actAt_13 : decode cX3_actAt 13 = .ok (.aload_n 0, 1) := by decide +kernel
theorem dX3_actAt_14 : decode cX3_actAt 14 = .ok (.getfield 9, 3) := by decide +kernel
theorem dX3_actAt_17 : decode cX3_actAt 17 = .ok (.arraylength, 1) := by decide +kernel
theorem dX3_actAt_18 : decode cX3_actAt 18 = .ok (.if_icmp .lt 7, 3) := by decide +kernel
theorem dX3_actAt_21 : decode cX3_actAt 21 = .ok (.iconst (-1), 1) := by decide +kernel
theorem dX3_actAt_22 : decode cX3_actAt 22 = .ok (.goto 9, 3) := by decide +kernel
theorem dX3_actAt_25 : decode cX3_actAt 25 = .ok (.aload_n 0, 1) := by decide +kernel
theorem dX3_actAt_26 : decode cX3_actAt 26 = .ok (.getfield 9, 3) := by decide +kernel
theorem dX3_actAt_29 : decode cX3_actAt 29 = .ok (.iload_n 1, 1) := by decide +kernel
theorem dX3_actAt_30 : decode cX3_actAt 30 = .ok (.iaload, 1) := by decide +kernel
theorem dX3_actAt_31 : decode cX3_actAt 31 = .ok (.ireturn, 1) := by decide +kernel
set_option maxRecDepth 20000 in
theorem ggX3_bars_X3_holds : GoodIn wsX3_bars wsX3_holds := goodIn_r _ [7, 8, 9, 10, 11, 12, 13, 14, 15, 16, 17, 18, 19, 20, 21, 22] (by decide +kernel) (by decide +kernel)
set_option maxRecDepth 20000 in
theorem gX3_bars_X3_holds : GoodIn wsX3_bars (wsV RX3 33 RX3 yX3_holds wsX3_holds) := goodIn_app (goodIn_of _ (by decide +kernel)) ggX3_bars_X3_holds
theorem dX3_bars_0 : decode cX3_bars 0 = .ok (.aload_n 0, 1) := by decide +kernel
theorem dX3_bars_1 : decode cX3_bars 1 = .ok (.getfield 26, 3) := by decide +kernel
theorem dX3_bars_4 : decode cX3_bars 4 = .ok (.ifCond .ne 22, 3) := by decide +kernel
theorem dX3_bars_7 : decode cX3_bars 7 = .ok (.aload_n 0, 1) := by decide +kernel
theorem dX3_bars_8 : decode cX3_bars 8 = .ok (.getfield 29, 3) := by decide +kernel
theorem dX3_bars_11 : decode cX3_bars 11 = .ok (.ifCond .ne 11, 3) := by decide +kernel
theorem dX3_bars_14 : decode cX3_bars 14 = .ok (.aload_n 0, 1) := by decide +kernel
theorem dX3_bars_15 : decode cX3_bars 15 = .ok (.iload_n 1, 1) := by decide +kernel
theorem dX3_bars_16 : decode cX3_bars 16 = .ok (.invokevirtual 33, 3) := by decide +kernel
theorem dX3_bars_19 : decode cX3_bars 19 = .ok (.ifCond .eq 7, 3) := by decide +kernel
theorem dX3_bars_22 : decode cX3_bars 22 = .ok (.iconst 1, 1) := by decide +kernel
theorem dX3_bars_23 : decode cX3_bars 23 = .ok (.goto 4, 3) := by decide +kernel
theorem dX3_bars_26 : decode cX3_bars 26 = .ok (.iconst 0, 1) := by decide +kernel
theorem dX3_bars_27 : decode cX3_bars 27 = .ok (.ireturn, 1) := by decide +kernel
theorem dX3_holds_0 : decode cX3_holds 0 = .ok (.iload_n 1, 1) := by decide +kernel
theorem dX3_holds_1 : decode cX3_holds 1 = .ok (.ifCond .eq 18, 3) := by decide +kernel
theorem dX3_holds_4 : decode cX3_holds 4 = .ok (.aload_n 0, 1) := by decide +kernel
theorem dX3_holds_5 : decode cX3_holds 5 = .ok (.getfield 37, 3) := by decide +kernel
theorem dX3_holds_8 : decode cX3_holds 8 = .ok (.aload_n 0, 1) := by decide +kernel
theorem dX3_holds_9 : decode cX3_holds 9 = .ok (.getfield 40, 3) := by decide +kernel
theorem dX3_holds_12 : decode cX3_holds 12 = .ok (.if_icmp .lt 7, 3) := by decide +kernel
theorem dX3_holds_15 : decode cX3_holds 15 = .ok (.iconst 1, 1) := by decide +kernel
theorem dX3_holds_16 : decode cX3_holds 16 = .ok (.goto 4, 3) := by decide +kernel
theorem dX3_holds_19 : decode cX3_holds 19 = .ok (.iconst 0, 1) := by decide +kernel
theorem dX3_holds_20 : decode cX3_holds 20 = .ok (.ireturn, 1) := by decide +kernel
set_option maxRecDepth 20000 in
theorem ggX3_letGoBy_X3_holds : GoodIn wsX3_letGoBy wsX3_holds := goodIn_r _ [17, 7, 18, 19, 20, 21, 22, 23, 24, 25, 26, 27, 28, 29, 30, 31] (by decide +kernel) (by decide +kernel)
set_option maxRecDepth 20000 in
theorem gX3_letGoBy_X3_holds : GoodIn wsX3_letGoBy (wsV RX3 33 RX3 yX3_holds wsX3_holds) := goodIn_app (goodIn_of _ (by decide +kernel)) ggX3_letGoBy_X3_holds
theorem dX3_letGoBy_0 : decode cX3_letGoBy 0 = .ok (.aload_n 0, 1) := by decide +kernel
theorem dX3_letGoBy_1 : decode cX3_letGoBy 1 = .ok (.iconst 0, 1) := by decide +kernel
theorem dX3_letGoBy_2 : decode cX3_letGoBy 2 = .ok (.aload_n 0, 1) := by decide +kernel
theorem dX3_letGoBy_3 : decode cX3_letGoBy 3 = .ok (.getfield 26, 3) := by decide +kernel
theorem dX3_letGoBy_6 : decode cX3_letGoBy 6 = .ok (.iload_n 1, 1) := by decide +kernel
theorem dX3_letGoBy_7 : decode cX3_letGoBy 7 = .ok (.isub, 1) := by decide +kernel
theorem dX3_letGoBy_8 : decode cX3_letGoBy 8 = .ok (.invokestatic 43, 3) := by decide +kernel
theorem dX3_letGoBy_11 : decode cX3_letGoBy 11 = .ok (.putfield 26, 3) := by decide +kernel
theorem dX3_letGoBy_14 : decode cX3_letGoBy 14 = .ok (.aload_n 0, 1) := by decide +kernel
theorem dX3_letGoBy_15 : decode cX3_letGoBy 15 = .ok (.iload_n 2, 1) := by decide +kernel
theorem dX3_letGoBy_16 : decode cX3_letGoBy 16 = .ok (.ifCond .eq 17, 3) := by decide +kernel
theorem dX3_letGoBy_19 : decode cX3_letGoBy 19 = .ok (.ldc 49, 2) := by decide +kernel
theorem dX3_letGoBy_21 : decode cX3_letGoBy 21 = .ok (.aload_n 0, 1) := by decide +kernel
theorem dX3_letGoBy_22 : decode cX3_letGoBy 22 = .ok (.getfield 37, 3) := by decide +kernel
theorem dX3_letGoBy_25 : decode cX3_letGoBy 25 = .ok (.iload_n 1, 1) := by decide +kernel
theorem dX3_letGoBy_26 : decode cX3_letGoBy 26 = .ok (.iadd, 1) := by decide +kernel
theorem dX3_letGoBy_27 : decode cX3_letGoBy 27 = .ok (.invokestatic 50, 3) := by decide +kernel
theorem dX3_letGoBy_30 : decode cX3_letGoBy 30 = .ok (.goto 4, 3) := by decide +kernel
theorem dX3_letGoBy_33 : decode cX3_letGoBy 33 = .ok (.iconst 0, 1) := by decide +kernel
theorem dX3_letGoBy_34 : decode cX3_letGoBy 34 = .ok (.putfield 37, 3) := by decide +kernel
theorem dX3_letGoBy_37 : decode cX3_letGoBy 37 = .ok (.aload_n 0, 1) := by decide +kernel
theorem dX3_letGoBy_38 : decode cX3_letGoBy 38 = .ok (.getfield 53, 3) := by decide +kernel
theorem dX3_letGoBy_41 : decode cX3_letGoBy 41 = .ok (.ifCond .eq 16, 3) := by decide +kernel
theorem dX3_letGoBy_44 : decode cX3_letGoBy 44 = .ok (.aload_n 0, 1) := by decide +kernel
theorem dX3_letGoBy_45 : decode cX3_letGoBy 45 = .ok (.iload_n 2, 1) := by decide +kernel
theorem dX3_letGoBy_46 : decode cX3_letGoBy 46 = .ok (.invokevirtual 33, 3) := by decide +kernel
theorem dX3_letGoBy_49 : decode cX3_letGoBy 49 = .ok (.ifCond .eq 8, 3) := by decide +kernel
theorem dX3_letGoBy_52 : decode cX3_letGoBy 52 = .ok (.aload_n 0, 1) := by decide +kernel
theorem dX3_letGoBy_53 : decode cX3_letGoBy 53 = .ok (.iconst 1, 1) := by decide +kernel
theorem dX3_letGoBy_54 : decode cX3_letGoBy 54 = .ok (.putfield 29, 3) := by decide +kernel
theorem dX3_letGoBy_57 : decode cX3_letGoBy 57 = .ok (.return_, 1) := by decide +kernel
theorem dX4_init_0 : decode cX4_init 0 = .ok (.aload_n 0, 1) := by decide +kernel
theorem dX4_init_1 : decode cX4_init 1 = .ok (.invokespecial 3, 3) := by decide +kernel
theorem dX4_init_4 : decode cX4_init 4 = .ok (.aload_n 0, 1) := by decide +kernel
theorem dX4_init_5 : decode cX4_init 5 = .ok (.bipush 16, 2) := by decide +kernel
theorem dX4_init_7 : decode cX4_init 7 = .ok (.newarray .int, 2) := by decide +kernel
theorem dX4_init_9 : decode cX4_init 9 = .ok (.putfield 9, 3) := by decide +kernel
theorem dX4_init_12 : decode cX4_init 12 = .ok (.aload_n 0, 1) := by decide +kernel
theorem dX4_init_13 : decode cX4_init 13 = .ok (.bipush 16, 2) := by decide +kernel
theorem dX4_init_15 : decode cX4_init 15 = .ok (.newarray .long, 2) := by decide +kernel
theorem dX4_init_17 : decode cX4_init 17 = .ok (.putfield 15, 3) := by decide +kernel
theorem dX4_init_20 : decode cX4_init 20 = .ok (.aload_n 0, 1) := by decide +kernel
theorem dX4_init_21 : decode cX4_init 21 = .ok (.bipush 32, 2) := by decide +kernel
theorem dX4_init_23 : decode cX4_init 23 = .ok (.newarray .long, 2) := by decide +kernel
theorem dX4_init_25 : decode cX4_init 25 = .ok (.putfield 19, 3) := by decide +kernel
theorem dX4_init_28 : decode cX4_init 28 = .ok (.aload_n 0, 1) := by decide +kernel
theorem dX4_init_29 : decode cX4_init 29 = .ok (.aload_n 1, 1) := by decide +kernel
theorem dX4_init_30 : decode cX4_init 30 = .ok (.putfield 22, 3) := by decide +kernel
theorem dX4_init_33 : decode cX4_init 33 = .ok (.return_, 1) := by decide +kernel
set_option maxRecDepth 20000 in
theorem ggX4_markRows_X4_findUsed : GoodIn wsX4_markRows wsX4_findUsed := goodIn_r _ [11, 6, 1, 12, 13, 14, 15, 16, 17, 18, 19, 20, 21, 22, 23, 24, 25, 26, 99, 100, 101, 102, 103, 104, 105, 106, 107, 108, 109, 110] (by decide +kernel) (by decide +kernel)
set_option maxRecDepth 20000 in
theorem gX4_markRows_X4_findUsed : GoodIn wsX4_markRows (wsV RX4 26 RX4 yX4_findUsed wsX4_findUsed) := goodIn_app (goodIn_of _ (by decide +kernel)) ggX4_markRows_X4_findUsed
set_option maxRecDepth 20000 in
theorem ggX4_markRows_X5_size : GoodIn wsX4_markRows wsX5_size := goodIn_r _ [31, 32, 33, 34, 35, 36, 37, 38, 104, 105, 106, 107, 111, 112, 113] (by decide +kernel) (by decide +kernel)
set_option maxRecDepth 20000 in
theorem gX4_markRows_X5_size : GoodIn wsX4_markRows (wsV RX4 42 RX5 yX5_size wsX5_size) := goodIn_app (goodIn_of _ (by decide +kernel)) ggX4_markRows_X5_size
set_option maxRecDepth 20000 in
theorem ggX4_markRows_X4_set : GoodIn wsX4_markRows wsX4_set := goodIn_r _ [42, 1, 12, 43, 99, 100, 101, 102, 103] (by decide +kernel) (by decide +kernel)
set_option maxRecDepth 20000 in
theorem gX4_markRows_X4_set : GoodIn wsX4_markRows (wsV RX4 48 RX4 yX4_set wsX4_set) := goodIn_app (goodIn_of _ (by decide +kernel)) ggX4_markRows_X4_set
set_option maxRecDepth 20000 in
theorem ggX4_markRows_X4_markBlock : GoodIn wsX4_markRows wsX4_markBlock := goodIn_r _ [47, 48, 6, 49, 43, 50, 51, 52, 53, 27, 28, 29, 30, 31, 32, 33, 34, 35, 36, 37, 38, 54, 55, 56, 57, 58, 59, 60, 61, 62, 63, 64, 65, 66, 67, 68, 69, 70, 71, 72, 73, 74, 75, 76, 77, 78, 16, 79, 80, 81, 82, 20, 21, 22, 18, 23, 83, 25, 26, 84, 85, 86, 87, 88, 89, 10, 90, 91, 92, 93, 94, 95, 96, 97, 98, 99, 100, 101, 102, 103, 104, 105, 106, 107, 114, 115, 116, 117, 118, 119, 120, 121, 122, 123, 124, 125, 126, 111, 112, 113, 108, 109, 110] (by decide +kernel) (by decide +kernel)
set_option maxRecDepth 20000 in
theorem gX4_markRows_X4_markBlock : GoodIn wsX4_markRows (wsV RX4 52 RX4 yX4_markBlock wsX4_markBlock) := goodIn_app (goodIn_of _ (by decide +kernel)) ggX4_markRows_X4_markBlock
theorem dX4_markRows_0 : decode cX4_markRows 0 = .ok (.aload_n 0, 1) := by decide +kernel
theorem dX4_markRows_1 : decode cX4_markRows 1 = .ok (.invokevirtual 26, 3) := by decide +kernel
theorem dX4_markRows_4 : decode cX4_markRows 4 = .ok (.iconst 1, 1) := by decide +kernel
theorem dX4_markRows_5 : decode cX4_markRows 5 = .ok (.iconst 0, 1) := by decide +kernel
theorem dX4_markRows_6 : decode cX4_markRows 6 = .ok (.aload_n 0, 1) := by decide +kernel
theorem dX4_markRows_7 : decode cX4_markRows 7 = .ok (.getfield 29, 3) := by decide +kernel
theorem dX4_markRows_10 : decode cX4_markRows 10 = .ok (.getstatic 33, 3) := by decide +kernel
theorem dX4_markRows_13 : decode cX4_markRows 13 = .ok (.arraylength, 1) := by decide +kernel
theorem dX4_markRows_14 : decode cX4_markRows 14 = .ok (.isub, 1) := by decide +kernel
theorem dX4_markRows_15 : decode cX4_markRows 15 = .ok (.invokestatic 36, 3) := by decide +kernel
theorem dX4_markRows_18 : decode cX4_markRows 18 = .ok (.ishl, 1) := by decide +kernel
theorem dX4_markRows_19 : decode cX4_markRows 19 = .ok (.istore_n 1, 1) := by decide +kernel
theorem dX4_markRows_20 : decode cX4_markRows 20 = .ok (.aload_n 0, 1) := by decide +kernel
theorem dX4_markRows_21 : decode cX4_markRows 21 = .ok (.getfield 22, 3) := by decide +kernel
theorem dX4_markRows_24 : decode cX4_markRows 24 = .ok (.invokevirtual 42, 3) := by decide +kernel
theorem dX4_markRows_27 : decode cX4_markRows 27 = .ok (.istore_n 2, 1) := by decide +kernel
theorem dX4_markRows_28 : decode cX4_markRows 28 = .ok (.iconst 0, 1) := by decide +kernel
theorem dX4_markRows_29 : decode cX4_markRows 29 = .ok (.istore_n 3, 1) := by decide +kernel
theorem dX4_markRows_30 : decode cX4_markRows 30 = .ok (.iload_n 3, 1) := by decide +kernel
theorem dX4_markRows_31 : decode cX4_markRows 31 = .ok (.iload_n 1, 1) := by decide +kernel
theorem dX4_markRows_32 : decode cX4_markRows 32 = .ok (.if_icmp .ge 25, 3) := by decide +kernel
theorem dX4_markRows_35 : decode cX4_markRows 35 = .ok (.iload_n 2, 1) := by decide +kernel
theorem dX4_markRows_36 : decode cX4_markRows 36 = .ok (.ifCond .le 21, 3) := by decide +kernel
theorem dX4_markRows_39 : decode cX4_markRows 39 = .ok (.aload_n 0, 1) := by decide +kernel
theorem dX4_markRows_40 : decode cX4_markRows 40 = .ok (.iload_n 3, 1) := by decide +kernel
theorem dX4_markRows_41 : decode cX4_markRows 41 = .ok (.invokevirtual 48, 3) := by decide +kernel
theorem dX4_markRows_44 : decode cX4_markRows 44 = .ok (.iload_n 2, 1) := by decide +kernel
theorem dX4_markRows_45 : decode cX4_markRows 45 = .ok (.aload_n 0, 1) := by decide +kernel
theorem dX4_markRows_46 : decode cX4_markRows 46 = .ok (.invokevirtual 52, 3) := by decide +kernel
theorem dX4_markRows_49 : decode cX4_markRows 49 = .ok (.isub, 1) := by decide +kernel
theorem dX4_markRows_50 : decode cX4_markRows 50 = .ok (.istore_n 2, 1) := by decide +kernel
theorem dX4_markRows_51 : decode cX4_markRows 51 = .ok (.iinc 3 1, 3) := by decide +kernel
theorem dX4_markRows_54 : decode cX4_markRows 54 = .ok (.goto (-24), 3) := by decide +kernel
theorem dX4_markRows_57 : decode cX4_markRows 57 = .ok (.return_, 1) := by decide +kernel
set_option maxRecDepth 20000 in
theorem ggX4_findUsed_X1_size : GoodIn wsX4_findUsed wsX1_size := goodIn_r _ [8, 9, 27, 28, 29] (by decide +kernel) (by decide +kernel)
set_option maxRecDepth 20000 in
theorem gX4_findUsed_X1_size : GoodIn wsX4_findUsed (wsV RX4 59 RX1 yX1_size wsX1_size) := goodIn_app (goodIn_of _ (by decide +kernel)) ggX4_findUsed_X1_size
set_option maxRecDepth 20000 in
theorem ggX4_findUsed_X1_at : GoodIn wsX4_findUsed wsX1_at := goodIn_r _ [13, 9, 14, 27, 28, 29] (by decide +kernel) (by decide +kernel)
set_option maxRecDepth 20000 in
theorem gX4_findUsed_X1_at : GoodIn wsX4_findUsed (wsV RX4 62 RX1 yX1_at wsX1_at) := goodIn_app (goodIn_of _ (by decide +kernel)) ggX4_findUsed_X1_at
set_option maxRecDepth 20000 in
theorem ggX4_findUsed_X1_isCondition : GoodIn wsX4_findUsed wsX1_isCondition := goodIn_r _ [17] (by decide +kernel) (by decide +kernel)
set_option maxRecDepth 20000 in
theorem gX4_findUsed_X1_isCondition : GoodIn wsX4_findUsed (va_wsS RX4 66 yX1_isCondition wsX1_isCondition) := goodIn_app (goodIn_of _ (by decide +kernel)) ggX4_findUsed_X1_isCondition
theorem dX4_findUsed_0 : decode cX4_findUsed 0 = .ok (.iconst 0, 1) := by decide +kernel
theorem dX4_findUsed_1 : decode cX4_findUsed 1 = .ok (.istore_n 1, 1) := by decide +kernel
theorem dX4_findUsed_2 : decode cX4_findUsed 2 = .ok (.aload_n 0, 1) := by decide +kernel
theorem dX4_findUsed_3 : decode cX4_findUsed 3 = .ok (.getfield 22, 3) := by decide +kernel
theorem dX4_findUsed_6 : decode cX4_findUsed 6 = .ok (.getfield 55, 3) := by decide +kernel
theorem dX4_findUsed_9 : decode cX4_findUsed 9 = .ok (.astore_n 2, 1) := by decide +kernel
theorem dX4_findUsed_10 : decode cX4_findUsed 10 = .ok (.iconst 0, 1) := by decide +kernel
theorem dX4_findUsed_11 : decode cX4_findUsed 11 = .ok (.istore_n 3, 1) := by decide +kernel
theorem dX4_findUsed_12 : decode cX4_findUsed 12 = .ok (.iload_n 3, 1) := by decide +kernel
theorem dX4_findUsed_13 : decode cX4_findUsed 13 = .ok (.aload_n 2, 1) := by decide +kernel
theorem dX4_findUsed_14 : decode cX4_findUsed 14 = .ok (.invokevirtual 59, 3) := by decide +kernel
theorem dX4_findUsed_17 : decode cX4_findUsed 17 = .ok (.if_icmp .ge 31, 3) := by decide +kernel
theorem dX4_findUsed_20 : decode cX4_findUsed 20 = .ok (.aload_n 2, 1) := by decide +kernel
theorem dX4_findUsed_21 : decode cX4_findUsed 21 = .ok (.iload_n 3, 1) := by decide +kernel
theorem dX4_findUsed_22 : decode cX4_findUsed 22 = .ok (.invokevirtual 62, 3) := by decide +kernel
theorem dX4_findUsed_25 : decode cX4_findUsed 25 = .ok (.istore 4, 2) := by decide +kernel
theorem dX4_findUsed_27 : decode cX4_findUsed 27 = .ok (.iload 4, 2) := by decide +kernel
theorem dX4_findUsed_29 : decode cX4_findUsed 29 = .ok (.invokestatic 66, 3) := by decide +kernel
theorem dX4_findUsed_32 : decode cX4_findUsed 32 = .ok (.ifCond .eq 10, 3) := by decide +kernel
theorem dX4_findUsed_35 : decode cX4_findUsed 35 = .ok (.iload_n 1, 1) := by decide +kernel
theorem dX4_findUsed_36 : decode cX4_findUsed 36 = .ok (.iconst 1, 1) := by decide +kernel
theorem dX4_findUsed_37 : decode cX4_findUsed 37 = .ok (.iload 4, 2) := by decide +kernel
theorem dX4_findUsed_39 : decode cX4_findUsed 39 = .ok (.ishl, 1) := by decide +kernel
theorem dX4_findUsed_40 : decode cX4_findUsed 40 = .ok (.ior, 1) := by decide +kernel
theorem dX4_findUsed_41 : decode cX4_findUsed 41 = .ok (.istore_n 1, 1) := by decide +kernel
theorem dX4_findUsed_42 : decode cX4_findUsed 42 = .ok (.iinc 3 1, 3) := by decide +kernel
theorem dX4_findUsed_45 : decode cX4_findUsed 45 = .ok (.goto (-33), 3) := by decide +kernel
theorem dX4_findUsed_48 : decode cX4_findUsed 48 = .ok (.iconst 0, 1) := by decide +kernel
theorem dX4_findUsed_49 : decode cX4_findUsed 49 = .ok (.istore_n 3, 1) := by decide +kernel
theorem dX4_findUsed_50 : decode cX4_findUsed 50 = .ok (.iload_n 3, 1) := by decide +kernel
theorem dX4_findUsed_51 : decode cX4_findUsed 51 = .ok (.bipush 16, 2) := by decide +kernel
theorem dX4_findUsed_53 : decode cX4_findUsed 53 = .ok (.if_icmp .ge 49, 3) := by decide +kernel
theorem dX4_findUsed_56 : decode cX4_findUsed 56 = .ok (.iload_n 1, 1) := by decide +kernel
theorem dX4_findUsed_57 : decode cX4_findUsed 57 = .ok (.iload_n 3, 1) := by decide +kernel
theorem dX4_findUsed_58 : decode cX4_findUsed 58 = .ok (.iushr, 1) := by decide +kernel
theorem dX4_findUsed_59 : decode cX4_findUsed 59 = .ok (.iconst 1, 1) := by decide +kernel
theorem dX4_findUsed_60 : decode cX4_findUsed 60 = .ok (.iand, 1) := by decide +kernel
theorem dX4_findUsed_61 : decode cX4_findUsed 61 = .ok (.ifCond .eq 35, 3) := by decide +kernel
theorem dX4_findUsed_64 : decode cX4_findUsed 64 = .ok (.aload_n 0, 1) := by decide +kernel
theorem dX4_findUsed_65 : decode cX4_findUsed 65 = .ok (.getfield 29, 3) := by decide +kernel
theorem dX4_findUsed_68 : decode cX4_findUsed 68 = .ok (.aload_n 0, 1) := by decide +kernel
theorem dX4_findUsed_69 : decode cX4_findUsed 69 = .ok (.getfield 9, 3) := by decide +kernel
theorem dX4_findUsed_72 : decode cX4_findUsed 72 = .ok (.arraylength, 1) := by decide +kernel
theorem dX4_findUsed_73 : decode cX4_findUsed 73 = .ok (.if_icmp .ge 23, 3) := by decide +kernel
theorem dX4_findUsed_76 : decode cX4_findUsed 76 = .ok (.aload_n 0, 1) := by decide +kernel
theorem dX4_findUsed_77 : decode cX4_findUsed 77 = .ok (.getfield 9, 3) := by decide +kernel
theorem dX4_findUsed_80 : decode cX4_findUsed 80 = .ok (.aload_n 0, 1) := by decide +kernel
theorem dX4_findUsed_81 : decode cX4_findUsed 81 = .ok (.getfield 29, 3) := by decide +kernel
theorem dX4_findUsed_84 : decode cX4_findUsed 84 = .ok (.iload_n 3, 1) := by decide +kernel
theorem dX4_findUsed_85 : decode cX4_findUsed 85 = .ok (.iastore, 1) := by decide +kernel
theorem dX4_findUsed_86 : decode cX4_findUsed 86 = .ok (.aload_n 0, 1) := by decide +kernel
theorem dX4_findUsed_87 : decode cX4_findUsed 87 = .ok (.dup, 1) := by decide +kernel
theorem dX4_findUsed_88 : decode cX4_findUsed 88 = .ok (.getfield 29, 3) := by decide +kernel
theorem dX4_findUsed_91 : decode cX4_findUsed 91 = .ok (.iconst 1, 1) := by decide +kernel
theorem dX4_findUsed_92 : decode cX4_findUsed 92 = .ok (.iadd, 1) := by decide +kernel
theorem dX4_findUsed_93 : decode cX4_findUsed 93 = .ok (.putfield 29, 3) := by decide +kernel
theorem dX4_findUsed_96 : decode cX4_findUsed 96 = .ok (.iinc 3 1, 3) := by decide +kernel
theorem dX4_findUsed_99 : decode cX4_findUsed 99 = .ok (.goto (-49), 3) := by decide +kernel
theorem dX4_findUsed_102 : decode cX4_findUsed 102 = .ok (.return_, 1) := by decide +kernel
theorem dX4_set_0 : decode cX4_set 0 = .ok (.iconst 0, 1) := by decide +kernel
theorem dX4_set_1 : decode cX4_set 1 = .ok (.istore_n 2, 1) := by decide +kernel
theorem dX4_set_2 : decode cX4_set 2 = .ok (.iload_n 2, 1) := by decide +kernel
theorem dX4_set_3 : decode cX4_set 3 = .ok (.aload_n 0, 1) := by decide +kernel
theorem dX4_set_4 : decode cX4_set 4 = .ok (.getfield 29, 3) := by decide +kernel
theorem dX4_set_7 : decode cX4_set 7 = .ok (.if_icmp .ge 69, 3) := by decide +kernel
theorem dX4_set_10 : decode cX4_set 10 = .ok (.iload_n 2, 1) := by decide +kernel
theorem dX4_set_11 : decode cX4_set 11 = .ok (.getstatic 33, 3) := by decide +kernel
theorem dX4_set_14 : decode cX4_set 14 = .ok (.arraylength, 1) := by decide +kernel
theorem dX4_set_15 : decode cX4_set 15 = .ok (.if_icmp .ge 11, 3) := by decide +kernel
theorem dX4_set_18 : decode cX4_set 18 = .ok (.getstatic 33, 3) := by decide +kernel
theorem dX4_set_21 : decode cX4_set 21 = .ok (.iload_n 2, 1) := by decide +kernel
theorem dX4_set_22 : decode cX4_set 22 = .ok (.laload, 1) := by decide +kernel
theorem dX4_set_23 : decode cX4_set 23 = .ok (.goto 15, 3) := by decide +kernel
theorem dX4_set_26 : decode cX4_set 26 = .ok (.iload_n 1, 1) := by decide +kernel
theorem dX4_set_27 : decode cX4_set 27 = .ok (.iload_n 2, 1) := by decide +kernel
theorem dX4_set_28 : decode cX4_set 28 = .ok (.getstatic 33, 3) := by decide +kernel
theorem dX4_set_31 : decode cX4_set 31 = .ok (.arraylength, 1) := by decide +kernel
theorem dX4_set_32 : decode cX4_set 32 = .ok (.isub, 1) := by decide +kernel
theorem dX4_set_33 : decode cX4_set 33 = .ok (.iushr, 1) := by decide +kernel
theorem dX4_set_34 : decode cX4_set 34 = .ok (.iconst 1, 1) := by decide +kernel
theorem dX4_set_35 : decode cX4_set 35 = .ok (.iand, 1) := by decide +kernel
theorem dX4_set_36 : decode cX4_set 36 = .ok (.i2l, 1) := by decide +kernel
theorem dX4_set_37 : decode cX4_set 37 = .ok (.lneg, 1) := by decide +kernel
theorem dX4_set_38 : decode cX4_set 38 = .ok (.lstore_n 3, 1) := by decide +kernel
theorem dX4_set_39 : decode cX4_set 39 = .ok (.aload_n 0, 1) := by decide +kernel
theorem dX4_set_40 : decode cX4_set 40 = .ok (.getfield 9, 3) := by decide +kernel
theorem dX4_set_43 : decode cX4_set 43 = .ok (.iload_n 2, 1) := by decide +kernel
theorem dX4_set_44 : decode cX4_set 44 = .ok (.iaload, 1) := by decide +kernel
theorem dX4_set_45 : decode cX4_set 45 = .ok (.istore 5, 2) := by decide +kernel
theorem dX4_set_47 : decode cX4_set 47 = .ok (.iload 5, 2) := by decide +kernel
theorem dX4_set_49 : decode cX4_set 49 = .ok (.ifCond .lt 21, 3) := by decide +kernel
theorem dX4_set_52 : decode cX4_set 52 = .ok (.iload 5, 2) := by decide +kernel
theorem dX4_set_54 : decode cX4_set 54 = .ok (.aload_n 0, 1) := by decide +kernel
theorem dX4_set_55 : decode cX4_set 55 = .ok (.getfield 15, 3) := by decide +kernel
theorem dX4_set_58 : decode cX4_set 58 = .ok (.arraylength, 1) := by decide +kernel
theorem dX4_set_59 : decode cX4_set 59 = .ok (.if_icmp .ge 11, 3) := by decide +kernel
theorem dX4_set_62 : decode cX4_set 62 = .ok (.aload_n 0, 1) := by decide +kernel
theorem dX4_set_63 : decode cX4_set 63 = .ok (.getfield 15, 3) := by decide +kernel
theorem dX4_set_66 : decode cX4_set 66 = .ok (.iload 5, 2) := by decide +kernel
theorem dX4_set_68 : decode cX4_set 68 = .ok (.lload_n 3, 1) := by decide +kernel
theorem dX4_set_69 : decode cX4_set 69 = .ok (.lastore, 1) := by decide +kernel
theorem dX4_set_70 : decode cX4_set 70 = .ok (.iinc 2 1, 3) := by decide +kernel
theorem dX4_set_73 : decode cX4_set 73 = .ok (.goto (-71), 3) := by decide +kernel
theorem dX4_set_76 : decode cX4_set 76 = .ok (.return_, 1) := by decide +kernel
set_option maxRecDepth 20000 in
theorem ggX4_markBlock_J7_fill_d0a16 : GoodIn wsX4_markBlock wsJ7_fill_d0a16 := goodIn_r _ [8] (by decide +kernel) (by decide +kernel)
set_option maxRecDepth 20000 in
theorem gX4_markBlock_J7_fill_d0a16 : GoodIn wsX4_markBlock (va_wsS RX4 70 yJ7_fill_d0a16 wsJ7_fill_d0a16) := goodIn_app (goodIn_of _ (by decide +kernel)) ggX4_markBlock_J7_fill_d0a16
set_option maxRecDepth 20000 in
theorem ggX4_markBlock_X5_size : GoodIn wsX4_markBlock wsX5_size := goodIn_r _ [13, 14, 15, 16, 17, 18, 19, 20, 80, 81, 82, 83, 97, 98, 99] (by decide +kernel) (by decide +kernel)
set_option maxRecDepth 20000 in
theorem gX4_markBlock_X5_size : GoodIn wsX4_markBlock (wsV RX4 42 RX5 yX5_size wsX5_size) := goodIn_app (goodIn_of _ (by decide +kernel)) ggX4_markBlock_X5_size
set_option maxRecDepth 20000 in
theorem ggX4_markBlock_Jx4a65c_get_915e3 : GoodIn wsX4_markBlock wsJx4a65c_get_915e3 := goodIn_r _ [24, 20, 25, 26, 27, 28, 29, 30, 31, 32, 33, 34, 35, 18, 36, 37, 97, 98, 99] (by decide +kernel) (by decide +kernel)
set_option maxRecDepth 20000 in
theorem gX4_markBlock_Jx4a65c_get_915e3 : GoodIn wsX4_markBlock (wsV RX4 80 RJx4a65c yJx4a65c_get_915e3 wsJx4a65c_get_915e3) := goodIn_app (goodIn_of _ (by decide +kernel)) ggX4_markBlock_Jx4a65c_get_915e3
set_option maxRecDepth 20000 in
theorem ggX4_markBlock_X5_valueOf : GoodIn wsX4_markBlock wsX5_valueOf := goodIn_r _ [41, 42, 43, 44, 45, 46, 47, 48, 49, 50, 51, 52, 53, 54, 55, 56, 57, 58, 59, 60, 61, 80, 81, 82, 83, 84, 85, 86, 87, 88, 89, 90, 91, 92, 93, 94, 95, 96, 100, 101, 102] (by decide +kernel) (by decide +kernel)
set_option maxRecDepth 20000 in
theorem gX4_markBlock_X5_valueOf : GoodIn wsX4_markBlock (wsV RX4 88 RX5 yX5_valueOf wsX5_valueOf) := goodIn_app (goodIn_of _ (by decide +kernel)) ggX4_markBlock_X5_valueOf
set_option maxRecDepth 20000 in
theorem ggX4_markBlock_X4_cover : GoodIn wsX4_markBlock wsX4_cover := goodIn_r _ [66, 1, 67, 68, 69, 70, 71, 72, 73, 74, 84, 85, 86, 87, 88, 89, 90, 91, 92, 93, 94, 95, 96, 75, 76, 77, 78, 79] (by decide +kernel) (by decide +kernel)
set_option maxRecDepth 20000 in
theorem gX4_markBlock_X4_cover : GoodIn wsX4_markBlock (wsV RX4 92 RX4 yX4_cover wsX4_cover) := goodIn_app (goodIn_of _ (by decide +kernel)) ggX4_markBlock_X4_cover
theorem dX4_markBlock_0 : decode cX4_markBlock 0 = .ok (.aload_n 0, 1) := by decide +kernel
theorem dX4_markBlock_1 : decode cX4_markBlock 1 = .ok (.getfield 19, 3) := by decide +kernel
theorem dX4_markBlock_4 : decode cX4_markBlock 4 = .ok (.lconst 0, 1) := by decide +kernel
theorem dX4_markBlock_5 : decode cX4_markBlock 5 = .ok (.invokestatic 70, 3) := by decide +kernel
theorem dX4_markBlock_8 : decode cX4_markBlock 8 = .ok (.iconst 0, 1) := by decide +kernel
theorem dX4_markBlock_9 : decode cX4_markBlock 9 = .ok (.istore_n 1, 1) := by decide +kernel
theorem dX4_markBlock_10 : decode cX4_markBlock 10 = .ok (.iconst 0, 1) := by decide +kernel
theorem dX4_markBlock_11 : decode cX4_markBlock 11 = .ok (.istore_n 2, 1) := by decide +kernel
theorem dX4_markBlock_12 : decode cX4_markBlock 12 = .ok (.iload_n 2, 1) := by decide +kernel
theorem dX4_markBlock_13 : decode cX4_markBlock 13 = .ok (.aload_n 0, 1) := by decide +kernel
theorem dX4_markBlock_14 : decode cX4_markBlock 14 = .ok (.getfield 22, 3) := by decide +kernel
theorem dX4_markBlock_17 : decode cX4_markBlock 17 = .ok (.invokevirtual 42, 3) := by decide +kernel
theorem dX4_markBlock_20 : decode cX4_markBlock 20 = .ok (.if_icmp .ge 63, 3) := by decide +kernel
theorem dX4_markBlock_23 : decode cX4_markBlock 23 = .ok (.aload_n 0, 1) := by decide +kernel
theorem dX4_markBlock_24 : decode cX4_markBlock 24 = .ok (.getfield 22, 3) := by decide +kernel
theorem dX4_markBlock_27 : decode cX4_markBlock 27 = .ok (.getfield 76, 3) := by decide +kernel
theorem dX4_markBlock_30 : decode cX4_markBlock 30 = .ok (.iload_n 2, 1) := by decide +kernel
theorem dX4_markBlock_31 : decode cX4_markBlock 31 = .ok (.invokevirtual 80, 3) := by decide +kernel
theorem dX4_markBlock_34 : decode cX4_markBlock 34 = .ok (.checkcast 86, 3) := by decide +kernel
theorem dX4_markBlock_37 : decode cX4_markBlock 37 = .ok (.astore_n 3, 1) := by decide +kernel
theorem dX4_markBlock_38 : decode cX4_markBlock 38 = .ok (.aload_n 0, 1) := by decide +kernel
theorem dX4_markBlock_39 : decode cX4_markBlock 39 = .ok (.aload_n 3, 1) := by decide +kernel
theorem dX4_markBlock_40 : decode cX4_markBlock 40 = .ok (.aload_n 0, 1) := by decide +kernel
theorem dX4_markBlock_41 : decode cX4_markBlock 41 = .ok (.getfield 22, 3) := by decide +kernel
theorem dX4_markBlock_44 : decode cX4_markBlock 44 = .ok (.aload_n 3, 1) := by decide +kernel
theorem dX4_markBlock_45 : decode cX4_markBlock 45 = .ok (.aload_n 0, 1) := by decide +kernel
theorem dX4_markBlock_46 : decode cX4_markBlock 46 = .ok (.getfield 15, 3) := by decide +kernel
theorem dX4_markBlock_49 : decode cX4_markBlock 49 = .ok (.invokevirtual 88, 3) := by decide +kernel
theorem dX4_markBlock_52 : decode cX4_markBlock 52 = .ok (.invokevirtual 92, 3) := by decide +kernel
theorem dX4_markBlock_55 : decode cX4_markBlock 55 = .ok (.istore 4, 2) := by decide +kernel
theorem dX4_markBlock_57 : decode cX4_markBlock 57 = .ok (.iload 4, 2) := by decide +kernel
theorem dX4_markBlock_59 : decode cX4_markBlock 59 = .ok (.ifCond .eq 18, 3) := by decide +kernel
theorem dX4_markBlock_62 : decode cX4_markBlock 62 = .ok (.aload_n 3, 1) := by decide +kernel
theorem dX4_markBlock_63 : decode cX4_markBlock 63 = .ok (.getfield 96, 3) := by decide +kernel
theorem dX4_markBlock_66 : decode cX4_markBlock 66 = .ok (.ifCond .ne 11, 3) := by decide +kernel
theorem dX4_markBlock_69 : decode cX4_markBlock 69 = .ok (.aload_n 3, 1) := by decide +kernel
theorem dX4_markBlock_70 : decode cX4_markBlock 70 = .ok (.iconst 1, 1) := by decide +kernel
theorem dX4_markBlock_71 : decode cX4_markBlock 71 = .ok (.putfield 96, 3) := by decide +kernel
theorem dX4_markBlock_74 : decode cX4_markBlock 74 = .ok (.iinc 1 1, 3) := by decide +kernel
theorem dX4_markBlock_77 : decode cX4_markBlock 77 = .ok (.iinc 2 1, 3) := by decide +kernel
theorem dX4_markBlock_80 : decode cX4_markBlock 80 = .ok (.goto (-68), 3) := by decide +kernel
theorem dX4_markBlock_83 : decode cX4_markBlock 83 = .ok (.iload_n 1, 1) := by decide +kernel
theorem dX4_markBlock_84 : decode cX4_markBlock 84 = .ok (.ireturn, 1) := by decide +kernel
set_option maxRecDepth 20000 in
theorem ggX4_cover_X3_actAt : GoodIn wsX4_cover wsX3_actAt := goodIn_r _ [7, 8, 9, 10, 11, 12, 13, 14, 15, 16, 17, 18, 19, 20, 21, 22] (by decide +kernel) (by decide +kernel)
set_option maxRecDepth 20000 in
theorem gX4_cover_X3_actAt : GoodIn wsX4_cover (wsV RX4 103 RX3 yX3_actAt wsX3_actAt) := goodIn_app (goodIn_of _ (by decide +kernel)) ggX4_cover_X3_actAt
theorem dX4_cover_0 : decode cX4_cover 0 = .ok (.iconst 0, 1) := by decide +kernel
theorem dX4_cover_1 : decode cX4_cover 1 = .ok (.istore 4, 2) := by decide +kernel
theorem dX4_cover_3 : decode cX4_cover 3 = .ok (.iconst 0, 1) := by decide +kernel
theorem dX4_cover_4 : decode cX4_cover 4 = .ok (.istore 5, 2) := by decide +kernel
theorem dX4_cover_6 : decode cX4_cover 6 = .ok (.iload 5, 2) := by decide +kernel
theorem dX4_cover_8 : decode cX4_cover 8 = .ok (.aload_n 1, 1) := by decide +kernel
theorem dX4_cover_9 : decode cX4_cover 9 = .ok (.getfield 100, 3) := by decide +kernel
theorem dX4_cover_12 : decode cX4_cover 12 = .ok (.if_icmp .ge 71, 3) := by decide +kernel
theorem dX4_cover_15 : decode cX4_cover 15 = .ok (.aload_n 1, 1) := by decide +kernel
theorem dX4_cover_16 : decode cX4_cover 16 = .ok (.iload 5, 2) := by decide +kernel
theorem dX4_cover_18 : decode cX4_cover 18 = .ok (.invokevirtual 103, 3) := by decide +kernel
theorem dX4_cover_21 : decode cX4_cover 21 = .ok (.istore 6, 2) := by decide +kernel
theorem dX4_cover_23 : decode cX4_cover 23 = .ok (.iload 6, 2) := by decide +kernel
theorem dX4_cover_25 : decode cX4_cover 25 = .ok (.ifCond .lt 52, 3) := by decide +kernel
theorem dX4_cover_28 : decode cX4_cover 28 = .ok (.iload 6, 2) := by decide +kernel
theorem dX4_cover_30 : decode cX4_cover 30 = .ok (.aload_n 0, 1) := by decide +kernel
theorem dX4_cover_31 : decode cX4_cover 31 = .ok (.getfield 19, 3) := by decide +kernel
theorem dX4_cover_34 : decode cX4_cover 34 = .ok (.arraylength, 1) := by decide +kernel
theorem dX4_cover_35 : decode cX4_cover 35 = .ok (.if_icmp .ge 42, 3) := by decide +kernel
theorem dX4_cover_38 : decode cX4_cover 38 = .ok (.iload 4, 2) := by decide +kernel
theorem dX4_cover_40 : decode cX4_cover 40 = .ok (.lload_n 2, 1) := by decide +kernel
theorem dX4_cover_41 : decode cX4_cover 41 = .ok (.aload_n 0, 1) := by decide +kernel
theorem dX4_cover_42 : decode cX4_cover 42 = .ok (.getfield 19, 3) := by decide +kernel
end
section
theorem dX4_cover_45 : decode cX4_cover 45 = .ok (.iload 6, 2) := by decide +kernel
theorem dX4_cover_47 : decode cX4_cover 47 = .ok (.laload, 1) := by decide +kernel
theorem dX4_cover_48 : decode cX4_cover 48 = .ok (.ldc2_w 106, 3) := by decide +kernel
theorem dX4_cover_51 : decode cX4_cover 51 = .ok (.lxor, 1) := by decide +kernel
theorem dX4_cover_52 : decode cX4_cover 52 = .ok (.land, 1) := by decide +kernel
theorem dX4_cover_53 : decode cX4_cover 53 = .ok (.lconst 0, 1) := by decide +kernel
theorem dX4_cover_54 : decode cX4_cover 54 = .ok (.lcmp, 1) := by decide +kernel
theorem dX4_cover_55 : decode cX4_cover 55 = .ok (.ifCond .eq 7, 3) := by decide +kernel
theorem dX4_cover_58 : decode cX4_cover 58 = .ok (.iconst 1, 1) := by decide +kernel
theorem dX4_cover_59 : decode cX4_cover 59 = .ok (.goto 4, 3) := by decide +kernel
theorem dX4_cover_62 : decode cX4_cover 62 = .ok (.iconst 0, 1) := by decide +kernel
theorem dX4_cover_63 : decode cX4_cover 63 = .ok (.ior, 1) := by decide +kernel
theorem dX4_cover_64 : decode cX4_cover 64 = .ok (.istore 4, 2) := by decide +kernel
theorem dX4_cover_66 : decode cX4_cover 66 = .ok (.aload_n 0, 1) := by decide +kernel
theorem dX4_cover_67 : decode cX4_cover 67 = .ok (.getfield 19, 3) := by decide +kernel
theorem dX4_cover_70 : decode cX4_cover 70 = .ok (.iload 6, 2) := by decide +kernel
theorem dX4_cover_72 : decode cX4_cover 72 = .ok (.dup2, 1) := by decide +kernel
theorem dX4_cover_73 : decode cX4_cover 73 = .ok (.laload, 1) := by decide +kernel
theorem dX4_cover_74 : decode cX4_cover 74 = .ok (.lload_n 2, 1) := by decide +kernel
theorem dX4_cover_75 : decode cX4_cover 75 = .ok (.lor, 1) := by decide +kernel
theorem dX4_cover_76 : decode cX4_cover 76 = .ok (.lastore, 1) := by decide +kernel
theorem dX4_cover_77 : decode cX4_cover 77 = .ok (.iinc 5 1, 3) := by decide +kernel
theorem dX4_cover_80 : decode cX4_cover 80 = .ok (.goto (-74), 3) := by decide +kernel
theorem dX4_cover_83 : decode cX4_cover 83 = .ok (.iload 4, 2) := by decide +kernel
theorem dX4_cover_85 : decode cX4_cover 85 = .ok (.ireturn, 1) := by decide +kernel
set_option maxRecDepth 20000 in
theorem ggX5_init_Jx4a65c_init_da8c8 : GoodIn wsX5_init wsJx4a65c_init_da8c8 := goodIn_r _ [14, 15, 16, 17, 18, 19, 20, 21, 22, 23, 24, 25, 26, 2, 3, 39, 40, 41] (by decide +kernel) (by decide +kernel)
set_option maxRecDepth 20000 in
theorem gX5_init_Jx4a65c_init_da8c8 : GoodIn wsX5_init (wsJx4a65c_init_da8c8) := ggX5_init_Jx4a65c_init_da8c8
set_option maxRecDepth 20000 in
theorem ggX5_init_X1_init : GoodIn wsX5_init wsX1_init := goodIn_r _ [29, 30, 2, 3, 31, 32, 33, 34, 35, 36, 37, 38, 46, 47, 48] (by decide +kernel) (by decide +kernel)
set_option maxRecDepth 20000 in
theorem gX5_init_X1_init : GoodIn wsX5_init (wsX1_init) := ggX5_init_X1_init
theorem dX5_init_0 : decode cX5_init 0 = .ok (.aload_n 0, 1) := by decide +kernel
theorem dX5_init_1 : decode cX5_init 1 = .ok (.invokespecial 3, 3) := by decide +kernel
theorem dX5_init_4 : decode cX5_init 4 = .ok (.aload_n 0, 1) := by decide +kernel
theorem dX5_init_5 : decode cX5_init 5 = .ok (.new 9, 3) := by decide +kernel
theorem dX5_init_8 : decode cX5_init 8 = .ok (.dup, 1) := by decide +kernel
theorem dX5_init_9 : decode cX5_init 9 = .ok (.invokespecial 11, 3) := by decide +kernel
theorem dX5_init_12 : decode cX5_init 12 = .ok (.putfield 12, 3) := by decide +kernel
theorem dX5_init_15 : decode cX5_init 15 = .ok (.aload_n 0, 1) := by decide +kernel
theorem dX5_init_16 : decode cX5_init 16 = .ok (.new 18, 3) := by decide +kernel
theorem dX5_init_19 : decode cX5_init 19 = .ok (.dup, 1) := by decide +kernel
theorem dX5_init_20 : decode cX5_init 20 = .ok (.iload_n 1, 1) := by decide +kernel
theorem dX5_init_21 : decode cX5_init 21 = .ok (.invokespecial 20, 3) := by decide +kernel
theorem dX5_init_24 : decode cX5_init 24 = .ok (.putfield 23, 3) := by decide +kernel
theorem dX5_init_27 : decode cX5_init 27 = .ok (.return_, 1) := by decide +kernel
set_option maxRecDepth 20000 in
theorem ggX5_size_Jx4a65c_size_8abf5 : GoodIn wsX5_size wsJx4a65c_size_8abf5 := goodIn_r _ [6, 7, 12, 13, 14] (by decide +kernel) (by decide +kernel)
set_option maxRecDepth 20000 in
theorem gX5_size_Jx4a65c_size_8abf5 : GoodIn wsX5_size (wsV RX5 27 RJx4a65c yJx4a65c_size_8abf5 wsJx4a65c_size_8abf5) := goodIn_app (goodIn_of _ (by decide +kernel)) ggX5_size_Jx4a65c_size_8abf5
theorem dX5_size_0 : decode cX5_size 0 = .ok (.aload_n 0, 1) := by decide +kernel
theorem dX5_size_1 : decode cX5_size 1 = .ok (.getfield 12, 3) := by decide +kernel
theorem dX5_size_4 : decode cX5_size 4 = .ok (.invokevirtual 27, 3) := by decide +kernel
theorem dX5_size_7 : decode cX5_size 7 = .ok (.ireturn, 1) := by decide +kernel
set_option maxRecDepth 20000 in
theorem ggX5_find_Jx4a65c_size_8abf5 : GoodIn wsX5_find wsJx4a65c_size_8abf5 := goodIn_r _ [7, 8, 30, 31, 32] (by decide +kernel) (by decide +kernel)
set_option maxRecDepth 20000 in
theorem gX5_find_Jx4a65c_size_8abf5 : GoodIn wsX5_find (wsV RX5 27 RJx4a65c yJx4a65c_size_8abf5 wsJx4a65c_size_8abf5) := goodIn_app (goodIn_of _ (by decide +kernel)) ggX5_find_Jx4a65c_size_8abf5
set_option maxRecDepth 20000 in
theorem ggX5_find_Jx4a65c_get_915e3 : GoodIn wsX5_find wsJx4a65c_get_915e3 := goodIn_r _ [12, 8, 13, 14, 15, 16, 17, 18, 19, 20, 21, 22, 23, 6, 24, 25, 30, 31, 32] (by decide +kernel) (by decide +kernel)
set_option maxRecDepth 20000 in
theorem gX5_find_Jx4a65c_get_915e3 : GoodIn wsX5_find (wsV RX5 31 RJx4a65c yJx4a65c_get_915e3 wsJx4a65c_get_915e3) := goodIn_app (goodIn_of _ (by decide +kernel)) ggX5_find_Jx4a65c_get_915e3
theorem dX5_find_0 : decode cX5_find 0 = .ok (.iload_n 1, 1) := by decide +kernel
theorem dX5_find_1 : decode cX5_find 1 = .ok (.iconst 1, 1) := by decide +kernel
theorem dX5_find_2 : decode cX5_find 2 = .ok (.if_icmp .lt 14, 3) := by decide +kernel
theorem dX5_find_5 : decode cX5_find 5 = .ok (.iload_n 1, 1) := by decide +kernel
theorem dX5_find_6 : decode cX5_find 6 = .ok (.aload_n 0, 1) := by decide +kernel
theorem dX5_find_7 : decode cX5_find 7 = .ok (.getfield 12, 3) := by decide +kernel
theorem dX5_find_10 : decode cX5_find 10 = .ok (.invokevirtual 27, 3) := by decide +kernel
theorem dX5_find_13 : decode cX5_find 13 = .ok (.if_icmp .le 7, 3) := by decide +kernel
theorem dX5_find_16 : decode cX5_find 16 = .ok (.aconst_null, 1) := by decide +kernel
theorem dX5_find_17 : decode cX5_find 17 = .ok (.goto 16, 3) := by decide +kernel
theorem dX5_find_20 : decode cX5_find 20 = .ok (.aload_n 0, 1) := by decide +kernel
theorem dX5_find_21 : decode cX5_find 21 = .ok (.getfield 12, 3) := by decide +kernel
theorem dX5_find_24 : decode cX5_find 24 = .ok (.iload_n 1, 1) := by decide +kernel
theorem dX5_find_25 : decode cX5_find 25 = .ok (.iconst 1, 1) := by decide +kernel
theorem dX5_find_26 : decode cX5_find 26 = .ok (.isub, 1) := by decide +kernel
theorem dX5_find_27 : decode cX5_find 27 = .ok (.invokevirtual 31, 3) := by decide +kernel
theorem dX5_find_30 : decode cX5_find 30 = .ok (.checkcast 35, 3) := by decide +kernel
theorem dX5_find_33 : decode cX5_find 33 = .ok (.areturn, 1) := by decide +kernel
set_option maxRecDepth 20000 in
theorem ggX5_isOn_X5_valueOf : GoodIn wsX5_isOn wsX5_valueOf := goodIn_r _ [5, 6, 7, 8, 9, 10, 11, 12, 13, 14, 15, 16, 17, 18, 19, 20, 21, 22, 23, 24, 25, 26, 27, 28, 29, 30, 31, 32, 33, 34, 35, 36, 37, 38, 39, 40, 41, 42, 43, 44, 45] (by decide +kernel) (by decide +kernel)
set_option maxRecDepth 20000 in
theorem gX5_isOn_X5_valueOf : GoodIn wsX5_isOn (wsV RX5 37 RX5 yX5_valueOf wsX5_valueOf) := goodIn_app (goodIn_of _ (by decide +kernel)) ggX5_isOn_X5_valueOf
theorem dX5_isOn_0 : decode cX5_isOn 0 = .ok (.aload_n 0, 1) := by decide +kernel
theorem dX5_isOn_1 : decode cX5_isOn 1 = .ok (.aload_n 1, 1) := by decide +kernel
theorem dX5_isOn_2 : decode cX5_isOn 2 = .ok (.aload_n 2, 1) := by decide +kernel
theorem dX5_isOn_3 : decode cX5_isOn 3 = .ok (.invokevirtual 37, 3) := by decide +kernel
theorem dX5_isOn_6 : decode cX5_isOn 6 = .ok (.lconst 0, 1) := by decide +kernel
theorem dX5_isOn_7 : decode cX5_isOn 7 = .ok (.lcmp, 1) := by decide +kernel
theorem dX5_isOn_8 : decode cX5_isOn 8 = .ok (.ifCond .eq 7, 3) := by decide +kernel
theorem dX5_isOn_11 : decode cX5_isOn 11 = .ok (.iconst 1, 1) := by decide +kernel
theorem dX5_isOn_12 : decode cX5_isOn 12 = .ok (.goto 4, 3) := by decide +kernel
theorem dX5_isOn_15 : decode cX5_isOn 15 = .ok (.iconst 0, 1) := by decide +kernel
theorem dX5_isOn_16 : decode cX5_isOn 16 = .ok (.ireturn, 1) := by decide +kernel
set_option maxRecDepth 20000 in
theorem ggX5_valueOf_X1_valueOf : GoodIn wsX5_valueOf wsX1_valueOf := goodIn_r _ [6, 7, 8, 9, 10, 11, 5, 12, 13, 14, 15, 16, 17, 18, 19, 20, 38, 39, 40] (by decide +kernel) (by decide +kernel)
set_option maxRecDepth 20000 in
theorem gX5_valueOf_X1_valueOf : GoodIn wsX5_valueOf (wsV RX5 48 RX1 yX1_valueOf wsX1_valueOf) := goodIn_app (goodIn_of _ (by decide +kernel)) ggX5_valueOf_X1_valueOf
theorem dX5_valueOf_0 : decode cX5_valueOf 0 = .ok (.aload_n 0, 1) := by decide +kernel
theorem dX5_valueOf_1 : decode cX5_valueOf 1 = .ok (.getfield 23, 3) := by decide +kernel
theorem dX5_valueOf_4 : decode cX5_valueOf 4 = .ok (.aload_n 1, 1) := by decide +kernel
theorem dX5_valueOf_5 : decode cX5_valueOf 5 = .ok (.getfield 41, 3) := by decide +kernel
theorem dX5_valueOf_8 : decode cX5_valueOf 8 = .ok (.aload_n 1, 1) := by decide +kernel
theorem dX5_valueOf_9 : decode cX5_valueOf 9 = .ok (.getfield 45, 3) := by decide +kernel
theorem dX5_valueOf_12 : decode cX5_valueOf 12 = .ok (.aload_n 2, 1) := by decide +kernel
theorem dX5_valueOf_13 : decode cX5_valueOf 13 = .ok (.invokevirtual 48, 3) := by decide +kernel
theorem dX5_valueOf_16 : decode cX5_valueOf 16 = .ok (.lreturn, 1) := by decide +kernel
set_option maxRecDepth 20000 in
theorem ggX5_letGoBy_Jx4a65c_size_8abf5 : GoodIn wsX5_letGoBy wsJx4a65c_size_8abf5 := goodIn_r _ [7, 8, 81, 82, 83] (by decide +kernel) (by decide +kernel)
set_option maxRecDepth 20000 in
theorem gX5_letGoBy_Jx4a65c_size_8abf5 : GoodIn wsX5_letGoBy (wsV RX5 27 RJx4a65c yJx4a65c_size_8abf5 wsJx4a65c_size_8abf5) := goodIn_app (goodIn_of _ (by decide +kernel)) ggX5_letGoBy_Jx4a65c_size_8abf5
set_option maxRecDepth 20000 in
theorem ggX5_letGoBy_Jx4a65c_get_915e3 : GoodIn wsX5_letGoBy wsJx4a65c_get_915e3 := goodIn_r _ [12, 8, 13, 14, 15, 16, 17, 18, 19, 20, 21, 22, 23, 6, 24, 25, 81, 82, 83] (by decide +kernel) (by decide +kernel)
set_option maxRecDepth 20000 in
theorem gX5_letGoBy_Jx4a65c_get_915e3 : GoodIn wsX5_letGoBy (wsV RX5 31 RJx4a65c yJx4a65c_get_915e3 wsJx4a65c_get_915e3) := goodIn_app (goodIn_of _ (by decide +kernel)) ggX5_letGoBy_Jx4a65c_get_915e3
set_option maxRecDepth 20000 in
theorem ggX5_letGoBy_X5_isOn : GoodIn wsX5_letGoBy wsX5_isOn := goodIn_r _ [30, 31, 32, 33, 29, 34, 35, 36, 37, 38, 39, 40, 41, 42, 43, 44, 45, 46, 47, 48, 49, 50, 51, 52, 53, 54, 77, 78, 79, 80, 84, 85, 86, 87, 88, 89, 90, 91, 92, 93, 94, 95, 96, 97, 98, 99] (by decide +kernel) (by decide +kernel)
set_option maxRecDepth 20000 in
theorem gX5_letGoBy_X5_isOn : GoodIn wsX5_letGoBy (wsV RX5 51 RX5 yX5_isOn wsX5_isOn) := goodIn_app (goodIn_of _ (by decide +kernel)) ggX5_letGoBy_X5_isOn
set_option maxRecDepth 20000 in
theorem ggX5_letGoBy_X3_letGoBy : GoodIn wsX5_letGoBy wsX3_letGoBy := goodIn_r _ [59, 60, 61, 62, 63, 64, 65, 66, 67, 68, 69, 70, 71, 72, 73, 74, 58, 75, 76, 84, 85, 86, 87, 88, 89, 90, 91, 92, 93, 94, 95, 96] (by decide +kernel) (by decide +kernel)
set_option maxRecDepth 20000 in
theorem gX5_letGoBy_X3_letGoBy : GoodIn wsX5_letGoBy (wsV RX5 55 RX3 yX3_letGoBy wsX3_letGoBy) := goodIn_app (goodIn_of _ (by decide +kernel)) ggX5_letGoBy_X3_letGoBy
theorem dX5_letGoBy_0 : decode cX5_letGoBy 0 = .ok (.iload_n 1, 1) := by decide +kernel
theorem dX5_letGoBy_1 : decode cX5_letGoBy 1 = .ok (.iconst 1, 1) := by decide +kernel
theorem dX5_letGoBy_2 : decode cX5_letGoBy 2 = .ok (.if_icmp .ge 4, 3) := by decide +kernel
theorem dX5_letGoBy_5 : decode cX5_letGoBy 5 = .ok (.return_, 1) := by decide +kernel
theorem dX5_letGoBy_6 : decode cX5_letGoBy 6 = .ok (.iconst 0, 1) := by decide +kernel
theorem dX5_letGoBy_7 : decode cX5_letGoBy 7 = .ok (.istore_n 3, 1) := by decide +kernel
theorem dX5_letGoBy_8 : decode cX5_letGoBy 8 = .ok (.iload_n 3, 1) := by decide +kernel
theorem dX5_letGoBy_9 : decode cX5_letGoBy 9 = .ok (.aload_n 0, 1) := by decide +kernel
theorem dX5_letGoBy_10 : decode cX5_letGoBy 10 = .ok (.getfield 12, 3) := by decide +kernel
theorem dX5_letGoBy_13 : decode cX5_letGoBy 13 = .ok (.invokevirtual 27, 3) := by decide +kernel
theorem dX5_letGoBy_16 : decode cX5_letGoBy 16 = .ok (.if_icmp .ge 35, 3) := by decide +kernel
theorem dX5_letGoBy_19 : decode cX5_letGoBy 19 = .ok (.aload_n 0, 1) := by decide +kernel
theorem dX5_letGoBy_20 : decode cX5_letGoBy 20 = .ok (.getfield 12, 3) := by decide +kernel
theorem dX5_letGoBy_23 : decode cX5_letGoBy 23 = .ok (.iload_n 3, 1) := by decide +kernel
theorem dX5_letGoBy_24 : decode cX5_letGoBy 24 = .ok (.invokevirtual 31, 3) := by decide +kernel
theorem dX5_letGoBy_27 : decode cX5_letGoBy 27 = .ok (.checkcast 35, 3) := by decide +kernel
theorem dX5_letGoBy_30 : decode cX5_letGoBy 30 = .ok (.astore 4, 2) := by decide +kernel
theorem dX5_letGoBy_32 : decode cX5_letGoBy 32 = .ok (.aload 4, 2) := by decide +kernel
theorem dX5_letGoBy_34 : decode cX5_letGoBy 34 = .ok (.iload_n 1, 1) := by decide +kernel
theorem dX5_letGoBy_35 : decode cX5_letGoBy 35 = .ok (.aload_n 0, 1) := by decide +kernel
theorem dX5_letGoBy_36 : decode cX5_letGoBy 36 = .ok (.aload 4, 2) := by decide +kernel
theorem dX5_letGoBy_38 : decode cX5_letGoBy 38 = .ok (.aload_n 2, 1) := by decide +kernel
theorem dX5_letGoBy_39 : decode cX5_letGoBy 39 = .ok (.invokevirtual 51, 3) := by decide +kernel
theorem dX5_letGoBy_42 : decode cX5_letGoBy 42 = .ok (.invokevirtual 55, 3) := by decide +kernel
theorem dX5_letGoBy_45 : decode cX5_letGoBy 45 = .ok (.iinc 3 1, 3) := by decide +kernel
theorem dX5_letGoBy_48 : decode cX5_letGoBy 48 = .ok (.goto (-40), 3) := by decide +kernel
theorem dX5_letGoBy_51 : decode cX5_letGoBy 51 = .ok (.return_, 1) := by decide +kernel
set_option maxRecDepth 20000 in
theorem ggX5_firstToBar_Jx4a65c_size_8abf5 : GoodIn wsX5_firstToBar wsJx4a65c_size_8abf5 := goodIn_r _ [7, 8, 77, 78, 79] (by decide +kernel) (by decide +kernel)
set_option maxRecDepth 20000 in
theorem gX5_firstToBar_Jx4a65c_size_8abf5 : GoodIn wsX5_firstToBar (wsV RX5 27 RJx4a65c yJx4a65c_size_8abf5 wsJx4a65c_size_8abf5) := goodIn_app (goodIn_of _ (by decide +kernel)) ggX5_firstToBar_Jx4a65c_size_8abf5
set_option maxRecDepth 20000 in
theorem ggX5_firstToBar_Jx4a65c_get_915e3 : GoodIn wsX5_firstToBar wsJx4a65c_get_915e3 := goodIn_r _ [12, 8, 13, 14, 15, 16, 17, 18, 19, 20, 21, 22, 23, 6, 24, 25, 77, 78, 79] (by decide +kernel) (by decide +kernel)
set_option maxRecDepth 20000 in
theorem gX5_firstToBar_Jx4a65c_get_915e3 : GoodIn wsX5_firstToBar (wsV RX5 31 RJx4a65c yJx4a65c_get_915e3 wsJx4a65c_get_915e3) := goodIn_app (goodIn_of _ (by decide +kernel)) ggX5_firstToBar_Jx4a65c_get_915e3
set_option maxRecDepth 20000 in
theorem ggX5_firstToBar_X3_hasAct : GoodIn wsX5_firstToBar wsX3_hasAct := goodIn_r _ [30, 31, 80, 81, 82, 83, 84, 85, 86, 87, 88, 89, 90, 91, 92] (by decide +kernel) (by decide +kernel)
set_option maxRecDepth 20000 in
theorem gX5_firstToBar_X3_hasAct : GoodIn wsX5_firstToBar (wsV RX5 59 RX3 yX3_hasAct wsX3_hasAct) := goodIn_app (goodIn_of _ (by decide +kernel)) ggX5_firstToBar_X3_hasAct
set_option maxRecDepth 20000 in
theorem ggX5_firstToBar_X5_isOn : GoodIn wsX5_firstToBar wsX5_isOn := goodIn_r _ [36, 37, 38, 39, 35, 40, 41, 42, 43, 44, 45, 46, 47, 48, 49, 50, 51, 52, 53, 54, 55, 56, 57, 58, 59, 60, 73, 74, 75, 76, 80, 81, 82, 83, 84, 85, 86, 87, 88, 89, 90, 91, 92, 93, 94, 95] (by decide +kernel) (by decide +kernel)
set_option maxRecDepth 20000 in
theorem gX5_firstToBar_X5_isOn : GoodIn wsX5_firstToBar (wsV RX5 51 RX5 yX5_isOn wsX5_isOn) := goodIn_app (goodIn_of _ (by decide +kernel)) ggX5_firstToBar_X5_isOn
set_option maxRecDepth 20000 in
theorem ggX5_firstToBar_X3_bars : GoodIn wsX5_firstToBar wsX3_bars := goodIn_r _ [64, 65, 66, 67, 68, 69, 29, 70, 71, 72, 80, 81, 82, 83, 84, 85, 86, 87, 88, 89, 90, 91, 92] (by decide +kernel) (by decide +kernel)
set_option maxRecDepth 20000 in
theorem gX5_firstToBar_X3_bars : GoodIn wsX5_firstToBar (wsV RX5 63 RX3 yX3_bars wsX3_bars) := goodIn_app (goodIn_of _ (by decide +kernel)) ggX5_firstToBar_X3_bars
theorem dX5_firstToBar_0 : decode cX5_firstToBar 0 = .ok (.iconst 0, 1) := by decide +kernel
theorem dX5_firstToBar_1 : decode cX5_firstToBar 1 = .ok (.istore_n 3, 1) := by decide +kernel
theorem dX5_firstToBar_2 : decode cX5_firstToBar 2 = .ok (.iload_n 3, 1) := by decide +kernel
theorem dX5_firstToBar_3 : decode cX5_firstToBar 3 = .ok (.aload_n 0, 1) := by decide +kernel
theorem dX5_firstToBar_4 : decode cX5_firstToBar 4 = .ok (.getfield 12, 3) := by decide +kernel
theorem dX5_firstToBar_7 : decode cX5_firstToBar 7 = .ok (.invokevirtual 27, 3) := by decide +kernel
theorem dX5_firstToBar_10 : decode cX5_firstToBar 10 = .ok (.if_icmp .ge 50, 3) := by decide +kernel
theorem dX5_firstToBar_13 : decode cX5_firstToBar 13 = .ok (.aload_n 0, 1) := by decide +kernel
theorem dX5_firstToBar_14 : decode cX5_firstToBar 14 = .ok (.getfield 12, 3) := by decide +kernel
theorem dX5_firstToBar_17 : decode cX5_firstToBar 17 = .ok (.iload_n 3, 1) := by decide +kernel
theorem dX5_firstToBar_18 : decode cX5_firstToBar 18 = .ok (.invokevirtual 31, 3) := by decide +kernel
theorem dX5_firstToBar_21 : decode cX5_firstToBar 21 = .ok (.checkcast 35, 3) := by decide +kernel
theorem dX5_firstToBar_24 : decode cX5_firstToBar 24 = .ok (.astore 4, 2) := by decide +kernel
theorem dX5_firstToBar_26 : decode cX5_firstToBar 26 = .ok (.aload 4, 2) := by decide +kernel
theorem dX5_firstToBar_28 : decode cX5_firstToBar 28 = .ok (.iload_n 1, 1) := by decide +kernel
theorem dX5_firstToBar_29 : decode cX5_firstToBar 29 = .ok (.invokevirtual 59, 3) := by decide +kernel
theorem dX5_firstToBar_32 : decode cX5_firstToBar 32 = .ok (.ifCond .eq 22, 3) := by decide +kernel
theorem dX5_firstToBar_35 : decode cX5_firstToBar 35 = .ok (.aload 4, 2) := by decide +kernel
theorem dX5_firstToBar_37 : decode cX5_firstToBar 37 = .ok (.aload_n 0, 1) := by decide +kernel
theorem dX5_firstToBar_38 : decode cX5_firstToBar 38 = .ok (.aload 4, 2) := by decide +kernel
theorem dX5_firstToBar_40 : decode cX5_firstToBar 40 = .ok (.aload_n 2, 1) := by decide +kernel
theorem dX5_firstToBar_41 : decode cX5_firstToBar 41 = .ok (.invokevirtual 51, 3) := by decide +kernel
theorem dX5_firstToBar_44 : decode cX5_firstToBar 44 = .ok (.invokevirtual 63, 3) := by decide +kernel
theorem dX5_firstToBar_47 : decode cX5_firstToBar 47 = .ok (.ifCond .eq 7, 3) := by decide +kernel
theorem dX5_firstToBar_50 : decode cX5_firstToBar 50 = .ok (.iload_n 3, 1) := by decide +kernel
theorem dX5_firstToBar_51 : decode cX5_firstToBar 51 = .ok (.iconst 1, 1) := by decide +kernel
theorem dX5_firstToBar_52 : decode cX5_firstToBar 52 = .ok (.iadd, 1) := by decide +kernel
theorem dX5_firstToBar_53 : decode cX5_firstToBar 53 = .ok (.ireturn, 1) := by decide +kernel
theorem dX5_firstToBar_54 : decode cX5_firstToBar 54 = .ok (.iinc 3 1, 3) := by decide +kernel
theorem dX5_firstToBar_57 : decode cX5_firstToBar 57 = .ok (.goto (-55), 3) := by decide +kernel
theorem dX5_firstToBar_60 : decode cX5_firstToBar 60 = .ok (.iconst 0, 1) := by decide +kernel
theorem dX5_firstToBar_61 : decode cX5_firstToBar 61 = .ok (.ireturn, 1) := by decide +kernel
set_option maxRecDepth 20000 in
theorem ggX5_passedRow_X5_pick : GoodIn wsX5_passedRow wsX5_pick := goodIn_r _ [5, 6, 7, 8, 9, 10, 11, 12, 13, 14, 15, 16, 17, 18, 19, 20, 21, 22, 23, 24, 25, 26, 27, 28, 29, 30, 31, 32, 33, 34, 35, 36, 37, 38, 39, 40, 41, 42, 43, 44, 45, 46, 47, 48, 49, 50] (by decide +kernel) (by decide +kernel)
set_option maxRecDepth 20000 in
theorem gX5_passedRow_X5_pick : GoodIn wsX5_passedRow (wsV RX5 67 RX5 yX5_pick wsX5_pick) := goodIn_app (goodIn_of _ (by decide +kernel)) ggX5_passedRow_X5_pick
theorem dX5_passedRow_0 : decode cX5_passedRow 0 = .ok (.aload_n 0, 1) := by decide +kernel
theorem dX5_passedRow_1 : decode cX5_passedRow 1 = .ok (.iload_n 1, 1) := by decide +kernel
theorem dX5_passedRow_2 : decode cX5_passedRow 2 = .ok (.iconst 1, 1) := by decide +kernel
theorem dX5_passedRow_3 : decode cX5_passedRow 3 = .ok (.invokevirtual 67, 3) := by decide +kernel
theorem dX5_passedRow_6 : decode cX5_passedRow 6 = .ok (.ireturn, 1) := by decide +kernel
set_option maxRecDepth 20000 in
theorem ggX5_idleRow_X4_init : GoodIn wsX5_idleRow wsX4_init := goodIn_r _ [7, 8, 9, 10, 11, 12, 13, 14, 15, 16, 124, 125, 126, 127, 128] (by decide +kernel) (by decide +kernel)
set_option maxRecDepth 20000 in
theorem gX5_idleRow_X4_init : GoodIn wsX5_idleRow (wsX4_init) := ggX5_idleRow_X4_init
set_option maxRecDepth 20000 in
theorem ggX5_idleRow_X4_markRows : GoodIn wsX5_idleRow wsX4_markRows := goodIn_r _ [20, 21, 22, 23, 24, 25, 16, 26, 27, 28, 4, 29, 12, 30, 31, 32, 33, 34, 35, 36, 37, 38, 39, 40, 41, 42, 43, 44, 45, 46, 47, 48, 49, 50, 51, 52, 53, 54, 55, 56, 57, 58, 59, 14, 60, 61, 62, 63, 15, 64, 65, 66, 67, 68, 69, 70, 71, 72, 73, 74, 75, 76, 77, 78, 79, 80, 81, 82, 83, 84, 85, 86, 87, 88, 89, 90, 91, 92, 93, 94, 95, 96, 97, 98, 99, 100, 101, 102, 103, 104, 105, 106, 107, 108, 109, 110, 111, 112, 113, 124, 125, 126, 127, 128, 120, 121, 122, 123, 129, 130, 131, 132, 133, 134, 135, 136, 137, 138, 139, 140, 141, 142, 143, 144, 145, 146, 147] (by decide +kernel) (by decide +kernel)
set_option maxRecDepth 20000 in
theorem gX5_idleRow_X4_markRows : GoodIn wsX5_idleRow (wsV RX5 80 RX4 yX4_markRows wsX4_markRows) := goodIn_app (goodIn_of _ (by decide +kernel)) ggX5_idleRow_X4_markRows
set_option maxRecDepth 20000 in
theorem ggX5_idleRow_X5_pick : GoodIn wsX5_idleRow wsX5_pick := goodIn_r _ [117, 49, 118, 50, 51, 52, 53, 54, 55, 119, 70, 71, 72, 73, 74, 75, 76, 77, 78, 79, 80, 81, 82, 83, 84, 85, 120, 121, 122, 123, 135, 136, 137, 138, 139, 140, 141, 142, 143, 144, 145, 146, 147, 132, 133, 134] (by decide +kernel) (by decide +kernel)
set_option maxRecDepth 20000 in
theorem gX5_idleRow_X5_pick : GoodIn wsX5_idleRow (wsV RX5 67 RX5 yX5_pick wsX5_pick) := goodIn_app (goodIn_of _ (by decide +kernel)) ggX5_idleRow_X5_pick
theorem dX5_idleRow_0 : decode cX5_idleRow 0 = .ok (.aload_n 0, 1) := by decide +kernel
theorem dX5_idleRow_1 : decode cX5_idleRow 1 = .ok (.getfield 71, 3) := by decide +kernel
theorem dX5_idleRow_4 : decode cX5_idleRow 4 = .ok (.ifCond .ne 19, 3) := by decide +kernel
theorem dX5_idleRow_7 : decode cX5_idleRow 7 = .ok (.new 75, 3) := by decide +kernel
theorem dX5_idleRow_10 : decode cX5_idleRow 10 = .ok (.dup, 1) := by decide +kernel
theorem dX5_idleRow_11 : decode cX5_idleRow 11 = .ok (.aload_n 0, 1) := by decide +kernel
theorem dX5_idleRow_12 : decode cX5_idleRow 12 = .ok (.invokespecial 77, 3) := by decide +kernel
theorem dX5_idleRow_15 : decode cX5_idleRow 15 = .ok (.invokevirtual 80, 3) := by decide +kernel
theorem dX5_idleRow_18 : decode cX5_idleRow 18 = .ok (.aload_n 0, 1) := by decide +kernel
theorem dX5_idleRow_19 : decode cX5_idleRow 19 = .ok (.iconst 1, 1) := by decide +kernel
theorem dX5_idleRow_20 : decode cX5_idleRow 20 = .ok (.putfield 71, 3) := by decide +kernel
theorem dX5_idleRow_23 : decode cX5_idleRow 23 = .ok (.aload_n 0, 1) := by decide +kernel
theorem dX5_idleRow_24 : decode cX5_idleRow 24 = .ok (.iload_n 1, 1) := by decide +kernel
theorem dX5_idleRow_25 : decode cX5_idleRow 25 = .ok (.iconst 0, 1) := by decide +kernel
theorem dX5_idleRow_26 : decode cX5_idleRow 26 = .ok (.invokevirtual 67, 3) := by decide +kernel
theorem dX5_idleRow_29 : decode cX5_idleRow 29 = .ok (.ireturn, 1) := by decide +kernel
set_option maxRecDepth 20000 in
theorem ggX5_pick_Jx4a65c_size_8abf5 : GoodIn wsX5_pick wsJx4a65c_size_8abf5 := goodIn_r _ [7, 8, 43, 44, 45] (by decide +kernel) (by decide +kernel)
set_option maxRecDepth 20000 in
theorem gX5_pick_Jx4a65c_size_8abf5 : GoodIn wsX5_pick (wsV RX5 27 RJx4a65c yJx4a65c_size_8abf5 wsJx4a65c_size_8abf5) := goodIn_app (goodIn_of _ (by decide +kernel)) ggX5_pick_Jx4a65c_size_8abf5
set_option maxRecDepth 20000 in
theorem ggX5_pick_Jx4a65c_get_915e3 : GoodIn wsX5_pick wsJx4a65c_get_915e3 := goodIn_r _ [12, 8, 13, 14, 15, 16, 17, 18, 19, 20, 21, 22, 23, 6, 24, 25, 43, 44, 45] (by decide +kernel) (by decide +kernel)
set_option maxRecDepth 20000 in
theorem gX5_pick_Jx4a65c_get_915e3 : GoodIn wsX5_pick (wsV RX5 31 RJx4a65c yJx4a65c_get_915e3 wsJx4a65c_get_915e3) := goodIn_app (goodIn_of _ (by decide +kernel)) ggX5_pick_Jx4a65c_get_915e3
theorem dX5_pick_0 : decode cX5_pick 0 = .ok (.iconst 0, 1) := by decide +kernel
theorem dX5_pick_1 : decode cX5_pick 1 = .ok (.istore_n 3, 1) := by decide +kernel
theorem dX5_pick_2 : decode cX5_pick 2 = .ok (.iconst 0, 1) := by decide +kernel
theorem dX5_pick_3 : decode cX5_pick 3 = .ok (.istore 4, 2) := by decide +kernel
theorem dX5_pick_5 : decode cX5_pick 5 = .ok (.iload 4, 2) := by decide +kernel
theorem dX5_pick_7 : decode cX5_pick 7 = .ok (.aload_n 0, 1) := by decide +kernel
theorem dX5_pick_8 : decode cX5_pick 8 = .ok (.getfield 12, 3) := by decide +kernel
theorem dX5_pick_11 : decode cX5_pick 11 = .ok (.invokevirtual 27, 3) := by decide +kernel
theorem dX5_pick_14 : decode cX5_pick 14 = .ok (.if_icmp .ge 59, 3) := by decide +kernel
theorem dX5_pick_17 : decode cX5_pick 17 = .ok (.aload_n 0, 1) := by decide +kernel
theorem dX5_pick_18 : decode cX5_pick 18 = .ok (.getfield 12, 3) := by decide +kernel
theorem dX5_pick_21 : decode cX5_pick 21 = .ok (.iload 4, 2) := by decide +kernel
theorem dX5_pick_23 : decode cX5_pick 23 = .ok (.invokevirtual 31, 3) := by decide +kernel
theorem dX5_pick_26 : decode cX5_pick 26 = .ok (.checkcast 35, 3) := by decide +kernel
theorem dX5_pick_29 : decode cX5_pick 29 = .ok (.astore 5, 2) := by decide +kernel
theorem dX5_pick_31 : decode cX5_pick 31 = .ok (.iload_n 2, 1) := by decide +kernel
theorem dX5_pick_32 : decode cX5_pick 32 = .ok (.ifCond .eq 14, 3) := by decide +kernel
theorem dX5_pick_35 : decode cX5_pick 35 = .ok (.aload 5, 2) := by decide +kernel
theorem dX5_pick_37 : decode cX5_pick 37 = .ok (.getfield 83, 3) := by decide +kernel
theorem dX5_pick_40 : decode cX5_pick 40 = .ok (.ifCond .le 27, 3) := by decide +kernel
theorem dX5_pick_43 : decode cX5_pick 43 = .ok (.goto 11, 3) := by decide +kernel
theorem dX5_pick_46 : decode cX5_pick 46 = .ok (.aload 5, 2) := by decide +kernel
theorem dX5_pick_48 : decode cX5_pick 48 = .ok (.getfield 86, 3) := by decide +kernel
theorem dX5_pick_51 : decode cX5_pick 51 = .ok (.ifCond .ne 16, 3) := by decide +kernel
theorem dX5_pick_54 : decode cX5_pick 54 = .ok (.iload_n 3, 1) := by decide +kernel
theorem dX5_pick_55 : decode cX5_pick 55 = .ok (.iload_n 1, 1) := by decide +kernel
theorem dX5_pick_56 : decode cX5_pick 56 = .ok (.if_icmp .ne 8, 3) := by decide +kernel
theorem dX5_pick_59 : decode cX5_pick 59 = .ok (.iload 4, 2) := by decide +kernel
theorem dX5_pick_61 : decode cX5_pick 61 = .ok (.iconst 1, 1) := by decide +kernel
theorem dX5_pick_62 : decode cX5_pick 62 = .ok (.iadd, 1) := by decide +kernel
theorem dX5_pick_63 : decode cX5_pick 63 = .ok (.ireturn, 1) := by decide +kernel
theorem dX5_pick_64 : decode cX5_pick 64 = .ok (.iinc 3 1, 3) := by decide +kernel
theorem dX5_pick_67 : decode cX5_pick 67 = .ok (.iinc 4 1, 3) := by decide +kernel
theorem dX5_pick_70 : decode cX5_pick 70 = .ok (.goto (-65), 3) := by decide +kernel
theorem dX5_pick_73 : decode cX5_pick 73 = .ok (.iconst (-1), 1) := by decide +kernel
theorem dX5_pick_74 : decode cX5_pick 74 = .ok (.ireturn, 1) := by decide +kernel
set_option maxRecDepth 20000 in
theorem ggX5_written_X7_init : GoodIn wsX5_written wsX7_init := goodIn_r _ [10, 11, 12, 13, 14, 15, 16, 17, 18, 19, 20, 21, 22, 23, 24, 25, 26, 172, 173, 174, 169, 170, 171] (by decide +kernel) (by decide +kernel)
set_option maxRecDepth 20000 in
theorem gX5_written_X7_init : GoodIn wsX5_written (wsX7_init) := ggX5_written_X7_init
set_option maxRecDepth 20000 in
theorem ggX5_written_Jx4a65c_size_8abf5 : GoodIn wsX5_written wsJx4a65c_size_8abf5 := goodIn_r _ [31, 32, 175, 176, 177] (by decide +kernel) (by decide +kernel)
set_option maxRecDepth 20000 in
theorem gX5_written_Jx4a65c_size_8abf5 : GoodIn wsX5_written (wsV RX5 27 RJx4a65c yJx4a65c_size_8abf5 wsJx4a65c_size_8abf5) := goodIn_app (goodIn_of _ (by decide +kernel)) ggX5_written_Jx4a65c_size_8abf5
set_option maxRecDepth 20000 in
theorem ggX5_written_Jx4a65c_get_915e3 : GoodIn wsX5_written wsJx4a65c_get_915e3 := goodIn_r _ [36, 32, 37, 38, 39, 40, 41, 42, 43, 44, 45, 46, 47, 30, 48, 49, 175, 176, 177] (by decide +kernel) (by decide +kernel)
set_option maxRecDepth 20000 in
theorem gX5_written_Jx4a65c_get_915e3 : GoodIn wsX5_written (wsV RX5 31 RJx4a65c yJx4a65c_get_915e3 wsJx4a65c_get_915e3) := goodIn_app (goodIn_of _ (by decide +kernel)) ggX5_written_Jx4a65c_get_915e3
set_option maxRecDepth 20000 in
theorem ggX5_written_X7_putRow : GoodIn wsX5_written wsX7_putRow := goodIn_r _ [53, 17, 54, 55, 56, 57, 4, 58, 59, 60, 61, 16, 62, 26, 23, 25, 63, 64, 65, 66, 67, 68, 69, 70, 71, 72, 24, 73, 74, 75, 76, 77, 78, 79, 80, 81, 82, 83, 84, 85, 86, 87, 88, 89, 90, 91, 92, 93, 94, 95, 96, 97, 98, 99, 100, 101, 102, 103, 104, 105, 106, 107, 108, 109, 42, 43, 44, 110, 111, 112, 113, 114, 115, 116, 117, 118, 119, 120, 121, 122, 123, 124, 125, 126, 127, 128, 129, 130, 131, 132, 133, 134, 135, 136, 137, 138, 139, 140, 141, 18, 142, 143, 144, 145, 146, 147, 148, 149, 150, 151, 152, 153, 154, 155, 156, 157, 158, 159, 160, 161, 162, 163, 164, 178, 179, 180, 181, 182, 183, 184, 185, 186, 187, 188, 189, 190, 169, 170, 171, 172, 173, 174, 191, 192, 193] (by decide +kernel) (by decide +kernel)
set_option maxRecDepth 20000 in
theorem gX5_written_X7_putRow : GoodIn wsX5_written (wsV RX5 98 RX7 yX7_putRow wsX7_putRow) := goodIn_app (goodIn_of _ (by decide +kernel)) ggX5_written_X7_putRow
theorem dX5_written_0 : decode cX5_written 0 = .ok (.aload_n 0, 1) := by decide +kernel
theorem dX5_written_1 : decode cX5_written 1 = .ok (.getfield 89, 3) := by decide +kernel
theorem dX5_written_4 : decode cX5_written 4 = .ok (.ifnonnull 57, 3) := by decide +kernel
theorem dX5_written_7 : decode cX5_written 7 = .ok (.new 93, 3) := by decide +kernel
theorem dX5_written_10 : decode cX5_written 10 = .ok (.dup, 1) := by decide +kernel
theorem dX5_written_11 : decode cX5_written 11 = .ok (.aload_n 0, 1) := by decide +kernel
theorem dX5_written_12 : decode cX5_written 12 = .ok (.getfield 23, 3) := by decide +kernel
theorem dX5_written_15 : decode cX5_written 15 = .ok (.invokespecial 95, 3) := by decide +kernel
theorem dX5_written_18 : decode cX5_written 18 = .ok (.astore_n 1, 1) := by decide +kernel
theorem dX5_written_19 : decode cX5_written 19 = .ok (.iconst 0, 1) := by decide +kernel
theorem dX5_written_20 : decode cX5_written 20 = .ok (.istore_n 2, 1) := by decide +kernel
theorem dX5_written_21 : decode cX5_written 21 = .ok (.iload_n 2, 1) := by decide +kernel
theorem dX5_written_22 : decode cX5_written 22 = .ok (.aload_n 0, 1) := by decide +kernel
theorem dX5_written_23 : decode cX5_written 23 = .ok (.getfield 12, 3) := by decide +kernel
theorem dX5_written_26 : decode cX5_written 26 = .ok (.invokevirtual 27, 3) := by decide +kernel
theorem dX5_written_29 : decode cX5_written 29 = .ok (.if_icmp .ge 24, 3) := by decide +kernel
theorem dX5_written_32 : decode cX5_written 32 = .ok (.aload_n 1, 1) := by decide +kernel
theorem dX5_written_33 : decode cX5_written 33 = .ok (.aload_n 0, 1) := by decide +kernel
theorem dX5_written_34 : decode cX5_written 34 = .ok (.getfield 12, 3) := by decide +kernel
theorem dX5_written_37 : decode cX5_written 37 = .ok (.iload_n 2, 1) := by decide +kernel
theorem dX5_written_38 : decode cX5_written 38 = .ok (.invokevirtual 31, 3) := by decide +kernel
theorem dX5_written_41 : decode cX5_written 41 = .ok (.checkcast 35, 3) := by decide +kernel
theorem dX5_written_44 : decode cX5_written 44 = .ok (.invokevirtual 98, 3) := by decide +kernel
theorem dX5_written_47 : decode cX5_written 47 = .ok (.iinc 2 1, 3) := by decide +kernel
theorem dX5_written_50 : decode cX5_written 50 = .ok (.goto (-29), 3) := by decide +kernel
theorem dX5_written_53 : decode cX5_written 53 = .ok (.aload_n 0, 1) := by decide +kernel
theorem dX5_written_54 : decode cX5_written 54 = .ok (.aload_n 1, 1) := by decide +kernel
theorem dX5_written_55 : decode cX5_written 55 = .ok (.getfield 102, 3) := by decide +kernel
theorem dX5_written_58 : decode cX5_written 58 = .ok (.putfield 89, 3) := by decide +kernel
theorem dX5_written_61 : decode cX5_written 61 = .ok (.aload_n 0, 1) := by decide +kernel
theorem dX5_written_62 : decode cX5_written 62 = .ok (.getfield 89, 3) := by decide +kernel
theorem dX5_written_65 : decode cX5_written 65 = .ok (.areturn, 1) := by decide +kernel
theorem dX6_init_0 : decode cX6_init 0 = .ok (.aload_n 0, 1) := by decide +kernel
theorem dX6_init_1 : decode cX6_init 1 = .ok (.invokespecial 3, 3) := by decide +kernel
theorem dX6_init_4 : decode cX6_init 4 = .ok (.iconst 0, 1) := by decide +kernel
theorem dX6_init_5 : decode cX6_init 5 = .ok (.iload_n 1, 1) := by decide +kernel
theorem dX6_init_6 : decode cX6_init 6 = .ok (.invokestatic 9, 3) := by decide +kernel
theorem dX6_init_9 : decode cX6_init 9 = .ok (.istore_n 2, 1) := by decide +kernel
theorem dX6_init_10 : decode cX6_init 10 = .ok (.aload_n 0, 1) := by decide +kernel
theorem dX6_init_11 : decode cX6_init 11 = .ok (.iload_n 2, 1) := by decide +kernel
theorem dX6_init_12 : decode cX6_init 12 = .ok (.newarray .byte, 2) := by decide +kernel
theorem dX6_init_14 : decode cX6_init 14 = .ok (.putfield 15, 3) := by decide +kernel
theorem dX6_init_17 : decode cX6_init 17 = .ok (.aload_n 0, 1) := by decide +kernel
theorem dX6_init_18 : decode cX6_init 18 = .ok (.iload_n 2, 1) := by decide +kernel
theorem dX6_init_19 : decode cX6_init 19 = .ok (.newarray .short, 2) := by decide +kernel
theorem dX6_init_21 : decode cX6_init 21 = .ok (.putfield 21, 3) := by decide +kernel
theorem dX6_init_24 : decode cX6_init 24 = .ok (.return_, 1) := by decide +kernel
theorem dX6_count_0 : decode cX6_count 0 = .ok (.aload_n 0, 1) := by decide +kernel
theorem dX6_count_1 : decode cX6_count 1 = .ok (.getfield 25, 3) := by decide +kernel
theorem dX6_count_4 : decode cX6_count 4 = .ok (.ireturn, 1) := by decide +kernel
theorem dX6_index_0 : decode cX6_index 0 = .ok (.aload_n 0, 1) := by decide +kernel
theorem dX6_index_1 : decode cX6_index 1 = .ok (.getfield 29, 3) := by decide +kernel
theorem dX6_index_4 : decode cX6_index 4 = .ok (.ireturn, 1) := by decide +kernel
theorem dX6_kind_0 : decode cX6_kind 0 = .ok (.aload_n 0, 1) := by decide +kernel
theorem dX6_kind_1 : decode cX6_kind 1 = .ok (.getfield 29, 3) := by decide +kernel
theorem dX6_kind_4 : decode cX6_kind 4 = .ok (.aload_n 0, 1) := by decide +kernel
theorem dX6_kind_5 : decode cX6_kind 5 = .ok (.getfield 25, 3) := by decide +kernel
theorem dX6_kind_8 : decode cX6_kind 8 = .ok (.if_icmp .ge 15, 3) := by decide +kernel
theorem dX6_kind_11 : decode cX6_kind 11 = .ok (.aload_n 0, 1) := by decide +kernel
theorem dX6_kind_12 : decode cX6_kind 12 = .ok (.getfield 15, 3) := by decide +kernel
theorem dX6_kind_15 : decode cX6_kind 15 = .ok (.aload_n 0, 1) := by decide +kernel
theorem dX6_kind_16 : decode cX6_kind 16 = .ok (.getfield 29, 3) := by decide +kernel
theorem dX6_kind_19 : decode cX6_kind 19 = .ok (.baload, 1) := by decide +kernel
theorem dX6_kind_20 : decode cX6_kind 20 = .ok (.goto 4, 3) := by decide +kernel
theorem dX6_kind_23 : decode cX6_kind 23 = .ok (.iconst 0, 1) := by decide +kernel
theorem dX6_kind_24 : decode cX6_kind 24 = .ok (.ireturn, 1) := by decide +kernel
theorem dX6_value_0 : decode cX6_value 0 = .ok (.aload_n 0, 1) := by decide +kernel
theorem dX6_value_1 : decode cX6_value 1 = .ok (.getfield 29, 3) := by decide +kernel
theorem dX6_value_4 : decode cX6_value 4 = .ok (.aload_n 0, 1) := by decide +kernel
theorem dX6_value_5 : decode cX6_value 5 = .ok (.getfield 25, 3) := by decide +kernel
theorem dX6_value_8 : decode cX6_value 8 = .ok (.if_icmp .ge 15, 3) := by decide +kernel
theorem dX6_value_11 : decode cX6_value 11 = .ok (.aload_n 0, 1) := by decide +kernel
theorem dX6_value_12 : decode cX6_value 12 = .ok (.getfield 21, 3) := by decide +kernel
theorem dX6_value_15 : decode cX6_value 15 = .ok (.aload_n 0, 1) := by decide +kernel
theorem dX6_value_16 : decode cX6_value 16 = .ok (.getfield 29, 3) := by decide +kernel
theorem dX6_value_19 : decode cX6_value 19 = .ok (.saload, 1) := by decide +kernel
theorem dX6_value_20 : decode cX6_value 20 = .ok (.goto 4, 3) := by decide +kernel
theorem dX6_value_23 : decode cX6_value 23 = .ok (.iconst (-1), 1) := by decide +kernel
theorem dX6_value_24 : decode cX6_value 24 = .ok (.ireturn, 1) := by decide +kernel
theorem dX6_advance_0 : decode cX6_advance 0 = .ok (.aload_n 0, 1) := by decide +kernel
theorem dX6_advance_1 : decode cX6_advance 1 = .ok (.getfield 29, 3) := by decide +kernel
theorem dX6_advance_4 : decode cX6_advance 4 = .ok (.aload_n 0, 1) := by decide +kernel
theorem dX6_advance_5 : decode cX6_advance 5 = .ok (.getfield 25, 3) := by decide +kernel
theorem dX6_advance_8 : decode cX6_advance 8 = .ok (.if_icmp .ge 13, 3) := by decide +kernel
theorem dX6_advance_11 : decode cX6_advance 11 = .ok (.aload_n 0, 1) := by decide +kernel
theorem dX6_advance_12 : decode cX6_advance 12 = .ok (.dup, 1) := by decide +kernel
theorem dX6_advance_13 : decode cX6_advance 13 = .ok (.getfield 29, 3) := by decide +kernel
theorem dX6_advance_16 : decode cX6_advance 16 = .ok (.iconst 1, 1) := by decide +kernel
theorem dX6_advance_17 : decode cX6_advance 17 = .ok (.iadd, 1) := by decide +kernel
theorem dX6_advance_18 : decode cX6_advance 18 = .ok (.putfield 29, 3) := by decide +kernel
theorem dX6_advance_21 : decode cX6_advance 21 = .ok (.return_, 1) := by decide +kernel
set_option maxRecDepth 20000 in
theorem ggX6_split_X0_length : GoodIn wsX6_split wsX0_length := goodIn_r _ [5, 6, 93, 94, 95] (by decide +kernel) (by decide +kernel)
set_option maxRecDepth 20000 in
theorem gX6_split_X0_length : GoodIn wsX6_split (wsV RX6 32 RX0 yX0_length wsX0_length) := goodIn_app (goodIn_of _ (by decide +kernel)) ggX6_split_X0_length
set_option maxRecDepth 20000 in
theorem ggX6_split_X0_at : GoodIn wsX6_split wsX0_at := goodIn_r _ [10, 6, 11, 93, 94, 95] (by decide +kernel) (by decide +kernel)
set_option maxRecDepth 20000 in
theorem gX6_split_X0_at : GoodIn wsX6_split (wsV RX6 38 RX0 yX0_at wsX0_at) := goodIn_app (goodIn_of _ (by decide +kernel)) ggX6_split_X0_at
set_option maxRecDepth 20000 in
theorem ggX6_split_X6_isInner : GoodIn wsX6_split wsX6_isInner := goodIn_r _ [15, 16, 17, 14, 18] (by decide +kernel) (by decide +kernel)
set_option maxRecDepth 20000 in
theorem gX6_split_X6_isInner : GoodIn wsX6_split (va_wsS RX6 42 yX6_isInner wsX6_isInner) := goodIn_app (goodIn_of _ (by decide +kernel)) ggX6_split_X6_isInner
set_option maxRecDepth 20000 in
theorem ggX6_split_X6_isBlank : GoodIn wsX6_split wsX6_isBlank := goodIn_r _ [18] (by decide +kernel) (by decide +kernel)
set_option maxRecDepth 20000 in
theorem gX6_split_X6_isBlank : GoodIn wsX6_split (va_wsS RX6 46 yX6_isBlank wsX6_isBlank) := goodIn_app (goodIn_of _ (by decide +kernel)) ggX6_split_X6_isBlank
set_option maxRecDepth 20000 in
theorem ggX6_split_X6_kindOf : GoodIn wsX6_split wsX6_kindOf := goodIn_r _ [22, 23, 7, 8, 9, 4, 10, 6, 11, 24, 25, 14, 26, 27, 28, 29, 30, 31, 32, 33, 34, 35, 36, 37, 38, 39, 40, 41, 42, 43, 44, 45, 46, 47, 48, 49, 50, 51, 52, 53, 54, 55, 56, 57, 58, 59, 60, 61, 62, 63, 64, 65, 66, 67, 68, 69, 70, 71, 72, 73, 74, 75, 76, 77, 78, 79, 80, 81, 82, 83, 84, 85, 96, 97, 98, 99, 100, 93, 94, 95] (by decide +kernel) (by decide +kernel)
set_option maxRecDepth 20000 in
theorem gX6_split_X6_kindOf : GoodIn wsX6_split (wsV RX6 49 RX6 yX6_kindOf wsX6_kindOf) := goodIn_app (goodIn_of _ (by decide +kernel)) ggX6_split_X6_kindOf
set_option maxRecDepth 20000 in
theorem ggX6_split_X6_keep : GoodIn wsX6_split wsX6_keep := goodIn_r _ [89, 90, 91, 92, 23, 96, 97, 98, 99, 100] (by decide +kernel) (by decide +kernel)
set_option maxRecDepth 20000 in
theorem gX6_split_X6_keep : GoodIn wsX6_split (wsV RX6 53 RX6 yX6_keep wsX6_keep) := goodIn_app (goodIn_of _ (by decide +kernel)) ggX6_split_X6_keep
theorem dX6_split_0 : decode cX6_split 0 = .ok (.iconst 0, 1) := by decide +kernel
theorem dX6_split_1 : decode cX6_split 1 = .ok (.istore_n 2, 1) := by decide +kernel
theorem dX6_split_2 : decode cX6_split 2 = .ok (.iload_n 2, 1) := by decide +kernel
theorem dX6_split_3 : decode cX6_split 3 = .ok (.aload_n 1, 1) := by decide +kernel
theorem dX6_split_4 : decode cX6_split 4 = .ok (.invokevirtual 32, 3) := by decide +kernel
theorem dX6_split_7 : decode cX6_split 7 = .ok (.if_icmp .ge 70, 3) := by decide +kernel
theorem dX6_split_10 : decode cX6_split 10 = .ok (.iload_n 2, 1) := by decide +kernel
theorem dX6_split_11 : decode cX6_split 11 = .ok (.iconst 1, 1) := by decide +kernel
theorem dX6_split_12 : decode cX6_split 12 = .ok (.iadd, 1) := by decide +kernel
theorem dX6_split_13 : decode cX6_split 13 = .ok (.istore_n 3, 1) := by decide +kernel
theorem dX6_split_14 : decode cX6_split 14 = .ok (.aload_n 1, 1) := by decide +kernel
theorem dX6_split_15 : decode cX6_split 15 = .ok (.iload_n 2, 1) := by decide +kernel
theorem dX6_split_16 : decode cX6_split 16 = .ok (.invokevirtual 38, 3) := by decide +kernel
theorem dX6_split_19 : decode cX6_split 19 = .ok (.invokestatic 42, 3) := by decide +kernel
theorem dX6_split_22 : decode cX6_split 22 = .ok (.ifCond .eq 28, 3) := by decide +kernel
theorem dX6_split_25 : decode cX6_split 25 = .ok (.iload_n 3, 1) := by decide +kernel
theorem dX6_split_26 : decode cX6_split 26 = .ok (.aload_n 1, 1) := by decide +kernel
theorem dX6_split_27 : decode cX6_split 27 = .ok (.invokevirtual 32, 3) := by decide +kernel
theorem dX6_split_30 : decode cX6_split 30 = .ok (.if_icmp .ge 20, 3) := by decide +kernel
theorem dX6_split_33 : decode cX6_split 33 = .ok (.aload_n 1, 1) := by decide +kernel
theorem dX6_split_34 : decode cX6_split 34 = .ok (.iload_n 3, 1) := by decide +kernel
theorem dX6_split_35 : decode cX6_split 35 = .ok (.invokevirtual 38, 3) := by decide +kernel
theorem dX6_split_38 : decode cX6_split 38 = .ok (.invokestatic 42, 3) := by decide +kernel
theorem dX6_split_41 : decode cX6_split 41 = .ok (.ifCond .eq 9, 3) := by decide +kernel
theorem dX6_split_44 : decode cX6_split 44 = .ok (.iinc 3 1, 3) := by decide +kernel
theorem dX6_split_47 : decode cX6_split 47 = .ok (.goto (-22), 3) := by decide +kernel
theorem dX6_split_50 : decode cX6_split 50 = .ok (.aload_n 1, 1) := by decide +kernel
theorem dX6_split_51 : decode cX6_split 51 = .ok (.iload_n 2, 1) := by decide +kernel
theorem dX6_split_52 : decode cX6_split 52 = .ok (.invokevirtual 38, 3) := by decide +kernel
theorem dX6_split_55 : decode cX6_split 55 = .ok (.invokestatic 46, 3) := by decide +kernel
theorem dX6_split_58 : decode cX6_split 58 = .ok (.ifCond .ne 14, 3) := by decide +kernel
theorem dX6_split_61 : decode cX6_split 61 = .ok (.aload_n 0, 1) := by decide +kernel
theorem dX6_split_62 : decode cX6_split 62 = .ok (.aload_n 0, 1) := by decide +kernel
theorem dX6_split_63 : decode cX6_split 63 = .ok (.aload_n 1, 1) := by decide +kernel
theorem dX6_split_64 : decode cX6_split 64 = .ok (.iload_n 2, 1) := by decide +kernel
theorem dX6_split_65 : decode cX6_split 65 = .ok (.iload_n 3, 1) := by decide +kernel
theorem dX6_split_66 : decode cX6_split 66 = .ok (.invokevirtual 49, 3) := by decide +kernel
theorem dX6_split_69 : decode cX6_split 69 = .ok (.invokevirtual 53, 3) := by decide +kernel
theorem dX6_split_72 : decode cX6_split 72 = .ok (.iload_n 3, 1) := by decide +kernel
theorem dX6_split_73 : decode cX6_split 73 = .ok (.istore_n 2, 1) := by decide +kernel
theorem dX6_split_74 : decode cX6_split 74 = .ok (.goto (-72), 3) := by decide +kernel
theorem dX6_split_77 : decode cX6_split 77 = .ok (.return_, 1) := by decide +kernel
theorem dX6_keep_0 : decode cX6_keep 0 = .ok (.aload_n 0, 1) := by decide +kernel
theorem dX6_keep_1 : decode cX6_keep 1 = .ok (.getfield 25, 3) := by decide +kernel
theorem dX6_keep_4 : decode cX6_keep 4 = .ok (.aload_n 0, 1) := by decide +kernel
theorem dX6_keep_5 : decode cX6_keep 5 = .ok (.getfield 15, 3) := by decide +kernel
theorem dX6_keep_8 : decode cX6_keep 8 = .ok (.arraylength, 1) := by decide +kernel
theorem dX6_keep_9 : decode cX6_keep 9 = .ok (.if_icmp .ge 50, 3) := by decide +kernel
theorem dX6_keep_12 : decode cX6_keep 12 = .ok (.aload_n 0, 1) := by decide +kernel
theorem dX6_keep_13 : decode cX6_keep 13 = .ok (.getfield 25, 3) := by decide +kernel
theorem dX6_keep_16 : decode cX6_keep 16 = .ok (.aload_n 0, 1) := by decide +kernel
theorem dX6_keep_17 : decode cX6_keep 17 = .ok (.getfield 21, 3) := by decide +kernel
theorem dX6_keep_20 : decode cX6_keep 20 = .ok (.arraylength, 1) := by decide +kernel
theorem dX6_keep_21 : decode cX6_keep 21 = .ok (.if_icmp .ge 38, 3) := by decide +kernel
theorem dX6_keep_24 : decode cX6_keep 24 = .ok (.aload_n 0, 1) := by decide +kernel
theorem dX6_keep_25 : decode cX6_keep 25 = .ok (.getfield 15, 3) := by decide +kernel
theorem dX6_keep_28 : decode cX6_keep 28 = .ok (.aload_n 0, 1) := by decide +kernel
theorem dX6_keep_29 : decode cX6_keep 29 = .ok (.getfield 25, 3) := by decide +kernel
theorem dX6_keep_32 : decode cX6_keep 32 = .ok (.iload_n 1, 1) := by decide +kernel
theorem dX6_keep_33 : decode cX6_keep 33 = .ok (.i2b, 1) := by decide +kernel
theorem dX6_keep_34 : decode cX6_keep 34 = .ok (.bastore, 1) := by decide +kernel
theorem dX6_keep_35 : decode cX6_keep 35 = .ok (.aload_n 0, 1) := by decide +kernel
theorem dX6_keep_36 : decode cX6_keep 36 = .ok (.getfield 21, 3) := by decide +kernel
theorem dX6_keep_39 : decode cX6_keep 39 = .ok (.aload_n 0, 1) := by decide +kernel
theorem dX6_keep_40 : decode cX6_keep 40 = .ok (.getfield 25, 3) := by decide +kernel
theorem dX6_keep_43 : decode cX6_keep 43 = .ok (.aload_n 0, 1) := by decide +kernel
theorem dX6_keep_44 : decode cX6_keep 44 = .ok (.getfield 57, 3) := by decide +kernel
theorem dX6_keep_47 : decode cX6_keep 47 = .ok (.i2s, 1) := by decide +kernel
theorem dX6_keep_48 : decode cX6_keep 48 = .ok (.sastore, 1) := by decide +kernel
theorem dX6_keep_49 : decode cX6_keep 49 = .ok (.aload_n 0, 1) := by decide +kernel
theorem dX6_keep_50 : decode cX6_keep 50 = .ok (.dup, 1) := by decide +kernel
theorem dX6_keep_51 : decode cX6_keep 51 = .ok (.getfield 25, 3) := by decide +kernel
theorem dX6_keep_54 : decode cX6_keep 54 = .ok (.iconst 1, 1) := by decide +kernel
theorem dX6_keep_55 : decode cX6_keep 55 = .ok (.iadd, 1) := by decide +kernel
theorem dX6_keep_56 : decode cX6_keep 56 = .ok (.putfield 25, 3) := by decide +kernel
theorem dX6_keep_59 : decode cX6_keep 59 = .ok (.return_, 1) := by decide +kernel
theorem dX6_isBlank_0 : decode cX6_isBlank 0 = .ok (.iload_n 0, 1) := by decide +kernel
theorem dX6_isBlank_1 : decode cX6_isBlank 1 = .ok (.bipush 32, 2) := by decide +kernel
theorem dX6_isBlank_3 : decode cX6_isBlank 3 = .ok (.if_icmp .eq 9, 3) := by decide +kernel
theorem dX6_isBlank_6 : decode cX6_isBlank 6 = .ok (.iload_n 0, 1) := by decide +kernel
theorem dX6_isBlank_7 : decode cX6_isBlank 7 = .ok (.bipush 10, 2) := by decide +kernel
theorem dX6_isBlank_9 : decode cX6_isBlank 9 = .ok (.if_icmp .ne 7, 3) := by decide +kernel
theorem dX6_isBlank_12 : decode cX6_isBlank 12 = .ok (.iconst 1, 1) := by decide +kernel
theorem dX6_isBlank_13 : decode cX6_isBlank 13 = .ok (.goto 4, 3) := by decide +kernel
theorem dX6_isBlank_16 : decode cX6_isBlank 16 = .ok (.iconst 0, 1) := by decide +kernel
theorem dX6_isBlank_17 : decode cX6_isBlank 17 = .ok (.ireturn, 1) := by decide +kernel
set_option maxRecDepth 20000 in
theorem ggX6_isInner_X6_isBlank : GoodIn wsX6_isInner wsX6_isBlank := goodIn_r _ [4] (by decide +kernel) (by decide +kernel)
set_option maxRecDepth 20000 in
theorem gX6_isInner_X6_isBlank : GoodIn wsX6_isInner (va_wsS RX6 46 yX6_isBlank wsX6_isBlank) := goodIn_app (goodIn_of _ (by decide +kernel)) ggX6_isInner_X6_isBlank
theorem dX6_isInner_0 : decode cX6_isInner 0 = .ok (.iload_n 0, 1) := by decide +kernel
theorem dX6_isInner_1 : decode cX6_isInner 1 = .ok (.invokestatic 46, 3) := by decide +kernel
theorem dX6_isInner_4 : decode cX6_isInner 4 = .ok (.ifCond .ne 25, 3) := by decide +kernel
theorem dX6_isInner_7 : decode cX6_isInner 7 = .ok (.iload_n 0, 1) := by decide +kernel
theorem dX6_isInner_8 : decode cX6_isInner 8 = .ok (.bipush 40, 2) := by decide +kernel
theorem dX6_isInner_10 : decode cX6_isInner 10 = .ok (.if_icmp .eq 19, 3) := by decide +kernel
theorem dX6_isInner_13 : decode cX6_isInner 13 = .ok (.iload_n 0, 1) := by decide +kernel
theorem dX6_isInner_14 : decode cX6_isInner 14 = .ok (.bipush 41, 2) := by decide +kernel
theorem dX6_isInner_16 : decode cX6_isInner 16 = .ok (.if_icmp .eq 13, 3) := by decide +kernel
theorem dX6_isInner_19 : decode cX6_isInner 19 = .ok (.iload_n 0, 1) := by decide +kernel
theorem dX6_isInner_20 : decode cX6_isInner 20 = .ok (.bipush 59, 2) := by decide +kernel
theorem dX6_isInner_22 : decode cX6_isInner 22 = .ok (.if_icmp .eq 7, 3) := by decide +kernel
theorem dX6_isInner_25 : decode cX6_isInner 25 = .ok (.iconst 1, 1) := by decide +kernel
theorem dX6_isInner_26 : decode cX6_isInner 26 = .ok (.goto 4, 3) := by decide +kernel
theorem dX6_isInner_29 : decode cX6_isInner 29 = .ok (.iconst 0, 1) := by decide +kernel
theorem dX6_isInner_30 : decode cX6_isInner 30 = .ok (.ireturn, 1) := by decide +kernel
set_option maxRecDepth 20000 in
theorem ggX6_kindOf_X0_at : GoodIn wsX6_kindOf wsX0_at := goodIn_r _ [6, 7, 8, 77, 78, 79] (by decide +kernel) (by decide +kernel)
set_option maxRecDepth 20000 in
theorem gX6_kindOf_X0_at : GoodIn wsX6_kindOf (wsV RX6 38 RX0 yX0_at wsX0_at) := goodIn_app (goodIn_of _ (by decide +kernel)) ggX6_kindOf_X0_at
set_option maxRecDepth 20000 in
theorem ggX6_kindOf_X6_namedKind : GoodIn wsX6_kindOf wsX6_namedKind := goodIn_r _ [12, 13, 14, 11, 15, 16, 17, 18, 19, 20, 21, 22, 23, 24, 25, 26, 27, 2, 3, 4, 5, 6, 7, 8, 28, 29, 30, 31, 32, 33, 34, 35, 36, 37, 38, 39, 40, 41, 42, 43, 44, 45, 46, 47, 48, 49, 50, 51, 52, 53, 54, 55, 56, 57, 58, 59, 60, 61, 62, 63, 64, 77, 78, 79] (by decide +kernel) (by decide +kernel)
set_option maxRecDepth 20000 in
theorem gX6_kindOf_X6_namedKind : GoodIn wsX6_kindOf (va_wsS RX6 60 yX6_namedKind wsX6_namedKind) := goodIn_app (goodIn_of _ (by decide +kernel)) ggX6_kindOf_X6_namedKind
set_option maxRecDepth 20000 in
theorem ggX6_kindOf_X6_numberedKind : GoodIn wsX6_kindOf wsX6_numberedKind := goodIn_r _ [68, 1, 2, 3, 4, 5, 6, 7, 8, 69, 70, 11, 71, 72, 73, 74, 75, 76, 77, 78, 79] (by decide +kernel) (by decide +kernel)
set_option maxRecDepth 20000 in
theorem gX6_kindOf_X6_numberedKind : GoodIn wsX6_kindOf (wsV RX6 63 RX6 yX6_numberedKind wsX6_numberedKind) := goodIn_app (goodIn_of _ (by decide +kernel)) ggX6_kindOf_X6_numberedKind
theorem dX6_kindOf_0 : decode cX6_kindOf 0 = .ok (.aload_n 0, 1) := by decide +kernel
theorem dX6_kindOf_1 : decode cX6_kindOf 1 = .ok (.iconst (-1), 1) := by decide +kernel
theorem dX6_kindOf_2 : decode cX6_kindOf 2 = .ok (.putfield 57, 3) := by decide +kernel
theorem dX6_kindOf_5 : decode cX6_kindOf 5 = .ok (.aload_n 1, 1) := by decide +kernel
theorem dX6_kindOf_6 : decode cX6_kindOf 6 = .ok (.iload_n 2, 1) := by decide +kernel
theorem dX6_kindOf_7 : decode cX6_kindOf 7 = .ok (.invokevirtual 38, 3) := by decide +kernel
theorem dX6_kindOf_10 : decode cX6_kindOf 10 = .ok (.lookupswitch 40 #[(40, 34), (41, 36), (59, 38)], 34) := by decide +kernel
theorem dX6_kindOf_44 : decode cX6_kindOf 44 = .ok (.iconst 2, 1) := by decide +kernel
theorem dX6_kindOf_45 : decode cX6_kindOf 45 = .ok (.ireturn, 1) := by decide +kernel
theorem dX6_kindOf_46 : decode cX6_kindOf 46 = .ok (.iconst 3, 1) := by decide +kernel
theorem dX6_kindOf_47 : decode cX6_kindOf 47 = .ok (.ireturn, 1) := by decide +kernel
theorem dX6_kindOf_48 : decode cX6_kindOf 48 = .ok (.iconst 4, 1) := by decide +kernel
theorem dX6_kindOf_49 : decode cX6_kindOf 49 = .ok (.ireturn, 1) := by decide +kernel
theorem dX6_kindOf_50 : decode cX6_kindOf 50 = .ok (.aload_n 1, 1) := by decide +kernel
theorem dX6_kindOf_51 : decode cX6_kindOf 51 = .ok (.iload_n 2, 1) := by decide +kernel
theorem dX6_kindOf_52 : decode cX6_kindOf 52 = .ok (.iload_n 3, 1) := by decide +kernel
theorem dX6_kindOf_53 : decode cX6_kindOf 53 = .ok (.invokestatic 60, 3) := by decide +kernel
theorem dX6_kindOf_56 : decode cX6_kindOf 56 = .ok (.istore 4, 2) := by decide +kernel
theorem dX6_kindOf_58 : decode cX6_kindOf 58 = .ok (.iload 4, 2) := by decide +kernel
theorem dX6_kindOf_60 : decode cX6_kindOf 60 = .ok (.iconst 1, 1) := by decide +kernel
theorem dX6_kindOf_61 : decode cX6_kindOf 61 = .ok (.if_icmp .ne 13, 3) := by decide +kernel
theorem dX6_kindOf_64 : decode cX6_kindOf 64 = .ok (.aload_n 0, 1) := by decide +kernel
theorem dX6_kindOf_65 : decode cX6_kindOf 65 = .ok (.aload_n 1, 1) := by decide +kernel
theorem dX6_kindOf_66 : decode cX6_kindOf 66 = .ok (.iload_n 2, 1) := by decide +kernel
theorem dX6_kindOf_67 : decode cX6_kindOf 67 = .ok (.iload_n 3, 1) := by decide +kernel
theorem dX6_kindOf_68 : decode cX6_kindOf 68 = .ok (.invokevirtual 63, 3) := by decide +kernel
theorem dX6_kindOf_71 : decode cX6_kindOf 71 = .ok (.goto 5, 3) := by decide +kernel
theorem dX6_kindOf_74 : decode cX6_kindOf 74 = .ok (.iload 4, 2) := by decide +kernel
theorem dX6_kindOf_76 : decode cX6_kindOf 76 = .ok (.ireturn, 1) := by decide +kernel
set_option maxRecDepth 20000 in
theorem ggX6_namedKind_X6_isWord : GoodIn wsX6_namedKind wsX6_isWord := goodIn_r _ [4, 5, 6, 7, 8, 9, 10, 11, 12, 13, 14, 15, 16, 17, 18, 19, 20, 21, 22, 23, 24, 25, 26, 27, 28, 29, 30, 31, 32, 33, 34, 35, 36, 37, 38, 39, 40, 41, 42, 43, 44, 45, 46, 47, 48, 49, 50, 51, 52, 53, 54, 55, 56, 57, 58, 59, 60, 61, 62, 63] (by decide +kernel) (by decide +kernel)
set_option maxRecDepth 20000 in
theorem gX6_namedKind_X6_isWord : GoodIn wsX6_namedKind (va_wsS RX6 68 yX6_isWord wsX6_isWord) := goodIn_app (goodIn_of _ (by decide +kernel)) ggX6_namedKind_X6_isWord
theorem dX6_namedKind_0 : decode cX6_namedKind 0 = .ok (.aload_n 0, 1) := by decide +kernel
theorem dX6_namedKind_1 : decode cX6_namedKind 1 = .ok (.iload_n 1, 1) := by decide +kernel
theorem dX6_namedKind_2 : decode cX6_namedKind 2 = .ok (.iload_n 2, 1) := by decide +kernel
theorem dX6_namedKind_3 : decode cX6_namedKind 3 = .ok (.ldc 66, 2) := by decide +kernel
theorem dX6_namedKind_5 : decode cX6_namedKind 5 = .ok (.invokestatic 68, 3) := by decide +kernel
theorem dX6_namedKind_8 : decode cX6_namedKind 8 = .ok (.ifCond .eq 5, 3) := by decide +kernel
theorem dX6_namedKind_11 : decode cX6_namedKind 11 = .ok (.iconst 5, 1) := by decide +kernel
theorem dX6_namedKind_12 : decode cX6_namedKind 12 = .ok (.ireturn, 1) := by decide +kernel
theorem dX6_namedKind_13 : decode cX6_namedKind 13 = .ok (.aload_n 0, 1) := by decide +kernel
theorem dX6_namedKind_14 : decode cX6_namedKind 14 = .ok (.iload_n 1, 1) := by decide +kernel
theorem dX6_namedKind_15 : decode cX6_namedKind 15 = .ok (.iload_n 2, 1) := by decide +kernel
theorem dX6_namedKind_16 : decode cX6_namedKind 16 = .ok (.ldc 72, 2) := by decide +kernel
theorem dX6_namedKind_18 : decode cX6_namedKind 18 = .ok (.invokestatic 68, 3) := by decide +kernel
theorem dX6_namedKind_21 : decode cX6_namedKind 21 = .ok (.ifCond .eq 6, 3) := by decide +kernel
theorem dX6_namedKind_24 : decode cX6_namedKind 24 = .ok (.bipush 6, 2) := by decide +kernel
theorem dX6_namedKind_26 : decode cX6_namedKind 26 = .ok (.ireturn, 1) := by decide +kernel
theorem dX6_namedKind_27 : decode cX6_namedKind 27 = .ok (.aload_n 0, 1) := by decide +kernel
theorem dX6_namedKind_28 : decode cX6_namedKind 28 = .ok (.iload_n 1, 1) := by decide +kernel
theorem dX6_namedKind_29 : decode cX6_namedKind 29 = .ok (.iload_n 2, 1) := by decide +kernel
theorem dX6_namedKind_30 : decode cX6_namedKind 30 = .ok (.ldc 74, 2) := by decide +kernel
theorem dX6_namedKind_32 : decode cX6_namedKind 32 = .ok (.invokestatic 68, 3) := by decide +kernel
theorem dX6_namedKind_35 : decode cX6_namedKind 35 = .ok (.ifCond .eq 6, 3) := by decide +kernel
theorem dX6_namedKind_38 : decode cX6_namedKind 38 = .ok (.bipush 7, 2) := by decide +kernel
theorem dX6_namedKind_40 : decode cX6_namedKind 40 = .ok (.ireturn, 1) := by decide +kernel
theorem dX6_namedKind_41 : decode cX6_namedKind 41 = .ok (.aload_n 0, 1) := by decide +kernel
theorem dX6_namedKind_42 : decode cX6_namedKind 42 = .ok (.iload_n 1, 1) := by decide +kernel
theorem dX6_namedKind_43 : decode cX6_namedKind 43 = .ok (.iload_n 2, 1) := by decide +kernel
theorem dX6_namedKind_44 : decode cX6_namedKind 44 = .ok (.ldc 76, 2) := by decide +kernel
theorem dX6_namedKind_46 : decode cX6_namedKind 46 = .ok (.invokestatic 68, 3) := by decide +kernel
theorem dX6_namedKind_49 : decode cX6_namedKind 49 = .ok (.ifCond .eq 6, 3) := by decide +kernel
theorem dX6_namedKind_52 : decode cX6_namedKind 52 = .ok (.bipush 8, 2) := by decide +kernel
theorem dX6_namedKind_54 : decode cX6_namedKind 54 = .ok (.ireturn, 1) := by decide +kernel
theorem dX6_namedKind_55 : decode cX6_namedKind 55 = .ok (.aload_n 0, 1) := by decide +kernel
theorem dX6_namedKind_56 : decode cX6_namedKind 56 = .ok (.iload_n 1, 1) := by decide +kernel
theorem dX6_namedKind_57 : decode cX6_namedKind 57 = .ok (.iload_n 2, 1) := by decide +kernel
theorem dX6_namedKind_58 : decode cX6_namedKind 58 = .ok (.ldc 78, 2) := by decide +kernel
theorem dX6_namedKind_60 : decode cX6_namedKind 60 = .ok (.invokestatic 68, 3) := by decide +kernel
theorem dX6_namedKind_63 : decode cX6_namedKind 63 = .ok (.ifCond .eq 6, 3) := by decide +kernel
theorem dX6_namedKind_66 : decode cX6_namedKind 66 = .ok (.bipush 9, 2) := by decide +kernel
theorem dX6_namedKind_68 : decode cX6_namedKind 68 = .ok (.ireturn, 1) := by decide +kernel
theorem dX6_namedKind_69 : decode cX6_namedKind 69 = .ok (.aload_n 0, 1) := by decide +kernel
theorem dX6_namedKind_70 : decode cX6_namedKind 70 = .ok (.iload_n 1, 1) := by decide +kernel
theorem dX6_namedKind_71 : decode cX6_namedKind 71 = .ok (.iload_n 2, 1) := by decide +kernel
theorem dX6_namedKind_72 : decode cX6_namedKind 72 = .ok (.ldc 80, 2) := by decide +kernel
theorem dX6_namedKind_74 : decode cX6_namedKind 74 = .ok (.invokestatic 68, 3) := by decide +kernel
theorem dX6_namedKind_77 : decode cX6_namedKind 77 = .ok (.ifCond .eq 6, 3) := by decide +kernel
theorem dX6_namedKind_80 : decode cX6_namedKind 80 = .ok (.bipush 10, 2) := by decide +kernel
theorem dX6_namedKind_82 : decode cX6_namedKind 82 = .ok (.ireturn, 1) := by decide +kernel
theorem dX6_namedKind_83 : decode cX6_namedKind 83 = .ok (.aload_n 0, 1) := by decide +kernel
theorem dX6_namedKind_84 : decode cX6_namedKind 84 = .ok (.iload_n 1, 1) := by decide +kernel
theorem dX6_namedKind_85 : decode cX6_namedKind 85 = .ok (.iload_n 2, 1) := by decide +kernel
theorem dX6_namedKind_86 : decode cX6_namedKind 86 = .ok (.ldc 82, 2) := by decide +kernel
theorem dX6_namedKind_88 : decode cX6_namedKind 88 = .ok (.invokestatic 68, 3) := by decide +kernel
theorem dX6_namedKind_91 : decode cX6_namedKind 91 = .ok (.ifCond .eq 8, 3) := by decide +kernel
theorem dX6_namedKind_94 : decode cX6_namedKind 94 = .ok (.bipush 11, 2) := by decide +kernel
theorem dX6_namedKind_96 : decode cX6_namedKind 96 = .ok (.goto 4, 3) := by decide +kernel
theorem dX6_namedKind_99 : decode cX6_namedKind 99 = .ok (.iconst 1, 1) := by decide +kernel
theorem dX6_namedKind_100 : decode cX6_namedKind 100 = .ok (.ireturn, 1) := by decide +kernel
set_option maxRecDepth 20000 in
theorem ggX6_isWord_J0_length_8abf5 : GoodIn wsX6_isWord wsJ0_length_8abf5 := goodIn_r _ [5, 6, 7, 8, 9, 4, 10, 11, 12] (by decide +kernel) (by decide +kernel)
set_option maxRecDepth 20000 in
theorem gX6_isWord_J0_length_8abf5 : GoodIn wsX6_isWord (wsV RX6 84 RJ0 yJ0_length_8abf5 wsJ0_length_8abf5) := goodIn_app (goodIn_of _ (by decide +kernel)) ggX6_isWord_J0_length_8abf5
set_option maxRecDepth 20000 in
theorem ggX6_isWord_X0_at : GoodIn wsX6_isWord wsX0_at := goodIn_r _ [17, 18, 19, 57, 58, 59] (by decide +kernel) (by decide +kernel)
set_option maxRecDepth 20000 in
theorem gX6_isWord_X0_at : GoodIn wsX6_isWord (wsV RX6 38 RX0 yX0_at wsX0_at) := goodIn_app (goodIn_of _ (by decide +kernel)) ggX6_isWord_X0_at
set_option maxRecDepth 20000 in
theorem ggX6_isWord_J0_charAt_5068e : GoodIn wsX6_isWord wsJ0_charAt_5068e := goodIn_r _ [23, 6, 24, 25, 26, 4, 27, 11, 12, 28, 29, 30, 31, 32, 33, 34, 35, 36, 37, 38, 39, 40, 41, 42, 43, 44, 45, 46, 47, 48, 49, 50, 51, 52, 53, 54, 55, 56] (by decide +kernel) (by decide +kernel)
set_option maxRecDepth 20000 in
theorem gX6_isWord_J0_charAt_5068e : GoodIn wsX6_isWord (wsV RX6 87 RJ0 yJ0_charAt_5068e wsJ0_charAt_5068e) := goodIn_app (goodIn_of _ (by decide +kernel)) ggX6_isWord_J0_charAt_5068e
theorem dX6_isWord_0 : decode cX6_isWord 0 = .ok (.iload_n 2, 1) := by decide +kernel
theorem dX6_isWord_1 : decode cX6_isWord 1 = .ok (.iload_n 1, 1) := by decide +kernel
theorem dX6_isWord_2 : decode cX6_isWord 2 = .ok (.isub, 1) := by decide +kernel
theorem dX6_isWord_3 : decode cX6_isWord 3 = .ok (.aload_n 3, 1) := by decide +kernel
theorem dX6_isWord_4 : decode cX6_isWord 4 = .ok (.invokevirtual 84, 3) := by decide +kernel
theorem dX6_isWord_7 : decode cX6_isWord 7 = .ok (.if_icmp .eq 5, 3) := by decide +kernel
theorem dX6_isWord_10 : decode cX6_isWord 10 = .ok (.iconst 0, 1) := by decide +kernel
theorem dX6_isWord_11 : decode cX6_isWord 11 = .ok (.ireturn, 1) := by decide +kernel
theorem dX6_isWord_12 : decode cX6_isWord 12 = .ok (.iconst 0, 1) := by decide +kernel
theorem dX6_isWord_13 : decode cX6_isWord 13 = .ok (.istore 4, 2) := by decide +kernel
theorem dX6_isWord_15 : decode cX6_isWord 15 = .ok (.iload 4, 2) := by decide +kernel
theorem dX6_isWord_17 : decode cX6_isWord 17 = .ok (.aload_n 3, 1) := by decide +kernel
theorem dX6_isWord_18 : decode cX6_isWord 18 = .ok (.invokevirtual 84, 3) := by decide +kernel
theorem dX6_isWord_21 : decode cX6_isWord 21 = .ok (.if_icmp .ge 28, 3) := by decide +kernel
theorem dX6_isWord_24 : decode cX6_isWord 24 = .ok (.aload_n 0, 1) := by decide +kernel
theorem dX6_isWord_25 : decode cX6_isWord 25 = .ok (.iload_n 1, 1) := by decide +kernel
theorem dX6_isWord_26 : decode cX6_isWord 26 = .ok (.iload 4, 2) := by decide +kernel
theorem dX6_isWord_28 : decode cX6_isWord 28 = .ok (.iadd, 1) := by decide +kernel
theorem dX6_isWord_29 : decode cX6_isWord 29 = .ok (.invokevirtual 38, 3) := by decide +kernel
theorem dX6_isWord_32 : decode cX6_isWord 32 = .ok (.aload_n 3, 1) := by decide +kernel
theorem dX6_isWord_33 : decode cX6_isWord 33 = .ok (.iload 4, 2) := by decide +kernel
theorem dX6_isWord_35 : decode cX6_isWord 35 = .ok (.invokevirtual 87, 3) := by decide +kernel
theorem dX6_isWord_38 : decode cX6_isWord 38 = .ok (.if_icmp .eq 5, 3) := by decide +kernel
theorem dX6_isWord_41 : decode cX6_isWord 41 = .ok (.iconst 0, 1) := by decide +kernel
theorem dX6_isWord_42 : decode cX6_isWord 42 = .ok (.ireturn, 1) := by decide +kernel
theorem dX6_isWord_43 : decode cX6_isWord 43 = .ok (.iinc 4 1, 3) := by decide +kernel
theorem dX6_isWord_46 : decode cX6_isWord 46 = .ok (.goto (-31), 3) := by decide +kernel
theorem dX6_isWord_49 : decode cX6_isWord 49 = .ok (.iconst 1, 1) := by decide +kernel
theorem dX6_isWord_50 : decode cX6_isWord 50 = .ok (.ireturn, 1) := by decide +kernel
set_option maxRecDepth 20000 in
theorem ggX6_numberedKind_X0_at : GoodIn wsX6_numberedKind wsX0_at := goodIn_r _ [6, 7, 8, 18, 19, 20] (by decide +kernel) (by decide +kernel)
set_option maxRecDepth 20000 in
theorem gX6_numberedKind_X0_at : GoodIn wsX6_numberedKind (wsV RX6 38 RX0 yX0_at wsX0_at) := goodIn_app (goodIn_of _ (by decide +kernel)) ggX6_numberedKind_X0_at
set_option maxRecDepth 20000 in
theorem ggX6_numberedKind_X6_numberIn : GoodIn wsX6_numberedKind wsX6_numberIn := goodIn_r _ [12, 2, 3, 4, 5, 6, 7, 8, 18, 19, 20] (by decide +kernel) (by decide +kernel)
set_option maxRecDepth 20000 in
theorem gX6_numberedKind_X6_numberIn : GoodIn wsX6_numberedKind (va_wsS RX6 91 yX6_numberIn wsX6_numberIn) := goodIn_app (goodIn_of _ (by decide +kernel)) ggX6_numberedKind_X6_numberIn
theorem dX6_numberedKind_0 : decode cX6_numberedKind 0 = .ok (.bipush 14, 2) := by decide +kernel
theorem dX6_numberedKind_2 : decode cX6_numberedKind 2 = .ok (.istore 4, 2) := by decide +kernel
theorem dX6_numberedKind_4 : decode cX6_numberedKind 4 = .ok (.aload_n 1, 1) := by decide +kernel
theorem dX6_numberedKind_5 : decode cX6_numberedKind 5 = .ok (.iload_n 2, 1) := by decide +kernel
theorem dX6_numberedKind_6 : decode cX6_numberedKind 6 = .ok (.invokevirtual 38, 3) := by decide +kernel
theorem dX6_numberedKind_9 : decode cX6_numberedKind 9 = .ok (.bipush 97, 2) := by decide +kernel
theorem dX6_numberedKind_11 : decode cX6_numberedKind 11 = .ok (.if_icmp .ne 24, 3) := by decide +kernel
theorem dX6_numberedKind_14 : decode cX6_numberedKind 14 = .ok (.bipush 12, 2) := by decide +kernel
theorem dX6_numberedKind_16 : decode cX6_numberedKind 16 = .ok (.istore 4, 2) := by decide +kernel
theorem dX6_numberedKind_18 : decode cX6_numberedKind 18 = .ok (.aload_n 0, 1) := by decide +kernel
theorem dX6_numberedKind_19 : decode cX6_numberedKind 19 = .ok (.aload_n 1, 1) := by decide +kernel
theorem dX6_numberedKind_20 : decode cX6_numberedKind 20 = .ok (.iload_n 2, 1) := by decide +kernel
theorem dX6_numberedKind_21 : decode cX6_numberedKind 21 = .ok (.iconst 1, 1) := by decide +kernel
theorem dX6_numberedKind_22 : decode cX6_numberedKind 22 = .ok (.iadd, 1) := by decide +kernel
theorem dX6_numberedKind_23 : decode cX6_numberedKind 23 = .ok (.iload_n 3, 1) := by decide +kernel
theorem dX6_numberedKind_24 : decode cX6_numberedKind 24 = .ok (.bipush 31, 2) := by decide +kernel
theorem dX6_numberedKind_26 : decode cX6_numberedKind 26 = .ok (.invokestatic 91, 3) := by decide +kernel
theorem dX6_numberedKind_29 : decode cX6_numberedKind 29 = .ok (.putfield 57, 3) := by decide +kernel
theorem dX6_numberedKind_32 : decode cX6_numberedKind 32 = .ok (.goto 47, 3) := by decide +kernel
theorem dX6_numberedKind_35 : decode cX6_numberedKind 35 = .ok (.aload_n 1, 1) := by decide +kernel
theorem dX6_numberedKind_36 : decode cX6_numberedKind 36 = .ok (.iload_n 2, 1) := by decide +kernel
theorem dX6_numberedKind_37 : decode cX6_numberedKind 37 = .ok (.invokevirtual 38, 3) := by decide +kernel
theorem dX6_numberedKind_40 : decode cX6_numberedKind 40 = .ok (.bipush 99, 2) := by decide +kernel
theorem dX6_numberedKind_42 : decode cX6_numberedKind 42 = .ok (.if_icmp .ne 24, 3) := by decide +kernel
theorem dX6_numberedKind_45 : decode cX6_numberedKind 45 = .ok (.bipush 13, 2) := by decide +kernel
theorem dX6_numberedKind_47 : decode cX6_numberedKind 47 = .ok (.istore 4, 2) := by decide +kernel
theorem dX6_numberedKind_49 : decode cX6_numberedKind 49 = .ok (.aload_n 0, 1) := by decide +kernel
theorem dX6_numberedKind_50 : decode cX6_numberedKind 50 = .ok (.aload_n 1, 1) := by decide +kernel
theorem dX6_numberedKind_51 : decode cX6_numberedKind 51 = .ok (.iload_n 2, 1) := by decide +kernel
theorem dX6_numberedKind_52 : decode cX6_numberedKind 52 = .ok (.iconst 1, 1) := by decide +kernel
theorem dX6_numberedKind_53 : decode cX6_numberedKind 53 = .ok (.iadd, 1) := by decide +kernel
theorem dX6_numberedKind_54 : decode cX6_numberedKind 54 = .ok (.iload_n 3, 1) := by decide +kernel
theorem dX6_numberedKind_55 : decode cX6_numberedKind 55 = .ok (.bipush 15, 2) := by decide +kernel
theorem dX6_numberedKind_57 : decode cX6_numberedKind 57 = .ok (.invokestatic 91, 3) := by decide +kernel
theorem dX6_numberedKind_60 : decode cX6_numberedKind 60 = .ok (.putfield 57, 3) := by decide +kernel
theorem dX6_numberedKind_63 : decode cX6_numberedKind 63 = .ok (.goto 16, 3) := by decide +kernel
theorem dX6_numberedKind_66 : decode cX6_numberedKind 66 = .ok (.aload_n 0, 1) := by decide +kernel
theorem dX6_numberedKind_67 : decode cX6_numberedKind 67 = .ok (.aload_n 1, 1) := by decide +kernel
theorem dX6_numberedKind_68 : decode cX6_numberedKind 68 = .ok (.iload_n 2, 1) := by decide +kernel
theorem dX6_numberedKind_69 : decode cX6_numberedKind 69 = .ok (.iload_n 3, 1) := by decide +kernel
theorem dX6_numberedKind_70 : decode cX6_numberedKind 70 = .ok (.sipush 3600, 3) := by decide +kernel
theorem dX6_numberedKind_73 : decode cX6_numberedKind 73 = .ok (.invokestatic 91, 3) := by decide +kernel
theorem dX6_numberedKind_76 : decode cX6_numberedKind 76 = .ok (.putfield 57, 3) := by decide +kernel
theorem dX6_numberedKind_79 : decode cX6_numberedKind 79 = .ok (.aload_n 0, 1) := by decide +kernel
theorem dX6_numberedKind_80 : decode cX6_numberedKind 80 = .ok (.getfield 57, 3) := by decide +kernel
theorem dX6_numberedKind_83 : decode cX6_numberedKind 83 = .ok (.iconst (-1), 1) := by decide +kernel
theorem dX6_numberedKind_84 : decode cX6_numberedKind 84 = .ok (.if_icmp .ne 7, 3) := by decide +kernel
theorem dX6_numberedKind_87 : decode cX6_numberedKind 87 = .ok (.iconst 1, 1) := by decide +kernel
theorem dX6_numberedKind_88 : decode cX6_numberedKind 88 = .ok (.goto 5, 3) := by decide +kernel
theorem dX6_numberedKind_91 : decode cX6_numberedKind 91 = .ok (.iload 4, 2) := by decide +kernel
theorem dX6_numberedKind_93 : decode cX6_numberedKind 93 = .ok (.ireturn, 1) := by decide +kernel
set_option maxRecDepth 20000 in
theorem ggX6_numberIn_X0_at : GoodIn wsX6_numberIn wsX0_at := goodIn_r _ [5, 6, 7, 8, 9, 10] (by decide +kernel) (by decide +kernel)
set_option maxRecDepth 20000 in
theorem gX6_numberIn_X0_at : GoodIn wsX6_numberIn (wsV RX6 38 RX0 yX0_at wsX0_at) := goodIn_app (goodIn_of _ (by decide +kernel)) ggX6_numberIn_X0_at
theorem dX6_numberIn_0 : decode cX6_numberIn 0 = .ok (.iload_n 1, 1) := by decide +kernel
theorem dX6_numberIn_1 : decode cX6_numberIn 1 = .ok (.iload_n 2, 1) := by decide +kernel
theorem dX6_numberIn_2 : decode cX6_numberIn 2 = .ok (.if_icmp .ge 20, 3) := by decide +kernel
theorem dX6_numberIn_5 : decode cX6_numberIn 5 = .ok (.aload_n 0, 1) := by decide +kernel
theorem dX6_numberIn_6 : decode cX6_numberIn 6 = .ok (.iload_n 1, 1) := by decide +kernel
theorem dX6_numberIn_7 : decode cX6_numberIn 7 = .ok (.invokevirtual 38, 3) := by decide +kernel
theorem dX6_numberIn_10 : decode cX6_numberIn 10 = .ok (.bipush 48, 2) := by decide +kernel
theorem dX6_numberIn_12 : decode cX6_numberIn 12 = .ok (.if_icmp .ne 12, 3) := by decide +kernel
theorem dX6_numberIn_15 : decode cX6_numberIn 15 = .ok (.iload_n 2, 1) := by decide +kernel
theorem dX6_numberIn_16 : decode cX6_numberIn 16 = .ok (.iload_n 1, 1) := by decide +kernel
theorem dX6_numberIn_17 : decode cX6_numberIn 17 = .ok (.isub, 1) := by decide +kernel
theorem dX6_numberIn_18 : decode cX6_numberIn 18 = .ok (.iconst 1, 1) := by decide +kernel
theorem dX6_numberIn_19 : decode cX6_numberIn 19 = .ok (.if_icmp .le 5, 3) := by decide +kernel
theorem dX6_numberIn_22 : decode cX6_numberIn 22 = .ok (.iconst (-1), 1) := by decide +kernel
theorem dX6_numberIn_23 : decode cX6_numberIn 23 = .ok (.ireturn, 1) := by decide +kernel
theorem dX6_numberIn_24 : decode cX6_numberIn 24 = .ok (.iconst 0, 1) := by decide +kernel
theorem dX6_numberIn_25 : decode cX6_numberIn 25 = .ok (.istore 4, 2) := by decide +kernel
theorem dX6_numberIn_27 : decode cX6_numberIn 27 = .ok (.iload_n 1, 1) := by decide +kernel
theorem dX6_numberIn_28 : decode cX6_numberIn 28 = .ok (.istore 5, 2) := by decide +kernel
theorem dX6_numberIn_30 : decode cX6_numberIn 30 = .ok (.iload 5, 2) := by decide +kernel
theorem dX6_numberIn_32 : decode cX6_numberIn 32 = .ok (.iload_n 2, 1) := by decide +kernel
theorem dX6_numberIn_33 : decode cX6_numberIn 33 = .ok (.if_icmp .ge 52, 3) := by decide +kernel
theorem dX6_numberIn_36 : decode cX6_numberIn 36 = .ok (.aload_n 0, 1) := by decide +kernel
theorem dX6_numberIn_37 : decode cX6_numberIn 37 = .ok (.iload 5, 2) := by decide +kernel
theorem dX6_numberIn_39 : decode cX6_numberIn 39 = .ok (.invokevirtual 38, 3) := by decide +kernel
theorem dX6_numberIn_42 : decode cX6_numberIn 42 = .ok (.bipush 48, 2) := by decide +kernel
theorem dX6_numberIn_44 : decode cX6_numberIn 44 = .ok (.isub, 1) := by decide +kernel
theorem dX6_numberIn_45 : decode cX6_numberIn 45 = .ok (.istore 6, 2) := by decide +kernel
theorem dX6_numberIn_47 : decode cX6_numberIn 47 = .ok (.iload 6, 2) := by decide +kernel
theorem dX6_numberIn_49 : decode cX6_numberIn 49 = .ok (.ifCond .lt 10, 3) := by decide +kernel
theorem dX6_numberIn_52 : decode cX6_numberIn 52 = .ok (.iload 6, 2) := by decide +kernel
theorem dX6_numberIn_54 : decode cX6_numberIn 54 = .ok (.bipush 9, 2) := by decide +kernel
theorem dX6_numberIn_56 : decode cX6_numberIn 56 = .ok (.if_icmp .le 5, 3) := by decide +kernel
theorem dX6_numberIn_59 : decode cX6_numberIn 59 = .ok (.iconst (-1), 1) := by decide +kernel
theorem dX6_numberIn_60 : decode cX6_numberIn 60 = .ok (.ireturn, 1) := by decide +kernel
theorem dX6_numberIn_61 : decode cX6_numberIn 61 = .ok (.bipush 10, 2) := by decide +kernel
theorem dX6_numberIn_63 : decode cX6_numberIn 63 = .ok (.iload 4, 2) := by decide +kernel
theorem dX6_numberIn_65 : decode cX6_numberIn 65 = .ok (.imul, 1) := by decide +kernel
theorem dX6_numberIn_66 : decode cX6_numberIn 66 = .ok (.iload 6, 2) := by decide +kernel
theorem dX6_numberIn_68 : decode cX6_numberIn 68 = .ok (.iadd, 1) := by decide +kernel
theorem dX6_numberIn_69 : decode cX6_numberIn 69 = .ok (.istore 4, 2) := by decide +kernel
theorem dX6_numberIn_71 : decode cX6_numberIn 71 = .ok (.iload 4, 2) := by decide +kernel
theorem dX6_numberIn_73 : decode cX6_numberIn 73 = .ok (.iload_n 3, 1) := by decide +kernel
theorem dX6_numberIn_74 : decode cX6_numberIn 74 = .ok (.if_icmp .le 5, 3) := by decide +kernel
theorem dX6_numberIn_77 : decode cX6_numberIn 77 = .ok (.iconst (-1), 1) := by decide +kernel
theorem dX6_numberIn_78 : decode cX6_numberIn 78 = .ok (.ireturn, 1) := by decide +kernel
theorem dX6_numberIn_79 : decode cX6_numberIn 79 = .ok (.iinc 5 1, 3) := by decide +kernel
theorem dX6_numberIn_82 : decode cX6_numberIn 82 = .ok (.goto (-52), 3) := by decide +kernel
theorem dX6_numberIn_85 : decode cX6_numberIn 85 = .ok (.iload 4, 2) := by decide +kernel
theorem dX6_numberIn_87 : decode cX6_numberIn 87 = .ok (.ireturn, 1) := by decide +kernel
set_option maxRecDepth 20000 in
theorem ggX7_init_X0_init : GoodIn wsX7_init wsX0_init := goodIn_r _ [11, 12, 2, 3, 13, 14, 15, 16, 17, 18, 19] (by decide +kernel) (by decide +kernel)
set_option maxRecDepth 20000 in
theorem gX7_init_X0_init : GoodIn wsX7_init (wsX0_init) := ggX7_init_X0_init
theorem dX7_init_0 : decode cX7_init 0 = .ok (.aload_n 0, 1) := by decide +kernel
theorem dX7_init_1 : decode cX7_init 1 = .ok (.invokespecial 3, 3) := by decide +kernel
theorem dX7_init_4 : decode cX7_init 4 = .ok (.aload_n 0, 1) := by decide +kernel
theorem dX7_init_5 : decode cX7_init 5 = .ok (.new 9, 3) := by decide +kernel
theorem dX7_init_8 : decode cX7_init 8 = .ok (.dup, 1) := by decide +kernel
theorem dX7_init_9 : decode cX7_init 9 = .ok (.sipush 6000, 3) := by decide +kernel
theorem dX7_init_12 : decode cX7_init 12 = .ok (.invokespecial 11, 3) := by decide +kernel
theorem dX7_init_15 : decode cX7_init 15 = .ok (.putfield 14, 3) := by decide +kernel
theorem dX7_init_18 : decode cX7_init 18 = .ok (.aload_n 0, 1) := by decide +kernel
theorem dX7_init_19 : decode cX7_init 19 = .ok (.aload_n 1, 1) := by decide +kernel
theorem dX7_init_20 : decode cX7_init 20 = .ok (.putfield 20, 3) := by decide +kernel
theorem dX7_init_23 : decode cX7_init 23 = .ok (.return_, 1) := by decide +kernel
set_option maxRecDepth 20000 in
theorem ggX7_putRow_X7_putWord : GoodIn wsX7_putRow wsX7_putWord := goodIn_r _ [7, 2, 1, 8, 9, 10, 11, 12, 13, 14, 15, 16, 17, 18, 19, 20, 21, 22, 23, 24, 25, 26, 27, 28, 29, 30, 31, 32, 33, 34, 35, 36, 37, 38, 39, 40, 41, 42, 43, 44, 45, 46, 47, 48, 49, 50, 51, 52, 53, 54, 55, 56, 57, 58, 59, 60, 61, 62, 63, 64, 65, 66, 67, 68, 69, 70, 71, 72, 73, 74, 75, 76, 77, 78, 79, 80, 81, 82, 83, 136, 137, 138, 139, 140, 141] (by decide +kernel) (by decide +kernel)
set_option maxRecDepth 20000 in
theorem gX7_putRow_X7_putWord : GoodIn wsX7_putRow (wsV RX7 26 RX7 yX7_putWord wsX7_putWord) := goodIn_app (goodIn_of _ (by decide +kernel)) ggX7_putRow_X7_putWord
set_option maxRecDepth 20000 in
theorem ggX7_putRow_X3_actAt : GoodIn wsX7_putRow wsX3_actAt := goodIn_r _ [88, 89, 90, 123, 124, 125, 126, 127, 128, 129, 130, 131, 132, 133, 134, 135] (by decide +kernel) (by decide +kernel)
set_option maxRecDepth 20000 in
theorem gX7_putRow_X3_actAt : GoodIn wsX7_putRow (wsV RX7 38 RX3 yX3_actAt wsX3_actAt) := goodIn_app (goodIn_of _ (by decide +kernel)) ggX7_putRow_X3_actAt
set_option maxRecDepth 20000 in
theorem ggX7_putRow_X7_putDigits : GoodIn wsX7_putRow wsX7_putDigits := goodIn_r _ [94, 1, 8, 9, 10, 11, 12, 13, 14, 15, 16, 17, 18, 19, 20, 21, 22, 23, 24, 25, 26, 27, 28, 29, 30, 31, 32, 33, 34, 136, 137, 138, 139, 140, 141] (by decide +kernel) (by decide +kernel)
set_option maxRecDepth 20000 in
theorem gX7_putRow_X7_putDigits : GoodIn wsX7_putRow (wsV RX7 42 RX7 yX7_putDigits wsX7_putDigits) := goodIn_app (goodIn_of _ (by decide +kernel)) ggX7_putRow_X7_putDigits
set_option maxRecDepth 20000 in
theorem ggX7_putRow_X7_putExpression : GoodIn wsX7_putRow wsX7_putExpression := goodIn_r _ [98, 2, 99, 1, 3, 4, 5, 6, 7, 8, 9, 10, 11, 12, 13, 14, 15, 16, 17, 18, 19, 20, 21, 22, 23, 24, 25, 26, 27, 28, 29, 30, 31, 32, 33, 34, 35, 36, 37, 38, 39, 40, 41, 42, 43, 44, 45, 46, 47, 48, 49, 50, 51, 52, 53, 54, 55, 56, 57, 58, 59, 60, 61, 62, 63, 64, 65, 66, 67, 68, 69, 70, 71, 72, 73, 74, 75, 76, 77, 78, 79, 80, 81, 82, 83, 100, 101, 102, 103, 104, 105, 106, 107, 108, 109, 110, 111, 112, 113, 114, 95, 96, 97, 115, 116, 117, 118, 119, 120, 121, 122, 91, 92, 93, 94, 136, 137, 138, 139, 140, 141, 142, 143, 144] (by decide +kernel) (by decide +kernel)
set_option maxRecDepth 20000 in
theorem gX7_putRow_X7_putExpression : GoodIn wsX7_putRow (wsV RX7 50 RX7 yX7_putExpression wsX7_putExpression) := goodIn_app (goodIn_of _ (by decide +kernel)) ggX7_putRow_X7_putExpression
set_option maxRecDepth 20000 in
theorem ggX7_putRow_X0_add : GoodIn wsX7_putRow wsX0_add := goodIn_r _ [12, 13, 14, 15, 16, 17, 18, 19, 20, 21, 22, 23, 24, 25, 26, 27, 28, 29, 30, 31, 32, 33, 34, 139, 140, 141] (by decide +kernel) (by decide +kernel)
set_option maxRecDepth 20000 in
theorem gX7_putRow_X0_add : GoodIn wsX7_putRow (wsV RX7 70 RX0 yX0_add wsX0_add) := goodIn_app (goodIn_of _ (by decide +kernel)) ggX7_putRow_X0_add
theorem dX7_putRow_0 : decode cX7_putRow 0 = .ok (.aload_n 0, 1) := by decide +kernel
theorem dX7_putRow_1 : decode cX7_putRow 1 = .ok (.ldc 24, 2) := by decide +kernel
theorem dX7_putRow_3 : decode cX7_putRow 3 = .ok (.invokevirtual 26, 3) := by decide +kernel
theorem dX7_putRow_6 : decode cX7_putRow 6 = .ok (.iconst 0, 1) := by decide +kernel
theorem dX7_putRow_7 : decode cX7_putRow 7 = .ok (.istore_n 2, 1) := by decide +kernel
theorem dX7_putRow_8 : decode cX7_putRow 8 = .ok (.iload_n 2, 1) := by decide +kernel
theorem dX7_putRow_9 : decode cX7_putRow 9 = .ok (.aload_n 1, 1) := by decide +kernel
theorem dX7_putRow_10 : decode cX7_putRow 10 = .ok (.getfield 30, 3) := by decide +kernel
theorem dX7_putRow_13 : decode cX7_putRow 13 = .ok (.if_icmp .ge 24, 3) := by decide +kernel
theorem dX7_putRow_16 : decode cX7_putRow 16 = .ok (.aload_n 0, 1) := by decide +kernel
theorem dX7_putRow_17 : decode cX7_putRow 17 = .ok (.ldc 36, 2) := by decide +kernel
theorem dX7_putRow_19 : decode cX7_putRow 19 = .ok (.invokevirtual 26, 3) := by decide +kernel
theorem dX7_putRow_22 : decode cX7_putRow 22 = .ok (.aload_n 0, 1) := by decide +kernel
theorem dX7_putRow_23 : decode cX7_putRow 23 = .ok (.aload_n 1, 1) := by decide +kernel
theorem dX7_putRow_24 : decode cX7_putRow 24 = .ok (.iload_n 2, 1) := by decide +kernel
theorem dX7_putRow_25 : decode cX7_putRow 25 = .ok (.invokevirtual 38, 3) := by decide +kernel
theorem dX7_putRow_28 : decode cX7_putRow 28 = .ok (.invokevirtual 42, 3) := by decide +kernel
theorem dX7_putRow_31 : decode cX7_putRow 31 = .ok (.iinc 2 1, 3) := by decide +kernel
theorem dX7_putRow_34 : decode cX7_putRow 34 = .ok (.goto (-26), 3) := by decide +kernel
theorem dX7_putRow_37 : decode cX7_putRow 37 = .ok (.aload_n 0, 1) := by decide +kernel
theorem dX7_putRow_38 : decode cX7_putRow 38 = .ok (.ldc 45, 2) := by decide +kernel
theorem dX7_putRow_40 : decode cX7_putRow 40 = .ok (.invokevirtual 26, 3) := by decide +kernel
theorem dX7_putRow_43 : decode cX7_putRow 43 = .ok (.aload_n 0, 1) := by decide +kernel
theorem dX7_putRow_44 : decode cX7_putRow 44 = .ok (.aload_n 1, 1) := by decide +kernel
theorem dX7_putRow_45 : decode cX7_putRow 45 = .ok (.getfield 47, 3) := by decide +kernel
theorem dX7_putRow_48 : decode cX7_putRow 48 = .ok (.iconst 1, 1) := by decide +kernel
theorem dX7_putRow_49 : decode cX7_putRow 49 = .ok (.isub, 1) := by decide +kernel
theorem dX7_putRow_50 : decode cX7_putRow 50 = .ok (.iconst 0, 1) := by decide +kernel
theorem dX7_putRow_51 : decode cX7_putRow 51 = .ok (.iconst 0, 1) := by decide +kernel
theorem dX7_putRow_52 : decode cX7_putRow 52 = .ok (.invokevirtual 50, 3) := by decide +kernel
theorem dX7_putRow_55 : decode cX7_putRow 55 = .ok (.aload_n 1, 1) := by decide +kernel
theorem dX7_putRow_56 : decode cX7_putRow 56 = .ok (.getfield 54, 3) := by decide +kernel
theorem dX7_putRow_59 : decode cX7_putRow 59 = .ok (.ifCond .eq 23, 3) := by decide +kernel
theorem dX7_putRow_62 : decode cX7_putRow 62 = .ok (.aload_n 0, 1) := by decide +kernel
theorem dX7_putRow_63 : decode cX7_putRow 63 = .ok (.ldc 58, 2) := by decide +kernel
theorem dX7_putRow_65 : decode cX7_putRow 65 = .ok (.invokevirtual 26, 3) := by decide +kernel
theorem dX7_putRow_68 : decode cX7_putRow 68 = .ok (.aload_n 0, 1) := by decide +kernel
theorem dX7_putRow_69 : decode cX7_putRow 69 = .ok (.ldc 60, 2) := by decide +kernel
theorem dX7_putRow_71 : decode cX7_putRow 71 = .ok (.invokevirtual 26, 3) := by decide +kernel
theorem dX7_putRow_74 : decode cX7_putRow 74 = .ok (.aload_n 0, 1) := by decide +kernel
theorem dX7_putRow_75 : decode cX7_putRow 75 = .ok (.aload_n 1, 1) := by decide +kernel
theorem dX7_putRow_76 : decode cX7_putRow 76 = .ok (.getfield 62, 3) := by decide +kernel
theorem dX7_putRow_79 : decode cX7_putRow 79 = .ok (.invokevirtual 42, 3) := by decide +kernel
theorem dX7_putRow_82 : decode cX7_putRow 82 = .ok (.aload_n 1, 1) := by decide +kernel
theorem dX7_putRow_83 : decode cX7_putRow 83 = .ok (.getfield 65, 3) := by decide +kernel
theorem dX7_putRow_86 : decode cX7_putRow 86 = .ok (.ifCond .eq 9, 3) := by decide +kernel
theorem dX7_putRow_89 : decode cX7_putRow 89 = .ok (.aload_n 0, 1) := by decide +kernel
theorem dX7_putRow_90 : decode cX7_putRow 90 = .ok (.ldc 68, 2) := by decide +kernel
theorem dX7_putRow_92 : decode cX7_putRow 92 = .ok (.invokevirtual 26, 3) := by decide +kernel
theorem dX7_putRow_95 : decode cX7_putRow 95 = .ok (.aload_n 0, 1) := by decide +kernel
theorem dX7_putRow_96 : decode cX7_putRow 96 = .ok (.getfield 14, 3) := by decide +kernel
theorem dX7_putRow_99 : decode cX7_putRow 99 = .ok (.bipush 59, 2) := by decide +kernel
theorem dX7_putRow_101 : decode cX7_putRow 101 = .ok (.invokevirtual 70, 3) := by decide +kernel
theorem dX7_putRow_104 : decode cX7_putRow 104 = .ok (.pop, 1) := by decide +kernel
theorem dX7_putRow_105 : decode cX7_putRow 105 = .ok (.aload_n 0, 1) := by decide +kernel
theorem dX7_putRow_106 : decode cX7_putRow 106 = .ok (.getfield 14, 3) := by decide +kernel
theorem dX7_putRow_109 : decode cX7_putRow 109 = .ok (.bipush 10, 2) := by decide +kernel
theorem dX7_putRow_111 : decode cX7_putRow 111 = .ok (.invokevirtual 70, 3) := by decide +kernel
theorem dX7_putRow_114 : decode cX7_putRow 114 = .ok (.pop, 1) := by decide +kernel
theorem dX7_putRow_115 : decode cX7_putRow 115 = .ok (.aload_n 0, 1) := by decide +kernel
theorem dX7_putRow_116 : decode cX7_putRow 116 = .ok (.iconst 0, 1) := by decide +kernel
theorem dX7_putRow_117 : decode cX7_putRow 117 = .ok (.putfield 74, 3) := by decide +kernel
theorem dX7_putRow_120 : decode cX7_putRow 120 = .ok (.return_, 1) := by decide +kernel
set_option maxRecDepth 20000 in
theorem ggX7_putExpression_X7_putWord : GoodIn wsX7_putExpression wsX7_putWord := goodIn_r _ [8, 1, 3, 9, 10, 11, 12, 13, 14, 15, 16, 17, 18, 19, 20, 21, 22, 23, 24, 25, 26, 27, 28, 29, 30, 31, 32, 33, 34, 35, 36, 37, 38, 39, 40, 41, 42, 43, 44, 45, 46, 47, 48, 49, 50, 51, 52, 53, 54, 55, 56, 57, 58, 59, 60, 61, 62, 63, 64, 65, 66, 67, 68, 69, 70, 71, 72, 73, 74, 75, 76, 77, 78, 79, 80, 81, 82, 83, 84, 115, 116, 117, 118, 119, 120] (by decide +kernel) (by decide +kernel)
set_option maxRecDepth 20000 in
theorem gX7_putExpression_X7_putWord : GoodIn wsX7_putExpression (wsV RX7 26 RX7 yX7_putWord wsX7_putWord) := goodIn_app (goodIn_of _ (by decide +kernel)) ggX7_putExpression_X7_putWord
set_option maxRecDepth 20000 in
theorem ggX7_putExpression_X1_at : GoodIn wsX7_putExpression wsX1_at := goodIn_r _ [89, 90, 91, 121, 122, 123] (by decide +kernel) (by decide +kernel)
set_option maxRecDepth 20000 in
theorem gX7_putExpression_X1_at : GoodIn wsX7_putExpression (wsV RX7 79 RX1 yX1_at wsX1_at) := goodIn_app (goodIn_of _ (by decide +kernel)) ggX7_putExpression_X1_at
set_option maxRecDepth 20000 in
theorem ggX7_putExpression_X7_isJoin : GoodIn wsX7_putExpression wsX7_isJoin := goodIn_r _ [95, 2, 85, 86, 87, 88, 89, 90, 91, 96, 97, 98, 7, 99, 115, 116, 117, 121, 122, 123] (by decide +kernel) (by decide +kernel)
set_option maxRecDepth 20000 in
theorem gX7_putExpression_X7_isJoin : GoodIn wsX7_putExpression (wsV RX7 86 RX7 yX7_isJoin wsX7_isJoin) := goodIn_app (goodIn_of _ (by decide +kernel)) ggX7_putExpression_X7_isJoin
set_option maxRecDepth 20000 in
theorem ggX7_putExpression_X7_putExpression : GoodIn wsX7_putExpression wsX7_putExpression := goodIn_r _ [0, 1, 2, 3, 4, 5, 6, 7, 8, 9, 10, 11, 12, 13, 14, 15, 16, 17, 18, 19, 20, 21, 22, 23, 24, 25, 26, 27, 28, 29, 30, 31, 32, 33, 34, 35, 36, 37, 38, 39, 40, 41, 42, 43, 44, 45, 46, 47, 48, 49, 50, 51, 52, 53, 54, 55, 56, 57, 58, 59, 60, 61, 62, 63, 64, 65, 66, 67, 68, 69, 70, 71, 72, 73, 74, 75, 76, 77, 78, 79, 80, 81, 82, 83, 84, 85, 86, 87, 88, 89, 90, 91, 92, 93, 94, 95, 96, 97, 98, 99, 100, 101, 102, 103, 104, 105, 106, 107, 108, 109, 110, 111, 112, 113, 114, 115, 116, 117, 118, 119, 120, 121, 122, 123] (by decide +kernel) (by decide +kernel)
set_option maxRecDepth 20000 in
theorem gX7_putExpression_X7_putExpression : GoodIn wsX7_putExpression (wsV RX7 50 RX7 yX7_putExpression wsX7_putExpression) := goodIn_app (goodIn_of _ (by decide +kernel)) ggX7_putExpression_X7_putExpression
set_option maxRecDepth 20000 in
theorem ggX7_putExpression_X1_leftOf : GoodIn wsX7_putExpression wsX1_leftOf := goodIn_r _ [106, 107, 86, 87, 88, 89, 90, 91, 108, 109, 110, 121, 122, 123] (by decide +kernel) (by decide +kernel)
set_option maxRecDepth 20000 in
theorem gX7_putExpression_X1_leftOf : GoodIn wsX7_putExpression (wsV RX7 89 RX1 yX1_leftOf wsX1_leftOf) := goodIn_app (goodIn_of _ (by decide +kernel)) ggX7_putExpression_X1_leftOf
set_option maxRecDepth 20000 in
theorem ggX7_putExpression_X7_isOr : GoodIn wsX7_putExpression wsX7_isOr := goodIn_r _ [99, 2, 85, 86, 87, 88, 89, 90, 91, 115, 116, 117, 121, 122, 123] (by decide +kernel) (by decide +kernel)
set_option maxRecDepth 20000 in
theorem gX7_putExpression_X7_isOr : GoodIn wsX7_putExpression (wsV RX7 92 RX7 yX7_isOr wsX7_isOr) := goodIn_app (goodIn_of _ (by decide +kernel)) ggX7_putExpression_X7_isOr
set_option maxRecDepth 20000 in
theorem ggX7_putExpression_X7_putDigits : GoodIn wsX7_putExpression wsX7_putDigits := goodIn_r _ [114, 3, 9, 10, 11, 12, 13, 14, 15, 16, 17, 18, 19, 20, 21, 22, 23, 24, 25, 26, 27, 28, 29, 30, 31, 32, 33, 34, 35, 115, 116, 117, 118, 119, 120] (by decide +kernel) (by decide +kernel)
set_option maxRecDepth 20000 in
theorem gX7_putExpression_X7_putDigits : GoodIn wsX7_putExpression (wsV RX7 42 RX7 yX7_putDigits wsX7_putDigits) := goodIn_app (goodIn_of _ (by decide +kernel)) ggX7_putExpression_X7_putDigits
set_option maxRecDepth 20000 in
theorem ggX7_putExpression_X0_add : GoodIn wsX7_putExpression wsX0_add := goodIn_r _ [13, 14, 15, 16, 17, 18, 19, 20, 21, 22, 23, 24, 25, 26, 27, 28, 29, 30, 31, 32, 33, 34, 35, 118, 119, 120] (by decide +kernel) (by decide +kernel)
set_option maxRecDepth 20000 in
theorem gX7_putExpression_X0_add : GoodIn wsX7_putExpression (wsV RX7 70 RX0 yX0_add wsX0_add) := goodIn_app (goodIn_of _ (by decide +kernel)) ggX7_putExpression_X0_add
theorem dX7_putExpression_0 : decode cX7_putExpression 0 = .ok (.iload_n 3, 1) := by decide +kernel
theorem dX7_putExpression_1 : decode cX7_putExpression 1 = .ok (.bipush 52, 2) := by decide +kernel
theorem dX7_putExpression_3 : decode cX7_putExpression 3 = .ok (.if_icmp .le 4, 3) := by decide +kernel
theorem dX7_putExpression_6 : decode cX7_putExpression 6 = .ok (.return_, 1) := by decide +kernel
theorem dX7_putExpression_7 : decode cX7_putExpression 7 = .ok (.iload_n 2, 1) := by decide +kernel
theorem dX7_putExpression_8 : decode cX7_putExpression 8 = .ok (.ifCond .eq 14, 3) := by decide +kernel
theorem dX7_putExpression_11 : decode cX7_putExpression 11 = .ok (.aload_n 0, 1) := by decide +kernel
theorem dX7_putExpression_12 : decode cX7_putExpression 12 = .ok (.ldc 77, 2) := by decide +kernel
theorem dX7_putExpression_14 : decode cX7_putExpression 14 = .ok (.invokevirtual 26, 3) := by decide +kernel
theorem dX7_putExpression_17 : decode cX7_putExpression 17 = .ok (.aload_n 0, 1) := by decide +kernel
theorem dX7_putExpression_18 : decode cX7_putExpression 18 = .ok (.iconst 0, 1) := by decide +kernel
theorem dX7_putExpression_19 : decode cX7_putExpression 19 = .ok (.putfield 74, 3) := by decide +kernel
theorem dX7_putExpression_22 : decode cX7_putExpression 22 = .ok (.aload_n 0, 1) := by decide +kernel
theorem dX7_putExpression_23 : decode cX7_putExpression 23 = .ok (.getfield 20, 3) := by decide +kernel
theorem dX7_putExpression_26 : decode cX7_putExpression 26 = .ok (.iload_n 1, 1) := by decide +kernel
theorem dX7_putExpression_27 : decode cX7_putExpression 27 = .ok (.invokevirtual 79, 3) := by decide +kernel
theorem dX7_putExpression_30 : decode cX7_putExpression 30 = .ok (.istore 4, 2) := by decide +kernel
theorem dX7_putExpression_32 : decode cX7_putExpression 32 = .ok (.iload 4, 2) := by decide +kernel
theorem dX7_putExpression_34 : decode cX7_putExpression 34 = .ok (.bipush 16, 2) := by decide +kernel
theorem dX7_putExpression_36 : decode cX7_putExpression 36 = .ok (.if_icmp .ne 29, 3) := by decide +kernel
theorem dX7_putExpression_39 : decode cX7_putExpression 39 = .ok (.aload_n 0, 1) := by decide +kernel
theorem dX7_putExpression_40 : decode cX7_putExpression 40 = .ok (.ldc 84, 2) := by decide +kernel
theorem dX7_putExpression_42 : decode cX7_putExpression 42 = .ok (.invokevirtual 26, 3) := by decide +kernel
theorem dX7_putExpression_45 : decode cX7_putExpression 45 = .ok (.aload_n 0, 1) := by decide +kernel
theorem dX7_putExpression_46 : decode cX7_putExpression 46 = .ok (.iload_n 1, 1) := by decide +kernel
theorem dX7_putExpression_47 : decode cX7_putExpression 47 = .ok (.iconst 1, 1) := by decide +kernel
theorem dX7_putExpression_48 : decode cX7_putExpression 48 = .ok (.isub, 1) := by decide +kernel
theorem dX7_putExpression_49 : decode cX7_putExpression 49 = .ok (.aload_n 0, 1) := by decide +kernel
theorem dX7_putExpression_50 : decode cX7_putExpression 50 = .ok (.iload_n 1, 1) := by decide +kernel
theorem dX7_putExpression_51 : decode cX7_putExpression 51 = .ok (.iconst 1, 1) := by decide +kernel
theorem dX7_putExpression_52 : decode cX7_putExpression 52 = .ok (.isub, 1) := by decide +kernel
theorem dX7_putExpression_53 : decode cX7_putExpression 53 = .ok (.invokevirtual 86, 3) := by decide +kernel
theorem dX7_putExpression_56 : decode cX7_putExpression 56 = .ok (.iload_n 3, 1) := by decide +kernel
theorem dX7_putExpression_57 : decode cX7_putExpression 57 = .ok (.iconst 1, 1) := by decide +kernel
theorem dX7_putExpression_58 : decode cX7_putExpression 58 = .ok (.iadd, 1) := by decide +kernel
theorem dX7_putExpression_59 : decode cX7_putExpression 59 = .ok (.invokevirtual 50, 3) := by decide +kernel
theorem dX7_putExpression_62 : decode cX7_putExpression 62 = .ok (.goto 124, 3) := by decide +kernel
theorem dX7_putExpression_65 : decode cX7_putExpression 65 = .ok (.aload_n 0, 1) := by decide +kernel
theorem dX7_putExpression_66 : decode cX7_putExpression 66 = .ok (.iload_n 1, 1) := by decide +kernel
theorem dX7_putExpression_67 : decode cX7_putExpression 67 = .ok (.invokevirtual 86, 3) := by decide +kernel
theorem dX7_putExpression_70 : decode cX7_putExpression 70 = .ok (.ifCond .eq 104, 3) := by decide +kernel
theorem dX7_putExpression_73 : decode cX7_putExpression 73 = .ok (.iload 4, 2) := by decide +kernel
theorem dX7_putExpression_75 : decode cX7_putExpression 75 = .ok (.bipush 17, 2) := by decide +kernel
theorem dX7_putExpression_77 : decode cX7_putExpression 77 = .ok (.if_icmp .ne 7, 3) := by decide +kernel
theorem dX7_putExpression_80 : decode cX7_putExpression 80 = .ok (.iconst 1, 1) := by decide +kernel
theorem dX7_putExpression_81 : decode cX7_putExpression 81 = .ok (.goto 4, 3) := by decide +kernel
theorem dX7_putExpression_84 : decode cX7_putExpression 84 = .ok (.iconst 0, 1) := by decide +kernel
theorem dX7_putExpression_85 : decode cX7_putExpression 85 = .ok (.istore 5, 2) := by decide +kernel
theorem dX7_putExpression_87 : decode cX7_putExpression 87 = .ok (.aload_n 0, 1) := by decide +kernel
theorem dX7_putExpression_88 : decode cX7_putExpression 88 = .ok (.getfield 20, 3) := by decide +kernel
theorem dX7_putExpression_91 : decode cX7_putExpression 91 = .ok (.iload_n 1, 1) := by decide +kernel
theorem dX7_putExpression_92 : decode cX7_putExpression 92 = .ok (.invokevirtual 89, 3) := by decide +kernel
theorem dX7_putExpression_95 : decode cX7_putExpression 95 = .ok (.istore 6, 2) := by decide +kernel
theorem dX7_putExpression_97 : decode cX7_putExpression 97 = .ok (.aload_n 0, 1) := by decide +kernel
theorem dX7_putExpression_98 : decode cX7_putExpression 98 = .ok (.iload 6, 2) := by decide +kernel
theorem dX7_putExpression_100 : decode cX7_putExpression 100 = .ok (.iload 5, 2) := by decide +kernel
theorem dX7_putExpression_102 : decode cX7_putExpression 102 = .ok (.ifCond .eq 16, 3) := by decide +kernel
theorem dX7_putExpression_105 : decode cX7_putExpression 105 = .ok (.aload_n 0, 1) := by decide +kernel
theorem dX7_putExpression_106 : decode cX7_putExpression 106 = .ok (.iload 6, 2) := by decide +kernel
theorem dX7_putExpression_108 : decode cX7_putExpression 108 = .ok (.invokevirtual 92, 3) := by decide +kernel
theorem dX7_putExpression_111 : decode cX7_putExpression 111 = .ok (.ifCond .eq 7, 3) := by decide +kernel
theorem dX7_putExpression_114 : decode cX7_putExpression 114 = .ok (.iconst 1, 1) := by decide +kernel
theorem dX7_putExpression_115 : decode cX7_putExpression 115 = .ok (.goto 4, 3) := by decide +kernel
theorem dX7_putExpression_118 : decode cX7_putExpression 118 = .ok (.iconst 0, 1) := by decide +kernel
theorem dX7_putExpression_119 : decode cX7_putExpression 119 = .ok (.iload_n 3, 1) := by decide +kernel
theorem dX7_putExpression_120 : decode cX7_putExpression 120 = .ok (.iconst 1, 1) := by decide +kernel
theorem dX7_putExpression_121 : decode cX7_putExpression 121 = .ok (.iadd, 1) := by decide +kernel
theorem dX7_putExpression_122 : decode cX7_putExpression 122 = .ok (.invokevirtual 50, 3) := by decide +kernel
theorem dX7_putExpression_125 : decode cX7_putExpression 125 = .ok (.aload_n 0, 1) := by decide +kernel
theorem dX7_putExpression_126 : decode cX7_putExpression 126 = .ok (.iload 5, 2) := by decide +kernel
theorem dX7_putExpression_128 : decode cX7_putExpression 128 = .ok (.ifCond .eq 8, 3) := by decide +kernel
theorem dX7_putExpression_131 : decode cX7_putExpression 131 = .ok (.ldc 95, 2) := by decide +kernel
theorem dX7_putExpression_133 : decode cX7_putExpression 133 = .ok (.goto 5, 3) := by decide +kernel
theorem dX7_putExpression_136 : decode cX7_putExpression 136 = .ok (.ldc 97, 2) := by decide +kernel
theorem dX7_putExpression_138 : decode cX7_putExpression 138 = .ok (.invokevirtual 26, 3) := by decide +kernel
theorem dX7_putExpression_141 : decode cX7_putExpression 141 = .ok (.aload_n 0, 1) := by decide +kernel
theorem dX7_putExpression_142 : decode cX7_putExpression 142 = .ok (.iload_n 1, 1) := by decide +kernel
theorem dX7_putExpression_143 : decode cX7_putExpression 143 = .ok (.iconst 1, 1) := by decide +kernel
theorem dX7_putExpression_144 : decode cX7_putExpression 144 = .ok (.isub, 1) := by decide +kernel
theorem dX7_putExpression_145 : decode cX7_putExpression 145 = .ok (.iload 5, 2) := by decide +kernel
theorem dX7_putExpression_147 : decode cX7_putExpression 147 = .ok (.ifCond .eq 17, 3) := by decide +kernel
theorem dX7_putExpression_150 : decode cX7_putExpression 150 = .ok (.aload_n 0, 1) := by decide +kernel
theorem dX7_putExpression_151 : decode cX7_putExpression 151 = .ok (.iload_n 1, 1) := by decide +kernel
theorem dX7_putExpression_152 : decode cX7_putExpression 152 = .ok (.iconst 1, 1) := by decide +kernel
theorem dX7_putExpression_153 : decode cX7_putExpression 153 = .ok (.isub, 1) := by decide +kernel
theorem dX7_putExpression_154 : decode cX7_putExpression 154 = .ok (.invokevirtual 92, 3) := by decide +kernel
theorem dX7_putExpression_157 : decode cX7_putExpression 157 = .ok (.ifCond .eq 7, 3) := by decide +kernel
theorem dX7_putExpression_160 : decode cX7_putExpression 160 = .ok (.iconst 1, 1) := by decide +kernel
theorem dX7_putExpression_161 : decode cX7_putExpression 161 = .ok (.goto 4, 3) := by decide +kernel
theorem dX7_putExpression_164 : decode cX7_putExpression 164 = .ok (.iconst 0, 1) := by decide +kernel
theorem dX7_putExpression_165 : decode cX7_putExpression 165 = .ok (.iload_n 3, 1) := by decide +kernel
theorem dX7_putExpression_166 : decode cX7_putExpression 166 = .ok (.iconst 1, 1) := by decide +kernel
theorem dX7_putExpression_167 : decode cX7_putExpression 167 = .ok (.iadd, 1) := by decide +kernel
theorem dX7_putExpression_168 : decode cX7_putExpression 168 = .ok (.invokevirtual 50, 3) := by decide +kernel
theorem dX7_putExpression_171 : decode cX7_putExpression 171 = .ok (.goto 15, 3) := by decide +kernel
theorem dX7_putExpression_174 : decode cX7_putExpression 174 = .ok (.aload_n 0, 1) := by decide +kernel
theorem dX7_putExpression_175 : decode cX7_putExpression 175 = .ok (.ldc 99, 2) := by decide +kernel
theorem dX7_putExpression_177 : decode cX7_putExpression 177 = .ok (.invokevirtual 26, 3) := by decide +kernel
theorem dX7_putExpression_180 : decode cX7_putExpression 180 = .ok (.aload_n 0, 1) := by decide +kernel
theorem dX7_putExpression_181 : decode cX7_putExpression 181 = .ok (.iload 4, 2) := by decide +kernel
theorem dX7_putExpression_183 : decode cX7_putExpression 183 = .ok (.invokevirtual 42, 3) := by decide +kernel
theorem dX7_putExpression_186 : decode cX7_putExpression 186 = .ok (.iload_n 2, 1) := by decide +kernel
theorem dX7_putExpression_187 : decode cX7_putExpression 187 = .ok (.ifCond .eq 13, 3) := by decide +kernel
theorem dX7_putExpression_190 : decode cX7_putExpression 190 = .ok (.aload_n 0, 1) := by decide +kernel
theorem dX7_putExpression_191 : decode cX7_putExpression 191 = .ok (.getfield 14, 3) := by decide +kernel
theorem dX7_putExpression_194 : decode cX7_putExpression 194 = .ok (.bipush 41, 2) := by decide +kernel
theorem dX7_putExpression_196 : decode cX7_putExpression 196 = .ok (.invokevirtual 70, 3) := by decide +kernel
theorem dX7_putExpression_199 : decode cX7_putExpression 199 = .ok (.pop, 1) := by decide +kernel
theorem dX7_putExpression_200 : decode cX7_putExpression 200 = .ok (.return_, 1) := by decide +kernel
set_option maxRecDepth 20000 in
theorem ggX7_isJoin_X1_at : GoodIn wsX7_isJoin wsX1_at := goodIn_r _ [6, 7, 8, 17, 18, 19] (by decide +kernel) (by decide +kernel)
set_option maxRecDepth 20000 in
theorem gX7_isJoin_X1_at : GoodIn wsX7_isJoin (wsV RX7 79 RX1 yX1_at wsX1_at) := goodIn_app (goodIn_of _ (by decide +kernel)) ggX7_isJoin_X1_at
set_option maxRecDepth 20000 in
theorem ggX7_isJoin_X7_isOr : GoodIn wsX7_isJoin wsX7_isOr := goodIn_r _ [13, 1, 2, 3, 4, 5, 6, 7, 8, 14, 15, 16, 17, 18, 19] (by decide +kernel) (by decide +kernel)
set_option maxRecDepth 20000 in
theorem gX7_isJoin_X7_isOr : GoodIn wsX7_isJoin (wsV RX7 92 RX7 yX7_isOr wsX7_isOr) := goodIn_app (goodIn_of _ (by decide +kernel)) ggX7_isJoin_X7_isOr
theorem dX7_isJoin_0 : decode cX7_isJoin 0 = .ok (.aload_n 0, 1) := by decide +kernel
theorem dX7_isJoin_1 : decode cX7_isJoin 1 = .ok (.getfield 20, 3) := by decide +kernel
theorem dX7_isJoin_4 : decode cX7_isJoin 4 = .ok (.iload_n 1, 1) := by decide +kernel
theorem dX7_isJoin_5 : decode cX7_isJoin 5 = .ok (.invokevirtual 79, 3) := by decide +kernel
theorem dX7_isJoin_8 : decode cX7_isJoin 8 = .ok (.bipush 17, 2) := by decide +kernel
theorem dX7_isJoin_10 : decode cX7_isJoin 10 = .ok (.if_icmp .eq 11, 3) := by decide +kernel
theorem dX7_isJoin_13 : decode cX7_isJoin 13 = .ok (.aload_n 0, 1) := by decide +kernel
theorem dX7_isJoin_14 : decode cX7_isJoin 14 = .ok (.iload_n 1, 1) := by decide +kernel
theorem dX7_isJoin_15 : decode cX7_isJoin 15 = .ok (.invokevirtual 92, 3) := by decide +kernel
theorem dX7_isJoin_18 : decode cX7_isJoin 18 = .ok (.ifCond .eq 7, 3) := by decide +kernel
theorem dX7_isJoin_21 : decode cX7_isJoin 21 = .ok (.iconst 1, 1) := by decide +kernel
theorem dX7_isJoin_22 : decode cX7_isJoin 22 = .ok (.goto 4, 3) := by decide +kernel
theorem dX7_isJoin_25 : decode cX7_isJoin 25 = .ok (.iconst 0, 1) := by decide +kernel
theorem dX7_isJoin_26 : decode cX7_isJoin 26 = .ok (.ireturn, 1) := by decide +kernel
set_option maxRecDepth 20000 in
theorem ggX7_isOr_X1_at : GoodIn wsX7_isOr wsX1_at := goodIn_r _ [6, 7, 8, 12, 13, 14] (by decide +kernel) (by decide +kernel)
set_option maxRecDepth 20000 in
theorem gX7_isOr_X1_at : GoodIn wsX7_isOr (wsV RX7 79 RX1 yX1_at wsX1_at) := goodIn_app (goodIn_of _ (by decide +kernel)) ggX7_isOr_X1_at
theorem dX7_isOr_0 : decode cX7_isOr 0 = .ok (.aload_n 0, 1) := by decide +kernel
theorem dX7_isOr_1 : decode cX7_isOr 1 = .ok (.getfield 20, 3) := by decide +kernel
theorem dX7_isOr_4 : decode cX7_isOr 4 = .ok (.iload_n 1, 1) := by decide +kernel
theorem dX7_isOr_5 : decode cX7_isOr 5 = .ok (.invokevirtual 79, 3) := by decide +kernel
theorem dX7_isOr_8 : decode cX7_isOr 8 = .ok (.bipush 18, 2) := by decide +kernel
theorem dX7_isOr_10 : decode cX7_isOr 10 = .ok (.if_icmp .ne 7, 3) := by decide +kernel
theorem dX7_isOr_13 : decode cX7_isOr 13 = .ok (.iconst 1, 1) := by decide +kernel
theorem dX7_isOr_14 : decode cX7_isOr 14 = .ok (.goto 4, 3) := by decide +kernel
theorem dX7_isOr_17 : decode cX7_isOr 17 = .ok (.iconst 0, 1) := by decide +kernel
theorem dX7_isOr_18 : decode cX7_isOr 18 = .ok (.ireturn, 1) := by decide +kernel
set_option maxRecDepth 20000 in
theorem ggX7_putWord_X0_add : GoodIn wsX7_putWord wsX0_add := goodIn_r _ [7, 8, 9, 10, 11, 12, 13, 14, 15, 16, 17, 18, 19, 20, 21, 22, 23, 24, 25, 26, 27, 28, 29, 82, 83, 84] (by decide +kernel) (by decide +kernel)
set_option maxRecDepth 20000 in
theorem gX7_putWord_X0_add : GoodIn wsX7_putWord (wsV RX7 70 RX0 yX0_add wsX0_add) := goodIn_app (goodIn_of _ (by decide +kernel)) ggX7_putWord_X0_add
set_option maxRecDepth 20000 in
theorem ggX7_putWord_J0_length_8abf5 : GoodIn wsX7_putWord wsJ0_length_8abf5 := goodIn_r _ [34, 35, 36, 37, 38, 33, 39, 40, 41] (by decide +kernel) (by decide +kernel)
set_option maxRecDepth 20000 in
theorem gX7_putWord_J0_length_8abf5 : GoodIn wsX7_putWord (wsV RX7 101 RJ0 yJ0_length_8abf5 wsJ0_length_8abf5) := goodIn_app (goodIn_of _ (by decide +kernel)) ggX7_putWord_J0_length_8abf5
set_option maxRecDepth 20000 in
theorem ggX7_putWord_J0_charAt_5068e : GoodIn wsX7_putWord wsJ0_charAt_5068e := goodIn_r _ [45, 35, 46, 47, 48, 33, 49, 40, 41, 50, 51, 52, 53, 54, 55, 56, 57, 58, 59, 60, 61, 62, 63, 64, 65, 66, 67, 68, 69, 70, 71, 72, 73, 74, 75, 76, 77, 78] (by decide +kernel) (by decide +kernel)
set_option maxRecDepth 20000 in
theorem gX7_putWord_J0_charAt_5068e : GoodIn wsX7_putWord (wsV RX7 107 RJ0 yJ0_charAt_5068e wsJ0_charAt_5068e) := goodIn_app (goodIn_of _ (by decide +kernel)) ggX7_putWord_J0_charAt_5068e
theorem dX7_putWord_0 : decode cX7_putWord 0 = .ok (.aload_n 0, 1) := by decide +kernel
theorem dX7_putWord_1 : decode cX7_putWord 1 = .ok (.getfield 74, 3) := by decide +kernel
theorem dX7_putWord_4 : decode cX7_putWord 4 = .ok (.ifCond .eq 13, 3) := by decide +kernel
theorem dX7_putWord_7 : decode cX7_putWord 7 = .ok (.aload_n 0, 1) := by decide +kernel
theorem dX7_putWord_8 : decode cX7_putWord 8 = .ok (.getfield 14, 3) := by decide +kernel
theorem dX7_putWord_11 : decode cX7_putWord 11 = .ok (.bipush 32, 2) := by decide +kernel
theorem dX7_putWord_13 : decode cX7_putWord 13 = .ok (.invokevirtual 70, 3) := by decide +kernel
theorem dX7_putWord_16 : decode cX7_putWord 16 = .ok (.pop, 1) := by decide +kernel
theorem dX7_putWord_17 : decode cX7_putWord 17 = .ok (.iconst 0, 1) := by decide +kernel
theorem dX7_putWord_18 : decode cX7_putWord 18 = .ok (.istore_n 2, 1) := by decide +kernel
theorem dX7_putWord_19 : decode cX7_putWord 19 = .ok (.iload_n 2, 1) := by decide +kernel
theorem dX7_putWord_20 : decode cX7_putWord 20 = .ok (.aload_n 1, 1) := by decide +kernel
theorem dX7_putWord_21 : decode cX7_putWord 21 = .ok (.invokevirtual 101, 3) := by decide +kernel
theorem dX7_putWord_24 : decode cX7_putWord 24 = .ok (.if_icmp .ge 22, 3) := by decide +kernel
theorem dX7_putWord_27 : decode cX7_putWord 27 = .ok (.aload_n 0, 1) := by decide +kernel
theorem dX7_putWord_28 : decode cX7_putWord 28 = .ok (.getfield 14, 3) := by decide +kernel
theorem dX7_putWord_31 : decode cX7_putWord 31 = .ok (.aload_n 1, 1) := by decide +kernel
theorem dX7_putWord_32 : decode cX7_putWord 32 = .ok (.iload_n 2, 1) := by decide +kernel
theorem dX7_putWord_33 : decode cX7_putWord 33 = .ok (.invokevirtual 107, 3) := by decide +kernel
theorem dX7_putWord_36 : decode cX7_putWord 36 = .ok (.invokevirtual 70, 3) := by decide +kernel
theorem dX7_putWord_39 : decode cX7_putWord 39 = .ok (.pop, 1) := by decide +kernel
theorem dX7_putWord_40 : decode cX7_putWord 40 = .ok (.iinc 2 1, 3) := by decide +kernel
theorem dX7_putWord_43 : decode cX7_putWord 43 = .ok (.goto (-24), 3) := by decide +kernel
theorem dX7_putWord_46 : decode cX7_putWord 46 = .ok (.aload_n 0, 1) := by decide +kernel
theorem dX7_putWord_47 : decode cX7_putWord 47 = .ok (.iconst 1, 1) := by decide +kernel
theorem dX7_putWord_48 : decode cX7_putWord 48 = .ok (.putfield 74, 3) := by decide +kernel
theorem dX7_putWord_51 : decode cX7_putWord 51 = .ok (.return_, 1) := by decide +kernel
set_option maxRecDepth 20000 in
theorem ggX7_putDigits_X0_add : GoodIn wsX7_putDigits wsX0_add := goodIn_r _ [6, 7, 8, 9, 10, 11, 12, 13, 14, 15, 16, 17, 18, 19, 20, 21, 22, 23, 24, 25, 26, 27, 28, 32, 33, 34] (by decide +kernel) (by decide +kernel)
set_option maxRecDepth 20000 in
theorem gX7_putDigits_X0_add : GoodIn wsX7_putDigits (wsV RX7 70 RX0 yX0_add wsX0_add) := goodIn_app (goodIn_of _ (by decide +kernel)) ggX7_putDigits_X0_add
theorem dX7_putDigits_0 : decode cX7_putDigits 0 = .ok (.sipush 1000, 3) := by decide +kernel
theorem dX7_putDigits_3 : decode cX7_putDigits 3 = .ok (.istore_n 2, 1) := by decide +kernel
theorem dX7_putDigits_4 : decode cX7_putDigits 4 = .ok (.iload_n 2, 1) := by decide +kernel
theorem dX7_putDigits_5 : decode cX7_putDigits 5 = .ok (.iconst 1, 1) := by decide +kernel
theorem dX7_putDigits_6 : decode cX7_putDigits 6 = .ok (.if_icmp .lt 38, 3) := by decide +kernel
theorem dX7_putDigits_9 : decode cX7_putDigits 9 = .ok (.iload_n 1, 1) := by decide +kernel
theorem dX7_putDigits_10 : decode cX7_putDigits 10 = .ok (.iload_n 2, 1) := by decide +kernel
theorem dX7_putDigits_11 : decode cX7_putDigits 11 = .ok (.if_icmp .ge 8, 3) := by decide +kernel
theorem dX7_putDigits_14 : decode cX7_putDigits 14 = .ok (.iload_n 2, 1) := by decide +kernel
theorem dX7_putDigits_15 : decode cX7_putDigits 15 = .ok (.iconst 1, 1) := by decide +kernel
theorem dX7_putDigits_16 : decode cX7_putDigits 16 = .ok (.if_icmp .ne 20, 3) := by decide +kernel
theorem dX7_putDigits_19 : decode cX7_putDigits 19 = .ok (.aload_n 0, 1) := by decide +kernel
theorem dX7_putDigits_20 : decode cX7_putDigits 20 = .ok (.getfield 14, 3) := by decide +kernel
theorem dX7_putDigits_23 : decode cX7_putDigits 23 = .ok (.bipush 48, 2) := by decide +kernel
theorem dX7_putDigits_25 : decode cX7_putDigits 25 = .ok (.iload_n 1, 1) := by decide +kernel
theorem dX7_putDigits_26 : decode cX7_putDigits 26 = .ok (.iload_n 2, 1) := by decide +kernel
theorem dX7_putDigits_27 : decode cX7_putDigits 27 = .ok (.idiv, 1) := by decide +kernel
theorem dX7_putDigits_28 : decode cX7_putDigits 28 = .ok (.bipush 10, 2) := by decide +kernel
theorem dX7_putDigits_30 : decode cX7_putDigits 30 = .ok (.irem, 1) := by decide +kernel
theorem dX7_putDigits_31 : decode cX7_putDigits 31 = .ok (.iadd, 1) := by decide +kernel
theorem dX7_putDigits_32 : decode cX7_putDigits 32 = .ok (.invokevirtual 70, 3) := by decide +kernel
theorem dX7_putDigits_35 : decode cX7_putDigits 35 = .ok (.pop, 1) := by decide +kernel
theorem dX7_putDigits_36 : decode cX7_putDigits 36 = .ok (.iload_n 2, 1) := by decide +kernel
theorem dX7_putDigits_37 : decode cX7_putDigits 37 = .ok (.bipush 10, 2) := by decide +kernel
theorem dX7_putDigits_39 : decode cX7_putDigits 39 = .ok (.idiv, 1) := by decide +kernel
theorem dX7_putDigits_40 : decode cX7_putDigits 40 = .ok (.istore_n 2, 1) := by decide +kernel
theorem dX7_putDigits_41 : decode cX7_putDigits 41 = .ok (.goto (-37), 3) := by decide +kernel
theorem dX7_putDigits_44 : decode cX7_putDigits 44 = .ok (.return_, 1) := by decide +kernel
set_option maxRecDepth 20000 in
theorem ggX8_init_X0_init : GoodIn wsX8_init wsX0_init := goodIn_r _ [16, 17, 2, 3, 18, 19, 20, 21, 59, 60, 61] (by decide +kernel) (by decide +kernel)
set_option maxRecDepth 20000 in
theorem gX8_init_X0_init : GoodIn wsX8_init (wsX0_init) := ggX8_init_X0_init
set_option maxRecDepth 20000 in
theorem ggX8_init_X5_init : GoodIn wsX8_init wsX5_init := goodIn_r _ [24, 25, 2, 3, 26, 27, 28, 29, 30, 31, 32, 33, 34, 35, 36, 37, 38, 39, 40, 41, 42, 43, 44, 45, 46, 47, 48, 49, 50, 51, 52, 8, 53, 54, 55, 56, 57, 19, 58, 69, 70, 71, 65, 66, 67, 68, 72, 73, 74] (by decide +kernel) (by decide +kernel)
set_option maxRecDepth 20000 in
theorem gX8_init_X5_init : GoodIn wsX8_init (wsX5_init) := ggX8_init_X5_init
theorem dX8_init_0 : decode cX8_init 0 = .ok (.aload_n 0, 1) := by decide +kernel
theorem dX8_init_1 : decode cX8_init 1 = .ok (.invokespecial 3, 3) := by decide +kernel
theorem dX8_init_4 : decode cX8_init 4 = .ok (.aload_n 0, 1) := by decide +kernel
theorem dX8_init_5 : decode cX8_init 5 = .ok (.new 9, 3) := by decide +kernel
theorem dX8_init_8 : decode cX8_init 8 = .ok (.dup, 1) := by decide +kernel
theorem dX8_init_9 : decode cX8_init 9 = .ok (.sipush 3000, 3) := by decide +kernel
theorem dX8_init_12 : decode cX8_init 12 = .ok (.invokespecial 11, 3) := by decide +kernel
theorem dX8_init_15 : decode cX8_init 15 = .ok (.putfield 14, 3) := by decide +kernel
theorem dX8_init_18 : decode cX8_init 18 = .ok (.aload_n 0, 1) := by decide +kernel
theorem dX8_init_19 : decode cX8_init 19 = .ok (.bipush 16, 2) := by decide +kernel
theorem dX8_init_21 : decode cX8_init 21 = .ok (.newarray .long, 2) := by decide +kernel
theorem dX8_init_23 : decode cX8_init 23 = .ok (.putfield 18, 3) := by decide +kernel
theorem dX8_init_26 : decode cX8_init 26 = .ok (.aload_n 0, 1) := by decide +kernel
theorem dX8_init_27 : decode cX8_init 27 = .ok (.new 22, 3) := by decide +kernel
theorem dX8_init_30 : decode cX8_init 30 = .ok (.dup, 1) := by decide +kernel
theorem dX8_init_31 : decode cX8_init 31 = .ok (.iconst 0, 1) := by decide +kernel
theorem dX8_init_32 : decode cX8_init 32 = .ok (.invokespecial 24, 3) := by decide +kernel
theorem dX8_init_35 : decode cX8_init 35 = .ok (.putfield 25, 3) := by decide +kernel
theorem dX8_init_38 : decode cX8_init 38 = .ok (.return_, 1) := by decide +kernel
set_option maxRecDepth 20000 in
theorem ggX8_unit_X0_add : GoodIn wsX8_unit wsX0_add := goodIn_r _ [6, 7, 8, 9, 10, 11, 12, 13, 14, 15, 16, 17, 18, 19, 20, 21, 22, 23, 24, 25, 26, 27, 28, 32, 33, 34] (by decide +kernel) (by decide +kernel)
set_option maxRecDepth 20000 in
theorem gX8_unit_X0_add : GoodIn wsX8_unit (wsV RX8 29 RX0 yX0_add wsX0_add) := goodIn_app (goodIn_of _ (by decide +kernel)) ggX8_unit_X0_add
theorem dX8_unit_0 : decode cX8_unit 0 = .ok (.iload_n 1, 1) := by decide +kernel
theorem dX8_unit_1 : decode cX8_unit 1 = .ok (.iconst 1, 1) := by decide +kernel
theorem dX8_unit_2 : decode cX8_unit 2 = .ok (.if_icmp .lt 24, 3) := by decide +kernel
theorem dX8_unit_5 : decode cX8_unit 5 = .ok (.iload_n 1, 1) := by decide +kernel
theorem dX8_unit_6 : decode cX8_unit 6 = .ok (.bipush 127, 2) := by decide +kernel
theorem dX8_unit_8 : decode cX8_unit 8 = .ok (.if_icmp .gt 18, 3) := by decide +kernel
theorem dX8_unit_11 : decode cX8_unit 11 = .ok (.aload_n 0, 1) := by decide +kernel
theorem dX8_unit_12 : decode cX8_unit 12 = .ok (.getfield 14, 3) := by decide +kernel
theorem dX8_unit_15 : decode cX8_unit 15 = .ok (.iload_n 1, 1) := by decide +kernel
theorem dX8_unit_16 : decode cX8_unit 16 = .ok (.invokevirtual 29, 3) := by decide +kernel
theorem dX8_unit_19 : decode cX8_unit 19 = .ok (.ifCond .eq 7, 3) := by decide +kernel
theorem dX8_unit_22 : decode cX8_unit 22 = .ok (.iconst 1, 1) := by decide +kernel
theorem dX8_unit_23 : decode cX8_unit 23 = .ok (.goto 4, 3) := by decide +kernel
theorem dX8_unit_26 : decode cX8_unit 26 = .ok (.iconst 0, 1) := by decide +kernel
theorem dX8_unit_27 : decode cX8_unit 27 = .ok (.ireturn, 1) := by decide +kernel
set_option maxRecDepth 20000 in
theorem ggX8_read_X0_length : GoodIn wsX8_read wsX0_length := goodIn_r _ [16, 17, 327, 328, 329] (by decide +kernel) (by decide +kernel)
set_option maxRecDepth 20000 in
theorem gX8_read_X0_length : GoodIn wsX8_read (wsV RX8 35 RX0 yX0_length wsX0_length) := goodIn_app (goodIn_of _ (by decide +kernel)) ggX8_read_X0_length
set_option maxRecDepth 20000 in
theorem ggX8_read_X6_init : GoodIn wsX8_read wsX6_init := goodIn_r _ [20, 21, 22, 23, 24, 25, 26, 27, 28, 29, 30, 31, 312, 313, 314, 315, 316] (by decide +kernel) (by decide +kernel)
set_option maxRecDepth 20000 in
theorem gX8_read_X6_init : GoodIn wsX8_read (wsX6_init) := ggX8_read_X6_init
set_option maxRecDepth 20000 in
theorem ggX8_read_X6_split : GoodIn wsX8_read wsX6_split := goodIn_r _ [35, 36, 13, 14, 15, 16, 17, 37, 38, 39, 40, 41, 42, 43, 3, 44, 45, 46, 47, 48, 49, 50, 51, 52, 53, 54, 55, 56, 57, 58, 59, 60, 61, 62, 63, 64, 65, 66, 67, 68, 69, 70, 71, 72, 73, 74, 75, 76, 77, 78, 79, 80, 81, 82, 83, 84, 85, 86, 87, 88, 89, 90, 91, 92, 93, 94, 95, 96, 97, 98, 99, 100, 101, 102, 103, 104, 105, 106, 107, 108, 109, 110, 111, 112, 113, 114, 115, 116, 117, 118, 119, 29, 31, 327, 328, 329, 312, 313, 314, 315, 316] (by decide +kernel) (by decide +kernel)
set_option maxRecDepth 20000 in
theorem gX8_read_X6_split : GoodIn wsX8_read (wsV RX8 40 RX6 yX6_split wsX6_split) := goodIn_app (goodIn_of _ (by decide +kernel)) ggX8_read_X6_split
set_option maxRecDepth 20000 in
theorem ggX8_read_X0_empty : GoodIn wsX8_read wsX0_empty := goodIn_r _ [123, 17, 327, 328, 329] (by decide +kernel) (by decide +kernel)
set_option maxRecDepth 20000 in
theorem gX8_read_X0_empty : GoodIn wsX8_read (wsV RX8 44 RX0 yX0_empty wsX0_empty) := goodIn_app (goodIn_of _ (by decide +kernel)) ggX8_read_X0_empty
set_option maxRecDepth 20000 in
theorem ggX8_read_X6_count : GoodIn wsX8_read wsX6_count := goodIn_r _ [127, 119, 312, 313, 314, 315, 316] (by decide +kernel) (by decide +kernel)
set_option maxRecDepth 20000 in
theorem gX8_read_X6_count : GoodIn wsX8_read (wsV RX8 47 RX6 yX6_count wsX6_count) := goodIn_app (goodIn_of _ (by decide +kernel)) ggX8_read_X6_count
set_option maxRecDepth 20000 in
theorem ggX8_read_X5_init : GoodIn wsX8_read wsX5_init := goodIn_r _ [130, 131, 22, 23, 132, 133, 134, 135, 136, 137, 138, 139, 140, 141, 142, 143, 144, 145, 146, 147, 148, 149, 150, 151, 152, 153, 154, 155, 156, 157, 158, 159, 160, 161, 25, 26, 27, 28, 162, 330, 331, 332, 320, 321, 322, 323, 333, 334, 335] (by decide +kernel) (by decide +kernel)
set_option maxRecDepth 20000 in
theorem gX8_read_X5_init : GoodIn wsX8_read (wsX5_init) := ggX8_read_X5_init
set_option maxRecDepth 20000 in
theorem ggX8_read_X2_init : GoodIn wsX8_read wsX2_init := goodIn_r _ [165, 166, 22, 23, 167, 168, 169, 324, 325, 326, 320, 321, 322, 323] (by decide +kernel) (by decide +kernel)
set_option maxRecDepth 20000 in
theorem gX8_read_X2_init : GoodIn wsX8_read (wsX2_init) := ggX8_read_X2_init
end
section
set_option maxRecDepth 20000 in
theorem ggX8_read_X2_takeText : GoodIn wsX8_read wsX2_takeText := goodIn_r _ [173, 167, 174, 175, 176, 3, 177, 178, 119, 29, 179, 180, 181, 10, 182, 183, 184, 185, 169, 168, 186, 187, 188, 22, 23, 189, 190, 191, 192, 193, 194, 195, 196, 197, 198, 199, 200, 201, 202, 203, 204, 205, 206, 31, 207, 208, 209, 210, 211, 212, 213, 214, 215, 216, 217, 218, 219, 138, 220, 221, 222, 223, 224, 225, 226, 227, 228, 229, 230, 231, 232, 162, 233, 234, 235, 236, 237, 238, 239, 240, 241, 242, 243, 244, 245, 246, 247, 248, 249, 250, 251, 252, 134, 253, 254, 255, 144, 256, 257, 258, 259, 260, 261, 262, 263, 264, 265, 266, 267, 268, 143, 269, 25, 26, 27, 270, 271, 272, 273, 274, 275, 276, 277, 278, 279, 280, 281, 282, 283, 284, 285, 286, 287, 288, 289, 290, 291, 292, 293, 294, 295, 296, 297, 298, 299, 324, 325, 326, 312, 313, 314, 315, 316, 336, 337, 338, 339, 340, 341, 342, 343, 344, 345, 346, 347, 348, 320, 321, 322, 323, 333, 334, 335, 330, 331, 332] (by decide +kernel) (by decide +kernel)
set_option maxRecDepth 20000 in
theorem gX8_read_X2_takeText : GoodIn wsX8_read (wsV RX8 55 RX2 yX2_takeText wsX2_takeText) := goodIn_app (goodIn_of _ (by decide +kernel)) ggX8_read_X2_takeText
set_option maxRecDepth 20000 in
theorem ggX8_read_X6_index : GoodIn wsX8_read wsX6_index := goodIn_r _ [303, 178, 312, 313, 314, 315, 316] (by decide +kernel) (by decide +kernel)
set_option maxRecDepth 20000 in
theorem gX8_read_X6_index : GoodIn wsX8_read (wsV RX8 59 RX6 yX6_index wsX6_index) := goodIn_app (goodIn_of _ (by decide +kernel)) ggX8_read_X6_index
set_option maxRecDepth 20000 in
theorem ggX8_read_X5_size : GoodIn wsX8_read wsX5_size := goodIn_r _ [307, 135, 308, 309, 310, 134, 311, 256, 320, 321, 322, 323, 330, 331, 332] (by decide +kernel) (by decide +kernel)
set_option maxRecDepth 20000 in
theorem gX8_read_X5_size : GoodIn wsX8_read (wsV RX8 62 RX5 yX5_size wsX5_size) := goodIn_app (goodIn_of _ (by decide +kernel)) ggX8_read_X5_size
theorem dX8_read_0 : decode cX8_read 0 = .ok (.new 33, 3) := by decide +kernel
theorem dX8_read_3 : decode cX8_read 3 = .ok (.dup, 1) := by decide +kernel
theorem dX8_read_4 : decode cX8_read 4 = .ok (.aload_n 0, 1) := by decide +kernel
theorem dX8_read_5 : decode cX8_read 5 = .ok (.getfield 14, 3) := by decide +kernel
theorem dX8_read_8 : decode cX8_read 8 = .ok (.invokevirtual 35, 3) := by decide +kernel
theorem dX8_read_11 : decode cX8_read 11 = .ok (.invokespecial 39, 3) := by decide +kernel
theorem dX8_read_14 : decode cX8_read 14 = .ok (.astore_n 1, 1) := by decide +kernel
theorem dX8_read_15 : decode cX8_read 15 = .ok (.aload_n 1, 1) := by decide +kernel
theorem dX8_read_16 : decode cX8_read 16 = .ok (.aload_n 0, 1) := by decide +kernel
theorem dX8_read_17 : decode cX8_read 17 = .ok (.getfield 14, 3) := by decide +kernel
theorem dX8_read_20 : decode cX8_read 20 = .ok (.invokevirtual 40, 3) := by decide +kernel
theorem dX8_read_23 : decode cX8_read 23 = .ok (.aload_n 0, 1) := by decide +kernel
theorem dX8_read_24 : decode cX8_read 24 = .ok (.getfield 14, 3) := by decide +kernel
theorem dX8_read_27 : decode cX8_read 27 = .ok (.invokevirtual 44, 3) := by decide +kernel
theorem dX8_read_30 : decode cX8_read 30 = .ok (.new 22, 3) := by decide +kernel
theorem dX8_read_33 : decode cX8_read 33 = .ok (.dup, 1) := by decide +kernel
theorem dX8_read_34 : decode cX8_read 34 = .ok (.aload_n 1, 1) := by decide +kernel
theorem dX8_read_35 : decode cX8_read 35 = .ok (.invokevirtual 47, 3) := by decide +kernel
theorem dX8_read_38 : decode cX8_read 38 = .ok (.invokespecial 24, 3) := by decide +kernel
theorem dX8_read_41 : decode cX8_read 41 = .ok (.astore_n 2, 1) := by decide +kernel
theorem dX8_read_42 : decode cX8_read 42 = .ok (.new 50, 3) := by decide +kernel
theorem dX8_read_45 : decode cX8_read 45 = .ok (.dup, 1) := by decide +kernel
theorem dX8_read_46 : decode cX8_read 46 = .ok (.aload_n 1, 1) := by decide +kernel
theorem dX8_read_47 : decode cX8_read 47 = .ok (.aload_n 2, 1) := by decide +kernel
theorem dX8_read_48 : decode cX8_read 48 = .ok (.invokespecial 52, 3) := by decide +kernel
theorem dX8_read_51 : decode cX8_read 51 = .ok (.invokevirtual 55, 3) := by decide +kernel
theorem dX8_read_54 : decode cX8_read 54 = .ok (.ifCond .ne 10, 3) := by decide +kernel
theorem dX8_read_57 : decode cX8_read 57 = .ok (.iconst (-1), 1) := by decide +kernel
theorem dX8_read_58 : decode cX8_read 58 = .ok (.aload_n 1, 1) := by decide +kernel
theorem dX8_read_59 : decode cX8_read 59 = .ok (.invokevirtual 59, 3) := by decide +kernel
theorem dX8_read_62 : decode cX8_read 62 = .ok (.isub, 1) := by decide +kernel
theorem dX8_read_63 : decode cX8_read 63 = .ok (.ireturn, 1) := by decide +kernel
theorem dX8_read_64 : decode cX8_read 64 = .ok (.aload_n 0, 1) := by decide +kernel
theorem dX8_read_65 : decode cX8_read 65 = .ok (.aload_n 2, 1) := by decide +kernel
theorem dX8_read_66 : decode cX8_read 66 = .ok (.putfield 25, 3) := by decide +kernel
theorem dX8_read_69 : decode cX8_read 69 = .ok (.aload_n 0, 1) := by decide +kernel
theorem dX8_read_70 : decode cX8_read 70 = .ok (.getfield 25, 3) := by decide +kernel
theorem dX8_read_73 : decode cX8_read 73 = .ok (.invokevirtual 62, 3) := by decide +kernel
theorem dX8_read_76 : decode cX8_read 76 = .ok (.ireturn, 1) := by decide +kernel
theorem dX8_condition_0 : decode cX8_condition 0 = .ok (.iload_n 1, 1) := by decide +kernel
theorem dX8_condition_1 : decode cX8_condition 1 = .ok (.ifCond .lt 9, 3) := by decide +kernel
theorem dX8_condition_4 : decode cX8_condition 4 = .ok (.iload_n 1, 1) := by decide +kernel
theorem dX8_condition_5 : decode cX8_condition 5 = .ok (.bipush 16, 2) := by decide +kernel
theorem dX8_condition_7 : decode cX8_condition 7 = .ok (.if_icmp .lt 5, 3) := by decide +kernel
theorem dX8_condition_10 : decode cX8_condition 10 = .ok (.iconst 0, 1) := by decide +kernel
theorem dX8_condition_11 : decode cX8_condition 11 = .ok (.ireturn, 1) := by decide +kernel
theorem dX8_condition_12 : decode cX8_condition 12 = .ok (.iload_n 2, 1) := by decide +kernel
theorem dX8_condition_13 : decode cX8_condition 13 = .ok (.ifCond .eq 9, 3) := by decide +kernel
theorem dX8_condition_16 : decode cX8_condition 16 = .ok (.ldc2_w 65, 3) := by decide +kernel
theorem dX8_condition_19 : decode cX8_condition 19 = .ok (.goto 4, 3) := by decide +kernel
theorem dX8_condition_22 : decode cX8_condition 22 = .ok (.lconst 0, 1) := by decide +kernel
theorem dX8_condition_23 : decode cX8_condition 23 = .ok (.lstore_n 3, 1) := by decide +kernel
theorem dX8_condition_24 : decode cX8_condition 24 = .ok (.aload_n 0, 1) := by decide +kernel
theorem dX8_condition_25 : decode cX8_condition 25 = .ok (.getfield 18, 3) := by decide +kernel
theorem dX8_condition_28 : decode cX8_condition 28 = .ok (.iload_n 1, 1) := by decide +kernel
theorem dX8_condition_29 : decode cX8_condition 29 = .ok (.laload, 1) := by decide +kernel
theorem dX8_condition_30 : decode cX8_condition 30 = .ok (.lload_n 3, 1) := by decide +kernel
theorem dX8_condition_31 : decode cX8_condition 31 = .ok (.lcmp, 1) := by decide +kernel
theorem dX8_condition_32 : decode cX8_condition 32 = .ok (.ifCond .eq 7, 3) := by decide +kernel
theorem dX8_condition_35 : decode cX8_condition 35 = .ok (.iconst 1, 1) := by decide +kernel
theorem dX8_condition_36 : decode cX8_condition 36 = .ok (.goto 4, 3) := by decide +kernel
theorem dX8_condition_39 : decode cX8_condition 39 = .ok (.iconst 0, 1) := by decide +kernel
theorem dX8_condition_40 : decode cX8_condition 40 = .ok (.istore 5, 2) := by decide +kernel
theorem dX8_condition_42 : decode cX8_condition 42 = .ok (.aload_n 0, 1) := by decide +kernel
theorem dX8_condition_43 : decode cX8_condition 43 = .ok (.getfield 18, 3) := by decide +kernel
theorem dX8_condition_46 : decode cX8_condition 46 = .ok (.iload_n 1, 1) := by decide +kernel
theorem dX8_condition_47 : decode cX8_condition 47 = .ok (.lload_n 3, 1) := by decide +kernel
theorem dX8_condition_48 : decode cX8_condition 48 = .ok (.lastore, 1) := by decide +kernel
theorem dX8_condition_49 : decode cX8_condition 49 = .ok (.iload 5, 2) := by decide +kernel
theorem dX8_condition_51 : decode cX8_condition 51 = .ok (.ireturn, 1) := by decide +kernel
set_option maxRecDepth 20000 in
theorem ggX8_tick_X5_letGoBy : GoodIn wsX8_tick wsX5_letGoBy := goodIn_r _ [8, 9, 10, 11, 12, 13, 14, 15, 16, 17, 18, 19, 20, 21, 22, 23, 24, 25, 26, 27, 28, 29, 30, 31, 32, 33, 34, 35, 36, 7, 37, 38, 39, 40, 41, 42, 43, 44, 45, 46, 47, 48, 49, 50, 51, 52, 53, 54, 55, 56, 57, 58, 59, 60, 61, 62, 63, 64, 65, 66, 67, 68, 69, 70, 71, 72, 73, 74, 75, 76, 77, 78, 79, 80, 81, 82, 83, 87, 88, 89, 90, 91, 92, 93, 94, 95, 96, 97, 98, 99, 100, 101, 102, 103, 104, 105, 106, 107, 108, 109] (by decide +kernel) (by decide +kernel)
set_option maxRecDepth 20000 in
theorem gX8_tick_X5_letGoBy : GoodIn wsX8_tick (wsV RX8 68 RX5 yX5_letGoBy wsX5_letGoBy) := goodIn_app (goodIn_of _ (by decide +kernel)) ggX8_tick_X5_letGoBy
theorem dX8_tick_0 : decode cX8_tick 0 = .ok (.iload_n 1, 1) := by decide +kernel
theorem dX8_tick_1 : decode cX8_tick 1 = .ok (.ifCond .lt 9, 3) := by decide +kernel
theorem dX8_tick_4 : decode cX8_tick 4 = .ok (.iload_n 1, 1) := by decide +kernel
theorem dX8_tick_5 : decode cX8_tick 5 = .ok (.ldc 67, 2) := by decide +kernel
theorem dX8_tick_7 : decode cX8_tick 7 = .ok (.if_icmp .le 5, 3) := by decide +kernel
theorem dX8_tick_10 : decode cX8_tick 10 = .ok (.iconst 0, 1) := by decide +kernel
theorem dX8_tick_11 : decode cX8_tick 11 = .ok (.ireturn, 1) := by decide +kernel
theorem dX8_tick_12 : decode cX8_tick 12 = .ok (.aload_n 0, 1) := by decide +kernel
theorem dX8_tick_13 : decode cX8_tick 13 = .ok (.getfield 25, 3) := by decide +kernel
theorem dX8_tick_16 : decode cX8_tick 16 = .ok (.iload_n 1, 1) := by decide +kernel
theorem dX8_tick_17 : decode cX8_tick 17 = .ok (.aload_n 0, 1) := by decide +kernel
theorem dX8_tick_18 : decode cX8_tick 18 = .ok (.getfield 18, 3) := by decide +kernel
theorem dX8_tick_21 : decode cX8_tick 21 = .ok (.invokevirtual 68, 3) := by decide +kernel
theorem dX8_tick_24 : decode cX8_tick 24 = .ok (.iconst 1, 1) := by decide +kernel
theorem dX8_tick_25 : decode cX8_tick 25 = .ok (.ireturn, 1) := by decide +kernel
set_option maxRecDepth 20000 in
theorem ggX8_act_X5_firstToBar : GoodIn wsX8_act wsX5_firstToBar := goodIn_r _ [7, 8, 9, 10, 11, 12, 13, 14, 15, 16, 17, 18, 19, 20, 21, 22, 23, 24, 25, 26, 27, 28, 29, 30, 31, 32, 33, 34, 35, 36, 37, 38, 39, 40, 41, 6, 42, 43, 44, 45, 46, 47, 48, 49, 50, 51, 52, 53, 54, 55, 56, 57, 58, 59, 60, 61, 62, 63, 64, 65, 66, 67, 68, 69, 70, 71, 72, 73, 74, 75, 76, 77, 78, 82, 83, 84, 85, 86, 87, 88, 89, 90, 91, 92, 93, 94, 95, 96, 97, 98, 99, 100, 101, 102, 103, 104] (by decide +kernel) (by decide +kernel)
set_option maxRecDepth 20000 in
theorem gX8_act_X5_firstToBar : GoodIn wsX8_act (wsV RX8 72 RX5 yX5_firstToBar wsX5_firstToBar) := goodIn_app (goodIn_of _ (by decide +kernel)) ggX8_act_X5_firstToBar
theorem dX8_act_0 : decode cX8_act 0 = .ok (.iload_n 1, 1) := by decide +kernel
theorem dX8_act_1 : decode cX8_act 1 = .ok (.ifCond .lt 9, 3) := by decide +kernel
theorem dX8_act_4 : decode cX8_act 4 = .ok (.iload_n 1, 1) := by decide +kernel
theorem dX8_act_5 : decode cX8_act 5 = .ok (.bipush 32, 2) := by decide +kernel
theorem dX8_act_7 : decode cX8_act 7 = .ok (.if_icmp .lt 5, 3) := by decide +kernel
theorem dX8_act_10 : decode cX8_act 10 = .ok (.iconst (-1), 1) := by decide +kernel
theorem dX8_act_11 : decode cX8_act 11 = .ok (.ireturn, 1) := by decide +kernel
theorem dX8_act_12 : decode cX8_act 12 = .ok (.aload_n 0, 1) := by decide +kernel
theorem dX8_act_13 : decode cX8_act 13 = .ok (.getfield 25, 3) := by decide +kernel
theorem dX8_act_16 : decode cX8_act 16 = .ok (.iload_n 1, 1) := by decide +kernel
theorem dX8_act_17 : decode cX8_act 17 = .ok (.aload_n 0, 1) := by decide +kernel
theorem dX8_act_18 : decode cX8_act 18 = .ok (.getfield 18, 3) := by decide +kernel
theorem dX8_act_21 : decode cX8_act 21 = .ok (.invokevirtual 72, 3) := by decide +kernel
theorem dX8_act_24 : decode cX8_act 24 = .ok (.ireturn, 1) := by decide +kernel
set_option maxRecDepth 20000 in
theorem ggX8_pass_X5_find : GoodIn wsX8_pass wsX5_find := goodIn_r _ [6, 7, 8, 9, 10, 11, 12, 13, 14, 15, 16, 17, 18, 19, 20, 21, 22, 23, 24, 25, 26, 27, 28, 29, 30, 31, 52, 53, 54, 55, 56, 57, 58] (by decide +kernel) (by decide +kernel)
set_option maxRecDepth 20000 in
theorem gX8_pass_X5_find : GoodIn wsX8_pass (wsV RX8 76 RX5 yX5_find wsX5_find) := goodIn_app (goodIn_of _ (by decide +kernel)) ggX8_pass_X5_find
set_option maxRecDepth 20000 in
theorem ggX8_pass_X8_isPerson : GoodIn wsX8_pass wsX8_isPerson := goodIn_r _ [35] (by decide +kernel) (by decide +kernel)
set_option maxRecDepth 20000 in
theorem gX8_pass_X8_isPerson : GoodIn wsX8_pass (va_wsS RX8 80 yX8_isPerson wsX8_isPerson) := goodIn_app (goodIn_of _ (by decide +kernel)) ggX8_pass_X8_isPerson
theorem dX8_pass_0 : decode cX8_pass 0 = .ok (.aload_n 0, 1) := by decide +kernel
theorem dX8_pass_1 : decode cX8_pass 1 = .ok (.getfield 25, 3) := by decide +kernel
theorem dX8_pass_4 : decode cX8_pass 4 = .ok (.iload_n 1, 1) := by decide +kernel
theorem dX8_pass_5 : decode cX8_pass 5 = .ok (.invokevirtual 76, 3) := by decide +kernel
theorem dX8_pass_8 : decode cX8_pass 8 = .ok (.astore 5, 2) := by decide +kernel
theorem dX8_pass_10 : decode cX8_pass 10 = .ok (.aload 5, 2) := by decide +kernel
theorem dX8_pass_12 : decode cX8_pass 12 = .ok (.ifnonnull 5, 3) := by decide +kernel
theorem dX8_pass_15 : decode cX8_pass 15 = .ok (.iconst (-1), 1) := by decide +kernel
theorem dX8_pass_16 : decode cX8_pass 16 = .ok (.ireturn, 1) := by decide +kernel
theorem dX8_pass_17 : decode cX8_pass 17 = .ok (.iload_n 2, 1) := by decide +kernel
theorem dX8_pass_18 : decode cX8_pass 18 = .ok (.invokestatic 80, 3) := by decide +kernel
theorem dX8_pass_21 : decode cX8_pass 21 = .ok (.ifCond .eq 15, 3) := by decide +kernel
theorem dX8_pass_24 : decode cX8_pass 24 = .ok (.iload_n 3, 1) := by decide +kernel
theorem dX8_pass_25 : decode cX8_pass 25 = .ok (.invokestatic 80, 3) := by decide +kernel
theorem dX8_pass_28 : decode cX8_pass 28 = .ok (.ifCond .eq 8, 3) := by decide +kernel
theorem dX8_pass_31 : decode cX8_pass 31 = .ok (.iload_n 2, 1) := by decide +kernel
theorem dX8_pass_32 : decode cX8_pass 32 = .ok (.iload_n 3, 1) := by decide +kernel
theorem dX8_pass_33 : decode cX8_pass 33 = .ok (.if_icmp .ne 6, 3) := by decide +kernel
theorem dX8_pass_36 : decode cX8_pass 36 = .ok (.bipush (-2), 2) := by decide +kernel
theorem dX8_pass_38 : decode cX8_pass 38 = .ok (.ireturn, 1) := by decide +kernel
theorem dX8_pass_39 : decode cX8_pass 39 = .ok (.iload 4, 2) := by decide +kernel
theorem dX8_pass_41 : decode cX8_pass 41 = .ok (.iconst 1, 1) := by decide +kernel
theorem dX8_pass_42 : decode cX8_pass 42 = .ok (.if_icmp .lt 11, 3) := by decide +kernel
theorem dX8_pass_45 : decode cX8_pass 45 = .ok (.iload 4, 2) := by decide +kernel
theorem dX8_pass_47 : decode cX8_pass 47 = .ok (.sipush 3600, 3) := by decide +kernel
theorem dX8_pass_50 : decode cX8_pass 50 = .ok (.if_icmp .le 6, 3) := by decide +kernel
theorem dX8_pass_53 : decode cX8_pass 53 = .ok (.bipush (-3), 2) := by decide +kernel
theorem dX8_pass_55 : decode cX8_pass 55 = .ok (.ireturn, 1) := by decide +kernel
theorem dX8_pass_56 : decode cX8_pass 56 = .ok (.aload 5, 2) := by decide +kernel
theorem dX8_pass_58 : decode cX8_pass 58 = .ok (.getfield 83, 3) := by decide +kernel
theorem dX8_pass_61 : decode cX8_pass 61 = .ok (.ifCond .le 6, 3) := by decide +kernel
theorem dX8_pass_64 : decode cX8_pass 64 = .ok (.bipush (-4), 2) := by decide +kernel
theorem dX8_pass_66 : decode cX8_pass 66 = .ok (.ireturn, 1) := by decide +kernel
theorem dX8_pass_67 : decode cX8_pass 67 = .ok (.aload 5, 2) := by decide +kernel
theorem dX8_pass_69 : decode cX8_pass 69 = .ok (.iload 4, 2) := by decide +kernel
theorem dX8_pass_71 : decode cX8_pass 71 = .ok (.putfield 83, 3) := by decide +kernel
theorem dX8_pass_74 : decode cX8_pass 74 = .ok (.iconst 0, 1) := by decide +kernel
theorem dX8_pass_75 : decode cX8_pass 75 = .ok (.ireturn, 1) := by decide +kernel
set_option maxRecDepth 20000 in
theorem ggX8_listed_X5_passedRow : GoodIn wsX8_listed wsX5_passedRow := goodIn_r _ [6, 7, 8, 9, 5, 10, 11, 12, 13, 14, 15, 16, 17, 18, 19, 20, 21, 22, 23, 24, 25, 26, 27, 28, 29, 30, 31, 32, 33, 34, 35, 39, 40, 41, 42, 43, 44, 45, 46, 47, 48, 49, 50, 51, 52, 53, 54, 55, 56, 57, 58] (by decide +kernel) (by decide +kernel)
set_option maxRecDepth 20000 in
theorem gX8_listed_X5_passedRow : GoodIn wsX8_listed (wsV RX8 89 RX5 yX5_passedRow wsX5_passedRow) := goodIn_app (goodIn_of _ (by decide +kernel)) ggX8_listed_X5_passedRow
theorem dX8_listed_0 : decode cX8_listed 0 = .ok (.aload_n 0, 1) := by decide +kernel
theorem dX8_listed_1 : decode cX8_listed 1 = .ok (.getfield 25, 3) := by decide +kernel
theorem dX8_listed_4 : decode cX8_listed 4 = .ok (.iload_n 1, 1) := by decide +kernel
theorem dX8_listed_5 : decode cX8_listed 5 = .ok (.invokevirtual 89, 3) := by decide +kernel
theorem dX8_listed_8 : decode cX8_listed 8 = .ok (.ireturn, 1) := by decide +kernel
set_option maxRecDepth 20000 in
theorem ggX8_reset_X5_find : GoodIn wsX8_reset wsX5_find := goodIn_r _ [7, 8, 9, 10, 11, 12, 13, 14, 15, 16, 17, 18, 19, 20, 21, 22, 23, 24, 25, 26, 27, 28, 29, 30, 31, 32, 77, 78, 79, 80, 81, 82, 83] (by decide +kernel) (by decide +kernel)
set_option maxRecDepth 20000 in
theorem gX8_reset_X5_find : GoodIn wsX8_reset (wsV RX8 76 RX5 yX5_find wsX5_find) := goodIn_app (goodIn_of _ (by decide +kernel)) ggX8_reset_X5_find
set_option maxRecDepth 20000 in
theorem ggX8_reset_X5_isOn : GoodIn wsX8_reset wsX5_isOn := goodIn_r _ [36, 37, 38, 39, 6, 40, 41, 42, 43, 44, 45, 46, 47, 48, 49, 50, 51, 52, 53, 54, 55, 56, 57, 58, 59, 60, 77, 78, 79, 80, 64, 65, 66, 67, 68, 69, 70, 71, 72, 73, 74, 75, 76, 84, 85, 86] (by decide +kernel) (by decide +kernel)
set_option maxRecDepth 20000 in
theorem gX8_reset_X5_isOn : GoodIn wsX8_reset (wsV RX8 97 RX5 yX5_isOn wsX5_isOn) := goodIn_app (goodIn_of _ (by decide +kernel)) ggX8_reset_X5_isOn
theorem dX8_reset_0 : decode cX8_reset 0 = .ok (.aload_n 0, 1) := by decide +kernel
theorem dX8_reset_1 : decode cX8_reset 1 = .ok (.getfield 25, 3) := by decide +kernel
theorem dX8_reset_4 : decode cX8_reset 4 = .ok (.iload_n 1, 1) := by decide +kernel
theorem dX8_reset_5 : decode cX8_reset 5 = .ok (.invokevirtual 76, 3) := by decide +kernel
theorem dX8_reset_8 : decode cX8_reset 8 = .ok (.astore_n 2, 1) := by decide +kernel
theorem dX8_reset_9 : decode cX8_reset 9 = .ok (.aload_n 2, 1) := by decide +kernel
theorem dX8_reset_10 : decode cX8_reset 10 = .ok (.ifnull 25, 3) := by decide +kernel
theorem dX8_reset_13 : decode cX8_reset 13 = .ok (.aload_n 2, 1) := by decide +kernel
theorem dX8_reset_14 : decode cX8_reset 14 = .ok (.getfield 93, 3) := by decide +kernel
theorem dX8_reset_17 : decode cX8_reset 17 = .ok (.ifCond .eq 18, 3) := by decide +kernel
theorem dX8_reset_20 : decode cX8_reset 20 = .ok (.aload_n 0, 1) := by decide +kernel
theorem dX8_reset_21 : decode cX8_reset 21 = .ok (.getfield 25, 3) := by decide +kernel
theorem dX8_reset_24 : decode cX8_reset 24 = .ok (.aload_n 2, 1) := by decide +kernel
theorem dX8_reset_25 : decode cX8_reset 25 = .ok (.aload_n 0, 1) := by decide +kernel
theorem dX8_reset_26 : decode cX8_reset 26 = .ok (.getfield 18, 3) := by decide +kernel
theorem dX8_reset_29 : decode cX8_reset 29 = .ok (.invokevirtual 97, 3) := by decide +kernel
theorem dX8_reset_32 : decode cX8_reset 32 = .ok (.ifCond .eq 5, 3) := by decide +kernel
theorem dX8_reset_35 : decode cX8_reset 35 = .ok (.iconst 0, 1) := by decide +kernel
theorem dX8_reset_36 : decode cX8_reset 36 = .ok (.ireturn, 1) := by decide +kernel
theorem dX8_reset_37 : decode cX8_reset 37 = .ok (.aload_n 2, 1) := by decide +kernel
theorem dX8_reset_38 : decode cX8_reset 38 = .ok (.iconst 0, 1) := by decide +kernel
theorem dX8_reset_39 : decode cX8_reset 39 = .ok (.putfield 93, 3) := by decide +kernel
theorem dX8_reset_42 : decode cX8_reset 42 = .ok (.iconst 1, 1) := by decide +kernel
theorem dX8_reset_43 : decode cX8_reset 43 = .ok (.ireturn, 1) := by decide +kernel
set_option maxRecDepth 20000 in
theorem ggX8_test_X5_idleRow : GoodIn wsX8_test wsX5_idleRow := goodIn_r _ [6, 7, 8, 9, 10, 11, 12, 13, 14, 15, 16, 17, 18, 19, 20, 21, 22, 23, 24, 25, 26, 27, 28, 29, 30, 31, 32, 33, 34, 35, 36, 37, 38, 39, 40, 41, 42, 43, 44, 45, 46, 47, 48, 49, 50, 51, 52, 5, 53, 54, 55, 56, 57, 58, 59, 60, 61, 62, 63, 64, 65, 66, 67, 68, 69, 70, 71, 72, 73, 74, 75, 76, 77, 78, 79, 80, 81, 82, 83, 84, 85, 86, 87, 88, 89, 90, 91, 92, 93, 94, 95, 96, 97, 98, 99, 100, 101, 102, 103, 104, 105, 106, 107, 108, 109, 110, 111, 112, 113, 114, 115, 116, 117, 118, 119, 120, 121, 122, 123, 124, 128, 129, 130, 131, 132, 133, 134, 135, 136, 137, 138, 139, 140, 141, 142, 143, 144, 145, 146, 147, 148, 149, 150, 151, 152, 153, 154, 155] (by decide +kernel) (by decide +kernel)
set_option maxRecDepth 20000 in
theorem gX8_test_X5_idleRow : GoodIn wsX8_test (wsV RX8 101 RX5 yX5_idleRow wsX5_idleRow) := goodIn_app (goodIn_of _ (by decide +kernel)) ggX8_test_X5_idleRow
theorem dX8_test_0 : decode cX8_test 0 = .ok (.aload_n 0, 1) := by decide +kernel
theorem dX8_test_1 : decode cX8_test 1 = .ok (.getfield 25, 3) := by decide +kernel
theorem dX8_test_4 : decode cX8_test 4 = .ok (.iload_n 1, 1) := by decide +kernel
theorem dX8_test_5 : decode cX8_test 5 = .ok (.invokevirtual 101, 3) := by decide +kernel
theorem dX8_test_8 : decode cX8_test 8 = .ok (.ireturn, 1) := by decide +kernel
set_option maxRecDepth 20000 in
theorem ggX8_row_X5_find : GoodIn wsX8_row wsX5_find := goodIn_r _ [7, 8, 9, 10, 11, 12, 13, 14, 15, 16, 17, 18, 19, 20, 21, 22, 23, 24, 25, 26, 27, 28, 29, 30, 31, 32, 81, 82, 83, 84, 85, 86, 87] (by decide +kernel) (by decide +kernel)
set_option maxRecDepth 20000 in
theorem gX8_row_X5_find : GoodIn wsX8_row (wsV RX8 76 RX5 yX5_find wsX5_find) := goodIn_app (goodIn_of _ (by decide +kernel)) ggX8_row_X5_find
set_option maxRecDepth 20000 in
theorem ggX8_row_X8_oneIf : GoodIn wsX8_row wsX8_oneIf := goodIn_r _ [36] (by decide +kernel) (by decide +kernel)
set_option maxRecDepth 20000 in
theorem gX8_row_X8_oneIf : GoodIn wsX8_row (va_wsS RX8 113 yX8_oneIf wsX8_oneIf) := goodIn_app (goodIn_of _ (by decide +kernel)) ggX8_row_X8_oneIf
set_option maxRecDepth 20000 in
theorem ggX8_row_X5_isOn : GoodIn wsX8_row wsX5_isOn := goodIn_r _ [40, 41, 42, 43, 6, 44, 45, 46, 47, 48, 49, 50, 51, 52, 53, 54, 55, 56, 57, 58, 59, 60, 61, 62, 63, 64, 81, 82, 83, 84, 68, 69, 70, 71, 72, 73, 74, 75, 76, 77, 78, 79, 80, 88, 89, 90] (by decide +kernel) (by decide +kernel)
set_option maxRecDepth 20000 in
theorem gX8_row_X5_isOn : GoodIn wsX8_row (wsV RX8 97 RX5 yX5_isOn wsX5_isOn) := goodIn_app (goodIn_of _ (by decide +kernel)) ggX8_row_X5_isOn
theorem dX8_row_0 : decode cX8_row 0 = .ok (.aload_n 0, 1) := by decide +kernel
theorem dX8_row_1 : decode cX8_row 1 = .ok (.getfield 25, 3) := by decide +kernel
theorem dX8_row_4 : decode cX8_row 4 = .ok (.iload_n 1, 1) := by decide +kernel
theorem dX8_row_5 : decode cX8_row 5 = .ok (.invokevirtual 76, 3) := by decide +kernel
theorem dX8_row_8 : decode cX8_row 8 = .ok (.astore_n 3, 1) := by decide +kernel
theorem dX8_row_9 : decode cX8_row 9 = .ok (.aload_n 3, 1) := by decide +kernel
theorem dX8_row_10 : decode cX8_row 10 = .ok (.ifnonnull 5, 3) := by decide +kernel
theorem dX8_row_13 : decode cX8_row 13 = .ok (.iconst (-1), 1) := by decide +kernel
theorem dX8_row_14 : decode cX8_row 14 = .ok (.ireturn, 1) := by decide +kernel
theorem dX8_row_15 : decode cX8_row 15 = .ok (.iload_n 2, 1) := by decide +kernel
theorem dX8_row_16 : decode cX8_row 16 = .ok (.tableswitch 105 0 7 #[48, 53, 58, 66, 71, 79, 84, 89], 48) := by decide +kernel
theorem dX8_row_64 : decode cX8_row 64 = .ok (.aload_n 3, 1) := by decide +kernel
theorem dX8_row_65 : decode cX8_row 65 = .ok (.getfield 104, 3) := by decide +kernel
theorem dX8_row_68 : decode cX8_row 68 = .ok (.ireturn, 1) := by decide +kernel
theorem dX8_row_69 : decode cX8_row 69 = .ok (.aload_n 3, 1) := by decide +kernel
theorem dX8_row_70 : decode cX8_row 70 = .ok (.getfield 107, 3) := by decide +kernel
theorem dX8_row_73 : decode cX8_row 73 = .ok (.ireturn, 1) := by decide +kernel
theorem dX8_row_74 : decode cX8_row 74 = .ok (.aload_n 3, 1) := by decide +kernel
theorem dX8_row_75 : decode cX8_row 75 = .ok (.getfield 110, 3) := by decide +kernel
theorem dX8_row_78 : decode cX8_row 78 = .ok (.invokestatic 113, 3) := by decide +kernel
theorem dX8_row_81 : decode cX8_row 81 = .ok (.ireturn, 1) := by decide +kernel
theorem dX8_row_82 : decode cX8_row 82 = .ok (.aload_n 3, 1) := by decide +kernel
theorem dX8_row_83 : decode cX8_row 83 = .ok (.getfield 117, 3) := by decide +kernel
theorem dX8_row_86 : decode cX8_row 86 = .ok (.ireturn, 1) := by decide +kernel
theorem dX8_row_87 : decode cX8_row 87 = .ok (.aload_n 3, 1) := by decide +kernel
theorem dX8_row_88 : decode cX8_row 88 = .ok (.getfield 93, 3) := by decide +kernel
theorem dX8_row_91 : decode cX8_row 91 = .ok (.invokestatic 113, 3) := by decide +kernel
theorem dX8_row_94 : decode cX8_row 94 = .ok (.ireturn, 1) := by decide +kernel
theorem dX8_row_95 : decode cX8_row 95 = .ok (.aload_n 3, 1) := by decide +kernel
theorem dX8_row_96 : decode cX8_row 96 = .ok (.getfield 83, 3) := by decide +kernel
theorem dX8_row_99 : decode cX8_row 99 = .ok (.ireturn, 1) := by decide +kernel
theorem dX8_row_100 : decode cX8_row 100 = .ok (.aload_n 3, 1) := by decide +kernel
theorem dX8_row_101 : decode cX8_row 101 = .ok (.getfield 119, 3) := by decide +kernel
theorem dX8_row_104 : decode cX8_row 104 = .ok (.ireturn, 1) := by decide +kernel
theorem dX8_row_105 : decode cX8_row 105 = .ok (.aload_n 0, 1) := by decide +kernel
theorem dX8_row_106 : decode cX8_row 106 = .ok (.getfield 25, 3) := by decide +kernel
theorem dX8_row_109 : decode cX8_row 109 = .ok (.aload_n 3, 1) := by decide +kernel
theorem dX8_row_110 : decode cX8_row 110 = .ok (.aload_n 0, 1) := by decide +kernel
theorem dX8_row_111 : decode cX8_row 111 = .ok (.getfield 18, 3) := by decide +kernel
theorem dX8_row_114 : decode cX8_row 114 = .ok (.invokevirtual 97, 3) := by decide +kernel
theorem dX8_row_117 : decode cX8_row 117 = .ok (.invokestatic 113, 3) := by decide +kernel
theorem dX8_row_120 : decode cX8_row 120 = .ok (.ireturn, 1) := by decide +kernel
theorem dX8_row_121 : decode cX8_row 121 = .ok (.iconst (-1), 1) := by decide +kernel
theorem dX8_row_122 : decode cX8_row 122 = .ok (.ireturn, 1) := by decide +kernel
set_option maxRecDepth 20000 in
theorem ggX8_write_X5_written : GoodIn wsX8_write wsX5_written := goodIn_r _ [6, 7, 8, 9, 10, 11, 12, 13, 14, 15, 16, 17, 18, 19, 20, 21, 22, 23, 24, 25, 26, 27, 28, 29, 30, 31, 32, 33, 34, 35, 36, 37, 38, 39, 40, 41, 42, 43, 44, 45, 46, 47, 48, 49, 50, 51, 52, 53, 54, 55, 56, 57, 58, 59, 60, 61, 62, 63, 64, 65, 66, 67, 68, 69, 70, 71, 72, 73, 74, 75, 76, 77, 78, 79, 80, 81, 82, 83, 84, 85, 86, 87, 88, 89, 90, 91, 92, 93, 94, 95, 96, 97, 98, 99, 100, 101, 102, 103, 104, 105, 106, 107, 108, 109, 110, 111, 112, 113, 114, 115, 116, 117, 118, 119, 120, 121, 122, 123, 124, 125, 126, 127, 128, 129, 130, 131, 132, 133, 134, 135, 136, 137, 138, 139, 140, 141, 142, 143, 144, 145, 146, 147, 148, 149, 150, 151, 152, 153, 154, 155, 156, 157, 158, 159, 160, 161, 162, 163, 164, 165, 166, 167, 168, 169, 170, 178, 179, 180, 181, 182, 183, 184, 185, 186, 187, 188, 189, 190, 191, 192, 193, 194, 195, 196, 197, 198, 199, 200, 201, 202, 203, 204, 205, 206] (by decide +kernel) (by decide +kernel)
set_option maxRecDepth 20000 in
theorem gX8_write_X5_written : GoodIn wsX8_write (wsV RX8 122 RX5 yX5_written wsX5_written) := goodIn_app (goodIn_of _ (by decide +kernel)) ggX8_write_X5_written
set_option maxRecDepth 20000 in
theorem ggX8_write_X0_at : GoodIn wsX8_write wsX0_at := goodIn_r _ [174, 32, 31, 185, 186, 187] (by decide +kernel) (by decide +kernel)
set_option maxRecDepth 20000 in
theorem gX8_write_X0_at : GoodIn wsX8_write (wsV RX8 126 RX0 yX0_at wsX0_at) := goodIn_app (goodIn_of _ (by decide +kernel)) ggX8_write_X0_at
theorem dX8_write_0 : decode cX8_write 0 = .ok (.aload_n 0, 1) := by decide +kernel
theorem dX8_write_1 : decode cX8_write 1 = .ok (.getfield 25, 3) := by decide +kernel
theorem dX8_write_4 : decode cX8_write 4 = .ok (.invokevirtual 122, 3) := by decide +kernel
theorem dX8_write_7 : decode cX8_write 7 = .ok (.iload_n 1, 1) := by decide +kernel
theorem dX8_write_8 : decode cX8_write 8 = .ok (.invokevirtual 126, 3) := by decide +kernel
theorem dX8_write_11 : decode cX8_write 11 = .ok (.ireturn, 1) := by decide +kernel
set_option maxRecDepth 20000 in
theorem ggX8_clear_X5_init : GoodIn wsX8_clear wsX5_init := goodIn_r _ [8, 9, 10, 11, 12, 13, 14, 15, 16, 17, 18, 19, 20, 21, 22, 23, 24, 25, 26, 27, 28, 29, 30, 31, 32, 33, 34, 35, 36, 37, 38, 39, 40, 41, 42, 43, 44, 45, 46, 60, 61, 62, 53, 54, 55, 56, 63, 64, 65] (by decide +kernel) (by decide +kernel)
set_option maxRecDepth 20000 in
theorem gX8_clear_X5_init : GoodIn wsX8_clear (wsX5_init) := ggX8_clear_X5_init
set_option maxRecDepth 20000 in
theorem ggX8_clear_X0_empty : GoodIn wsX8_clear wsX0_empty := goodIn_r _ [51, 52, 66, 67, 68] (by decide +kernel) (by decide +kernel)
set_option maxRecDepth 20000 in
theorem gX8_clear_X0_empty : GoodIn wsX8_clear (wsV RX8 44 RX0 yX0_empty wsX0_empty) := goodIn_app (goodIn_of _ (by decide +kernel)) ggX8_clear_X0_empty
theorem dX8_clear_0 : decode cX8_clear 0 = .ok (.aload_n 0, 1) := by decide +kernel
theorem dX8_clear_1 : decode cX8_clear 1 = .ok (.new 22, 3) := by decide +kernel
theorem dX8_clear_4 : decode cX8_clear 4 = .ok (.dup, 1) := by decide +kernel
theorem dX8_clear_5 : decode cX8_clear 5 = .ok (.iconst 0, 1) := by decide +kernel
theorem dX8_clear_6 : decode cX8_clear 6 = .ok (.invokespecial 24, 3) := by decide +kernel
theorem dX8_clear_9 : decode cX8_clear 9 = .ok (.putfield 25, 3) := by decide +kernel
theorem dX8_clear_12 : decode cX8_clear 12 = .ok (.aload_n 0, 1) := by decide +kernel
theorem dX8_clear_13 : decode cX8_clear 13 = .ok (.getfield 14, 3) := by decide +kernel
theorem dX8_clear_16 : decode cX8_clear 16 = .ok (.invokevirtual 44, 3) := by decide +kernel
theorem dX8_clear_19 : decode cX8_clear 19 = .ok (.return_, 1) := by decide +kernel
theorem dX8_isPerson_0 : decode cX8_isPerson 0 = .ok (.iload_n 0, 1) := by decide +kernel
theorem dX8_isPerson_1 : decode cX8_isPerson 1 = .ok (.iconst 1, 1) := by decide +kernel
theorem dX8_isPerson_2 : decode cX8_isPerson 2 = .ok (.if_icmp .lt 14, 3) := by decide +kernel
theorem dX8_isPerson_5 : decode cX8_isPerson 5 = .ok (.iload_n 0, 1) := by decide +kernel
theorem dX8_isPerson_6 : decode cX8_isPerson 6 = .ok (.sipush 999, 3) := by decide +kernel
theorem dX8_isPerson_9 : decode cX8_isPerson 9 = .ok (.if_icmp .gt 7, 3) := by decide +kernel
theorem dX8_isPerson_12 : decode cX8_isPerson 12 = .ok (.iconst 1, 1) := by decide +kernel
theorem dX8_isPerson_13 : decode cX8_isPerson 13 = .ok (.goto 4, 3) := by decide +kernel
theorem dX8_isPerson_16 : decode cX8_isPerson 16 = .ok (.iconst 0, 1) := by decide +kernel
theorem dX8_isPerson_17 : decode cX8_isPerson 17 = .ok (.ireturn, 1) := by decide +kernel
theorem dX8_oneIf_0 : decode cX8_oneIf 0 = .ok (.iload_n 0, 1) := by decide +kernel
theorem dX8_oneIf_1 : decode cX8_oneIf 1 = .ok (.ifCond .eq 7, 3) := by decide +kernel
theorem dX8_oneIf_4 : decode cX8_oneIf 4 = .ok (.iconst 1, 1) := by decide +kernel
theorem dX8_oneIf_5 : decode cX8_oneIf 5 = .ok (.goto 4, 3) := by decide +kernel
theorem dX8_oneIf_8 : decode cX8_oneIf 8 = .ok (.iconst 0, 1) := by decide +kernel
theorem dX8_oneIf_9 : decode cX8_oneIf 9 = .ok (.ireturn, 1) := by decide +kernel
theorem dX9_init_0 : decode cX9_init 0 = .ok (.aload_n 0, 1) := by decide +kernel
theorem dX9_init_1 : decode cX9_init 1 = .ok (.invokespecial 1, 3) := by decide +kernel
theorem dX9_init_4 : decode cX9_init 4 = .ok (.aload_n 0, 1) := by decide +kernel
theorem dX9_init_5 : decode cX9_init 5 = .ok (.sipush 3000, 3) := by decide +kernel
theorem dX9_init_8 : decode cX9_init 8 = .ok (.newarray .byte, 2) := by decide +kernel
theorem dX9_init_10 : decode cX9_init 10 = .ok (.putfield 9, 3) := by decide +kernel
theorem dX9_init_13 : decode cX9_init 13 = .ok (.aload_n 0, 1) := by decide +kernel
theorem dX9_init_14 : decode cX9_init 14 = .ok (.sipush 3001, 3) := by decide +kernel
theorem dX9_init_17 : decode cX9_init 17 = .ok (.newarray .int, 2) := by decide +kernel
theorem dX9_init_19 : decode cX9_init 19 = .ok (.putfield 13, 3) := by decide +kernel
theorem dX9_init_22 : decode cX9_init 22 = .ok (.aload_n 0, 1) := by decide +kernel
theorem dX9_init_23 : decode cX9_init 23 = .ok (.sipush 3001, 3) := by decide +kernel
theorem dX9_init_26 : decode cX9_init 26 = .ok (.newarray .int, 2) := by decide +kernel
theorem dX9_init_28 : decode cX9_init 28 = .ok (.putfield 17, 3) := by decide +kernel
theorem dX9_init_31 : decode cX9_init 31 = .ok (.aload_n 0, 1) := by decide +kernel
theorem dX9_init_32 : decode cX9_init 32 = .ok (.sipush 6000, 3) := by decide +kernel
theorem dX9_init_35 : decode cX9_init 35 = .ok (.newarray .int, 2) := by decide +kernel
theorem dX9_init_37 : decode cX9_init 37 = .ok (.putfield 20, 3) := by decide +kernel
theorem dX9_init_40 : decode cX9_init 40 = .ok (.aload_n 0, 1) := by decide +kernel
theorem dX9_init_41 : decode cX9_init 41 = .ok (.sipush 6000, 3) := by decide +kernel
theorem dX9_init_44 : decode cX9_init 44 = .ok (.newarray .int, 2) := by decide +kernel
theorem dX9_init_46 : decode cX9_init 46 = .ok (.putfield 23, 3) := by decide +kernel
theorem dX9_init_49 : decode cX9_init 49 = .ok (.aload_n 0, 1) := by decide +kernel
theorem dX9_init_50 : decode cX9_init 50 = .ok (.sipush 6000, 3) := by decide +kernel
theorem dX9_init_53 : decode cX9_init 53 = .ok (.newarray .int, 2) := by decide +kernel
theorem dX9_init_55 : decode cX9_init 55 = .ok (.putfield 26, 3) := by decide +kernel
theorem dX9_init_58 : decode cX9_init 58 = .ok (.aload_n 0, 1) := by decide +kernel
theorem dX9_init_59 : decode cX9_init 59 = .ok (.bipush 80, 2) := by decide +kernel
theorem dX9_init_61 : decode cX9_init 61 = .ok (.newarray .int, 2) := by decide +kernel
theorem dX9_init_63 : decode cX9_init 63 = .ok (.putfield 29, 3) := by decide +kernel
theorem dX9_init_66 : decode cX9_init 66 = .ok (.aload_n 0, 1) := by decide +kernel
theorem dX9_init_67 : decode cX9_init 67 = .ok (.bipush 80, 2) := by decide +kernel
theorem dX9_init_69 : decode cX9_init 69 = .ok (.newarray .int, 2) := by decide +kernel
theorem dX9_init_71 : decode cX9_init 71 = .ok (.putfield 32, 3) := by decide +kernel
theorem dX9_init_74 : decode cX9_init 74 = .ok (.aload_n 0, 1) := by decide +kernel
theorem dX9_init_75 : decode cX9_init 75 = .ok (.sipush 640, 3) := by decide +kernel
theorem dX9_init_78 : decode cX9_init 78 = .ok (.newarray .int, 2) := by decide +kernel
theorem dX9_init_80 : decode cX9_init 80 = .ok (.putfield 35, 3) := by decide +kernel
theorem dX9_init_83 : decode cX9_init 83 = .ok (.aload_n 0, 1) := by decide +kernel
theorem dX9_init_84 : decode cX9_init 84 = .ok (.bipush 80, 2) := by decide +kernel
theorem dX9_init_86 : decode cX9_init 86 = .ok (.newarray .int, 2) := by decide +kernel
theorem dX9_init_88 : decode cX9_init 88 = .ok (.putfield 38, 3) := by decide +kernel
theorem dX9_init_91 : decode cX9_init 91 = .ok (.aload_n 0, 1) := by decide +kernel
theorem dX9_init_92 : decode cX9_init 92 = .ok (.bipush 80, 2) := by decide +kernel
theorem dX9_init_94 : decode cX9_init 94 = .ok (.newarray .boolean, 2) := by decide +kernel
theorem dX9_init_96 : decode cX9_init 96 = .ok (.putfield 41, 3) := by decide +kernel
theorem dX9_init_99 : decode cX9_init 99 = .ok (.aload_n 0, 1) := by decide +kernel
theorem dX9_init_100 : decode cX9_init 100 = .ok (.bipush 80, 2) := by decide +kernel
theorem dX9_init_102 : decode cX9_init 102 = .ok (.newarray .int, 2) := by decide +kernel
theorem dX9_init_104 : decode cX9_init 104 = .ok (.putfield 45, 3) := by decide +kernel
theorem dX9_init_107 : decode cX9_init 107 = .ok (.aload_n 0, 1) := by decide +kernel
theorem dX9_init_108 : decode cX9_init 108 = .ok (.bipush 40, 2) := by decide +kernel
theorem dX9_init_110 : decode cX9_init 110 = .ok (.newarray .int, 2) := by decide +kernel
theorem dX9_init_112 : decode cX9_init 112 = .ok (.putfield 48, 3) := by decide +kernel
theorem dX9_init_115 : decode cX9_init 115 = .ok (.aload_n 0, 1) := by decide +kernel
theorem dX9_init_116 : decode cX9_init 116 = .ok (.bipush 40, 2) := by decide +kernel
theorem dX9_init_118 : decode cX9_init 118 = .ok (.newarray .boolean, 2) := by decide +kernel
theorem dX9_init_120 : decode cX9_init 120 = .ok (.putfield 51, 3) := by decide +kernel
theorem dX9_init_123 : decode cX9_init 123 = .ok (.aload_n 0, 1) := by decide +kernel
theorem dX9_init_124 : decode cX9_init 124 = .ok (.bipush 40, 2) := by decide +kernel
theorem dX9_init_126 : decode cX9_init 126 = .ok (.newarray .int, 2) := by decide +kernel
theorem dX9_init_128 : decode cX9_init 128 = .ok (.putfield 54, 3) := by decide +kernel
theorem dX9_init_131 : decode cX9_init 131 = .ok (.aload_n 0, 1) := by decide +kernel
theorem dX9_init_132 : decode cX9_init 132 = .ok (.ldc 57, 2) := by decide +kernel
theorem dX9_init_134 : decode cX9_init 134 = .ok (.newarray .long, 2) := by decide +kernel
theorem dX9_init_136 : decode cX9_init 136 = .ok (.putfield 58, 3) := by decide +kernel
theorem dX9_init_139 : decode cX9_init 139 = .ok (.aload_n 0, 1) := by decide +kernel
theorem dX9_init_140 : decode cX9_init 140 = .ok (.ldc 62, 2) := by decide +kernel
theorem dX9_init_142 : decode cX9_init 142 = .ok (.newarray .long, 2) := by decide +kernel
theorem dX9_init_144 : decode cX9_init 144 = .ok (.putfield 63, 3) := by decide +kernel
theorem dX9_init_147 : decode cX9_init 147 = .ok (.aload_n 0, 1) := by decide +kernel
theorem dX9_init_148 : decode cX9_init 148 = .ok (.sipush 1024, 3) := by decide +kernel
theorem dX9_init_151 : decode cX9_init 151 = .ok (.newarray .long, 2) := by decide +kernel
theorem dX9_init_153 : decode cX9_init 153 = .ok (.putfield 66, 3) := by decide +kernel
theorem dX9_init_156 : decode cX9_init 156 = .ok (.aload_n 0, 1) := by decide +kernel
theorem dX9_init_157 : decode cX9_init 157 = .ok (.bipush 40, 2) := by decide +kernel
theorem dX9_init_159 : decode cX9_init 159 = .ok (.newarray .boolean, 2) := by decide +kernel
theorem dX9_init_161 : decode cX9_init 161 = .ok (.putfield 69, 3) := by decide +kernel
theorem dX9_init_164 : decode cX9_init 164 = .ok (.aload_n 0, 1) := by decide +kernel
theorem dX9_init_165 : decode cX9_init 165 = .ok (.sipush 256, 3) := by decide +kernel
theorem dX9_init_168 : decode cX9_init 168 = .ok (.newarray .byte, 2) := by decide +kernel
theorem dX9_init_170 : decode cX9_init 170 = .ok (.putfield 72, 3) := by decide +kernel
theorem dX9_init_173 : decode cX9_init 173 = .ok (.return_, 1) := by decide +kernel
theorem dX9_unit_0 : decode cX9_unit 0 = .ok (.iload_n 1, 1) := by decide +kernel
theorem dX9_unit_1 : decode cX9_unit 1 = .ok (.iconst 1, 1) := by decide +kernel
theorem dX9_unit_2 : decode cX9_unit 2 = .ok (.if_icmp .lt 19, 3) := by decide +kernel
theorem dX9_unit_5 : decode cX9_unit 5 = .ok (.iload_n 1, 1) := by decide +kernel
theorem dX9_unit_6 : decode cX9_unit 6 = .ok (.bipush 127, 2) := by decide +kernel
theorem dX9_unit_8 : decode cX9_unit 8 = .ok (.if_icmp .gt 13, 3) := by decide +kernel
theorem dX9_unit_11 : decode cX9_unit 11 = .ok (.aload_n 0, 1) := by decide +kernel
theorem dX9_unit_12 : decode cX9_unit 12 = .ok (.getfield 75, 3) := by decide +kernel
theorem dX9_unit_15 : decode cX9_unit 15 = .ok (.sipush 3000, 3) := by decide +kernel
theorem dX9_unit_18 : decode cX9_unit 18 = .ok (.if_icmp .ne 5, 3) := by decide +kernel
theorem dX9_unit_21 : decode cX9_unit 21 = .ok (.iconst 0, 1) := by decide +kernel
theorem dX9_unit_22 : decode cX9_unit 22 = .ok (.ireturn, 1) := by decide +kernel
theorem dX9_unit_23 : decode cX9_unit 23 = .ok (.aload_n 0, 1) := by decide +kernel
theorem dX9_unit_24 : decode cX9_unit 24 = .ok (.getfield 9, 3) := by decide +kernel
theorem dX9_unit_27 : decode cX9_unit 27 = .ok (.aload_n 0, 1) := by decide +kernel
theorem dX9_unit_28 : decode cX9_unit 28 = .ok (.getfield 75, 3) := by decide +kernel
theorem dX9_unit_31 : decode cX9_unit 31 = .ok (.iload_n 1, 1) := by decide +kernel
theorem dX9_unit_32 : decode cX9_unit 32 = .ok (.i2b, 1) := by decide +kernel
theorem dX9_unit_33 : decode cX9_unit 33 = .ok (.bastore, 1) := by decide +kernel
theorem dX9_unit_34 : decode cX9_unit 34 = .ok (.aload_n 0, 1) := by decide +kernel
theorem dX9_unit_35 : decode cX9_unit 35 = .ok (.dup, 1) := by decide +kernel
theorem dX9_unit_36 : decode cX9_unit 36 = .ok (.getfield 75, 3) := by decide +kernel
theorem dX9_unit_39 : decode cX9_unit 39 = .ok (.iconst 1, 1) := by decide +kernel
theorem dX9_unit_40 : decode cX9_unit 40 = .ok (.iadd, 1) := by decide +kernel
theorem dX9_unit_41 : decode cX9_unit 41 = .ok (.putfield 75, 3) := by decide +kernel
theorem dX9_unit_44 : decode cX9_unit 44 = .ok (.iconst 1, 1) := by decide +kernel
theorem dX9_unit_45 : decode cX9_unit 45 = .ok (.ireturn, 1) := by decide +kernel
theorem dX9_isSign_0 : decode cX9_isSign 0 = .ok (.iload_n 0, 1) := by decide +kernel
theorem dX9_isSign_1 : decode cX9_isSign 1 = .ok (.bipush 40, 2) := by decide +kernel
theorem dX9_isSign_3 : decode cX9_isSign 3 = .ok (.if_icmp .eq 15, 3) := by decide +kernel
theorem dX9_isSign_6 : decode cX9_isSign 6 = .ok (.iload_n 0, 1) := by decide +kernel
theorem dX9_isSign_7 : decode cX9_isSign 7 = .ok (.bipush 41, 2) := by decide +kernel
theorem dX9_isSign_9 : decode cX9_isSign 9 = .ok (.if_icmp .eq 9, 3) := by decide +kernel
theorem dX9_isSign_12 : decode cX9_isSign 12 = .ok (.iload_n 0, 1) := by decide +kernel
theorem dX9_isSign_13 : decode cX9_isSign 13 = .ok (.bipush 59, 2) := by decide +kernel
theorem dX9_isSign_15 : decode cX9_isSign 15 = .ok (.if_icmp .ne 7, 3) := by decide +kernel
theorem dX9_isSign_18 : decode cX9_isSign 18 = .ok (.iconst 1, 1) := by decide +kernel
theorem dX9_isSign_19 : decode cX9_isSign 19 = .ok (.goto 4, 3) := by decide +kernel
theorem dX9_isSign_22 : decode cX9_isSign 22 = .ok (.iconst 0, 1) := by decide +kernel
theorem dX9_isSign_23 : decode cX9_isSign 23 = .ok (.ireturn, 1) := by decide +kernel
set_option maxRecDepth 20000 in
theorem ggX9_cut_X9_isSign : GoodIn wsX9_cut wsX9_isSign := goodIn_r _ [9] (by decide +kernel) (by decide +kernel)
set_option maxRecDepth 20000 in
theorem gX9_cut_X9_isSign : GoodIn wsX9_cut (va_wsS RX9 82 yX9_isSign wsX9_isSign) := goodIn_app (goodIn_of _ (by decide +kernel)) ggX9_cut_X9_isSign
theorem dX9_cut_0 : decode cX9_cut 0 = .ok (.aload_n 0, 1) := by decide +kernel
theorem dX9_cut_1 : decode cX9_cut 1 = .ok (.iconst 0, 1) := by decide +kernel
theorem dX9_cut_2 : decode cX9_cut 2 = .ok (.putfield 79, 3) := by decide +kernel
theorem dX9_cut_5 : decode cX9_cut 5 = .ok (.iconst 0, 1) := by decide +kernel
theorem dX9_cut_6 : decode cX9_cut 6 = .ok (.istore_n 1, 1) := by decide +kernel
theorem dX9_cut_7 : decode cX9_cut 7 = .ok (.iload_n 1, 1) := by decide +kernel
theorem dX9_cut_8 : decode cX9_cut 8 = .ok (.aload_n 0, 1) := by decide +kernel
theorem dX9_cut_9 : decode cX9_cut 9 = .ok (.getfield 75, 3) := by decide +kernel
theorem dX9_cut_12 : decode cX9_cut 12 = .ok (.if_icmp .ge 119, 3) := by decide +kernel
theorem dX9_cut_15 : decode cX9_cut 15 = .ok (.aload_n 0, 1) := by decide +kernel
theorem dX9_cut_16 : decode cX9_cut 16 = .ok (.getfield 9, 3) := by decide +kernel
theorem dX9_cut_19 : decode cX9_cut 19 = .ok (.iload_n 1, 1) := by decide +kernel
theorem dX9_cut_20 : decode cX9_cut 20 = .ok (.baload, 1) := by decide +kernel
theorem dX9_cut_21 : decode cX9_cut 21 = .ok (.istore_n 2, 1) := by decide +kernel
theorem dX9_cut_22 : decode cX9_cut 22 = .ok (.iload_n 2, 1) := by decide +kernel
theorem dX9_cut_23 : decode cX9_cut 23 = .ok (.bipush 32, 2) := by decide +kernel
theorem dX9_cut_25 : decode cX9_cut 25 = .ok (.if_icmp .eq 9, 3) := by decide +kernel
theorem dX9_cut_28 : decode cX9_cut 28 = .ok (.iload_n 2, 1) := by decide +kernel
theorem dX9_cut_29 : decode cX9_cut 29 = .ok (.bipush 10, 2) := by decide +kernel
theorem dX9_cut_31 : decode cX9_cut 31 = .ok (.if_icmp .ne 9, 3) := by decide +kernel
theorem dX9_cut_34 : decode cX9_cut 34 = .ok (.iinc 1 1, 3) := by decide +kernel
theorem dX9_cut_37 : decode cX9_cut 37 = .ok (.goto 91, 3) := by decide +kernel
theorem dX9_cut_40 : decode cX9_cut 40 = .ok (.aload_n 0, 1) := by decide +kernel
theorem dX9_cut_41 : decode cX9_cut 41 = .ok (.getfield 13, 3) := by decide +kernel
theorem dX9_cut_44 : decode cX9_cut 44 = .ok (.aload_n 0, 1) := by decide +kernel
theorem dX9_cut_45 : decode cX9_cut 45 = .ok (.getfield 79, 3) := by decide +kernel
theorem dX9_cut_48 : decode cX9_cut 48 = .ok (.iload_n 1, 1) := by decide +kernel
theorem dX9_cut_49 : decode cX9_cut 49 = .ok (.iastore, 1) := by decide +kernel
theorem dX9_cut_50 : decode cX9_cut 50 = .ok (.iinc 1 1, 3) := by decide +kernel
theorem dX9_cut_53 : decode cX9_cut 53 = .ok (.iload_n 2, 1) := by decide +kernel
theorem dX9_cut_54 : decode cX9_cut 54 = .ok (.invokestatic 82, 3) := by decide +kernel
theorem dX9_cut_57 : decode cX9_cut 57 = .ok (.ifCond .ne 51, 3) := by decide +kernel
theorem dX9_cut_60 : decode cX9_cut 60 = .ok (.iload_n 1, 1) := by decide +kernel
theorem dX9_cut_61 : decode cX9_cut 61 = .ok (.aload_n 0, 1) := by decide +kernel
theorem dX9_cut_62 : decode cX9_cut 62 = .ok (.getfield 75, 3) := by decide +kernel
theorem dX9_cut_65 : decode cX9_cut 65 = .ok (.if_icmp .ge 43, 3) := by decide +kernel
theorem dX9_cut_68 : decode cX9_cut 68 = .ok (.aload_n 0, 1) := by decide +kernel
theorem dX9_cut_69 : decode cX9_cut 69 = .ok (.getfield 9, 3) := by decide +kernel
theorem dX9_cut_72 : decode cX9_cut 72 = .ok (.iload_n 1, 1) := by decide +kernel
theorem dX9_cut_73 : decode cX9_cut 73 = .ok (.baload, 1) := by decide +kernel
theorem dX9_cut_74 : decode cX9_cut 74 = .ok (.bipush 32, 2) := by decide +kernel
theorem dX9_cut_76 : decode cX9_cut 76 = .ok (.if_icmp .eq 32, 3) := by decide +kernel
theorem dX9_cut_79 : decode cX9_cut 79 = .ok (.aload_n 0, 1) := by decide +kernel
theorem dX9_cut_80 : decode cX9_cut 80 = .ok (.getfield 9, 3) := by decide +kernel
theorem dX9_cut_83 : decode cX9_cut 83 = .ok (.iload_n 1, 1) := by decide +kernel
theorem dX9_cut_84 : decode cX9_cut 84 = .ok (.baload, 1) := by decide +kernel
theorem dX9_cut_85 : decode cX9_cut 85 = .ok (.bipush 10, 2) := by decide +kernel
theorem dX9_cut_87 : decode cX9_cut 87 = .ok (.if_icmp .eq 21, 3) := by decide +kernel
theorem dX9_cut_90 : decode cX9_cut 90 = .ok (.aload_n 0, 1) := by decide +kernel
theorem dX9_cut_91 : decode cX9_cut 91 = .ok (.getfield 9, 3) := by decide +kernel
theorem dX9_cut_94 : decode cX9_cut 94 = .ok (.iload_n 1, 1) := by decide +kernel
theorem dX9_cut_95 : decode cX9_cut 95 = .ok (.baload, 1) := by decide +kernel
theorem dX9_cut_96 : decode cX9_cut 96 = .ok (.invokestatic 82, 3) := by decide +kernel
theorem dX9_cut_99 : decode cX9_cut 99 = .ok (.ifCond .ne 9, 3) := by decide +kernel
theorem dX9_cut_102 : decode cX9_cut 102 = .ok (.iinc 1 1, 3) := by decide +kernel
theorem dX9_cut_105 : decode cX9_cut 105 = .ok (.goto (-52), 3) := by decide +kernel
theorem dX9_cut_108 : decode cX9_cut 108 = .ok (.aload_n 0, 1) := by decide +kernel
theorem dX9_cut_109 : decode cX9_cut 109 = .ok (.getfield 17, 3) := by decide +kernel
theorem dX9_cut_112 : decode cX9_cut 112 = .ok (.aload_n 0, 1) := by decide +kernel
theorem dX9_cut_113 : decode cX9_cut 113 = .ok (.getfield 79, 3) := by decide +kernel
theorem dX9_cut_116 : decode cX9_cut 116 = .ok (.iload_n 1, 1) := by decide +kernel
theorem dX9_cut_117 : decode cX9_cut 117 = .ok (.iastore, 1) := by decide +kernel
theorem dX9_cut_118 : decode cX9_cut 118 = .ok (.aload_n 0, 1) := by decide +kernel
theorem dX9_cut_119 : decode cX9_cut 119 = .ok (.dup, 1) := by decide +kernel
theorem dX9_cut_120 : decode cX9_cut 120 = .ok (.getfield 79, 3) := by decide +kernel
theorem dX9_cut_123 : decode cX9_cut 123 = .ok (.iconst 1, 1) := by decide +kernel
theorem dX9_cut_124 : decode cX9_cut 124 = .ok (.iadd, 1) := by decide +kernel
theorem dX9_cut_125 : decode cX9_cut 125 = .ok (.putfield 79, 3) := by decide +kernel
theorem dX9_cut_128 : decode cX9_cut 128 = .ok (.goto (-121), 3) := by decide +kernel
theorem dX9_cut_131 : decode cX9_cut 131 = .ok (.return_, 1) := by decide +kernel
theorem dX9_at_0 : decode cX9_at 0 = .ok (.aload_n 0, 1) := by decide +kernel
theorem dX9_at_1 : decode cX9_at 1 = .ok (.getfield 86, 3) := by decide +kernel
theorem dX9_at_4 : decode cX9_at 4 = .ok (.aload_n 0, 1) := by decide +kernel
theorem dX9_at_5 : decode cX9_at 5 = .ok (.getfield 79, 3) := by decide +kernel
theorem dX9_at_8 : decode cX9_at 8 = .ok (.if_icmp .ge 17, 3) := by decide +kernel
theorem dX9_at_11 : decode cX9_at 11 = .ok (.aload_n 0, 1) := by decide +kernel
theorem dX9_at_12 : decode cX9_at 12 = .ok (.getfield 13, 3) := by decide +kernel
theorem dX9_at_15 : decode cX9_at 15 = .ok (.aload_n 0, 1) := by decide +kernel
theorem dX9_at_16 : decode cX9_at 16 = .ok (.getfield 86, 3) := by decide +kernel
theorem dX9_at_19 : decode cX9_at 19 = .ok (.iaload, 1) := by decide +kernel
theorem dX9_at_20 : decode cX9_at 20 = .ok (.iload_n 1, 1) := by decide +kernel
theorem dX9_at_21 : decode cX9_at 21 = .ok (.iadd, 1) := by decide +kernel
theorem dX9_at_22 : decode cX9_at 22 = .ok (.goto 6, 3) := by decide +kernel
theorem dX9_at_25 : decode cX9_at 25 = .ok (.sipush 3000, 3) := by decide +kernel
theorem dX9_at_28 : decode cX9_at 28 = .ok (.istore_n 2, 1) := by decide +kernel
theorem dX9_at_29 : decode cX9_at 29 = .ok (.aload_n 0, 1) := by decide +kernel
theorem dX9_at_30 : decode cX9_at 30 = .ok (.getfield 86, 3) := by decide +kernel
theorem dX9_at_33 : decode cX9_at 33 = .ok (.aload_n 0, 1) := by decide +kernel
theorem dX9_at_34 : decode cX9_at 34 = .ok (.getfield 79, 3) := by decide +kernel
theorem dX9_at_37 : decode cX9_at 37 = .ok (.if_icmp .ge 25, 3) := by decide +kernel
theorem dX9_at_40 : decode cX9_at 40 = .ok (.iload_n 2, 1) := by decide +kernel
theorem dX9_at_41 : decode cX9_at 41 = .ok (.aload_n 0, 1) := by decide +kernel
theorem dX9_at_42 : decode cX9_at 42 = .ok (.getfield 17, 3) := by decide +kernel
theorem dX9_at_45 : decode cX9_at 45 = .ok (.aload_n 0, 1) := by decide +kernel
theorem dX9_at_46 : decode cX9_at 46 = .ok (.getfield 86, 3) := by decide +kernel
theorem dX9_at_49 : decode cX9_at 49 = .ok (.iaload, 1) := by decide +kernel
theorem dX9_at_50 : decode cX9_at 50 = .ok (.if_icmp .ge 12, 3) := by decide +kernel
theorem dX9_at_53 : decode cX9_at 53 = .ok (.aload_n 0, 1) := by decide +kernel
theorem dX9_at_54 : decode cX9_at 54 = .ok (.getfield 9, 3) := by decide +kernel
theorem dX9_at_57 : decode cX9_at 57 = .ok (.iload_n 2, 1) := by decide +kernel
theorem dX9_at_58 : decode cX9_at 58 = .ok (.baload, 1) := by decide +kernel
theorem dX9_at_59 : decode cX9_at 59 = .ok (.goto 4, 3) := by decide +kernel
theorem dX9_at_62 : decode cX9_at 62 = .ok (.iconst 0, 1) := by decide +kernel
theorem dX9_at_63 : decode cX9_at 63 = .ok (.ireturn, 1) := by decide +kernel
theorem dX9_wide_0 : decode cX9_wide 0 = .ok (.aload_n 0, 1) := by decide +kernel
theorem dX9_wide_1 : decode cX9_wide 1 = .ok (.getfield 86, 3) := by decide +kernel
theorem dX9_wide_4 : decode cX9_wide 4 = .ok (.aload_n 0, 1) := by decide +kernel
theorem dX9_wide_5 : decode cX9_wide 5 = .ok (.getfield 79, 3) := by decide +kernel
theorem dX9_wide_8 : decode cX9_wide 8 = .ok (.if_icmp .ge 25, 3) := by decide +kernel
theorem dX9_wide_11 : decode cX9_wide 11 = .ok (.aload_n 0, 1) := by decide +kernel
theorem dX9_wide_12 : decode cX9_wide 12 = .ok (.getfield 17, 3) := by decide +kernel
theorem dX9_wide_15 : decode cX9_wide 15 = .ok (.aload_n 0, 1) := by decide +kernel
theorem dX9_wide_16 : decode cX9_wide 16 = .ok (.getfield 86, 3) := by decide +kernel
theorem dX9_wide_19 : decode cX9_wide 19 = .ok (.iaload, 1) := by decide +kernel
theorem dX9_wide_20 : decode cX9_wide 20 = .ok (.aload_n 0, 1) := by decide +kernel
theorem dX9_wide_21 : decode cX9_wide 21 = .ok (.getfield 13, 3) := by decide +kernel
theorem dX9_wide_24 : decode cX9_wide 24 = .ok (.aload_n 0, 1) := by decide +kernel
theorem dX9_wide_25 : decode cX9_wide 25 = .ok (.getfield 86, 3) := by decide +kernel
theorem dX9_wide_28 : decode cX9_wide 28 = .ok (.iaload, 1) := by decide +kernel
theorem dX9_wide_29 : decode cX9_wide 29 = .ok (.isub, 1) := by decide +kernel
theorem dX9_wide_30 : decode cX9_wide 30 = .ok (.goto 4, 3) := by decide +kernel
theorem dX9_wide_33 : decode cX9_wide 33 = .ok (.iconst 0, 1) := by decide +kernel
theorem dX9_wide_34 : decode cX9_wide 34 = .ok (.ireturn, 1) := by decide +kernel
set_option maxRecDepth 20000 in
theorem ggX9_is_X9_wide : GoodIn wsX9_is wsX9_wide := goodIn_r _ [5, 6, 7, 8, 9, 15, 16, 17, 18, 19, 20, 21, 22, 23, 24, 25, 26, 27, 28, 29, 30, 31, 32, 33, 34, 35, 36, 37, 38, 39, 40, 41, 42, 43, 44, 45, 46] (by decide +kernel) (by decide +kernel)
set_option maxRecDepth 20000 in
theorem gX9_is_X9_wide : GoodIn wsX9_is (wsV RX9 89 RX9 yX9_wide wsX9_wide) := goodIn_app (goodIn_of _ (by decide +kernel)) ggX9_is_X9_wide
set_option maxRecDepth 20000 in
theorem ggX9_is_X9_at : GoodIn wsX9_is wsX9_at := goodIn_r _ [13, 6, 7, 9, 8, 14, 15, 16, 17, 18, 19, 20, 21, 22, 23, 24, 25, 26, 27, 28, 29, 30, 31, 32, 33, 34, 35, 36, 37, 38, 39, 40, 41, 42, 43, 44, 45, 46] (by decide +kernel) (by decide +kernel)
set_option maxRecDepth 20000 in
theorem gX9_is_X9_at : GoodIn wsX9_is (wsV RX9 93 RX9 yX9_at wsX9_at) := goodIn_app (goodIn_of _ (by decide +kernel)) ggX9_is_X9_at
theorem dX9_is_0 : decode cX9_is 0 = .ok (.aload_n 0, 1) := by decide +kernel
theorem dX9_is_1 : decode cX9_is 1 = .ok (.invokevirtual 89, 3) := by decide +kernel
theorem dX9_is_4 : decode cX9_is 4 = .ok (.iload 8, 2) := by decide +kernel
theorem dX9_is_6 : decode cX9_is 6 = .ok (.if_icmp .ne 107, 3) := by decide +kernel
theorem dX9_is_9 : decode cX9_is 9 = .ok (.aload_n 0, 1) := by decide +kernel
theorem dX9_is_10 : decode cX9_is 10 = .ok (.iconst 0, 1) := by decide +kernel
theorem dX9_is_11 : decode cX9_is 11 = .ok (.invokevirtual 93, 3) := by decide +kernel
theorem dX9_is_14 : decode cX9_is 14 = .ok (.iload_n 1, 1) := by decide +kernel
theorem dX9_is_15 : decode cX9_is 15 = .ok (.if_icmp .ne 98, 3) := by decide +kernel
theorem dX9_is_18 : decode cX9_is 18 = .ok (.aload_n 0, 1) := by decide +kernel
theorem dX9_is_19 : decode cX9_is 19 = .ok (.iconst 1, 1) := by decide +kernel
theorem dX9_is_20 : decode cX9_is 20 = .ok (.invokevirtual 93, 3) := by decide +kernel
theorem dX9_is_23 : decode cX9_is 23 = .ok (.iload_n 2, 1) := by decide +kernel
theorem dX9_is_24 : decode cX9_is 24 = .ok (.if_icmp .ne 89, 3) := by decide +kernel
theorem dX9_is_27 : decode cX9_is 27 = .ok (.iload 8, 2) := by decide +kernel
theorem dX9_is_29 : decode cX9_is 29 = .ok (.iconst 3, 1) := by decide +kernel
theorem dX9_is_30 : decode cX9_is 30 = .ok (.if_icmp .lt 12, 3) := by decide +kernel
theorem dX9_is_33 : decode cX9_is 33 = .ok (.aload_n 0, 1) := by decide +kernel
theorem dX9_is_34 : decode cX9_is 34 = .ok (.iconst 2, 1) := by decide +kernel
theorem dX9_is_35 : decode cX9_is 35 = .ok (.invokevirtual 93, 3) := by decide +kernel
theorem dX9_is_38 : decode cX9_is 38 = .ok (.iload_n 3, 1) := by decide +kernel
theorem dX9_is_39 : decode cX9_is 39 = .ok (.if_icmp .ne 74, 3) := by decide +kernel
theorem dX9_is_42 : decode cX9_is 42 = .ok (.iload 8, 2) := by decide +kernel
theorem dX9_is_44 : decode cX9_is 44 = .ok (.iconst 4, 1) := by decide +kernel
theorem dX9_is_45 : decode cX9_is 45 = .ok (.if_icmp .lt 13, 3) := by decide +kernel
theorem dX9_is_48 : decode cX9_is 48 = .ok (.aload_n 0, 1) := by decide +kernel
theorem dX9_is_49 : decode cX9_is 49 = .ok (.iconst 3, 1) := by decide +kernel
theorem dX9_is_50 : decode cX9_is 50 = .ok (.invokevirtual 93, 3) := by decide +kernel
theorem dX9_is_53 : decode cX9_is 53 = .ok (.iload 4, 2) := by decide +kernel
theorem dX9_is_55 : decode cX9_is 55 = .ok (.if_icmp .ne 58, 3) := by decide +kernel
theorem dX9_is_58 : decode cX9_is 58 = .ok (.iload 8, 2) := by decide +kernel
theorem dX9_is_60 : decode cX9_is 60 = .ok (.iconst 5, 1) := by decide +kernel
theorem dX9_is_61 : decode cX9_is 61 = .ok (.if_icmp .lt 13, 3) := by decide +kernel
theorem dX9_is_64 : decode cX9_is 64 = .ok (.aload_n 0, 1) := by decide +kernel
theorem dX9_is_65 : decode cX9_is 65 = .ok (.iconst 4, 1) := by decide +kernel
theorem dX9_is_66 : decode cX9_is 66 = .ok (.invokevirtual 93, 3) := by decide +kernel
theorem dX9_is_69 : decode cX9_is 69 = .ok (.iload 5, 2) := by decide +kernel
theorem dX9_is_71 : decode cX9_is 71 = .ok (.if_icmp .ne 42, 3) := by decide +kernel
theorem dX9_is_74 : decode cX9_is 74 = .ok (.iload 8, 2) := by decide +kernel
theorem dX9_is_76 : decode cX9_is 76 = .ok (.bipush 6, 2) := by decide +kernel
theorem dX9_is_78 : decode cX9_is 78 = .ok (.if_icmp .lt 13, 3) := by decide +kernel
theorem dX9_is_81 : decode cX9_is 81 = .ok (.aload_n 0, 1) := by decide +kernel
theorem dX9_is_82 : decode cX9_is 82 = .ok (.iconst 5, 1) := by decide +kernel
theorem dX9_is_83 : decode cX9_is 83 = .ok (.invokevirtual 93, 3) := by decide +kernel
theorem dX9_is_86 : decode cX9_is 86 = .ok (.iload 6, 2) := by decide +kernel
theorem dX9_is_88 : decode cX9_is 88 = .ok (.if_icmp .ne 25, 3) := by decide +kernel
theorem dX9_is_91 : decode cX9_is 91 = .ok (.iload 8, 2) := by decide +kernel
theorem dX9_is_93 : decode cX9_is 93 = .ok (.bipush 7, 2) := by decide +kernel
theorem dX9_is_95 : decode cX9_is 95 = .ok (.if_icmp .lt 14, 3) := by decide +kernel
theorem dX9_is_98 : decode cX9_is 98 = .ok (.aload_n 0, 1) := by decide +kernel
theorem dX9_is_99 : decode cX9_is 99 = .ok (.bipush 6, 2) := by decide +kernel
theorem dX9_is_101 : decode cX9_is 101 = .ok (.invokevirtual 93, 3) := by decide +kernel
theorem dX9_is_104 : decode cX9_is 104 = .ok (.iload 7, 2) := by decide +kernel
theorem dX9_is_106 : decode cX9_is 106 = .ok (.if_icmp .ne 7, 3) := by decide +kernel
theorem dX9_is_109 : decode cX9_is 109 = .ok (.iconst 1, 1) := by decide +kernel
theorem dX9_is_110 : decode cX9_is 110 = .ok (.goto 4, 3) := by decide +kernel
theorem dX9_is_113 : decode cX9_is 113 = .ok (.iconst 0, 1) := by decide +kernel
theorem dX9_is_114 : decode cX9_is 114 = .ok (.ireturn, 1) := by decide +kernel
set_option maxRecDepth 20000 in
theorem ggX9_isOne_X9_wide : GoodIn wsX9_isOne wsX9_wide := goodIn_r _ [5, 6, 7, 8, 9, 15, 16, 17, 18, 19, 20, 21, 22, 23, 24, 25, 26, 27, 28, 29, 30, 31, 32, 33, 34, 35, 36, 37, 38, 39, 40, 41, 42, 43, 44, 45, 46] (by decide +kernel) (by decide +kernel)
set_option maxRecDepth 20000 in
theorem gX9_isOne_X9_wide : GoodIn wsX9_isOne (wsV RX9 89 RX9 yX9_wide wsX9_wide) := goodIn_app (goodIn_of _ (by decide +kernel)) ggX9_isOne_X9_wide
set_option maxRecDepth 20000 in
theorem ggX9_isOne_X9_at : GoodIn wsX9_isOne wsX9_at := goodIn_r _ [13, 6, 7, 9, 8, 14, 15, 16, 17, 18, 19, 20, 21, 22, 23, 24, 25, 26, 27, 28, 29, 30, 31, 32, 33, 34, 35, 36, 37, 38, 39, 40, 41, 42, 43, 44, 45, 46] (by decide +kernel) (by decide +kernel)
set_option maxRecDepth 20000 in
theorem gX9_isOne_X9_at : GoodIn wsX9_isOne (wsV RX9 93 RX9 yX9_at wsX9_at) := goodIn_app (goodIn_of _ (by decide +kernel)) ggX9_isOne_X9_at
theorem dX9_isOne_0 : decode cX9_isOne 0 = .ok (.aload_n 0, 1) := by decide +kernel
theorem dX9_isOne_1 : decode cX9_isOne 1 = .ok (.invokevirtual 89, 3) := by decide +kernel
theorem dX9_isOne_4 : decode cX9_isOne 4 = .ok (.iconst 1, 1) := by decide +kernel
theorem dX9_isOne_5 : decode cX9_isOne 5 = .ok (.if_icmp .ne 16, 3) := by decide +kernel
theorem dX9_isOne_8 : decode cX9_isOne 8 = .ok (.aload_n 0, 1) := by decide +kernel
theorem dX9_isOne_9 : decode cX9_isOne 9 = .ok (.iconst 0, 1) := by decide +kernel
theorem dX9_isOne_10 : decode cX9_isOne 10 = .ok (.invokevirtual 93, 3) := by decide +kernel
theorem dX9_isOne_13 : decode cX9_isOne 13 = .ok (.iload_n 1, 1) := by decide +kernel
theorem dX9_isOne_14 : decode cX9_isOne 14 = .ok (.if_icmp .ne 7, 3) := by decide +kernel
theorem dX9_isOne_17 : decode cX9_isOne 17 = .ok (.iconst 1, 1) := by decide +kernel
theorem dX9_isOne_18 : decode cX9_isOne 18 = .ok (.goto 4, 3) := by decide +kernel
theorem dX9_isOne_21 : decode cX9_isOne 21 = .ok (.iconst 0, 1) := by decide +kernel
theorem dX9_isOne_22 : decode cX9_isOne 22 = .ok (.ireturn, 1) := by decide +kernel
set_option maxRecDepth 20000 in
theorem ggX9_number_X9_wide : GoodIn wsX9_number wsX9_wide := goodIn_r _ [5, 6, 7, 8, 9, 15, 16, 17, 18, 19, 20, 21, 22, 23, 24, 25, 26, 27, 28, 29, 30, 31, 32, 33, 34, 35, 36, 37, 38, 39, 40, 41, 42, 43, 44, 45, 46] (by decide +kernel) (by decide +kernel)
set_option maxRecDepth 20000 in
theorem gX9_number_X9_wide : GoodIn wsX9_number (wsV RX9 89 RX9 yX9_wide wsX9_wide) := goodIn_app (goodIn_of _ (by decide +kernel)) ggX9_number_X9_wide
set_option maxRecDepth 20000 in
theorem ggX9_number_X9_at : GoodIn wsX9_number wsX9_at := goodIn_r _ [13, 6, 7, 9, 8, 14, 15, 16, 17, 18, 19, 20, 21, 22, 23, 24, 25, 26, 27, 28, 29, 30, 31, 32, 33, 34, 35, 36, 37, 38, 39, 40, 41, 42, 43, 44, 45, 46] (by decide +kernel) (by decide +kernel)
set_option maxRecDepth 20000 in
theorem gX9_number_X9_at : GoodIn wsX9_number (wsV RX9 93 RX9 yX9_at wsX9_at) := goodIn_app (goodIn_of _ (by decide +kernel)) ggX9_number_X9_at
theorem dX9_number_0 : decode cX9_number 0 = .ok (.aload_n 0, 1) := by decide +kernel
theorem dX9_number_1 : decode cX9_number 1 = .ok (.invokevirtual 89, 3) := by decide +kernel
theorem dX9_number_4 : decode cX9_number 4 = .ok (.istore_n 3, 1) := by decide +kernel
theorem dX9_number_5 : decode cX9_number 5 = .ok (.iload_n 3, 1) := by decide +kernel
theorem dX9_number_6 : decode cX9_number 6 = .ok (.iload_n 1, 1) := by decide +kernel
theorem dX9_number_7 : decode cX9_number 7 = .ok (.if_icmp .le 27, 3) := by decide +kernel
theorem dX9_number_10 : decode cX9_number 10 = .ok (.aload_n 0, 1) := by decide +kernel
theorem dX9_number_11 : decode cX9_number 11 = .ok (.iload_n 1, 1) := by decide +kernel
theorem dX9_number_12 : decode cX9_number 12 = .ok (.invokevirtual 93, 3) := by decide +kernel
theorem dX9_number_15 : decode cX9_number 15 = .ok (.bipush 48, 2) := by decide +kernel
theorem dX9_number_17 : decode cX9_number 17 = .ok (.if_icmp .ne 10, 3) := by decide +kernel
theorem dX9_number_20 : decode cX9_number 20 = .ok (.iload_n 3, 1) := by decide +kernel
theorem dX9_number_21 : decode cX9_number 21 = .ok (.iload_n 1, 1) := by decide +kernel
theorem dX9_number_22 : decode cX9_number 22 = .ok (.iconst 1, 1) := by decide +kernel
theorem dX9_number_23 : decode cX9_number 23 = .ok (.iadd, 1) := by decide +kernel
theorem dX9_number_24 : decode cX9_number 24 = .ok (.if_icmp .gt 10, 3) := by decide +kernel
theorem dX9_number_27 : decode cX9_number 27 = .ok (.iload_n 3, 1) := by decide +kernel
theorem dX9_number_28 : decode cX9_number 28 = .ok (.iload_n 1, 1) := by decide +kernel
theorem dX9_number_29 : decode cX9_number 29 = .ok (.iconst 4, 1) := by decide +kernel
theorem dX9_number_30 : decode cX9_number 30 = .ok (.iadd, 1) := by decide +kernel
theorem dX9_number_31 : decode cX9_number 31 = .ok (.if_icmp .le 5, 3) := by decide +kernel
theorem dX9_number_34 : decode cX9_number 34 = .ok (.iconst (-1), 1) := by decide +kernel
theorem dX9_number_35 : decode cX9_number 35 = .ok (.ireturn, 1) := by decide +kernel
theorem dX9_number_36 : decode cX9_number 36 = .ok (.iconst 0, 1) := by decide +kernel
theorem dX9_number_37 : decode cX9_number 37 = .ok (.istore 4, 2) := by decide +kernel
theorem dX9_number_39 : decode cX9_number 39 = .ok (.iload_n 1, 1) := by decide +kernel
theorem dX9_number_40 : decode cX9_number 40 = .ok (.istore 5, 2) := by decide +kernel
theorem dX9_number_42 : decode cX9_number 42 = .ok (.iload 5, 2) := by decide +kernel
theorem dX9_number_44 : decode cX9_number 44 = .ok (.iload_n 3, 1) := by decide +kernel
theorem dX9_number_45 : decode cX9_number 45 = .ok (.if_icmp .ge 46, 3) := by decide +kernel
theorem dX9_number_48 : decode cX9_number 48 = .ok (.aload_n 0, 1) := by decide +kernel
theorem dX9_number_49 : decode cX9_number 49 = .ok (.iload 5, 2) := by decide +kernel
theorem dX9_number_51 : decode cX9_number 51 = .ok (.invokevirtual 93, 3) := by decide +kernel
theorem dX9_number_54 : decode cX9_number 54 = .ok (.istore 6, 2) := by decide +kernel
theorem dX9_number_56 : decode cX9_number 56 = .ok (.iload 6, 2) := by decide +kernel
theorem dX9_number_58 : decode cX9_number 58 = .ok (.bipush 48, 2) := by decide +kernel
theorem dX9_number_60 : decode cX9_number 60 = .ok (.if_icmp .lt 10, 3) := by decide +kernel
theorem dX9_number_63 : decode cX9_number 63 = .ok (.iload 6, 2) := by decide +kernel
theorem dX9_number_65 : decode cX9_number 65 = .ok (.bipush 57, 2) := by decide +kernel
theorem dX9_number_67 : decode cX9_number 67 = .ok (.if_icmp .le 5, 3) := by decide +kernel
theorem dX9_number_70 : decode cX9_number 70 = .ok (.iconst (-1), 1) := by decide +kernel
theorem dX9_number_71 : decode cX9_number 71 = .ok (.ireturn, 1) := by decide +kernel
theorem dX9_number_72 : decode cX9_number 72 = .ok (.bipush 10, 2) := by decide +kernel
theorem dX9_number_74 : decode cX9_number 74 = .ok (.iload 4, 2) := by decide +kernel
theorem dX9_number_76 : decode cX9_number 76 = .ok (.imul, 1) := by decide +kernel
theorem dX9_number_77 : decode cX9_number 77 = .ok (.iload 6, 2) := by decide +kernel
theorem dX9_number_79 : decode cX9_number 79 = .ok (.iadd, 1) := by decide +kernel
theorem dX9_number_80 : decode cX9_number 80 = .ok (.bipush 48, 2) := by decide +kernel
theorem dX9_number_82 : decode cX9_number 82 = .ok (.isub, 1) := by decide +kernel
theorem dX9_number_83 : decode cX9_number 83 = .ok (.istore 4, 2) := by decide +kernel
theorem dX9_number_85 : decode cX9_number 85 = .ok (.iinc 5 1, 3) := by decide +kernel
theorem dX9_number_88 : decode cX9_number 88 = .ok (.goto (-46), 3) := by decide +kernel
theorem dX9_number_91 : decode cX9_number 91 = .ok (.iload 4, 2) := by decide +kernel
theorem dX9_number_93 : decode cX9_number 93 = .ok (.iload_n 2, 1) := by decide +kernel
theorem dX9_number_94 : decode cX9_number 94 = .ok (.if_icmp .gt 8, 3) := by decide +kernel
theorem dX9_number_97 : decode cX9_number 97 = .ok (.iload 4, 2) := by decide +kernel
theorem dX9_number_99 : decode cX9_number 99 = .ok (.goto 4, 3) := by decide +kernel
theorem dX9_number_102 : decode cX9_number 102 = .ok (.iconst (-1), 1) := by decide +kernel
theorem dX9_number_103 : decode cX9_number 103 = .ok (.ireturn, 1) := by decide +kernel
set_option maxRecDepth 20000 in
theorem ggX9_act_X9_at : GoodIn wsX9_act wsX9_at := goodIn_r _ [5, 6, 7, 8, 9, 10, 19, 20, 21, 22, 23, 24, 25, 26, 27, 28, 29, 30, 31, 32, 33, 34, 35, 36, 37, 38, 39, 40, 41, 42, 43, 44, 45, 46, 47, 48, 49, 50] (by decide +kernel) (by decide +kernel)
set_option maxRecDepth 20000 in
theorem gX9_act_X9_at : GoodIn wsX9_act (wsV RX9 93 RX9 yX9_at wsX9_at) := goodIn_app (goodIn_of _ (by decide +kernel)) ggX9_act_X9_at
set_option maxRecDepth 20000 in
theorem ggX9_act_X9_number : GoodIn wsX9_act wsX9_number := goodIn_r _ [14, 15, 16, 17, 4, 18, 6, 7, 9, 8, 1, 2, 3, 5, 10, 19, 20, 21, 22, 23, 24, 25, 26, 27, 28, 29, 30, 31, 32, 33, 34, 35, 36, 37, 38, 39, 40, 41, 42, 43, 44, 45, 46, 47, 48, 49, 50] (by decide +kernel) (by decide +kernel)
set_option maxRecDepth 20000 in
theorem gX9_act_X9_number : GoodIn wsX9_act (wsV RX9 97 RX9 yX9_number wsX9_number) := goodIn_app (goodIn_of _ (by decide +kernel)) ggX9_act_X9_number
theorem dX9_act_0 : decode cX9_act 0 = .ok (.aload_n 0, 1) := by decide +kernel
theorem dX9_act_1 : decode cX9_act 1 = .ok (.iconst 0, 1) := by decide +kernel
theorem dX9_act_2 : decode cX9_act 2 = .ok (.invokevirtual 93, 3) := by decide +kernel
theorem dX9_act_5 : decode cX9_act 5 = .ok (.bipush 97, 2) := by decide +kernel
theorem dX9_act_7 : decode cX9_act 7 = .ok (.if_icmp .ne 13, 3) := by decide +kernel
theorem dX9_act_10 : decode cX9_act 10 = .ok (.aload_n 0, 1) := by decide +kernel
theorem dX9_act_11 : decode cX9_act 11 = .ok (.iconst 1, 1) := by decide +kernel
theorem dX9_act_12 : decode cX9_act 12 = .ok (.bipush 31, 2) := by decide +kernel
theorem dX9_act_14 : decode cX9_act 14 = .ok (.invokevirtual 97, 3) := by decide +kernel
theorem dX9_act_17 : decode cX9_act 17 = .ok (.goto 4, 3) := by decide +kernel
theorem dX9_act_20 : decode cX9_act 20 = .ok (.iconst (-1), 1) := by decide +kernel
theorem dX9_act_21 : decode cX9_act 21 = .ok (.ireturn, 1) := by decide +kernel
set_option maxRecDepth 20000 in
theorem ggX9_conditionWord_X9_at : GoodIn wsX9_conditionWord wsX9_at := goodIn_r _ [5, 6, 7, 8, 9, 10, 19, 20, 21, 22, 23, 24, 25, 26, 27, 28, 29, 30, 31, 32, 33, 34, 35, 36, 37, 38, 39, 40, 41, 42, 43, 44, 45, 46, 47, 48, 49, 50] (by decide +kernel) (by decide +kernel)
set_option maxRecDepth 20000 in
theorem gX9_conditionWord_X9_at : GoodIn wsX9_conditionWord (wsV RX9 93 RX9 yX9_at wsX9_at) := goodIn_app (goodIn_of _ (by decide +kernel)) ggX9_conditionWord_X9_at
set_option maxRecDepth 20000 in
theorem ggX9_conditionWord_X9_number : GoodIn wsX9_conditionWord wsX9_number := goodIn_r _ [14, 15, 16, 17, 4, 18, 6, 7, 9, 8, 1, 2, 3, 5, 10, 19, 20, 21, 22, 23, 24, 25, 26, 27, 28, 29, 30, 31, 32, 33, 34, 35, 36, 37, 38, 39, 40, 41, 42, 43, 44, 45, 46, 47, 48, 49, 50] (by decide +kernel) (by decide +kernel)
set_option maxRecDepth 20000 in
theorem gX9_conditionWord_X9_number : GoodIn wsX9_conditionWord (wsV RX9 97 RX9 yX9_number wsX9_number) := goodIn_app (goodIn_of _ (by decide +kernel)) ggX9_conditionWord_X9_number
theorem dX9_conditionWord_0 : decode cX9_conditionWord 0 = .ok (.aload_n 0, 1) := by decide +kernel
theorem dX9_conditionWord_1 : decode cX9_conditionWord 1 = .ok (.iconst 0, 1) := by decide +kernel
theorem dX9_conditionWord_2 : decode cX9_conditionWord 2 = .ok (.invokevirtual 93, 3) := by decide +kernel
theorem dX9_conditionWord_5 : decode cX9_conditionWord 5 = .ok (.bipush 99, 2) := by decide +kernel
theorem dX9_conditionWord_7 : decode cX9_conditionWord 7 = .ok (.if_icmp .ne 13, 3) := by decide +kernel
theorem dX9_conditionWord_10 : decode cX9_conditionWord 10 = .ok (.aload_n 0, 1) := by decide +kernel
theorem dX9_conditionWord_11 : decode cX9_conditionWord 11 = .ok (.iconst 1, 1) := by decide +kernel
theorem dX9_conditionWord_12 : decode cX9_conditionWord 12 = .ok (.bipush 15, 2) := by decide +kernel
theorem dX9_conditionWord_14 : decode cX9_conditionWord 14 = .ok (.invokevirtual 97, 3) := by decide +kernel
theorem dX9_conditionWord_17 : decode cX9_conditionWord 17 = .ok (.goto 4, 3) := by decide +kernel
theorem dX9_conditionWord_20 : decode cX9_conditionWord 20 = .ok (.iconst (-1), 1) := by decide +kernel
theorem dX9_conditionWord_21 : decode cX9_conditionWord 21 = .ok (.ireturn, 1) := by decide +kernel
theorem dX9_node_0 : decode cX9_node 0 = .ok (.sipush 3000, 3) := by decide +kernel
theorem dX9_node_3 : decode cX9_node 3 = .ok (.iconst 1, 1) := by decide +kernel
theorem dX9_node_4 : decode cX9_node 4 = .ok (.aload_n 0, 1) := by decide +kernel
theorem dX9_node_5 : decode cX9_node 5 = .ok (.getfield 101, 3) := by decide +kernel
theorem dX9_node_8 : decode cX9_node 8 = .ok (.isub, 1) := by decide +kernel
theorem dX9_node_9 : decode cX9_node 9 = .ok (.imul, 1) := by decide +kernel
theorem dX9_node_10 : decode cX9_node 10 = .ok (.aload_n 0, 1) := by decide +kernel
theorem dX9_node_11 : decode cX9_node 11 = .ok (.getfield 104, 3) := by decide +kernel
theorem dX9_node_14 : decode cX9_node 14 = .ok (.iadd, 1) := by decide +kernel
theorem dX9_node_15 : decode cX9_node 15 = .ok (.istore 4, 2) := by decide +kernel
theorem dX9_node_17 : decode cX9_node 17 = .ok (.aload_n 0, 1) := by decide +kernel
theorem dX9_node_18 : decode cX9_node 18 = .ok (.getfield 20, 3) := by decide +kernel
theorem dX9_node_21 : decode cX9_node 21 = .ok (.iload 4, 2) := by decide +kernel
theorem dX9_node_23 : decode cX9_node 23 = .ok (.iload_n 1, 1) := by decide +kernel
theorem dX9_node_24 : decode cX9_node 24 = .ok (.iastore, 1) := by decide +kernel
theorem dX9_node_25 : decode cX9_node 25 = .ok (.aload_n 0, 1) := by decide +kernel
theorem dX9_node_26 : decode cX9_node 26 = .ok (.getfield 23, 3) := by decide +kernel
theorem dX9_node_29 : decode cX9_node 29 = .ok (.iload 4, 2) := by decide +kernel
theorem dX9_node_31 : decode cX9_node 31 = .ok (.iload_n 2, 1) := by decide +kernel
theorem dX9_node_32 : decode cX9_node 32 = .ok (.iastore, 1) := by decide +kernel
theorem dX9_node_33 : decode cX9_node 33 = .ok (.aload_n 0, 1) := by decide +kernel
theorem dX9_node_34 : decode cX9_node 34 = .ok (.getfield 26, 3) := by decide +kernel
theorem dX9_node_37 : decode cX9_node 37 = .ok (.iload 4, 2) := by decide +kernel
theorem dX9_node_39 : decode cX9_node 39 = .ok (.iload_n 3, 1) := by decide +kernel
theorem dX9_node_40 : decode cX9_node 40 = .ok (.iastore, 1) := by decide +kernel
theorem dX9_node_41 : decode cX9_node 41 = .ok (.aload_n 0, 1) := by decide +kernel
theorem dX9_node_42 : decode cX9_node 42 = .ok (.dup, 1) := by decide +kernel
theorem dX9_node_43 : decode cX9_node 43 = .ok (.getfield 104, 3) := by decide +kernel
theorem dX9_node_46 : decode cX9_node 46 = .ok (.iconst 1, 1) := by decide +kernel
theorem dX9_node_47 : decode cX9_node 47 = .ok (.iadd, 1) := by decide +kernel
theorem dX9_node_48 : decode cX9_node 48 = .ok (.putfield 104, 3) := by decide +kernel
theorem dX9_node_51 : decode cX9_node 51 = .ok (.iload 4, 2) := by decide +kernel
theorem dX9_node_53 : decode cX9_node 53 = .ok (.ireturn, 1) := by decide +kernel
set_option maxRecDepth 20000 in
theorem ggX9_or_X9_and : GoodIn wsX9_or wsX9_and := goodIn_r _ [31, 1, 32, 33, 34, 5, 6, 7, 8, 9, 10, 11, 12, 13, 14, 15, 16, 17, 18, 19, 20, 21, 22, 23, 24, 25, 26, 27, 28, 29, 30, 0, 2, 3, 4, 35, 36, 37, 38, 39, 40, 41, 42, 43, 44, 45, 46, 47, 48, 49, 50, 51, 52, 53, 54, 55, 56, 57, 58, 59, 60, 61, 62, 63, 64, 65, 66, 67, 68, 69, 70, 71, 72, 73, 74, 75, 76, 77, 78, 79, 80, 81, 82, 83, 84] (by decide +kernel) (by decide +kernel)
set_option maxRecDepth 20000 in
theorem gX9_or_X9_and : GoodIn wsX9_or (wsV RX9 107 RX9 yX9_and wsX9_and) := goodIn_app (goodIn_of _ (by decide +kernel)) ggX9_or_X9_and
set_option maxRecDepth 20000 in
theorem ggX9_or_X9_is : GoodIn wsX9_or wsX9_is := goodIn_r _ [9, 10, 11, 12, 5, 13, 1, 14, 15, 16, 17, 18, 19, 20, 21, 53, 54, 55, 56, 57, 58, 59, 60, 61, 62, 63, 64, 65, 66, 67, 68, 69, 70, 71, 72, 73, 74, 75, 76, 77, 78, 79, 80, 81, 82, 83, 84] (by decide +kernel) (by decide +kernel)
set_option maxRecDepth 20000 in
theorem gX9_or_X9_is : GoodIn wsX9_or (wsV RX9 110 RX9 yX9_is wsX9_is) := goodIn_app (goodIn_of _ (by decide +kernel)) ggX9_or_X9_is
set_option maxRecDepth 20000 in
theorem ggX9_or_X9_node : GoodIn wsX9_or wsX9_node := goodIn_r _ [25, 26, 27, 28, 29, 30, 53, 54, 55, 56, 57, 58, 59, 60, 61, 62, 63, 64, 65, 66, 67, 68, 69, 70, 71, 72, 73, 74, 75, 76, 77, 78, 79, 80, 81, 82, 83, 84] (by decide +kernel) (by decide +kernel)
set_option maxRecDepth 20000 in
theorem gX9_or_X9_node : GoodIn wsX9_or (wsV RX9 114 RX9 yX9_node wsX9_node) := goodIn_app (goodIn_of _ (by decide +kernel)) ggX9_or_X9_node
theorem dX9_or_0 : decode cX9_or 0 = .ok (.aload_n 0, 1) := by decide +kernel
theorem dX9_or_1 : decode cX9_or 1 = .ok (.invokevirtual 107, 3) := by decide +kernel
theorem dX9_or_4 : decode cX9_or 4 = .ok (.istore_n 1, 1) := by decide +kernel
theorem dX9_or_5 : decode cX9_or 5 = .ok (.iload_n 1, 1) := by decide +kernel
theorem dX9_or_6 : decode cX9_or 6 = .ok (.ifCond .lt 55, 3) := by decide +kernel
theorem dX9_or_9 : decode cX9_or 9 = .ok (.aload_n 0, 1) := by decide +kernel
theorem dX9_or_10 : decode cX9_or 10 = .ok (.bipush 111, 2) := by decide +kernel
theorem dX9_or_12 : decode cX9_or 12 = .ok (.bipush 114, 2) := by decide +kernel
theorem dX9_or_14 : decode cX9_or 14 = .ok (.iconst 0, 1) := by decide +kernel
theorem dX9_or_15 : decode cX9_or 15 = .ok (.iconst 0, 1) := by decide +kernel
theorem dX9_or_16 : decode cX9_or 16 = .ok (.iconst 0, 1) := by decide +kernel
theorem dX9_or_17 : decode cX9_or 17 = .ok (.iconst 0, 1) := by decide +kernel
theorem dX9_or_18 : decode cX9_or 18 = .ok (.iconst 0, 1) := by decide +kernel
theorem dX9_or_19 : decode cX9_or 19 = .ok (.iconst 2, 1) := by decide +kernel
theorem dX9_or_20 : decode cX9_or 20 = .ok (.invokevirtual 110, 3) := by decide +kernel
theorem dX9_or_23 : decode cX9_or 23 = .ok (.ifCond .eq 38, 3) := by decide +kernel
theorem dX9_or_26 : decode cX9_or 26 = .ok (.aload_n 0, 1) := by decide +kernel
theorem dX9_or_27 : decode cX9_or 27 = .ok (.dup, 1) := by decide +kernel
theorem dX9_or_28 : decode cX9_or 28 = .ok (.getfield 86, 3) := by decide +kernel
theorem dX9_or_31 : decode cX9_or 31 = .ok (.iconst 1, 1) := by decide +kernel
theorem dX9_or_32 : decode cX9_or 32 = .ok (.iadd, 1) := by decide +kernel
theorem dX9_or_33 : decode cX9_or 33 = .ok (.putfield 86, 3) := by decide +kernel
theorem dX9_or_36 : decode cX9_or 36 = .ok (.aload_n 0, 1) := by decide +kernel
theorem dX9_or_37 : decode cX9_or 37 = .ok (.invokevirtual 107, 3) := by decide +kernel
theorem dX9_or_40 : decode cX9_or 40 = .ok (.istore_n 2, 1) := by decide +kernel
theorem dX9_or_41 : decode cX9_or 41 = .ok (.iload_n 2, 1) := by decide +kernel
theorem dX9_or_42 : decode cX9_or 42 = .ok (.ifCond .ge 7, 3) := by decide +kernel
theorem dX9_or_45 : decode cX9_or 45 = .ok (.iconst (-1), 1) := by decide +kernel
theorem dX9_or_46 : decode cX9_or 46 = .ok (.goto 11, 3) := by decide +kernel
theorem dX9_or_49 : decode cX9_or 49 = .ok (.aload_n 0, 1) := by decide +kernel
theorem dX9_or_50 : decode cX9_or 50 = .ok (.bipush 18, 2) := by decide +kernel
theorem dX9_or_52 : decode cX9_or 52 = .ok (.iload_n 1, 1) := by decide +kernel
theorem dX9_or_53 : decode cX9_or 53 = .ok (.iload_n 2, 1) := by decide +kernel
theorem dX9_or_54 : decode cX9_or 54 = .ok (.invokevirtual 114, 3) := by decide +kernel
theorem dX9_or_57 : decode cX9_or 57 = .ok (.istore_n 1, 1) := by decide +kernel
theorem dX9_or_58 : decode cX9_or 58 = .ok (.goto (-53), 3) := by decide +kernel
theorem dX9_or_61 : decode cX9_or 61 = .ok (.iload_n 1, 1) := by decide +kernel
theorem dX9_or_62 : decode cX9_or 62 = .ok (.ireturn, 1) := by decide +kernel
set_option maxRecDepth 20000 in
theorem ggX9_and_X9_part : GoodIn wsX9_and wsX9_part := goodIn_r _ [35, 36, 1, 37, 6, 7, 8, 5, 9, 10, 11, 12, 13, 14, 15, 16, 17, 18, 19, 20, 21, 38, 39, 40, 41, 2, 3, 4, 42, 43, 44, 22, 23, 24, 25, 26, 27, 28, 29, 30, 45, 46, 47, 48, 49, 50, 51, 52, 0, 31, 32, 33, 34, 53, 54, 55, 56, 57, 58, 59, 60, 61, 62, 63, 64, 65, 66, 67, 68, 69, 70, 71, 72, 73, 74, 75, 76, 77, 78, 79, 80, 81, 82, 83, 84] (by decide +kernel) (by decide +kernel)
set_option maxRecDepth 20000 in
theorem gX9_and_X9_part : GoodIn wsX9_and (wsV RX9 118 RX9 yX9_part wsX9_part) := goodIn_app (goodIn_of _ (by decide +kernel)) ggX9_and_X9_part
set_option maxRecDepth 20000 in
theorem ggX9_and_X9_is : GoodIn wsX9_and wsX9_is := goodIn_r _ [9, 10, 11, 12, 5, 13, 1, 14, 15, 16, 17, 18, 19, 20, 21, 53, 54, 55, 56, 57, 58, 59, 60, 61, 62, 63, 64, 65, 66, 67, 68, 69, 70, 71, 72, 73, 74, 75, 76, 77, 78, 79, 80, 81, 82, 83, 84] (by decide +kernel) (by decide +kernel)
set_option maxRecDepth 20000 in
theorem gX9_and_X9_is : GoodIn wsX9_and (wsV RX9 110 RX9 yX9_is wsX9_is) := goodIn_app (goodIn_of _ (by decide +kernel)) ggX9_and_X9_is
set_option maxRecDepth 20000 in
theorem ggX9_and_X9_node : GoodIn wsX9_and wsX9_node := goodIn_r _ [25, 26, 27, 28, 29, 30, 53, 54, 55, 56, 57, 58, 59, 60, 61, 62, 63, 64, 65, 66, 67, 68, 69, 70, 71, 72, 73, 74, 75, 76, 77, 78, 79, 80, 81, 82, 83, 84] (by decide +kernel) (by decide +kernel)
set_option maxRecDepth 20000 in
theorem gX9_and_X9_node : GoodIn wsX9_and (wsV RX9 114 RX9 yX9_node wsX9_node) := goodIn_app (goodIn_of _ (by decide +kernel)) ggX9_and_X9_node
theorem dX9_and_0 : decode cX9_and 0 = .ok (.aload_n 0, 1) := by decide +kernel
theorem dX9_and_1 : decode cX9_and 1 = .ok (.invokevirtual 118, 3) := by decide +kernel
theorem dX9_and_4 : decode cX9_and 4 = .ok (.istore_n 1, 1) := by decide +kernel
theorem dX9_and_5 : decode cX9_and 5 = .ok (.iload_n 1, 1) := by decide +kernel
theorem dX9_and_6 : decode cX9_and 6 = .ok (.ifCond .lt 56, 3) := by decide +kernel
theorem dX9_and_9 : decode cX9_and 9 = .ok (.aload_n 0, 1) := by decide +kernel
theorem dX9_and_10 : decode cX9_and 10 = .ok (.bipush 97, 2) := by decide +kernel
theorem dX9_and_12 : decode cX9_and 12 = .ok (.bipush 110, 2) := by decide +kernel
theorem dX9_and_14 : decode cX9_and 14 = .ok (.bipush 100, 2) := by decide +kernel
theorem dX9_and_16 : decode cX9_and 16 = .ok (.iconst 0, 1) := by decide +kernel
theorem dX9_and_17 : decode cX9_and 17 = .ok (.iconst 0, 1) := by decide +kernel
theorem dX9_and_18 : decode cX9_and 18 = .ok (.iconst 0, 1) := by decide +kernel
theorem dX9_and_19 : decode cX9_and 19 = .ok (.iconst 0, 1) := by decide +kernel
theorem dX9_and_20 : decode cX9_and 20 = .ok (.iconst 3, 1) := by decide +kernel
theorem dX9_and_21 : decode cX9_and 21 = .ok (.invokevirtual 110, 3) := by decide +kernel
theorem dX9_and_24 : decode cX9_and 24 = .ok (.ifCond .eq 38, 3) := by decide +kernel
theorem dX9_and_27 : decode cX9_and 27 = .ok (.aload_n 0, 1) := by decide +kernel
theorem dX9_and_28 : decode cX9_and 28 = .ok (.dup, 1) := by decide +kernel
theorem dX9_and_29 : decode cX9_and 29 = .ok (.getfield 86, 3) := by decide +kernel
theorem dX9_and_32 : decode cX9_and 32 = .ok (.iconst 1, 1) := by decide +kernel
theorem dX9_and_33 : decode cX9_and 33 = .ok (.iadd, 1) := by decide +kernel
theorem dX9_and_34 : decode cX9_and 34 = .ok (.putfield 86, 3) := by decide +kernel
theorem dX9_and_37 : decode cX9_and 37 = .ok (.aload_n 0, 1) := by decide +kernel
theorem dX9_and_38 : decode cX9_and 38 = .ok (.invokevirtual 118, 3) := by decide +kernel
theorem dX9_and_41 : decode cX9_and 41 = .ok (.istore_n 2, 1) := by decide +kernel
theorem dX9_and_42 : decode cX9_and 42 = .ok (.iload_n 2, 1) := by decide +kernel
theorem dX9_and_43 : decode cX9_and 43 = .ok (.ifCond .ge 7, 3) := by decide +kernel
theorem dX9_and_46 : decode cX9_and 46 = .ok (.iconst (-1), 1) := by decide +kernel
theorem dX9_and_47 : decode cX9_and 47 = .ok (.goto 11, 3) := by decide +kernel
theorem dX9_and_50 : decode cX9_and 50 = .ok (.aload_n 0, 1) := by decide +kernel
theorem dX9_and_51 : decode cX9_and 51 = .ok (.bipush 17, 2) := by decide +kernel
theorem dX9_and_53 : decode cX9_and 53 = .ok (.iload_n 1, 1) := by decide +kernel
theorem dX9_and_54 : decode cX9_and 54 = .ok (.iload_n 2, 1) := by decide +kernel
theorem dX9_and_55 : decode cX9_and 55 = .ok (.invokevirtual 114, 3) := by decide +kernel
theorem dX9_and_58 : decode cX9_and 58 = .ok (.istore_n 1, 1) := by decide +kernel
theorem dX9_and_59 : decode cX9_and 59 = .ok (.goto (-54), 3) := by decide +kernel
theorem dX9_and_62 : decode cX9_and 62 = .ok (.iload_n 1, 1) := by decide +kernel
theorem dX9_and_63 : decode cX9_and 63 = .ok (.ireturn, 1) := by decide +kernel
set_option maxRecDepth 20000 in
theorem ggX9_part_X9_is : GoodIn wsX9_part wsX9_is := goodIn_r _ [8, 9, 10, 11, 7, 12, 2, 13, 14, 15, 16, 17, 18, 19, 20, 53, 54, 55, 56, 57, 58, 59, 60, 61, 62, 63, 64, 65, 66, 67, 68, 69, 70, 71, 72, 73, 74, 75, 76, 77, 78, 79, 80, 81, 82, 83, 84] (by decide +kernel) (by decide +kernel)
set_option maxRecDepth 20000 in
theorem gX9_part_X9_is : GoodIn wsX9_part (wsV RX9 110 RX9 yX9_is wsX9_is) := goodIn_app (goodIn_of _ (by decide +kernel)) ggX9_part_X9_is
set_option maxRecDepth 20000 in
theorem ggX9_part_X9_isOne : GoodIn wsX9_part wsX9_isOne := goodIn_r _ [24, 9, 10, 11, 7, 12, 2, 13, 14, 15, 16, 17, 18, 19, 20, 53, 54, 55, 56, 57, 58, 59, 60, 61, 62, 63, 64, 65, 66, 67, 68, 69, 70, 71, 72, 73, 74, 75, 76, 77, 78, 79, 80, 81, 82, 83, 84] (by decide +kernel) (by decide +kernel)
set_option maxRecDepth 20000 in
theorem gX9_part_X9_isOne : GoodIn wsX9_part (wsV RX9 121 RX9 yX9_isOne wsX9_isOne) := goodIn_app (goodIn_of _ (by decide +kernel)) ggX9_part_X9_isOne
set_option maxRecDepth 20000 in
theorem ggX9_part_X9_part : GoodIn wsX9_part wsX9_part := goodIn_r _ [0, 1, 2, 3, 4, 5, 6, 7, 8, 9, 10, 11, 12, 13, 14, 15, 16, 17, 18, 19, 20, 21, 22, 23, 24, 25, 26, 27, 28, 29, 30, 31, 32, 33, 34, 35, 36, 37, 38, 39, 40, 41, 42, 43, 44, 45, 46, 47, 48, 49, 50, 51, 52, 53, 54, 55, 56, 57, 58, 59, 60, 61, 62, 63, 64, 65, 66, 67, 68, 69, 70, 71, 72, 73, 74, 75, 76, 77, 78, 79, 80, 81, 82, 83, 84] (by decide +kernel) (by decide +kernel)
set_option maxRecDepth 20000 in
theorem gX9_part_X9_part : GoodIn wsX9_part (wsV RX9 118 RX9 yX9_part wsX9_part) := goodIn_app (goodIn_of _ (by decide +kernel)) ggX9_part_X9_part
set_option maxRecDepth 20000 in
theorem ggX9_part_X9_or : GoodIn wsX9_part wsX9_or := goodIn_r _ [49, 2, 50, 51, 52, 7, 4, 5, 6, 8, 9, 10, 11, 12, 13, 14, 15, 16, 17, 18, 19, 20, 31, 32, 33, 34, 35, 36, 37, 38, 39, 48, 25, 26, 27, 0, 1, 3, 21, 22, 23, 24, 28, 29, 30, 40, 41, 42, 43, 44, 45, 46, 47, 53, 54, 55, 56, 57, 58, 59, 60, 61, 62, 63, 64, 65, 66, 67, 68, 69, 70, 71, 72, 73, 74, 75, 76, 77, 78, 79, 80, 81, 82, 83, 84] (by decide +kernel) (by decide +kernel)
set_option maxRecDepth 20000 in
theorem gX9_part_X9_or : GoodIn wsX9_part (wsV RX9 127 RX9 yX9_or wsX9_or) := goodIn_app (goodIn_of _ (by decide +kernel)) ggX9_part_X9_or
set_option maxRecDepth 20000 in
theorem ggX9_part_X9_node : GoodIn wsX9_part wsX9_node := goodIn_r _ [34, 35, 36, 37, 38, 39, 53, 54, 55, 56, 57, 58, 59, 60, 61, 62, 63, 64, 65, 66, 67, 68, 69, 70, 71, 72, 73, 74, 75, 76, 77, 78, 79, 80, 81, 82, 83, 84] (by decide +kernel) (by decide +kernel)
set_option maxRecDepth 20000 in
theorem gX9_part_X9_node : GoodIn wsX9_part (wsV RX9 114 RX9 yX9_node wsX9_node) := goodIn_app (goodIn_of _ (by decide +kernel)) ggX9_part_X9_node
set_option maxRecDepth 20000 in
theorem ggX9_part_X9_conditionWord : GoodIn wsX9_part wsX9_conditionWord := goodIn_r _ [43, 16, 17, 18, 7, 19, 2, 13, 15, 14, 20, 44, 45, 46, 47, 9, 10, 11, 12, 53, 54, 55, 56, 57, 58, 59, 60, 61, 62, 63, 64, 65, 66, 67, 68, 69, 70, 71, 72, 73, 74, 75, 76, 77, 78, 79, 80, 81, 82, 83, 84] (by decide +kernel) (by decide +kernel)
set_option maxRecDepth 20000 in
theorem gX9_part_X9_conditionWord : GoodIn wsX9_part (wsV RX9 130 RX9 yX9_conditionWord wsX9_conditionWord) := goodIn_app (goodIn_of _ (by decide +kernel)) ggX9_part_X9_conditionWord
theorem dX9_part_0 : decode cX9_part 0 = .ok (.aload_n 0, 1) := by decide +kernel
theorem dX9_part_1 : decode cX9_part 1 = .ok (.bipush 110, 2) := by decide +kernel
theorem dX9_part_3 : decode cX9_part 3 = .ok (.bipush 111, 2) := by decide +kernel
theorem dX9_part_5 : decode cX9_part 5 = .ok (.bipush 116, 2) := by decide +kernel
theorem dX9_part_7 : decode cX9_part 7 = .ok (.iconst 0, 1) := by decide +kernel
theorem dX9_part_8 : decode cX9_part 8 = .ok (.iconst 0, 1) := by decide +kernel
theorem dX9_part_9 : decode cX9_part 9 = .ok (.iconst 0, 1) := by decide +kernel
theorem dX9_part_10 : decode cX9_part 10 = .ok (.iconst 0, 1) := by decide +kernel
theorem dX9_part_11 : decode cX9_part 11 = .ok (.iconst 3, 1) := by decide +kernel
theorem dX9_part_12 : decode cX9_part 12 = .ok (.invokevirtual 110, 3) := by decide +kernel
theorem dX9_part_15 : decode cX9_part 15 = .ok (.istore_n 1, 1) := by decide +kernel
theorem dX9_part_16 : decode cX9_part 16 = .ok (.iload_n 1, 1) := by decide +kernel
theorem dX9_part_17 : decode cX9_part 17 = .ok (.ifCond .ne 12, 3) := by decide +kernel
theorem dX9_part_20 : decode cX9_part 20 = .ok (.aload_n 0, 1) := by decide +kernel
theorem dX9_part_21 : decode cX9_part 21 = .ok (.bipush 40, 2) := by decide +kernel
theorem dX9_part_23 : decode cX9_part 23 = .ok (.invokevirtual 121, 3) := by decide +kernel
theorem dX9_part_26 : decode cX9_part 26 = .ok (.ifCond .eq 114, 3) := by decide +kernel
theorem dX9_part_29 : decode cX9_part 29 = .ok (.aload_n 0, 1) := by decide +kernel
theorem dX9_part_30 : decode cX9_part 30 = .ok (.getfield 124, 3) := by decide +kernel
theorem dX9_part_33 : decode cX9_part 33 = .ok (.bipush 20, 2) := by decide +kernel
theorem dX9_part_35 : decode cX9_part 35 = .ok (.if_icmp .ne 5, 3) := by decide +kernel
theorem dX9_part_38 : decode cX9_part 38 = .ok (.iconst (-1), 1) := by decide +kernel
theorem dX9_part_39 : decode cX9_part 39 = .ok (.ireturn, 1) := by decide +kernel
theorem dX9_part_40 : decode cX9_part 40 = .ok (.aload_n 0, 1) := by decide +kernel
theorem dX9_part_41 : decode cX9_part 41 = .ok (.dup, 1) := by decide +kernel
theorem dX9_part_42 : decode cX9_part 42 = .ok (.getfield 86, 3) := by decide +kernel
theorem dX9_part_45 : decode cX9_part 45 = .ok (.iconst 1, 1) := by decide +kernel
theorem dX9_part_46 : decode cX9_part 46 = .ok (.iadd, 1) := by decide +kernel
theorem dX9_part_47 : decode cX9_part 47 = .ok (.putfield 86, 3) := by decide +kernel
theorem dX9_part_50 : decode cX9_part 50 = .ok (.aload_n 0, 1) := by decide +kernel
theorem dX9_part_51 : decode cX9_part 51 = .ok (.dup, 1) := by decide +kernel
theorem dX9_part_52 : decode cX9_part 52 = .ok (.getfield 124, 3) := by decide +kernel
theorem dX9_part_55 : decode cX9_part 55 = .ok (.iconst 1, 1) := by decide +kernel
theorem dX9_part_56 : decode cX9_part 56 = .ok (.iadd, 1) := by decide +kernel
theorem dX9_part_57 : decode cX9_part 57 = .ok (.putfield 124, 3) := by decide +kernel
theorem dX9_part_60 : decode cX9_part 60 = .ok (.iload_n 1, 1) := by decide +kernel
theorem dX9_part_61 : decode cX9_part 61 = .ok (.ifCond .eq 10, 3) := by decide +kernel
theorem dX9_part_64 : decode cX9_part 64 = .ok (.aload_n 0, 1) := by decide +kernel
theorem dX9_part_65 : decode cX9_part 65 = .ok (.invokevirtual 118, 3) := by decide +kernel
theorem dX9_part_68 : decode cX9_part 68 = .ok (.goto 7, 3) := by decide +kernel
theorem dX9_part_71 : decode cX9_part 71 = .ok (.aload_n 0, 1) := by decide +kernel
theorem dX9_part_72 : decode cX9_part 72 = .ok (.invokevirtual 127, 3) := by decide +kernel
theorem dX9_part_75 : decode cX9_part 75 = .ok (.istore_n 2, 1) := by decide +kernel
theorem dX9_part_76 : decode cX9_part 76 = .ok (.iload_n 2, 1) := by decide +kernel
theorem dX9_part_77 : decode cX9_part 77 = .ok (.ifCond .lt 16, 3) := by decide +kernel
theorem dX9_part_80 : decode cX9_part 80 = .ok (.iload_n 1, 1) := by decide +kernel
theorem dX9_part_81 : decode cX9_part 81 = .ok (.ifCond .ne 14, 3) := by decide +kernel
theorem dX9_part_84 : decode cX9_part 84 = .ok (.aload_n 0, 1) := by decide +kernel
theorem dX9_part_85 : decode cX9_part 85 = .ok (.bipush 41, 2) := by decide +kernel
theorem dX9_part_87 : decode cX9_part 87 = .ok (.invokevirtual 121, 3) := by decide +kernel
theorem dX9_part_90 : decode cX9_part 90 = .ok (.ifCond .ne 5, 3) := by decide +kernel
theorem dX9_part_93 : decode cX9_part 93 = .ok (.iconst (-1), 1) := by decide +kernel
theorem dX9_part_94 : decode cX9_part 94 = .ok (.ireturn, 1) := by decide +kernel
theorem dX9_part_95 : decode cX9_part 95 = .ok (.aload_n 0, 1) := by decide +kernel
theorem dX9_part_96 : decode cX9_part 96 = .ok (.dup, 1) := by decide +kernel
theorem dX9_part_97 : decode cX9_part 97 = .ok (.getfield 86, 3) := by decide +kernel
theorem dX9_part_100 : decode cX9_part 100 = .ok (.iload_n 1, 1) := by decide +kernel
theorem dX9_part_101 : decode cX9_part 101 = .ok (.ifCond .eq 7, 3) := by decide +kernel
theorem dX9_part_104 : decode cX9_part 104 = .ok (.iconst 0, 1) := by decide +kernel
theorem dX9_part_105 : decode cX9_part 105 = .ok (.goto 4, 3) := by decide +kernel
theorem dX9_part_108 : decode cX9_part 108 = .ok (.iconst 1, 1) := by decide +kernel
theorem dX9_part_109 : decode cX9_part 109 = .ok (.iadd, 1) := by decide +kernel
theorem dX9_part_110 : decode cX9_part 110 = .ok (.putfield 86, 3) := by decide +kernel
theorem dX9_part_113 : decode cX9_part 113 = .ok (.aload_n 0, 1) := by decide +kernel
theorem dX9_part_114 : decode cX9_part 114 = .ok (.dup, 1) := by decide +kernel
theorem dX9_part_115 : decode cX9_part 115 = .ok (.getfield 124, 3) := by decide +kernel
theorem dX9_part_118 : decode cX9_part 118 = .ok (.iconst 1, 1) := by decide +kernel
theorem dX9_part_119 : decode cX9_part 119 = .ok (.isub, 1) := by decide +kernel
theorem dX9_part_120 : decode cX9_part 120 = .ok (.putfield 124, 3) := by decide +kernel
theorem dX9_part_123 : decode cX9_part 123 = .ok (.iload_n 1, 1) := by decide +kernel
theorem dX9_part_124 : decode cX9_part 124 = .ok (.ifCond .eq 14, 3) := by decide +kernel
theorem dX9_part_127 : decode cX9_part 127 = .ok (.aload_n 0, 1) := by decide +kernel
theorem dX9_part_128 : decode cX9_part 128 = .ok (.bipush 16, 2) := by decide +kernel
theorem dX9_part_130 : decode cX9_part 130 = .ok (.iload_n 2, 1) := by decide +kernel
theorem dX9_part_131 : decode cX9_part 131 = .ok (.iconst (-1), 1) := by decide +kernel
theorem dX9_part_132 : decode cX9_part 132 = .ok (.invokevirtual 114, 3) := by decide +kernel
theorem dX9_part_135 : decode cX9_part 135 = .ok (.goto 4, 3) := by decide +kernel
theorem dX9_part_138 : decode cX9_part 138 = .ok (.iload_n 2, 1) := by decide +kernel
theorem dX9_part_139 : decode cX9_part 139 = .ok (.ireturn, 1) := by decide +kernel
theorem dX9_part_140 : decode cX9_part 140 = .ok (.aload_n 0, 1) := by decide +kernel
theorem dX9_part_141 : decode cX9_part 141 = .ok (.invokevirtual 130, 3) := by decide +kernel
theorem dX9_part_144 : decode cX9_part 144 = .ok (.istore_n 2, 1) := by decide +kernel
theorem dX9_part_145 : decode cX9_part 145 = .ok (.iload_n 2, 1) := by decide +kernel
theorem dX9_part_146 : decode cX9_part 146 = .ok (.ifCond .lt 12, 3) := by decide +kernel
theorem dX9_part_149 : decode cX9_part 149 = .ok (.aload_n 0, 1) := by decide +kernel
theorem dX9_part_150 : decode cX9_part 150 = .ok (.getfield 133, 3) := by decide +kernel
theorem dX9_part_153 : decode cX9_part 153 = .ok (.bipush 32, 2) := by decide +kernel
theorem dX9_part_155 : decode cX9_part 155 = .ok (.if_icmp .ne 5, 3) := by decide +kernel
theorem dX9_part_158 : decode cX9_part 158 = .ok (.iconst (-1), 1) := by decide +kernel
theorem dX9_part_159 : decode cX9_part 159 = .ok (.ireturn, 1) := by decide +kernel
theorem dX9_part_160 : decode cX9_part 160 = .ok (.aload_n 0, 1) := by decide +kernel
theorem dX9_part_161 : decode cX9_part 161 = .ok (.dup, 1) := by decide +kernel
theorem dX9_part_162 : decode cX9_part 162 = .ok (.getfield 133, 3) := by decide +kernel
theorem dX9_part_165 : decode cX9_part 165 = .ok (.iconst 1, 1) := by decide +kernel
theorem dX9_part_166 : decode cX9_part 166 = .ok (.iadd, 1) := by decide +kernel
theorem dX9_part_167 : decode cX9_part 167 = .ok (.putfield 133, 3) := by decide +kernel
theorem dX9_part_170 : decode cX9_part 170 = .ok (.aload_n 0, 1) := by decide +kernel
theorem dX9_part_171 : decode cX9_part 171 = .ok (.dup, 1) := by decide +kernel
theorem dX9_part_172 : decode cX9_part 172 = .ok (.getfield 86, 3) := by decide +kernel
theorem dX9_part_175 : decode cX9_part 175 = .ok (.iconst 1, 1) := by decide +kernel
theorem dX9_part_176 : decode cX9_part 176 = .ok (.iadd, 1) := by decide +kernel
theorem dX9_part_177 : decode cX9_part 177 = .ok (.putfield 86, 3) := by decide +kernel
theorem dX9_part_180 : decode cX9_part 180 = .ok (.aload_n 0, 1) := by decide +kernel
theorem dX9_part_181 : decode cX9_part 181 = .ok (.iload_n 2, 1) := by decide +kernel
theorem dX9_part_182 : decode cX9_part 182 = .ok (.iconst (-1), 1) := by decide +kernel
theorem dX9_part_183 : decode cX9_part 183 = .ok (.iconst (-1), 1) := by decide +kernel
theorem dX9_part_184 : decode cX9_part 184 = .ok (.invokevirtual 114, 3) := by decide +kernel
theorem dX9_part_187 : decode cX9_part 187 = .ok (.ireturn, 1) := by decide +kernel
set_option maxRecDepth 20000 in
theorem ggX9_readRow_X9_act : GoodIn wsX9_readRow wsX9_act := goodIn_r _ [16, 17, 18, 19, 15, 20, 3, 21, 22, 23, 24, 25, 26, 27, 28, 29, 30, 31, 32, 65, 66, 67, 68, 69, 70, 71, 72, 73, 74, 75, 76, 77, 78, 79, 80, 81, 82, 83, 84, 85, 86, 87, 88, 89, 90, 91, 92, 93, 94, 95, 96] (by decide +kernel) (by decide +kernel)
set_option maxRecDepth 20000 in
theorem gX9_readRow_X9_act : GoodIn wsX9_readRow (wsV RX9 139 RX9 yX9_act wsX9_act) := goodIn_app (goodIn_of _ (by decide +kernel)) ggX9_readRow_X9_act
set_option maxRecDepth 20000 in
theorem ggX9_readRow_X9_is : GoodIn wsX9_readRow wsX9_is := goodIn_r _ [36, 29, 30, 31, 15, 32, 3, 21, 23, 22, 17, 18, 19, 20, 24, 65, 66, 67, 68, 69, 70, 71, 72, 73, 74, 75, 76, 77, 78, 79, 80, 81, 82, 83, 84, 85, 86, 87, 88, 89, 90, 91, 92, 93, 94, 95, 96] (by decide +kernel) (by decide +kernel)
set_option maxRecDepth 20000 in
theorem gX9_readRow_X9_is : GoodIn wsX9_readRow (wsV RX9 110 RX9 yX9_is wsX9_is) := goodIn_app (goodIn_of _ (by decide +kernel)) ggX9_readRow_X9_is
set_option maxRecDepth 20000 in
theorem ggX9_readRow_X9_or : GoodIn wsX9_readRow wsX9_or := goodIn_r _ [40, 3, 41, 42, 43, 15, 33, 34, 35, 36, 29, 30, 31, 32, 21, 23, 22, 17, 18, 19, 20, 24, 44, 45, 46, 47, 1, 48, 49, 50, 51, 52, 53, 54, 55, 56, 6, 7, 57, 58, 59, 60, 37, 38, 39, 61, 62, 63, 64, 25, 26, 27, 28, 65, 66, 67, 68, 69, 70, 71, 72, 73, 74, 75, 76, 77, 78, 79, 80, 81, 82, 83, 84, 85, 86, 87, 88, 89, 90, 91, 92, 93, 94, 95, 96] (by decide +kernel) (by decide +kernel)
set_option maxRecDepth 20000 in
theorem gX9_readRow_X9_or : GoodIn wsX9_readRow (wsV RX9 127 RX9 yX9_or wsX9_or) := goodIn_app (goodIn_of _ (by decide +kernel)) ggX9_readRow_X9_or
set_option maxRecDepth 20000 in
theorem ggX9_readRow_X9_number : GoodIn wsX9_readRow wsX9_number := goodIn_r _ [28, 29, 30, 31, 15, 32, 3, 21, 23, 22, 17, 18, 19, 20, 24, 65, 66, 67, 68, 69, 70, 71, 72, 73, 74, 75, 76, 77, 78, 79, 80, 81, 82, 83, 84, 85, 86, 87, 88, 89, 90, 91, 92, 93, 94, 95, 96] (by decide +kernel) (by decide +kernel)
set_option maxRecDepth 20000 in
theorem gX9_readRow_X9_number : GoodIn wsX9_readRow (wsV RX9 97 RX9 yX9_number wsX9_number) := goodIn_app (goodIn_of _ (by decide +kernel)) ggX9_readRow_X9_number
set_option maxRecDepth 20000 in
theorem ggX9_readRow_X9_isOne : GoodIn wsX9_readRow wsX9_isOne := goodIn_r _ [60, 29, 30, 31, 15, 32, 3, 21, 23, 22, 17, 18, 19, 20, 24, 65, 66, 67, 68, 69, 70, 71, 72, 73, 74, 75, 76, 77, 78, 79, 80, 81, 82, 83, 84, 85, 86, 87, 88, 89, 90, 91, 92, 93, 94, 95, 96] (by decide +kernel) (by decide +kernel)
set_option maxRecDepth 20000 in
theorem gX9_readRow_X9_isOne : GoodIn wsX9_readRow (wsV RX9 121 RX9 yX9_isOne wsX9_isOne) := goodIn_app (goodIn_of _ (by decide +kernel)) ggX9_readRow_X9_isOne
theorem dX9_readRow_0 : decode cX9_readRow 0 = .ok (.bipush 40, 2) := by decide +kernel
theorem dX9_readRow_2 : decode cX9_readRow 2 = .ok (.iconst 1, 1) := by decide +kernel
theorem dX9_readRow_3 : decode cX9_readRow 3 = .ok (.aload_n 0, 1) := by decide +kernel
theorem dX9_readRow_4 : decode cX9_readRow 4 = .ok (.getfield 101, 3) := by decide +kernel
theorem dX9_readRow_7 : decode cX9_readRow 7 = .ok (.isub, 1) := by decide +kernel
theorem dX9_readRow_8 : decode cX9_readRow 8 = .ok (.imul, 1) := by decide +kernel
theorem dX9_readRow_9 : decode cX9_readRow 9 = .ok (.aload_n 0, 1) := by decide +kernel
theorem dX9_readRow_10 : decode cX9_readRow 10 = .ok (.getfield 136, 3) := by decide +kernel
theorem dX9_readRow_13 : decode cX9_readRow 13 = .ok (.iadd, 1) := by decide +kernel
theorem dX9_readRow_14 : decode cX9_readRow 14 = .ok (.istore_n 1, 1) := by decide +kernel
theorem dX9_readRow_15 : decode cX9_readRow 15 = .ok (.aload_n 0, 1) := by decide +kernel
theorem dX9_readRow_16 : decode cX9_readRow 16 = .ok (.dup, 1) := by decide +kernel
theorem dX9_readRow_17 : decode cX9_readRow 17 = .ok (.getfield 86, 3) := by decide +kernel
theorem dX9_readRow_20 : decode cX9_readRow 20 = .ok (.iconst 1, 1) := by decide +kernel
theorem dX9_readRow_21 : decode cX9_readRow 21 = .ok (.iadd, 1) := by decide +kernel
theorem dX9_readRow_22 : decode cX9_readRow 22 = .ok (.putfield 86, 3) := by decide +kernel
theorem dX9_readRow_25 : decode cX9_readRow 25 = .ok (.iconst 0, 1) := by decide +kernel
theorem dX9_readRow_26 : decode cX9_readRow 26 = .ok (.istore_n 2, 1) := by decide +kernel
theorem dX9_readRow_27 : decode cX9_readRow 27 = .ok (.iconst 1, 1) := by decide +kernel
theorem dX9_readRow_28 : decode cX9_readRow 28 = .ok (.istore_n 3, 1) := by decide +kernel
theorem dX9_readRow_29 : decode cX9_readRow 29 = .ok (.iload_n 3, 1) := by decide +kernel
theorem dX9_readRow_30 : decode cX9_readRow 30 = .ok (.ifCond .eq 94, 3) := by decide +kernel
theorem dX9_readRow_33 : decode cX9_readRow 33 = .ok (.aload_n 0, 1) := by decide +kernel
theorem dX9_readRow_34 : decode cX9_readRow 34 = .ok (.invokevirtual 139, 3) := by decide +kernel
theorem dX9_readRow_37 : decode cX9_readRow 37 = .ok (.istore 4, 2) := by decide +kernel
theorem dX9_readRow_39 : decode cX9_readRow 39 = .ok (.iconst 0, 1) := by decide +kernel
theorem dX9_readRow_40 : decode cX9_readRow 40 = .ok (.istore 5, 2) := by decide +kernel
theorem dX9_readRow_42 : decode cX9_readRow 42 = .ok (.iload 5, 2) := by decide +kernel
theorem dX9_readRow_44 : decode cX9_readRow 44 = .ok (.iload_n 2, 1) := by decide +kernel
theorem dX9_readRow_45 : decode cX9_readRow 45 = .ok (.if_icmp .ge 34, 3) := by decide +kernel
theorem dX9_readRow_48 : decode cX9_readRow 48 = .ok (.aload_n 0, 1) := by decide +kernel
theorem dX9_readRow_49 : decode cX9_readRow 49 = .ok (.getfield 35, 3) := by decide +kernel
theorem dX9_readRow_52 : decode cX9_readRow 52 = .ok (.bipush 8, 2) := by decide +kernel
theorem dX9_readRow_54 : decode cX9_readRow 54 = .ok (.iload_n 1, 1) := by decide +kernel
theorem dX9_readRow_55 : decode cX9_readRow 55 = .ok (.imul, 1) := by decide +kernel
theorem dX9_readRow_56 : decode cX9_readRow 56 = .ok (.iload 5, 2) := by decide +kernel
theorem dX9_readRow_58 : decode cX9_readRow 58 = .ok (.iadd, 1) := by decide +kernel
theorem dX9_readRow_59 : decode cX9_readRow 59 = .ok (.iaload, 1) := by decide +kernel
theorem dX9_readRow_60 : decode cX9_readRow 60 = .ok (.iload 4, 2) := by decide +kernel
theorem dX9_readRow_62 : decode cX9_readRow 62 = .ok (.if_icmp .ne 7, 3) := by decide +kernel
theorem dX9_readRow_65 : decode cX9_readRow 65 = .ok (.iconst (-1), 1) := by decide +kernel
theorem dX9_readRow_66 : decode cX9_readRow 66 = .ok (.goto 5, 3) := by decide +kernel
theorem dX9_readRow_69 : decode cX9_readRow 69 = .ok (.iload 4, 2) := by decide +kernel
theorem dX9_readRow_71 : decode cX9_readRow 71 = .ok (.istore 4, 2) := by decide +kernel
theorem dX9_readRow_73 : decode cX9_readRow 73 = .ok (.iinc 5 1, 3) := by decide +kernel
theorem dX9_readRow_76 : decode cX9_readRow 76 = .ok (.goto (-34), 3) := by decide +kernel
theorem dX9_readRow_79 : decode cX9_readRow 79 = .ok (.iload 4, 2) := by decide +kernel
theorem dX9_readRow_81 : decode cX9_readRow 81 = .ok (.ifCond .lt 9, 3) := by decide +kernel
theorem dX9_readRow_84 : decode cX9_readRow 84 = .ok (.iload_n 2, 1) := by decide +kernel
theorem dX9_readRow_85 : decode cX9_readRow 85 = .ok (.bipush 8, 2) := by decide +kernel
theorem dX9_readRow_87 : decode cX9_readRow 87 = .ok (.if_icmp .ne 8, 3) := by decide +kernel
theorem dX9_readRow_90 : decode cX9_readRow 90 = .ok (.iconst 0, 1) := by decide +kernel
theorem dX9_readRow_91 : decode cX9_readRow 91 = .ok (.istore_n 3, 1) := by decide +kernel
theorem dX9_readRow_92 : decode cX9_readRow 92 = .ok (.goto 29, 3) := by decide +kernel
theorem dX9_readRow_95 : decode cX9_readRow 95 = .ok (.aload_n 0, 1) := by decide +kernel
theorem dX9_readRow_96 : decode cX9_readRow 96 = .ok (.getfield 35, 3) := by decide +kernel
theorem dX9_readRow_99 : decode cX9_readRow 99 = .ok (.bipush 8, 2) := by decide +kernel
theorem dX9_readRow_101 : decode cX9_readRow 101 = .ok (.iload_n 1, 1) := by decide +kernel
theorem dX9_readRow_102 : decode cX9_readRow 102 = .ok (.imul, 1) := by decide +kernel
theorem dX9_readRow_103 : decode cX9_readRow 103 = .ok (.iload_n 2, 1) := by decide +kernel
theorem dX9_readRow_104 : decode cX9_readRow 104 = .ok (.iadd, 1) := by decide +kernel
theorem dX9_readRow_105 : decode cX9_readRow 105 = .ok (.iload 4, 2) := by decide +kernel
theorem dX9_readRow_107 : decode cX9_readRow 107 = .ok (.iastore, 1) := by decide +kernel
theorem dX9_readRow_108 : decode cX9_readRow 108 = .ok (.iinc 2 1, 3) := by decide +kernel
theorem dX9_readRow_111 : decode cX9_readRow 111 = .ok (.aload_n 0, 1) := by decide +kernel
theorem dX9_readRow_112 : decode cX9_readRow 112 = .ok (.dup, 1) := by decide +kernel
theorem dX9_readRow_113 : decode cX9_readRow 113 = .ok (.getfield 86, 3) := by decide +kernel
theorem dX9_readRow_116 : decode cX9_readRow 116 = .ok (.iconst 1, 1) := by decide +kernel
theorem dX9_readRow_117 : decode cX9_readRow 117 = .ok (.iadd, 1) := by decide +kernel
theorem dX9_readRow_118 : decode cX9_readRow 118 = .ok (.putfield 86, 3) := by decide +kernel
theorem dX9_readRow_121 : decode cX9_readRow 121 = .ok (.goto (-92), 3) := by decide +kernel
theorem dX9_readRow_124 : decode cX9_readRow 124 = .ok (.iload_n 2, 1) := by decide +kernel
theorem dX9_readRow_125 : decode cX9_readRow 125 = .ok (.ifCond .eq 22, 3) := by decide +kernel
theorem dX9_readRow_128 : decode cX9_readRow 128 = .ok (.aload_n 0, 1) := by decide +kernel
theorem dX9_readRow_129 : decode cX9_readRow 129 = .ok (.bipush 119, 2) := by decide +kernel
theorem dX9_readRow_131 : decode cX9_readRow 131 = .ok (.bipush 104, 2) := by decide +kernel
theorem dX9_readRow_133 : decode cX9_readRow 133 = .ok (.bipush 101, 2) := by decide +kernel
theorem dX9_readRow_135 : decode cX9_readRow 135 = .ok (.bipush 110, 2) := by decide +kernel
theorem dX9_readRow_137 : decode cX9_readRow 137 = .ok (.iconst 0, 1) := by decide +kernel
theorem dX9_readRow_138 : decode cX9_readRow 138 = .ok (.iconst 0, 1) := by decide +kernel
theorem dX9_readRow_139 : decode cX9_readRow 139 = .ok (.iconst 0, 1) := by decide +kernel
theorem dX9_readRow_140 : decode cX9_readRow 140 = .ok (.iconst 4, 1) := by decide +kernel
theorem dX9_readRow_141 : decode cX9_readRow 141 = .ok (.invokevirtual 110, 3) := by decide +kernel
theorem dX9_readRow_144 : decode cX9_readRow 144 = .ok (.ifCond .ne 5, 3) := by decide +kernel
theorem dX9_readRow_147 : decode cX9_readRow 147 = .ok (.iconst 0, 1) := by decide +kernel
theorem dX9_readRow_148 : decode cX9_readRow 148 = .ok (.ireturn, 1) := by decide +kernel
theorem dX9_readRow_149 : decode cX9_readRow 149 = .ok (.aload_n 0, 1) := by decide +kernel
theorem dX9_readRow_150 : decode cX9_readRow 150 = .ok (.getfield 32, 3) := by decide +kernel
theorem dX9_readRow_153 : decode cX9_readRow 153 = .ok (.iload_n 1, 1) := by decide +kernel
theorem dX9_readRow_154 : decode cX9_readRow 154 = .ok (.iload_n 2, 1) := by decide +kernel
theorem dX9_readRow_155 : decode cX9_readRow 155 = .ok (.iastore, 1) := by decide +kernel
theorem dX9_readRow_156 : decode cX9_readRow 156 = .ok (.aload_n 0, 1) := by decide +kernel
theorem dX9_readRow_157 : decode cX9_readRow 157 = .ok (.dup, 1) := by decide +kernel
theorem dX9_readRow_158 : decode cX9_readRow 158 = .ok (.getfield 86, 3) := by decide +kernel
theorem dX9_readRow_161 : decode cX9_readRow 161 = .ok (.iconst 1, 1) := by decide +kernel
theorem dX9_readRow_162 : decode cX9_readRow 162 = .ok (.iadd, 1) := by decide +kernel
end
section
theorem dX9_readRow_163 : decode cX9_readRow 163 = .ok (.putfield 86, 3) := by decide +kernel
theorem dX9_readRow_166 : decode cX9_readRow 166 = .ok (.aload_n 0, 1) := by decide +kernel
theorem dX9_readRow_167 : decode cX9_readRow 167 = .ok (.iconst 0, 1) := by decide +kernel
theorem dX9_readRow_168 : decode cX9_readRow 168 = .ok (.putfield 124, 3) := by decide +kernel
theorem dX9_readRow_171 : decode cX9_readRow 171 = .ok (.aload_n 0, 1) := by decide +kernel
theorem dX9_readRow_172 : decode cX9_readRow 172 = .ok (.iconst 0, 1) := by decide +kernel
theorem dX9_readRow_173 : decode cX9_readRow 173 = .ok (.putfield 133, 3) := by decide +kernel
theorem dX9_readRow_176 : decode cX9_readRow 176 = .ok (.aload_n 0, 1) := by decide +kernel
theorem dX9_readRow_177 : decode cX9_readRow 177 = .ok (.getfield 29, 3) := by decide +kernel
theorem dX9_readRow_180 : decode cX9_readRow 180 = .ok (.iload_n 1, 1) := by decide +kernel
theorem dX9_readRow_181 : decode cX9_readRow 181 = .ok (.aload_n 0, 1) := by decide +kernel
theorem dX9_readRow_182 : decode cX9_readRow 182 = .ok (.invokevirtual 127, 3) := by decide +kernel
theorem dX9_readRow_185 : decode cX9_readRow 185 = .ok (.iastore, 1) := by decide +kernel
theorem dX9_readRow_186 : decode cX9_readRow 186 = .ok (.aload_n 0, 1) := by decide +kernel
theorem dX9_readRow_187 : decode cX9_readRow 187 = .ok (.getfield 29, 3) := by decide +kernel
theorem dX9_readRow_190 : decode cX9_readRow 190 = .ok (.iload_n 1, 1) := by decide +kernel
theorem dX9_readRow_191 : decode cX9_readRow 191 = .ok (.iaload, 1) := by decide +kernel
theorem dX9_readRow_192 : decode cX9_readRow 192 = .ok (.ifCond .ge 5, 3) := by decide +kernel
theorem dX9_readRow_195 : decode cX9_readRow 195 = .ok (.iconst 0, 1) := by decide +kernel
theorem dX9_readRow_196 : decode cX9_readRow 196 = .ok (.ireturn, 1) := by decide +kernel
theorem dX9_readRow_197 : decode cX9_readRow 197 = .ok (.aload_n 0, 1) := by decide +kernel
theorem dX9_readRow_198 : decode cX9_readRow 198 = .ok (.getfield 45, 3) := by decide +kernel
theorem dX9_readRow_201 : decode cX9_readRow 201 = .ok (.iload_n 1, 1) := by decide +kernel
theorem dX9_readRow_202 : decode cX9_readRow 202 = .ok (.aload_n 0, 1) := by decide +kernel
theorem dX9_readRow_203 : decode cX9_readRow 203 = .ok (.getfield 133, 3) := by decide +kernel
theorem dX9_readRow_206 : decode cX9_readRow 206 = .ok (.iastore, 1) := by decide +kernel
theorem dX9_readRow_207 : decode cX9_readRow 207 = .ok (.aload_n 0, 1) := by decide +kernel
theorem dX9_readRow_208 : decode cX9_readRow 208 = .ok (.getfield 38, 3) := by decide +kernel
theorem dX9_readRow_211 : decode cX9_readRow 211 = .ok (.iload_n 1, 1) := by decide +kernel
theorem dX9_readRow_212 : decode cX9_readRow 212 = .ok (.iconst 0, 1) := by decide +kernel
theorem dX9_readRow_213 : decode cX9_readRow 213 = .ok (.iastore, 1) := by decide +kernel
theorem dX9_readRow_214 : decode cX9_readRow 214 = .ok (.aload_n 0, 1) := by decide +kernel
theorem dX9_readRow_215 : decode cX9_readRow 215 = .ok (.bipush 102, 2) := by decide +kernel
theorem dX9_readRow_217 : decode cX9_readRow 217 = .ok (.bipush 111, 2) := by decide +kernel
theorem dX9_readRow_219 : decode cX9_readRow 219 = .ok (.bipush 114, 2) := by decide +kernel
theorem dX9_readRow_221 : decode cX9_readRow 221 = .ok (.iconst 0, 1) := by decide +kernel
theorem dX9_readRow_222 : decode cX9_readRow 222 = .ok (.iconst 0, 1) := by decide +kernel
theorem dX9_readRow_223 : decode cX9_readRow 223 = .ok (.iconst 0, 1) := by decide +kernel
theorem dX9_readRow_224 : decode cX9_readRow 224 = .ok (.iconst 0, 1) := by decide +kernel
theorem dX9_readRow_225 : decode cX9_readRow 225 = .ok (.iconst 3, 1) := by decide +kernel
theorem dX9_readRow_226 : decode cX9_readRow 226 = .ok (.invokevirtual 110, 3) := by decide +kernel
theorem dX9_readRow_229 : decode cX9_readRow 229 = .ok (.ifCond .eq 48, 3) := by decide +kernel
theorem dX9_readRow_232 : decode cX9_readRow 232 = .ok (.aload_n 0, 1) := by decide +kernel
theorem dX9_readRow_233 : decode cX9_readRow 233 = .ok (.dup, 1) := by decide +kernel
theorem dX9_readRow_234 : decode cX9_readRow 234 = .ok (.getfield 86, 3) := by decide +kernel
theorem dX9_readRow_237 : decode cX9_readRow 237 = .ok (.iconst 1, 1) := by decide +kernel
theorem dX9_readRow_238 : decode cX9_readRow 238 = .ok (.iadd, 1) := by decide +kernel
theorem dX9_readRow_239 : decode cX9_readRow 239 = .ok (.putfield 86, 3) := by decide +kernel
theorem dX9_readRow_242 : decode cX9_readRow 242 = .ok (.aload_n 0, 1) := by decide +kernel
theorem dX9_readRow_243 : decode cX9_readRow 243 = .ok (.iconst 0, 1) := by decide +kernel
theorem dX9_readRow_244 : decode cX9_readRow 244 = .ok (.sipush 3600, 3) := by decide +kernel
theorem dX9_readRow_247 : decode cX9_readRow 247 = .ok (.invokevirtual 97, 3) := by decide +kernel
theorem dX9_readRow_250 : decode cX9_readRow 250 = .ok (.istore 4, 2) := by decide +kernel
theorem dX9_readRow_252 : decode cX9_readRow 252 = .ok (.iload 4, 2) := by decide +kernel
theorem dX9_readRow_254 : decode cX9_readRow 254 = .ok (.ifCond .ge 5, 3) := by decide +kernel
theorem dX9_readRow_257 : decode cX9_readRow 257 = .ok (.iconst 0, 1) := by decide +kernel
theorem dX9_readRow_258 : decode cX9_readRow 258 = .ok (.ireturn, 1) := by decide +kernel
theorem dX9_readRow_259 : decode cX9_readRow 259 = .ok (.aload_n 0, 1) := by decide +kernel
theorem dX9_readRow_260 : decode cX9_readRow 260 = .ok (.getfield 38, 3) := by decide +kernel
theorem dX9_readRow_263 : decode cX9_readRow 263 = .ok (.iload_n 1, 1) := by decide +kernel
theorem dX9_readRow_264 : decode cX9_readRow 264 = .ok (.iload 4, 2) := by decide +kernel
theorem dX9_readRow_266 : decode cX9_readRow 266 = .ok (.iastore, 1) := by decide +kernel
theorem dX9_readRow_267 : decode cX9_readRow 267 = .ok (.aload_n 0, 1) := by decide +kernel
theorem dX9_readRow_268 : decode cX9_readRow 268 = .ok (.dup, 1) := by decide +kernel
theorem dX9_readRow_269 : decode cX9_readRow 269 = .ok (.getfield 86, 3) := by decide +kernel
theorem dX9_readRow_272 : decode cX9_readRow 272 = .ok (.iconst 1, 1) := by decide +kernel
theorem dX9_readRow_273 : decode cX9_readRow 273 = .ok (.iadd, 1) := by decide +kernel
theorem dX9_readRow_274 : decode cX9_readRow 274 = .ok (.putfield 86, 3) := by decide +kernel
theorem dX9_readRow_277 : decode cX9_readRow 277 = .ok (.aload_n 0, 1) := by decide +kernel
theorem dX9_readRow_278 : decode cX9_readRow 278 = .ok (.getfield 41, 3) := by decide +kernel
theorem dX9_readRow_281 : decode cX9_readRow 281 = .ok (.iload_n 1, 1) := by decide +kernel
theorem dX9_readRow_282 : decode cX9_readRow 282 = .ok (.aload_n 0, 1) := by decide +kernel
theorem dX9_readRow_283 : decode cX9_readRow 283 = .ok (.bipush 108, 2) := by decide +kernel
theorem dX9_readRow_285 : decode cX9_readRow 285 = .ok (.bipush 97, 2) := by decide +kernel
theorem dX9_readRow_287 : decode cX9_readRow 287 = .ok (.bipush 116, 2) := by decide +kernel
theorem dX9_readRow_289 : decode cX9_readRow 289 = .ok (.bipush 99, 2) := by decide +kernel
theorem dX9_readRow_291 : decode cX9_readRow 291 = .ok (.bipush 104, 2) := by decide +kernel
theorem dX9_readRow_293 : decode cX9_readRow 293 = .ok (.bipush 101, 2) := by decide +kernel
theorem dX9_readRow_295 : decode cX9_readRow 295 = .ok (.bipush 100, 2) := by decide +kernel
theorem dX9_readRow_297 : decode cX9_readRow 297 = .ok (.bipush 7, 2) := by decide +kernel
theorem dX9_readRow_299 : decode cX9_readRow 299 = .ok (.invokevirtual 110, 3) := by decide +kernel
theorem dX9_readRow_302 : decode cX9_readRow 302 = .ok (.bastore, 1) := by decide +kernel
theorem dX9_readRow_303 : decode cX9_readRow 303 = .ok (.aload_n 0, 1) := by decide +kernel
theorem dX9_readRow_304 : decode cX9_readRow 304 = .ok (.dup, 1) := by decide +kernel
theorem dX9_readRow_305 : decode cX9_readRow 305 = .ok (.getfield 86, 3) := by decide +kernel
theorem dX9_readRow_308 : decode cX9_readRow 308 = .ok (.aload_n 0, 1) := by decide +kernel
theorem dX9_readRow_309 : decode cX9_readRow 309 = .ok (.getfield 41, 3) := by decide +kernel
theorem dX9_readRow_312 : decode cX9_readRow 312 = .ok (.iload_n 1, 1) := by decide +kernel
theorem dX9_readRow_313 : decode cX9_readRow 313 = .ok (.baload, 1) := by decide +kernel
theorem dX9_readRow_314 : decode cX9_readRow 314 = .ok (.ifCond .eq 7, 3) := by decide +kernel
theorem dX9_readRow_317 : decode cX9_readRow 317 = .ok (.iconst 1, 1) := by decide +kernel
theorem dX9_readRow_318 : decode cX9_readRow 318 = .ok (.goto 4, 3) := by decide +kernel
theorem dX9_readRow_321 : decode cX9_readRow 321 = .ok (.iconst 0, 1) := by decide +kernel
theorem dX9_readRow_322 : decode cX9_readRow 322 = .ok (.iadd, 1) := by decide +kernel
theorem dX9_readRow_323 : decode cX9_readRow 323 = .ok (.putfield 86, 3) := by decide +kernel
theorem dX9_readRow_326 : decode cX9_readRow 326 = .ok (.aload_n 0, 1) := by decide +kernel
theorem dX9_readRow_327 : decode cX9_readRow 327 = .ok (.bipush 59, 2) := by decide +kernel
theorem dX9_readRow_329 : decode cX9_readRow 329 = .ok (.invokevirtual 121, 3) := by decide +kernel
theorem dX9_readRow_332 : decode cX9_readRow 332 = .ok (.ifCond .ne 5, 3) := by decide +kernel
theorem dX9_readRow_335 : decode cX9_readRow 335 = .ok (.iconst 0, 1) := by decide +kernel
theorem dX9_readRow_336 : decode cX9_readRow 336 = .ok (.ireturn, 1) := by decide +kernel
theorem dX9_readRow_337 : decode cX9_readRow 337 = .ok (.aload_n 0, 1) := by decide +kernel
theorem dX9_readRow_338 : decode cX9_readRow 338 = .ok (.dup, 1) := by decide +kernel
theorem dX9_readRow_339 : decode cX9_readRow 339 = .ok (.getfield 86, 3) := by decide +kernel
theorem dX9_readRow_342 : decode cX9_readRow 342 = .ok (.iconst 1, 1) := by decide +kernel
theorem dX9_readRow_343 : decode cX9_readRow 343 = .ok (.iadd, 1) := by decide +kernel
theorem dX9_readRow_344 : decode cX9_readRow 344 = .ok (.putfield 86, 3) := by decide +kernel
theorem dX9_readRow_347 : decode cX9_readRow 347 = .ok (.aload_n 0, 1) := by decide +kernel
theorem dX9_readRow_348 : decode cX9_readRow 348 = .ok (.dup, 1) := by decide +kernel
theorem dX9_readRow_349 : decode cX9_readRow 349 = .ok (.getfield 136, 3) := by decide +kernel
theorem dX9_readRow_352 : decode cX9_readRow 352 = .ok (.iconst 1, 1) := by decide +kernel
theorem dX9_readRow_353 : decode cX9_readRow 353 = .ok (.iadd, 1) := by decide +kernel
theorem dX9_readRow_354 : decode cX9_readRow 354 = .ok (.putfield 136, 3) := by decide +kernel
theorem dX9_readRow_357 : decode cX9_readRow 357 = .ok (.iconst 1, 1) := by decide +kernel
theorem dX9_readRow_358 : decode cX9_readRow 358 = .ok (.ireturn, 1) := by decide +kernel
set_option maxRecDepth 20000 in
theorem ggX9_read_X9_cut : GoodIn wsX9_read wsX9_cut := goodIn_r _ [16, 5, 1, 17, 18, 19, 20, 21, 15, 22, 82, 83, 84, 85, 86, 87, 88, 89, 90, 91, 92, 93, 94, 95, 96, 97, 98, 99, 100, 101, 102, 103, 104, 105, 106, 107, 108, 109, 110, 111, 112, 113] (by decide +kernel) (by decide +kernel)
set_option maxRecDepth 20000 in
theorem gX9_read_X9_cut : GoodIn wsX9_read (wsV RX9 142 RX9 yX9_cut wsX9_cut) := goodIn_app (goodIn_of _ (by decide +kernel)) ggX9_read_X9_cut
set_option maxRecDepth 20000 in
theorem ggX9_read_X9_is : GoodIn wsX9_read wsX9_is := goodIn_r _ [26, 27, 28, 29, 15, 30, 2, 5, 19, 18, 31, 32, 33, 34, 17, 82, 83, 84, 85, 86, 87, 88, 89, 90, 91, 92, 93, 94, 95, 96, 97, 98, 99, 100, 101, 102, 103, 104, 105, 106, 107, 108, 109, 110, 111, 112, 113] (by decide +kernel) (by decide +kernel)
set_option maxRecDepth 20000 in
theorem gX9_read_X9_is : GoodIn wsX9_read (wsV RX9 110 RX9 yX9_is wsX9_is) := goodIn_app (goodIn_of _ (by decide +kernel)) ggX9_read_X9_is
set_option maxRecDepth 20000 in
theorem ggX9_read_X9_readRow : GoodIn wsX9_read wsX9_readRow := goodIn_r _ [38, 6, 4, 2, 39, 40, 41, 42, 43, 44, 45, 46, 47, 48, 49, 15, 50, 31, 32, 33, 34, 5, 18, 19, 17, 51, 52, 53, 54, 27, 28, 29, 30, 23, 24, 25, 26, 55, 56, 57, 58, 59, 60, 61, 62, 63, 64, 65, 3, 66, 67, 68, 69, 70, 71, 72, 73, 74, 75, 76, 77, 78, 79, 80, 81, 82, 83, 84, 85, 86, 87, 88, 89, 90, 91, 92, 93, 94, 95, 96, 97, 98, 99, 100, 101, 102, 103, 104, 105, 106, 107, 108, 109, 110, 111, 112, 113] (by decide +kernel) (by decide +kernel)
set_option maxRecDepth 20000 in
theorem gX9_read_X9_readRow : GoodIn wsX9_read (wsV RX9 145 RX9 yX9_readRow wsX9_readRow) := goodIn_app (goodIn_of _ (by decide +kernel)) ggX9_read_X9_readRow
theorem dX9_read_0 : decode cX9_read 0 = .ok (.aload_n 0, 1) := by decide +kernel
theorem dX9_read_1 : decode cX9_read 1 = .ok (.invokevirtual 142, 3) := by decide +kernel
theorem dX9_read_4 : decode cX9_read 4 = .ok (.aload_n 0, 1) := by decide +kernel
theorem dX9_read_5 : decode cX9_read 5 = .ok (.iconst 0, 1) := by decide +kernel
theorem dX9_read_6 : decode cX9_read 6 = .ok (.putfield 75, 3) := by decide +kernel
theorem dX9_read_9 : decode cX9_read 9 = .ok (.aload_n 0, 1) := by decide +kernel
theorem dX9_read_10 : decode cX9_read 10 = .ok (.iconst 0, 1) := by decide +kernel
theorem dX9_read_11 : decode cX9_read 11 = .ok (.putfield 86, 3) := by decide +kernel
theorem dX9_read_14 : decode cX9_read 14 = .ok (.aload_n 0, 1) := by decide +kernel
theorem dX9_read_15 : decode cX9_read 15 = .ok (.iconst 0, 1) := by decide +kernel
theorem dX9_read_16 : decode cX9_read 16 = .ok (.putfield 104, 3) := by decide +kernel
theorem dX9_read_19 : decode cX9_read 19 = .ok (.aload_n 0, 1) := by decide +kernel
theorem dX9_read_20 : decode cX9_read 20 = .ok (.iconst 0, 1) := by decide +kernel
theorem dX9_read_21 : decode cX9_read 21 = .ok (.putfield 136, 3) := by decide +kernel
theorem dX9_read_24 : decode cX9_read 24 = .ok (.iconst 1, 1) := by decide +kernel
theorem dX9_read_25 : decode cX9_read 25 = .ok (.istore_n 1, 1) := by decide +kernel
theorem dX9_read_26 : decode cX9_read 26 = .ok (.iload_n 1, 1) := by decide +kernel
theorem dX9_read_27 : decode cX9_read 27 = .ok (.ifCond .eq 57, 3) := by decide +kernel
theorem dX9_read_30 : decode cX9_read 30 = .ok (.aload_n 0, 1) := by decide +kernel
theorem dX9_read_31 : decode cX9_read 31 = .ok (.getfield 86, 3) := by decide +kernel
theorem dX9_read_34 : decode cX9_read 34 = .ok (.aload_n 0, 1) := by decide +kernel
theorem dX9_read_35 : decode cX9_read 35 = .ok (.getfield 79, 3) := by decide +kernel
theorem dX9_read_38 : decode cX9_read 38 = .ok (.if_icmp .ge 46, 3) := by decide +kernel
theorem dX9_read_41 : decode cX9_read 41 = .ok (.aload_n 0, 1) := by decide +kernel
theorem dX9_read_42 : decode cX9_read 42 = .ok (.bipush 98, 2) := by decide +kernel
theorem dX9_read_44 : decode cX9_read 44 = .ok (.bipush 97, 2) := by decide +kernel
theorem dX9_read_46 : decode cX9_read 46 = .ok (.bipush 114, 2) := by decide +kernel
theorem dX9_read_48 : decode cX9_read 48 = .ok (.iconst 0, 1) := by decide +kernel
theorem dX9_read_49 : decode cX9_read 49 = .ok (.iconst 0, 1) := by decide +kernel
theorem dX9_read_50 : decode cX9_read 50 = .ok (.iconst 0, 1) := by decide +kernel
theorem dX9_read_51 : decode cX9_read 51 = .ok (.iconst 0, 1) := by decide +kernel
theorem dX9_read_52 : decode cX9_read 52 = .ok (.iconst 3, 1) := by decide +kernel
theorem dX9_read_53 : decode cX9_read 53 = .ok (.invokevirtual 110, 3) := by decide +kernel
theorem dX9_read_56 : decode cX9_read 56 = .ok (.ifCond .eq 23, 3) := by decide +kernel
theorem dX9_read_59 : decode cX9_read 59 = .ok (.aload_n 0, 1) := by decide +kernel
theorem dX9_read_60 : decode cX9_read 60 = .ok (.getfield 136, 3) := by decide +kernel
theorem dX9_read_63 : decode cX9_read 63 = .ok (.bipush 40, 2) := by decide +kernel
theorem dX9_read_65 : decode cX9_read 65 = .ok (.if_icmp .ge 14, 3) := by decide +kernel
theorem dX9_read_68 : decode cX9_read 68 = .ok (.aload_n 0, 1) := by decide +kernel
theorem dX9_read_69 : decode cX9_read 69 = .ok (.invokevirtual 145, 3) := by decide +kernel
theorem dX9_read_72 : decode cX9_read 72 = .ok (.ifCond .eq 7, 3) := by decide +kernel
theorem dX9_read_75 : decode cX9_read 75 = .ok (.iconst 1, 1) := by decide +kernel
theorem dX9_read_76 : decode cX9_read 76 = .ok (.goto 4, 3) := by decide +kernel
theorem dX9_read_79 : decode cX9_read 79 = .ok (.iconst 0, 1) := by decide +kernel
theorem dX9_read_80 : decode cX9_read 80 = .ok (.istore_n 1, 1) := by decide +kernel
theorem dX9_read_81 : decode cX9_read 81 = .ok (.goto (-55), 3) := by decide +kernel
theorem dX9_read_84 : decode cX9_read 84 = .ok (.iload_n 1, 1) := by decide +kernel
theorem dX9_read_85 : decode cX9_read 85 = .ok (.ifCond .ne 10, 3) := by decide +kernel
theorem dX9_read_88 : decode cX9_read 88 = .ok (.iconst (-1), 1) := by decide +kernel
theorem dX9_read_89 : decode cX9_read 89 = .ok (.aload_n 0, 1) := by decide +kernel
theorem dX9_read_90 : decode cX9_read 90 = .ok (.getfield 86, 3) := by decide +kernel
theorem dX9_read_93 : decode cX9_read 93 = .ok (.isub, 1) := by decide +kernel
theorem dX9_read_94 : decode cX9_read 94 = .ok (.ireturn, 1) := by decide +kernel
theorem dX9_read_95 : decode cX9_read 95 = .ok (.aload_n 0, 1) := by decide +kernel
theorem dX9_read_96 : decode cX9_read 96 = .ok (.iconst 1, 1) := by decide +kernel
theorem dX9_read_97 : decode cX9_read 97 = .ok (.aload_n 0, 1) := by decide +kernel
theorem dX9_read_98 : decode cX9_read 98 = .ok (.getfield 101, 3) := by decide +kernel
theorem dX9_read_101 : decode cX9_read 101 = .ok (.isub, 1) := by decide +kernel
theorem dX9_read_102 : decode cX9_read 102 = .ok (.putfield 101, 3) := by decide +kernel
theorem dX9_read_105 : decode cX9_read 105 = .ok (.aload_n 0, 1) := by decide +kernel
theorem dX9_read_106 : decode cX9_read 106 = .ok (.aload_n 0, 1) := by decide +kernel
theorem dX9_read_107 : decode cX9_read 107 = .ok (.getfield 136, 3) := by decide +kernel
theorem dX9_read_110 : decode cX9_read 110 = .ok (.putfield 149, 3) := by decide +kernel
theorem dX9_read_113 : decode cX9_read 113 = .ok (.aload_n 0, 1) := by decide +kernel
theorem dX9_read_114 : decode cX9_read 114 = .ok (.iconst 0, 1) := by decide +kernel
theorem dX9_read_115 : decode cX9_read 115 = .ok (.putfield 152, 3) := by decide +kernel
theorem dX9_read_118 : decode cX9_read 118 = .ok (.iconst 0, 1) := by decide +kernel
theorem dX9_read_119 : decode cX9_read 119 = .ok (.istore_n 2, 1) := by decide +kernel
theorem dX9_read_120 : decode cX9_read 120 = .ok (.iload_n 2, 1) := by decide +kernel
theorem dX9_read_121 : decode cX9_read 121 = .ok (.aload_n 0, 1) := by decide +kernel
theorem dX9_read_122 : decode cX9_read 122 = .ok (.getfield 149, 3) := by decide +kernel
theorem dX9_read_125 : decode cX9_read 125 = .ok (.if_icmp .ge 30, 3) := by decide +kernel
theorem dX9_read_128 : decode cX9_read 128 = .ok (.aload_n 0, 1) := by decide +kernel
theorem dX9_read_129 : decode cX9_read 129 = .ok (.getfield 48, 3) := by decide +kernel
theorem dX9_read_132 : decode cX9_read 132 = .ok (.iload_n 2, 1) := by decide +kernel
theorem dX9_read_133 : decode cX9_read 133 = .ok (.iconst 0, 1) := by decide +kernel
theorem dX9_read_134 : decode cX9_read 134 = .ok (.iastore, 1) := by decide +kernel
theorem dX9_read_135 : decode cX9_read 135 = .ok (.aload_n 0, 1) := by decide +kernel
theorem dX9_read_136 : decode cX9_read 136 = .ok (.getfield 51, 3) := by decide +kernel
theorem dX9_read_139 : decode cX9_read 139 = .ok (.iload_n 2, 1) := by decide +kernel
theorem dX9_read_140 : decode cX9_read 140 = .ok (.iconst 0, 1) := by decide +kernel
theorem dX9_read_141 : decode cX9_read 141 = .ok (.bastore, 1) := by decide +kernel
theorem dX9_read_142 : decode cX9_read 142 = .ok (.aload_n 0, 1) := by decide +kernel
theorem dX9_read_143 : decode cX9_read 143 = .ok (.getfield 54, 3) := by decide +kernel
theorem dX9_read_146 : decode cX9_read 146 = .ok (.iload_n 2, 1) := by decide +kernel
theorem dX9_read_147 : decode cX9_read 147 = .ok (.iconst 0, 1) := by decide +kernel
theorem dX9_read_148 : decode cX9_read 148 = .ok (.iastore, 1) := by decide +kernel
theorem dX9_read_149 : decode cX9_read 149 = .ok (.iinc 2 1, 3) := by decide +kernel
theorem dX9_read_152 : decode cX9_read 152 = .ok (.goto (-32), 3) := by decide +kernel
theorem dX9_read_155 : decode cX9_read 155 = .ok (.aload_n 0, 1) := by decide +kernel
theorem dX9_read_156 : decode cX9_read 156 = .ok (.getfield 149, 3) := by decide +kernel
theorem dX9_read_159 : decode cX9_read 159 = .ok (.ireturn, 1) := by decide +kernel
theorem dX9_condition_0 : decode cX9_condition 0 = .ok (.iload_n 1, 1) := by decide +kernel
theorem dX9_condition_1 : decode cX9_condition 1 = .ok (.ifCond .lt 30, 3) := by decide +kernel
theorem dX9_condition_4 : decode cX9_condition 4 = .ok (.iload_n 1, 1) := by decide +kernel
theorem dX9_condition_5 : decode cX9_condition 5 = .ok (.bipush 15, 2) := by decide +kernel
theorem dX9_condition_7 : decode cX9_condition 7 = .ok (.if_icmp .gt 24, 3) := by decide +kernel
theorem dX9_condition_10 : decode cX9_condition 10 = .ok (.aload_n 0, 1) := by decide +kernel
theorem dX9_condition_11 : decode cX9_condition 11 = .ok (.getfield 156, 3) := by decide +kernel
theorem dX9_condition_14 : decode cX9_condition 14 = .ok (.iload_n 1, 1) := by decide +kernel
theorem dX9_condition_15 : decode cX9_condition 15 = .ok (.ishr, 1) := by decide +kernel
theorem dX9_condition_16 : decode cX9_condition 16 = .ok (.iconst 1, 1) := by decide +kernel
theorem dX9_condition_17 : decode cX9_condition 17 = .ok (.iand, 1) := by decide +kernel
theorem dX9_condition_18 : decode cX9_condition 18 = .ok (.iconst 1, 1) := by decide +kernel
theorem dX9_condition_19 : decode cX9_condition 19 = .ok (.if_icmp .ne 7, 3) := by decide +kernel
theorem dX9_condition_22 : decode cX9_condition 22 = .ok (.iconst 1, 1) := by decide +kernel
theorem dX9_condition_23 : decode cX9_condition 23 = .ok (.goto 4, 3) := by decide +kernel
theorem dX9_condition_26 : decode cX9_condition 26 = .ok (.iconst 0, 1) := by decide +kernel
theorem dX9_condition_27 : decode cX9_condition 27 = .ok (.iload_n 2, 1) := by decide +kernel
theorem dX9_condition_28 : decode cX9_condition 28 = .ok (.if_icmp .ne 5, 3) := by decide +kernel
theorem dX9_condition_31 : decode cX9_condition 31 = .ok (.iconst 0, 1) := by decide +kernel
theorem dX9_condition_32 : decode cX9_condition 32 = .ok (.ireturn, 1) := by decide +kernel
theorem dX9_condition_33 : decode cX9_condition 33 = .ok (.aload_n 0, 1) := by decide +kernel
theorem dX9_condition_34 : decode cX9_condition 34 = .ok (.dup, 1) := by decide +kernel
theorem dX9_condition_35 : decode cX9_condition 35 = .ok (.getfield 156, 3) := by decide +kernel
theorem dX9_condition_38 : decode cX9_condition 38 = .ok (.iconst 1, 1) := by decide +kernel
theorem dX9_condition_39 : decode cX9_condition 39 = .ok (.iload_n 1, 1) := by decide +kernel
theorem dX9_condition_40 : decode cX9_condition 40 = .ok (.ishl, 1) := by decide +kernel
theorem dX9_condition_41 : decode cX9_condition 41 = .ok (.ixor, 1) := by decide +kernel
theorem dX9_condition_42 : decode cX9_condition 42 = .ok (.putfield 156, 3) := by decide +kernel
theorem dX9_condition_45 : decode cX9_condition 45 = .ok (.iconst 1, 1) := by decide +kernel
theorem dX9_condition_46 : decode cX9_condition 46 = .ok (.ireturn, 1) := by decide +kernel
set_option maxRecDepth 20000 in
theorem ggX9_value_X9_value : GoodIn wsX9_value wsX9_value := goodIn_r _ [0, 1, 2, 3, 4, 5, 6, 7, 8, 9, 10, 11, 12, 13, 14, 15, 16, 17, 18, 19, 20, 21, 22, 23, 24, 25, 26, 27, 28, 29, 30, 31, 32, 33, 34, 35, 36, 37, 38, 39, 40] (by decide +kernel) (by decide +kernel)
set_option maxRecDepth 20000 in
theorem gX9_value_X9_value : GoodIn wsX9_value (wsV RX9 159 RX9 yX9_value wsX9_value) := goodIn_app (goodIn_of _ (by decide +kernel)) ggX9_value_X9_value
theorem dX9_value_0 : decode cX9_value 0 = .ok (.aload_n 0, 1) := by decide +kernel
theorem dX9_value_1 : decode cX9_value 1 = .ok (.getfield 20, 3) := by decide +kernel
theorem dX9_value_4 : decode cX9_value 4 = .ok (.iload_n 1, 1) := by decide +kernel
theorem dX9_value_5 : decode cX9_value 5 = .ok (.iaload, 1) := by decide +kernel
theorem dX9_value_6 : decode cX9_value 6 = .ok (.tableswitch 109 16 18 #[26, 45, 77], 26) := by decide +kernel
theorem dX9_value_32 : decode cX9_value 32 = .ok (.aload_n 0, 1) := by decide +kernel
theorem dX9_value_33 : decode cX9_value 33 = .ok (.aload_n 0, 1) := by decide +kernel
theorem dX9_value_34 : decode cX9_value 34 = .ok (.getfield 23, 3) := by decide +kernel
theorem dX9_value_37 : decode cX9_value 37 = .ok (.iload_n 1, 1) := by decide +kernel
theorem dX9_value_38 : decode cX9_value 38 = .ok (.iaload, 1) := by decide +kernel
theorem dX9_value_39 : decode cX9_value 39 = .ok (.invokevirtual 159, 3) := by decide +kernel
theorem dX9_value_42 : decode cX9_value 42 = .ok (.ifCond .ne 7, 3) := by decide +kernel
theorem dX9_value_45 : decode cX9_value 45 = .ok (.iconst 1, 1) := by decide +kernel
theorem dX9_value_46 : decode cX9_value 46 = .ok (.goto 4, 3) := by decide +kernel
theorem dX9_value_49 : decode cX9_value 49 = .ok (.iconst 0, 1) := by decide +kernel
theorem dX9_value_50 : decode cX9_value 50 = .ok (.ireturn, 1) := by decide +kernel
theorem dX9_value_51 : decode cX9_value 51 = .ok (.aload_n 0, 1) := by decide +kernel
theorem dX9_value_52 : decode cX9_value 52 = .ok (.aload_n 0, 1) := by decide +kernel
theorem dX9_value_53 : decode cX9_value 53 = .ok (.getfield 23, 3) := by decide +kernel
theorem dX9_value_56 : decode cX9_value 56 = .ok (.iload_n 1, 1) := by decide +kernel
theorem dX9_value_57 : decode cX9_value 57 = .ok (.iaload, 1) := by decide +kernel
theorem dX9_value_58 : decode cX9_value 58 = .ok (.invokevirtual 159, 3) := by decide +kernel
theorem dX9_value_61 : decode cX9_value 61 = .ok (.ifCond .eq 20, 3) := by decide +kernel
theorem dX9_value_64 : decode cX9_value 64 = .ok (.aload_n 0, 1) := by decide +kernel
theorem dX9_value_65 : decode cX9_value 65 = .ok (.aload_n 0, 1) := by decide +kernel
theorem dX9_value_66 : decode cX9_value 66 = .ok (.getfield 26, 3) := by decide +kernel
theorem dX9_value_69 : decode cX9_value 69 = .ok (.iload_n 1, 1) := by decide +kernel
theorem dX9_value_70 : decode cX9_value 70 = .ok (.iaload, 1) := by decide +kernel
theorem dX9_value_71 : decode cX9_value 71 = .ok (.invokevirtual 159, 3) := by decide +kernel
theorem dX9_value_74 : decode cX9_value 74 = .ok (.ifCond .eq 7, 3) := by decide +kernel
theorem dX9_value_77 : decode cX9_value 77 = .ok (.iconst 1, 1) := by decide +kernel
theorem dX9_value_78 : decode cX9_value 78 = .ok (.goto 4, 3) := by decide +kernel
theorem dX9_value_81 : decode cX9_value 81 = .ok (.iconst 0, 1) := by decide +kernel
theorem dX9_value_82 : decode cX9_value 82 = .ok (.ireturn, 1) := by decide +kernel
theorem dX9_value_83 : decode cX9_value 83 = .ok (.aload_n 0, 1) := by decide +kernel
theorem dX9_value_84 : decode cX9_value 84 = .ok (.aload_n 0, 1) := by decide +kernel
theorem dX9_value_85 : decode cX9_value 85 = .ok (.getfield 23, 3) := by decide +kernel
theorem dX9_value_88 : decode cX9_value 88 = .ok (.iload_n 1, 1) := by decide +kernel
theorem dX9_value_89 : decode cX9_value 89 = .ok (.iaload, 1) := by decide +kernel
theorem dX9_value_90 : decode cX9_value 90 = .ok (.invokevirtual 159, 3) := by decide +kernel
theorem dX9_value_93 : decode cX9_value 93 = .ok (.ifCond .ne 16, 3) := by decide +kernel
theorem dX9_value_96 : decode cX9_value 96 = .ok (.aload_n 0, 1) := by decide +kernel
theorem dX9_value_97 : decode cX9_value 97 = .ok (.aload_n 0, 1) := by decide +kernel
theorem dX9_value_98 : decode cX9_value 98 = .ok (.getfield 26, 3) := by decide +kernel
theorem dX9_value_101 : decode cX9_value 101 = .ok (.iload_n 1, 1) := by decide +kernel
theorem dX9_value_102 : decode cX9_value 102 = .ok (.iaload, 1) := by decide +kernel
theorem dX9_value_103 : decode cX9_value 103 = .ok (.invokevirtual 159, 3) := by decide +kernel
theorem dX9_value_106 : decode cX9_value 106 = .ok (.ifCond .eq 7, 3) := by decide +kernel
theorem dX9_value_109 : decode cX9_value 109 = .ok (.iconst 1, 1) := by decide +kernel
theorem dX9_value_110 : decode cX9_value 110 = .ok (.goto 4, 3) := by decide +kernel
theorem dX9_value_113 : decode cX9_value 113 = .ok (.iconst 0, 1) := by decide +kernel
theorem dX9_value_114 : decode cX9_value 114 = .ok (.ireturn, 1) := by decide +kernel
theorem dX9_value_115 : decode cX9_value 115 = .ok (.aload_n 0, 1) := by decide +kernel
theorem dX9_value_116 : decode cX9_value 116 = .ok (.getfield 156, 3) := by decide +kernel
theorem dX9_value_119 : decode cX9_value 119 = .ok (.aload_n 0, 1) := by decide +kernel
theorem dX9_value_120 : decode cX9_value 120 = .ok (.getfield 20, 3) := by decide +kernel
theorem dX9_value_123 : decode cX9_value 123 = .ok (.iload_n 1, 1) := by decide +kernel
theorem dX9_value_124 : decode cX9_value 124 = .ok (.iaload, 1) := by decide +kernel
theorem dX9_value_125 : decode cX9_value 125 = .ok (.ishr, 1) := by decide +kernel
theorem dX9_value_126 : decode cX9_value 126 = .ok (.iconst 1, 1) := by decide +kernel
theorem dX9_value_127 : decode cX9_value 127 = .ok (.iand, 1) := by decide +kernel
theorem dX9_value_128 : decode cX9_value 128 = .ok (.iconst 1, 1) := by decide +kernel
theorem dX9_value_129 : decode cX9_value 129 = .ok (.if_icmp .ne 7, 3) := by decide +kernel
theorem dX9_value_132 : decode cX9_value 132 = .ok (.iconst 1, 1) := by decide +kernel
theorem dX9_value_133 : decode cX9_value 133 = .ok (.goto 4, 3) := by decide +kernel
theorem dX9_value_136 : decode cX9_value 136 = .ok (.iconst 0, 1) := by decide +kernel
theorem dX9_value_137 : decode cX9_value 137 = .ok (.ireturn, 1) := by decide +kernel
set_option maxRecDepth 20000 in
theorem ggX9_isOn_X9_value : GoodIn wsX9_isOn wsX9_value := goodIn_r _ [7, 8, 9, 10, 11, 3, 4, 5, 6, 12, 13, 14, 15, 16, 17, 18, 19, 20, 21, 22, 23, 24, 25, 26, 27, 28, 29, 30, 31, 32, 33, 34, 35, 36, 37, 38, 39, 40, 41, 42, 43] (by decide +kernel) (by decide +kernel)
set_option maxRecDepth 20000 in
theorem gX9_isOn_X9_value : GoodIn wsX9_isOn (wsV RX9 159 RX9 yX9_value wsX9_value) := goodIn_app (goodIn_of _ (by decide +kernel)) ggX9_isOn_X9_value
theorem dX9_isOn_0 : decode cX9_isOn 0 = .ok (.aload_n 0, 1) := by decide +kernel
theorem dX9_isOn_1 : decode cX9_isOn 1 = .ok (.aload_n 0, 1) := by decide +kernel
theorem dX9_isOn_2 : decode cX9_isOn 2 = .ok (.getfield 29, 3) := by decide +kernel
theorem dX9_isOn_5 : decode cX9_isOn 5 = .ok (.bipush 40, 2) := by decide +kernel
theorem dX9_isOn_7 : decode cX9_isOn 7 = .ok (.aload_n 0, 1) := by decide +kernel
theorem dX9_isOn_8 : decode cX9_isOn 8 = .ok (.getfield 101, 3) := by decide +kernel
theorem dX9_isOn_11 : decode cX9_isOn 11 = .ok (.imul, 1) := by decide +kernel
theorem dX9_isOn_12 : decode cX9_isOn 12 = .ok (.iload_n 1, 1) := by decide +kernel
theorem dX9_isOn_13 : decode cX9_isOn 13 = .ok (.iadd, 1) := by decide +kernel
theorem dX9_isOn_14 : decode cX9_isOn 14 = .ok (.iaload, 1) := by decide +kernel
theorem dX9_isOn_15 : decode cX9_isOn 15 = .ok (.invokevirtual 159, 3) := by decide +kernel
theorem dX9_isOn_18 : decode cX9_isOn 18 = .ok (.ireturn, 1) := by decide +kernel
set_option maxRecDepth 20000 in
theorem ggX9_tick_X9_isOn : GoodIn wsX9_tick wsX9_isOn := goodIn_r _ [14, 15, 7, 16, 17, 18, 13, 19, 20, 21, 22, 23, 24, 25, 26, 27, 28, 29, 30, 31, 32, 33, 34, 35, 36, 37, 38, 39, 40, 41, 42, 43, 44, 45, 46, 47, 48, 49, 50, 51, 52, 53, 54, 55] (by decide +kernel) (by decide +kernel)
set_option maxRecDepth 20000 in
theorem gX9_tick_X9_isOn : GoodIn wsX9_tick (wsV RX9 163 RX9 yX9_isOn wsX9_isOn) := goodIn_app (goodIn_of _ (by decide +kernel)) ggX9_tick_X9_isOn
theorem dX9_tick_0 : decode cX9_tick 0 = .ok (.iload_n 1, 1) := by decide +kernel
theorem dX9_tick_1 : decode cX9_tick 1 = .ok (.ifCond .lt 9, 3) := by decide +kernel
theorem dX9_tick_4 : decode cX9_tick 4 = .ok (.iload_n 1, 1) := by decide +kernel
theorem dX9_tick_5 : decode cX9_tick 5 = .ok (.ldc 162, 2) := by decide +kernel
theorem dX9_tick_7 : decode cX9_tick 7 = .ok (.if_icmp .le 5, 3) := by decide +kernel
theorem dX9_tick_10 : decode cX9_tick 10 = .ok (.iconst 0, 1) := by decide +kernel
theorem dX9_tick_11 : decode cX9_tick 11 = .ok (.ireturn, 1) := by decide +kernel
theorem dX9_tick_12 : decode cX9_tick 12 = .ok (.iconst 0, 1) := by decide +kernel
theorem dX9_tick_13 : decode cX9_tick 13 = .ok (.istore_n 2, 1) := by decide +kernel
theorem dX9_tick_14 : decode cX9_tick 14 = .ok (.iload_n 2, 1) := by decide +kernel
theorem dX9_tick_15 : decode cX9_tick 15 = .ok (.aload_n 0, 1) := by decide +kernel
theorem dX9_tick_16 : decode cX9_tick 16 = .ok (.getfield 149, 3) := by decide +kernel
theorem dX9_tick_19 : decode cX9_tick 19 = .ok (.if_icmp .ge 145, 3) := by decide +kernel
theorem dX9_tick_22 : decode cX9_tick 22 = .ok (.iload_n 1, 1) := by decide +kernel
theorem dX9_tick_23 : decode cX9_tick 23 = .ok (.ifCond .le 141, 3) := by decide +kernel
theorem dX9_tick_26 : decode cX9_tick 26 = .ok (.aload_n 0, 1) := by decide +kernel
theorem dX9_tick_27 : decode cX9_tick 27 = .ok (.iload_n 2, 1) := by decide +kernel
theorem dX9_tick_28 : decode cX9_tick 28 = .ok (.invokevirtual 163, 3) := by decide +kernel
theorem dX9_tick_31 : decode cX9_tick 31 = .ok (.istore_n 3, 1) := by decide +kernel
theorem dX9_tick_32 : decode cX9_tick 32 = .ok (.aload_n 0, 1) := by decide +kernel
theorem dX9_tick_33 : decode cX9_tick 33 = .ok (.getfield 48, 3) := by decide +kernel
theorem dX9_tick_36 : decode cX9_tick 36 = .ok (.iload_n 2, 1) := by decide +kernel
theorem dX9_tick_37 : decode cX9_tick 37 = .ok (.iload_n 3, 1) := by decide +kernel
theorem dX9_tick_38 : decode cX9_tick 38 = .ok (.ifCond .ne 7, 3) := by decide +kernel
theorem dX9_tick_41 : decode cX9_tick 41 = .ok (.iconst 0, 1) := by decide +kernel
theorem dX9_tick_42 : decode cX9_tick 42 = .ok (.goto 29, 3) := by decide +kernel
theorem dX9_tick_45 : decode cX9_tick 45 = .ok (.aload_n 0, 1) := by decide +kernel
theorem dX9_tick_46 : decode cX9_tick 46 = .ok (.getfield 48, 3) := by decide +kernel
theorem dX9_tick_49 : decode cX9_tick 49 = .ok (.iload_n 2, 1) := by decide +kernel
theorem dX9_tick_50 : decode cX9_tick 50 = .ok (.iaload, 1) := by decide +kernel
theorem dX9_tick_51 : decode cX9_tick 51 = .ok (.iload_n 1, 1) := by decide +kernel
theorem dX9_tick_52 : decode cX9_tick 52 = .ok (.iadd, 1) := by decide +kernel
theorem dX9_tick_53 : decode cX9_tick 53 = .ok (.ldc 166, 2) := by decide +kernel
theorem dX9_tick_55 : decode cX9_tick 55 = .ok (.if_icmp .le 8, 3) := by decide +kernel
theorem dX9_tick_58 : decode cX9_tick 58 = .ok (.ldc 166, 2) := by decide +kernel
theorem dX9_tick_60 : decode cX9_tick 60 = .ok (.goto 11, 3) := by decide +kernel
theorem dX9_tick_63 : decode cX9_tick 63 = .ok (.aload_n 0, 1) := by decide +kernel
theorem dX9_tick_64 : decode cX9_tick 64 = .ok (.getfield 48, 3) := by decide +kernel
theorem dX9_tick_67 : decode cX9_tick 67 = .ok (.iload_n 2, 1) := by decide +kernel
theorem dX9_tick_68 : decode cX9_tick 68 = .ok (.iaload, 1) := by decide +kernel
theorem dX9_tick_69 : decode cX9_tick 69 = .ok (.iload_n 1, 1) := by decide +kernel
theorem dX9_tick_70 : decode cX9_tick 70 = .ok (.iadd, 1) := by decide +kernel
theorem dX9_tick_71 : decode cX9_tick 71 = .ok (.iastore, 1) := by decide +kernel
theorem dX9_tick_72 : decode cX9_tick 72 = .ok (.aload_n 0, 1) := by decide +kernel
theorem dX9_tick_73 : decode cX9_tick 73 = .ok (.getfield 51, 3) := by decide +kernel
theorem dX9_tick_76 : decode cX9_tick 76 = .ok (.iload_n 2, 1) := by decide +kernel
theorem dX9_tick_77 : decode cX9_tick 77 = .ok (.dup2, 1) := by decide +kernel
theorem dX9_tick_78 : decode cX9_tick 78 = .ok (.baload, 1) := by decide +kernel
theorem dX9_tick_79 : decode cX9_tick 79 = .ok (.iload_n 3, 1) := by decide +kernel
theorem dX9_tick_80 : decode cX9_tick 80 = .ok (.ifCond .eq 47, 3) := by decide +kernel
theorem dX9_tick_83 : decode cX9_tick 83 = .ok (.aload_n 0, 1) := by decide +kernel
theorem dX9_tick_84 : decode cX9_tick 84 = .ok (.getfield 41, 3) := by decide +kernel
theorem dX9_tick_87 : decode cX9_tick 87 = .ok (.bipush 40, 2) := by decide +kernel
theorem dX9_tick_89 : decode cX9_tick 89 = .ok (.aload_n 0, 1) := by decide +kernel
theorem dX9_tick_90 : decode cX9_tick 90 = .ok (.getfield 101, 3) := by decide +kernel
theorem dX9_tick_93 : decode cX9_tick 93 = .ok (.imul, 1) := by decide +kernel
theorem dX9_tick_94 : decode cX9_tick 94 = .ok (.iload_n 2, 1) := by decide +kernel
theorem dX9_tick_95 : decode cX9_tick 95 = .ok (.iadd, 1) := by decide +kernel
theorem dX9_tick_96 : decode cX9_tick 96 = .ok (.baload, 1) := by decide +kernel
theorem dX9_tick_97 : decode cX9_tick 97 = .ok (.ifCond .eq 30, 3) := by decide +kernel
theorem dX9_tick_100 : decode cX9_tick 100 = .ok (.aload_n 0, 1) := by decide +kernel
theorem dX9_tick_101 : decode cX9_tick 101 = .ok (.getfield 48, 3) := by decide +kernel
theorem dX9_tick_104 : decode cX9_tick 104 = .ok (.iload_n 2, 1) := by decide +kernel
theorem dX9_tick_105 : decode cX9_tick 105 = .ok (.iaload, 1) := by decide +kernel
theorem dX9_tick_106 : decode cX9_tick 106 = .ok (.aload_n 0, 1) := by decide +kernel
theorem dX9_tick_107 : decode cX9_tick 107 = .ok (.getfield 38, 3) := by decide +kernel
theorem dX9_tick_110 : decode cX9_tick 110 = .ok (.bipush 40, 2) := by decide +kernel
theorem dX9_tick_112 : decode cX9_tick 112 = .ok (.aload_n 0, 1) := by decide +kernel
theorem dX9_tick_113 : decode cX9_tick 113 = .ok (.getfield 101, 3) := by decide +kernel
theorem dX9_tick_116 : decode cX9_tick 116 = .ok (.imul, 1) := by decide +kernel
theorem dX9_tick_117 : decode cX9_tick 117 = .ok (.iload_n 2, 1) := by decide +kernel
theorem dX9_tick_118 : decode cX9_tick 118 = .ok (.iadd, 1) := by decide +kernel
theorem dX9_tick_119 : decode cX9_tick 119 = .ok (.iaload, 1) := by decide +kernel
theorem dX9_tick_120 : decode cX9_tick 120 = .ok (.if_icmp .lt 7, 3) := by decide +kernel
theorem dX9_tick_123 : decode cX9_tick 123 = .ok (.iconst 1, 1) := by decide +kernel
theorem dX9_tick_124 : decode cX9_tick 124 = .ok (.goto 4, 3) := by decide +kernel
theorem dX9_tick_127 : decode cX9_tick 127 = .ok (.iconst 0, 1) := by decide +kernel
theorem dX9_tick_128 : decode cX9_tick 128 = .ok (.ior, 1) := by decide +kernel
theorem dX9_tick_129 : decode cX9_tick 129 = .ok (.bastore, 1) := by decide +kernel
theorem dX9_tick_130 : decode cX9_tick 130 = .ok (.aload_n 0, 1) := by decide +kernel
theorem dX9_tick_131 : decode cX9_tick 131 = .ok (.getfield 54, 3) := by decide +kernel
theorem dX9_tick_134 : decode cX9_tick 134 = .ok (.iload_n 2, 1) := by decide +kernel
theorem dX9_tick_135 : decode cX9_tick 135 = .ok (.aload_n 0, 1) := by decide +kernel
theorem dX9_tick_136 : decode cX9_tick 136 = .ok (.getfield 54, 3) := by decide +kernel
theorem dX9_tick_139 : decode cX9_tick 139 = .ok (.iload_n 2, 1) := by decide +kernel
theorem dX9_tick_140 : decode cX9_tick 140 = .ok (.iaload, 1) := by decide +kernel
theorem dX9_tick_141 : decode cX9_tick 141 = .ok (.iload_n 1, 1) := by decide +kernel
theorem dX9_tick_142 : decode cX9_tick 142 = .ok (.if_icmp .le 14, 3) := by decide +kernel
theorem dX9_tick_145 : decode cX9_tick 145 = .ok (.aload_n 0, 1) := by decide +kernel
theorem dX9_tick_146 : decode cX9_tick 146 = .ok (.getfield 54, 3) := by decide +kernel
theorem dX9_tick_149 : decode cX9_tick 149 = .ok (.iload_n 2, 1) := by decide +kernel
theorem dX9_tick_150 : decode cX9_tick 150 = .ok (.iaload, 1) := by decide +kernel
theorem dX9_tick_151 : decode cX9_tick 151 = .ok (.iload_n 1, 1) := by decide +kernel
theorem dX9_tick_152 : decode cX9_tick 152 = .ok (.isub, 1) := by decide +kernel
theorem dX9_tick_153 : decode cX9_tick 153 = .ok (.goto 4, 3) := by decide +kernel
theorem dX9_tick_156 : decode cX9_tick 156 = .ok (.iconst 0, 1) := by decide +kernel
theorem dX9_tick_157 : decode cX9_tick 157 = .ok (.iastore, 1) := by decide +kernel
theorem dX9_tick_158 : decode cX9_tick 158 = .ok (.iinc 2 1, 3) := by decide +kernel
theorem dX9_tick_161 : decode cX9_tick 161 = .ok (.goto (-147), 3) := by decide +kernel
theorem dX9_tick_164 : decode cX9_tick 164 = .ok (.iconst 1, 1) := by decide +kernel
theorem dX9_tick_165 : decode cX9_tick 165 = .ok (.ireturn, 1) := by decide +kernel
set_option maxRecDepth 20000 in
theorem ggX9_act__X9_isOn : GoodIn wsX9_act_ wsX9_isOn := goodIn_r _ [11, 12, 6, 13, 14, 15, 10, 16, 17, 18, 19, 20, 27, 28, 29, 30, 31, 32, 33, 34, 35, 36, 37, 38, 39, 40, 41, 42, 43, 44, 45, 46, 47, 48, 49, 50, 51, 52, 53, 54, 55, 56, 57, 58] (by decide +kernel) (by decide +kernel)
set_option maxRecDepth 20000 in
theorem gX9_act__X9_isOn : GoodIn wsX9_act_ (wsV RX9 163 RX9 yX9_isOn wsX9_isOn) := goodIn_app (goodIn_of _ (by decide +kernel)) ggX9_act__X9_isOn
set_option maxRecDepth 20000 in
theorem ggX9_act__X9_hasAct : GoodIn wsX9_act_ wsX9_hasAct := goodIn_r _ [24, 6, 25, 26, 27, 28, 29, 30, 31, 32, 33, 34, 35, 36, 37, 38, 39, 40, 41, 42, 43, 44, 45, 46, 47, 48, 49, 50, 51, 52, 53, 54, 55, 56, 57, 58] (by decide +kernel) (by decide +kernel)
set_option maxRecDepth 20000 in
theorem gX9_act__X9_hasAct : GoodIn wsX9_act_ (wsV RX9 167 RX9 yX9_hasAct wsX9_hasAct) := goodIn_app (goodIn_of _ (by decide +kernel)) ggX9_act__X9_hasAct
theorem dX9_act__0 : decode cX9_act_ 0 = .ok (.iload_n 1, 1) := by decide +kernel
theorem dX9_act__1 : decode cX9_act_ 1 = .ok (.ifCond .lt 9, 3) := by decide +kernel
theorem dX9_act__4 : decode cX9_act_ 4 = .ok (.iload_n 1, 1) := by decide +kernel
theorem dX9_act__5 : decode cX9_act_ 5 = .ok (.bipush 31, 2) := by decide +kernel
theorem dX9_act__7 : decode cX9_act_ 7 = .ok (.if_icmp .le 5, 3) := by decide +kernel
theorem dX9_act__10 : decode cX9_act_ 10 = .ok (.iconst (-1), 1) := by decide +kernel
theorem dX9_act__11 : decode cX9_act_ 11 = .ok (.ireturn, 1) := by decide +kernel
theorem dX9_act__12 : decode cX9_act_ 12 = .ok (.iconst 0, 1) := by decide +kernel
theorem dX9_act__13 : decode cX9_act_ 13 = .ok (.istore_n 2, 1) := by decide +kernel
theorem dX9_act__14 : decode cX9_act_ 14 = .ok (.iload_n 2, 1) := by decide +kernel
theorem dX9_act__15 : decode cX9_act_ 15 = .ok (.aload_n 0, 1) := by decide +kernel
theorem dX9_act__16 : decode cX9_act_ 16 = .ok (.getfield 149, 3) := by decide +kernel
theorem dX9_act__19 : decode cX9_act_ 19 = .ok (.if_icmp .ge 81, 3) := by decide +kernel
theorem dX9_act__22 : decode cX9_act_ 22 = .ok (.aload_n 0, 1) := by decide +kernel
theorem dX9_act__23 : decode cX9_act_ 23 = .ok (.getfield 54, 3) := by decide +kernel
theorem dX9_act__26 : decode cX9_act_ 26 = .ok (.iload_n 2, 1) := by decide +kernel
theorem dX9_act__27 : decode cX9_act_ 27 = .ok (.iaload, 1) := by decide +kernel
theorem dX9_act__28 : decode cX9_act_ 28 = .ok (.ifCond .ne 47, 3) := by decide +kernel
theorem dX9_act__31 : decode cX9_act_ 31 = .ok (.aload_n 0, 1) := by decide +kernel
theorem dX9_act__32 : decode cX9_act_ 32 = .ok (.getfield 51, 3) := by decide +kernel
theorem dX9_act__35 : decode cX9_act_ 35 = .ok (.iload_n 2, 1) := by decide +kernel
theorem dX9_act__36 : decode cX9_act_ 36 = .ok (.baload, 1) := by decide +kernel
theorem dX9_act__37 : decode cX9_act_ 37 = .ok (.ifCond .ne 34, 3) := by decide +kernel
theorem dX9_act__40 : decode cX9_act_ 40 = .ok (.aload_n 0, 1) := by decide +kernel
theorem dX9_act__41 : decode cX9_act_ 41 = .ok (.iload_n 2, 1) := by decide +kernel
theorem dX9_act__42 : decode cX9_act_ 42 = .ok (.invokevirtual 163, 3) := by decide +kernel
theorem dX9_act__45 : decode cX9_act_ 45 = .ok (.ifCond .eq 30, 3) := by decide +kernel
theorem dX9_act__48 : decode cX9_act_ 48 = .ok (.aload_n 0, 1) := by decide +kernel
theorem dX9_act__49 : decode cX9_act_ 49 = .ok (.getfield 48, 3) := by decide +kernel
theorem dX9_act__52 : decode cX9_act_ 52 = .ok (.iload_n 2, 1) := by decide +kernel
theorem dX9_act__53 : decode cX9_act_ 53 = .ok (.iaload, 1) := by decide +kernel
theorem dX9_act__54 : decode cX9_act_ 54 = .ok (.aload_n 0, 1) := by decide +kernel
theorem dX9_act__55 : decode cX9_act_ 55 = .ok (.getfield 38, 3) := by decide +kernel
theorem dX9_act__58 : decode cX9_act_ 58 = .ok (.bipush 40, 2) := by decide +kernel
theorem dX9_act__60 : decode cX9_act_ 60 = .ok (.aload_n 0, 1) := by decide +kernel
theorem dX9_act__61 : decode cX9_act_ 61 = .ok (.getfield 101, 3) := by decide +kernel
theorem dX9_act__64 : decode cX9_act_ 64 = .ok (.imul, 1) := by decide +kernel
theorem dX9_act__65 : decode cX9_act_ 65 = .ok (.iload_n 2, 1) := by decide +kernel
theorem dX9_act__66 : decode cX9_act_ 66 = .ok (.iadd, 1) := by decide +kernel
theorem dX9_act__67 : decode cX9_act_ 67 = .ok (.iaload, 1) := by decide +kernel
theorem dX9_act__68 : decode cX9_act_ 68 = .ok (.if_icmp .lt 7, 3) := by decide +kernel
theorem dX9_act__71 : decode cX9_act_ 71 = .ok (.iconst 1, 1) := by decide +kernel
theorem dX9_act__72 : decode cX9_act_ 72 = .ok (.goto 4, 3) := by decide +kernel
theorem dX9_act__75 : decode cX9_act_ 75 = .ok (.iconst 0, 1) := by decide +kernel
theorem dX9_act__76 : decode cX9_act_ 76 = .ok (.istore_n 3, 1) := by decide +kernel
theorem dX9_act__77 : decode cX9_act_ 77 = .ok (.iload_n 3, 1) := by decide +kernel
theorem dX9_act__78 : decode cX9_act_ 78 = .ok (.ifCond .eq 16, 3) := by decide +kernel
theorem dX9_act__81 : decode cX9_act_ 81 = .ok (.aload_n 0, 1) := by decide +kernel
theorem dX9_act__82 : decode cX9_act_ 82 = .ok (.iload_n 2, 1) := by decide +kernel
theorem dX9_act__83 : decode cX9_act_ 83 = .ok (.iload_n 1, 1) := by decide +kernel
theorem dX9_act__84 : decode cX9_act_ 84 = .ok (.invokevirtual 167, 3) := by decide +kernel
theorem dX9_act__87 : decode cX9_act_ 87 = .ok (.ifCond .eq 7, 3) := by decide +kernel
theorem dX9_act__90 : decode cX9_act_ 90 = .ok (.iload_n 2, 1) := by decide +kernel
theorem dX9_act__91 : decode cX9_act_ 91 = .ok (.iconst 1, 1) := by decide +kernel
theorem dX9_act__92 : decode cX9_act_ 92 = .ok (.iadd, 1) := by decide +kernel
theorem dX9_act__93 : decode cX9_act_ 93 = .ok (.ireturn, 1) := by decide +kernel
theorem dX9_act__94 : decode cX9_act_ 94 = .ok (.iinc 2 1, 3) := by decide +kernel
theorem dX9_act__97 : decode cX9_act_ 97 = .ok (.goto (-83), 3) := by decide +kernel
theorem dX9_act__100 : decode cX9_act_ 100 = .ok (.iconst 0, 1) := by decide +kernel
theorem dX9_act__101 : decode cX9_act_ 101 = .ok (.ireturn, 1) := by decide +kernel
theorem dX9_hasAct_0 : decode cX9_hasAct 0 = .ok (.bipush 40, 2) := by decide +kernel
theorem dX9_hasAct_2 : decode cX9_hasAct 2 = .ok (.aload_n 0, 1) := by decide +kernel
theorem dX9_hasAct_3 : decode cX9_hasAct 3 = .ok (.getfield 101, 3) := by decide +kernel
theorem dX9_hasAct_6 : decode cX9_hasAct 6 = .ok (.imul, 1) := by decide +kernel
theorem dX9_hasAct_7 : decode cX9_hasAct 7 = .ok (.iload_n 1, 1) := by decide +kernel
theorem dX9_hasAct_8 : decode cX9_hasAct 8 = .ok (.iadd, 1) := by decide +kernel
theorem dX9_hasAct_9 : decode cX9_hasAct 9 = .ok (.istore_n 3, 1) := by decide +kernel
theorem dX9_hasAct_10 : decode cX9_hasAct 10 = .ok (.iconst 0, 1) := by decide +kernel
theorem dX9_hasAct_11 : decode cX9_hasAct 11 = .ok (.istore 4, 2) := by decide +kernel
theorem dX9_hasAct_13 : decode cX9_hasAct 13 = .ok (.iconst 0, 1) := by decide +kernel
theorem dX9_hasAct_14 : decode cX9_hasAct 14 = .ok (.istore 5, 2) := by decide +kernel
theorem dX9_hasAct_16 : decode cX9_hasAct 16 = .ok (.iload 5, 2) := by decide +kernel
theorem dX9_hasAct_18 : decode cX9_hasAct 18 = .ok (.aload_n 0, 1) := by decide +kernel
theorem dX9_hasAct_19 : decode cX9_hasAct 19 = .ok (.getfield 32, 3) := by decide +kernel
theorem dX9_hasAct_22 : decode cX9_hasAct 22 = .ok (.iload_n 3, 1) := by decide +kernel
theorem dX9_hasAct_23 : decode cX9_hasAct 23 = .ok (.iaload, 1) := by decide +kernel
theorem dX9_hasAct_24 : decode cX9_hasAct 24 = .ok (.if_icmp .ge 37, 3) := by decide +kernel
theorem dX9_hasAct_27 : decode cX9_hasAct 27 = .ok (.iload 4, 2) := by decide +kernel
theorem dX9_hasAct_29 : decode cX9_hasAct 29 = .ok (.ifCond .ne 19, 3) := by decide +kernel
theorem dX9_hasAct_32 : decode cX9_hasAct 32 = .ok (.aload_n 0, 1) := by decide +kernel
theorem dX9_hasAct_33 : decode cX9_hasAct 33 = .ok (.getfield 35, 3) := by decide +kernel
theorem dX9_hasAct_36 : decode cX9_hasAct 36 = .ok (.bipush 8, 2) := by decide +kernel
theorem dX9_hasAct_38 : decode cX9_hasAct 38 = .ok (.iload_n 3, 1) := by decide +kernel
theorem dX9_hasAct_39 : decode cX9_hasAct 39 = .ok (.imul, 1) := by decide +kernel
theorem dX9_hasAct_40 : decode cX9_hasAct 40 = .ok (.iload 5, 2) := by decide +kernel
theorem dX9_hasAct_42 : decode cX9_hasAct 42 = .ok (.iadd, 1) := by decide +kernel
theorem dX9_hasAct_43 : decode cX9_hasAct 43 = .ok (.iaload, 1) := by decide +kernel
theorem dX9_hasAct_44 : decode cX9_hasAct 44 = .ok (.iload_n 2, 1) := by decide +kernel
theorem dX9_hasAct_45 : decode cX9_hasAct 45 = .ok (.if_icmp .ne 7, 3) := by decide +kernel
theorem dX9_hasAct_48 : decode cX9_hasAct 48 = .ok (.iconst 1, 1) := by decide +kernel
theorem dX9_hasAct_49 : decode cX9_hasAct 49 = .ok (.goto 4, 3) := by decide +kernel
theorem dX9_hasAct_52 : decode cX9_hasAct 52 = .ok (.iconst 0, 1) := by decide +kernel
theorem dX9_hasAct_53 : decode cX9_hasAct 53 = .ok (.istore 4, 2) := by decide +kernel
theorem dX9_hasAct_55 : decode cX9_hasAct 55 = .ok (.iinc 5 1, 3) := by decide +kernel
theorem dX9_hasAct_58 : decode cX9_hasAct 58 = .ok (.goto (-42), 3) := by decide +kernel
theorem dX9_hasAct_61 : decode cX9_hasAct 61 = .ok (.iload 4, 2) := by decide +kernel
theorem dX9_hasAct_63 : decode cX9_hasAct 63 = .ok (.ireturn, 1) := by decide +kernel
theorem dX9_isRow_0 : decode cX9_isRow 0 = .ok (.iload_n 1, 1) := by decide +kernel
theorem dX9_isRow_1 : decode cX9_isRow 1 = .ok (.iconst 1, 1) := by decide +kernel
theorem dX9_isRow_2 : decode cX9_isRow 2 = .ok (.if_icmp .lt 15, 3) := by decide +kernel
theorem dX9_isRow_5 : decode cX9_isRow 5 = .ok (.iload_n 1, 1) := by decide +kernel
theorem dX9_isRow_6 : decode cX9_isRow 6 = .ok (.aload_n 0, 1) := by decide +kernel
theorem dX9_isRow_7 : decode cX9_isRow 7 = .ok (.getfield 149, 3) := by decide +kernel
theorem dX9_isRow_10 : decode cX9_isRow 10 = .ok (.if_icmp .gt 7, 3) := by decide +kernel
theorem dX9_isRow_13 : decode cX9_isRow 13 = .ok (.iconst 1, 1) := by decide +kernel
theorem dX9_isRow_14 : decode cX9_isRow 14 = .ok (.goto 4, 3) := by decide +kernel
theorem dX9_isRow_17 : decode cX9_isRow 17 = .ok (.iconst 0, 1) := by decide +kernel
theorem dX9_isRow_18 : decode cX9_isRow 18 = .ok (.ireturn, 1) := by decide +kernel
set_option maxRecDepth 20000 in
theorem ggX9_pass_X9_isRow : GoodIn wsX9_pass wsX9_isRow := goodIn_r _ [6, 7, 8, 9, 10, 11, 12, 13, 14, 15, 16, 17, 18, 19, 20, 21, 22, 23, 24, 25, 26, 27, 28, 29, 30, 31, 32, 33, 34, 35, 36, 37, 38, 39] (by decide +kernel) (by decide +kernel)
set_option maxRecDepth 20000 in
theorem gX9_pass_X9_isRow : GoodIn wsX9_pass (wsV RX9 171 RX9 yX9_isRow wsX9_isRow) := goodIn_app (goodIn_of _ (by decide +kernel)) ggX9_pass_X9_isRow
theorem dX9_pass_0 : decode cX9_pass 0 = .ok (.aload_n 0, 1) := by decide +kernel
theorem dX9_pass_1 : decode cX9_pass 1 = .ok (.iload_n 1, 1) := by decide +kernel
theorem dX9_pass_2 : decode cX9_pass 2 = .ok (.invokevirtual 171, 3) := by decide +kernel
theorem dX9_pass_5 : decode cX9_pass 5 = .ok (.ifCond .ne 5, 3) := by decide +kernel
theorem dX9_pass_8 : decode cX9_pass 8 = .ok (.iconst (-1), 1) := by decide +kernel
theorem dX9_pass_9 : decode cX9_pass 9 = .ok (.ireturn, 1) := by decide +kernel
theorem dX9_pass_10 : decode cX9_pass 10 = .ok (.iload_n 2, 1) := by decide +kernel
theorem dX9_pass_11 : decode cX9_pass 11 = .ok (.iconst 1, 1) := by decide +kernel
theorem dX9_pass_12 : decode cX9_pass 12 = .ok (.if_icmp .lt 27, 3) := by decide +kernel
theorem dX9_pass_15 : decode cX9_pass 15 = .ok (.iload_n 2, 1) := by decide +kernel
theorem dX9_pass_16 : decode cX9_pass 16 = .ok (.sipush 999, 3) := by decide +kernel
theorem dX9_pass_19 : decode cX9_pass 19 = .ok (.if_icmp .gt 20, 3) := by decide +kernel
theorem dX9_pass_22 : decode cX9_pass 22 = .ok (.iload_n 3, 1) := by decide +kernel
theorem dX9_pass_23 : decode cX9_pass 23 = .ok (.iconst 1, 1) := by decide +kernel
theorem dX9_pass_24 : decode cX9_pass 24 = .ok (.if_icmp .lt 15, 3) := by decide +kernel
theorem dX9_pass_27 : decode cX9_pass 27 = .ok (.iload_n 3, 1) := by decide +kernel
theorem dX9_pass_28 : decode cX9_pass 28 = .ok (.sipush 999, 3) := by decide +kernel
theorem dX9_pass_31 : decode cX9_pass 31 = .ok (.if_icmp .gt 8, 3) := by decide +kernel
theorem dX9_pass_34 : decode cX9_pass 34 = .ok (.iload_n 2, 1) := by decide +kernel
theorem dX9_pass_35 : decode cX9_pass 35 = .ok (.iload_n 3, 1) := by decide +kernel
theorem dX9_pass_36 : decode cX9_pass 36 = .ok (.if_icmp .ne 6, 3) := by decide +kernel
theorem dX9_pass_39 : decode cX9_pass 39 = .ok (.bipush (-2), 2) := by decide +kernel
theorem dX9_pass_41 : decode cX9_pass 41 = .ok (.ireturn, 1) := by decide +kernel
theorem dX9_pass_42 : decode cX9_pass 42 = .ok (.iload 4, 2) := by decide +kernel
theorem dX9_pass_44 : decode cX9_pass 44 = .ok (.iconst 1, 1) := by decide +kernel
theorem dX9_pass_45 : decode cX9_pass 45 = .ok (.if_icmp .lt 11, 3) := by decide +kernel
theorem dX9_pass_48 : decode cX9_pass 48 = .ok (.iload 4, 2) := by decide +kernel
theorem dX9_pass_50 : decode cX9_pass 50 = .ok (.sipush 3600, 3) := by decide +kernel
theorem dX9_pass_53 : decode cX9_pass 53 = .ok (.if_icmp .le 6, 3) := by decide +kernel
theorem dX9_pass_56 : decode cX9_pass 56 = .ok (.bipush (-3), 2) := by decide +kernel
theorem dX9_pass_58 : decode cX9_pass 58 = .ok (.ireturn, 1) := by decide +kernel
theorem dX9_pass_59 : decode cX9_pass 59 = .ok (.aload_n 0, 1) := by decide +kernel
theorem dX9_pass_60 : decode cX9_pass 60 = .ok (.getfield 54, 3) := by decide +kernel
theorem dX9_pass_63 : decode cX9_pass 63 = .ok (.iload_n 1, 1) := by decide +kernel
theorem dX9_pass_64 : decode cX9_pass 64 = .ok (.iconst 1, 1) := by decide +kernel
theorem dX9_pass_65 : decode cX9_pass 65 = .ok (.isub, 1) := by decide +kernel
theorem dX9_pass_66 : decode cX9_pass 66 = .ok (.iaload, 1) := by decide +kernel
theorem dX9_pass_67 : decode cX9_pass 67 = .ok (.ifCond .le 6, 3) := by decide +kernel
theorem dX9_pass_70 : decode cX9_pass 70 = .ok (.bipush (-4), 2) := by decide +kernel
theorem dX9_pass_72 : decode cX9_pass 72 = .ok (.ireturn, 1) := by decide +kernel
theorem dX9_pass_73 : decode cX9_pass 73 = .ok (.aload_n 0, 1) := by decide +kernel
theorem dX9_pass_74 : decode cX9_pass 74 = .ok (.getfield 54, 3) := by decide +kernel
theorem dX9_pass_77 : decode cX9_pass 77 = .ok (.iload_n 1, 1) := by decide +kernel
theorem dX9_pass_78 : decode cX9_pass 78 = .ok (.iconst 1, 1) := by decide +kernel
theorem dX9_pass_79 : decode cX9_pass 79 = .ok (.isub, 1) := by decide +kernel
theorem dX9_pass_80 : decode cX9_pass 80 = .ok (.iload 4, 2) := by decide +kernel
theorem dX9_pass_82 : decode cX9_pass 82 = .ok (.iastore, 1) := by decide +kernel
theorem dX9_pass_83 : decode cX9_pass 83 = .ok (.iconst 0, 1) := by decide +kernel
theorem dX9_pass_84 : decode cX9_pass 84 = .ok (.ireturn, 1) := by decide +kernel
theorem dX9_listed_0 : decode cX9_listed 0 = .ok (.iload_n 1, 1) := by decide +kernel
theorem dX9_listed_1 : decode cX9_listed 1 = .ok (.istore_n 2, 1) := by decide +kernel
theorem dX9_listed_2 : decode cX9_listed 2 = .ok (.iconst 0, 1) := by decide +kernel
theorem dX9_listed_3 : decode cX9_listed 3 = .ok (.istore_n 3, 1) := by decide +kernel
theorem dX9_listed_4 : decode cX9_listed 4 = .ok (.iload_n 3, 1) := by decide +kernel
theorem dX9_listed_5 : decode cX9_listed 5 = .ok (.aload_n 0, 1) := by decide +kernel
theorem dX9_listed_6 : decode cX9_listed 6 = .ok (.getfield 149, 3) := by decide +kernel
theorem dX9_listed_9 : decode cX9_listed 9 = .ok (.if_icmp .ge 33, 3) := by decide +kernel
theorem dX9_listed_12 : decode cX9_listed 12 = .ok (.iload_n 2, 1) := by decide +kernel
theorem dX9_listed_13 : decode cX9_listed 13 = .ok (.ifCond .lt 29, 3) := by decide +kernel
theorem dX9_listed_16 : decode cX9_listed 16 = .ok (.aload_n 0, 1) := by decide +kernel
theorem dX9_listed_17 : decode cX9_listed 17 = .ok (.getfield 54, 3) := by decide +kernel
theorem dX9_listed_20 : decode cX9_listed 20 = .ok (.iload_n 3, 1) := by decide +kernel
theorem dX9_listed_21 : decode cX9_listed 21 = .ok (.iaload, 1) := by decide +kernel
theorem dX9_listed_22 : decode cX9_listed 22 = .ok (.ifCond .le 14, 3) := by decide +kernel
theorem dX9_listed_25 : decode cX9_listed 25 = .ok (.iload_n 2, 1) := by decide +kernel
theorem dX9_listed_26 : decode cX9_listed 26 = .ok (.ifCond .ne 7, 3) := by decide +kernel
theorem dX9_listed_29 : decode cX9_listed 29 = .ok (.iload_n 3, 1) := by decide +kernel
theorem dX9_listed_30 : decode cX9_listed 30 = .ok (.iconst 1, 1) := by decide +kernel
theorem dX9_listed_31 : decode cX9_listed 31 = .ok (.iadd, 1) := by decide +kernel
theorem dX9_listed_32 : decode cX9_listed 32 = .ok (.ireturn, 1) := by decide +kernel
theorem dX9_listed_33 : decode cX9_listed 33 = .ok (.iinc 2 (-1), 3) := by decide +kernel
theorem dX9_listed_36 : decode cX9_listed 36 = .ok (.iinc 3 1, 3) := by decide +kernel
theorem dX9_listed_39 : decode cX9_listed 39 = .ok (.goto (-35), 3) := by decide +kernel
theorem dX9_listed_42 : decode cX9_listed 42 = .ok (.iconst (-1), 1) := by decide +kernel
theorem dX9_listed_43 : decode cX9_listed 43 = .ok (.ireturn, 1) := by decide +kernel
set_option maxRecDepth 20000 in
theorem ggX9_reset_X9_isRow : GoodIn wsX9_reset wsX9_isRow := goodIn_r _ [6, 7, 22, 23, 24, 25, 26, 27, 28, 29, 30, 31, 32, 33, 34, 35, 36, 37, 38, 39, 40, 41, 42, 43, 44, 45, 46, 47, 48, 49, 50, 51, 52, 53] (by decide +kernel) (by decide +kernel)
set_option maxRecDepth 20000 in
theorem gX9_reset_X9_isRow : GoodIn wsX9_reset (wsV RX9 171 RX9 yX9_isRow wsX9_isRow) := goodIn_app (goodIn_of _ (by decide +kernel)) ggX9_reset_X9_isRow
set_option maxRecDepth 20000 in
theorem ggX9_reset_X9_isOn : GoodIn wsX9_reset wsX9_isOn := goodIn_r _ [11, 12, 13, 14, 15, 16, 5, 17, 18, 19, 20, 21, 22, 23, 24, 25, 26, 27, 28, 29, 30, 31, 32, 33, 34, 35, 36, 37, 38, 39, 40, 41, 42, 43, 44, 45, 46, 47, 48, 49, 50, 51, 52, 53] (by decide +kernel) (by decide +kernel)
set_option maxRecDepth 20000 in
theorem gX9_reset_X9_isOn : GoodIn wsX9_reset (wsV RX9 163 RX9 yX9_isOn wsX9_isOn) := goodIn_app (goodIn_of _ (by decide +kernel)) ggX9_reset_X9_isOn
theorem dX9_reset_0 : decode cX9_reset 0 = .ok (.aload_n 0, 1) := by decide +kernel
theorem dX9_reset_1 : decode cX9_reset 1 = .ok (.iload_n 1, 1) := by decide +kernel
theorem dX9_reset_2 : decode cX9_reset 2 = .ok (.invokevirtual 171, 3) := by decide +kernel
theorem dX9_reset_5 : decode cX9_reset 5 = .ok (.ifCond .eq 24, 3) := by decide +kernel
theorem dX9_reset_8 : decode cX9_reset 8 = .ok (.aload_n 0, 1) := by decide +kernel
theorem dX9_reset_9 : decode cX9_reset 9 = .ok (.getfield 51, 3) := by decide +kernel
theorem dX9_reset_12 : decode cX9_reset 12 = .ok (.iload_n 1, 1) := by decide +kernel
theorem dX9_reset_13 : decode cX9_reset 13 = .ok (.iconst 1, 1) := by decide +kernel
theorem dX9_reset_14 : decode cX9_reset 14 = .ok (.isub, 1) := by decide +kernel
theorem dX9_reset_15 : decode cX9_reset 15 = .ok (.baload, 1) := by decide +kernel
theorem dX9_reset_16 : decode cX9_reset 16 = .ok (.ifCond .eq 13, 3) := by decide +kernel
theorem dX9_reset_19 : decode cX9_reset 19 = .ok (.aload_n 0, 1) := by decide +kernel
theorem dX9_reset_20 : decode cX9_reset 20 = .ok (.iload_n 1, 1) := by decide +kernel
theorem dX9_reset_21 : decode cX9_reset 21 = .ok (.iconst 1, 1) := by decide +kernel
theorem dX9_reset_22 : decode cX9_reset 22 = .ok (.isub, 1) := by decide +kernel
theorem dX9_reset_23 : decode cX9_reset 23 = .ok (.invokevirtual 163, 3) := by decide +kernel
theorem dX9_reset_26 : decode cX9_reset 26 = .ok (.ifCond .eq 5, 3) := by decide +kernel
theorem dX9_reset_29 : decode cX9_reset 29 = .ok (.iconst 0, 1) := by decide +kernel
theorem dX9_reset_30 : decode cX9_reset 30 = .ok (.ireturn, 1) := by decide +kernel
theorem dX9_reset_31 : decode cX9_reset 31 = .ok (.aload_n 0, 1) := by decide +kernel
theorem dX9_reset_32 : decode cX9_reset 32 = .ok (.getfield 51, 3) := by decide +kernel
theorem dX9_reset_35 : decode cX9_reset 35 = .ok (.iload_n 1, 1) := by decide +kernel
theorem dX9_reset_36 : decode cX9_reset 36 = .ok (.iconst 1, 1) := by decide +kernel
theorem dX9_reset_37 : decode cX9_reset 37 = .ok (.isub, 1) := by decide +kernel
theorem dX9_reset_38 : decode cX9_reset 38 = .ok (.iconst 0, 1) := by decide +kernel
theorem dX9_reset_39 : decode cX9_reset 39 = .ok (.bastore, 1) := by decide +kernel
theorem dX9_reset_40 : decode cX9_reset 40 = .ok (.iconst 1, 1) := by decide +kernel
theorem dX9_reset_41 : decode cX9_reset 41 = .ok (.ireturn, 1) := by decide +kernel
theorem dX9_bits_0 : decode cX9_bits 0 = .ok (.iload_n 0, 1) := by decide +kernel
theorem dX9_bits_1 : decode cX9_bits 1 = .ok (.tableswitch 63 0 5 #[39, 43, 47, 51, 55, 59], 39) := by decide +kernel
theorem dX9_bits_40 : decode cX9_bits 40 = .ok (.ldc2_w 174, 3) := by decide +kernel
theorem dX9_bits_43 : decode cX9_bits 43 = .ok (.lreturn, 1) := by decide +kernel
theorem dX9_bits_44 : decode cX9_bits 44 = .ok (.ldc2_w 176, 3) := by decide +kernel
theorem dX9_bits_47 : decode cX9_bits 47 = .ok (.lreturn, 1) := by decide +kernel
theorem dX9_bits_48 : decode cX9_bits 48 = .ok (.ldc2_w 178, 3) := by decide +kernel
theorem dX9_bits_51 : decode cX9_bits 51 = .ok (.lreturn, 1) := by decide +kernel
theorem dX9_bits_52 : decode cX9_bits 52 = .ok (.ldc2_w 180, 3) := by decide +kernel
theorem dX9_bits_55 : decode cX9_bits 55 = .ok (.lreturn, 1) := by decide +kernel
theorem dX9_bits_56 : decode cX9_bits 56 = .ok (.ldc2_w 182, 3) := by decide +kernel
theorem dX9_bits_59 : decode cX9_bits 59 = .ok (.lreturn, 1) := by decide +kernel
theorem dX9_bits_60 : decode cX9_bits 60 = .ok (.ldc2_w 184, 3) := by decide +kernel
theorem dX9_bits_63 : decode cX9_bits 63 = .ok (.lreturn, 1) := by decide +kernel
theorem dX9_bits_64 : decode cX9_bits 64 = .ok (.iload_n 1, 1) := by decide +kernel
theorem dX9_bits_65 : decode cX9_bits 65 = .ok (.iload_n 0, 1) := by decide +kernel
theorem dX9_bits_66 : decode cX9_bits 66 = .ok (.bipush 6, 2) := by decide +kernel
theorem dX9_bits_68 : decode cX9_bits 68 = .ok (.isub, 1) := by decide +kernel
theorem dX9_bits_69 : decode cX9_bits 69 = .ok (.ishr, 1) := by decide +kernel
theorem dX9_bits_70 : decode cX9_bits 70 = .ok (.iconst 1, 1) := by decide +kernel
theorem dX9_bits_71 : decode cX9_bits 71 = .ok (.iand, 1) := by decide +kernel
theorem dX9_bits_72 : decode cX9_bits 72 = .ok (.iconst 1, 1) := by decide +kernel
theorem dX9_bits_73 : decode cX9_bits 73 = .ok (.if_icmp .ne 9, 3) := by decide +kernel
theorem dX9_bits_76 : decode cX9_bits 76 = .ok (.ldc2_w 186, 3) := by decide +kernel
theorem dX9_bits_79 : decode cX9_bits 79 = .ok (.goto 4, 3) := by decide +kernel
theorem dX9_bits_82 : decode cX9_bits 82 = .ok (.lconst 0, 1) := by decide +kernel
theorem dX9_bits_83 : decode cX9_bits 83 = .ok (.lreturn, 1) := by decide +kernel
set_option maxRecDepth 20000 in
theorem ggX9_table_X9_table : GoodIn wsX9_table wsX9_table := goodIn_r _ [0, 1, 2, 3, 4, 5, 6, 7, 8, 9, 10, 11, 12, 13, 14, 15, 16, 17, 18, 19, 20, 21, 22, 23, 24, 25, 26, 27, 28, 29, 30, 31, 32, 33, 34, 35, 36, 37, 38, 39, 40, 41, 42, 43, 44, 45, 46, 47, 48, 49, 50] (by decide +kernel) (by decide +kernel)
set_option maxRecDepth 20000 in
theorem gX9_table_X9_table : GoodIn wsX9_table (wsV RX9 188 RX9 yX9_table wsX9_table) := goodIn_app (goodIn_of _ (by decide +kernel)) ggX9_table_X9_table
set_option maxRecDepth 20000 in
theorem ggX9_table_X9_bits : GoodIn wsX9_table wsX9_bits := goodIn_r _ [12, 13, 14, 15, 16, 17, 18, 4] (by decide +kernel) (by decide +kernel)
set_option maxRecDepth 20000 in
theorem gX9_table_X9_bits : GoodIn wsX9_table (va_wsS RX9 192 yX9_bits wsX9_bits) := goodIn_app (goodIn_of _ (by decide +kernel)) ggX9_table_X9_bits
theorem dX9_table_0 : decode cX9_table 0 = .ok (.aload_n 0, 1) := by decide +kernel
theorem dX9_table_1 : decode cX9_table 1 = .ok (.getfield 20, 3) := by decide +kernel
theorem dX9_table_4 : decode cX9_table 4 = .ok (.iload_n 1, 1) := by decide +kernel
theorem dX9_table_5 : decode cX9_table 5 = .ok (.iaload, 1) := by decide +kernel
theorem dX9_table_6 : decode cX9_table 6 = .ok (.istore_n 3, 1) := by decide +kernel
theorem dX9_table_7 : decode cX9_table 7 = .ok (.iload_n 3, 1) := by decide +kernel
theorem dX9_table_8 : decode cX9_table 8 = .ok (.bipush 16, 2) := by decide +kernel
theorem dX9_table_10 : decode cX9_table 10 = .ok (.if_icmp .ne 64, 3) := by decide +kernel
theorem dX9_table_13 : decode cX9_table 13 = .ok (.aload_n 0, 1) := by decide +kernel
theorem dX9_table_14 : decode cX9_table 14 = .ok (.aload_n 0, 1) := by decide +kernel
theorem dX9_table_15 : decode cX9_table 15 = .ok (.getfield 23, 3) := by decide +kernel
theorem dX9_table_18 : decode cX9_table 18 = .ok (.iload_n 1, 1) := by decide +kernel
theorem dX9_table_19 : decode cX9_table 19 = .ok (.iaload, 1) := by decide +kernel
theorem dX9_table_20 : decode cX9_table 20 = .ok (.iload_n 2, 1) := by decide +kernel
theorem dX9_table_21 : decode cX9_table 21 = .ok (.invokevirtual 188, 3) := by decide +kernel
theorem dX9_table_24 : decode cX9_table 24 = .ok (.iconst 0, 1) := by decide +kernel
theorem dX9_table_25 : decode cX9_table 25 = .ok (.istore 4, 2) := by decide +kernel
theorem dX9_table_27 : decode cX9_table 27 = .ok (.iload 4, 2) := by decide +kernel
theorem dX9_table_29 : decode cX9_table 29 = .ok (.sipush 1024, 3) := by decide +kernel
theorem dX9_table_32 : decode cX9_table 32 = .ok (.if_icmp .ge 39, 3) := by decide +kernel
theorem dX9_table_35 : decode cX9_table 35 = .ok (.aload_n 0, 1) := by decide +kernel
theorem dX9_table_36 : decode cX9_table 36 = .ok (.getfield 63, 3) := by decide +kernel
theorem dX9_table_39 : decode cX9_table 39 = .ok (.sipush 1024, 3) := by decide +kernel
theorem dX9_table_42 : decode cX9_table 42 = .ok (.iload_n 2, 1) := by decide +kernel
theorem dX9_table_43 : decode cX9_table 43 = .ok (.imul, 1) := by decide +kernel
theorem dX9_table_44 : decode cX9_table 44 = .ok (.iload 4, 2) := by decide +kernel
theorem dX9_table_46 : decode cX9_table 46 = .ok (.iadd, 1) := by decide +kernel
theorem dX9_table_47 : decode cX9_table 47 = .ok (.aload_n 0, 1) := by decide +kernel
theorem dX9_table_48 : decode cX9_table 48 = .ok (.getfield 63, 3) := by decide +kernel
theorem dX9_table_51 : decode cX9_table 51 = .ok (.sipush 1024, 3) := by decide +kernel
theorem dX9_table_54 : decode cX9_table 54 = .ok (.iload_n 2, 1) := by decide +kernel
theorem dX9_table_55 : decode cX9_table 55 = .ok (.imul, 1) := by decide +kernel
theorem dX9_table_56 : decode cX9_table 56 = .ok (.iload 4, 2) := by decide +kernel
theorem dX9_table_58 : decode cX9_table 58 = .ok (.iadd, 1) := by decide +kernel
theorem dX9_table_59 : decode cX9_table 59 = .ok (.laload, 1) := by decide +kernel
theorem dX9_table_60 : decode cX9_table 60 = .ok (.ldc2_w 186, 3) := by decide +kernel
theorem dX9_table_63 : decode cX9_table 63 = .ok (.lxor, 1) := by decide +kernel
theorem dX9_table_64 : decode cX9_table 64 = .ok (.lastore, 1) := by decide +kernel
theorem dX9_table_65 : decode cX9_table 65 = .ok (.iinc 4 1, 3) := by decide +kernel
theorem dX9_table_68 : decode cX9_table 68 = .ok (.goto (-41), 3) := by decide +kernel
theorem dX9_table_71 : decode cX9_table 71 = .ok (.goto 153, 3) := by decide +kernel
theorem dX9_table_74 : decode cX9_table 74 = .ok (.iload_n 3, 1) := by decide +kernel
theorem dX9_table_75 : decode cX9_table 75 = .ok (.bipush 16, 2) := by decide +kernel
theorem dX9_table_77 : decode cX9_table 77 = .ok (.if_icmp .ge 42, 3) := by decide +kernel
theorem dX9_table_80 : decode cX9_table 80 = .ok (.iconst 0, 1) := by decide +kernel
theorem dX9_table_81 : decode cX9_table 81 = .ok (.istore 4, 2) := by decide +kernel
theorem dX9_table_83 : decode cX9_table 83 = .ok (.iload 4, 2) := by decide +kernel
theorem dX9_table_85 : decode cX9_table 85 = .ok (.sipush 1024, 3) := by decide +kernel
theorem dX9_table_88 : decode cX9_table 88 = .ok (.if_icmp .ge 28, 3) := by decide +kernel
theorem dX9_table_91 : decode cX9_table 91 = .ok (.aload_n 0, 1) := by decide +kernel
theorem dX9_table_92 : decode cX9_table 92 = .ok (.getfield 63, 3) := by decide +kernel
theorem dX9_table_95 : decode cX9_table 95 = .ok (.sipush 1024, 3) := by decide +kernel
theorem dX9_table_98 : decode cX9_table 98 = .ok (.iload_n 2, 1) := by decide +kernel
theorem dX9_table_99 : decode cX9_table 99 = .ok (.imul, 1) := by decide +kernel
theorem dX9_table_100 : decode cX9_table 100 = .ok (.iload 4, 2) := by decide +kernel
theorem dX9_table_102 : decode cX9_table 102 = .ok (.iadd, 1) := by decide +kernel
theorem dX9_table_103 : decode cX9_table 103 = .ok (.iload_n 3, 1) := by decide +kernel
theorem dX9_table_104 : decode cX9_table 104 = .ok (.iload 4, 2) := by decide +kernel
theorem dX9_table_106 : decode cX9_table 106 = .ok (.invokestatic 192, 3) := by decide +kernel
theorem dX9_table_109 : decode cX9_table 109 = .ok (.lastore, 1) := by decide +kernel
theorem dX9_table_110 : decode cX9_table 110 = .ok (.iinc 4 1, 3) := by decide +kernel
theorem dX9_table_113 : decode cX9_table 113 = .ok (.goto (-30), 3) := by decide +kernel
theorem dX9_table_116 : decode cX9_table 116 = .ok (.goto 108, 3) := by decide +kernel
theorem dX9_table_119 : decode cX9_table 119 = .ok (.aload_n 0, 1) := by decide +kernel
theorem dX9_table_120 : decode cX9_table 120 = .ok (.aload_n 0, 1) := by decide +kernel
theorem dX9_table_121 : decode cX9_table 121 = .ok (.getfield 23, 3) := by decide +kernel
theorem dX9_table_124 : decode cX9_table 124 = .ok (.iload_n 1, 1) := by decide +kernel
theorem dX9_table_125 : decode cX9_table 125 = .ok (.iaload, 1) := by decide +kernel
theorem dX9_table_126 : decode cX9_table 126 = .ok (.iload_n 2, 1) := by decide +kernel
theorem dX9_table_127 : decode cX9_table 127 = .ok (.invokevirtual 188, 3) := by decide +kernel
theorem dX9_table_130 : decode cX9_table 130 = .ok (.aload_n 0, 1) := by decide +kernel
theorem dX9_table_131 : decode cX9_table 131 = .ok (.aload_n 0, 1) := by decide +kernel
theorem dX9_table_132 : decode cX9_table 132 = .ok (.getfield 26, 3) := by decide +kernel
theorem dX9_table_135 : decode cX9_table 135 = .ok (.iload_n 1, 1) := by decide +kernel
theorem dX9_table_136 : decode cX9_table 136 = .ok (.iaload, 1) := by decide +kernel
theorem dX9_table_137 : decode cX9_table 137 = .ok (.iload_n 2, 1) := by decide +kernel
theorem dX9_table_138 : decode cX9_table 138 = .ok (.iconst 1, 1) := by decide +kernel
theorem dX9_table_139 : decode cX9_table 139 = .ok (.iadd, 1) := by decide +kernel
theorem dX9_table_140 : decode cX9_table 140 = .ok (.invokevirtual 188, 3) := by decide +kernel
theorem dX9_table_143 : decode cX9_table 143 = .ok (.iconst 0, 1) := by decide +kernel
theorem dX9_table_144 : decode cX9_table 144 = .ok (.istore 4, 2) := by decide +kernel
theorem dX9_table_146 : decode cX9_table 146 = .ok (.iload 4, 2) := by decide +kernel
theorem dX9_table_148 : decode cX9_table 148 = .ok (.sipush 1024, 3) := by decide +kernel
theorem dX9_table_151 : decode cX9_table 151 = .ok (.if_icmp .ge 73, 3) := by decide +kernel
theorem dX9_table_154 : decode cX9_table 154 = .ok (.aload_n 0, 1) := by decide +kernel
theorem dX9_table_155 : decode cX9_table 155 = .ok (.getfield 63, 3) := by decide +kernel
theorem dX9_table_158 : decode cX9_table 158 = .ok (.sipush 1024, 3) := by decide +kernel
theorem dX9_table_161 : decode cX9_table 161 = .ok (.iload_n 2, 1) := by decide +kernel
theorem dX9_table_162 : decode cX9_table 162 = .ok (.imul, 1) := by decide +kernel
theorem dX9_table_163 : decode cX9_table 163 = .ok (.iload 4, 2) := by decide +kernel
theorem dX9_table_165 : decode cX9_table 165 = .ok (.iadd, 1) := by decide +kernel
theorem dX9_table_166 : decode cX9_table 166 = .ok (.laload, 1) := by decide +kernel
theorem dX9_table_167 : decode cX9_table 167 = .ok (.lstore 5, 2) := by decide +kernel
theorem dX9_table_169 : decode cX9_table 169 = .ok (.aload_n 0, 1) := by decide +kernel
theorem dX9_table_170 : decode cX9_table 170 = .ok (.getfield 63, 3) := by decide +kernel
theorem dX9_table_173 : decode cX9_table 173 = .ok (.sipush 1024, 3) := by decide +kernel
theorem dX9_table_176 : decode cX9_table 176 = .ok (.iload_n 2, 1) := by decide +kernel
theorem dX9_table_177 : decode cX9_table 177 = .ok (.iconst 1, 1) := by decide +kernel
theorem dX9_table_178 : decode cX9_table 178 = .ok (.iadd, 1) := by decide +kernel
theorem dX9_table_179 : decode cX9_table 179 = .ok (.imul, 1) := by decide +kernel
theorem dX9_table_180 : decode cX9_table 180 = .ok (.iload 4, 2) := by decide +kernel
theorem dX9_table_182 : decode cX9_table 182 = .ok (.iadd, 1) := by decide +kernel
theorem dX9_table_183 : decode cX9_table 183 = .ok (.laload, 1) := by decide +kernel
theorem dX9_table_184 : decode cX9_table 184 = .ok (.lstore 7, 2) := by decide +kernel
theorem dX9_table_186 : decode cX9_table 186 = .ok (.aload_n 0, 1) := by decide +kernel
theorem dX9_table_187 : decode cX9_table 187 = .ok (.getfield 63, 3) := by decide +kernel
theorem dX9_table_190 : decode cX9_table 190 = .ok (.sipush 1024, 3) := by decide +kernel
theorem dX9_table_193 : decode cX9_table 193 = .ok (.iload_n 2, 1) := by decide +kernel
theorem dX9_table_194 : decode cX9_table 194 = .ok (.imul, 1) := by decide +kernel
theorem dX9_table_195 : decode cX9_table 195 = .ok (.iload 4, 2) := by decide +kernel
theorem dX9_table_197 : decode cX9_table 197 = .ok (.iadd, 1) := by decide +kernel
theorem dX9_table_198 : decode cX9_table 198 = .ok (.iload_n 3, 1) := by decide +kernel
theorem dX9_table_199 : decode cX9_table 199 = .ok (.bipush 17, 2) := by decide +kernel
theorem dX9_table_201 : decode cX9_table 201 = .ok (.if_icmp .ne 11, 3) := by decide +kernel
theorem dX9_table_204 : decode cX9_table 204 = .ok (.lload 5, 2) := by decide +kernel
theorem dX9_table_206 : decode cX9_table 206 = .ok (.lload 7, 2) := by decide +kernel
theorem dX9_table_208 : decode cX9_table 208 = .ok (.land, 1) := by decide +kernel
theorem dX9_table_209 : decode cX9_table 209 = .ok (.goto 8, 3) := by decide +kernel
theorem dX9_table_212 : decode cX9_table 212 = .ok (.lload 5, 2) := by decide +kernel
theorem dX9_table_214 : decode cX9_table 214 = .ok (.lload 7, 2) := by decide +kernel
theorem dX9_table_216 : decode cX9_table 216 = .ok (.lor, 1) := by decide +kernel
theorem dX9_table_217 : decode cX9_table 217 = .ok (.lastore, 1) := by decide +kernel
theorem dX9_table_218 : decode cX9_table 218 = .ok (.iinc 4 1, 3) := by decide +kernel
theorem dX9_table_221 : decode cX9_table 221 = .ok (.goto (-75), 3) := by decide +kernel
theorem dX9_table_224 : decode cX9_table 224 = .ok (.return_, 1) := by decide +kernel
set_option maxRecDepth 20000 in
theorem ggX9_testAll_X9_table : GoodIn wsX9_testAll wsX9_table := goodIn_r _ [20, 21, 22, 4, 13, 23, 16, 17, 18, 19, 24, 25, 26, 27, 28, 29, 30, 31, 32, 37, 38, 39, 40, 41, 42, 43, 44, 45, 46, 47, 48, 49, 50, 51, 52, 53, 54, 55, 56, 57, 58, 59, 60, 61, 62, 63, 64, 65, 66, 67, 68] (by decide +kernel) (by decide +kernel)
set_option maxRecDepth 20000 in
theorem gX9_testAll_X9_table : GoodIn wsX9_testAll (wsV RX9 188 RX9 yX9_table wsX9_table) := goodIn_app (goodIn_of _ (by decide +kernel)) ggX9_testAll_X9_table
set_option maxRecDepth 20000 in
theorem ggX9_testAll_X9_hasAct : GoodIn wsX9_testAll wsX9_hasAct := goodIn_r _ [36, 3, 10, 11, 37, 38, 39, 40, 41, 42, 43, 44, 45, 46, 47, 48, 49, 50, 51, 52, 53, 54, 55, 56, 57, 58, 59, 60, 61, 62, 63, 64, 65, 66, 67, 68] (by decide +kernel) (by decide +kernel)
set_option maxRecDepth 20000 in
theorem gX9_testAll_X9_hasAct : GoodIn wsX9_testAll (wsV RX9 167 RX9 yX9_hasAct wsX9_hasAct) := goodIn_app (goodIn_of _ (by decide +kernel)) ggX9_testAll_X9_hasAct
theorem dX9_testAll_0 : decode cX9_testAll 0 = .ok (.iconst 0, 1) := by decide +kernel
theorem dX9_testAll_1 : decode cX9_testAll 1 = .ok (.istore_n 1, 1) := by decide +kernel
theorem dX9_testAll_2 : decode cX9_testAll 2 = .ok (.iload_n 1, 1) := by decide +kernel
theorem dX9_testAll_3 : decode cX9_testAll 3 = .ok (.aload_n 0, 1) := by decide +kernel
theorem dX9_testAll_4 : decode cX9_testAll 4 = .ok (.getfield 149, 3) := by decide +kernel
theorem dX9_testAll_7 : decode cX9_testAll 7 = .ok (.if_icmp .ge 265, 3) := by decide +kernel
theorem dX9_testAll_10 : decode cX9_testAll 10 = .ok (.aload_n 0, 1) := by decide +kernel
theorem dX9_testAll_11 : decode cX9_testAll 11 = .ok (.aload_n 0, 1) := by decide +kernel
theorem dX9_testAll_12 : decode cX9_testAll 12 = .ok (.getfield 29, 3) := by decide +kernel
theorem dX9_testAll_15 : decode cX9_testAll 15 = .ok (.bipush 40, 2) := by decide +kernel
theorem dX9_testAll_17 : decode cX9_testAll 17 = .ok (.aload_n 0, 1) := by decide +kernel
theorem dX9_testAll_18 : decode cX9_testAll 18 = .ok (.getfield 101, 3) := by decide +kernel
theorem dX9_testAll_21 : decode cX9_testAll 21 = .ok (.imul, 1) := by decide +kernel
theorem dX9_testAll_22 : decode cX9_testAll 22 = .ok (.iload_n 1, 1) := by decide +kernel
theorem dX9_testAll_23 : decode cX9_testAll 23 = .ok (.iadd, 1) := by decide +kernel
theorem dX9_testAll_24 : decode cX9_testAll 24 = .ok (.iaload, 1) := by decide +kernel
theorem dX9_testAll_25 : decode cX9_testAll 25 = .ok (.iconst 0, 1) := by decide +kernel
theorem dX9_testAll_26 : decode cX9_testAll 26 = .ok (.invokevirtual 188, 3) := by decide +kernel
theorem dX9_testAll_29 : decode cX9_testAll 29 = .ok (.aload_n 0, 1) := by decide +kernel
theorem dX9_testAll_30 : decode cX9_testAll 30 = .ok (.getfield 63, 3) := by decide +kernel
theorem dX9_testAll_33 : decode cX9_testAll 33 = .ok (.iconst 0, 1) := by decide +kernel
theorem dX9_testAll_34 : decode cX9_testAll 34 = .ok (.aload_n 0, 1) := by decide +kernel
theorem dX9_testAll_35 : decode cX9_testAll 35 = .ok (.getfield 58, 3) := by decide +kernel
theorem dX9_testAll_38 : decode cX9_testAll 38 = .ok (.sipush 1024, 3) := by decide +kernel
theorem dX9_testAll_41 : decode cX9_testAll 41 = .ok (.iload_n 1, 1) := by decide +kernel
theorem dX9_testAll_42 : decode cX9_testAll 42 = .ok (.imul, 1) := by decide +kernel
theorem dX9_testAll_43 : decode cX9_testAll 43 = .ok (.sipush 1024, 3) := by decide +kernel
theorem dX9_testAll_46 : decode cX9_testAll 46 = .ok (.invokestatic 196, 3) := by decide +kernel
theorem dX9_testAll_49 : decode cX9_testAll 49 = .ok (.iconst 0, 1) := by decide +kernel
theorem dX9_testAll_50 : decode cX9_testAll 50 = .ok (.istore_n 2, 1) := by decide +kernel
theorem dX9_testAll_51 : decode cX9_testAll 51 = .ok (.iconst 0, 1) := by decide +kernel
theorem dX9_testAll_52 : decode cX9_testAll 52 = .ok (.istore_n 3, 1) := by decide +kernel
theorem dX9_testAll_53 : decode cX9_testAll 53 = .ok (.iload_n 3, 1) := by decide +kernel
theorem dX9_testAll_54 : decode cX9_testAll 54 = .ok (.aload_n 0, 1) := by decide +kernel
theorem dX9_testAll_55 : decode cX9_testAll 55 = .ok (.getfield 32, 3) := by decide +kernel
theorem dX9_testAll_58 : decode cX9_testAll 58 = .ok (.bipush 40, 2) := by decide +kernel
theorem dX9_testAll_60 : decode cX9_testAll 60 = .ok (.aload_n 0, 1) := by decide +kernel
theorem dX9_testAll_61 : decode cX9_testAll 61 = .ok (.getfield 101, 3) := by decide +kernel
theorem dX9_testAll_64 : decode cX9_testAll 64 = .ok (.imul, 1) := by decide +kernel
theorem dX9_testAll_65 : decode cX9_testAll 65 = .ok (.iload_n 1, 1) := by decide +kernel
theorem dX9_testAll_66 : decode cX9_testAll 66 = .ok (.iadd, 1) := by decide +kernel
theorem dX9_testAll_67 : decode cX9_testAll 67 = .ok (.iaload, 1) := by decide +kernel
theorem dX9_testAll_68 : decode cX9_testAll 68 = .ok (.if_icmp .ge 183, 3) := by decide +kernel
theorem dX9_testAll_71 : decode cX9_testAll 71 = .ok (.iload_n 2, 1) := by decide +kernel
theorem dX9_testAll_72 : decode cX9_testAll 72 = .ok (.ifCond .ne 179, 3) := by decide +kernel
theorem dX9_testAll_75 : decode cX9_testAll 75 = .ok (.aload_n 0, 1) := by decide +kernel
theorem dX9_testAll_76 : decode cX9_testAll 76 = .ok (.getfield 35, 3) := by decide +kernel
theorem dX9_testAll_79 : decode cX9_testAll 79 = .ok (.bipush 8, 2) := by decide +kernel
theorem dX9_testAll_81 : decode cX9_testAll 81 = .ok (.bipush 40, 2) := by decide +kernel
theorem dX9_testAll_83 : decode cX9_testAll 83 = .ok (.aload_n 0, 1) := by decide +kernel
theorem dX9_testAll_84 : decode cX9_testAll 84 = .ok (.getfield 101, 3) := by decide +kernel
theorem dX9_testAll_87 : decode cX9_testAll 87 = .ok (.imul, 1) := by decide +kernel
theorem dX9_testAll_88 : decode cX9_testAll 88 = .ok (.iload_n 1, 1) := by decide +kernel
theorem dX9_testAll_89 : decode cX9_testAll 89 = .ok (.iadd, 1) := by decide +kernel
theorem dX9_testAll_90 : decode cX9_testAll 90 = .ok (.imul, 1) := by decide +kernel
theorem dX9_testAll_91 : decode cX9_testAll 91 = .ok (.iload_n 3, 1) := by decide +kernel
theorem dX9_testAll_92 : decode cX9_testAll 92 = .ok (.iadd, 1) := by decide +kernel
theorem dX9_testAll_93 : decode cX9_testAll 93 = .ok (.iaload, 1) := by decide +kernel
theorem dX9_testAll_94 : decode cX9_testAll 94 = .ok (.istore 4, 2) := by decide +kernel
theorem dX9_testAll_96 : decode cX9_testAll 96 = .ok (.iconst 0, 1) := by decide +kernel
theorem dX9_testAll_97 : decode cX9_testAll 97 = .ok (.istore 5, 2) := by decide +kernel
theorem dX9_testAll_99 : decode cX9_testAll 99 = .ok (.iload 5, 2) := by decide +kernel
theorem dX9_testAll_101 : decode cX9_testAll 101 = .ok (.sipush 1024, 3) := by decide +kernel
theorem dX9_testAll_104 : decode cX9_testAll 104 = .ok (.if_icmp .ge 17, 3) := by decide +kernel
theorem dX9_testAll_107 : decode cX9_testAll 107 = .ok (.aload_n 0, 1) := by decide +kernel
theorem dX9_testAll_108 : decode cX9_testAll 108 = .ok (.getfield 66, 3) := by decide +kernel
theorem dX9_testAll_111 : decode cX9_testAll 111 = .ok (.iload 5, 2) := by decide +kernel
theorem dX9_testAll_113 : decode cX9_testAll 113 = .ok (.lconst 0, 1) := by decide +kernel
theorem dX9_testAll_114 : decode cX9_testAll 114 = .ok (.lastore, 1) := by decide +kernel
theorem dX9_testAll_115 : decode cX9_testAll 115 = .ok (.iinc 5 1, 3) := by decide +kernel
theorem dX9_testAll_118 : decode cX9_testAll 118 = .ok (.goto (-19), 3) := by decide +kernel
theorem dX9_testAll_121 : decode cX9_testAll 121 = .ok (.iconst 0, 1) := by decide +kernel
theorem dX9_testAll_122 : decode cX9_testAll 122 = .ok (.istore 5, 2) := by decide +kernel
theorem dX9_testAll_124 : decode cX9_testAll 124 = .ok (.iload 5, 2) := by decide +kernel
theorem dX9_testAll_126 : decode cX9_testAll 126 = .ok (.iload_n 1, 1) := by decide +kernel
theorem dX9_testAll_127 : decode cX9_testAll 127 = .ok (.if_icmp .ge 61, 3) := by decide +kernel
theorem dX9_testAll_130 : decode cX9_testAll 130 = .ok (.iconst 0, 1) := by decide +kernel
theorem dX9_testAll_131 : decode cX9_testAll 131 = .ok (.istore 6, 2) := by decide +kernel
theorem dX9_testAll_133 : decode cX9_testAll 133 = .ok (.iload 6, 2) := by decide +kernel
theorem dX9_testAll_135 : decode cX9_testAll 135 = .ok (.sipush 1024, 3) := by decide +kernel
theorem dX9_testAll_138 : decode cX9_testAll 138 = .ok (.if_icmp .ge 44, 3) := by decide +kernel
theorem dX9_testAll_141 : decode cX9_testAll 141 = .ok (.aload_n 0, 1) := by decide +kernel
theorem dX9_testAll_142 : decode cX9_testAll 142 = .ok (.iload 5, 2) := by decide +kernel
theorem dX9_testAll_144 : decode cX9_testAll 144 = .ok (.iload 4, 2) := by decide +kernel
theorem dX9_testAll_146 : decode cX9_testAll 146 = .ok (.invokevirtual 167, 3) := by decide +kernel
theorem dX9_testAll_149 : decode cX9_testAll 149 = .ok (.ifCond .eq 33, 3) := by decide +kernel
theorem dX9_testAll_152 : decode cX9_testAll 152 = .ok (.aload_n 0, 1) := by decide +kernel
theorem dX9_testAll_153 : decode cX9_testAll 153 = .ok (.getfield 66, 3) := by decide +kernel
theorem dX9_testAll_156 : decode cX9_testAll 156 = .ok (.iload 6, 2) := by decide +kernel
theorem dX9_testAll_158 : decode cX9_testAll 158 = .ok (.dup2, 1) := by decide +kernel
theorem dX9_testAll_159 : decode cX9_testAll 159 = .ok (.laload, 1) := by decide +kernel
theorem dX9_testAll_160 : decode cX9_testAll 160 = .ok (.aload_n 0, 1) := by decide +kernel
theorem dX9_testAll_161 : decode cX9_testAll 161 = .ok (.getfield 58, 3) := by decide +kernel
theorem dX9_testAll_164 : decode cX9_testAll 164 = .ok (.sipush 1024, 3) := by decide +kernel
theorem dX9_testAll_167 : decode cX9_testAll 167 = .ok (.iload 5, 2) := by decide +kernel
theorem dX9_testAll_169 : decode cX9_testAll 169 = .ok (.imul, 1) := by decide +kernel
theorem dX9_testAll_170 : decode cX9_testAll 170 = .ok (.iload 6, 2) := by decide +kernel
theorem dX9_testAll_172 : decode cX9_testAll 172 = .ok (.iadd, 1) := by decide +kernel
theorem dX9_testAll_173 : decode cX9_testAll 173 = .ok (.laload, 1) := by decide +kernel
theorem dX9_testAll_174 : decode cX9_testAll 174 = .ok (.lor, 1) := by decide +kernel
theorem dX9_testAll_175 : decode cX9_testAll 175 = .ok (.lastore, 1) := by decide +kernel
theorem dX9_testAll_176 : decode cX9_testAll 176 = .ok (.iinc 6 1, 3) := by decide +kernel
theorem dX9_testAll_179 : decode cX9_testAll 179 = .ok (.goto (-46), 3) := by decide +kernel
theorem dX9_testAll_182 : decode cX9_testAll 182 = .ok (.iinc 5 1, 3) := by decide +kernel
theorem dX9_testAll_185 : decode cX9_testAll 185 = .ok (.goto (-61), 3) := by decide +kernel
theorem dX9_testAll_188 : decode cX9_testAll 188 = .ok (.iconst 0, 1) := by decide +kernel
theorem dX9_testAll_189 : decode cX9_testAll 189 = .ok (.istore 5, 2) := by decide +kernel
theorem dX9_testAll_191 : decode cX9_testAll 191 = .ok (.iload 5, 2) := by decide +kernel
theorem dX9_testAll_193 : decode cX9_testAll 193 = .ok (.sipush 1024, 3) := by decide +kernel
theorem dX9_testAll_196 : decode cX9_testAll 196 = .ok (.if_icmp .ge 49, 3) := by decide +kernel
theorem dX9_testAll_199 : decode cX9_testAll 199 = .ok (.iload_n 2, 1) := by decide +kernel
theorem dX9_testAll_200 : decode cX9_testAll 200 = .ok (.ifCond .ne 45, 3) := by decide +kernel
theorem dX9_testAll_203 : decode cX9_testAll 203 = .ok (.aload_n 0, 1) := by decide +kernel
theorem dX9_testAll_204 : decode cX9_testAll 204 = .ok (.getfield 58, 3) := by decide +kernel
theorem dX9_testAll_207 : decode cX9_testAll 207 = .ok (.sipush 1024, 3) := by decide +kernel
theorem dX9_testAll_210 : decode cX9_testAll 210 = .ok (.iload_n 1, 1) := by decide +kernel
theorem dX9_testAll_211 : decode cX9_testAll 211 = .ok (.imul, 1) := by decide +kernel
theorem dX9_testAll_212 : decode cX9_testAll 212 = .ok (.iload 5, 2) := by decide +kernel
theorem dX9_testAll_214 : decode cX9_testAll 214 = .ok (.iadd, 1) := by decide +kernel
theorem dX9_testAll_215 : decode cX9_testAll 215 = .ok (.laload, 1) := by decide +kernel
theorem dX9_testAll_216 : decode cX9_testAll 216 = .ok (.aload_n 0, 1) := by decide +kernel
theorem dX9_testAll_217 : decode cX9_testAll 217 = .ok (.getfield 66, 3) := by decide +kernel
theorem dX9_testAll_220 : decode cX9_testAll 220 = .ok (.iload 5, 2) := by decide +kernel
theorem dX9_testAll_222 : decode cX9_testAll 222 = .ok (.laload, 1) := by decide +kernel
theorem dX9_testAll_223 : decode cX9_testAll 223 = .ok (.ldc2_w 186, 3) := by decide +kernel
theorem dX9_testAll_226 : decode cX9_testAll 226 = .ok (.lxor, 1) := by decide +kernel
theorem dX9_testAll_227 : decode cX9_testAll 227 = .ok (.land, 1) := by decide +kernel
theorem dX9_testAll_228 : decode cX9_testAll 228 = .ok (.lconst 0, 1) := by decide +kernel
theorem dX9_testAll_229 : decode cX9_testAll 229 = .ok (.lcmp, 1) := by decide +kernel
theorem dX9_testAll_230 : decode cX9_testAll 230 = .ok (.ifCond .eq 7, 3) := by decide +kernel
theorem dX9_testAll_233 : decode cX9_testAll 233 = .ok (.iconst 1, 1) := by decide +kernel
theorem dX9_testAll_234 : decode cX9_testAll 234 = .ok (.goto 4, 3) := by decide +kernel
theorem dX9_testAll_237 : decode cX9_testAll 237 = .ok (.iconst 0, 1) := by decide +kernel
theorem dX9_testAll_238 : decode cX9_testAll 238 = .ok (.istore_n 2, 1) := by decide +kernel
theorem dX9_testAll_239 : decode cX9_testAll 239 = .ok (.iinc 5 1, 3) := by decide +kernel
theorem dX9_testAll_242 : decode cX9_testAll 242 = .ok (.goto (-51), 3) := by decide +kernel
theorem dX9_testAll_245 : decode cX9_testAll 245 = .ok (.iinc 3 1, 3) := by decide +kernel
theorem dX9_testAll_248 : decode cX9_testAll 248 = .ok (.goto (-195), 3) := by decide +kernel
theorem dX9_testAll_251 : decode cX9_testAll 251 = .ok (.aload_n 0, 1) := by decide +kernel
theorem dX9_testAll_252 : decode cX9_testAll 252 = .ok (.getfield 69, 3) := by decide +kernel
theorem dX9_testAll_255 : decode cX9_testAll 255 = .ok (.iload_n 1, 1) := by decide +kernel
theorem dX9_testAll_256 : decode cX9_testAll 256 = .ok (.iload_n 2, 1) := by decide +kernel
theorem dX9_testAll_257 : decode cX9_testAll 257 = .ok (.ifCond .ne 7, 3) := by decide +kernel
theorem dX9_testAll_260 : decode cX9_testAll 260 = .ok (.iconst 1, 1) := by decide +kernel
theorem dX9_testAll_261 : decode cX9_testAll 261 = .ok (.goto 4, 3) := by decide +kernel
theorem dX9_testAll_264 : decode cX9_testAll 264 = .ok (.iconst 0, 1) := by decide +kernel
theorem dX9_testAll_265 : decode cX9_testAll 265 = .ok (.bastore, 1) := by decide +kernel
theorem dX9_testAll_266 : decode cX9_testAll 266 = .ok (.iinc 1 1, 3) := by decide +kernel
theorem dX9_testAll_269 : decode cX9_testAll 269 = .ok (.goto (-267), 3) := by decide +kernel
theorem dX9_testAll_272 : decode cX9_testAll 272 = .ok (.aload_n 0, 1) := by decide +kernel
theorem dX9_testAll_273 : decode cX9_testAll 273 = .ok (.iconst 1, 1) := by decide +kernel
theorem dX9_testAll_274 : decode cX9_testAll 274 = .ok (.putfield 152, 3) := by decide +kernel
theorem dX9_testAll_277 : decode cX9_testAll 277 = .ok (.return_, 1) := by decide +kernel
set_option maxRecDepth 20000 in
theorem ggX9_test_X9_testAll : GoodIn wsX9_test wsX9_testAll := goodIn_r _ [8, 2, 9, 10, 11, 12, 13, 14, 15, 16, 17, 18, 19, 20, 3, 1, 21, 22, 23, 7, 24, 25, 26, 27, 28, 29, 30, 31, 32, 33, 34, 35, 36, 37, 38, 39, 40, 41, 42, 43, 44, 45, 46, 47, 48, 49, 50, 51, 52, 53, 54, 55, 56, 57, 58, 59, 60, 61, 62, 63, 64, 65, 66, 67, 68, 69, 70, 71, 72] (by decide +kernel) (by decide +kernel)
set_option maxRecDepth 20000 in
theorem gX9_test_X9_testAll : GoodIn wsX9_test (wsV RX9 202 RX9 yX9_testAll wsX9_testAll) := goodIn_app (goodIn_of _ (by decide +kernel)) ggX9_test_X9_testAll
theorem dX9_test_0 : decode cX9_test 0 = .ok (.aload_n 0, 1) := by decide +kernel
theorem dX9_test_1 : decode cX9_test 1 = .ok (.getfield 152, 3) := by decide +kernel
theorem dX9_test_4 : decode cX9_test 4 = .ok (.ifCond .ne 7, 3) := by decide +kernel
theorem dX9_test_7 : decode cX9_test 7 = .ok (.aload_n 0, 1) := by decide +kernel
theorem dX9_test_8 : decode cX9_test 8 = .ok (.invokevirtual 202, 3) := by decide +kernel
theorem dX9_test_11 : decode cX9_test 11 = .ok (.iload_n 1, 1) := by decide +kernel
theorem dX9_test_12 : decode cX9_test 12 = .ok (.istore_n 2, 1) := by decide +kernel
theorem dX9_test_13 : decode cX9_test 13 = .ok (.iconst 0, 1) := by decide +kernel
theorem dX9_test_14 : decode cX9_test 14 = .ok (.istore_n 3, 1) := by decide +kernel
theorem dX9_test_15 : decode cX9_test 15 = .ok (.iload_n 3, 1) := by decide +kernel
theorem dX9_test_16 : decode cX9_test 16 = .ok (.aload_n 0, 1) := by decide +kernel
theorem dX9_test_17 : decode cX9_test 17 = .ok (.getfield 149, 3) := by decide +kernel
theorem dX9_test_20 : decode cX9_test 20 = .ok (.if_icmp .ge 33, 3) := by decide +kernel
theorem dX9_test_23 : decode cX9_test 23 = .ok (.iload_n 2, 1) := by decide +kernel
theorem dX9_test_24 : decode cX9_test 24 = .ok (.ifCond .lt 29, 3) := by decide +kernel
theorem dX9_test_27 : decode cX9_test 27 = .ok (.aload_n 0, 1) := by decide +kernel
theorem dX9_test_28 : decode cX9_test 28 = .ok (.getfield 69, 3) := by decide +kernel
theorem dX9_test_31 : decode cX9_test 31 = .ok (.iload_n 3, 1) := by decide +kernel
theorem dX9_test_32 : decode cX9_test 32 = .ok (.baload, 1) := by decide +kernel
theorem dX9_test_33 : decode cX9_test 33 = .ok (.ifCond .eq 14, 3) := by decide +kernel
theorem dX9_test_36 : decode cX9_test 36 = .ok (.iload_n 2, 1) := by decide +kernel
theorem dX9_test_37 : decode cX9_test 37 = .ok (.ifCond .ne 7, 3) := by decide +kernel
theorem dX9_test_40 : decode cX9_test 40 = .ok (.iload_n 3, 1) := by decide +kernel
theorem dX9_test_41 : decode cX9_test 41 = .ok (.iconst 1, 1) := by decide +kernel
theorem dX9_test_42 : decode cX9_test 42 = .ok (.iadd, 1) := by decide +kernel
theorem dX9_test_43 : decode cX9_test 43 = .ok (.ireturn, 1) := by decide +kernel
theorem dX9_test_44 : decode cX9_test 44 = .ok (.iinc 2 (-1), 3) := by decide +kernel
theorem dX9_test_47 : decode cX9_test 47 = .ok (.iinc 3 1, 3) := by decide +kernel
theorem dX9_test_50 : decode cX9_test 50 = .ok (.goto (-35), 3) := by decide +kernel
theorem dX9_test_53 : decode cX9_test 53 = .ok (.iconst (-1), 1) := by decide +kernel
theorem dX9_test_54 : decode cX9_test 54 = .ok (.ireturn, 1) := by decide +kernel
set_option maxRecDepth 20000 in
theorem ggX9_row_X9_isRow : GoodIn wsX9_row wsX9_isRow := goodIn_r _ [13, 14, 28, 29, 30, 31, 32, 33, 34, 35, 36, 37, 38, 39, 40, 41, 42, 43, 44, 45, 46, 47, 48, 49, 50, 51, 52, 53, 54, 55, 56, 57, 58, 59] (by decide +kernel) (by decide +kernel)
set_option maxRecDepth 20000 in
theorem gX9_row_X9_isRow : GoodIn wsX9_row (wsV RX9 171 RX9 yX9_isRow wsX9_isRow) := goodIn_app (goodIn_of _ (by decide +kernel)) ggX9_row_X9_isRow
set_option maxRecDepth 20000 in
theorem ggX9_row_X9_isOn : GoodIn wsX9_row wsX9_isOn := goodIn_r _ [18, 19, 1, 20, 21, 22, 12, 23, 24, 25, 26, 27, 28, 29, 30, 31, 32, 33, 34, 35, 36, 37, 38, 39, 40, 41, 42, 43, 44, 45, 46, 47, 48, 49, 50, 51, 52, 53, 54, 55, 56, 57, 58, 59] (by decide +kernel) (by decide +kernel)
set_option maxRecDepth 20000 in
theorem gX9_row_X9_isOn : GoodIn wsX9_row (wsV RX9 163 RX9 yX9_isOn wsX9_isOn) := goodIn_app (goodIn_of _ (by decide +kernel)) ggX9_row_X9_isOn
theorem dX9_row_0 : decode cX9_row 0 = .ok (.aload_n 0, 1) := by decide +kernel
theorem dX9_row_1 : decode cX9_row 1 = .ok (.iload_n 1, 1) := by decide +kernel
theorem dX9_row_2 : decode cX9_row 2 = .ok (.invokevirtual 171, 3) := by decide +kernel
theorem dX9_row_5 : decode cX9_row 5 = .ok (.ifCond .ne 5, 3) := by decide +kernel
theorem dX9_row_8 : decode cX9_row 8 = .ok (.iconst (-1), 1) := by decide +kernel
theorem dX9_row_9 : decode cX9_row 9 = .ok (.ireturn, 1) := by decide +kernel
theorem dX9_row_10 : decode cX9_row 10 = .ok (.bipush 40, 2) := by decide +kernel
theorem dX9_row_12 : decode cX9_row 12 = .ok (.aload_n 0, 1) := by decide +kernel
theorem dX9_row_13 : decode cX9_row 13 = .ok (.getfield 101, 3) := by decide +kernel
theorem dX9_row_16 : decode cX9_row 16 = .ok (.imul, 1) := by decide +kernel
theorem dX9_row_17 : decode cX9_row 17 = .ok (.iload_n 1, 1) := by decide +kernel
theorem dX9_row_18 : decode cX9_row 18 = .ok (.iadd, 1) := by decide +kernel
theorem dX9_row_19 : decode cX9_row 19 = .ok (.iconst 1, 1) := by decide +kernel
theorem dX9_row_20 : decode cX9_row 20 = .ok (.isub, 1) := by decide +kernel
theorem dX9_row_21 : decode cX9_row 21 = .ok (.istore_n 3, 1) := by decide +kernel
theorem dX9_row_22 : decode cX9_row 22 = .ok (.iload_n 2, 1) := by decide +kernel
theorem dX9_row_23 : decode cX9_row 23 = .ok (.tableswitch 132 0 7 #[45, 52, 59, 74, 83, 100, 109, 116], 45) := by decide +kernel
theorem dX9_row_68 : decode cX9_row 68 = .ok (.aload_n 0, 1) := by decide +kernel
theorem dX9_row_69 : decode cX9_row 69 = .ok (.getfield 32, 3) := by decide +kernel
theorem dX9_row_72 : decode cX9_row 72 = .ok (.iload_n 3, 1) := by decide +kernel
theorem dX9_row_73 : decode cX9_row 73 = .ok (.iaload, 1) := by decide +kernel
theorem dX9_row_74 : decode cX9_row 74 = .ok (.ireturn, 1) := by decide +kernel
theorem dX9_row_75 : decode cX9_row 75 = .ok (.aload_n 0, 1) := by decide +kernel
theorem dX9_row_76 : decode cX9_row 76 = .ok (.getfield 38, 3) := by decide +kernel
theorem dX9_row_79 : decode cX9_row 79 = .ok (.iload_n 3, 1) := by decide +kernel
theorem dX9_row_80 : decode cX9_row 80 = .ok (.iaload, 1) := by decide +kernel
theorem dX9_row_81 : decode cX9_row 81 = .ok (.ireturn, 1) := by decide +kernel
theorem dX9_row_82 : decode cX9_row 82 = .ok (.aload_n 0, 1) := by decide +kernel
theorem dX9_row_83 : decode cX9_row 83 = .ok (.getfield 41, 3) := by decide +kernel
theorem dX9_row_86 : decode cX9_row 86 = .ok (.iload_n 3, 1) := by decide +kernel
theorem dX9_row_87 : decode cX9_row 87 = .ok (.baload, 1) := by decide +kernel
theorem dX9_row_88 : decode cX9_row 88 = .ok (.ifCond .eq 7, 3) := by decide +kernel
theorem dX9_row_91 : decode cX9_row 91 = .ok (.iconst 1, 1) := by decide +kernel
theorem dX9_row_92 : decode cX9_row 92 = .ok (.goto 4, 3) := by decide +kernel
theorem dX9_row_95 : decode cX9_row 95 = .ok (.iconst 0, 1) := by decide +kernel
theorem dX9_row_96 : decode cX9_row 96 = .ok (.ireturn, 1) := by decide +kernel
theorem dX9_row_97 : decode cX9_row 97 = .ok (.aload_n 0, 1) := by decide +kernel
theorem dX9_row_98 : decode cX9_row 98 = .ok (.getfield 48, 3) := by decide +kernel
theorem dX9_row_101 : decode cX9_row 101 = .ok (.iload_n 1, 1) := by decide +kernel
theorem dX9_row_102 : decode cX9_row 102 = .ok (.iconst 1, 1) := by decide +kernel
theorem dX9_row_103 : decode cX9_row 103 = .ok (.isub, 1) := by decide +kernel
theorem dX9_row_104 : decode cX9_row 104 = .ok (.iaload, 1) := by decide +kernel
theorem dX9_row_105 : decode cX9_row 105 = .ok (.ireturn, 1) := by decide +kernel
theorem dX9_row_106 : decode cX9_row 106 = .ok (.aload_n 0, 1) := by decide +kernel
theorem dX9_row_107 : decode cX9_row 107 = .ok (.getfield 51, 3) := by decide +kernel
theorem dX9_row_110 : decode cX9_row 110 = .ok (.iload_n 1, 1) := by decide +kernel
theorem dX9_row_111 : decode cX9_row 111 = .ok (.iconst 1, 1) := by decide +kernel
theorem dX9_row_112 : decode cX9_row 112 = .ok (.isub, 1) := by decide +kernel
theorem dX9_row_113 : decode cX9_row 113 = .ok (.baload, 1) := by decide +kernel
theorem dX9_row_114 : decode cX9_row 114 = .ok (.ifCond .eq 7, 3) := by decide +kernel
theorem dX9_row_117 : decode cX9_row 117 = .ok (.iconst 1, 1) := by decide +kernel
theorem dX9_row_118 : decode cX9_row 118 = .ok (.goto 4, 3) := by decide +kernel
end
section
theorem dX9_row_121 : decode cX9_row 121 = .ok (.iconst 0, 1) := by decide +kernel
theorem dX9_row_122 : decode cX9_row 122 = .ok (.ireturn, 1) := by decide +kernel
theorem dX9_row_123 : decode cX9_row 123 = .ok (.aload_n 0, 1) := by decide +kernel
theorem dX9_row_124 : decode cX9_row 124 = .ok (.getfield 54, 3) := by decide +kernel
theorem dX9_row_127 : decode cX9_row 127 = .ok (.iload_n 1, 1) := by decide +kernel
theorem dX9_row_128 : decode cX9_row 128 = .ok (.iconst 1, 1) := by decide +kernel
theorem dX9_row_129 : decode cX9_row 129 = .ok (.isub, 1) := by decide +kernel
theorem dX9_row_130 : decode cX9_row 130 = .ok (.iaload, 1) := by decide +kernel
theorem dX9_row_131 : decode cX9_row 131 = .ok (.ireturn, 1) := by decide +kernel
theorem dX9_row_132 : decode cX9_row 132 = .ok (.aload_n 0, 1) := by decide +kernel
theorem dX9_row_133 : decode cX9_row 133 = .ok (.getfield 45, 3) := by decide +kernel
theorem dX9_row_136 : decode cX9_row 136 = .ok (.iload_n 3, 1) := by decide +kernel
theorem dX9_row_137 : decode cX9_row 137 = .ok (.iaload, 1) := by decide +kernel
theorem dX9_row_138 : decode cX9_row 138 = .ok (.ireturn, 1) := by decide +kernel
theorem dX9_row_139 : decode cX9_row 139 = .ok (.aload_n 0, 1) := by decide +kernel
theorem dX9_row_140 : decode cX9_row 140 = .ok (.iload_n 1, 1) := by decide +kernel
theorem dX9_row_141 : decode cX9_row 141 = .ok (.iconst 1, 1) := by decide +kernel
theorem dX9_row_142 : decode cX9_row 142 = .ok (.isub, 1) := by decide +kernel
theorem dX9_row_143 : decode cX9_row 143 = .ok (.invokevirtual 163, 3) := by decide +kernel
theorem dX9_row_146 : decode cX9_row 146 = .ok (.ifCond .eq 7, 3) := by decide +kernel
theorem dX9_row_149 : decode cX9_row 149 = .ok (.iconst 1, 1) := by decide +kernel
theorem dX9_row_150 : decode cX9_row 150 = .ok (.goto 4, 3) := by decide +kernel
theorem dX9_row_153 : decode cX9_row 153 = .ok (.iconst 0, 1) := by decide +kernel
theorem dX9_row_154 : decode cX9_row 154 = .ok (.ireturn, 1) := by decide +kernel
theorem dX9_row_155 : decode cX9_row 155 = .ok (.iconst (-1), 1) := by decide +kernel
theorem dX9_row_156 : decode cX9_row 156 = .ok (.ireturn, 1) := by decide +kernel
theorem dX9_say_0 : decode cX9_say 0 = .ok (.aload_n 0, 1) := by decide +kernel
theorem dX9_say_1 : decode cX9_say 1 = .ok (.getfield 205, 3) := by decide +kernel
theorem dX9_say_4 : decode cX9_say 4 = .ok (.aload_n 0, 1) := by decide +kernel
theorem dX9_say_5 : decode cX9_say 5 = .ok (.getfield 72, 3) := by decide +kernel
theorem dX9_say_8 : decode cX9_say 8 = .ok (.arraylength, 1) := by decide +kernel
theorem dX9_say_9 : decode cX9_say 9 = .ok (.if_icmp .ne 31, 3) := by decide +kernel
theorem dX9_say_12 : decode cX9_say 12 = .ok (.iconst 2, 1) := by decide +kernel
theorem dX9_say_13 : decode cX9_say 13 = .ok (.aload_n 0, 1) := by decide +kernel
theorem dX9_say_14 : decode cX9_say 14 = .ok (.getfield 205, 3) := by decide +kernel
theorem dX9_say_17 : decode cX9_say 17 = .ok (.imul, 1) := by decide +kernel
theorem dX9_say_18 : decode cX9_say 18 = .ok (.newarray .byte, 2) := by decide +kernel
theorem dX9_say_20 : decode cX9_say 20 = .ok (.astore_n 2, 1) := by decide +kernel
theorem dX9_say_21 : decode cX9_say 21 = .ok (.aload_n 0, 1) := by decide +kernel
theorem dX9_say_22 : decode cX9_say 22 = .ok (.getfield 72, 3) := by decide +kernel
theorem dX9_say_25 : decode cX9_say 25 = .ok (.iconst 0, 1) := by decide +kernel
theorem dX9_say_26 : decode cX9_say 26 = .ok (.aload_n 2, 1) := by decide +kernel
theorem dX9_say_27 : decode cX9_say 27 = .ok (.iconst 0, 1) := by decide +kernel
theorem dX9_say_28 : decode cX9_say 28 = .ok (.aload_n 0, 1) := by decide +kernel
theorem dX9_say_29 : decode cX9_say 29 = .ok (.getfield 205, 3) := by decide +kernel
theorem dX9_say_32 : decode cX9_say 32 = .ok (.invokestatic 196, 3) := by decide +kernel
theorem dX9_say_35 : decode cX9_say 35 = .ok (.aload_n 0, 1) := by decide +kernel
theorem dX9_say_36 : decode cX9_say 36 = .ok (.aload_n 2, 1) := by decide +kernel
theorem dX9_say_37 : decode cX9_say 37 = .ok (.putfield 72, 3) := by decide +kernel
theorem dX9_say_40 : decode cX9_say 40 = .ok (.aload_n 0, 1) := by decide +kernel
theorem dX9_say_41 : decode cX9_say 41 = .ok (.getfield 72, 3) := by decide +kernel
theorem dX9_say_44 : decode cX9_say 44 = .ok (.aload_n 0, 1) := by decide +kernel
theorem dX9_say_45 : decode cX9_say 45 = .ok (.getfield 205, 3) := by decide +kernel
theorem dX9_say_48 : decode cX9_say 48 = .ok (.iload_n 1, 1) := by decide +kernel
theorem dX9_say_49 : decode cX9_say 49 = .ok (.i2b, 1) := by decide +kernel
theorem dX9_say_50 : decode cX9_say 50 = .ok (.bastore, 1) := by decide +kernel
theorem dX9_say_51 : decode cX9_say 51 = .ok (.aload_n 0, 1) := by decide +kernel
theorem dX9_say_52 : decode cX9_say 52 = .ok (.dup, 1) := by decide +kernel
theorem dX9_say_53 : decode cX9_say 53 = .ok (.getfield 205, 3) := by decide +kernel
theorem dX9_say_56 : decode cX9_say 56 = .ok (.iconst 1, 1) := by decide +kernel
theorem dX9_say_57 : decode cX9_say 57 = .ok (.iadd, 1) := by decide +kernel
theorem dX9_say_58 : decode cX9_say 58 = .ok (.putfield 205, 3) := by decide +kernel
theorem dX9_say_61 : decode cX9_say 61 = .ok (.return_, 1) := by decide +kernel
set_option maxRecDepth 20000 in
theorem ggX9_say8_X9_say : GoodIn wsX9_say8 wsX9_say := goodIn_r _ [6, 7, 8, 9, 10, 11, 12, 13, 14, 15, 16, 17, 18, 19, 20, 21, 22, 23, 24, 25, 26, 27, 28, 29, 30, 31, 32, 33, 34, 35, 36, 37, 38, 39, 40, 41, 42, 43, 44, 45] (by decide +kernel) (by decide +kernel)
set_option maxRecDepth 20000 in
theorem gX9_say8_X9_say : GoodIn wsX9_say8 (wsV RX9 210 RX9 yX9_say wsX9_say) := goodIn_app (goodIn_of _ (by decide +kernel)) ggX9_say8_X9_say
theorem dX9_say8_0 : decode cX9_say8 0 = .ok (.lload_n 1, 1) := by decide +kernel
theorem dX9_say8_1 : decode cX9_say8 1 = .ok (.lstore_n 3, 1) := by decide +kernel
theorem dX9_say8_2 : decode cX9_say8 2 = .ok (.lload_n 3, 1) := by decide +kernel
theorem dX9_say8_3 : decode cX9_say8 3 = .ok (.lconst 0, 1) := by decide +kernel
theorem dX9_say8_4 : decode cX9_say8 4 = .ok (.lcmp, 1) := by decide +kernel
theorem dX9_say8_5 : decode cX9_say8 5 = .ok (.ifCond .eq 21, 3) := by decide +kernel
theorem dX9_say8_8 : decode cX9_say8 8 = .ok (.aload_n 0, 1) := by decide +kernel
theorem dX9_say8_9 : decode cX9_say8 9 = .ok (.lload_n 3, 1) := by decide +kernel
theorem dX9_say8_10 : decode cX9_say8 10 = .ok (.ldc2_w 208, 3) := by decide +kernel
theorem dX9_say8_13 : decode cX9_say8 13 = .ok (.land, 1) := by decide +kernel
theorem dX9_say8_14 : decode cX9_say8 14 = .ok (.l2i, 1) := by decide +kernel
theorem dX9_say8_15 : decode cX9_say8 15 = .ok (.invokevirtual 210, 3) := by decide +kernel
theorem dX9_say8_18 : decode cX9_say8 18 = .ok (.lload_n 3, 1) := by decide +kernel
theorem dX9_say8_19 : decode cX9_say8 19 = .ok (.bipush 8, 2) := by decide +kernel
theorem dX9_say8_21 : decode cX9_say8 21 = .ok (.lushr, 1) := by decide +kernel
theorem dX9_say8_22 : decode cX9_say8 22 = .ok (.lstore_n 3, 1) := by decide +kernel
theorem dX9_say8_23 : decode cX9_say8 23 = .ok (.goto (-21), 3) := by decide +kernel
theorem dX9_say8_26 : decode cX9_say8 26 = .ok (.return_, 1) := by decide +kernel
set_option maxRecDepth 20000 in
theorem ggX9_sayNumber_X9_say : GoodIn wsX9_sayNumber wsX9_say := goodIn_r _ [5, 6, 7, 8, 9, 10, 11, 12, 13, 14, 15, 16, 17, 18, 19, 20, 21, 22, 23, 24, 25, 26, 27, 28, 29, 30, 31, 32, 33, 34, 35, 36, 37, 38, 39, 40, 41, 42, 43, 44] (by decide +kernel) (by decide +kernel)
set_option maxRecDepth 20000 in
theorem gX9_sayNumber_X9_say : GoodIn wsX9_sayNumber (wsV RX9 210 RX9 yX9_say wsX9_say) := goodIn_app (goodIn_of _ (by decide +kernel)) ggX9_sayNumber_X9_say
theorem dX9_sayNumber_0 : decode cX9_sayNumber 0 = .ok (.iconst 1, 1) := by decide +kernel
theorem dX9_sayNumber_1 : decode cX9_sayNumber 1 = .ok (.istore_n 2, 1) := by decide +kernel
theorem dX9_sayNumber_2 : decode cX9_sayNumber 2 = .ok (.iload_n 1, 1) := by decide +kernel
theorem dX9_sayNumber_3 : decode cX9_sayNumber 3 = .ok (.iload_n 2, 1) := by decide +kernel
theorem dX9_sayNumber_4 : decode cX9_sayNumber 4 = .ok (.idiv, 1) := by decide +kernel
theorem dX9_sayNumber_5 : decode cX9_sayNumber 5 = .ok (.bipush 10, 2) := by decide +kernel
theorem dX9_sayNumber_7 : decode cX9_sayNumber 7 = .ok (.if_icmp .lt 11, 3) := by decide +kernel
theorem dX9_sayNumber_10 : decode cX9_sayNumber 10 = .ok (.iload_n 2, 1) := by decide +kernel
theorem dX9_sayNumber_11 : decode cX9_sayNumber 11 = .ok (.bipush 10, 2) := by decide +kernel
theorem dX9_sayNumber_13 : decode cX9_sayNumber 13 = .ok (.imul, 1) := by decide +kernel
theorem dX9_sayNumber_14 : decode cX9_sayNumber 14 = .ok (.istore_n 2, 1) := by decide +kernel
theorem dX9_sayNumber_15 : decode cX9_sayNumber 15 = .ok (.goto (-13), 3) := by decide +kernel
theorem dX9_sayNumber_18 : decode cX9_sayNumber 18 = .ok (.iload_n 2, 1) := by decide +kernel
theorem dX9_sayNumber_19 : decode cX9_sayNumber 19 = .ok (.istore_n 3, 1) := by decide +kernel
theorem dX9_sayNumber_20 : decode cX9_sayNumber 20 = .ok (.iload_n 3, 1) := by decide +kernel
theorem dX9_sayNumber_21 : decode cX9_sayNumber 21 = .ok (.ifCond .le 24, 3) := by decide +kernel
theorem dX9_sayNumber_24 : decode cX9_sayNumber 24 = .ok (.aload_n 0, 1) := by decide +kernel
theorem dX9_sayNumber_25 : decode cX9_sayNumber 25 = .ok (.bipush 48, 2) := by decide +kernel
theorem dX9_sayNumber_27 : decode cX9_sayNumber 27 = .ok (.iload_n 1, 1) := by decide +kernel
theorem dX9_sayNumber_28 : decode cX9_sayNumber 28 = .ok (.iload_n 3, 1) := by decide +kernel
theorem dX9_sayNumber_29 : decode cX9_sayNumber 29 = .ok (.idiv, 1) := by decide +kernel
theorem dX9_sayNumber_30 : decode cX9_sayNumber 30 = .ok (.bipush 10, 2) := by decide +kernel
theorem dX9_sayNumber_32 : decode cX9_sayNumber 32 = .ok (.irem, 1) := by decide +kernel
theorem dX9_sayNumber_33 : decode cX9_sayNumber 33 = .ok (.iadd, 1) := by decide +kernel
theorem dX9_sayNumber_34 : decode cX9_sayNumber 34 = .ok (.invokevirtual 210, 3) := by decide +kernel
theorem dX9_sayNumber_37 : decode cX9_sayNumber 37 = .ok (.iload_n 3, 1) := by decide +kernel
theorem dX9_sayNumber_38 : decode cX9_sayNumber 38 = .ok (.bipush 10, 2) := by decide +kernel
theorem dX9_sayNumber_40 : decode cX9_sayNumber 40 = .ok (.idiv, 1) := by decide +kernel
theorem dX9_sayNumber_41 : decode cX9_sayNumber 41 = .ok (.istore_n 3, 1) := by decide +kernel
theorem dX9_sayNumber_42 : decode cX9_sayNumber 42 = .ok (.goto (-22), 3) := by decide +kernel
theorem dX9_sayNumber_45 : decode cX9_sayNumber 45 = .ok (.return_, 1) := by decide +kernel
set_option maxRecDepth 20000 in
theorem ggX9_sayNode_X9_say : GoodIn wsX9_sayNode wsX9_say := goodIn_r _ [11, 12, 13, 14, 15, 16, 17, 18, 31, 32, 33, 34, 35, 36, 37, 38, 39, 40, 41, 42, 43, 44, 45, 46, 47, 48, 49, 50, 51, 52, 53, 54, 55, 56, 57, 58, 59, 60, 61, 62] (by decide +kernel) (by decide +kernel)
set_option maxRecDepth 20000 in
theorem gX9_sayNode_X9_say : GoodIn wsX9_sayNode (wsV RX9 210 RX9 yX9_say wsX9_say) := goodIn_app (goodIn_of _ (by decide +kernel)) ggX9_sayNode_X9_say
set_option maxRecDepth 20000 in
theorem ggX9_sayNode_X9_sayNumber : GoodIn wsX9_sayNode wsX9_sayNumber := goodIn_r _ [22, 7, 8, 9, 10, 11, 12, 13, 14, 15, 16, 17, 18, 31, 32, 33, 34, 35, 36, 37, 38, 39, 40, 41, 42, 43, 44, 45, 46, 47, 48, 49, 50, 51, 52, 53, 54, 55, 56, 57, 58, 59, 60, 61, 62] (by decide +kernel) (by decide +kernel)
set_option maxRecDepth 20000 in
theorem gX9_sayNode_X9_sayNumber : GoodIn wsX9_sayNode (wsV RX9 214 RX9 yX9_sayNumber wsX9_sayNumber) := goodIn_app (goodIn_of _ (by decide +kernel)) ggX9_sayNode_X9_sayNumber
set_option maxRecDepth 20000 in
theorem ggX9_sayNode_X9_say8 : GoodIn wsX9_sayNode wsX9_say8 := goodIn_r _ [26, 27, 7, 8, 9, 10, 11, 12, 13, 14, 15, 16, 17, 18, 31, 32, 33, 34, 35, 36, 37, 38, 39, 40, 41, 42, 43, 44, 45, 46, 47, 48, 49, 50, 51, 52, 53, 54, 55, 56, 57, 58, 59, 60, 61, 62] (by decide +kernel) (by decide +kernel)
set_option maxRecDepth 20000 in
theorem gX9_sayNode_X9_say8 : GoodIn wsX9_sayNode (wsV RX9 219 RX9 yX9_say8 wsX9_say8) := goodIn_app (goodIn_of _ (by decide +kernel)) ggX9_sayNode_X9_say8
set_option maxRecDepth 20000 in
theorem ggX9_sayNode_X9_sayNode : GoodIn wsX9_sayNode wsX9_sayNode := goodIn_r _ [0, 1, 2, 3, 4, 5, 6, 7, 8, 9, 10, 11, 12, 13, 14, 15, 16, 17, 18, 19, 20, 21, 22, 23, 24, 25, 26, 27, 28, 29, 30, 31, 32, 33, 34, 35, 36, 37, 38, 39, 40, 41, 42, 43, 44, 45, 46, 47, 48, 49, 50, 51, 52, 53, 54, 55, 56, 57, 58, 59, 60, 61, 62] (by decide +kernel) (by decide +kernel)
set_option maxRecDepth 20000 in
theorem gX9_sayNode_X9_sayNode : GoodIn wsX9_sayNode (wsV RX9 223 RX9 yX9_sayNode wsX9_sayNode) := goodIn_app (goodIn_of _ (by decide +kernel)) ggX9_sayNode_X9_sayNode
theorem dX9_sayNode_0 : decode cX9_sayNode 0 = .ok (.aload_n 0, 1) := by decide +kernel
theorem dX9_sayNode_1 : decode cX9_sayNode 1 = .ok (.getfield 20, 3) := by decide +kernel
theorem dX9_sayNode_4 : decode cX9_sayNode 4 = .ok (.iload_n 1, 1) := by decide +kernel
theorem dX9_sayNode_5 : decode cX9_sayNode 5 = .ok (.iaload, 1) := by decide +kernel
theorem dX9_sayNode_6 : decode cX9_sayNode 6 = .ok (.istore_n 3, 1) := by decide +kernel
theorem dX9_sayNode_7 : decode cX9_sayNode 7 = .ok (.iload_n 3, 1) := by decide +kernel
theorem dX9_sayNode_8 : decode cX9_sayNode 8 = .ok (.bipush 18, 2) := by decide +kernel
theorem dX9_sayNode_10 : decode cX9_sayNode 10 = .ok (.if_icmp .ne 7, 3) := by decide +kernel
theorem dX9_sayNode_13 : decode cX9_sayNode 13 = .ok (.iload_n 2, 1) := by decide +kernel
theorem dX9_sayNode_14 : decode cX9_sayNode 14 = .ok (.ifCond .gt 14, 3) := by decide +kernel
theorem dX9_sayNode_17 : decode cX9_sayNode 17 = .ok (.iload_n 3, 1) := by decide +kernel
theorem dX9_sayNode_18 : decode cX9_sayNode 18 = .ok (.bipush 17, 2) := by decide +kernel
theorem dX9_sayNode_20 : decode cX9_sayNode 20 = .ok (.if_icmp .ne 12, 3) := by decide +kernel
theorem dX9_sayNode_23 : decode cX9_sayNode 23 = .ok (.iload_n 2, 1) := by decide +kernel
theorem dX9_sayNode_24 : decode cX9_sayNode 24 = .ok (.iconst 1, 1) := by decide +kernel
theorem dX9_sayNode_25 : decode cX9_sayNode 25 = .ok (.if_icmp .ne 7, 3) := by decide +kernel
theorem dX9_sayNode_28 : decode cX9_sayNode 28 = .ok (.iconst 1, 1) := by decide +kernel
theorem dX9_sayNode_29 : decode cX9_sayNode 29 = .ok (.goto 4, 3) := by decide +kernel
theorem dX9_sayNode_32 : decode cX9_sayNode 32 = .ok (.iconst 0, 1) := by decide +kernel
theorem dX9_sayNode_33 : decode cX9_sayNode 33 = .ok (.istore 4, 2) := by decide +kernel
theorem dX9_sayNode_35 : decode cX9_sayNode 35 = .ok (.iload 4, 2) := by decide +kernel
theorem dX9_sayNode_37 : decode cX9_sayNode 37 = .ok (.ifCond .eq 9, 3) := by decide +kernel
theorem dX9_sayNode_40 : decode cX9_sayNode 40 = .ok (.aload_n 0, 1) := by decide +kernel
theorem dX9_sayNode_41 : decode cX9_sayNode 41 = .ok (.bipush 40, 2) := by decide +kernel
theorem dX9_sayNode_43 : decode cX9_sayNode 43 = .ok (.invokevirtual 210, 3) := by decide +kernel
theorem dX9_sayNode_46 : decode cX9_sayNode 46 = .ok (.iload_n 3, 1) := by decide +kernel
theorem dX9_sayNode_47 : decode cX9_sayNode 47 = .ok (.bipush 16, 2) := by decide +kernel
theorem dX9_sayNode_49 : decode cX9_sayNode 49 = .ok (.if_icmp .ge 17, 3) := by decide +kernel
theorem dX9_sayNode_52 : decode cX9_sayNode 52 = .ok (.aload_n 0, 1) := by decide +kernel
theorem dX9_sayNode_53 : decode cX9_sayNode 53 = .ok (.bipush 99, 2) := by decide +kernel
theorem dX9_sayNode_55 : decode cX9_sayNode 55 = .ok (.invokevirtual 210, 3) := by decide +kernel
theorem dX9_sayNode_58 : decode cX9_sayNode 58 = .ok (.aload_n 0, 1) := by decide +kernel
theorem dX9_sayNode_59 : decode cX9_sayNode 59 = .ok (.iload_n 3, 1) := by decide +kernel
theorem dX9_sayNode_60 : decode cX9_sayNode 60 = .ok (.invokevirtual 214, 3) := by decide +kernel
theorem dX9_sayNode_63 : decode cX9_sayNode 63 = .ok (.goto 91, 3) := by decide +kernel
theorem dX9_sayNode_66 : decode cX9_sayNode 66 = .ok (.iload_n 3, 1) := by decide +kernel
theorem dX9_sayNode_67 : decode cX9_sayNode 67 = .ok (.bipush 16, 2) := by decide +kernel
theorem dX9_sayNode_69 : decode cX9_sayNode 69 = .ok (.if_icmp .ne 24, 3) := by decide +kernel
theorem dX9_sayNode_72 : decode cX9_sayNode 72 = .ok (.aload_n 0, 1) := by decide +kernel
theorem dX9_sayNode_73 : decode cX9_sayNode 73 = .ok (.ldc2_w 217, 3) := by decide +kernel
theorem dX9_sayNode_76 : decode cX9_sayNode 76 = .ok (.invokevirtual 219, 3) := by decide +kernel
theorem dX9_sayNode_79 : decode cX9_sayNode 79 = .ok (.aload_n 0, 1) := by decide +kernel
theorem dX9_sayNode_80 : decode cX9_sayNode 80 = .ok (.aload_n 0, 1) := by decide +kernel
theorem dX9_sayNode_81 : decode cX9_sayNode 81 = .ok (.getfield 23, 3) := by decide +kernel
theorem dX9_sayNode_84 : decode cX9_sayNode 84 = .ok (.iload_n 1, 1) := by decide +kernel
theorem dX9_sayNode_85 : decode cX9_sayNode 85 = .ok (.iaload, 1) := by decide +kernel
theorem dX9_sayNode_86 : decode cX9_sayNode 86 = .ok (.iconst 1, 1) := by decide +kernel
theorem dX9_sayNode_87 : decode cX9_sayNode 87 = .ok (.invokevirtual 223, 3) := by decide +kernel
theorem dX9_sayNode_90 : decode cX9_sayNode 90 = .ok (.goto 64, 3) := by decide +kernel
theorem dX9_sayNode_93 : decode cX9_sayNode 93 = .ok (.aload_n 0, 1) := by decide +kernel
theorem dX9_sayNode_94 : decode cX9_sayNode 94 = .ok (.aload_n 0, 1) := by decide +kernel
theorem dX9_sayNode_95 : decode cX9_sayNode 95 = .ok (.getfield 23, 3) := by decide +kernel
theorem dX9_sayNode_98 : decode cX9_sayNode 98 = .ok (.iload_n 1, 1) := by decide +kernel
theorem dX9_sayNode_99 : decode cX9_sayNode 99 = .ok (.iaload, 1) := by decide +kernel
theorem dX9_sayNode_100 : decode cX9_sayNode 100 = .ok (.iload_n 3, 1) := by decide +kernel
theorem dX9_sayNode_101 : decode cX9_sayNode 101 = .ok (.bipush 17, 2) := by decide +kernel
theorem dX9_sayNode_103 : decode cX9_sayNode 103 = .ok (.if_icmp .ne 7, 3) := by decide +kernel
theorem dX9_sayNode_106 : decode cX9_sayNode 106 = .ok (.iconst 2, 1) := by decide +kernel
theorem dX9_sayNode_107 : decode cX9_sayNode 107 = .ok (.goto 4, 3) := by decide +kernel
theorem dX9_sayNode_110 : decode cX9_sayNode 110 = .ok (.iconst 0, 1) := by decide +kernel
theorem dX9_sayNode_111 : decode cX9_sayNode 111 = .ok (.invokevirtual 223, 3) := by decide +kernel
theorem dX9_sayNode_114 : decode cX9_sayNode 114 = .ok (.aload_n 0, 1) := by decide +kernel
theorem dX9_sayNode_115 : decode cX9_sayNode 115 = .ok (.iload_n 3, 1) := by decide +kernel
theorem dX9_sayNode_116 : decode cX9_sayNode 116 = .ok (.bipush 17, 2) := by decide +kernel
theorem dX9_sayNode_118 : decode cX9_sayNode 118 = .ok (.if_icmp .ne 9, 3) := by decide +kernel
theorem dX9_sayNode_121 : decode cX9_sayNode 121 = .ok (.ldc2_w 226, 3) := by decide +kernel
theorem dX9_sayNode_124 : decode cX9_sayNode 124 = .ok (.goto 6, 3) := by decide +kernel
theorem dX9_sayNode_127 : decode cX9_sayNode 127 = .ok (.ldc2_w 228, 3) := by decide +kernel
theorem dX9_sayNode_130 : decode cX9_sayNode 130 = .ok (.invokevirtual 219, 3) := by decide +kernel
theorem dX9_sayNode_133 : decode cX9_sayNode 133 = .ok (.aload_n 0, 1) := by decide +kernel
theorem dX9_sayNode_134 : decode cX9_sayNode 134 = .ok (.aload_n 0, 1) := by decide +kernel
theorem dX9_sayNode_135 : decode cX9_sayNode 135 = .ok (.getfield 26, 3) := by decide +kernel
theorem dX9_sayNode_138 : decode cX9_sayNode 138 = .ok (.iload_n 1, 1) := by decide +kernel
theorem dX9_sayNode_139 : decode cX9_sayNode 139 = .ok (.iaload, 1) := by decide +kernel
theorem dX9_sayNode_140 : decode cX9_sayNode 140 = .ok (.iload_n 3, 1) := by decide +kernel
theorem dX9_sayNode_141 : decode cX9_sayNode 141 = .ok (.bipush 17, 2) := by decide +kernel
theorem dX9_sayNode_143 : decode cX9_sayNode 143 = .ok (.if_icmp .ne 7, 3) := by decide +kernel
theorem dX9_sayNode_146 : decode cX9_sayNode 146 = .ok (.iconst 2, 1) := by decide +kernel
theorem dX9_sayNode_147 : decode cX9_sayNode 147 = .ok (.goto 4, 3) := by decide +kernel
theorem dX9_sayNode_150 : decode cX9_sayNode 150 = .ok (.iconst 0, 1) := by decide +kernel
theorem dX9_sayNode_151 : decode cX9_sayNode 151 = .ok (.invokevirtual 223, 3) := by decide +kernel
theorem dX9_sayNode_154 : decode cX9_sayNode 154 = .ok (.iload 4, 2) := by decide +kernel
theorem dX9_sayNode_156 : decode cX9_sayNode 156 = .ok (.ifCond .eq 9, 3) := by decide +kernel
theorem dX9_sayNode_159 : decode cX9_sayNode 159 = .ok (.aload_n 0, 1) := by decide +kernel
theorem dX9_sayNode_160 : decode cX9_sayNode 160 = .ok (.bipush 41, 2) := by decide +kernel
theorem dX9_sayNode_162 : decode cX9_sayNode 162 = .ok (.invokevirtual 210, 3) := by decide +kernel
theorem dX9_sayNode_165 : decode cX9_sayNode 165 = .ok (.return_, 1) := by decide +kernel
set_option maxRecDepth 20000 in
theorem ggX9_write_X9_say8 : GoodIn wsX9_write wsX9_say8 := goodIn_r _ [19, 20, 21, 22, 23, 18, 24, 1, 14, 25, 26, 27, 28, 29, 44, 45, 46, 47, 48, 49, 50, 51, 52, 53, 54, 55, 56, 57, 58, 59, 60, 61, 62, 63, 64, 65, 66, 67, 68, 69, 70, 71, 72, 73, 74, 75] (by decide +kernel) (by decide +kernel)
set_option maxRecDepth 20000 in
theorem gX9_write_X9_say8 : GoodIn wsX9_write (wsV RX9 219 RX9 yX9_say8 wsX9_say8) := goodIn_app (goodIn_of _ (by decide +kernel)) ggX9_write_X9_say8
set_option maxRecDepth 20000 in
theorem ggX9_write_X9_sayNumber : GoodIn wsX9_write wsX9_sayNumber := goodIn_r _ [33, 21, 22, 23, 18, 24, 1, 14, 25, 26, 27, 28, 29, 44, 45, 46, 47, 48, 49, 50, 51, 52, 53, 54, 55, 56, 57, 58, 59, 60, 61, 62, 63, 64, 65, 66, 67, 68, 69, 70, 71, 72, 73, 74, 75] (by decide +kernel) (by decide +kernel)
set_option maxRecDepth 20000 in
theorem gX9_write_X9_sayNumber : GoodIn wsX9_write (wsV RX9 214 RX9 yX9_sayNumber wsX9_sayNumber) := goodIn_app (goodIn_of _ (by decide +kernel)) ggX9_write_X9_sayNumber
set_option maxRecDepth 20000 in
theorem ggX9_write_X9_sayNode : GoodIn wsX9_write wsX9_sayNode := goodIn_r _ [37, 38, 39, 40, 41, 42, 43, 21, 22, 23, 18, 24, 1, 14, 25, 26, 27, 28, 29, 30, 31, 32, 33, 15, 16, 17, 19, 20, 34, 35, 36, 44, 45, 46, 47, 48, 49, 50, 51, 52, 53, 54, 55, 56, 57, 58, 59, 60, 61, 62, 63, 64, 65, 66, 67, 68, 69, 70, 71, 72, 73, 74, 75] (by decide +kernel) (by decide +kernel)
set_option maxRecDepth 20000 in
theorem gX9_write_X9_sayNode : GoodIn wsX9_write (wsV RX9 223 RX9 yX9_sayNode wsX9_sayNode) := goodIn_app (goodIn_of _ (by decide +kernel)) ggX9_write_X9_sayNode
set_option maxRecDepth 20000 in
theorem ggX9_write_X9_say : GoodIn wsX9_write wsX9_say := goodIn_r _ [24, 1, 14, 25, 26, 27, 28, 29, 44, 45, 46, 47, 48, 49, 50, 51, 52, 53, 54, 55, 56, 57, 58, 59, 60, 61, 62, 63, 64, 65, 66, 67, 68, 69, 70, 71, 72, 73, 74, 75] (by decide +kernel) (by decide +kernel)
set_option maxRecDepth 20000 in
theorem gX9_write_X9_say : GoodIn wsX9_write (wsV RX9 210 RX9 yX9_say wsX9_say) := goodIn_app (goodIn_of _ (by decide +kernel)) ggX9_write_X9_say
theorem dX9_write_0 : decode cX9_write 0 = .ok (.aload_n 0, 1) := by decide +kernel
theorem dX9_write_1 : decode cX9_write 1 = .ok (.iconst 0, 1) := by decide +kernel
theorem dX9_write_2 : decode cX9_write 2 = .ok (.putfield 205, 3) := by decide +kernel
theorem dX9_write_5 : decode cX9_write 5 = .ok (.iconst 0, 1) := by decide +kernel
theorem dX9_write_6 : decode cX9_write 6 = .ok (.istore_n 2, 1) := by decide +kernel
theorem dX9_write_7 : decode cX9_write 7 = .ok (.iload_n 2, 1) := by decide +kernel
theorem dX9_write_8 : decode cX9_write 8 = .ok (.aload_n 0, 1) := by decide +kernel
theorem dX9_write_9 : decode cX9_write 9 = .ok (.getfield 149, 3) := by decide +kernel
theorem dX9_write_12 : decode cX9_write 12 = .ok (.if_icmp .ge 147, 3) := by decide +kernel
theorem dX9_write_15 : decode cX9_write 15 = .ok (.bipush 40, 2) := by decide +kernel
theorem dX9_write_17 : decode cX9_write 17 = .ok (.aload_n 0, 1) := by decide +kernel
theorem dX9_write_18 : decode cX9_write 18 = .ok (.getfield 101, 3) := by decide +kernel
theorem dX9_write_21 : decode cX9_write 21 = .ok (.imul, 1) := by decide +kernel
theorem dX9_write_22 : decode cX9_write 22 = .ok (.iload_n 2, 1) := by decide +kernel
theorem dX9_write_23 : decode cX9_write 23 = .ok (.iadd, 1) := by decide +kernel
theorem dX9_write_24 : decode cX9_write 24 = .ok (.istore_n 3, 1) := by decide +kernel
theorem dX9_write_25 : decode cX9_write 25 = .ok (.aload_n 0, 1) := by decide +kernel
theorem dX9_write_26 : decode cX9_write 26 = .ok (.ldc2_w 230, 3) := by decide +kernel
theorem dX9_write_29 : decode cX9_write 29 = .ok (.invokevirtual 219, 3) := by decide +kernel
theorem dX9_write_32 : decode cX9_write 32 = .ok (.iconst 0, 1) := by decide +kernel
theorem dX9_write_33 : decode cX9_write 33 = .ok (.istore 4, 2) := by decide +kernel
theorem dX9_write_35 : decode cX9_write 35 = .ok (.iload 4, 2) := by decide +kernel
theorem dX9_write_37 : decode cX9_write 37 = .ok (.aload_n 0, 1) := by decide +kernel
theorem dX9_write_38 : decode cX9_write 38 = .ok (.getfield 32, 3) := by decide +kernel
theorem dX9_write_41 : decode cX9_write 41 = .ok (.iload_n 3, 1) := by decide +kernel
theorem dX9_write_42 : decode cX9_write 42 = .ok (.iaload, 1) := by decide +kernel
theorem dX9_write_43 : decode cX9_write 43 = .ok (.if_icmp .ge 32, 3) := by decide +kernel
theorem dX9_write_46 : decode cX9_write 46 = .ok (.aload_n 0, 1) := by decide +kernel
theorem dX9_write_47 : decode cX9_write 47 = .ok (.ldc2_w 232, 3) := by decide +kernel
theorem dX9_write_50 : decode cX9_write 50 = .ok (.invokevirtual 219, 3) := by decide +kernel
theorem dX9_write_53 : decode cX9_write 53 = .ok (.aload_n 0, 1) := by decide +kernel
theorem dX9_write_54 : decode cX9_write 54 = .ok (.aload_n 0, 1) := by decide +kernel
theorem dX9_write_55 : decode cX9_write 55 = .ok (.getfield 35, 3) := by decide +kernel
theorem dX9_write_58 : decode cX9_write 58 = .ok (.bipush 8, 2) := by decide +kernel
theorem dX9_write_60 : decode cX9_write 60 = .ok (.iload_n 3, 1) := by decide +kernel
theorem dX9_write_61 : decode cX9_write 61 = .ok (.imul, 1) := by decide +kernel
theorem dX9_write_62 : decode cX9_write 62 = .ok (.iload 4, 2) := by decide +kernel
theorem dX9_write_64 : decode cX9_write 64 = .ok (.iadd, 1) := by decide +kernel
theorem dX9_write_65 : decode cX9_write 65 = .ok (.iaload, 1) := by decide +kernel
theorem dX9_write_66 : decode cX9_write 66 = .ok (.invokevirtual 214, 3) := by decide +kernel
theorem dX9_write_69 : decode cX9_write 69 = .ok (.iinc 4 1, 3) := by decide +kernel
theorem dX9_write_72 : decode cX9_write 72 = .ok (.goto (-37), 3) := by decide +kernel
theorem dX9_write_75 : decode cX9_write 75 = .ok (.aload_n 0, 1) := by decide +kernel
theorem dX9_write_76 : decode cX9_write 76 = .ok (.ldc2_w 234, 3) := by decide +kernel
theorem dX9_write_79 : decode cX9_write 79 = .ok (.invokevirtual 219, 3) := by decide +kernel
theorem dX9_write_82 : decode cX9_write 82 = .ok (.aload_n 0, 1) := by decide +kernel
theorem dX9_write_83 : decode cX9_write 83 = .ok (.aload_n 0, 1) := by decide +kernel
theorem dX9_write_84 : decode cX9_write 84 = .ok (.getfield 29, 3) := by decide +kernel
theorem dX9_write_87 : decode cX9_write 87 = .ok (.iload_n 3, 1) := by decide +kernel
theorem dX9_write_88 : decode cX9_write 88 = .ok (.iaload, 1) := by decide +kernel
theorem dX9_write_89 : decode cX9_write 89 = .ok (.iconst 0, 1) := by decide +kernel
theorem dX9_write_90 : decode cX9_write 90 = .ok (.invokevirtual 223, 3) := by decide +kernel
theorem dX9_write_93 : decode cX9_write 93 = .ok (.aload_n 0, 1) := by decide +kernel
theorem dX9_write_94 : decode cX9_write 94 = .ok (.getfield 38, 3) := by decide +kernel
theorem dX9_write_97 : decode cX9_write 97 = .ok (.iload_n 3, 1) := by decide +kernel
theorem dX9_write_98 : decode cX9_write 98 = .ok (.iaload, 1) := by decide +kernel
theorem dX9_write_99 : decode cX9_write 99 = .ok (.ifCond .le 20, 3) := by decide +kernel
theorem dX9_write_102 : decode cX9_write 102 = .ok (.aload_n 0, 1) := by decide +kernel
theorem dX9_write_103 : decode cX9_write 103 = .ok (.ldc2_w 236, 3) := by decide +kernel
theorem dX9_write_106 : decode cX9_write 106 = .ok (.invokevirtual 219, 3) := by decide +kernel
theorem dX9_write_109 : decode cX9_write 109 = .ok (.aload_n 0, 1) := by decide +kernel
theorem dX9_write_110 : decode cX9_write 110 = .ok (.aload_n 0, 1) := by decide +kernel
theorem dX9_write_111 : decode cX9_write 111 = .ok (.getfield 38, 3) := by decide +kernel
theorem dX9_write_114 : decode cX9_write 114 = .ok (.iload_n 3, 1) := by decide +kernel
theorem dX9_write_115 : decode cX9_write 115 = .ok (.iaload, 1) := by decide +kernel
theorem dX9_write_116 : decode cX9_write 116 = .ok (.invokevirtual 214, 3) := by decide +kernel
theorem dX9_write_119 : decode cX9_write 119 = .ok (.aload_n 0, 1) := by decide +kernel
theorem dX9_write_120 : decode cX9_write 120 = .ok (.getfield 41, 3) := by decide +kernel
theorem dX9_write_123 : decode cX9_write 123 = .ok (.iload_n 3, 1) := by decide +kernel
theorem dX9_write_124 : decode cX9_write 124 = .ok (.baload, 1) := by decide +kernel
theorem dX9_write_125 : decode cX9_write 125 = .ok (.ifCond .eq 16, 3) := by decide +kernel
theorem dX9_write_128 : decode cX9_write 128 = .ok (.aload_n 0, 1) := by decide +kernel
theorem dX9_write_129 : decode cX9_write 129 = .ok (.ldc2_w 238, 3) := by decide +kernel
theorem dX9_write_132 : decode cX9_write 132 = .ok (.invokevirtual 219, 3) := by decide +kernel
theorem dX9_write_135 : decode cX9_write 135 = .ok (.aload_n 0, 1) := by decide +kernel
theorem dX9_write_136 : decode cX9_write 136 = .ok (.bipush 100, 2) := by decide +kernel
theorem dX9_write_138 : decode cX9_write 138 = .ok (.invokevirtual 210, 3) := by decide +kernel
theorem dX9_write_141 : decode cX9_write 141 = .ok (.aload_n 0, 1) := by decide +kernel
theorem dX9_write_142 : decode cX9_write 142 = .ok (.bipush 59, 2) := by decide +kernel
theorem dX9_write_144 : decode cX9_write 144 = .ok (.invokevirtual 210, 3) := by decide +kernel
theorem dX9_write_147 : decode cX9_write 147 = .ok (.aload_n 0, 1) := by decide +kernel
theorem dX9_write_148 : decode cX9_write 148 = .ok (.bipush 10, 2) := by decide +kernel
theorem dX9_write_150 : decode cX9_write 150 = .ok (.invokevirtual 210, 3) := by decide +kernel
theorem dX9_write_153 : decode cX9_write 153 = .ok (.iinc 2 1, 3) := by decide +kernel
theorem dX9_write_156 : decode cX9_write 156 = .ok (.goto (-149), 3) := by decide +kernel
theorem dX9_write_159 : decode cX9_write 159 = .ok (.iload_n 1, 1) := by decide +kernel
theorem dX9_write_160 : decode cX9_write 160 = .ok (.ifCond .lt 20, 3) := by decide +kernel
theorem dX9_write_163 : decode cX9_write 163 = .ok (.iload_n 1, 1) := by decide +kernel
theorem dX9_write_164 : decode cX9_write 164 = .ok (.aload_n 0, 1) := by decide +kernel
theorem dX9_write_165 : decode cX9_write 165 = .ok (.getfield 205, 3) := by decide +kernel
theorem dX9_write_168 : decode cX9_write 168 = .ok (.if_icmp .ge 12, 3) := by decide +kernel
theorem dX9_write_171 : decode cX9_write 171 = .ok (.aload_n 0, 1) := by decide +kernel
theorem dX9_write_172 : decode cX9_write 172 = .ok (.getfield 72, 3) := by decide +kernel
theorem dX9_write_175 : decode cX9_write 175 = .ok (.iload_n 1, 1) := by decide +kernel
theorem dX9_write_176 : decode cX9_write 176 = .ok (.baload, 1) := by decide +kernel
theorem dX9_write_177 : decode cX9_write 177 = .ok (.goto 4, 3) := by decide +kernel
theorem dX9_write_180 : decode cX9_write 180 = .ok (.iconst (-1), 1) := by decide +kernel
theorem dX9_write_181 : decode cX9_write 181 = .ok (.ireturn, 1) := by decide +kernel
theorem dX9_clear_0 : decode cX9_clear 0 = .ok (.aload_n 0, 1) := by decide +kernel
theorem dX9_clear_1 : decode cX9_clear 1 = .ok (.iconst 0, 1) := by decide +kernel
theorem dX9_clear_2 : decode cX9_clear 2 = .ok (.putfield 149, 3) := by decide +kernel
theorem dX9_clear_5 : decode cX9_clear 5 = .ok (.aload_n 0, 1) := by decide +kernel
theorem dX9_clear_6 : decode cX9_clear 6 = .ok (.iconst 0, 1) := by decide +kernel
theorem dX9_clear_7 : decode cX9_clear 7 = .ok (.putfield 75, 3) := by decide +kernel
theorem dX9_clear_10 : decode cX9_clear 10 = .ok (.aload_n 0, 1) := by decide +kernel
theorem dX9_clear_11 : decode cX9_clear 11 = .ok (.iconst 0, 1) := by decide +kernel
theorem dX9_clear_12 : decode cX9_clear 12 = .ok (.putfield 152, 3) := by decide +kernel
theorem dX9_clear_15 : decode cX9_clear 15 = .ok (.return_, 1) := by decide +kernel
theorem dJ9_max_7cf53_0 : decode cJ9_max_7cf53 0 = .ok (.iload_n 0, 1) := by decide +kernel
theorem dJ9_max_7cf53_1 : decode cJ9_max_7cf53 1 = .ok (.iload_n 1, 1) := by decide +kernel
theorem dJ9_max_7cf53_2 : decode cJ9_max_7cf53 2 = .ok (.if_icmp .lt 7, 3) := by decide +kernel
theorem dJ9_max_7cf53_5 : decode cJ9_max_7cf53 5 = .ok (.iload_n 0, 1) := by decide +kernel
theorem dJ9_max_7cf53_6 : decode cJ9_max_7cf53 6 = .ok (.goto 4, 3) := by decide +kernel
theorem dJ9_max_7cf53_9 : decode cJ9_max_7cf53 9 = .ok (.iload_n 1, 1) := by decide +kernel
theorem dJ9_max_7cf53_10 : decode cJ9_max_7cf53 10 = .ok (.ireturn, 1) := by decide +kernel
theorem dJ9_min_7cf53_0 : decode cJ9_min_7cf53 0 = .ok (.iload_n 0, 1) := by decide +kernel
theorem dJ9_min_7cf53_1 : decode cJ9_min_7cf53 1 = .ok (.iload_n 1, 1) := by decide +kernel
theorem dJ9_min_7cf53_2 : decode cJ9_min_7cf53 2 = .ok (.if_icmp .gt 7, 3) := by decide +kernel
theorem dJ9_min_7cf53_5 : decode cJ9_min_7cf53 5 = .ok (.iload_n 0, 1) := by decide +kernel
theorem dJ9_min_7cf53_6 : decode cJ9_min_7cf53 6 = .ok (.goto 4, 3) := by decide +kernel
theorem dJ9_min_7cf53_9 : decode cJ9_min_7cf53 9 = .ok (.iload_n 1, 1) := by decide +kernel
theorem dJ9_min_7cf53_10 : decode cJ9_min_7cf53 10 = .ok (.ireturn, 1) := by decide +kernel
set_option maxRecDepth 20000 in
theorem ggJ0_length_8abf5_J0_coder_7d493 : GoodIn wsJ0_length_8abf5 wsJ0_coder_7d493 := goodIn_r _ [6, 7, 8] (by decide +kernel) (by decide +kernel)
set_option maxRecDepth 20000 in
theorem gJ0_length_8abf5_J0_coder_7d493 : GoodIn wsJ0_length_8abf5 (wsV RJ0 335 RJ0 yJ0_coder_7d493 wsJ0_coder_7d493) := goodIn_app (goodIn_of _ (by decide +kernel)) ggJ0_length_8abf5_J0_coder_7d493
theorem dJ0_length_8abf5_0 : decode cJ0_length_8abf5 0 = .ok (.aload_n 0, 1) := by decide +kernel
theorem dJ0_length_8abf5_1 : decode cJ0_length_8abf5 1 = .ok (.getfield 9, 3) := by decide +kernel
theorem dJ0_length_8abf5_4 : decode cJ0_length_8abf5 4 = .ok (.arraylength, 1) := by decide +kernel
theorem dJ0_length_8abf5_5 : decode cJ0_length_8abf5 5 = .ok (.aload_n 0, 1) := by decide +kernel
theorem dJ0_length_8abf5_6 : decode cJ0_length_8abf5 6 = .ok (.invokevirtual 335, 3) := by decide +kernel
theorem dJ0_length_8abf5_9 : decode cJ0_length_8abf5 9 = .ok (.ishr, 1) := by decide +kernel
theorem dJ0_length_8abf5_10 : decode cJ0_length_8abf5 10 = .ok (.ireturn, 1) := by decide +kernel
set_option maxRecDepth 20000 in
theorem ggJ0_charAt_5068e_J0_isLatin1_aae02 : GoodIn wsJ0_charAt_5068e wsJ0_isLatin1_aae02 := goodIn_r _ [6, 7, 8] (by decide +kernel) (by decide +kernel)
set_option maxRecDepth 20000 in
theorem gJ0_charAt_5068e_J0_isLatin1_aae02 : GoodIn wsJ0_charAt_5068e (wsV RJ0 492 RJ0 yJ0_isLatin1_aae02 wsJ0_isLatin1_aae02) := goodIn_app (goodIn_of _ (by decide +kernel)) ggJ0_charAt_5068e_J0_isLatin1_aae02
set_option maxRecDepth 20000 in
theorem ggJ0_charAt_5068e_J1_charAt_3b067 : GoodIn wsJ0_charAt_5068e wsJ1_charAt_3b067 := goodIn_r _ [12, 13, 14, 5, 15, 16, 17, 18, 19, 20] (by decide +kernel) (by decide +kernel)
set_option maxRecDepth 20000 in
theorem gJ0_charAt_5068e_J1_charAt_3b067 : GoodIn wsJ0_charAt_5068e (va_wsS RJ0 495 yJ1_charAt_3b067 wsJ1_charAt_3b067) := goodIn_app (goodIn_of _ (by decide +kernel)) ggJ0_charAt_5068e_J1_charAt_3b067
set_option maxRecDepth 20000 in
theorem ggJ0_charAt_5068e_J2_charAt_3b067 : GoodIn wsJ0_charAt_5068e wsJ2_charAt_3b067 := goodIn_r _ [24, 25, 26, 23, 27, 28, 29, 30, 31, 14, 5, 15, 16, 17, 18, 19, 20, 32, 33, 34, 35, 36, 37] (by decide +kernel) (by decide +kernel)
set_option maxRecDepth 20000 in
theorem gJ0_charAt_5068e_J2_charAt_3b067 : GoodIn wsJ0_charAt_5068e (va_wsS RJ0 498 yJ2_charAt_3b067 wsJ2_charAt_3b067) := goodIn_app (goodIn_of _ (by decide +kernel)) ggJ0_charAt_5068e_J2_charAt_3b067
theorem dJ0_charAt_5068e_0 : decode cJ0_charAt_5068e 0 = .ok (.aload_n 0, 1) := by decide +kernel
theorem dJ0_charAt_5068e_1 : decode cJ0_charAt_5068e 1 = .ok (.invokevirtual 492, 3) := by decide +kernel
theorem dJ0_charAt_5068e_4 : decode cJ0_charAt_5068e 4 = .ok (.ifCond .eq 12, 3) := by decide +kernel
theorem dJ0_charAt_5068e_7 : decode cJ0_charAt_5068e 7 = .ok (.aload_n 0, 1) := by decide +kernel
theorem dJ0_charAt_5068e_8 : decode cJ0_charAt_5068e 8 = .ok (.getfield 9, 3) := by decide +kernel
theorem dJ0_charAt_5068e_11 : decode cJ0_charAt_5068e 11 = .ok (.iload_n 1, 1) := by decide +kernel
theorem dJ0_charAt_5068e_12 : decode cJ0_charAt_5068e 12 = .ok (.invokestatic 495, 3) := by decide +kernel
theorem dJ0_charAt_5068e_15 : decode cJ0_charAt_5068e 15 = .ok (.ireturn, 1) := by decide +kernel
theorem dJ0_charAt_5068e_16 : decode cJ0_charAt_5068e 16 = .ok (.aload_n 0, 1) := by decide +kernel
theorem dJ0_charAt_5068e_17 : decode cJ0_charAt_5068e 17 = .ok (.getfield 9, 3) := by decide +kernel
theorem dJ0_charAt_5068e_20 : decode cJ0_charAt_5068e 20 = .ok (.iload_n 1, 1) := by decide +kernel
theorem dJ0_charAt_5068e_21 : decode cJ0_charAt_5068e 21 = .ok (.invokestatic 498, 3) := by decide +kernel
theorem dJ0_charAt_5068e_24 : decode cJ0_charAt_5068e 24 = .ok (.ireturn, 1) := by decide +kernel
theorem dJ0_coder_7d493_0 : decode cJ0_coder_7d493 0 = .ok (.getstatic 38, 3) := by decide +kernel
theorem dJ0_coder_7d493_3 : decode cJ0_coder_7d493 3 = .ok (.ifCond .eq 10, 3) := by decide +kernel
theorem dJ0_coder_7d493_6 : decode cJ0_coder_7d493 6 = .ok (.aload_n 0, 1) := by decide +kernel
theorem dJ0_coder_7d493_7 : decode cJ0_coder_7d493 7 = .ok (.getfield 15, 3) := by decide +kernel
theorem dJ0_coder_7d493_10 : decode cJ0_coder_7d493 10 = .ok (.goto 4, 3) := by decide +kernel
theorem dJ0_coder_7d493_13 : decode cJ0_coder_7d493 13 = .ok (.iconst 1, 1) := by decide +kernel
theorem dJ0_coder_7d493_14 : decode cJ0_coder_7d493 14 = .ok (.ireturn, 1) := by decide +kernel
theorem dJ0_isLatin1_aae02_0 : decode cJ0_isLatin1_aae02 0 = .ok (.getstatic 38, 3) := by decide +kernel
theorem dJ0_isLatin1_aae02_3 : decode cJ0_isLatin1_aae02 3 = .ok (.ifCond .eq 14, 3) := by decide +kernel
theorem dJ0_isLatin1_aae02_6 : decode cJ0_isLatin1_aae02 6 = .ok (.aload_n 0, 1) := by decide +kernel
theorem dJ0_isLatin1_aae02_7 : decode cJ0_isLatin1_aae02 7 = .ok (.getfield 15, 3) := by decide +kernel
theorem dJ0_isLatin1_aae02_10 : decode cJ0_isLatin1_aae02 10 = .ok (.ifCond .ne 7, 3) := by decide +kernel
theorem dJ0_isLatin1_aae02_13 : decode cJ0_isLatin1_aae02 13 = .ok (.iconst 1, 1) := by decide +kernel
theorem dJ0_isLatin1_aae02_14 : decode cJ0_isLatin1_aae02 14 = .ok (.goto 4, 3) := by decide +kernel
theorem dJ0_isLatin1_aae02_17 : decode cJ0_isLatin1_aae02 17 = .ok (.iconst 0, 1) := by decide +kernel
theorem dJ0_isLatin1_aae02_18 : decode cJ0_isLatin1_aae02 18 = .ok (.ireturn, 1) := by decide +kernel
set_option maxRecDepth 20000 in
theorem ggJ0_checkIndex_df160_J3_checkIndex_8e157 : GoodIn wsJ0_checkIndex_df160 wsJ3_checkIndex_8e157 := goodIn_r _ [5] (by decide +kernel) (by decide +kernel)
set_option maxRecDepth 20000 in
theorem gJ0_checkIndex_df160_J3_checkIndex_8e157 : GoodIn wsJ0_checkIndex_df160 (va_wsS RJ0 1059 yJ3_checkIndex_8e157 wsJ3_checkIndex_8e157) := goodIn_app (goodIn_of _ (by decide +kernel)) ggJ0_checkIndex_df160_J3_checkIndex_8e157
theorem dJ0_checkIndex_df160_0 : decode cJ0_checkIndex_df160 0 = .ok (.iload_n 0, 1) := by decide +kernel
theorem dJ0_checkIndex_df160_1 : decode cJ0_checkIndex_df160 1 = .ok (.iload_n 1, 1) := by decide +kernel
theorem dJ0_checkIndex_df160_2 : decode cJ0_checkIndex_df160 2 = .ok (.getstatic 1053, 3) := by decide +kernel
theorem dJ0_checkIndex_df160_5 : decode cJ0_checkIndex_df160 5 = .ok (.invokestatic 1059, 3) := by decide +kernel
theorem dJ0_checkIndex_df160_8 : decode cJ0_checkIndex_df160 8 = .ok (.pop, 1) := by decide +kernel
theorem dJ0_checkIndex_df160_9 : decode cJ0_checkIndex_df160 9 = .ok (.return_, 1) := by decide +kernel
set_option maxRecDepth 20000 in
theorem ggJ1_charAt_3b067_J0_checkIndex_df160 : GoodIn wsJ1_charAt_3b067 wsJ0_checkIndex_df160 := goodIn_r _ [4, 5, 6, 7, 8, 9] (by decide +kernel) (by decide +kernel)
set_option maxRecDepth 20000 in
theorem gJ1_charAt_3b067_J0_checkIndex_df160 : GoodIn wsJ1_charAt_3b067 (va_wsS RJ1 9 yJ0_checkIndex_df160 wsJ0_checkIndex_df160) := goodIn_app (goodIn_of _ (by decide +kernel)) ggJ1_charAt_3b067_J0_checkIndex_df160
theorem dJ1_charAt_3b067_0 : decode cJ1_charAt_3b067 0 = .ok (.iload_n 1, 1) := by decide +kernel
theorem dJ1_charAt_3b067_1 : decode cJ1_charAt_3b067 1 = .ok (.aload_n 0, 1) := by decide +kernel
theorem dJ1_charAt_3b067_2 : decode cJ1_charAt_3b067 2 = .ok (.arraylength, 1) := by decide +kernel
theorem dJ1_charAt_3b067_3 : decode cJ1_charAt_3b067 3 = .ok (.invokestatic 9, 3) := by decide +kernel
theorem dJ1_charAt_3b067_6 : decode cJ1_charAt_3b067 6 = .ok (.aload_n 0, 1) := by decide +kernel
theorem dJ1_charAt_3b067_7 : decode cJ1_charAt_3b067 7 = .ok (.iload_n 1, 1) := by decide +kernel
theorem dJ1_charAt_3b067_8 : decode cJ1_charAt_3b067 8 = .ok (.baload, 1) := by decide +kernel
theorem dJ1_charAt_3b067_9 : decode cJ1_charAt_3b067 9 = .ok (.sipush 255, 3) := by decide +kernel
theorem dJ1_charAt_3b067_12 : decode cJ1_charAt_3b067 12 = .ok (.iand, 1) := by decide +kernel
theorem dJ1_charAt_3b067_13 : decode cJ1_charAt_3b067 13 = .ok (.i2c, 1) := by decide +kernel
theorem dJ1_charAt_3b067_14 : decode cJ1_charAt_3b067 14 = .ok (.ireturn, 1) := by decide +kernel
set_option maxRecDepth 20000 in
theorem ggJ2_getChar_3b067_J2_length_9d52b : GoodIn wsJ2_getChar_3b067 wsJ2_length_9d52b := goodIn_r _ [7] (by decide +kernel) (by decide +kernel)
set_option maxRecDepth 20000 in
theorem gJ2_getChar_3b067_J2_length_9d52b : GoodIn wsJ2_getChar_3b067 (va_wsS RJ2 48 yJ2_length_9d52b wsJ2_length_9d52b) := goodIn_app (goodIn_of _ (by decide +kernel)) ggJ2_getChar_3b067_J2_length_9d52b
theorem dJ2_getChar_3b067_0 : decode cJ2_getChar_3b067 0 = .ok (.getstatic 44, 3) := by decide +kernel
theorem dJ2_getChar_3b067_3 : decode cJ2_getChar_3b067 3 = .ok (.ifCond .ne 25, 3) := by decide +kernel
theorem dJ2_getChar_3b067_6 : decode cJ2_getChar_3b067 6 = .ok (.iload_n 1, 1) := by decide +kernel
theorem dJ2_getChar_3b067_7 : decode cJ2_getChar_3b067 7 = .ok (.ifCond .lt 11, 3) := by decide +kernel
theorem dJ2_getChar_3b067_10 : decode cJ2_getChar_3b067 10 = .ok (.iload_n 1, 1) := by decide +kernel
theorem dJ2_getChar_3b067_11 : decode cJ2_getChar_3b067 11 = .ok (.aload_n 0, 1) := by decide +kernel
theorem dJ2_getChar_3b067_12 : decode cJ2_getChar_3b067 12 = .ok (.invokestatic 48, 3) := by decide +kernel
theorem dJ2_getChar_3b067_15 : decode cJ2_getChar_3b067 15 = .ok (.if_icmp .lt 13, 3) := by decide +kernel
theorem dJ2_getChar_3b067_18 : decode cJ2_getChar_3b067 18 = .ok (.new 52, 3) := by decide +kernel
theorem dJ2_getChar_3b067_21 : decode cJ2_getChar_3b067 21 = .ok (.dup, 1) := by decide +kernel
theorem dJ2_getChar_3b067_22 : decode cJ2_getChar_3b067 22 = .ok (.ldc 54, 2) := by decide +kernel
theorem dJ2_getChar_3b067_24 : decode cJ2_getChar_3b067 24 = .ok (.invokespecial 56, 3) := by decide +kernel
theorem dJ2_getChar_3b067_27 : decode cJ2_getChar_3b067 27 = .ok (.athrow, 1) := by decide +kernel
theorem dJ2_getChar_3b067_28 : decode cJ2_getChar_3b067 28 = .ok (.iload_n 1, 1) := by decide +kernel
theorem dJ2_getChar_3b067_29 : decode cJ2_getChar_3b067 29 = .ok (.iconst 1, 1) := by decide +kernel
theorem dJ2_getChar_3b067_30 : decode cJ2_getChar_3b067 30 = .ok (.ishl, 1) := by decide +kernel
theorem dJ2_getChar_3b067_31 : decode cJ2_getChar_3b067 31 = .ok (.istore_n 1, 1) := by decide +kernel
theorem dJ2_getChar_3b067_32 : decode cJ2_getChar_3b067 32 = .ok (.aload_n 0, 1) := by decide +kernel
theorem dJ2_getChar_3b067_33 : decode cJ2_getChar_3b067 33 = .ok (.iload_n 1, 1) := by decide +kernel
theorem dJ2_getChar_3b067_34 : decode cJ2_getChar_3b067 34 = .ok (.iinc 1 1, 3) := by decide +kernel
theorem dJ2_getChar_3b067_37 : decode cJ2_getChar_3b067 37 = .ok (.baload, 1) := by decide +kernel
theorem dJ2_getChar_3b067_38 : decode cJ2_getChar_3b067 38 = .ok (.sipush 255, 3) := by decide +kernel
theorem dJ2_getChar_3b067_41 : decode cJ2_getChar_3b067 41 = .ok (.iand, 1) := by decide +kernel
theorem dJ2_getChar_3b067_42 : decode cJ2_getChar_3b067 42 = .ok (.getstatic 59, 3) := by decide +kernel
theorem dJ2_getChar_3b067_45 : decode cJ2_getChar_3b067 45 = .ok (.ishl, 1) := by decide +kernel
theorem dJ2_getChar_3b067_46 : decode cJ2_getChar_3b067 46 = .ok (.aload_n 0, 1) := by decide +kernel
theorem dJ2_getChar_3b067_47 : decode cJ2_getChar_3b067 47 = .ok (.iload_n 1, 1) := by decide +kernel
theorem dJ2_getChar_3b067_48 : decode cJ2_getChar_3b067 48 = .ok (.baload, 1) := by decide +kernel
theorem dJ2_getChar_3b067_49 : decode cJ2_getChar_3b067 49 = .ok (.sipush 255, 3) := by decide +kernel
theorem dJ2_getChar_3b067_52 : decode cJ2_getChar_3b067 52 = .ok (.iand, 1) := by decide +kernel
theorem dJ2_getChar_3b067_53 : decode cJ2_getChar_3b067 53 = .ok (.getstatic 63, 3) := by decide +kernel
theorem dJ2_getChar_3b067_56 : decode cJ2_getChar_3b067 56 = .ok (.ishl, 1) := by decide +kernel
theorem dJ2_getChar_3b067_57 : decode cJ2_getChar_3b067 57 = .ok (.ior, 1) := by decide +kernel
theorem dJ2_getChar_3b067_58 : decode cJ2_getChar_3b067 58 = .ok (.i2c, 1) := by decide +kernel
theorem dJ2_getChar_3b067_59 : decode cJ2_getChar_3b067 59 = .ok (.ireturn, 1) := by decide +kernel
theorem dJ2_length_9d52b_0 : decode cJ2_length_9d52b 0 = .ok (.aload_n 0, 1) := by decide +kernel
theorem dJ2_length_9d52b_1 : decode cJ2_length_9d52b 1 = .ok (.arraylength, 1) := by decide +kernel
theorem dJ2_length_9d52b_2 : decode cJ2_length_9d52b 2 = .ok (.iconst 1, 1) := by decide +kernel
theorem dJ2_length_9d52b_3 : decode cJ2_length_9d52b 3 = .ok (.ishr, 1) := by decide +kernel
theorem dJ2_length_9d52b_4 : decode cJ2_length_9d52b 4 = .ok (.ireturn, 1) := by decide +kernel
set_option maxRecDepth 20000 in
theorem ggJ2_charAt_3b067_J2_checkIndex_2214a : GoodIn wsJ2_charAt_3b067 wsJ2_checkIndex_2214a := goodIn_r _ [4, 5, 6, 3, 7, 8, 9, 10, 11, 12, 13, 14, 15, 16] (by decide +kernel) (by decide +kernel)
set_option maxRecDepth 20000 in
theorem gJ2_charAt_3b067_J2_checkIndex_2214a : GoodIn wsJ2_charAt_3b067 (va_wsS RJ2 67 yJ2_checkIndex_2214a wsJ2_checkIndex_2214a) := goodIn_app (goodIn_of _ (by decide +kernel)) ggJ2_charAt_3b067_J2_checkIndex_2214a
set_option maxRecDepth 20000 in
theorem ggJ2_charAt_3b067_J2_getChar_3b067 : GoodIn wsJ2_charAt_3b067 wsJ2_getChar_3b067 := goodIn_r _ [19, 20, 21, 22, 5, 6, 3, 7] (by decide +kernel) (by decide +kernel)
set_option maxRecDepth 20000 in
theorem gJ2_charAt_3b067_J2_getChar_3b067 : GoodIn wsJ2_charAt_3b067 (va_wsS RJ2 71 yJ2_getChar_3b067 wsJ2_getChar_3b067) := goodIn_app (goodIn_of _ (by decide +kernel)) ggJ2_charAt_3b067_J2_getChar_3b067
theorem dJ2_charAt_3b067_0 : decode cJ2_charAt_3b067 0 = .ok (.iload_n 1, 1) := by decide +kernel
theorem dJ2_charAt_3b067_1 : decode cJ2_charAt_3b067 1 = .ok (.aload_n 0, 1) := by decide +kernel
theorem dJ2_charAt_3b067_2 : decode cJ2_charAt_3b067 2 = .ok (.invokestatic 67, 3) := by decide +kernel
theorem dJ2_charAt_3b067_5 : decode cJ2_charAt_3b067 5 = .ok (.aload_n 0, 1) := by decide +kernel
theorem dJ2_charAt_3b067_6 : decode cJ2_charAt_3b067 6 = .ok (.iload_n 1, 1) := by decide +kernel
theorem dJ2_charAt_3b067_7 : decode cJ2_charAt_3b067 7 = .ok (.invokestatic 71, 3) := by decide +kernel
theorem dJ2_charAt_3b067_10 : decode cJ2_charAt_3b067 10 = .ok (.ireturn, 1) := by decide +kernel
set_option maxRecDepth 20000 in
theorem ggJ2_checkIndex_2214a_J2_length_9d52b : GoodIn wsJ2_checkIndex_2214a wsJ2_length_9d52b := goodIn_r _ [4] (by decide +kernel) (by decide +kernel)
set_option maxRecDepth 20000 in
theorem gJ2_checkIndex_2214a_J2_length_9d52b : GoodIn wsJ2_checkIndex_2214a (va_wsS RJ2 48 yJ2_length_9d52b wsJ2_length_9d52b) := goodIn_app (goodIn_of _ (by decide +kernel)) ggJ2_checkIndex_2214a_J2_length_9d52b
set_option maxRecDepth 20000 in
theorem ggJ2_checkIndex_2214a_J0_checkIndex_df160 : GoodIn wsJ2_checkIndex_2214a wsJ0_checkIndex_df160 := goodIn_r _ [8, 9, 10, 11, 12, 13] (by decide +kernel) (by decide +kernel)
set_option maxRecDepth 20000 in
theorem gJ2_checkIndex_2214a_J0_checkIndex_df160 : GoodIn wsJ2_checkIndex_2214a (va_wsS RJ2 414 yJ0_checkIndex_df160 wsJ0_checkIndex_df160) := goodIn_app (goodIn_of _ (by decide +kernel)) ggJ2_checkIndex_2214a_J0_checkIndex_df160
theorem dJ2_checkIndex_2214a_0 : decode cJ2_checkIndex_2214a 0 = .ok (.iload_n 0, 1) := by decide +kernel
theorem dJ2_checkIndex_2214a_1 : decode cJ2_checkIndex_2214a 1 = .ok (.aload_n 1, 1) := by decide +kernel
theorem dJ2_checkIndex_2214a_2 : decode cJ2_checkIndex_2214a 2 = .ok (.invokestatic 48, 3) := by decide +kernel
theorem dJ2_checkIndex_2214a_5 : decode cJ2_checkIndex_2214a 5 = .ok (.invokestatic 414, 3) := by decide +kernel
theorem dJ2_checkIndex_2214a_8 : decode cJ2_checkIndex_2214a 8 = .ok (.return_, 1) := by decide +kernel
theorem dJxa1e45_init_da8c8_0 : decode cJxa1e45_init_da8c8 0 = .ok (.aload_n 0, 1) := by decide +kernel
theorem dJxa1e45_init_da8c8_1 : decode cJxa1e45_init_da8c8 1 = .ok (.invokespecial 1, 3) := by decide +kernel
theorem dJxa1e45_init_da8c8_4 : decode cJxa1e45_init_da8c8 4 = .ok (.return_, 1) := by decide +kernel
set_option maxRecDepth 20000 in
theorem ggJxc12de_init_da8c8_Jxa1e45_init_da8c8 : GoodIn wsJxc12de_init_da8c8 wsJxa1e45_init_da8c8 := goodIn_r _ [5, 6, 7, 8] (by decide +kernel) (by decide +kernel)
set_option maxRecDepth 20000 in
theorem gJxc12de_init_da8c8_Jxa1e45_init_da8c8 : GoodIn wsJxc12de_init_da8c8 (wsJxa1e45_init_da8c8) := ggJxc12de_init_da8c8_Jxa1e45_init_da8c8
theorem dJxc12de_init_da8c8_0 : decode cJxc12de_init_da8c8 0 = .ok (.aload_n 0, 1) := by decide +kernel
theorem dJxc12de_init_da8c8_1 : decode cJxc12de_init_da8c8 1 = .ok (.invokespecial 1, 3) := by decide +kernel
theorem dJxc12de_init_da8c8_4 : decode cJxc12de_init_da8c8 4 = .ok (.aload_n 0, 1) := by decide +kernel
theorem dJxc12de_init_da8c8_5 : decode cJxc12de_init_da8c8 5 = .ok (.iconst 0, 1) := by decide +kernel
theorem dJxc12de_init_da8c8_6 : decode cJxc12de_init_da8c8 6 = .ok (.putfield 7, 3) := by decide +kernel
theorem dJxc12de_init_da8c8_9 : decode cJxc12de_init_da8c8 9 = .ok (.return_, 1) := by decide +kernel
set_option maxRecDepth 20000 in
theorem ggJx4a65c_init_da8c8_Jxc12de_init_da8c8 : GoodIn wsJx4a65c_init_da8c8 wsJxc12de_init_da8c8 := goodIn_r _ [6, 7, 8, 9, 10, 11, 12, 13, 14, 15, 16, 17] (by decide +kernel) (by decide +kernel)
set_option maxRecDepth 20000 in
theorem gJx4a65c_init_da8c8_Jxc12de_init_da8c8 : GoodIn wsJx4a65c_init_da8c8 (wsJxc12de_init_da8c8) := ggJx4a65c_init_da8c8_Jxc12de_init_da8c8
theorem dJx4a65c_init_da8c8_0 : decode cJx4a65c_init_da8c8 0 = .ok (.aload_n 0, 1) := by decide +kernel
theorem dJx4a65c_init_da8c8_1 : decode cJx4a65c_init_da8c8 1 = .ok (.invokespecial 1, 3) := by decide +kernel
theorem dJx4a65c_init_da8c8_4 : decode cJx4a65c_init_da8c8 4 = .ok (.aload_n 0, 1) := by decide +kernel
theorem dJx4a65c_init_da8c8_5 : decode cJx4a65c_init_da8c8 5 = .ok (.getstatic 39, 3) := by decide +kernel
theorem dJx4a65c_init_da8c8_8 : decode cJx4a65c_init_da8c8 8 = .ok (.putfield 9, 3) := by decide +kernel
theorem dJx4a65c_init_da8c8_11 : decode cJx4a65c_init_da8c8 11 = .ok (.return_, 1) := by decide +kernel
set_option maxRecDepth 20000 in
theorem ggJx4a65c_grow_92f84_J8_newLength_cabcc : GoodIn wsJx4a65c_grow_92f84 wsJ8_newLength_cabcc := goodIn_r _ [11, 12, 4, 5, 6, 13, 14, 15, 10, 16] (by decide +kernel) (by decide +kernel)
set_option maxRecDepth 20000 in
theorem gJx4a65c_grow_92f84_J8_newLength_cabcc : GoodIn wsJx4a65c_grow_92f84 (va_wsS RJx4a65c 73 yJ8_newLength_cabcc wsJ8_newLength_cabcc) := goodIn_app (goodIn_of _ (by decide +kernel)) ggJx4a65c_grow_92f84_J8_newLength_cabcc
set_option maxRecDepth 20000 in
theorem ggJx4a65c_grow_92f84_J7_copyOf_1904c : GoodIn wsJx4a65c_grow_92f84 wsJ7_copyOf_1904c := goodIn_r _ [20, 21, 22, 23, 24, 25, 26, 19, 27, 28, 29, 30, 31, 5, 32, 33, 34, 35, 36] (by decide +kernel) (by decide +kernel)
set_option maxRecDepth 20000 in
theorem gJx4a65c_grow_92f84_J7_copyOf_1904c : GoodIn wsJx4a65c_grow_92f84 (va_wsS RJx4a65c 66 yJ7_copyOf_1904c wsJ7_copyOf_1904c) := goodIn_app (goodIn_of _ (by decide +kernel)) ggJx4a65c_grow_92f84_J7_copyOf_1904c
theorem dJx4a65c_grow_92f84_0 : decode cJx4a65c_grow_92f84 0 = .ok (.aload_n 0, 1) := by decide +kernel
theorem dJx4a65c_grow_92f84_1 : decode cJx4a65c_grow_92f84 1 = .ok (.getfield 9, 3) := by decide +kernel
theorem dJx4a65c_grow_92f84_4 : decode cJx4a65c_grow_92f84 4 = .ok (.arraylength, 1) := by decide +kernel
theorem dJx4a65c_grow_92f84_5 : decode cJx4a65c_grow_92f84 5 = .ok (.istore_n 2, 1) := by decide +kernel
theorem dJx4a65c_grow_92f84_6 : decode cJx4a65c_grow_92f84 6 = .ok (.iload_n 2, 1) := by decide +kernel
theorem dJx4a65c_grow_92f84_7 : decode cJx4a65c_grow_92f84 7 = .ok (.ifCond .gt 13, 3) := by decide +kernel
theorem dJx4a65c_grow_92f84_10 : decode cJx4a65c_grow_92f84 10 = .ok (.aload_n 0, 1) := by decide +kernel
theorem dJx4a65c_grow_92f84_11 : decode cJx4a65c_grow_92f84 11 = .ok (.getfield 9, 3) := by decide +kernel
theorem dJx4a65c_grow_92f84_14 : decode cJx4a65c_grow_92f84 14 = .ok (.getstatic 39, 3) := by decide +kernel
theorem dJx4a65c_grow_92f84_17 : decode cJx4a65c_grow_92f84 17 = .ok (.if_acmp .eq 28, 3) := by decide +kernel
theorem dJx4a65c_grow_92f84_20 : decode cJx4a65c_grow_92f84 20 = .ok (.iload_n 2, 1) := by decide +kernel
theorem dJx4a65c_grow_92f84_21 : decode cJx4a65c_grow_92f84 21 = .ok (.iload_n 1, 1) := by decide +kernel
theorem dJx4a65c_grow_92f84_22 : decode cJx4a65c_grow_92f84 22 = .ok (.iload_n 2, 1) := by decide +kernel
theorem dJx4a65c_grow_92f84_23 : decode cJx4a65c_grow_92f84 23 = .ok (.isub, 1) := by decide +kernel
theorem dJx4a65c_grow_92f84_24 : decode cJx4a65c_grow_92f84 24 = .ok (.iload_n 2, 1) := by decide +kernel
theorem dJx4a65c_grow_92f84_25 : decode cJx4a65c_grow_92f84 25 = .ok (.iconst 1, 1) := by decide +kernel
theorem dJx4a65c_grow_92f84_26 : decode cJx4a65c_grow_92f84 26 = .ok (.ishr, 1) := by decide +kernel
theorem dJx4a65c_grow_92f84_27 : decode cJx4a65c_grow_92f84 27 = .ok (.invokestatic 73, 3) := by decide +kernel
theorem dJx4a65c_grow_92f84_30 : decode cJx4a65c_grow_92f84 30 = .ok (.istore_n 3, 1) := by decide +kernel
theorem dJx4a65c_grow_92f84_31 : decode cJx4a65c_grow_92f84 31 = .ok (.aload_n 0, 1) := by decide +kernel
theorem dJx4a65c_grow_92f84_32 : decode cJx4a65c_grow_92f84 32 = .ok (.aload_n 0, 1) := by decide +kernel
theorem dJx4a65c_grow_92f84_33 : decode cJx4a65c_grow_92f84 33 = .ok (.getfield 9, 3) := by decide +kernel
theorem dJx4a65c_grow_92f84_36 : decode cJx4a65c_grow_92f84 36 = .ok (.iload_n 3, 1) := by decide +kernel
theorem dJx4a65c_grow_92f84_37 : decode cJx4a65c_grow_92f84 37 = .ok (.invokestatic 66, 3) := by decide +kernel
theorem dJx4a65c_grow_92f84_40 : decode cJx4a65c_grow_92f84 40 = .ok (.dup_x1, 1) := by decide +kernel
theorem dJx4a65c_grow_92f84_41 : decode cJx4a65c_grow_92f84 41 = .ok (.putfield 9, 3) := by decide +kernel
theorem dJx4a65c_grow_92f84_44 : decode cJx4a65c_grow_92f84 44 = .ok (.areturn, 1) := by decide +kernel
theorem dJx4a65c_grow_92f84_45 : decode cJx4a65c_grow_92f84 45 = .ok (.aload_n 0, 1) := by decide +kernel
theorem dJx4a65c_grow_92f84_46 : decode cJx4a65c_grow_92f84 46 = .ok (.bipush 10, 2) := by decide +kernel
theorem dJx4a65c_grow_92f84_48 : decode cJx4a65c_grow_92f84 48 = .ok (.iload_n 1, 1) := by decide +kernel
theorem dJx4a65c_grow_92f84_49 : decode cJx4a65c_grow_92f84 49 = .ok (.invokestatic 79, 3) := by decide +kernel
theorem dJx4a65c_grow_92f84_52 : decode cJx4a65c_grow_92f84 52 = .ok (.anewarray 7, 3) := by decide +kernel
theorem dJx4a65c_grow_92f84_55 : decode cJx4a65c_grow_92f84 55 = .ok (.dup_x1, 1) := by decide +kernel
theorem dJx4a65c_grow_92f84_56 : decode cJx4a65c_grow_92f84 56 = .ok (.putfield 9, 3) := by decide +kernel
theorem dJx4a65c_grow_92f84_59 : decode cJx4a65c_grow_92f84 59 = .ok (.areturn, 1) := by decide +kernel
set_option maxRecDepth 20000 in
theorem ggJx4a65c_grow_d5877_Jx4a65c_grow_92f84 : GoodIn wsJx4a65c_grow_d5877 wsJx4a65c_grow_92f84 := goodIn_r _ [6, 7, 8, 9, 10, 11, 12, 13, 14, 15, 16, 17, 18, 19, 20, 21, 22, 23, 24, 25, 26, 27, 28, 29, 30, 31, 32, 33, 34, 35, 36, 37, 38, 39, 40, 41, 42, 43, 44, 45] (by decide +kernel) (by decide +kernel)
set_option maxRecDepth 20000 in
theorem gJx4a65c_grow_d5877_Jx4a65c_grow_92f84 : GoodIn wsJx4a65c_grow_d5877 (wsV RJx4a65c 69 RJx4a65c yJx4a65c_grow_92f84 wsJx4a65c_grow_92f84) := goodIn_app (goodIn_of _ (by decide +kernel)) ggJx4a65c_grow_d5877_Jx4a65c_grow_92f84
theorem dJx4a65c_grow_d5877_0 : decode cJx4a65c_grow_d5877 0 = .ok (.aload_n 0, 1) := by decide +kernel
theorem dJx4a65c_grow_d5877_1 : decode cJx4a65c_grow_d5877 1 = .ok (.aload_n 0, 1) := by decide +kernel
theorem dJx4a65c_grow_d5877_2 : decode cJx4a65c_grow_d5877 2 = .ok (.getfield 48, 3) := by decide +kernel
theorem dJx4a65c_grow_d5877_5 : decode cJx4a65c_grow_d5877 5 = .ok (.iconst 1, 1) := by decide +kernel
theorem dJx4a65c_grow_d5877_6 : decode cJx4a65c_grow_d5877 6 = .ok (.iadd, 1) := by decide +kernel
theorem dJx4a65c_grow_d5877_7 : decode cJx4a65c_grow_d5877 7 = .ok (.invokevirtual 69, 3) := by decide +kernel
theorem dJx4a65c_grow_d5877_10 : decode cJx4a65c_grow_d5877 10 = .ok (.areturn, 1) := by decide +kernel
theorem dJx4a65c_size_8abf5_0 : decode cJx4a65c_size_8abf5 0 = .ok (.aload_n 0, 1) := by decide +kernel
theorem dJx4a65c_size_8abf5_1 : decode cJx4a65c_size_8abf5 1 = .ok (.getfield 48, 3) := by decide +kernel
theorem dJx4a65c_size_8abf5_4 : decode cJx4a65c_size_8abf5 4 = .ok (.ireturn, 1) := by decide +kernel
theorem dJx4a65c_elementData_915e3_0 : decode cJx4a65c_elementData_915e3 0 = .ok (.aload_n 0, 1) := by decide +kernel
theorem dJx4a65c_elementData_915e3_1 : decode cJx4a65c_elementData_915e3 1 = .ok (.getfield 9, 3) := by decide +kernel
theorem dJx4a65c_elementData_915e3_4 : decode cJx4a65c_elementData_915e3 4 = .ok (.iload_n 1, 1) := by decide +kernel
theorem dJx4a65c_elementData_915e3_5 : decode cJx4a65c_elementData_915e3 5 = .ok (.aaload, 1) := by decide +kernel
theorem dJx4a65c_elementData_915e3_6 : decode cJx4a65c_elementData_915e3 6 = .ok (.areturn, 1) := by decide +kernel
set_option maxRecDepth 20000 in
theorem ggJx4a65c_get_915e3_J15_checkIndex_7cf53 : GoodIn wsJx4a65c_get_915e3 wsJ15_checkIndex_7cf53 := goodIn_r _ [5, 6, 7, 8, 9] (by decide +kernel) (by decide +kernel)
set_option maxRecDepth 20000 in
theorem gJx4a65c_get_915e3_J15_checkIndex_7cf53 : GoodIn wsJx4a65c_get_915e3 (va_wsS RJx4a65c 118 yJ15_checkIndex_7cf53 wsJ15_checkIndex_7cf53) := goodIn_app (goodIn_of _ (by decide +kernel)) ggJx4a65c_get_915e3_J15_checkIndex_7cf53
set_option maxRecDepth 20000 in
theorem ggJx4a65c_get_915e3_Jx4a65c_elementData_915e3 : GoodIn wsJx4a65c_get_915e3 wsJx4a65c_elementData_915e3 := goodIn_r _ [14, 15, 16, 17, 18] (by decide +kernel) (by decide +kernel)
set_option maxRecDepth 20000 in
theorem gJx4a65c_get_915e3_Jx4a65c_elementData_915e3 : GoodIn wsJx4a65c_get_915e3 (wsV RJx4a65c 123 RJx4a65c yJx4a65c_elementData_915e3 wsJx4a65c_elementData_915e3) := goodIn_app (goodIn_of _ (by decide +kernel)) ggJx4a65c_get_915e3_Jx4a65c_elementData_915e3
theorem dJx4a65c_get_915e3_0 : decode cJx4a65c_get_915e3 0 = .ok (.iload_n 1, 1) := by decide +kernel
theorem dJx4a65c_get_915e3_1 : decode cJx4a65c_get_915e3 1 = .ok (.aload_n 0, 1) := by decide +kernel
theorem dJx4a65c_get_915e3_2 : decode cJx4a65c_get_915e3 2 = .ok (.getfield 48, 3) := by decide +kernel
theorem dJx4a65c_get_915e3_5 : decode cJx4a65c_get_915e3 5 = .ok (.invokestatic 118, 3) := by decide +kernel
theorem dJx4a65c_get_915e3_8 : decode cJx4a65c_get_915e3 8 = .ok (.pop, 1) := by decide +kernel
theorem dJx4a65c_get_915e3_9 : decode cJx4a65c_get_915e3 9 = .ok (.aload_n 0, 1) := by decide +kernel
theorem dJx4a65c_get_915e3_10 : decode cJx4a65c_get_915e3 10 = .ok (.iload_n 1, 1) := by decide +kernel
theorem dJx4a65c_get_915e3_11 : decode cJx4a65c_get_915e3 11 = .ok (.invokevirtual 123, 3) := by decide +kernel
theorem dJx4a65c_get_915e3_14 : decode cJx4a65c_get_915e3 14 = .ok (.areturn, 1) := by decide +kernel
set_option maxRecDepth 20000 in
theorem ggJx4a65c_add_72be8_Jx4a65c_grow_d5877 : GoodIn wsJx4a65c_add_72be8 wsJx4a65c_grow_d5877 := goodIn_r _ [6, 1, 7, 8, 9, 5, 10, 11, 12, 13, 14, 15, 16, 17, 18, 19, 20, 21, 22, 23, 24, 25, 26, 27, 28, 29, 30, 31, 32, 33, 34, 35, 36, 37, 38, 39, 40, 41, 42, 43, 44, 45, 46, 47, 48, 49] (by decide +kernel) (by decide +kernel)
set_option maxRecDepth 20000 in
theorem gJx4a65c_add_72be8_Jx4a65c_grow_d5877 : GoodIn wsJx4a65c_add_72be8 (wsV RJx4a65c 129 RJx4a65c yJx4a65c_grow_d5877 wsJx4a65c_grow_d5877) := goodIn_app (goodIn_of _ (by decide +kernel)) ggJx4a65c_add_72be8_Jx4a65c_grow_d5877
theorem dJx4a65c_add_72be8_0 : decode cJx4a65c_add_72be8 0 = .ok (.iload_n 3, 1) := by decide +kernel
theorem dJx4a65c_add_72be8_1 : decode cJx4a65c_add_72be8 1 = .ok (.aload_n 2, 1) := by decide +kernel
theorem dJx4a65c_add_72be8_2 : decode cJx4a65c_add_72be8 2 = .ok (.arraylength, 1) := by decide +kernel
theorem dJx4a65c_add_72be8_3 : decode cJx4a65c_add_72be8 3 = .ok (.if_icmp .ne 8, 3) := by decide +kernel
theorem dJx4a65c_add_72be8_6 : decode cJx4a65c_add_72be8 6 = .ok (.aload_n 0, 1) := by decide +kernel
theorem dJx4a65c_add_72be8_7 : decode cJx4a65c_add_72be8 7 = .ok (.invokevirtual 129, 3) := by decide +kernel
theorem dJx4a65c_add_72be8_10 : decode cJx4a65c_add_72be8 10 = .ok (.astore_n 2, 1) := by decide +kernel
theorem dJx4a65c_add_72be8_11 : decode cJx4a65c_add_72be8 11 = .ok (.aload_n 2, 1) := by decide +kernel
theorem dJx4a65c_add_72be8_12 : decode cJx4a65c_add_72be8 12 = .ok (.iload_n 3, 1) := by decide +kernel
theorem dJx4a65c_add_72be8_13 : decode cJx4a65c_add_72be8 13 = .ok (.aload_n 1, 1) := by decide +kernel
theorem dJx4a65c_add_72be8_14 : decode cJx4a65c_add_72be8 14 = .ok (.aastore, 1) := by decide +kernel
theorem dJx4a65c_add_72be8_15 : decode cJx4a65c_add_72be8 15 = .ok (.aload_n 0, 1) := by decide +kernel
theorem dJx4a65c_add_72be8_16 : decode cJx4a65c_add_72be8 16 = .ok (.iload_n 3, 1) := by decide +kernel
theorem dJx4a65c_add_72be8_17 : decode cJx4a65c_add_72be8 17 = .ok (.iconst 1, 1) := by decide +kernel
theorem dJx4a65c_add_72be8_18 : decode cJx4a65c_add_72be8 18 = .ok (.iadd, 1) := by decide +kernel
theorem dJx4a65c_add_72be8_19 : decode cJx4a65c_add_72be8 19 = .ok (.putfield 48, 3) := by decide +kernel
theorem dJx4a65c_add_72be8_22 : decode cJx4a65c_add_72be8 22 = .ok (.return_, 1) := by decide +kernel
set_option maxRecDepth 20000 in
theorem ggJx4a65c_add_9ea2d_Jx4a65c_add_72be8 : GoodIn wsJx4a65c_add_9ea2d wsJx4a65c_add_72be8 := goodIn_r _ [9, 4, 10, 11, 12, 8, 13, 14, 15, 16, 17, 3, 18, 19, 20, 21, 22, 23, 24, 25, 26, 27, 28, 29, 30, 31, 32, 33, 34, 35, 36, 37, 38, 39, 40, 41, 42, 43, 44, 45, 46, 47, 48, 49, 50, 51, 52, 53, 54, 55] (by decide +kernel) (by decide +kernel)
set_option maxRecDepth 20000 in
theorem gJx4a65c_add_9ea2d_Jx4a65c_add_72be8 : GoodIn wsJx4a65c_add_9ea2d (wsV RJx4a65c 131 RJx4a65c yJx4a65c_add_72be8 wsJx4a65c_add_72be8) := goodIn_app (goodIn_of _ (by decide +kernel)) ggJx4a65c_add_9ea2d_Jx4a65c_add_72be8
theorem dJx4a65c_add_9ea2d_0 : decode cJx4a65c_add_9ea2d 0 = .ok (.aload_n 0, 1) := by decide +kernel
theorem dJx4a65c_add_9ea2d_1 : decode cJx4a65c_add_9ea2d 1 = .ok (.dup, 1) := by decide +kernel
theorem dJx4a65c_add_9ea2d_2 : decode cJx4a65c_add_9ea2d 2 = .ok (.getfield 63, 3) := by decide +kernel
theorem dJx4a65c_add_9ea2d_5 : decode cJx4a65c_add_9ea2d 5 = .ok (.iconst 1, 1) := by decide +kernel
theorem dJx4a65c_add_9ea2d_6 : decode cJx4a65c_add_9ea2d 6 = .ok (.iadd, 1) := by decide +kernel
theorem dJx4a65c_add_9ea2d_7 : decode cJx4a65c_add_9ea2d 7 = .ok (.putfield 63, 3) := by decide +kernel
theorem dJx4a65c_add_9ea2d_10 : decode cJx4a65c_add_9ea2d 10 = .ok (.aload_n 0, 1) := by decide +kernel
theorem dJx4a65c_add_9ea2d_11 : decode cJx4a65c_add_9ea2d 11 = .ok (.aload_n 1, 1) := by decide +kernel
theorem dJx4a65c_add_9ea2d_12 : decode cJx4a65c_add_9ea2d 12 = .ok (.aload_n 0, 1) := by decide +kernel
theorem dJx4a65c_add_9ea2d_13 : decode cJx4a65c_add_9ea2d 13 = .ok (.getfield 9, 3) := by decide +kernel
theorem dJx4a65c_add_9ea2d_16 : decode cJx4a65c_add_9ea2d 16 = .ok (.aload_n 0, 1) := by decide +kernel
theorem dJx4a65c_add_9ea2d_17 : decode cJx4a65c_add_9ea2d 17 = .ok (.getfield 48, 3) := by decide +kernel
theorem dJx4a65c_add_9ea2d_20 : decode cJx4a65c_add_9ea2d 20 = .ok (.invokevirtual 131, 3) := by decide +kernel
theorem dJx4a65c_add_9ea2d_23 : decode cJx4a65c_add_9ea2d 23 = .ok (.iconst 1, 1) := by decide +kernel
theorem dJx4a65c_add_9ea2d_24 : decode cJx4a65c_add_9ea2d 24 = .ok (.ireturn, 1) := by decide +kernel
theorem dJ7_fill_d0a16_0 : decode cJ7_fill_d0a16 0 = .ok (.iconst 0, 1) := by decide +kernel
theorem dJ7_fill_d0a16_1 : decode cJ7_fill_d0a16 1 = .ok (.istore_n 3, 1) := by decide +kernel
theorem dJ7_fill_d0a16_2 : decode cJ7_fill_d0a16 2 = .ok (.aload_n 0, 1) := by decide +kernel
theorem dJ7_fill_d0a16_3 : decode cJ7_fill_d0a16 3 = .ok (.arraylength, 1) := by decide +kernel
theorem dJ7_fill_d0a16_4 : decode cJ7_fill_d0a16 4 = .ok (.istore 4, 2) := by decide +kernel
theorem dJ7_fill_d0a16_6 : decode cJ7_fill_d0a16 6 = .ok (.iload_n 3, 1) := by decide +kernel
theorem dJ7_fill_d0a16_7 : decode cJ7_fill_d0a16 7 = .ok (.iload 4, 2) := by decide +kernel
theorem dJ7_fill_d0a16_9 : decode cJ7_fill_d0a16 9 = .ok (.if_icmp .ge 13, 3) := by decide +kernel
theorem dJ7_fill_d0a16_12 : decode cJ7_fill_d0a16 12 = .ok (.aload_n 0, 1) := by decide +kernel
theorem dJ7_fill_d0a16_13 : decode cJ7_fill_d0a16 13 = .ok (.iload_n 3, 1) := by decide +kernel
theorem dJ7_fill_d0a16_14 : decode cJ7_fill_d0a16 14 = .ok (.lload_n 1, 1) := by decide +kernel
theorem dJ7_fill_d0a16_15 : decode cJ7_fill_d0a16 15 = .ok (.lastore, 1) := by decide +kernel
theorem dJ7_fill_d0a16_16 : decode cJ7_fill_d0a16 16 = .ok (.iinc 3 1, 3) := by decide +kernel
theorem dJ7_fill_d0a16_19 : decode cJ7_fill_d0a16 19 = .ok (.goto (-13), 3) := by decide +kernel
theorem dJ7_fill_d0a16_22 : decode cJ7_fill_d0a16 22 = .ok (.return_, 1) := by decide +kernel
set_option maxRecDepth 20000 in
theorem ggJ7_copyOf_1904c_J7_copyOf_6403c : GoodIn wsJ7_copyOf_1904c wsJ7_copyOf_6403c := goodIn_r _ [8, 9, 10, 11, 12, 13, 14, 15, 16, 17, 18] (by decide +kernel) (by decide +kernel)
set_option maxRecDepth 20000 in
theorem gJ7_copyOf_1904c_J7_copyOf_6403c : GoodIn wsJ7_copyOf_1904c (va_wsS RJ7 300 yJ7_copyOf_6403c wsJ7_copyOf_6403c) := goodIn_app (goodIn_of _ (by decide +kernel)) ggJ7_copyOf_1904c_J7_copyOf_6403c
theorem dJ7_copyOf_1904c_0 : decode cJ7_copyOf_1904c 0 = .ok (.aload_n 0, 1) := by decide +kernel
theorem dJ7_copyOf_1904c_1 : decode cJ7_copyOf_1904c 1 = .ok (.iload_n 1, 1) := by decide +kernel
theorem dJ7_copyOf_1904c_2 : decode cJ7_copyOf_1904c 2 = .ok (.aload_n 0, 1) := by decide +kernel
theorem dJ7_copyOf_1904c_3 : decode cJ7_copyOf_1904c 3 = .ok (.invokevirtual 86, 3) := by decide +kernel
theorem dJ7_copyOf_1904c_6 : decode cJ7_copyOf_1904c 6 = .ok (.invokestatic 300, 3) := by decide +kernel
theorem dJ7_copyOf_1904c_9 : decode cJ7_copyOf_1904c 9 = .ok (.areturn, 1) := by decide +kernel
theorem dJ7_copyOf_6403c_0 : decode cJ7_copyOf_6403c 0 = .ok (.aload_n 2, 1) := by decide +kernel
theorem dJ7_copyOf_6403c_1 : decode cJ7_copyOf_6403c 1 = .ok (.ldc 110, 2) := by decide +kernel
theorem dJ7_copyOf_6403c_3 : decode cJ7_copyOf_6403c 3 = .ok (.if_acmp .ne 10, 3) := by decide +kernel
theorem dJ7_copyOf_6403c_6 : decode cJ7_copyOf_6403c 6 = .ok (.iload_n 1, 1) := by decide +kernel
theorem dJ7_copyOf_6403c_7 : decode cJ7_copyOf_6403c 7 = .ok (.anewarray 2, 3) := by decide +kernel
theorem dJ7_copyOf_6403c_10 : decode cJ7_copyOf_6403c 10 = .ok (.goto 14, 3) := by decide +kernel
theorem dJ7_copyOf_6403c_13 : decode cJ7_copyOf_6403c 13 = .ok (.aload_n 2, 1) := by decide +kernel
theorem dJ7_copyOf_6403c_14 : decode cJ7_copyOf_6403c 14 = .ok (.invokevirtual 90, 3) := by decide +kernel
theorem dJ7_copyOf_6403c_17 : decode cJ7_copyOf_6403c 17 = .ok (.iload_n 1, 1) := by decide +kernel
theorem dJ7_copyOf_6403c_18 : decode cJ7_copyOf_6403c 18 = .ok (.invokestatic 95, 3) := by decide +kernel
theorem dJ7_copyOf_6403c_21 : decode cJ7_copyOf_6403c 21 = .ok (.checkcast 110, 3) := by decide +kernel
theorem dJ7_copyOf_6403c_24 : decode cJ7_copyOf_6403c 24 = .ok (.astore_n 3, 1) := by decide +kernel
theorem dJ7_copyOf_6403c_25 : decode cJ7_copyOf_6403c 25 = .ok (.aload_n 0, 1) := by decide +kernel
theorem dJ7_copyOf_6403c_26 : decode cJ7_copyOf_6403c 26 = .ok (.iconst 0, 1) := by decide +kernel
theorem dJ7_copyOf_6403c_27 : decode cJ7_copyOf_6403c 27 = .ok (.aload_n 3, 1) := by decide +kernel
theorem dJ7_copyOf_6403c_28 : decode cJ7_copyOf_6403c 28 = .ok (.iconst 0, 1) := by decide +kernel
theorem dJ7_copyOf_6403c_29 : decode cJ7_copyOf_6403c 29 = .ok (.aload_n 0, 1) := by decide +kernel
theorem dJ7_copyOf_6403c_30 : decode cJ7_copyOf_6403c 30 = .ok (.arraylength, 1) := by decide +kernel
theorem dJ7_copyOf_6403c_31 : decode cJ7_copyOf_6403c 31 = .ok (.iload_n 1, 1) := by decide +kernel
theorem dJ7_copyOf_6403c_32 : decode cJ7_copyOf_6403c 32 = .ok (.invokestatic 304, 3) := by decide +kernel
theorem dJ7_copyOf_6403c_35 : decode cJ7_copyOf_6403c 35 = .ok (.invokestatic 150, 3) := by decide +kernel
theorem dJ7_copyOf_6403c_38 : decode cJ7_copyOf_6403c 38 = .ok (.aload_n 3, 1) := by decide +kernel
theorem dJ7_copyOf_6403c_39 : decode cJ7_copyOf_6403c 39 = .ok (.areturn, 1) := by decide +kernel
theorem dJ7_copyOf_9075b_0 : decode cJ7_copyOf_9075b 0 = .ok (.iload_n 1, 1) := by decide +kernel
theorem dJ7_copyOf_9075b_1 : decode cJ7_copyOf_9075b 1 = .ok (.aload_n 0, 1) := by decide +kernel
theorem dJ7_copyOf_9075b_2 : decode cJ7_copyOf_9075b 2 = .ok (.arraylength, 1) := by decide +kernel
theorem dJ7_copyOf_9075b_3 : decode cJ7_copyOf_9075b 3 = .ok (.if_icmp .ne 11, 3) := by decide +kernel
theorem dJ7_copyOf_9075b_6 : decode cJ7_copyOf_9075b 6 = .ok (.aload_n 0, 1) := by decide +kernel
theorem dJ7_copyOf_9075b_7 : decode cJ7_copyOf_9075b 7 = .ok (.invokevirtual 310, 3) := by decide +kernel
theorem dJ7_copyOf_9075b_10 : decode cJ7_copyOf_9075b 10 = .ok (.checkcast 311, 3) := by decide +kernel
theorem dJ7_copyOf_9075b_13 : decode cJ7_copyOf_9075b 13 = .ok (.areturn, 1) := by decide +kernel
theorem dJ7_copyOf_9075b_14 : decode cJ7_copyOf_9075b 14 = .ok (.iload_n 1, 1) := by decide +kernel
theorem dJ7_copyOf_9075b_15 : decode cJ7_copyOf_9075b 15 = .ok (.newarray .byte, 2) := by decide +kernel
theorem dJ7_copyOf_9075b_17 : decode cJ7_copyOf_9075b 17 = .ok (.astore_n 2, 1) := by decide +kernel
theorem dJ7_copyOf_9075b_18 : decode cJ7_copyOf_9075b 18 = .ok (.aload_n 0, 1) := by decide +kernel
theorem dJ7_copyOf_9075b_19 : decode cJ7_copyOf_9075b 19 = .ok (.iconst 0, 1) := by decide +kernel
theorem dJ7_copyOf_9075b_20 : decode cJ7_copyOf_9075b 20 = .ok (.aload_n 2, 1) := by decide +kernel
theorem dJ7_copyOf_9075b_21 : decode cJ7_copyOf_9075b 21 = .ok (.iconst 0, 1) := by decide +kernel
theorem dJ7_copyOf_9075b_22 : decode cJ7_copyOf_9075b 22 = .ok (.aload_n 0, 1) := by decide +kernel
theorem dJ7_copyOf_9075b_23 : decode cJ7_copyOf_9075b 23 = .ok (.arraylength, 1) := by decide +kernel
theorem dJ7_copyOf_9075b_24 : decode cJ7_copyOf_9075b 24 = .ok (.iload_n 1, 1) := by decide +kernel
theorem dJ7_copyOf_9075b_25 : decode cJ7_copyOf_9075b 25 = .ok (.invokestatic 304, 3) := by decide +kernel
theorem dJ7_copyOf_9075b_28 : decode cJ7_copyOf_9075b 28 = .ok (.invokestatic 150, 3) := by decide +kernel
theorem dJ7_copyOf_9075b_31 : decode cJ7_copyOf_9075b 31 = .ok (.aload_n 2, 1) := by decide +kernel
theorem dJ7_copyOf_9075b_32 : decode cJ7_copyOf_9075b 32 = .ok (.areturn, 1) := by decide +kernel
set_option maxRecDepth 20000 in
theorem ggJ15_checkIndex_7cf53_J3_checkIndex_8e157 : GoodIn wsJ15_checkIndex_7cf53 wsJ3_checkIndex_8e157 := goodIn_r _ [4] (by decide +kernel) (by decide +kernel)
set_option maxRecDepth 20000 in
theorem gJ15_checkIndex_7cf53_J3_checkIndex_8e157 : GoodIn wsJ15_checkIndex_7cf53 (va_wsS RJ15 105 yJ3_checkIndex_8e157 wsJ3_checkIndex_8e157) := goodIn_app (goodIn_of _ (by decide +kernel)) ggJ15_checkIndex_7cf53_J3_checkIndex_8e157
theorem dJ15_checkIndex_7cf53_0 : decode cJ15_checkIndex_7cf53 0 = .ok (.iload_n 0, 1) := by decide +kernel
theorem dJ15_checkIndex_7cf53_1 : decode cJ15_checkIndex_7cf53 1 = .ok (.iload_n 1, 1) := by decide +kernel
theorem dJ15_checkIndex_7cf53_2 : decode cJ15_checkIndex_7cf53 2 = .ok (.aconst_null, 1) := by decide +kernel
theorem dJ15_checkIndex_7cf53_3 : decode cJ15_checkIndex_7cf53 3 = .ok (.invokestatic 105, 3) := by decide +kernel
theorem dJ15_checkIndex_7cf53_6 : decode cJ15_checkIndex_7cf53 6 = .ok (.ireturn, 1) := by decide +kernel
set_option maxRecDepth 20000 in
theorem ggJ8_newLength_cabcc_J8_hugeLength_7cf53 : GoodIn wsJ8_newLength_cabcc wsJ8_hugeLength_7cf53 := goodIn_r _ [9, 5] (by decide +kernel) (by decide +kernel)
set_option maxRecDepth 20000 in
theorem gJ8_newLength_cabcc_J8_hugeLength_7cf53 : GoodIn wsJ8_newLength_cabcc (va_wsS RJ8 201 yJ8_hugeLength_7cf53 wsJ8_hugeLength_7cf53) := goodIn_app (goodIn_of _ (by decide +kernel)) ggJ8_newLength_cabcc_J8_hugeLength_7cf53
theorem dJ8_newLength_cabcc_0 : decode cJ8_newLength_cabcc 0 = .ok (.iload_n 0, 1) := by decide +kernel
theorem dJ8_newLength_cabcc_1 : decode cJ8_newLength_cabcc 1 = .ok (.iload_n 1, 1) := by decide +kernel
theorem dJ8_newLength_cabcc_2 : decode cJ8_newLength_cabcc 2 = .ok (.iload_n 2, 1) := by decide +kernel
theorem dJ8_newLength_cabcc_3 : decode cJ8_newLength_cabcc 3 = .ok (.invokestatic 194, 3) := by decide +kernel
theorem dJ8_newLength_cabcc_6 : decode cJ8_newLength_cabcc 6 = .ok (.iadd, 1) := by decide +kernel
theorem dJ8_newLength_cabcc_7 : decode cJ8_newLength_cabcc 7 = .ok (.istore_n 3, 1) := by decide +kernel
theorem dJ8_newLength_cabcc_8 : decode cJ8_newLength_cabcc 8 = .ok (.iconst 0, 1) := by decide +kernel
theorem dJ8_newLength_cabcc_9 : decode cJ8_newLength_cabcc 9 = .ok (.iload_n 3, 1) := by decide +kernel
theorem dJ8_newLength_cabcc_10 : decode cJ8_newLength_cabcc 10 = .ok (.if_icmp .ge 11, 3) := by decide +kernel
theorem dJ8_newLength_cabcc_13 : decode cJ8_newLength_cabcc 13 = .ok (.iload_n 3, 1) := by decide +kernel
theorem dJ8_newLength_cabcc_14 : decode cJ8_newLength_cabcc 14 = .ok (.ldc 200, 2) := by decide +kernel
theorem dJ8_newLength_cabcc_16 : decode cJ8_newLength_cabcc 16 = .ok (.if_icmp .gt 5, 3) := by decide +kernel
theorem dJ8_newLength_cabcc_19 : decode cJ8_newLength_cabcc 19 = .ok (.iload_n 3, 1) := by decide +kernel
theorem dJ8_newLength_cabcc_20 : decode cJ8_newLength_cabcc 20 = .ok (.ireturn, 1) := by decide +kernel
theorem dJ8_newLength_cabcc_21 : decode cJ8_newLength_cabcc 21 = .ok (.iload_n 0, 1) := by decide +kernel
theorem dJ8_newLength_cabcc_22 : decode cJ8_newLength_cabcc 22 = .ok (.iload_n 1, 1) := by decide +kernel
theorem dJ8_newLength_cabcc_23 : decode cJ8_newLength_cabcc 23 = .ok (.invokestatic 201, 3) := by decide +kernel
theorem dJ8_newLength_cabcc_26 : decode cJ8_newLength_cabcc 26 = .ok (.ireturn, 1) := by decide +kernel
theorem dJ8_hugeLength_7cf53_0 : decode cJ8_hugeLength_7cf53 0 = .ok (.iload_n 0, 1) := by decide +kernel
theorem dJ8_hugeLength_7cf53_1 : decode cJ8_hugeLength_7cf53 1 = .ok (.iload_n 1, 1) := by decide +kernel
theorem dJ8_hugeLength_7cf53_2 : decode cJ8_hugeLength_7cf53 2 = .ok (.iadd, 1) := by decide +kernel
theorem dJ8_hugeLength_7cf53_3 : decode cJ8_hugeLength_7cf53 3 = .ok (.istore_n 2, 1) := by decide +kernel
theorem dJ8_hugeLength_7cf53_4 : decode cJ8_hugeLength_7cf53 4 = .ok (.iload_n 2, 1) := by decide +kernel
theorem dJ8_hugeLength_7cf53_5 : decode cJ8_hugeLength_7cf53 5 = .ok (.ifCond .ge 44, 3) := by decide +kernel
theorem dJ8_hugeLength_7cf53_8 : decode cJ8_hugeLength_7cf53 8 = .ok (.new 204, 3) := by decide +kernel
theorem dJ8_hugeLength_7cf53_11 : decode cJ8_hugeLength_7cf53 11 = .ok (.dup, 1) := by decide +kernel
theorem dJ8_hugeLength_7cf53_12 : decode cJ8_hugeLength_7cf53 12 = .ok (.new 89, 3) := by decide +kernel
theorem dJ8_hugeLength_7cf53_15 : decode cJ8_hugeLength_7cf53 15 = .ok (.dup, 1) := by decide +kernel
theorem dJ8_hugeLength_7cf53_16 : decode cJ8_hugeLength_7cf53 16 = .ok (.invokespecial 91, 3) := by decide +kernel
theorem dJ8_hugeLength_7cf53_19 : decode cJ8_hugeLength_7cf53 19 = .ok (.ldc 206, 2) := by decide +kernel
theorem dJ8_hugeLength_7cf53_21 : decode cJ8_hugeLength_7cf53 21 = .ok (.invokevirtual 94, 3) := by decide +kernel
theorem dJ8_hugeLength_7cf53_24 : decode cJ8_hugeLength_7cf53 24 = .ok (.iload_n 0, 1) := by decide +kernel
theorem dJ8_hugeLength_7cf53_25 : decode cJ8_hugeLength_7cf53 25 = .ok (.invokevirtual 98, 3) := by decide +kernel
theorem dJ8_hugeLength_7cf53_28 : decode cJ8_hugeLength_7cf53 28 = .ok (.ldc 208, 2) := by decide +kernel
theorem dJ8_hugeLength_7cf53_30 : decode cJ8_hugeLength_7cf53 30 = .ok (.invokevirtual 94, 3) := by decide +kernel
theorem dJ8_hugeLength_7cf53_33 : decode cJ8_hugeLength_7cf53 33 = .ok (.iload_n 1, 1) := by decide +kernel
theorem dJ8_hugeLength_7cf53_34 : decode cJ8_hugeLength_7cf53 34 = .ok (.invokevirtual 98, 3) := by decide +kernel
theorem dJ8_hugeLength_7cf53_37 : decode cJ8_hugeLength_7cf53 37 = .ok (.ldc 210, 2) := by decide +kernel
theorem dJ8_hugeLength_7cf53_39 : decode cJ8_hugeLength_7cf53 39 = .ok (.invokevirtual 94, 3) := by decide +kernel
theorem dJ8_hugeLength_7cf53_42 : decode cJ8_hugeLength_7cf53 42 = .ok (.invokevirtual 101, 3) := by decide +kernel
theorem dJ8_hugeLength_7cf53_45 : decode cJ8_hugeLength_7cf53 45 = .ok (.invokespecial 212, 3) := by decide +kernel
theorem dJ8_hugeLength_7cf53_48 : decode cJ8_hugeLength_7cf53 48 = .ok (.athrow, 1) := by decide +kernel
theorem dJ8_hugeLength_7cf53_49 : decode cJ8_hugeLength_7cf53 49 = .ok (.iload_n 2, 1) := by decide +kernel
theorem dJ8_hugeLength_7cf53_50 : decode cJ8_hugeLength_7cf53 50 = .ok (.ldc 200, 2) := by decide +kernel
theorem dJ8_hugeLength_7cf53_52 : decode cJ8_hugeLength_7cf53 52 = .ok (.if_icmp .gt 6, 3) := by decide +kernel
theorem dJ8_hugeLength_7cf53_55 : decode cJ8_hugeLength_7cf53 55 = .ok (.ldc 200, 2) := by decide +kernel
theorem dJ8_hugeLength_7cf53_57 : decode cJ8_hugeLength_7cf53 57 = .ok (.ireturn, 1) := by decide +kernel
theorem dJ8_hugeLength_7cf53_58 : decode cJ8_hugeLength_7cf53 58 = .ok (.iload_n 2, 1) := by decide +kernel
theorem dJ8_hugeLength_7cf53_59 : decode cJ8_hugeLength_7cf53 59 = .ok (.ireturn, 1) := by decide +kernel
theorem dJ3_checkIndex_8e157_0 : decode cJ3_checkIndex_8e157 0 = .ok (.iload_n 0, 1) := by decide +kernel
theorem dJ3_checkIndex_8e157_1 : decode cJ3_checkIndex_8e157 1 = .ok (.ifCond .lt 8, 3) := by decide +kernel
theorem dJ3_checkIndex_8e157_4 : decode cJ3_checkIndex_8e157 4 = .ok (.iload_n 0, 1) := by decide +kernel
theorem dJ3_checkIndex_8e157_5 : decode cJ3_checkIndex_8e157 5 = .ok (.iload_n 1, 1) := by decide +kernel
theorem dJ3_checkIndex_8e157_6 : decode cJ3_checkIndex_8e157 6 = .ok (.if_icmp .lt 10, 3) := by decide +kernel
theorem dJ3_checkIndex_8e157_9 : decode cJ3_checkIndex_8e157 9 = .ok (.aload_n 2, 1) := by decide +kernel
theorem dJ3_checkIndex_8e157_10 : decode cJ3_checkIndex_8e157 10 = .ok (.iload_n 0, 1) := by decide +kernel
theorem dJ3_checkIndex_8e157_11 : decode cJ3_checkIndex_8e157 11 = .ok (.iload_n 1, 1) := by decide +kernel
theorem dJ3_checkIndex_8e157_12 : decode cJ3_checkIndex_8e157 12 = .ok (.invokestatic 95, 3) := by decide +kernel
theorem dJ3_checkIndex_8e157_15 : decode cJ3_checkIndex_8e157 15 = .ok (.athrow, 1) := by decide +kernel
theorem dJ3_checkIndex_8e157_16 : decode cJ3_checkIndex_8e157 16 = .ok (.iload_n 0, 1) := by decide +kernel
theorem dJ3_checkIndex_8e157_17 : decode cJ3_checkIndex_8e157 17 = .ok (.ireturn, 1) := by decide +kernel
set_option maxRecDepth 20000 in
theorem ggL_law_X8_init : GoodIn wsL_law wsX8_init := goodIn_r _ [8, 9, 10, 11, 12, 13, 14, 15, 16, 17, 18, 19, 20, 21, 22, 23, 24, 25, 26, 27, 28, 29, 30, 31, 32, 33, 34, 35, 36, 37, 38, 39, 40, 41, 42, 43, 44, 45, 46, 47, 48, 49, 50, 51, 52, 53, 54, 55, 56, 57, 58, 59, 60, 61, 62, 63, 64, 65, 66, 820, 821, 822, 785, 786, 787, 823, 824, 825, 826, 827, 828, 829, 830, 831, 832] (by decide +kernel) (by decide +kernel)
set_option maxRecDepth 20000 in
theorem gL_law_X8_init : GoodIn wsL_law (wsX8_init) := ggL_law_X8_init
set_option maxRecDepth 20000 in
theorem ggL_law_X9_init : GoodIn wsL_law wsX9_init := goodIn_r _ [69, 70, 10, 11, 27, 71, 72, 73, 74, 75, 76, 77, 78, 79, 80, 81, 82, 83, 84, 85, 86, 87, 88, 16, 89, 90, 91, 92, 93, 94, 788, 789, 790, 791, 792, 793, 794, 795, 796, 797, 798, 799, 800, 801, 802, 803, 804, 805, 806, 807, 808, 809, 810, 811, 812, 813, 814, 815, 816, 817, 818, 819] (by decide +kernel) (by decide +kernel)
set_option maxRecDepth 20000 in
theorem gL_law_X9_init : GoodIn wsL_law (wsX9_init) := ggL_law_X9_init
set_option maxRecDepth 20000 in
theorem ggL_law_X8_unit : GoodIn wsL_law wsX8_unit := goodIn_r _ [98, 15, 99, 100, 101, 14, 102, 29, 26, 28, 103, 104, 105, 106, 107, 108, 109, 110, 111, 112, 27, 113, 114, 64, 115, 116, 117, 118, 119, 785, 786, 787, 820, 821, 822] (by decide +kernel) (by decide +kernel)
set_option maxRecDepth 20000 in
theorem gL_law_X8_unit : GoodIn wsL_law (wsV RL 13 RX8 yX8_unit wsX8_unit) := goodIn_app (goodIn_of _ (by decide +kernel)) ggL_law_X8_unit
set_option maxRecDepth 20000 in
theorem ggL_law_X9_unit : GoodIn wsL_law wsX9_unit := goodIn_r _ [123, 124, 71, 788, 789, 790, 791, 792, 793, 794, 795, 796, 797, 798, 799, 800, 801, 802, 803, 804, 805, 806, 807, 808, 809, 810, 811, 812, 813, 814, 815, 816, 817, 818, 819] (by decide +kernel) (by decide +kernel)
set_option maxRecDepth 20000 in
theorem gL_law_X9_unit : GoodIn wsL_law (wsV RL 17 RX9 yX9_unit wsX9_unit) := goodIn_app (goodIn_of _ (by decide +kernel)) ggL_law_X9_unit
set_option maxRecDepth 20000 in
theorem ggL_law_X8_read : GoodIn wsL_law wsX8_read := goodIn_r _ [128, 129, 130, 131, 15, 18, 19, 20, 132, 133, 134, 21, 135, 136, 137, 14, 138, 29, 139, 140, 141, 142, 10, 11, 143, 63, 64, 65, 27, 144, 145, 146, 147, 148, 149, 150, 151, 152, 153, 154, 155, 28, 156, 157, 158, 159, 160, 161, 162, 163, 164, 165, 166, 167, 168, 169, 170, 171, 172, 173, 174, 175, 176, 177, 178, 179, 180, 181, 182, 183, 184, 185, 186, 187, 188, 189, 190, 191, 192, 193, 194, 195, 196, 197, 198, 199, 200, 201, 202, 203, 204, 205, 206, 207, 208, 209, 210, 211, 212, 213, 214, 215, 216, 217, 218, 219, 220, 221, 222, 223, 224, 225, 226, 227, 228, 229, 230, 231, 232, 233, 234, 235, 236, 237, 238, 239, 240, 241, 30, 31, 32, 33, 34, 35, 36, 37, 38, 39, 40, 41, 42, 43, 44, 45, 46, 47, 48, 49, 50, 51, 52, 53, 54, 55, 56, 57, 58, 59, 60, 16, 61, 62, 66, 242, 243, 244, 245, 246, 247, 248, 249, 250, 251, 252, 253, 254, 255, 256, 257, 258, 259, 260, 261, 262, 263, 264, 265, 266, 267, 72, 268, 269, 270, 271, 272, 273, 274, 275, 276, 277, 278, 279, 280, 281, 282, 283, 284, 285, 286, 287, 288, 289, 290, 291, 292, 293, 294, 295, 296, 297, 298, 299, 300, 301, 302, 303, 304, 305, 306, 307, 308, 309, 310, 311, 312, 313, 314, 315, 316, 317, 318, 319, 320, 321, 322, 323, 324, 325, 326, 327, 328, 329, 330, 331, 332, 333, 334, 335, 336, 337, 338, 339, 340, 341, 342, 343, 344, 345, 346, 347, 348, 349, 350, 351, 352, 353, 354, 355, 356, 357, 358, 359, 105, 360, 361, 362, 363, 364, 365, 366, 367, 368, 369, 113, 114, 115, 116, 117, 118, 119, 370, 371, 372, 373, 374, 375, 376, 377, 378, 379, 380, 381, 833, 834, 835, 836, 837, 785, 786, 787, 823, 824, 825, 826, 838, 839, 840, 820, 821, 822, 827, 828, 829, 830, 831, 832, 841, 842, 843, 844, 845, 846, 847, 848, 849, 850, 851, 852, 853] (by decide +kernel) (by decide +kernel)
set_option maxRecDepth 20000 in
theorem gL_law_X8_read : GoodIn wsL_law (wsV RL 18 RX8 yX8_read wsX8_read) := goodIn_app (goodIn_of _ (by decide +kernel)) ggL_law_X8_read
set_option maxRecDepth 20000 in
theorem ggL_law_X9_read : GoodIn wsL_law wsX9_read := goodIn_r _ [385, 124, 386, 387, 388, 389, 390, 391, 392, 85, 86, 87, 393, 394, 395, 5, 396, 71, 73, 74, 397, 398, 399, 400, 401, 402, 403, 404, 405, 406, 407, 408, 409, 410, 411, 412, 413, 414, 415, 80, 79, 416, 417, 78, 84, 81, 83, 418, 419, 420, 421, 422, 423, 424, 425, 426, 427, 428, 429, 430, 431, 432, 433, 434, 435, 436, 75, 76, 77, 437, 438, 439, 440, 441, 442, 443, 444, 445, 446, 447, 448, 449, 788, 789, 790, 791, 792, 793, 794, 795, 796, 797, 798, 799, 800, 801, 802, 803, 804, 805, 806, 807, 808, 809, 810, 811, 812, 813, 814, 815, 816, 817, 818, 819] (by decide +kernel) (by decide +kernel)
set_option maxRecDepth 20000 in
theorem gL_law_X9_read : GoodIn wsL_law (wsV RL 22 RX9 yX9_read wsX9_read) := goodIn_app (goodIn_of _ (by decide +kernel)) ggL_law_X9_read
set_option maxRecDepth 20000 in
theorem ggL_law_X8_condition : GoodIn wsL_law wsX8_condition := goodIn_r _ [453, 454, 17, 785, 786, 787] (by decide +kernel) (by decide +kernel)
set_option maxRecDepth 20000 in
theorem gL_law_X8_condition : GoodIn wsL_law (wsV RL 23 RX8 yX8_condition wsX8_condition) := goodIn_app (goodIn_of _ (by decide +kernel)) ggL_law_X8_condition
set_option maxRecDepth 20000 in
theorem ggL_law_X9_condition : GoodIn wsL_law wsX9_condition := goodIn_r _ [458, 459, 788, 789, 790, 791, 792, 793, 794, 795, 796, 797, 798, 799, 800, 801, 802, 803, 804, 805, 806, 807, 808, 809, 810, 811, 812, 813, 814, 815, 816, 817, 818, 819] (by decide +kernel) (by decide +kernel)
set_option maxRecDepth 20000 in
theorem gL_law_X9_condition : GoodIn wsL_law (wsV RL 27 RX9 yX9_condition wsX9_condition) := goodIn_app (goodIn_of _ (by decide +kernel)) ggL_law_X9_condition
set_option maxRecDepth 20000 in
theorem ggL_law_X8_tick : GoodIn wsL_law wsX8_tick := goodIn_r _ [463, 464, 21, 17, 465, 466, 467, 20, 468, 37, 469, 378, 379, 380, 36, 381, 334, 470, 471, 472, 473, 474, 475, 476, 477, 478, 202, 203, 204, 479, 480, 481, 482, 46, 483, 484, 485, 486, 487, 488, 489, 490, 41, 491, 492, 493, 40, 494, 61, 495, 496, 497, 498, 499, 299, 66, 500, 501, 502, 503, 504, 505, 506, 507, 508, 264, 509, 510, 511, 63, 64, 65, 512, 513, 514, 114, 115, 515, 516, 517, 518, 519, 520, 521, 785, 786, 787, 823, 824, 825, 826, 827, 828, 829, 841, 842, 843, 844, 845, 846, 847, 848, 849, 850, 851, 852, 853, 830, 831, 832] (by decide +kernel) (by decide +kernel)
set_option maxRecDepth 20000 in
theorem gL_law_X8_tick : GoodIn wsL_law (wsV RL 28 RX8 yX8_tick wsX8_tick) := goodIn_app (goodIn_of _ (by decide +kernel)) ggL_law_X8_tick
set_option maxRecDepth 20000 in
theorem ggL_law_X9_tick : GoodIn wsL_law wsX9_tick := goodIn_r _ [525, 526, 391, 85, 527, 86, 83, 390, 81, 87, 528, 529, 530, 5, 531, 78, 532, 533, 534, 535, 75, 76, 77, 459, 788, 789, 790, 791, 792, 793, 794, 795, 796, 797, 798, 799, 800, 801, 802, 803, 804, 805, 806, 807, 808, 809, 810, 811, 812, 813, 814, 815, 816, 817, 818, 819] (by decide +kernel) (by decide +kernel)
set_option maxRecDepth 20000 in
theorem gL_law_X9_tick : GoodIn wsL_law (wsV RL 31 RX9 yX9_tick wsX9_tick) := goodIn_app (goodIn_of _ (by decide +kernel)) ggL_law_X9_tick
set_option maxRecDepth 20000 in
theorem ggL_law_X8_act : GoodIn wsL_law wsX8_act := goodIn_r _ [539, 21, 17, 540, 541, 542, 20, 543, 37, 469, 378, 379, 380, 36, 381, 334, 470, 471, 472, 473, 474, 475, 476, 477, 478, 202, 203, 204, 479, 480, 481, 482, 46, 544, 292, 293, 264, 294, 290, 483, 484, 485, 486, 487, 488, 489, 490, 41, 491, 492, 493, 40, 494, 61, 495, 496, 497, 498, 499, 299, 66, 500, 501, 502, 503, 504, 505, 545, 546, 547, 548, 510, 516, 517, 518, 519, 520, 513, 521, 785, 786, 787, 823, 824, 825, 826, 827, 828, 829, 841, 842, 843, 844, 845, 846, 847, 848, 849, 850, 851, 852, 853, 830, 831, 832] (by decide +kernel) (by decide +kernel)
set_option maxRecDepth 20000 in
theorem gL_law_X8_act : GoodIn wsL_law (wsV RL 32 RX8 yX8_act wsX8_act) := goodIn_app (goodIn_of _ (by decide +kernel)) ggL_law_X8_act
set_option maxRecDepth 20000 in
theorem ggL_law_X9_act_ : GoodIn wsL_law wsX9_act_ := goodIn_r _ [552, 391, 87, 86, 85, 81, 390, 528, 529, 530, 5, 531, 78, 532, 533, 534, 535, 75, 76, 77, 459, 553, 554, 555, 556, 79, 80, 788, 789, 790, 791, 792, 793, 794, 795, 796, 797, 798, 799, 800, 801, 802, 803, 804, 805, 806, 807, 808, 809, 810, 811, 812, 813, 814, 815, 816, 817, 818, 819] (by decide +kernel) (by decide +kernel)
set_option maxRecDepth 20000 in
theorem gL_law_X9_act_ : GoodIn wsL_law (wsV RL 36 RX9 yX9_act_ wsX9_act_) := goodIn_app (goodIn_of _ (by decide +kernel)) ggL_law_X9_act_
set_option maxRecDepth 20000 in
theorem ggL_law_X8_pass : GoodIn wsL_law wsX8_pass := goodIn_r _ [560, 21, 561, 562, 563, 20, 564, 37, 469, 378, 379, 380, 36, 381, 334, 470, 471, 472, 473, 474, 475, 476, 477, 478, 202, 203, 204, 479, 480, 481, 482, 46, 565, 566, 2, 567, 785, 786, 787, 841, 842, 843, 844, 845, 846, 847, 848, 849, 850, 851, 852, 853, 823, 824, 825, 826, 827, 828, 829] (by decide +kernel) (by decide +kernel)
set_option maxRecDepth 20000 in
theorem gL_law_X8_pass : GoodIn wsL_law (wsV RL 37 RX8 yX8_pass wsX8_pass) := goodIn_app (goodIn_of _ (by decide +kernel)) ggL_law_X8_pass
set_option maxRecDepth 20000 in
theorem ggL_law_X9_pass : GoodIn wsL_law wsX9_pass := goodIn_r _ [571, 87, 572, 573, 574, 5, 575, 391, 788, 789, 790, 791, 792, 793, 794, 795, 796, 797, 798, 799, 800, 801, 802, 803, 804, 805, 806, 807, 808, 809, 810, 811, 812, 813, 814, 815, 816, 817, 818, 819] (by decide +kernel) (by decide +kernel)
set_option maxRecDepth 20000 in
theorem gL_law_X9_pass : GoodIn wsL_law (wsV RL 41 RX9 yX9_pass wsX9_pass) := goodIn_app (goodIn_of _ (by decide +kernel)) ggL_law_X9_pass
set_option maxRecDepth 20000 in
theorem ggL_law_X8_listed : GoodIn wsL_law wsX8_listed := goodIn_r _ [579, 21, 580, 581, 582, 20, 583, 584, 585, 586, 587, 37, 469, 378, 379, 380, 36, 381, 334, 470, 471, 472, 473, 474, 475, 476, 477, 478, 202, 203, 204, 479, 480, 481, 482, 46, 785, 786, 787, 823, 824, 825, 826, 841, 842, 843, 844, 845, 846, 847, 848, 849, 850, 851, 852, 853, 827, 828, 829] (by decide +kernel) (by decide +kernel)
set_option maxRecDepth 20000 in
theorem gL_law_X8_listed : GoodIn wsL_law (wsV RL 42 RX8 yX8_listed wsX8_listed) := goodIn_app (goodIn_of _ (by decide +kernel)) ggL_law_X8_listed
set_option maxRecDepth 20000 in
theorem ggL_law_X9_listed : GoodIn wsL_law wsX9_listed := goodIn_r _ [591, 391, 87, 788, 789, 790, 791, 792, 793, 794, 795, 796, 797, 798, 799, 800, 801, 802, 803, 804, 805, 806, 807, 808, 809, 810, 811, 812, 813, 814, 815, 816, 817, 818, 819] (by decide +kernel) (by decide +kernel)
set_option maxRecDepth 20000 in
theorem gL_law_X9_listed : GoodIn wsL_law (wsV RL 45 RX9 yX9_listed wsX9_listed) := goodIn_app (goodIn_of _ (by decide +kernel)) ggL_law_X9_listed
set_option maxRecDepth 20000 in
theorem ggL_law_X8_reset : GoodIn wsL_law wsX8_reset := goodIn_r _ [595, 21, 17, 561, 562, 563, 20, 564, 37, 469, 378, 379, 380, 36, 381, 334, 470, 471, 472, 473, 474, 475, 476, 477, 478, 202, 203, 204, 479, 480, 481, 482, 46, 596, 484, 485, 486, 487, 488, 489, 490, 41, 491, 492, 493, 40, 494, 61, 495, 496, 497, 498, 499, 299, 66, 500, 501, 502, 503, 504, 505, 785, 786, 787, 841, 842, 843, 844, 845, 846, 847, 848, 849, 850, 851, 852, 853, 823, 824, 825, 826, 827, 828, 829, 830, 831, 832] (by decide +kernel) (by decide +kernel)
set_option maxRecDepth 20000 in
theorem gL_law_X8_reset : GoodIn wsL_law (wsV RL 46 RX8 yX8_reset wsX8_reset) := goodIn_app (goodIn_of _ (by decide +kernel)) ggL_law_X8_reset
set_option maxRecDepth 20000 in
theorem ggL_law_X9_reset : GoodIn wsL_law wsX9_reset := goodIn_r _ [600, 86, 572, 573, 574, 5, 575, 391, 528, 529, 530, 531, 78, 390, 532, 533, 534, 535, 75, 76, 77, 459, 788, 789, 790, 791, 792, 793, 794, 795, 796, 797, 798, 799, 800, 801, 802, 803, 804, 805, 806, 807, 808, 809, 810, 811, 812, 813, 814, 815, 816, 817, 818, 819] (by decide +kernel) (by decide +kernel)
set_option maxRecDepth 20000 in
theorem gL_law_X9_reset : GoodIn wsL_law (wsV RL 49 RX9 yX9_reset wsX9_reset) := goodIn_app (goodIn_of _ (by decide +kernel)) ggL_law_X9_reset
set_option maxRecDepth 20000 in
theorem ggL_law_X8_test : GoodIn wsL_law wsX8_test := goodIn_r _ [604, 21, 605, 606, 607, 20, 608, 609, 610, 611, 612, 613, 614, 615, 616, 10, 11, 72, 617, 16, 618, 619, 620, 621, 622, 623, 624, 625, 626, 63, 64, 65, 627, 628, 629, 630, 631, 296, 297, 40, 298, 299, 632, 497, 498, 499, 66, 633, 501, 502, 634, 375, 376, 377, 37, 378, 379, 380, 36, 381, 334, 635, 636, 637, 638, 639, 640, 641, 642, 643, 644, 645, 105, 646, 647, 471, 472, 473, 474, 475, 476, 477, 478, 202, 203, 204, 479, 480, 481, 482, 46, 648, 488, 489, 490, 41, 491, 492, 493, 494, 61, 495, 496, 500, 503, 504, 505, 649, 650, 651, 652, 653, 654, 655, 656, 264, 657, 289, 268, 584, 585, 586, 587, 469, 470, 785, 786, 787, 823, 824, 825, 826, 854, 855, 856, 857, 858, 830, 831, 832, 827, 828, 829, 841, 842, 843, 844, 845, 846, 847, 848, 849, 850, 851, 852, 853] (by decide +kernel) (by decide +kernel)
set_option maxRecDepth 20000 in
theorem gL_law_X8_test : GoodIn wsL_law (wsV RL 50 RX8 yX8_test wsX8_test) := goodIn_app (goodIn_of _ (by decide +kernel)) ggL_law_X8_test
set_option maxRecDepth 20000 in
theorem ggL_law_X9_test : GoodIn wsL_law wsX9_test := goodIn_r _ [661, 392, 391, 93, 662, 663, 664, 5, 665, 78, 390, 91, 89, 666, 117, 118, 119, 79, 80, 92, 667, 668, 669, 670, 671, 75, 76, 77, 672, 673, 674, 675, 676, 677, 678, 679, 680, 553, 554, 555, 556, 788, 789, 790, 791, 792, 793, 794, 795, 796, 797, 798, 799, 800, 801, 802, 803, 804, 805, 806, 807, 808, 809, 810, 811, 812, 813, 814, 815, 816, 817, 818, 819] (by decide +kernel) (by decide +kernel)
set_option maxRecDepth 20000 in
theorem gL_law_X9_test : GoodIn wsL_law (wsV RL 53 RX9 yX9_test wsX9_test) := goodIn_app (goodIn_of _ (by decide +kernel)) ggL_law_X9_test
set_option maxRecDepth 20000 in
theorem ggL_law_X8_row : GoodIn wsL_law wsX8_row := goodIn_r _ [684, 21, 17, 561, 562, 563, 20, 564, 37, 469, 378, 379, 380, 36, 381, 334, 470, 471, 472, 473, 474, 475, 476, 477, 478, 202, 203, 204, 479, 480, 481, 482, 46, 685, 686, 2, 687, 596, 484, 485, 486, 487, 488, 489, 490, 41, 491, 492, 493, 40, 494, 61, 495, 496, 497, 498, 499, 299, 66, 500, 501, 502, 503, 504, 505, 785, 786, 787, 841, 842, 843, 844, 845, 846, 847, 848, 849, 850, 851, 852, 853, 823, 824, 825, 826, 827, 828, 829, 830, 831, 832] (by decide +kernel) (by decide +kernel)
set_option maxRecDepth 20000 in
theorem gL_law_X8_row : GoodIn wsL_law (wsV RL 54 RX8 yX8_row wsX8_row) := goodIn_app (goodIn_of _ (by decide +kernel)) ggL_law_X8_row
set_option maxRecDepth 20000 in
theorem ggL_law_X9_row : GoodIn wsL_law wsX9_row := goodIn_r _ [691, 390, 79, 81, 83, 85, 86, 87, 84, 572, 573, 574, 5, 575, 391, 528, 529, 530, 531, 78, 532, 533, 534, 535, 75, 76, 77, 459, 788, 789, 790, 791, 792, 793, 794, 795, 796, 797, 798, 799, 800, 801, 802, 803, 804, 805, 806, 807, 808, 809, 810, 811, 812, 813, 814, 815, 816, 817, 818, 819] (by decide +kernel) (by decide +kernel)
set_option maxRecDepth 20000 in
theorem gL_law_X9_row : GoodIn wsL_law (wsV RL 58 RX9 yX9_row wsX9_row) := goodIn_app (goodIn_of _ (by decide +kernel)) ggL_law_X9_row
set_option maxRecDepth 20000 in
theorem ggL_law_X8_write : GoodIn wsL_law wsX8_write := goodIn_r _ [695, 21, 696, 697, 698, 20, 699, 700, 701, 702, 703, 41, 37, 469, 704, 705, 706, 707, 10, 11, 708, 13, 14, 709, 710, 711, 23, 24, 25, 26, 27, 28, 29, 378, 379, 380, 36, 381, 334, 470, 471, 472, 473, 474, 475, 476, 477, 478, 202, 203, 204, 479, 480, 481, 482, 46, 712, 713, 714, 715, 716, 717, 718, 719, 720, 721, 100, 101, 102, 103, 104, 105, 106, 107, 108, 109, 110, 111, 112, 113, 114, 64, 115, 116, 117, 118, 119, 722, 174, 175, 176, 177, 178, 179, 180, 181, 182, 183, 184, 723, 186, 187, 188, 189, 190, 191, 192, 193, 194, 195, 196, 197, 198, 199, 200, 201, 205, 206, 207, 208, 209, 210, 211, 212, 213, 214, 215, 216, 217, 218, 219, 220, 221, 724, 655, 656, 264, 657, 289, 268, 725, 726, 727, 728, 729, 730, 731, 732, 733, 497, 498, 40, 499, 299, 66, 734, 735, 736, 737, 738, 739, 740, 741, 742, 743, 744, 745, 496, 500, 501, 502, 746, 153, 154, 155, 785, 786, 787, 823, 824, 825, 826, 859, 860, 861, 820, 821, 822, 827, 828, 829, 841, 842, 843, 844, 845, 846, 847, 848, 849, 850, 851, 852, 853, 830, 831, 832] (by decide +kernel) (by decide +kernel)
set_option maxRecDepth 20000 in
theorem gL_law_X8_write : GoodIn wsL_law (wsV RL 59 RX8 yX8_write wsX8_write) := goodIn_app (goodIn_of _ (by decide +kernel)) ggL_law_X8_write
set_option maxRecDepth 20000 in
theorem ggL_law_X9_write : GoodIn wsL_law wsX9_write := goodIn_r _ [750, 751, 391, 390, 752, 79, 753, 80, 754, 78, 81, 755, 83, 756, 94, 757, 758, 759, 5, 760, 761, 762, 763, 764, 765, 27, 666, 117, 118, 119, 766, 767, 768, 769, 770, 771, 772, 773, 75, 774, 76, 775, 776, 77, 788, 789, 790, 791, 792, 793, 794, 795, 796, 797, 798, 799, 800, 801, 802, 803, 804, 805, 806, 807, 808, 809, 810, 811, 812, 813, 814, 815, 816, 817, 818, 819] (by decide +kernel) (by decide +kernel)
set_option maxRecDepth 20000 in
theorem gL_law_X9_write : GoodIn wsL_law (wsV RL 62 RX9 yX9_write wsX9_write) := goodIn_app (goodIn_of _ (by decide +kernel)) ggL_law_X9_write
set_option maxRecDepth 20000 in
theorem ggL_law_X8_clear : GoodIn wsL_law wsX8_clear := goodIn_r _ [780, 18, 19, 20, 21, 15, 30, 31, 32, 33, 10, 11, 34, 35, 36, 37, 38, 39, 40, 41, 42, 43, 44, 45, 46, 47, 48, 49, 50, 51, 52, 53, 54, 55, 56, 57, 58, 59, 60, 16, 61, 62, 63, 64, 65, 27, 66, 234, 235, 236, 14, 237, 29, 823, 824, 825, 826, 785, 786, 787, 827, 828, 829, 830, 831, 832, 820, 821, 822] (by decide +kernel) (by decide +kernel)
set_option maxRecDepth 20000 in
theorem gL_law_X8_clear : GoodIn wsL_law (wsV RL 63 RX8 yX8_clear wsX8_clear) := goodIn_app (goodIn_of _ (by decide +kernel)) ggL_law_X8_clear
set_option maxRecDepth 20000 in
theorem ggL_law_X9_clear : GoodIn wsL_law wsX9_clear := goodIn_r _ [784, 391, 124, 392, 788, 789, 790, 791, 792, 793, 794, 795, 796, 797, 798, 799, 800, 801, 802, 803, 804, 805, 806, 807, 808, 809, 810, 811, 812, 813, 814, 815, 816, 817, 818, 819] (by decide +kernel) (by decide +kernel)
set_option maxRecDepth 20000 in
theorem gL_law_X9_clear : GoodIn wsL_law (wsV RL 66 RX9 yX9_clear wsX9_clear) := goodIn_app (goodIn_of _ (by decide +kernel)) ggL_law_X9_clear
theorem dL_law_0 : decode cL_law 0 = .ok (.new 7, 3) := by decide +kernel
theorem dL_law_3 : decode cL_law 3 = .ok (.dup, 1) := by decide +kernel
theorem dL_law_4 : decode cL_law 4 = .ok (.invokespecial 9, 3) := by decide +kernel
theorem dL_law_7 : decode cL_law 7 = .ok (.astore_n 1, 1) := by decide +kernel
theorem dL_law_8 : decode cL_law 8 = .ok (.new 10, 3) := by decide +kernel
theorem dL_law_11 : decode cL_law 11 = .ok (.dup, 1) := by decide +kernel
theorem dL_law_12 : decode cL_law 12 = .ok (.invokespecial 12, 3) := by decide +kernel
theorem dL_law_15 : decode cL_law 15 = .ok (.astore_n 2, 1) := by decide +kernel
theorem dL_law_16 : decode cL_law 16 = .ok (.iconst 0, 1) := by decide +kernel
theorem dL_law_17 : decode cL_law 17 = .ok (.istore_n 3, 1) := by decide +kernel
theorem dL_law_18 : decode cL_law 18 = .ok (.iload_n 3, 1) := by decide +kernel
theorem dL_law_19 : decode cL_law 19 = .ok (.aload_n 0, 1) := by decide +kernel
theorem dL_law_20 : decode cL_law 20 = .ok (.arraylength, 1) := by decide +kernel
theorem dL_law_21 : decode cL_law 21 = .ok (.iconst 5, 1) := by decide +kernel
theorem dL_law_22 : decode cL_law 22 = .ok (.isub, 1) := by decide +kernel
theorem dL_law_23 : decode cL_law 23 = .ok (.if_icmp .gt 399, 3) := by decide +kernel
theorem dL_law_26 : decode cL_law 26 = .ok (.aload_n 0, 1) := by decide +kernel
theorem dL_law_27 : decode cL_law 27 = .ok (.iload_n 3, 1) := by decide +kernel
theorem dL_law_28 : decode cL_law 28 = .ok (.iaload, 1) := by decide +kernel
theorem dL_law_29 : decode cL_law 29 = .ok (.bipush 15, 2) := by decide +kernel
theorem dL_law_31 : decode cL_law 31 = .ok (.iand, 1) := by decide +kernel
theorem dL_law_32 : decode cL_law 32 = .ok (.tableswitch 384 0 11 #[64, 87, 100, 149, 172, 195, 248, 271, 294, 317, 350, 373], 64) := by decide +kernel
theorem dL_law_96 : decode cL_law 96 = .ok (.aload_n 1, 1) := by decide +kernel
theorem dL_law_97 : decode cL_law 97 = .ok (.aload_n 0, 1) := by decide +kernel
theorem dL_law_98 : decode cL_law 98 = .ok (.iload_n 3, 1) := by decide +kernel
theorem dL_law_99 : decode cL_law 99 = .ok (.iconst 1, 1) := by decide +kernel
theorem dL_law_100 : decode cL_law 100 = .ok (.iadd, 1) := by decide +kernel
theorem dL_law_101 : decode cL_law 101 = .ok (.iaload, 1) := by decide +kernel
theorem dL_law_102 : decode cL_law 102 = .ok (.invokevirtual 13, 3) := by decide +kernel
theorem dL_law_105 : decode cL_law 105 = .ok (.aload_n 2, 1) := by decide +kernel
theorem dL_law_106 : decode cL_law 106 = .ok (.aload_n 0, 1) := by decide +kernel
theorem dL_law_107 : decode cL_law 107 = .ok (.iload_n 3, 1) := by decide +kernel
theorem dL_law_108 : decode cL_law 108 = .ok (.iconst 1, 1) := by decide +kernel
theorem dL_law_109 : decode cL_law 109 = .ok (.iadd, 1) := by decide +kernel
theorem dL_law_110 : decode cL_law 110 = .ok (.iaload, 1) := by decide +kernel
theorem dL_law_111 : decode cL_law 111 = .ok (.invokevirtual 17, 3) := by decide +kernel
theorem dL_law_114 : decode cL_law 114 = .ok (.if_icmp .eq 302, 3) := by decide +kernel
theorem dL_law_117 : decode cL_law 117 = .ok (.iconst 0, 1) := by decide +kernel
theorem dL_law_118 : decode cL_law 118 = .ok (.ireturn, 1) := by decide +kernel
theorem dL_law_119 : decode cL_law 119 = .ok (.aload_n 1, 1) := by decide +kernel
theorem dL_law_120 : decode cL_law 120 = .ok (.invokevirtual 18, 3) := by decide +kernel
theorem dL_law_123 : decode cL_law 123 = .ok (.aload_n 2, 1) := by decide +kernel
theorem dL_law_124 : decode cL_law 124 = .ok (.invokevirtual 22, 3) := by decide +kernel
theorem dL_law_127 : decode cL_law 127 = .ok (.if_icmp .eq 289, 3) := by decide +kernel
theorem dL_law_130 : decode cL_law 130 = .ok (.iconst 0, 1) := by decide +kernel
theorem dL_law_131 : decode cL_law 131 = .ok (.ireturn, 1) := by decide +kernel
theorem dL_law_132 : decode cL_law 132 = .ok (.aload_n 1, 1) := by decide +kernel
theorem dL_law_133 : decode cL_law 133 = .ok (.aload_n 0, 1) := by decide +kernel
theorem dL_law_134 : decode cL_law 134 = .ok (.iload_n 3, 1) := by decide +kernel
theorem dL_law_135 : decode cL_law 135 = .ok (.iconst 1, 1) := by decide +kernel
theorem dL_law_136 : decode cL_law 136 = .ok (.iadd, 1) := by decide +kernel
theorem dL_law_137 : decode cL_law 137 = .ok (.iaload, 1) := by decide +kernel
theorem dL_law_138 : decode cL_law 138 = .ok (.aload_n 0, 1) := by decide +kernel
theorem dL_law_139 : decode cL_law 139 = .ok (.iload_n 3, 1) := by decide +kernel
theorem dL_law_140 : decode cL_law 140 = .ok (.iconst 2, 1) := by decide +kernel
theorem dL_law_141 : decode cL_law 141 = .ok (.iadd, 1) := by decide +kernel
theorem dL_law_142 : decode cL_law 142 = .ok (.iaload, 1) := by decide +kernel
theorem dL_law_143 : decode cL_law 143 = .ok (.ifCond .eq 7, 3) := by decide +kernel
theorem dL_law_146 : decode cL_law 146 = .ok (.iconst 1, 1) := by decide +kernel
theorem dL_law_147 : decode cL_law 147 = .ok (.goto 4, 3) := by decide +kernel
theorem dL_law_150 : decode cL_law 150 = .ok (.iconst 0, 1) := by decide +kernel
theorem dL_law_151 : decode cL_law 151 = .ok (.invokevirtual 23, 3) := by decide +kernel
theorem dL_law_154 : decode cL_law 154 = .ok (.aload_n 2, 1) := by decide +kernel
theorem dL_law_155 : decode cL_law 155 = .ok (.aload_n 0, 1) := by decide +kernel
theorem dL_law_156 : decode cL_law 156 = .ok (.iload_n 3, 1) := by decide +kernel
theorem dL_law_157 : decode cL_law 157 = .ok (.iconst 1, 1) := by decide +kernel
theorem dL_law_158 : decode cL_law 158 = .ok (.iadd, 1) := by decide +kernel
theorem dL_law_159 : decode cL_law 159 = .ok (.iaload, 1) := by decide +kernel
theorem dL_law_160 : decode cL_law 160 = .ok (.aload_n 0, 1) := by decide +kernel
theorem dL_law_161 : decode cL_law 161 = .ok (.iload_n 3, 1) := by decide +kernel
theorem dL_law_162 : decode cL_law 162 = .ok (.iconst 2, 1) := by decide +kernel
theorem dL_law_163 : decode cL_law 163 = .ok (.iadd, 1) := by decide +kernel
theorem dL_law_164 : decode cL_law 164 = .ok (.iaload, 1) := by decide +kernel
theorem dL_law_165 : decode cL_law 165 = .ok (.ifCond .eq 7, 3) := by decide +kernel
theorem dL_law_168 : decode cL_law 168 = .ok (.iconst 1, 1) := by decide +kernel
theorem dL_law_169 : decode cL_law 169 = .ok (.goto 4, 3) := by decide +kernel
theorem dL_law_172 : decode cL_law 172 = .ok (.iconst 0, 1) := by decide +kernel
theorem dL_law_173 : decode cL_law 173 = .ok (.invokevirtual 27, 3) := by decide +kernel
theorem dL_law_176 : decode cL_law 176 = .ok (.if_icmp .eq 240, 3) := by decide +kernel
theorem dL_law_179 : decode cL_law 179 = .ok (.iconst 0, 1) := by decide +kernel
theorem dL_law_180 : decode cL_law 180 = .ok (.ireturn, 1) := by decide +kernel
theorem dL_law_181 : decode cL_law 181 = .ok (.aload_n 1, 1) := by decide +kernel
theorem dL_law_182 : decode cL_law 182 = .ok (.aload_n 0, 1) := by decide +kernel
theorem dL_law_183 : decode cL_law 183 = .ok (.iload_n 3, 1) := by decide +kernel
theorem dL_law_184 : decode cL_law 184 = .ok (.iconst 1, 1) := by decide +kernel
theorem dL_law_185 : decode cL_law 185 = .ok (.iadd, 1) := by decide +kernel
theorem dL_law_186 : decode cL_law 186 = .ok (.iaload, 1) := by decide +kernel
theorem dL_law_187 : decode cL_law 187 = .ok (.invokevirtual 28, 3) := by decide +kernel
theorem dL_law_190 : decode cL_law 190 = .ok (.aload_n 2, 1) := by decide +kernel
theorem dL_law_191 : decode cL_law 191 = .ok (.aload_n 0, 1) := by decide +kernel
theorem dL_law_192 : decode cL_law 192 = .ok (.iload_n 3, 1) := by decide +kernel
theorem dL_law_193 : decode cL_law 193 = .ok (.iconst 1, 1) := by decide +kernel
theorem dL_law_194 : decode cL_law 194 = .ok (.iadd, 1) := by decide +kernel
theorem dL_law_195 : decode cL_law 195 = .ok (.iaload, 1) := by decide +kernel
theorem dL_law_196 : decode cL_law 196 = .ok (.invokevirtual 31, 3) := by decide +kernel
theorem dL_law_199 : decode cL_law 199 = .ok (.if_icmp .eq 217, 3) := by decide +kernel
theorem dL_law_202 : decode cL_law 202 = .ok (.iconst 0, 1) := by decide +kernel
theorem dL_law_203 : decode cL_law 203 = .ok (.ireturn, 1) := by decide +kernel
theorem dL_law_204 : decode cL_law 204 = .ok (.aload_n 1, 1) := by decide +kernel
theorem dL_law_205 : decode cL_law 205 = .ok (.aload_n 0, 1) := by decide +kernel
theorem dL_law_206 : decode cL_law 206 = .ok (.iload_n 3, 1) := by decide +kernel
theorem dL_law_207 : decode cL_law 207 = .ok (.iconst 1, 1) := by decide +kernel
theorem dL_law_208 : decode cL_law 208 = .ok (.iadd, 1) := by decide +kernel
theorem dL_law_209 : decode cL_law 209 = .ok (.iaload, 1) := by decide +kernel
theorem dL_law_210 : decode cL_law 210 = .ok (.invokevirtual 32, 3) := by decide +kernel
theorem dL_law_213 : decode cL_law 213 = .ok (.aload_n 2, 1) := by decide +kernel
theorem dL_law_214 : decode cL_law 214 = .ok (.aload_n 0, 1) := by decide +kernel
theorem dL_law_215 : decode cL_law 215 = .ok (.iload_n 3, 1) := by decide +kernel
theorem dL_law_216 : decode cL_law 216 = .ok (.iconst 1, 1) := by decide +kernel
theorem dL_law_217 : decode cL_law 217 = .ok (.iadd, 1) := by decide +kernel
theorem dL_law_218 : decode cL_law 218 = .ok (.iaload, 1) := by decide +kernel
theorem dL_law_219 : decode cL_law 219 = .ok (.invokevirtual 36, 3) := by decide +kernel
theorem dL_law_222 : decode cL_law 222 = .ok (.if_icmp .eq 194, 3) := by decide +kernel
theorem dL_law_225 : decode cL_law 225 = .ok (.iconst 0, 1) := by decide +kernel
theorem dL_law_226 : decode cL_law 226 = .ok (.ireturn, 1) := by decide +kernel
theorem dL_law_227 : decode cL_law 227 = .ok (.aload_n 1, 1) := by decide +kernel
theorem dL_law_228 : decode cL_law 228 = .ok (.aload_n 0, 1) := by decide +kernel
theorem dL_law_229 : decode cL_law 229 = .ok (.iload_n 3, 1) := by decide +kernel
theorem dL_law_230 : decode cL_law 230 = .ok (.iconst 1, 1) := by decide +kernel
theorem dL_law_231 : decode cL_law 231 = .ok (.iadd, 1) := by decide +kernel
theorem dL_law_232 : decode cL_law 232 = .ok (.iaload, 1) := by decide +kernel
theorem dL_law_233 : decode cL_law 233 = .ok (.aload_n 0, 1) := by decide +kernel
theorem dL_law_234 : decode cL_law 234 = .ok (.iload_n 3, 1) := by decide +kernel
theorem dL_law_235 : decode cL_law 235 = .ok (.iconst 2, 1) := by decide +kernel
theorem dL_law_236 : decode cL_law 236 = .ok (.iadd, 1) := by decide +kernel
theorem dL_law_237 : decode cL_law 237 = .ok (.iaload, 1) := by decide +kernel
theorem dL_law_238 : decode cL_law 238 = .ok (.aload_n 0, 1) := by decide +kernel
theorem dL_law_239 : decode cL_law 239 = .ok (.iload_n 3, 1) := by decide +kernel
theorem dL_law_240 : decode cL_law 240 = .ok (.iconst 3, 1) := by decide +kernel
theorem dL_law_241 : decode cL_law 241 = .ok (.iadd, 1) := by decide +kernel
theorem dL_law_242 : decode cL_law 242 = .ok (.iaload, 1) := by decide +kernel
theorem dL_law_243 : decode cL_law 243 = .ok (.aload_n 0, 1) := by decide +kernel
theorem dL_law_244 : decode cL_law 244 = .ok (.iload_n 3, 1) := by decide +kernel
theorem dL_law_245 : decode cL_law 245 = .ok (.iconst 4, 1) := by decide +kernel
theorem dL_law_246 : decode cL_law 246 = .ok (.iadd, 1) := by decide +kernel
theorem dL_law_247 : decode cL_law 247 = .ok (.iaload, 1) := by decide +kernel
theorem dL_law_248 : decode cL_law 248 = .ok (.invokevirtual 37, 3) := by decide +kernel
theorem dL_law_251 : decode cL_law 251 = .ok (.aload_n 2, 1) := by decide +kernel
theorem dL_law_252 : decode cL_law 252 = .ok (.aload_n 0, 1) := by decide +kernel
theorem dL_law_253 : decode cL_law 253 = .ok (.iload_n 3, 1) := by decide +kernel
theorem dL_law_254 : decode cL_law 254 = .ok (.iconst 1, 1) := by decide +kernel
theorem dL_law_255 : decode cL_law 255 = .ok (.iadd, 1) := by decide +kernel
theorem dL_law_256 : decode cL_law 256 = .ok (.iaload, 1) := by decide +kernel
theorem dL_law_257 : decode cL_law 257 = .ok (.aload_n 0, 1) := by decide +kernel
theorem dL_law_258 : decode cL_law 258 = .ok (.iload_n 3, 1) := by decide +kernel
theorem dL_law_259 : decode cL_law 259 = .ok (.iconst 2, 1) := by decide +kernel
theorem dL_law_260 : decode cL_law 260 = .ok (.iadd, 1) := by decide +kernel
theorem dL_law_261 : decode cL_law 261 = .ok (.iaload, 1) := by decide +kernel
theorem dL_law_262 : decode cL_law 262 = .ok (.aload_n 0, 1) := by decide +kernel
theorem dL_law_263 : decode cL_law 263 = .ok (.iload_n 3, 1) := by decide +kernel
theorem dL_law_264 : decode cL_law 264 = .ok (.iconst 3, 1) := by decide +kernel
theorem dL_law_265 : decode cL_law 265 = .ok (.iadd, 1) := by decide +kernel
theorem dL_law_266 : decode cL_law 266 = .ok (.iaload, 1) := by decide +kernel
theorem dL_law_267 : decode cL_law 267 = .ok (.aload_n 0, 1) := by decide +kernel
theorem dL_law_268 : decode cL_law 268 = .ok (.iload_n 3, 1) := by decide +kernel
theorem dL_law_269 : decode cL_law 269 = .ok (.iconst 4, 1) := by decide +kernel
theorem dL_law_270 : decode cL_law 270 = .ok (.iadd, 1) := by decide +kernel
theorem dL_law_271 : decode cL_law 271 = .ok (.iaload, 1) := by decide +kernel
theorem dL_law_272 : decode cL_law 272 = .ok (.invokevirtual 41, 3) := by decide +kernel
theorem dL_law_275 : decode cL_law 275 = .ok (.if_icmp .eq 141, 3) := by decide +kernel
theorem dL_law_278 : decode cL_law 278 = .ok (.iconst 0, 1) := by decide +kernel
theorem dL_law_279 : decode cL_law 279 = .ok (.ireturn, 1) := by decide +kernel
theorem dL_law_280 : decode cL_law 280 = .ok (.aload_n 1, 1) := by decide +kernel
theorem dL_law_281 : decode cL_law 281 = .ok (.aload_n 0, 1) := by decide +kernel
theorem dL_law_282 : decode cL_law 282 = .ok (.iload_n 3, 1) := by decide +kernel
theorem dL_law_283 : decode cL_law 283 = .ok (.iconst 1, 1) := by decide +kernel
theorem dL_law_284 : decode cL_law 284 = .ok (.iadd, 1) := by decide +kernel
theorem dL_law_285 : decode cL_law 285 = .ok (.iaload, 1) := by decide +kernel
theorem dL_law_286 : decode cL_law 286 = .ok (.invokevirtual 42, 3) := by decide +kernel
theorem dL_law_289 : decode cL_law 289 = .ok (.aload_n 2, 1) := by decide +kernel
theorem dL_law_290 : decode cL_law 290 = .ok (.aload_n 0, 1) := by decide +kernel
theorem dL_law_291 : decode cL_law 291 = .ok (.iload_n 3, 1) := by decide +kernel
theorem dL_law_292 : decode cL_law 292 = .ok (.iconst 1, 1) := by decide +kernel
theorem dL_law_293 : decode cL_law 293 = .ok (.iadd, 1) := by decide +kernel
theorem dL_law_294 : decode cL_law 294 = .ok (.iaload, 1) := by decide +kernel
theorem dL_law_295 : decode cL_law 295 = .ok (.invokevirtual 45, 3) := by decide +kernel
theorem dL_law_298 : decode cL_law 298 = .ok (.if_icmp .eq 118, 3) := by decide +kernel
theorem dL_law_301 : decode cL_law 301 = .ok (.iconst 0, 1) := by decide +kernel
theorem dL_law_302 : decode cL_law 302 = .ok (.ireturn, 1) := by decide +kernel
theorem dL_law_303 : decode cL_law 303 = .ok (.aload_n 1, 1) := by decide +kernel
theorem dL_law_304 : decode cL_law 304 = .ok (.aload_n 0, 1) := by decide +kernel
theorem dL_law_305 : decode cL_law 305 = .ok (.iload_n 3, 1) := by decide +kernel
theorem dL_law_306 : decode cL_law 306 = .ok (.iconst 1, 1) := by decide +kernel
theorem dL_law_307 : decode cL_law 307 = .ok (.iadd, 1) := by decide +kernel
theorem dL_law_308 : decode cL_law 308 = .ok (.iaload, 1) := by decide +kernel
theorem dL_law_309 : decode cL_law 309 = .ok (.invokevirtual 46, 3) := by decide +kernel
theorem dL_law_312 : decode cL_law 312 = .ok (.aload_n 2, 1) := by decide +kernel
theorem dL_law_313 : decode cL_law 313 = .ok (.aload_n 0, 1) := by decide +kernel
theorem dL_law_314 : decode cL_law 314 = .ok (.iload_n 3, 1) := by decide +kernel
theorem dL_law_315 : decode cL_law 315 = .ok (.iconst 1, 1) := by decide +kernel
theorem dL_law_316 : decode cL_law 316 = .ok (.iadd, 1) := by decide +kernel
theorem dL_law_317 : decode cL_law 317 = .ok (.iaload, 1) := by decide +kernel
theorem dL_law_318 : decode cL_law 318 = .ok (.invokevirtual 49, 3) := by decide +kernel
theorem dL_law_321 : decode cL_law 321 = .ok (.if_icmp .eq 95, 3) := by decide +kernel
theorem dL_law_324 : decode cL_law 324 = .ok (.iconst 0, 1) := by decide +kernel
theorem dL_law_325 : decode cL_law 325 = .ok (.ireturn, 1) := by decide +kernel
theorem dL_law_326 : decode cL_law 326 = .ok (.aload_n 1, 1) := by decide +kernel
theorem dL_law_327 : decode cL_law 327 = .ok (.aload_n 0, 1) := by decide +kernel
theorem dL_law_328 : decode cL_law 328 = .ok (.iload_n 3, 1) := by decide +kernel
theorem dL_law_329 : decode cL_law 329 = .ok (.iconst 1, 1) := by decide +kernel
theorem dL_law_330 : decode cL_law 330 = .ok (.iadd, 1) := by decide +kernel
theorem dL_law_331 : decode cL_law 331 = .ok (.iaload, 1) := by decide +kernel
theorem dL_law_332 : decode cL_law 332 = .ok (.invokevirtual 50, 3) := by decide +kernel
theorem dL_law_335 : decode cL_law 335 = .ok (.aload_n 2, 1) := by decide +kernel
theorem dL_law_336 : decode cL_law 336 = .ok (.aload_n 0, 1) := by decide +kernel
theorem dL_law_337 : decode cL_law 337 = .ok (.iload_n 3, 1) := by decide +kernel
theorem dL_law_338 : decode cL_law 338 = .ok (.iconst 1, 1) := by decide +kernel
theorem dL_law_339 : decode cL_law 339 = .ok (.iadd, 1) := by decide +kernel
theorem dL_law_340 : decode cL_law 340 = .ok (.iaload, 1) := by decide +kernel
theorem dL_law_341 : decode cL_law 341 = .ok (.invokevirtual 53, 3) := by decide +kernel
theorem dL_law_344 : decode cL_law 344 = .ok (.if_icmp .eq 72, 3) := by decide +kernel
theorem dL_law_347 : decode cL_law 347 = .ok (.iconst 0, 1) := by decide +kernel
theorem dL_law_348 : decode cL_law 348 = .ok (.ireturn, 1) := by decide +kernel
theorem dL_law_349 : decode cL_law 349 = .ok (.aload_n 1, 1) := by decide +kernel
theorem dL_law_350 : decode cL_law 350 = .ok (.aload_n 0, 1) := by decide +kernel
theorem dL_law_351 : decode cL_law 351 = .ok (.iload_n 3, 1) := by decide +kernel
theorem dL_law_352 : decode cL_law 352 = .ok (.iconst 1, 1) := by decide +kernel
theorem dL_law_353 : decode cL_law 353 = .ok (.iadd, 1) := by decide +kernel
theorem dL_law_354 : decode cL_law 354 = .ok (.iaload, 1) := by decide +kernel
theorem dL_law_355 : decode cL_law 355 = .ok (.aload_n 0, 1) := by decide +kernel
theorem dL_law_356 : decode cL_law 356 = .ok (.iload_n 3, 1) := by decide +kernel
theorem dL_law_357 : decode cL_law 357 = .ok (.iconst 2, 1) := by decide +kernel
theorem dL_law_358 : decode cL_law 358 = .ok (.iadd, 1) := by decide +kernel
theorem dL_law_359 : decode cL_law 359 = .ok (.iaload, 1) := by decide +kernel
theorem dL_law_360 : decode cL_law 360 = .ok (.invokevirtual 54, 3) := by decide +kernel
theorem dL_law_363 : decode cL_law 363 = .ok (.aload_n 2, 1) := by decide +kernel
theorem dL_law_364 : decode cL_law 364 = .ok (.aload_n 0, 1) := by decide +kernel
theorem dL_law_365 : decode cL_law 365 = .ok (.iload_n 3, 1) := by decide +kernel
theorem dL_law_366 : decode cL_law 366 = .ok (.iconst 1, 1) := by decide +kernel
theorem dL_law_367 : decode cL_law 367 = .ok (.iadd, 1) := by decide +kernel
theorem dL_law_368 : decode cL_law 368 = .ok (.iaload, 1) := by decide +kernel
theorem dL_law_369 : decode cL_law 369 = .ok (.aload_n 0, 1) := by decide +kernel
theorem dL_law_370 : decode cL_law 370 = .ok (.iload_n 3, 1) := by decide +kernel
theorem dL_law_371 : decode cL_law 371 = .ok (.iconst 2, 1) := by decide +kernel
theorem dL_law_372 : decode cL_law 372 = .ok (.iadd, 1) := by decide +kernel
theorem dL_law_373 : decode cL_law 373 = .ok (.iaload, 1) := by decide +kernel
theorem dL_law_374 : decode cL_law 374 = .ok (.invokevirtual 58, 3) := by decide +kernel
theorem dL_law_377 : decode cL_law 377 = .ok (.if_icmp .eq 39, 3) := by decide +kernel
theorem dL_law_380 : decode cL_law 380 = .ok (.iconst 0, 1) := by decide +kernel
theorem dL_law_381 : decode cL_law 381 = .ok (.ireturn, 1) := by decide +kernel
theorem dL_law_382 : decode cL_law 382 = .ok (.aload_n 1, 1) := by decide +kernel
theorem dL_law_383 : decode cL_law 383 = .ok (.aload_n 0, 1) := by decide +kernel
theorem dL_law_384 : decode cL_law 384 = .ok (.iload_n 3, 1) := by decide +kernel
theorem dL_law_385 : decode cL_law 385 = .ok (.iconst 1, 1) := by decide +kernel
theorem dL_law_386 : decode cL_law 386 = .ok (.iadd, 1) := by decide +kernel
theorem dL_law_387 : decode cL_law 387 = .ok (.iaload, 1) := by decide +kernel
theorem dL_law_388 : decode cL_law 388 = .ok (.invokevirtual 59, 3) := by decide +kernel
theorem dL_law_391 : decode cL_law 391 = .ok (.aload_n 2, 1) := by decide +kernel
theorem dL_law_392 : decode cL_law 392 = .ok (.aload_n 0, 1) := by decide +kernel
theorem dL_law_393 : decode cL_law 393 = .ok (.iload_n 3, 1) := by decide +kernel
theorem dL_law_394 : decode cL_law 394 = .ok (.iconst 1, 1) := by decide +kernel
theorem dL_law_395 : decode cL_law 395 = .ok (.iadd, 1) := by decide +kernel
theorem dL_law_396 : decode cL_law 396 = .ok (.iaload, 1) := by decide +kernel
theorem dL_law_397 : decode cL_law 397 = .ok (.invokevirtual 62, 3) := by decide +kernel
theorem dL_law_400 : decode cL_law 400 = .ok (.if_icmp .eq 16, 3) := by decide +kernel
theorem dL_law_403 : decode cL_law 403 = .ok (.iconst 0, 1) := by decide +kernel
theorem dL_law_404 : decode cL_law 404 = .ok (.ireturn, 1) := by decide +kernel
theorem dL_law_405 : decode cL_law 405 = .ok (.aload_n 1, 1) := by decide +kernel
theorem dL_law_406 : decode cL_law 406 = .ok (.invokevirtual 63, 3) := by decide +kernel
theorem dL_law_409 : decode cL_law 409 = .ok (.aload_n 2, 1) := by decide +kernel
theorem dL_law_410 : decode cL_law 410 = .ok (.invokevirtual 66, 3) := by decide +kernel
theorem dL_law_413 : decode cL_law 413 = .ok (.goto 3, 3) := by decide +kernel
theorem dL_law_416 : decode cL_law 416 = .ok (.iinc 3 5, 3) := by decide +kernel
theorem dL_law_419 : decode cL_law 419 = .ok (.goto (-401), 3) := by decide +kernel
theorem dL_law_422 : decode cL_law 422 = .ok (.iconst 1, 1) := by decide +kernel
theorem dL_law_423 : decode cL_law 423 = .ok (.ireturn, 1) := by decide +kernel
end
