section
-- ===== PART A: goes FIRST, ahead of the names: the tables' words, and 'selects' of the private methods out of them =====
/-- a private method of a class that the tables say can be made, by its rows of tables_1 -/
def lw_okq (q : MethodName × Nat) : Prop := (q.1.cls ≠ "java/lang/invoke/MethodHandle" ∧ q.1.cls ≠ "java/lang/invoke/VarHandle") ∧ Cond.instantiable q.1.cls q.2 ∈ tables_1 ∧ Cond.privateMethod q.1 ∈ tables_1 ∧ Cond.instanceMethod q.1 ∈ tables_1
theorem lw_p0 : lw_okq (⟨"TwoMayors", "layText", "()I"⟩, 10) := ⟨⟨by decide +kernel, by decide +kernel⟩, List.mem_of_getElem? (i := 20) (by decide +kernel), List.mem_of_getElem? (i := 364) (by decide +kernel), List.mem_of_getElem? (i := 365) (by decide +kernel)⟩
theorem lw_p1 : lw_okq (⟨"TwoMayors$Text", "readItem", "(I)I"⟩, 4) := ⟨⟨by decide +kernel, by decide +kernel⟩, List.mem_of_getElem? (i := 28) (by decide +kernel), List.mem_of_getElem? (i := 376) (by decide +kernel), List.mem_of_getElem? (i := 377) (by decide +kernel)⟩
theorem lw_p2 : lw_okq (⟨"TwoMayors$Text", "figuresAt", "(I)I"⟩, 4) := ⟨⟨by decide +kernel, by decide +kernel⟩, List.mem_of_getElem? (i := 28) (by decide +kernel), List.mem_of_getElem? (i := 380) (by decide +kernel), List.mem_of_getElem? (i := 381) (by decide +kernel)⟩
theorem lw_p3 : lw_okq (⟨"TwoMayors$Text", "letterAt", "(I)I"⟩, 4) := ⟨⟨by decide +kernel, by decide +kernel⟩, List.mem_of_getElem? (i := 28) (by decide +kernel), List.mem_of_getElem? (i := 384) (by decide +kernel), List.mem_of_getElem? (i := 385) (by decide +kernel)⟩
theorem lw_p4 : lw_okq (⟨"TwoMayors$Text", "valueAt", "(II)I"⟩, 4) := ⟨⟨by decide +kernel, by decide +kernel⟩, List.mem_of_getElem? (i := 28) (by decide +kernel), List.mem_of_getElem? (i := 391) (by decide +kernel), List.mem_of_getElem? (i := 392) (by decide +kernel)⟩
theorem lw_p5 : lw_okq (⟨"TwoMayors$Text", "takeItem", "(LTwoMayors$Borough;I)Z"⟩, 4) := ⟨⟨by decide +kernel, by decide +kernel⟩, List.mem_of_getElem? (i := 28) (by decide +kernel), List.mem_of_getElem? (i := 395) (by decide +kernel), List.mem_of_getElem? (i := 396) (by decide +kernel)⟩
theorem lw_p6 : lw_okq (⟨"TwoMayors$Borough", "addWord", "(II)Z"⟩, 11) := ⟨⟨by decide +kernel, by decide +kernel⟩, List.mem_of_getElem? (i := 49) (by decide +kernel), List.mem_of_getElem? (i := 403) (by decide +kernel), List.mem_of_getElem? (i := 404) (by decide +kernel)⟩
theorem lw_p7 : lw_okq (⟨"TwoMayors$Borough", "addBehind", "(II)Z"⟩, 11) := ⟨⟨by decide +kernel, by decide +kernel⟩, List.mem_of_getElem? (i := 49) (by decide +kernel), List.mem_of_getElem? (i := 410) (by decide +kernel), List.mem_of_getElem? (i := 411) (by decide +kernel)⟩
theorem lw_p8 : lw_okq (⟨"TwoMayors$Borough", "addKnown", "(II)Z"⟩, 11) := ⟨⟨by decide +kernel, by decide +kernel⟩, List.mem_of_getElem? (i := 49) (by decide +kernel), List.mem_of_getElem? (i := 418) (by decide +kernel), List.mem_of_getElem? (i := 419) (by decide +kernel)⟩
theorem lw_p9 : lw_okq (⟨"TwoMayors$Borough", "setLongest", "(I)Z"⟩, 11) := ⟨⟨by decide +kernel, by decide +kernel⟩, List.mem_of_getElem? (i := 49) (by decide +kernel), List.mem_of_getElem? (i := 429) (by decide +kernel), List.mem_of_getElem? (i := 430) (by decide +kernel)⟩
theorem lw_p10 : lw_okq (⟨"TwoMayors$Borough", "setChain", "(I)Z"⟩, 11) := ⟨⟨by decide +kernel, by decide +kernel⟩, List.mem_of_getElem? (i := 49) (by decide +kernel), List.mem_of_getElem? (i := 433) (by decide +kernel), List.mem_of_getElem? (i := 434) (by decide +kernel)⟩
theorem lw_p11 : lw_okq (⟨"TwoMayors$Pile", "giveOldestToNewest", "()V"⟩, 2) := ⟨⟨by decide +kernel, by decide +kernel⟩, List.mem_of_getElem? (i := 174) (by decide +kernel), List.mem_of_getElem? (i := 570) (by decide +kernel), List.mem_of_getElem? (i := 571) (by decide +kernel)⟩
theorem lw_p12 : lw_okq (⟨"TwoMayors$Pile", "placeAt", "(I)LTwoMayors$Standing;"⟩, 2) := ⟨⟨by decide +kernel, by decide +kernel⟩, List.mem_of_getElem? (i := 174) (by decide +kernel), List.mem_of_getElem? (i := 574) (by decide +kernel), List.mem_of_getElem? (i := 575) (by decide +kernel)⟩
theorem lw_p13 : lw_okq (⟨"TwoMayors$Standing", "gain", "(LTwoMayors$Mayor;I)I"⟩, 6) := ⟨⟨by decide +kernel, by decide +kernel⟩, List.mem_of_getElem? (i := 103) (by decide +kernel), List.mem_of_getElem? (i := 620) (by decide +kernel), List.mem_of_getElem? (i := 621) (by decide +kernel)⟩
theorem lw_p14 : lw_okq (⟨"TwoMayors", "findFinishing", "()V"⟩, 10) := ⟨⟨by decide +kernel, by decide +kernel⟩, List.mem_of_getElem? (i := 20) (by decide +kernel), List.mem_of_getElem? (i := 628) (by decide +kernel), List.mem_of_getElem? (i := 629) (by decide +kernel)⟩
theorem lw_p15 : lw_okq (⟨"TwoMayors$Finisher", "fillStarts", "(LTwoMayors$Borough;I)V"⟩, 2) := ⟨⟨by decide +kernel, by decide +kernel⟩, List.mem_of_getElem? (i := 194) (by decide +kernel), List.mem_of_getElem? (i := 652) (by decide +kernel), List.mem_of_getElem? (i := 653) (by decide +kernel)⟩
def lw_privs_1 : List (MethodName × Nat) := [(⟨"TwoMayors", "layText", "()I"⟩, 10), (⟨"TwoMayors$Text", "readItem", "(I)I"⟩, 4), (⟨"TwoMayors$Text", "figuresAt", "(I)I"⟩, 4), (⟨"TwoMayors$Text", "letterAt", "(I)I"⟩, 4), (⟨"TwoMayors$Text", "valueAt", "(II)I"⟩, 4), (⟨"TwoMayors$Text", "takeItem", "(LTwoMayors$Borough;I)Z"⟩, 4), (⟨"TwoMayors$Borough", "addWord", "(II)Z"⟩, 11), (⟨"TwoMayors$Borough", "addBehind", "(II)Z"⟩, 11), (⟨"TwoMayors$Borough", "addKnown", "(II)Z"⟩, 11), (⟨"TwoMayors$Borough", "setLongest", "(I)Z"⟩, 11), (⟨"TwoMayors$Borough", "setChain", "(I)Z"⟩, 11), (⟨"TwoMayors$Pile", "giveOldestToNewest", "()V"⟩, 2), (⟨"TwoMayors$Pile", "placeAt", "(I)LTwoMayors$Standing;"⟩, 2), (⟨"TwoMayors$Standing", "gain", "(LTwoMayors$Mayor;I)I"⟩, 6), (⟨"TwoMayors", "findFinishing", "()V"⟩, 10), (⟨"TwoMayors$Finisher", "fillStarts", "(LTwoMayors$Borough;I)V"⟩, 2)]
theorem lw_r1 : ∀ q ∈ lw_privs_1, lw_okq q := List.forall_mem_cons.mpr ⟨lw_p0, List.forall_mem_cons.mpr ⟨lw_p1, List.forall_mem_cons.mpr ⟨lw_p2, List.forall_mem_cons.mpr ⟨lw_p3, List.forall_mem_cons.mpr ⟨lw_p4, List.forall_mem_cons.mpr ⟨lw_p5, List.forall_mem_cons.mpr ⟨lw_p6, List.forall_mem_cons.mpr ⟨lw_p7, List.forall_mem_cons.mpr ⟨lw_p8, List.forall_mem_cons.mpr ⟨lw_p9, List.forall_mem_cons.mpr ⟨lw_p10, List.forall_mem_cons.mpr ⟨lw_p11, List.forall_mem_cons.mpr ⟨lw_p12, List.forall_mem_cons.mpr ⟨lw_p13, List.forall_mem_cons.mpr ⟨lw_p14, List.forall_mem_cons.mpr ⟨lw_p15, fun _ h => absurd h List.not_mem_nil⟩⟩⟩⟩⟩⟩⟩⟩⟩⟩⟩⟩⟩⟩⟩⟩
theorem lw_p16 : lw_okq (⟨"TwoMayors$Finisher", "fewestMore", "(I)I"⟩, 2) := ⟨⟨by decide +kernel, by decide +kernel⟩, List.mem_of_getElem? (i := 194) (by decide +kernel), List.mem_of_getElem? (i := 661) (by decide +kernel), List.mem_of_getElem? (i := 662) (by decide +kernel)⟩
theorem lw_p17 : lw_okq (⟨"TwoMayors$Sentences", "prepare", "(LTwoMayors$Borough;LTwoMayors$Standing;)V"⟩, 4) := ⟨⟨by decide +kernel, by decide +kernel⟩, List.mem_of_getElem? (i := 212) (by decide +kernel), List.mem_of_getElem? (i := 710) (by decide +kernel), List.mem_of_getElem? (i := 711) (by decide +kernel)⟩
theorem lw_p18 : lw_okq (⟨"TwoMayors$Sentences", "followShortest", "(LTwoMayors$Borough;I)V"⟩, 4) := ⟨⟨by decide +kernel, by decide +kernel⟩, List.mem_of_getElem? (i := 212) (by decide +kernel), List.mem_of_getElem? (i := 731) (by decide +kernel), List.mem_of_getElem? (i := 732) (by decide +kernel)⟩
theorem lw_p19 : lw_okq (⟨"TwoMayors$Sentences", "follow", "(LTwoMayors$Borough;III)V"⟩, 4) := ⟨⟨by decide +kernel, by decide +kernel⟩, List.mem_of_getElem? (i := 212) (by decide +kernel), List.mem_of_getElem? (i := 744) (by decide +kernel), List.mem_of_getElem? (i := 745) (by decide +kernel)⟩
theorem lw_p20 : lw_okq (⟨"TwoMayors$Sentences", "openingBy", "(LTwoMayors$Borough;I)LTwoMayors$Opening;"⟩, 4) := ⟨⟨by decide +kernel, by decide +kernel⟩, List.mem_of_getElem? (i := 212) (by decide +kernel), List.mem_of_getElem? (i := 748) (by decide +kernel), List.mem_of_getElem? (i := 749) (by decide +kernel)⟩
theorem lw_p21 : lw_okq (⟨"TwoMayors$Opening", "mostBehind", "(LTwoMayors$Borough;II)I"⟩, 6) := ⟨⟨by decide +kernel, by decide +kernel⟩, List.mem_of_getElem? (i := 220) (by decide +kernel), List.mem_of_getElem? (i := 770) (by decide +kernel), List.mem_of_getElem? (i := 771) (by decide +kernel)⟩
theorem lw_p22 : lw_okq (⟨"TwoMayors$Sentences", "followWorth", "(LTwoMayors$Borough;II)V"⟩, 4) := ⟨⟨by decide +kernel, by decide +kernel⟩, List.mem_of_getElem? (i := 212) (by decide +kernel), List.mem_of_getElem? (i := 781) (by decide +kernel), List.mem_of_getElem? (i := 782) (by decide +kernel)⟩
theorem lw_p23 : lw_okq (⟨"TwoMayors$Sentences", "firstBehindWith", "(LTwoMayors$Borough;LTwoMayors$Opening;III)I"⟩, 4) := ⟨⟨by decide +kernel, by decide +kernel⟩, List.mem_of_getElem? (i := 212) (by decide +kernel), List.mem_of_getElem? (i := 787) (by decide +kernel), List.mem_of_getElem? (i := 788) (by decide +kernel)⟩
theorem lw_p24 : lw_okq (⟨"TwoMayors$Opening", "luresTo", "(LTwoMayors$Borough;LTwoMayors$Finisher;I)I"⟩, 6) := ⟨⟨by decide +kernel, by decide +kernel⟩, List.mem_of_getElem? (i := 220) (by decide +kernel), List.mem_of_getElem? (i := 804) (by decide +kernel), List.mem_of_getElem? (i := 805) (by decide +kernel)⟩
theorem lw_p25 : lw_okq (⟨"TwoMayors$Opening", "sumBehind", "(LTwoMayors$Borough;II)I"⟩, 6) := ⟨⟨by decide +kernel, by decide +kernel⟩, List.mem_of_getElem? (i := 220) (by decide +kernel), List.mem_of_getElem? (i := 834) (by decide +kernel), List.mem_of_getElem? (i := 835) (by decide +kernel)⟩
theorem lw_p26 : lw_okq (⟨"TwoMayors$Guesses", "tableOnce", "(LTwoMayors$Borough;LTwoMayors$Finisher;)V"⟩, 8) := ⟨⟨by decide +kernel, by decide +kernel⟩, List.mem_of_getElem? (i := 261) (by decide +kernel), List.mem_of_getElem? (i := 860) (by decide +kernel), List.mem_of_getElem? (i := 861) (by decide +kernel)⟩
theorem lw_p27 : lw_okq (⟨"TwoMayors$Council", "step", "(LTwoMayors$Borough;I)V"⟩, 2) := ⟨⟨by decide +kernel, by decide +kernel⟩, List.mem_of_getElem? (i := 296) (by decide +kernel), List.mem_of_getElem? (i := 882) (by decide +kernel), List.mem_of_getElem? (i := 883) (by decide +kernel)⟩
theorem lw_p28 : lw_okq (⟨"TwoMayors$Council", "finishes", "(LTwoMayors$Borough;)Z"⟩, 2) := ⟨⟨by decide +kernel, by decide +kernel⟩, List.mem_of_getElem? (i := 296) (by decide +kernel), List.mem_of_getElem? (i := 886) (by decide +kernel), List.mem_of_getElem? (i := 887) (by decide +kernel)⟩
theorem lw_p29 : lw_okq (⟨"TwoMayorsModel", "begins", "()V"⟩, 20) := ⟨⟨by decide +kernel, by decide +kernel⟩, List.mem_of_getElem? (i := 916) (by decide +kernel), List.mem_of_getElem? (i := 922) (by decide +kernel), List.mem_of_getElem? (i := 923) (by decide +kernel)⟩
theorem lw_p30 : lw_okq (⟨"TwoMayorsModel", "wordOf", "(II)V"⟩, 20) := ⟨⟨by decide +kernel, by decide +kernel⟩, List.mem_of_getElem? (i := 916) (by decide +kernel), List.mem_of_getElem? (i := 926) (by decide +kernel), List.mem_of_getElem? (i := 927) (by decide +kernel)⟩
theorem lw_p31 : lw_okq (⟨"TwoMayorsModel", "lays", "()V"⟩, 20) := ⟨⟨by decide +kernel, by decide +kernel⟩, List.mem_of_getElem? (i := 916) (by decide +kernel), List.mem_of_getElem? (i := 930) (by decide +kernel), List.mem_of_getElem? (i := 931) (by decide +kernel)⟩
def lw_privs_2 : List (MethodName × Nat) := [(⟨"TwoMayors$Finisher", "fewestMore", "(I)I"⟩, 2), (⟨"TwoMayors$Sentences", "prepare", "(LTwoMayors$Borough;LTwoMayors$Standing;)V"⟩, 4), (⟨"TwoMayors$Sentences", "followShortest", "(LTwoMayors$Borough;I)V"⟩, 4), (⟨"TwoMayors$Sentences", "follow", "(LTwoMayors$Borough;III)V"⟩, 4), (⟨"TwoMayors$Sentences", "openingBy", "(LTwoMayors$Borough;I)LTwoMayors$Opening;"⟩, 4), (⟨"TwoMayors$Opening", "mostBehind", "(LTwoMayors$Borough;II)I"⟩, 6), (⟨"TwoMayors$Sentences", "followWorth", "(LTwoMayors$Borough;II)V"⟩, 4), (⟨"TwoMayors$Sentences", "firstBehindWith", "(LTwoMayors$Borough;LTwoMayors$Opening;III)I"⟩, 4), (⟨"TwoMayors$Opening", "luresTo", "(LTwoMayors$Borough;LTwoMayors$Finisher;I)I"⟩, 6), (⟨"TwoMayors$Opening", "sumBehind", "(LTwoMayors$Borough;II)I"⟩, 6), (⟨"TwoMayors$Guesses", "tableOnce", "(LTwoMayors$Borough;LTwoMayors$Finisher;)V"⟩, 8), (⟨"TwoMayors$Council", "step", "(LTwoMayors$Borough;I)V"⟩, 2), (⟨"TwoMayors$Council", "finishes", "(LTwoMayors$Borough;)Z"⟩, 2), (⟨"TwoMayorsModel", "begins", "()V"⟩, 20), (⟨"TwoMayorsModel", "wordOf", "(II)V"⟩, 20), (⟨"TwoMayorsModel", "lays", "()V"⟩, 20)]
theorem lw_r2 : ∀ q ∈ lw_privs_2, lw_okq q := List.forall_mem_cons.mpr ⟨lw_p16, List.forall_mem_cons.mpr ⟨lw_p17, List.forall_mem_cons.mpr ⟨lw_p18, List.forall_mem_cons.mpr ⟨lw_p19, List.forall_mem_cons.mpr ⟨lw_p20, List.forall_mem_cons.mpr ⟨lw_p21, List.forall_mem_cons.mpr ⟨lw_p22, List.forall_mem_cons.mpr ⟨lw_p23, List.forall_mem_cons.mpr ⟨lw_p24, List.forall_mem_cons.mpr ⟨lw_p25, List.forall_mem_cons.mpr ⟨lw_p26, List.forall_mem_cons.mpr ⟨lw_p27, List.forall_mem_cons.mpr ⟨lw_p28, List.forall_mem_cons.mpr ⟨lw_p29, List.forall_mem_cons.mpr ⟨lw_p30, List.forall_mem_cons.mpr ⟨lw_p31, fun _ h => absurd h List.not_mem_nil⟩⟩⟩⟩⟩⟩⟩⟩⟩⟩⟩⟩⟩⟩⟩⟩
theorem lw_p32 : lw_okq (⟨"TwoMayorsModel", "readsAll", "()I"⟩, 20) := ⟨⟨by decide +kernel, by decide +kernel⟩, List.mem_of_getElem? (i := 916) (by decide +kernel), List.mem_of_getElem? (i := 1010) (by decide +kernel), List.mem_of_getElem? (i := 1011) (by decide +kernel)⟩
theorem lw_p33 : lw_okq (⟨"TwoMayorsModel", "readsItem", "(I)Z"⟩, 20) := ⟨⟨by decide +kernel, by decide +kernel⟩, List.mem_of_getElem? (i := 916) (by decide +kernel), List.mem_of_getElem? (i := 1014) (by decide +kernel), List.mem_of_getElem? (i := 1015) (by decide +kernel)⟩
theorem lw_p34 : lw_okq (⟨"TwoMayorsModel", "number", "(III)I"⟩, 20) := ⟨⟨by decide +kernel, by decide +kernel⟩, List.mem_of_getElem? (i := 916) (by decide +kernel), List.mem_of_getElem? (i := 1018) (by decide +kernel), List.mem_of_getElem? (i := 1019) (by decide +kernel)⟩
theorem lw_p35 : lw_okq (⟨"TwoMayorsModel", "letterAt", "(I)I"⟩, 20) := ⟨⟨by decide +kernel, by decide +kernel⟩, List.mem_of_getElem? (i := 916) (by decide +kernel), List.mem_of_getElem? (i := 1022) (by decide +kernel), List.mem_of_getElem? (i := 1023) (by decide +kernel)⟩
theorem lw_p36 : lw_okq (⟨"TwoMayorsModel", "isWord", "(I)Z"⟩, 20) := ⟨⟨by decide +kernel, by decide +kernel⟩, List.mem_of_getElem? (i := 916) (by decide +kernel), List.mem_of_getElem? (i := 1037) (by decide +kernel), List.mem_of_getElem? (i := 1038) (by decide +kernel)⟩
theorem lw_p37 : lw_okq (⟨"TwoMayorsModel", "maySay", "(I)Z"⟩, 20) := ⟨⟨by decide +kernel, by decide +kernel⟩, List.mem_of_getElem? (i := 916) (by decide +kernel), List.mem_of_getElem? (i := 1056) (by decide +kernel), List.mem_of_getElem? (i := 1057) (by decide +kernel)⟩
theorem lw_p38 : lw_okq (⟨"TwoMayorsModel", "last", "()I"⟩, 20) := ⟨⟨by decide +kernel, by decide +kernel⟩, List.mem_of_getElem? (i := 916) (by decide +kernel), List.mem_of_getElem? (i := 1060) (by decide +kernel), List.mem_of_getElem? (i := 1061) (by decide +kernel)⟩
theorem lw_p39 : lw_okq (⟨"TwoMayorsModel", "keeps", "()V"⟩, 20) := ⟨⟨by decide +kernel, by decide +kernel⟩, List.mem_of_getElem? (i := 916) (by decide +kernel), List.mem_of_getElem? (i := 1064) (by decide +kernel), List.mem_of_getElem? (i := 1065) (by decide +kernel)⟩
theorem lw_p40 : lw_okq (⟨"TwoMayorsModel", "says", "(I)V"⟩, 20) := ⟨⟨by decide +kernel, by decide +kernel⟩, List.mem_of_getElem? (i := 916) (by decide +kernel), List.mem_of_getElem? (i := 1068) (by decide +kernel), List.mem_of_getElem? (i := 1069) (by decide +kernel)⟩
theorem lw_p41 : lw_okq (⟨"TwoMayorsModel", "mayEnd", "()Z"⟩, 20) := ⟨⟨by decide +kernel, by decide +kernel⟩, List.mem_of_getElem? (i := 916) (by decide +kernel), List.mem_of_getElem? (i := 1076) (by decide +kernel), List.mem_of_getElem? (i := 1077) (by decide +kernel)⟩
theorem lw_p42 : lw_okq (⟨"TwoMayorsModel", "worthNow", "()I"⟩, 20) := ⟨⟨by decide +kernel, by decide +kernel⟩, List.mem_of_getElem? (i := 916) (by decide +kernel), List.mem_of_getElem? (i := 1080) (by decide +kernel), List.mem_of_getElem? (i := 1081) (by decide +kernel)⟩
theorem lw_p43 : lw_okq (⟨"TwoMayorsModel", "decrees", "(II)V"⟩, 20) := ⟨⟨by decide +kernel, by decide +kernel⟩, List.mem_of_getElem? (i := 916) (by decide +kernel), List.mem_of_getElem? (i := 1084) (by decide +kernel), List.mem_of_getElem? (i := 1085) (by decide +kernel)⟩
theorem lw_p44 : lw_okq (⟨"TwoMayorsModel", "finishesNow", "()I"⟩, 20) := ⟨⟨by decide +kernel, by decide +kernel⟩, List.mem_of_getElem? (i := 916) (by decide +kernel), List.mem_of_getElem? (i := 1092) (by decide +kernel), List.mem_of_getElem? (i := 1093) (by decide +kernel)⟩
theorem lw_p45 : lw_okq (⟨"TwoMayorsModel", "knowsFor", "(I)I"⟩, 20) := ⟨⟨by decide +kernel, by decide +kernel⟩, List.mem_of_getElem? (i := 916) (by decide +kernel), List.mem_of_getElem? (i := 1096) (by decide +kernel), List.mem_of_getElem? (i := 1097) (by decide +kernel)⟩
theorem lw_p46 : lw_okq (⟨"TwoMayorsModel", "all", "()I"⟩, 20) := ⟨⟨by decide +kernel, by decide +kernel⟩, List.mem_of_getElem? (i := 916) (by decide +kernel), List.mem_of_getElem? (i := 1100) (by decide +kernel), List.mem_of_getElem? (i := 1101) (by decide +kernel)⟩
theorem lw_p47 : lw_okq (⟨"TwoMayorsModel", "finishes", "(II)I"⟩, 20) := ⟨⟨by decide +kernel, by decide +kernel⟩, List.mem_of_getElem? (i := 916) (by decide +kernel), List.mem_of_getElem? (i := 1104) (by decide +kernel), List.mem_of_getElem? (i := 1105) (by decide +kernel)⟩
def lw_privs_3 : List (MethodName × Nat) := [(⟨"TwoMayorsModel", "readsAll", "()I"⟩, 20), (⟨"TwoMayorsModel", "readsItem", "(I)Z"⟩, 20), (⟨"TwoMayorsModel", "number", "(III)I"⟩, 20), (⟨"TwoMayorsModel", "letterAt", "(I)I"⟩, 20), (⟨"TwoMayorsModel", "isWord", "(I)Z"⟩, 20), (⟨"TwoMayorsModel", "maySay", "(I)Z"⟩, 20), (⟨"TwoMayorsModel", "last", "()I"⟩, 20), (⟨"TwoMayorsModel", "keeps", "()V"⟩, 20), (⟨"TwoMayorsModel", "says", "(I)V"⟩, 20), (⟨"TwoMayorsModel", "mayEnd", "()Z"⟩, 20), (⟨"TwoMayorsModel", "worthNow", "()I"⟩, 20), (⟨"TwoMayorsModel", "decrees", "(II)V"⟩, 20), (⟨"TwoMayorsModel", "finishesNow", "()I"⟩, 20), (⟨"TwoMayorsModel", "knowsFor", "(I)I"⟩, 20), (⟨"TwoMayorsModel", "all", "()I"⟩, 20), (⟨"TwoMayorsModel", "finishes", "(II)I"⟩, 20)]
theorem lw_r3 : ∀ q ∈ lw_privs_3, lw_okq q := List.forall_mem_cons.mpr ⟨lw_p32, List.forall_mem_cons.mpr ⟨lw_p33, List.forall_mem_cons.mpr ⟨lw_p34, List.forall_mem_cons.mpr ⟨lw_p35, List.forall_mem_cons.mpr ⟨lw_p36, List.forall_mem_cons.mpr ⟨lw_p37, List.forall_mem_cons.mpr ⟨lw_p38, List.forall_mem_cons.mpr ⟨lw_p39, List.forall_mem_cons.mpr ⟨lw_p40, List.forall_mem_cons.mpr ⟨lw_p41, List.forall_mem_cons.mpr ⟨lw_p42, List.forall_mem_cons.mpr ⟨lw_p43, List.forall_mem_cons.mpr ⟨lw_p44, List.forall_mem_cons.mpr ⟨lw_p45, List.forall_mem_cons.mpr ⟨lw_p46, List.forall_mem_cons.mpr ⟨lw_p47, fun _ h => absurd h List.not_mem_nil⟩⟩⟩⟩⟩⟩⟩⟩⟩⟩⟩⟩⟩⟩⟩⟩
theorem lw_p48 : lw_okq (⟨"TwoMayorsModel", "levelsOf", "(I)V"⟩, 20) := ⟨⟨by decide +kernel, by decide +kernel⟩, List.mem_of_getElem? (i := 916) (by decide +kernel), List.mem_of_getElem? (i := 1108) (by decide +kernel), List.mem_of_getElem? (i := 1109) (by decide +kernel)⟩
theorem lw_p49 : lw_okq (⟨"TwoMayorsModel", "stops", "()I"⟩, 20) := ⟨⟨by decide +kernel, by decide +kernel⟩, List.mem_of_getElem? (i := 916) (by decide +kernel), List.mem_of_getElem? (i := 1112) (by decide +kernel), List.mem_of_getElem? (i := 1113) (by decide +kernel)⟩
theorem lw_p50 : lw_okq (⟨"TwoMayorsModel", "ends", "()I"⟩, 20) := ⟨⟨by decide +kernel, by decide +kernel⟩, List.mem_of_getElem? (i := 916) (by decide +kernel), List.mem_of_getElem? (i := 1116) (by decide +kernel), List.mem_of_getElem? (i := 1117) (by decide +kernel)⟩
theorem lw_p51 : lw_okq (⟨"TwoMayorsModel", "drops", "()V"⟩, 20) := ⟨⟨by decide +kernel, by decide +kernel⟩, List.mem_of_getElem? (i := 916) (by decide +kernel), List.mem_of_getElem? (i := 1124) (by decide +kernel), List.mem_of_getElem? (i := 1125) (by decide +kernel)⟩
theorem lw_p52 : lw_okq (⟨"TwoMayorsModel", "isSafe", "(III)Z"⟩, 20) := ⟨⟨by decide +kernel, by decide +kernel⟩, List.mem_of_getElem? (i := 916) (by decide +kernel), List.mem_of_getElem? (i := 1144) (by decide +kernel), List.mem_of_getElem? (i := 1145) (by decide +kernel)⟩
theorem lw_p53 : lw_okq (⟨"TwoMayorsModel", "lost", "(I)I"⟩, 20) := ⟨⟨by decide +kernel, by decide +kernel⟩, List.mem_of_getElem? (i := 916) (by decide +kernel), List.mem_of_getElem? (i := 1148) (by decide +kernel), List.mem_of_getElem? (i := 1149) (by decide +kernel)⟩
theorem lw_p54 : lw_okq (⟨"TwoMayorsModel", "reckons", "(II)V"⟩, 20) := ⟨⟨by decide +kernel, by decide +kernel⟩, List.mem_of_getElem? (i := 916) (by decide +kernel), List.mem_of_getElem? (i := 1152) (by decide +kernel), List.mem_of_getElem? (i := 1153) (by decide +kernel)⟩
theorem lw_p55 : lw_okq (⟨"TwoMayorsModel", "gainsFor", "(I)V"⟩, 20) := ⟨⟨by decide +kernel, by decide +kernel⟩, List.mem_of_getElem? (i := 916) (by decide +kernel), List.mem_of_getElem? (i := 1163) (by decide +kernel), List.mem_of_getElem? (i := 1164) (by decide +kernel)⟩
theorem lw_p56 : lw_okq (⟨"TwoMayorsModel", "isLure", "(III)Z"⟩, 20) := ⟨⟨by decide +kernel, by decide +kernel⟩, List.mem_of_getElem? (i := 916) (by decide +kernel), List.mem_of_getElem? (i := 1171) (by decide +kernel), List.mem_of_getElem? (i := 1172) (by decide +kernel)⟩
theorem lw_p57 : lw_okq (⟨"TwoMayorsModel", "turn", "(I)V"⟩, 20) := ⟨⟨by decide +kernel, by decide +kernel⟩, List.mem_of_getElem? (i := 916) (by decide +kernel), List.mem_of_getElem? (i := 1202) (by decide +kernel), List.mem_of_getElem? (i := 1203) (by decide +kernel)⟩
def lw_privs_4 : List (MethodName × Nat) := [(⟨"TwoMayorsModel", "levelsOf", "(I)V"⟩, 20), (⟨"TwoMayorsModel", "stops", "()I"⟩, 20), (⟨"TwoMayorsModel", "ends", "()I"⟩, 20), (⟨"TwoMayorsModel", "drops", "()V"⟩, 20), (⟨"TwoMayorsModel", "isSafe", "(III)Z"⟩, 20), (⟨"TwoMayorsModel", "lost", "(I)I"⟩, 20), (⟨"TwoMayorsModel", "reckons", "(II)V"⟩, 20), (⟨"TwoMayorsModel", "gainsFor", "(I)V"⟩, 20), (⟨"TwoMayorsModel", "isLure", "(III)Z"⟩, 20), (⟨"TwoMayorsModel", "turn", "(I)V"⟩, 20)]
theorem lw_r4 : ∀ q ∈ lw_privs_4, lw_okq q := List.forall_mem_cons.mpr ⟨lw_p48, List.forall_mem_cons.mpr ⟨lw_p49, List.forall_mem_cons.mpr ⟨lw_p50, List.forall_mem_cons.mpr ⟨lw_p51, List.forall_mem_cons.mpr ⟨lw_p52, List.forall_mem_cons.mpr ⟨lw_p53, List.forall_mem_cons.mpr ⟨lw_p54, List.forall_mem_cons.mpr ⟨lw_p55, List.forall_mem_cons.mpr ⟨lw_p56, List.forall_mem_cons.mpr ⟨lw_p57, fun _ h => absurd h List.not_mem_nil⟩⟩⟩⟩⟩⟩⟩⟩⟩⟩
def lw_privs : List (MethodName × Nat) := lw_privs_1 ++ (lw_privs_2 ++ (lw_privs_3 ++ (lw_privs_4)))
def lw_tbl : List Cond := k2_sels lw_privs ++ tables_1
theorem lw_privs_ok : ∀ q ∈ lw_privs, lw_okq q := by
  show ∀ q ∈ lw_privs_1 ++ (lw_privs_2 ++ (lw_privs_3 ++ (lw_privs_4))), lw_okq q
  exact List.forall_mem_append.mpr ⟨lw_r1, List.forall_mem_append.mpr ⟨lw_r2, List.forall_mem_append.mpr ⟨lw_r3, lw_r4⟩⟩⟩
end
section
/-! names, fields, methods, code lists: by wip/gen/gen2.py -/
def mx_R0 : String := "TwoMayors$Borough"
def mx_T0 : u_T := fun k => match k with
  | 0 => ("TwoMayors$Borough", "kinds", "[I", true)
  | 1 => ("TwoMayors$Borough", "worths", "[I", true)
  | 2 => ("TwoMayors$Borough", "behind", "[I", true)
  | 3 => ("TwoMayors$Borough", "words", "I", false)
  | 4 => ("TwoMayors$Borough", "adjectives", "I", false)
  | 5 => ("TwoMayors$Borough", "stops", "I", false)
  | 6 => ("TwoMayors$Borough", "proverbs", "I", false)
  | 7 => ("TwoMayors$Borough", "knownToFirst", "I", false)
  | 8 => ("TwoMayors$Borough", "knownToSecond", "I", false)
  | 9 => ("TwoMayors$Borough", "longest", "I", false)
  | _ => ("TwoMayors$Borough", "chain", "I", false)
def mx_Y0 : Nat → FieldType := fun k => match k with
  | 0 => .array .int
  | 1 => .array .int
  | 2 => .array .int
  | 3 => .int
  | 4 => .int
  | 5 => .int
  | 6 => .int
  | 7 => .int
  | 8 => .int
  | 9 => .int
  | _ => .int
def mx_R1 : String := "TwoMayors$Council"
def mx_T1 : u_T := fun k => match k with
  | 0 => ("TwoMayors$Council", "standing", "LTwoMayors$Standing;", true)
  | _ => ("TwoMayors$Council", "finisher", "LTwoMayors$Finisher;", true)
def mx_Y1 : Nat → FieldType := fun k => match k with
  | 0 => .object "TwoMayors$Standing"
  | _ => .object "TwoMayors$Finisher"
def mx_R2 : String := "TwoMayors$Finisher"
def mx_T2 : u_T := fun k => match k with
  | 0 => ("TwoMayors$Finisher", "row", "LTwoMayors$Row;", true)
  | _ => ("TwoMayors$Finisher", "starts", "[I", true)
def mx_Y2 : Nat → FieldType := fun k => match k with
  | 0 => .object "TwoMayors$Row"
  | _ => .array .int
def mx_R3 : String := "TwoMayors$Guesses"
def mx_T3 : u_T := fun k => match k with
  | 0 => ("TwoMayors$Guesses", "couldBySet", "[I", true)
  | 1 => ("TwoMayors$Guesses", "tabled", "Z", false)
  | 2 => ("TwoMayors$Guesses", "size", "I", false)
  | 3 => ("TwoMayors$Guesses", "could", "I", false)
  | 4 => ("TwoMayors$Guesses", "couldNot", "I", false)
  | 5 => ("TwoMayors$Guesses", "sets", "I", false)
  | 6 => ("TwoMayors$Guesses", "ofAll", "I", false)
  | _ => ("TwoMayors$Guesses", "ofAny", "I", false)
def mx_Y3 : Nat → FieldType := fun k => match k with
  | 0 => .array .int
  | 1 => .boolean
  | 2 => .int
  | 3 => .int
  | 4 => .int
  | 5 => .int
  | 6 => .int
  | _ => .int
def mx_R4 : String := "TwoMayors$Mayor"
def mx_T4 : u_T := fun k => match k with
  | 0 => ("TwoMayors$Mayor", "decrees", "I", false)
  | 1 => ("TwoMayors$Mayor", "gained", "I", false)
  | _ => ("TwoMayors$Mayor", "knows", "I", false)
def mx_Y4 : Nat → FieldType := fun k => match k with
  | 0 => .int
  | 1 => .int
  | _ => .int
def mx_R5 : String := "TwoMayors$Opening"
def mx_T5 : u_T := fun k => match k with
  | 0 => ("TwoMayors$Opening", "firsts", "I", false)
  | 1 => ("TwoMayors$Opening", "sayable", "I", false)
  | 2 => ("TwoMayors$Opening", "dangers", "I", false)
  | 3 => ("TwoMayors$Opening", "leading", "[I", true)
  | 4 => ("TwoMayors$Opening", "leadingOnceSaid", "[I", true)
  | _ => ("TwoMayors$Opening", "table", "[[I", true)
def mx_Y5 : Nat → FieldType := fun k => match k with
  | 0 => .int
  | 1 => .int
  | 2 => .int
  | 3 => .array .int
  | 4 => .array .int
  | _ => .array (.array .int)
def mx_R6 : String := "TwoMayors$Pile"
def mx_T6 : u_T := fun k => match k with
  | 0 => ("TwoMayors$Pile", "places", "[LTwoMayors$Standing;", true)
  | _ => ("TwoMayors$Pile", "size", "I", false)
def mx_Y6 : Nat → FieldType := fun k => match k with
  | 0 => .array (.object "TwoMayors$Standing")
  | _ => .int
def mx_R7 : String := "TwoMayors$Row"
def mx_T7 : u_T := fun k => match k with
  | 0 => ("TwoMayors$Row", "words", "[I", true)
  | _ => ("TwoMayors$Row", "size", "I", false)
def mx_Y7 : Nat → FieldType := fun k => match k with
  | 0 => .array .int
  | _ => .int
def mx_R8 : String := "TwoMayors$Sentences"
def mx_T8 : u_T := fun k => match k with
  | 0 => ("TwoMayors$Sentences", "found", "LTwoMayors$Row;", true)
  | 1 => ("TwoMayors$Sentences", "proverb", "LTwoMayors$Opening;", true)
  | 2 => ("TwoMayors$Sentences", "other", "LTwoMayors$Opening;", true)
  | _ => ("TwoMayors$Sentences", "finisher", "LTwoMayors$Finisher;", true)
def mx_Y8 : Nat → FieldType := fun k => match k with
  | 0 => .object "TwoMayors$Row"
  | 1 => .object "TwoMayors$Opening"
  | 2 => .object "TwoMayors$Opening"
  | _ => .object "TwoMayors$Finisher"
def mx_R9 : String := "TwoMayors$Standing"
def mx_T9 : u_T := fun k => match k with
  | 0 => ("TwoMayors$Standing", "sentence", "LTwoMayors$Row;", true)
  | 1 => ("TwoMayors$Standing", "first", "LTwoMayors$Mayor;", true)
  | 2 => ("TwoMayors$Standing", "second", "LTwoMayors$Mayor;", true)
  | 3 => ("TwoMayors$Standing", "chain", "I", false)
  | 4 => ("TwoMayors$Standing", "minute", "I", false)
  | _ => ("TwoMayors$Standing", "passings", "I", false)
def mx_Y9 : Nat → FieldType := fun k => match k with
  | 0 => .object "TwoMayors$Row"
  | 1 => .object "TwoMayors$Mayor"
  | 2 => .object "TwoMayors$Mayor"
  | 3 => .int
  | 4 => .int
  | _ => .int
def mx_R10 : String := "TwoMayors$Text"
def mx_T10 : u_T := fun k => match k with
  | 0 => ("TwoMayors$Text", "letters", "[I", true)
  | 1 => ("TwoMayors$Text", "numbers", "[I", true)
  | 2 => ("TwoMayors$Text", "length", "I", false)
  | _ => ("TwoMayors$Text", "numbersRead", "I", false)
def mx_Y10 : Nat → FieldType := fun k => match k with
  | 0 => .array .int
  | 1 => .array .int
  | 2 => .int
  | _ => .int
def mx_R11 : String := "TwoMayors"
def mx_T11 : u_T := fun k => match k with
  | 0 => ("TwoMayors", "text", "LTwoMayors$Text;", true)
  | 1 => ("TwoMayors", "borough", "LTwoMayors$Borough;", false)
  | 2 => ("TwoMayors", "draft", "LTwoMayors$Borough;", false)
  | 3 => ("TwoMayors", "now", "LTwoMayors$Standing;", true)
  | 4 => ("TwoMayors", "undoable", "LTwoMayors$Pile;", true)
  | 5 => ("TwoMayors", "kept", "LTwoMayors$Pile;", true)
  | 6 => ("TwoMayors", "finisher", "LTwoMayors$Finisher;", true)
  | 7 => ("TwoMayors", "sentences", "LTwoMayors$Sentences;", true)
  | 8 => ("TwoMayors", "guesses", "LTwoMayors$Guesses;", true)
  | _ => ("TwoMayors", "assembly", "LTwoMayors$Council;", true)
def mx_Y11 : Nat → FieldType := fun k => match k with
  | 0 => .object "TwoMayors$Text"
  | 1 => .object "TwoMayors$Borough"
  | 2 => .object "TwoMayors$Borough"
  | 3 => .object "TwoMayors$Standing"
  | 4 => .object "TwoMayors$Pile"
  | 5 => .object "TwoMayors$Pile"
  | 6 => .object "TwoMayors$Finisher"
  | 7 => .object "TwoMayors$Sentences"
  | 8 => .object "TwoMayors$Guesses"
  | _ => .object "TwoMayors$Council"
def mx_R12 : String := "TwoMayorsModel"
def mx_T12 : u_T := fun k => match k with
  | 0 => ("TwoMayorsModel", "text", "[I", true)
  | 1 => ("TwoMayorsModel", "typed", "I", false)
  | 2 => ("TwoMayorsModel", "told", "[I", true)
  | 3 => ("TwoMayorsModel", "draft", "[I", true)
  | 4 => ("TwoMayorsModel", "s", "[I", true)
  | 5 => ("TwoMayorsModel", "past", "[I", true)
  | 6 => ("TwoMayorsModel", "known", "I", false)
  | 7 => ("TwoMayorsModel", "images", "[I", true)
  | 8 => ("TwoMayorsModel", "kept", "I", false)
  | 9 => ("TwoMayorsModel", "notes", "[I", true)
  | 10 => ("TwoMayorsModel", "noted", "I", false)
  | 11 => ("TwoMayorsModel", "at", "I", false)
  | 12 => ("TwoMayorsModel", "levels", "[I", true)
  | 13 => ("TwoMayorsModel", "row", "[I", true)
  | 14 => ("TwoMayorsModel", "reach", "[I", true)
  | 15 => ("TwoMayorsModel", "gains", "[I", true)
  | 16 => ("TwoMayorsModel", "line", "[I", true)
  | 17 => ("TwoMayorsModel", "rows", "[I", true)
  | 18 => ("TwoMayorsModel", "next", "[I", true)
  | _ => ("TwoMayorsModel", "held", "[I", true)
def mx_Y12 : Nat → FieldType := fun k => match k with
  | 0 => .array .int
  | 1 => .int
  | 2 => .array .int
  | 3 => .array .int
  | 4 => .array .int
  | 5 => .array .int
  | 6 => .int
  | 7 => .array .int
  | 8 => .int
  | 9 => .array .int
  | 10 => .int
  | 11 => .int
  | 12 => .array .int
  | 13 => .array .int
  | 14 => .array .int
  | 15 => .array .int
  | 16 => .array .int
  | 17 => .array .int
  | 18 => .array .int
  | _ => .array .int
abbrev mx_cl : List vw_C := [(mx_R0, mx_T0, 11), (mx_R1, mx_T1, 2), (mx_R2, mx_T2, 2), (mx_R3, mx_T3, 8), (mx_R4, mx_T4, 3), (mx_R5, mx_T5, 6), (mx_R6, mx_T6, 2), (mx_R7, mx_T7, 2), (mx_R8, mx_T8, 4), (mx_R9, mx_T9, 6), (mx_R10, mx_T10, 4), (mx_R11, mx_T11, 10), (mx_R12, mx_T12, 20)]
def mx_Cn (c : Nat) : String := [mx_R0, mx_R1, mx_R2, mx_R3, mx_R4, mx_R5, mx_R6, mx_R7, mx_R8, mx_R9, mx_R10, mx_R11, mx_R12].getD c ""
def mx_Tn (c : Nat) : u_T := [mx_T0, mx_T1, mx_T2, mx_T3, mx_T4, mx_T5, mx_T6, mx_T7, mx_T8, mx_T9, mx_T10, mx_T11, mx_T12].getD c mx_T0
def mx_Yn (c : Nat) : Nat → FieldType := [mx_Y0, mx_Y1, mx_Y2, mx_Y3, mx_Y4, mx_Y5, mx_Y6, mx_Y7, mx_Y8, mx_Y9, mx_Y10, mx_Y11, mx_Y12].getD c mx_Y0
def mx_nf (c : Nat) : Nat := [11, 2, 2, 8, 3, 6, 2, 2, 4, 6, 4, 10, 20].getD c 0
/-- the kind of a field: 0 int, 2 boolean, 1 a reference -/
def mx_fkL : List (List Nat) := [[1, 1, 1, 0, 0, 0, 0, 0, 0, 0, 0], [1, 1], [1, 1], [1, 2, 0, 0, 0, 0, 0, 0], [0, 0, 0], [0, 0, 0, 1, 1, 1], [1, 0], [1, 0], [1, 1, 1, 1], [1, 1, 1, 0, 0, 0], [1, 1, 0, 0], [1, 1, 1, 1, 1, 1, 1, 1, 1, 1], [1, 0, 1, 1, 1, 1, 0, 1, 0, 1, 0, 0, 1, 1, 1, 1, 1, 1, 1, 1]]
def mx_fk (c k : Nat) : Nat := (mx_fkL.getD c []).getD k 9
/-- what the cells are, in the order in which they are made: 0 a row of ints, 1 of Standings, 2 of rows, 3 + c an object of class c; its length -/
def mx_layL : List (Nat × Nat) := [(14, 0), (13, 0), (0, 200), (0, 2), (3, 0), (0, 10), (0, 10), (0, 10), (3, 0), (0, 10), (0, 10), (0, 10), (12, 0), (10, 0), (0, 12), (7, 0), (7, 0), (9, 0), (1, 8), (12, 0), (10, 0), (0, 12), (7, 0), (7, 0), (12, 0), (10, 0), (0, 12), (7, 0), (7, 0), (12, 0), (10, 0), (0, 12), (7, 0), (7, 0), (12, 0), (10, 0), (0, 12), (7, 0), (7, 0), (12, 0), (10, 0), (0, 12), (7, 0), (7, 0), (12, 0), (10, 0), (0, 12), (7, 0), (7, 0), (12, 0), (10, 0), (0, 12), (7, 0), (7, 0), (12, 0), (10, 0), (0, 12), (7, 0), (7, 0), (9, 0), (1, 2), (12, 0), (10, 0), (0, 12), (7, 0), (7, 0), (12, 0), (10, 0), (0, 12), (7, 0), (7, 0), (5, 0), (10, 0), (0, 12), (0, 4), (11, 0), (10, 0), (0, 12), (8, 0), (0, 10), (0, 10), (2, 10), (0, 10), (0, 10), (0, 10), (0, 10), (0, 10), (0, 10), (0, 10), (0, 10), (0, 10), (0, 10), (8, 0), (0, 10), (0, 10), (2, 10), (0, 10), (0, 10), (0, 10), (0, 10), (0, 10), (0, 10), (0, 10), (0, 10), (0, 10), (0, 10), (6, 0), (0, 1024), (4, 0), (12, 0), (10, 0), (0, 12), (7, 0), (7, 0), (15, 0), (0, 200), (0, 35), (0, 35), (0, 22), (0, 176), (0, 44), (0, 8), (0, 5), (0, 10), (0, 20), (0, 100), (0, 10), (0, 10), (0, 10), (0, 22)]
def mx_lay (i : Nat) : Nat × Nat := mx_layL.getD i (99, 0)
abbrev mx_In : Type := Nat × Instr × Nat × Nat × Nat × Int32 × List (Int32 × Nat)
/-- a method: its blocks, its name, its code, its locals, its answer, its class, its room -/
abbrev mx_Mt : Type := (Nat → List mx_In) × MethodName × ByteArray × Nat × Option FieldType × String × Room × List Nat × List Nat
def mx_b_X0_init : Nat → List mx_In := fun t => match t with
  | 0 => [(0, .aload_n 0, 1, 0, 0, 0, []), (1, .invokespecial 3, 3, 1000, 1, 0, [(0, 111), (0, 83), (0, 84)]), (4, .aload_n 0, 1, 0, 0, 0, []), (5, .bipush 10, 2, 0, 0, 10, []), (7, .newarray .int, 2, 0, 0, 0, [(0, 105)]), (9, .putfield 9, 3, 0, 0, 0, [(0, 112)]), (12, .aload_n 0, 1, 0, 0, 0, []), (13, .bipush 10, 2, 0, 0, 10, []), (15, .newarray .int, 2, 0, 0, 0, [(0, 105)]), (17, .putfield 15, 3, 0, 1, 0, [(0, 113)]), (20, .aload_n 0, 1, 0, 0, 0, []), (21, .bipush 10, 2, 0, 0, 10, []), (23, .newarray .int, 2, 0, 0, 0, [(0, 105)]), (25, .putfield 18, 3, 0, 2, 0, [(0, 114)]), (28, .return_, 1, 0, 0, 0, [])]
  | _ => []
def mx_k_X0_init : mx_Mt := (mx_b_X0_init, ⟨"TwoMayors$Borough", "<init>", "()V"⟩, prog_2_method_1_code, 1, none, "TwoMayors$Borough", { frames := 1, cells := 3, slots := 30, locals := 20 }, [0], [2, 110, 61, 109, 0])
def mx_b_X0_clear : Nat → List mx_In := fun t => match t with
  | 0 => [(0, .aload_n 0, 1, 0, 0, 0, []), (1, .iconst 0, 1, 0, 0, 0, []), (2, .putfield 21, 3, 0, 3, 0, [(0, 115)]), (5, .aload_n 0, 1, 0, 0, 0, []), (6, .iconst 0, 1, 0, 0, 0, []), (7, .putfield 25, 3, 0, 4, 0, [(0, 120)]), (10, .aload_n 0, 1, 0, 0, 0, []), (11, .iconst 0, 1, 0, 0, 0, []), (12, .putfield 28, 3, 0, 5, 0, [(0, 123)]), (15, .aload_n 0, 1, 0, 0, 0, []), (16, .iconst 0, 1, 0, 0, 0, []), (17, .putfield 31, 3, 0, 6, 0, [(0, 126)]), (20, .aload_n 0, 1, 0, 0, 0, []), (21, .iconst 0, 1, 0, 0, 0, []), (22, .putfield 34, 3, 0, 7, 0, [(0, 129)]), (25, .aload_n 0, 1, 0, 0, 0, []), (26, .iconst 0, 1, 0, 0, 0, []), (27, .putfield 37, 3, 0, 8, 0, [(0, 131)]), (30, .aload_n 0, 1, 0, 0, 0, []), (31, .iconst 2, 1, 0, 0, 2, []), (32, .putfield 40, 3, 0, 9, 0, [(0, 133)]), (35, .aload_n 0, 1, 0, 0, 0, []), (36, .iconst 0, 1, 0, 0, 0, []), (37, .putfield 43, 3, 0, 10, 0, [(0, 136)]), (40, .return_, 1, 0, 0, 0, [])]
  | _ => []
def mx_k_X0_clear : mx_Mt := (mx_b_X0_clear, ⟨"TwoMayors$Borough", "clear", "()V"⟩, prog_2_method_2_code, 1, none, "TwoMayors$Borough", { frames := 0, cells := 0, slots := 0, locals := 0 }, [0], [0, 432, 61, 430, 431])
def mx_b_X0_takePair : Nat → List mx_In := fun t => match t with
  | 0 => [(0, .iload_n 1, 1, 1, 0, 0, []), (1, .lookupswitch 56 #[(103, 42), (107, 49), (119, 35)], 35, 57, 0, 0, [(103, 43), (107, 50), (119, 36)])]
  | 36 => [(36, .aload_n 0, 1, 0, 0, 0, []), (37, .iload_n 2, 1, 2, 0, 0, []), (38, .iload_n 3, 1, 3, 0, 0, []), (39, .invokevirtual 46, 3, 4, 3, 0, [(0, 460)]), (42, .ireturn, 1, 0, 0, 0, [])]
  | 43 => [(43, .aload_n 0, 1, 0, 0, 0, []), (44, .iload_n 2, 1, 2, 0, 0, []), (45, .iload_n 3, 1, 3, 0, 0, []), (46, .invokevirtual 50, 3, 5, 3, 0, [(0, 467)]), (49, .ireturn, 1, 0, 0, 0, [])]
  | 50 => [(50, .aload_n 0, 1, 0, 0, 0, []), (51, .iload_n 2, 1, 2, 0, 0, []), (52, .iload_n 3, 1, 3, 0, 0, []), (53, .invokevirtual 53, 3, 6, 3, 0, [(0, 475)]), (56, .ireturn, 1, 0, 0, 0, [])]
  | 57 => [(57, .iconst 0, 1, 0, 0, 0, []), (58, .ireturn, 1, 0, 0, 0, [])]
  | _ => []
def mx_k_X0_takePair : mx_Mt := (mx_b_X0_takePair, ⟨"TwoMayors$Borough", "takePair", "(III)Z"⟩, prog_2_method_3_code, 4, (some .boolean), "TwoMayors$Borough", { frames := 2, cells := 0, slots := 0, locals := 43 }, [0, 36, 43, 50, 57], [0, 459, 61, 457, 458])
def mx_b_X0_takeSingle : Nat → List mx_In := fun t => match t with
  | 0 => [(0, .iload_n 1, 1, 1, 0, 0, []), (1, .lookupswitch 39 #[(99, 33), (108, 27)], 27, 40, 0, 0, [(99, 34), (108, 28)])]
  | 28 => [(28, .aload_n 0, 1, 0, 0, 0, []), (29, .iload_n 2, 1, 2, 0, 0, []), (30, .invokevirtual 56, 3, 7, 2, 0, [(0, 486)]), (33, .ireturn, 1, 0, 0, 0, [])]
  | 34 => [(34, .aload_n 0, 1, 0, 0, 0, []), (35, .iload_n 2, 1, 2, 0, 0, []), (36, .invokevirtual 60, 3, 8, 2, 0, [(0, 490)]), (39, .ireturn, 1, 0, 0, 0, [])]
  | 40 => [(40, .iconst 0, 1, 0, 0, 0, []), (41, .ireturn, 1, 0, 0, 0, [])]
  | _ => []
def mx_k_X0_takeSingle : mx_Mt := (mx_b_X0_takeSingle, ⟨"TwoMayors$Borough", "takeSingle", "(II)Z"⟩, prog_2_method_4_code, 3, (some .boolean), "TwoMayors$Borough", { frames := 2, cells := 0, slots := 0, locals := 41 }, [0, 28, 34, 40], [0, 485, 61, 483, 484])
def mx_b_X0_addWord : Nat → List mx_In := fun t => match t with
  | 0 => [(0, .iload_n 1, 1, 1, 0, 0, []), (1, .ifCond .lt 27, 3, 28, 0, 0, []), (4, .iload_n 1, 1, 1, 0, 0, []), (5, .iconst 3, 1, 0, 0, 3, []), (6, .if_icmp .gt 22, 3, 28, 0, 0, []), (9, .iload_n 2, 1, 2, 0, 0, []), (10, .ifCond .lt 18, 3, 28, 0, 0, []), (13, .iload_n 2, 1, 2, 0, 0, []), (14, .bipush 9, 2, 0, 0, 9, []), (16, .if_icmp .gt 12, 3, 28, 0, 0, []), (19, .aload_n 0, 1, 0, 0, 0, []), (20, .getfield 21, 3, 0, 3, 0, [(0, 115)]), (23, .bipush 10, 2, 0, 0, 10, []), (25, .if_icmp .lt 5, 3, 30, 0, 0, []), (28, .nop, 0, 28, 0, 0, [])]
  | 28 => [(28, .iconst 0, 1, 0, 0, 0, []), (29, .ireturn, 1, 0, 0, 0, [])]
  | 30 => [(30, .aload_n 0, 1, 0, 0, 0, []), (31, .getfield 9, 3, 0, 0, 0, [(0, 112)]), (34, .aload_n 0, 1, 0, 0, 0, []), (35, .getfield 21, 3, 0, 3, 0, [(0, 115)]), (38, .iload_n 1, 1, 1, 0, 0, []), (39, .iastore, 1, 0, 0, 0, []), (40, .aload_n 0, 1, 0, 0, 0, []), (41, .getfield 15, 3, 0, 1, 0, [(0, 113)]), (44, .aload_n 0, 1, 0, 0, 0, []), (45, .getfield 21, 3, 0, 3, 0, [(0, 115)]), (48, .iload_n 2, 1, 2, 0, 0, []), (49, .iastore, 1, 0, 0, 0, []), (50, .aload_n 0, 1, 0, 0, 0, []), (51, .getfield 18, 3, 0, 2, 0, [(0, 114)]), (54, .aload_n 0, 1, 0, 0, 0, []), (55, .getfield 21, 3, 0, 3, 0, [(0, 115)]), (58, .iconst 0, 1, 0, 0, 0, []), (59, .iastore, 1, 0, 0, 0, []), (60, .aload_n 0, 1, 0, 0, 0, []), (61, .dup, 1, 0, 0, 0, []), (62, .getfield 25, 3, 0, 4, 0, [(0, 120)]), (65, .iload_n 1, 1, 1, 0, 0, []), (66, .iconst 1, 1, 0, 0, 1, []), (67, .if_icmp .ne 13, 3, 80, 0, 0, []), (70, .aload_n 0, 1, 0, 0, 0, []), (71, .getfield 21, 3, 0, 3, 0, [(0, 115)]), (74, .invokestatic 63, 3, 129, 1, 0, [(0, 464)]), (77, .goto 4, 3, 81, 0, 0, [])]
  | 80 => [(80, .iconst 0, 1, 0, 0, 0, []), (81, .nop, 0, 81, 0, 0, [])]
  | 81 => [(81, .ior, 1, 0, 0, 0, []), (82, .putfield 25, 3, 0, 4, 0, [(0, 120)]), (85, .aload_n 0, 1, 0, 0, 0, []), (86, .dup, 1, 0, 0, 0, []), (87, .getfield 28, 3, 0, 5, 0, [(0, 123)]), (90, .iload_n 1, 1, 1, 0, 0, []), (91, .iconst 2, 1, 0, 0, 2, []), (92, .if_icmp .ne 13, 3, 105, 0, 0, []), (95, .aload_n 0, 1, 0, 0, 0, []), (96, .getfield 21, 3, 0, 3, 0, [(0, 115)]), (99, .invokestatic 63, 3, 129, 1, 0, [(0, 464)]), (102, .goto 4, 3, 106, 0, 0, [])]
  | 105 => [(105, .iconst 0, 1, 0, 0, 0, []), (106, .nop, 0, 106, 0, 0, [])]
  | 106 => [(106, .ior, 1, 0, 0, 0, []), (107, .putfield 28, 3, 0, 5, 0, [(0, 123)]), (110, .aload_n 0, 1, 0, 0, 0, []), (111, .dup, 1, 0, 0, 0, []), (112, .getfield 31, 3, 0, 6, 0, [(0, 126)]), (115, .iload_n 1, 1, 1, 0, 0, []), (116, .iconst 3, 1, 0, 0, 3, []), (117, .if_icmp .ne 13, 3, 130, 0, 0, []), (120, .aload_n 0, 1, 0, 0, 0, []), (121, .getfield 21, 3, 0, 3, 0, [(0, 115)]), (124, .invokestatic 63, 3, 129, 1, 0, [(0, 464)]), (127, .goto 4, 3, 131, 0, 0, [])]
  | 130 => [(130, .iconst 0, 1, 0, 0, 0, []), (131, .nop, 0, 131, 0, 0, [])]
  | 131 => [(131, .ior, 1, 0, 0, 0, []), (132, .putfield 31, 3, 0, 6, 0, [(0, 126)]), (135, .aload_n 0, 1, 0, 0, 0, []), (136, .dup, 1, 0, 0, 0, []), (137, .getfield 21, 3, 0, 3, 0, [(0, 115)]), (140, .iconst 1, 1, 0, 0, 1, []), (141, .iadd, 1, 0, 0, 0, []), (142, .putfield 21, 3, 0, 3, 0, [(0, 115)]), (145, .iconst 1, 1, 0, 0, 1, []), (146, .ireturn, 1, 0, 0, 0, [])]
  | _ => []
def mx_k_X0_addWord : mx_Mt := (mx_b_X0_addWord, ⟨"TwoMayors$Borough", "addWord", "(II)Z"⟩, prog_2_method_5_code, 3, (some .boolean), "TwoMayors$Borough", { frames := 1, cells := 0, slots := 0, locals := 20 }, [0, 28, 30, 80, 81, 105, 106, 130, 131], [0, 463, 61, 462, 6])
def mx_b_X0_addBehind : Nat → List mx_In := fun t => match t with
  | 0 => [(0, .aload_n 0, 1, 0, 0, 0, []), (1, .iload_n 1, 1, 1, 0, 0, []), (2, .invokevirtual 67, 3, 9, 2, 0, [(0, 471)]), (5, .ifCond .eq 11, 3, 16, 0, 0, []), (8, .aload_n 0, 1, 0, 0, 0, []), (9, .iload_n 2, 1, 2, 0, 0, []), (10, .invokevirtual 67, 3, 9, 2, 0, [(0, 471)]), (13, .ifCond .ne 5, 3, 18, 0, 0, []), (16, .nop, 0, 16, 0, 0, [])]
  | 16 => [(16, .iconst 0, 1, 0, 0, 0, []), (17, .ireturn, 1, 0, 0, 0, [])]
  | 18 => [(18, .aload_n 0, 1, 0, 0, 0, []), (19, .getfield 18, 3, 0, 2, 0, [(0, 114)]), (22, .iload_n 1, 1, 1, 0, 0, []), (23, .dup2, 1, 0, 0, 0, []), (24, .iaload, 1, 0, 0, 0, []), (25, .iload_n 2, 1, 2, 0, 0, []), (26, .invokestatic 63, 3, 129, 1, 0, [(0, 464)]), (29, .ior, 1, 0, 0, 0, []), (30, .iastore, 1, 0, 0, 0, []), (31, .iconst 1, 1, 0, 0, 1, []), (32, .ireturn, 1, 0, 0, 0, [])]
  | _ => []
def mx_k_X0_addBehind : mx_Mt := (mx_b_X0_addBehind, ⟨"TwoMayors$Borough", "addBehind", "(II)Z"⟩, prog_2_method_6_code, 3, (some .boolean), "TwoMayors$Borough", { frames := 1, cells := 0, slots := 0, locals := 21 }, [0, 16, 18], [0, 470, 61, 469, 7])
def mx_b_X0_addKnown : Nat → List mx_In := fun t => match t with
  | 0 => [(0, .iload_n 1, 1, 1, 0, 0, []), (1, .invokestatic 70, 3, 128, 1, 0, [(0, 479)]), (4, .ifCond .eq 11, 3, 15, 0, 0, []), (7, .aload_n 0, 1, 0, 0, 0, []), (8, .iload_n 2, 1, 2, 0, 0, []), (9, .invokevirtual 67, 3, 9, 2, 0, [(0, 471)]), (12, .ifCond .ne 5, 3, 17, 0, 0, []), (15, .nop, 0, 15, 0, 0, [])]
  | 15 => [(15, .iconst 0, 1, 0, 0, 0, []), (16, .ireturn, 1, 0, 0, 0, [])]
  | 17 => [(17, .iload_n 1, 1, 1, 0, 0, []), (18, .ifCond .ne 19, 3, 37, 0, 0, []), (21, .aload_n 0, 1, 0, 0, 0, []), (22, .dup, 1, 0, 0, 0, []), (23, .getfield 34, 3, 0, 7, 0, [(0, 129)]), (26, .iload_n 2, 1, 2, 0, 0, []), (27, .invokestatic 63, 3, 129, 1, 0, [(0, 464)]), (30, .ior, 1, 0, 0, 0, []), (31, .putfield 34, 3, 0, 7, 0, [(0, 129)]), (34, .goto 16, 3, 50, 0, 0, [])]
  | 37 => [(37, .aload_n 0, 1, 0, 0, 0, []), (38, .dup, 1, 0, 0, 0, []), (39, .getfield 37, 3, 0, 8, 0, [(0, 131)]), (42, .iload_n 2, 1, 2, 0, 0, []), (43, .invokestatic 63, 3, 129, 1, 0, [(0, 464)]), (46, .ior, 1, 0, 0, 0, []), (47, .putfield 37, 3, 0, 8, 0, [(0, 131)]), (50, .nop, 0, 50, 0, 0, [])]
  | 50 => [(50, .iconst 1, 1, 0, 0, 1, []), (51, .ireturn, 1, 0, 0, 0, [])]
  | _ => []
def mx_k_X0_addKnown : mx_Mt := (mx_b_X0_addKnown, ⟨"TwoMayors$Borough", "addKnown", "(II)Z"⟩, prog_2_method_7_code, 3, (some .boolean), "TwoMayors$Borough", { frames := 1, cells := 0, slots := 0, locals := 21 }, [0, 15, 17, 37, 50], [0, 478, 61, 477, 8])
def mx_b_X0_setLongest : Nat → List mx_In := fun t => match t with
  | 0 => [(0, .iload_n 1, 1, 1, 0, 0, []), (1, .iconst 1, 1, 0, 0, 1, []), (2, .if_icmp .lt 8, 3, 10, 0, 0, []), (5, .iload_n 1, 1, 1, 0, 0, []), (6, .iconst 4, 1, 0, 0, 4, []), (7, .if_icmp .le 5, 3, 12, 0, 0, []), (10, .nop, 0, 10, 0, 0, [])]
  | 10 => [(10, .iconst 0, 1, 0, 0, 0, []), (11, .ireturn, 1, 0, 0, 0, [])]
  | 12 => [(12, .aload_n 0, 1, 0, 0, 0, []), (13, .iload_n 1, 1, 1, 0, 0, []), (14, .putfield 40, 3, 0, 9, 0, [(0, 133)]), (17, .iconst 1, 1, 0, 0, 1, []), (18, .ireturn, 1, 0, 0, 0, [])]
  | _ => []
def mx_k_X0_setLongest : mx_Mt := (mx_b_X0_setLongest, ⟨"TwoMayors$Borough", "setLongest", "(I)Z"⟩, prog_2_method_8_code, 2, (some .boolean), "TwoMayors$Borough", { frames := 0, cells := 0, slots := 0, locals := 0 }, [0, 10, 12], [0, 489, 61, 488, 9])
def mx_b_X0_setChain : Nat → List mx_In := fun t => match t with
  | 0 => [(0, .iload_n 1, 1, 1, 0, 0, []), (1, .invokestatic 70, 3, 128, 1, 0, [(0, 479)]), (4, .ifCond .ne 5, 3, 9, 0, 0, []), (7, .iconst 0, 1, 0, 0, 0, []), (8, .ireturn, 1, 0, 0, 0, [])]
  | 9 => [(9, .aload_n 0, 1, 0, 0, 0, []), (10, .iload_n 1, 1, 1, 0, 0, []), (11, .putfield 43, 3, 0, 10, 0, [(0, 136)]), (14, .iconst 1, 1, 0, 0, 1, []), (15, .ireturn, 1, 0, 0, 0, [])]
  | _ => []
def mx_k_X0_setChain : mx_Mt := (mx_b_X0_setChain, ⟨"TwoMayors$Borough", "setChain", "(I)Z"⟩, prog_2_method_9_code, 2, (some .boolean), "TwoMayors$Borough", { frames := 1, cells := 0, slots := 0, locals := 20 }, [0, 9], [0, 493, 61, 492, 10])
def mx_b_X0_has : Nat → List mx_In := fun t => match t with
  | 0 => [(0, .iload_n 1, 1, 1, 0, 0, []), (1, .ifCond .lt 21, 3, 22, 0, 0, []), (4, .iload_n 1, 1, 1, 0, 0, []), (5, .aload_n 0, 1, 0, 0, 0, []), (6, .getfield 21, 3, 0, 3, 0, [(0, 115)]), (9, .if_icmp .ge 13, 3, 22, 0, 0, []), (12, .iload_n 1, 1, 1, 0, 0, []), (13, .bipush 10, 2, 0, 0, 10, []), (15, .if_icmp .ge 7, 3, 22, 0, 0, []), (18, .iconst 1, 1, 0, 0, 1, []), (19, .goto 4, 3, 23, 0, 0, [])]
  | 22 => [(22, .iconst 0, 1, 0, 0, 0, []), (23, .nop, 0, 23, 0, 0, [])]
  | 23 => [(23, .ireturn, 1, 0, 0, 0, [])]
  | _ => []
def mx_k_X0_has : mx_Mt := (mx_b_X0_has, ⟨"TwoMayors$Borough", "has", "(I)Z"⟩, prog_2_method_10_code, 2, (some .boolean), "TwoMayors$Borough", { frames := 0, cells := 0, slots := 0, locals := 0 }, [0, 22, 23], [0, 474, 61, 472, 473])
def mx_b_X0_kindOf : Nat → List mx_In := fun t => match t with
  | 0 => [(0, .aload_n 0, 1, 0, 0, 0, []), (1, .iload_n 1, 1, 1, 0, 0, []), (2, .invokevirtual 67, 3, 9, 2, 0, [(0, 471)]), (5, .ifCond .eq 12, 3, 17, 0, 0, []), (8, .aload_n 0, 1, 0, 0, 0, []), (9, .getfield 9, 3, 0, 0, 0, [(0, 112)]), (12, .iload_n 1, 1, 1, 0, 0, []), (13, .iaload, 1, 0, 0, 0, []), (14, .goto 5, 3, 19, 0, 0, [])]
  | 17 => [(17, .bipush (-4), 2, 0, 0, (-4), []), (19, .nop, 0, 19, 0, 0, [])]
  | 19 => [(19, .ireturn, 1, 0, 0, 0, [])]
  | _ => []
def mx_k_X0_kindOf : mx_Mt := (mx_b_X0_kindOf, ⟨"TwoMayors$Borough", "kindOf", "(I)I"⟩, prog_2_method_11_code, 2, (some .int), "TwoMayors$Borough", { frames := 1, cells := 0, slots := 0, locals := 21 }, [0, 17, 19], [0, 578, 61, 576, 577])
def mx_b_X0_worthOf : Nat → List mx_In := fun t => match t with
  | 0 => [(0, .aload_n 0, 1, 0, 0, 0, []), (1, .iload_n 1, 1, 1, 0, 0, []), (2, .invokevirtual 67, 3, 9, 2, 0, [(0, 471)]), (5, .ifCond .eq 12, 3, 17, 0, 0, []), (8, .aload_n 0, 1, 0, 0, 0, []), (9, .getfield 15, 3, 0, 1, 0, [(0, 113)]), (12, .iload_n 1, 1, 1, 0, 0, []), (13, .iaload, 1, 0, 0, 0, []), (14, .goto 4, 3, 18, 0, 0, [])]
  | 17 => [(17, .iconst 0, 1, 0, 0, 0, []), (18, .nop, 0, 18, 0, 0, [])]
  | 18 => [(18, .ireturn, 1, 0, 0, 0, [])]
  | _ => []
def mx_k_X0_worthOf : mx_Mt := (mx_b_X0_worthOf, ⟨"TwoMayors$Borough", "worthOf", "(I)I"⟩, prog_2_method_12_code, 2, (some .int), "TwoMayors$Borough", { frames := 1, cells := 0, slots := 0, locals := 21 }, [0, 17, 18], [0, 582, 61, 580, 581])
def mx_b_X0_behindOf : Nat → List mx_In := fun t => match t with
  | 0 => [(0, .aload_n 0, 1, 0, 0, 0, []), (1, .iload_n 1, 1, 1, 0, 0, []), (2, .invokevirtual 67, 3, 9, 2, 0, [(0, 471)]), (5, .ifCond .eq 12, 3, 17, 0, 0, []), (8, .aload_n 0, 1, 0, 0, 0, []), (9, .getfield 18, 3, 0, 2, 0, [(0, 114)]), (12, .iload_n 1, 1, 1, 0, 0, []), (13, .iaload, 1, 0, 0, 0, []), (14, .goto 4, 3, 18, 0, 0, [])]
  | 17 => [(17, .iconst 0, 1, 0, 0, 0, []), (18, .nop, 0, 18, 0, 0, [])]
  | 18 => [(18, .ireturn, 1, 0, 0, 0, [])]
  | _ => []
def mx_k_X0_behindOf : mx_Mt := (mx_b_X0_behindOf, ⟨"TwoMayors$Borough", "behindOf", "(I)I"⟩, prog_2_method_13_code, 2, (some .int), "TwoMayors$Borough", { frames := 1, cells := 0, slots := 0, locals := 21 }, [0, 17, 18], [0, 586, 61, 584, 585])
def mx_b_X0_allWords : Nat → List mx_In := fun t => match t with
  | 0 => [(0, .iconst 1, 1, 0, 0, 1, []), (1, .aload_n 0, 1, 0, 0, 0, []), (2, .getfield 21, 3, 0, 3, 0, [(0, 115)]), (5, .ishl, 1, 0, 0, 0, []), (6, .iconst 1, 1, 0, 0, 1, []), (7, .isub, 1, 0, 0, 0, []), (8, .ireturn, 1, 0, 0, 0, [])]
  | _ => []
def mx_k_X0_allWords : mx_Mt := (mx_b_X0_allWords, ⟨"TwoMayors$Borough", "allWords", "()I"⟩, prog_2_method_14_code, 1, (some .int), "TwoMayors$Borough", { frames := 0, cells := 0, slots := 0, locals := 0 }, [0], [0, 697, 61, 695, 696])
def mx_b_X0_aheadOf : Nat → List mx_In := fun t => match t with
  | 0 => [(0, .iconst 0, 1, 0, 0, 0, []), (1, .istore_n 2, 1, 2, 0, 0, []), (2, .iconst 0, 1, 0, 0, 0, []), (3, .istore_n 3, 1, 3, 0, 0, []), (4, .nop, 0, 4, 0, 0, [])]
  | 4 => [(4, .iload_n 3, 1, 3, 0, 0, []), (5, .aload_n 0, 1, 0, 0, 0, []), (6, .getfield 21, 3, 0, 3, 0, [(0, 115)]), (9, .if_icmp .ge 32, 3, 41, 0, 0, []), (12, .iload_n 3, 1, 3, 0, 0, []), (13, .bipush 10, 2, 0, 0, 10, []), (15, .if_icmp .ge 26, 3, 41, 0, 0, []), (18, .aload_n 0, 1, 0, 0, 0, []), (19, .getfield 18, 3, 0, 2, 0, [(0, 114)]), (22, .iload_n 3, 1, 3, 0, 0, []), (23, .iaload, 1, 0, 0, 0, []), (24, .iload_n 1, 1, 1, 0, 0, []), (25, .iand, 1, 0, 0, 0, []), (26, .ifCond .eq 9, 3, 35, 0, 0, []), (29, .iload_n 2, 1, 2, 0, 0, []), (30, .iconst 1, 1, 0, 0, 1, []), (31, .iload_n 3, 1, 3, 0, 0, []), (32, .ishl, 1, 0, 0, 0, []), (33, .ior, 1, 0, 0, 0, []), (34, .istore_n 2, 1, 2, 0, 0, []), (35, .nop, 0, 35, 0, 0, [])]
  | 35 => [(35, .iinc 3 1, 3, 3, 0, 1, []), (38, .goto (-34), 3, 4, 0, 0, [])]
  | 41 => [(41, .iload_n 2, 1, 2, 0, 0, []), (42, .ireturn, 1, 0, 0, 0, [])]
  | _ => []
def mx_k_X0_aheadOf : mx_Mt := (mx_b_X0_aheadOf, ⟨"TwoMayors$Borough", "aheadOf", "(I)I"⟩, prog_2_method_15_code, 4, (some .int), "TwoMayors$Borough", { frames := 0, cells := 0, slots := 0, locals := 0 }, [0, 4, 35, 41], [0, 716, 61, 714, 715])
def mx_b_X0_firstOf : Nat → List mx_In := fun t => match t with
  | 0 => [(0, .iconst 0, 1, 0, 0, 0, []), (1, .istore_n 2, 1, 2, 0, 0, []), (2, .nop, 0, 2, 0, 0, [])]
  | 2 => [(2, .iload_n 2, 1, 2, 0, 0, []), (3, .aload_n 0, 1, 0, 0, 0, []), (4, .getfield 21, 3, 0, 3, 0, [(0, 115)]), (7, .if_icmp .ge 19, 3, 26, 0, 0, []), (10, .iload_n 1, 1, 1, 0, 0, []), (11, .iload_n 2, 1, 2, 0, 0, []), (12, .ishr, 1, 0, 0, 0, []), (13, .iconst 1, 1, 0, 0, 1, []), (14, .iand, 1, 0, 0, 0, []), (15, .ifCond .eq 5, 3, 20, 0, 0, []), (18, .iload_n 2, 1, 2, 0, 0, []), (19, .ireturn, 1, 0, 0, 0, [])]
  | 20 => [(20, .iinc 2 1, 3, 2, 0, 1, []), (23, .goto (-21), 3, 2, 0, 0, [])]
  | 26 => [(26, .bipush (-4), 2, 0, 0, (-4), []), (28, .ireturn, 1, 0, 0, 0, [])]
  | _ => []
def mx_k_X0_firstOf : mx_Mt := (mx_b_X0_firstOf, ⟨"TwoMayors$Borough", "firstOf", "(I)I"⟩, prog_2_method_16_code, 3, (some .int), "TwoMayors$Borough", { frames := 0, cells := 0, slots := 0, locals := 0 }, [0, 2, 20, 26], [0, 725, 61, 723, 724])
def mx_b_X1_init : Nat → List mx_In := fun t => match t with
  | 0 => [(0, .aload_n 0, 1, 0, 0, 0, []), (1, .invokespecial 3, 3, 1000, 1, 0, [(0, 358), (0, 83), (0, 84)]), (4, .aload_n 0, 1, 0, 0, 0, []), (5, .new 9, 3, 9, 0, 0, [(0, 359), (0, 161), (0, 62)]), (8, .dup, 1, 0, 0, 0, []), (9, .invokespecial 11, 3, 72, 1, 0, [(0, 360)]), (12, .putfield 12, 3, 1, 0, 0, [(0, 361)]), (15, .aload_n 0, 1, 0, 0, 0, []), (16, .aload_n 1, 1, 1, 0, 0, []), (17, .putfield 18, 3, 1, 1, 0, [(0, 362)]), (20, .return_, 1, 0, 0, 0, [])]
  | _ => []
def mx_k_X1_init : mx_Mt := (mx_b_X1_init, ⟨"TwoMayors$Council", "<init>", "(LTwoMayors$Finisher;)V"⟩, prog_3_method_1_code, 2, none, "TwoMayors$Council", { frames := 3, cells := 5, slots := 26, locals := 60 }, [0], [2, 357, 71, 356, 0])
def mx_b_X1_outcome : Nat → List mx_In := fun t => match t with
  | 0 => [(0, .aload_n 0, 1, 0, 0, 0, []), (1, .getfield 12, 3, 1, 0, 0, [(0, 361)]), (4, .aload_n 2, 1, 2, 0, 0, []), (5, .invokevirtual 22, 3, 74, 2, 0, [(0, 931)]), (8, .iconst 0, 1, 0, 0, 0, []), (9, .istore 5, 2, 5, 0, 0, []), (11, .nop, 0, 11, 0, 0, [])]
  | 11 => [(11, .iload 5, 2, 5, 0, 0, []), (13, .iload 4, 2, 4, 0, 0, []), (15, .if_icmp .ge 20, 3, 35, 0, 0, []), (18, .aload_n 0, 1, 0, 0, 0, []), (19, .aload_n 1, 1, 1, 0, 0, []), (20, .iload_n 3, 1, 3, 0, 0, []), (21, .iload 5, 2, 5, 0, 0, []), (23, .invokestatic 26, 3, 18, 2, 0, [(0, 932)]), (26, .invokevirtual 30, 3, 19, 3, 0, [(0, 939)]), (29, .iinc 5 1, 3, 5, 0, 1, []), (32, .goto (-21), 3, 11, 0, 0, [])]
  | 35 => [(35, .aload_n 0, 1, 0, 0, 0, []), (36, .getfield 12, 3, 1, 0, 0, [(0, 361)]), (39, .areturn, 1, 0, 0, 0, [])]
  | _ => []
def mx_k_X1_outcome : mx_Mt := (mx_b_X1_outcome, ⟨"TwoMayors$Council", "outcome", "(LTwoMayors$Borough;LTwoMayors$Standing;II)LTwoMayors$Standing;"⟩, prog_3_method_2_code, 6, (some (.object "TwoMayors$Standing")), "TwoMayors$Council", { frames := 6, cells := 0, slots := 0, locals := 133 }, [0, 11, 35], [0, 930, 71, 928, 929])
def mx_b_X1_drawOf : Nat → List mx_In := fun t => match t with
  | 0 => [(0, .ldc2_w 34, 3, 0, 0, 7919, [(0, 935)]), (3, .iload_n 0, 1, 0, 0, 0, []), (4, .i2l, 1, 0, 0, 0, []), (5, .lmul, 1, 0, 0, 0, []), (6, .ldc2_w 36, 3, 0, 0, 6151, [(0, 936)]), (9, .iload_n 1, 1, 1, 0, 0, []), (10, .i2l, 1, 0, 0, 0, []), (11, .lmul, 1, 0, 0, 0, []), (12, .ladd, 1, 0, 0, 0, []), (13, .lconst 1, 1, 0, 0, 1, []), (14, .ladd, 1, 0, 0, 0, []), (15, .lstore_n 2, 1, 2, 0, 0, []), (16, .lload_n 2, 1, 2, 0, 0, []), (17, .lload_n 2, 1, 2, 0, 0, []), (18, .lmul, 1, 0, 0, 0, []), (19, .ldc2_w 38, 3, 0, 0, 65521, [(0, 937)]), (22, .lrem, 1, 0, 0, 0, []), (23, .ldc2_w 40, 3, 0, 0, 2, [(0, 938)]), (26, .ldiv, 1, 0, 0, 0, []), (27, .l2i, 1, 0, 0, 0, []), (28, .ireturn, 1, 0, 0, 0, [])]
  | _ => []
def mx_k_X1_drawOf : mx_Mt := (mx_b_X1_drawOf, ⟨"TwoMayors$Council", "drawOf", "(II)I"⟩, prog_3_method_3_code, 4, (some .int), "TwoMayors$Council", { frames := 0, cells := 0, slots := 0, locals := 0 }, [0], [1, 934, 71, 933, 0])
def mx_b_X1_step : Nat → List mx_In := fun t => match t with
  | 0 => [(0, .iload_n 2, 1, 2, 0, 0, []), (1, .bipush 64, 2, 0, 0, 64, []), (3, .idiv, 1, 0, 0, 0, []), (4, .iconst 3, 1, 0, 0, 3, []), (5, .irem, 1, 0, 0, 0, []), (6, .istore_n 3, 1, 3, 0, 0, []), (7, .iload_n 3, 1, 3, 0, 0, []), (8, .ifCond .ne 12, 3, 20, 0, 0, []), (11, .aload_n 0, 1, 0, 0, 0, []), (12, .aload_n 1, 1, 1, 0, 0, []), (13, .invokevirtual 42, 3, 20, 2, 0, [(0, 943)]), (16, .ifCond .eq 4, 3, 20, 0, 0, []), (19, .return_, 1, 0, 0, 0, [])]
  | 20 => [(20, .iload_n 3, 1, 3, 0, 0, []), (21, .iconst 1, 1, 0, 0, 1, []), (22, .if_icmp .ne 24, 3, 46, 0, 0, []), (25, .aload_n 0, 1, 0, 0, 0, []), (26, .getfield 12, 3, 1, 0, 0, [(0, 361)]), (29, .aload_n 1, 1, 1, 0, 0, []), (30, .invokevirtual 46, 3, 81, 2, 0, [(0, 951)]), (33, .ifCond .eq 13, 3, 46, 0, 0, []), (36, .aload_n 0, 1, 0, 0, 0, []), (37, .getfield 12, 3, 1, 0, 0, [(0, 361)]), (40, .aload_n 1, 1, 1, 0, 0, []), (41, .invokevirtual 49, 3, 85, 2, 0, [(0, 952)]), (44, .pop, 1, 0, 0, 0, []), (45, .return_, 1, 0, 0, 0, [])]
  | 46 => [(46, .aload_n 1, 1, 1, 0, 0, []), (47, .getfield 53, 3, 0, 3, 0, [(0, 116)]), (50, .ifCond .le 12, 3, 62, 0, 0, []), (53, .iload_n 2, 1, 2, 0, 0, []), (54, .aload_n 1, 1, 1, 0, 0, []), (55, .getfield 53, 3, 0, 3, 0, [(0, 116)]), (58, .irem, 1, 0, 0, 0, []), (59, .goto 5, 3, 64, 0, 0, [])]
  | 62 => [(62, .bipush (-4), 2, 0, 0, (-4), []), (64, .nop, 0, 64, 0, 0, [])]
  | 64 => [(64, .istore 4, 2, 4, 0, 0, []), (66, .aload_n 1, 1, 1, 0, 0, []), (67, .iload 4, 2, 4, 0, 0, []), (69, .invokevirtual 59, 3, 9, 2, 0, [(0, 953)]), (72, .ifCond .eq 43, 3, 115, 0, 0, []), (75, .aload_n 0, 1, 0, 0, 0, []), (76, .getfield 12, 3, 1, 0, 0, [(0, 361)]), (79, .aload_n 1, 1, 1, 0, 0, []), (80, .iload 4, 2, 4, 0, 0, []), (82, .invokevirtual 63, 3, 80, 3, 0, [(0, 954)]), (85, .ifCond .eq 30, 3, 115, 0, 0, []), (88, .aload_n 0, 1, 0, 0, 0, []), (89, .getfield 12, 3, 1, 0, 0, [(0, 361)]), (92, .getfield 67, 3, 9, 0, 0, [(0, 206)]), (95, .getfield 71, 3, 7, 1, 0, [(0, 174)]), (98, .bipush 12, 2, 0, 0, 12, []), (100, .if_icmp .ge 15, 3, 115, 0, 0, []), (103, .aload_n 0, 1, 0, 0, 0, []), (104, .getfield 12, 3, 1, 0, 0, [(0, 361)]), (107, .iload 4, 2, 4, 0, 0, []), (109, .invokevirtual 76, 3, 83, 2, 0, [(0, 955)]), (112, .goto 23, 3, 135, 0, 0, [])]
  | 115 => [(115, .aload_n 0, 1, 0, 0, 0, []), (116, .getfield 12, 3, 1, 0, 0, [(0, 361)]), (119, .getfield 67, 3, 9, 0, 0, [(0, 206)]), (122, .getfield 71, 3, 7, 1, 0, [(0, 174)]), (125, .ifCond .le 10, 3, 135, 0, 0, []), (128, .aload_n 0, 1, 0, 0, 0, []), (129, .getfield 12, 3, 1, 0, 0, [(0, 361)]), (132, .invokevirtual 80, 3, 84, 1, 0, [(0, 956)]), (135, .nop, 0, 135, 0, 0, [])]
  | 135 => [(135, .return_, 1, 0, 0, 0, [])]
  | _ => []
def mx_k_X1_step : mx_Mt := (mx_b_X1_step, ⟨"TwoMayors$Council", "step", "(LTwoMayors$Borough;I)V"⟩, prog_3_method_4_code, 5, none, "TwoMayors$Council", { frames := 5, cells := 0, slots := 0, locals := 109 }, [0, 20, 46, 62, 64, 115, 135], [0, 942, 71, 941, 27])
def mx_b_X1_finishes : Nat → List mx_In := fun t => match t with
  | 0 => [(0, .aload_n 0, 1, 0, 0, 0, []), (1, .getfield 18, 3, 1, 1, 0, [(0, 362)]), (4, .aload_n 1, 1, 1, 0, 0, []), (5, .aload_n 0, 1, 0, 0, 0, []), (6, .getfield 12, 3, 1, 0, 0, [(0, 361)]), (9, .invokevirtual 83, 3, 79, 1, 0, [(0, 947)]), (12, .aload_n 0, 1, 0, 0, 0, []), (13, .getfield 12, 3, 1, 0, 0, [(0, 361)]), (16, .aload_n 1, 1, 1, 0, 0, []), (17, .invokevirtual 87, 3, 82, 2, 0, [(0, 948)]), (20, .invokevirtual 90, 3, 24, 4, 0, [(0, 949)]), (23, .aload_n 0, 1, 0, 0, 0, []), (24, .getfield 18, 3, 1, 1, 0, [(0, 362)]), (27, .getfield 96, 3, 2, 0, 0, [(0, 260)]), (30, .getfield 71, 3, 7, 1, 0, [(0, 174)]), (33, .ifCond .ne 5, 3, 38, 0, 0, []), (36, .iconst 0, 1, 0, 0, 0, []), (37, .ireturn, 1, 0, 0, 0, [])]
  | 38 => [(38, .aload_n 0, 1, 0, 0, 0, []), (39, .getfield 12, 3, 1, 0, 0, [(0, 361)]), (42, .aload_n 1, 1, 1, 0, 0, []), (43, .aload_n 0, 1, 0, 0, 0, []), (44, .getfield 18, 3, 1, 1, 0, [(0, 362)]), (47, .getfield 96, 3, 2, 0, 0, [(0, 260)]), (50, .invokevirtual 99, 3, 86, 3, 0, [(0, 950)]), (53, .pop, 1, 0, 0, 0, []), (54, .iconst 1, 1, 0, 0, 1, []), (55, .ireturn, 1, 0, 0, 0, [])]
  | _ => []
def mx_k_X1_finishes : mx_Mt := (mx_b_X1_finishes, ⟨"TwoMayors$Council", "finishes", "(LTwoMayors$Borough;)Z"⟩, prog_3_method_5_code, 2, (some .boolean), "TwoMayors$Council", { frames := 4, cells := 0, slots := 0, locals := 88 }, [0, 38], [0, 946, 71, 945, 28])
def mx_b_X2_init : Nat → List mx_In := fun t => match t with
  | 0 => [(0, .aload_n 0, 1, 0, 0, 0, []), (1, .invokespecial 3, 3, 1000, 1, 0, [(0, 256), (0, 83), (0, 84)]), (4, .aload_n 0, 1, 0, 0, 0, []), (5, .new 9, 3, 7, 0, 0, [(0, 257), (0, 167), (0, 63)]), (8, .dup, 1, 0, 0, 0, []), (9, .invokespecial 11, 3, 53, 1, 0, [(0, 258)]), (12, .putfield 12, 3, 2, 0, 0, [(0, 259)]), (15, .aload_n 0, 1, 0, 0, 0, []), (16, .iconst 4, 1, 0, 0, 4, []), (17, .newarray .int, 2, 0, 0, 0, [(0, 105)]), (19, .putfield 18, 3, 2, 1, 0, [(0, 263)]), (22, .return_, 1, 0, 0, 0, [])]
  | _ => []
def mx_k_X2_init : mx_Mt := (mx_b_X2_init, ⟨"TwoMayors$Finisher", "<init>", "()V"⟩, prog_4_method_1_code, 1, none, "TwoMayors$Finisher", { frames := 2, cells := 3, slots := 18, locals := 40 }, [0], [2, 255, 67, 254, 0])
def mx_b_X2_fillStarts : Nat → List mx_In := fun t => match t with
  | 0 => [(0, .aload_n 1, 1, 1, 0, 0, []), (1, .getfield 22, 3, 0, 5, 0, [(0, 122)]), (4, .iload_n 2, 1, 2, 0, 0, []), (5, .iand, 1, 0, 0, 0, []), (6, .istore_n 3, 1, 3, 0, 0, []), (7, .iconst 0, 1, 0, 0, 0, []), (8, .istore 4, 2, 4, 0, 0, []), (10, .nop, 0, 10, 0, 0, [])]
  | 10 => [(10, .iload 4, 2, 4, 0, 0, []), (12, .aload_n 0, 1, 0, 0, 0, []), (13, .getfield 18, 3, 2, 1, 0, [(0, 263)]), (16, .arraylength, 1, 0, 0, 0, []), (17, .if_icmp .ge 38, 3, 55, 0, 0, []), (20, .aload_n 0, 1, 0, 0, 0, []), (21, .getfield 18, 3, 2, 1, 0, [(0, 263)]), (24, .iload 4, 2, 4, 0, 0, []), (26, .iload 4, 2, 4, 0, 0, []), (28, .aload_n 1, 1, 1, 0, 0, []), (29, .getfield 28, 3, 0, 9, 0, [(0, 132)]), (32, .if_icmp .ge 7, 3, 39, 0, 0, []), (35, .iload_n 3, 1, 3, 0, 0, []), (36, .goto 4, 3, 40, 0, 0, [])]
  | 39 => [(39, .iconst 0, 1, 0, 0, 0, []), (40, .nop, 0, 40, 0, 0, [])]
  | 40 => [(40, .iastore, 1, 0, 0, 0, []), (41, .aload_n 1, 1, 1, 0, 0, []), (42, .iload_n 3, 1, 3, 0, 0, []), (43, .invokevirtual 31, 3, 14, 2, 0, [(0, 713)]), (46, .iload_n 2, 1, 2, 0, 0, []), (47, .iand, 1, 0, 0, 0, []), (48, .istore_n 3, 1, 3, 0, 0, []), (49, .iinc 4 1, 3, 4, 0, 1, []), (52, .goto (-42), 3, 10, 0, 0, [])]
  | 55 => [(55, .return_, 1, 0, 0, 0, [])]
  | _ => []
def mx_k_X2_fillStarts : mx_Mt := (mx_b_X2_fillStarts, ⟨"TwoMayors$Finisher", "fillStarts", "(LTwoMayors$Borough;I)V"⟩, prog_4_method_2_code, 5, none, "TwoMayors$Finisher", { frames := 1, cells := 0, slots := 0, locals := 23 }, [0, 10, 39, 40, 55], [0, 712, 67, 711, 15])
def mx_b_X2_couldBehind : Nat → List mx_In := fun t => match t with
  | 0 => [(0, .aload_n 1, 1, 1, 0, 0, []), (1, .getfield 22, 3, 0, 5, 0, [(0, 122)]), (4, .iload_n 2, 1, 2, 0, 0, []), (5, .iand, 1, 0, 0, 0, []), (6, .istore_n 3, 1, 3, 0, 0, []), (7, .iconst 0, 1, 0, 0, 0, []), (8, .istore 4, 2, 4, 0, 0, []), (10, .iconst 0, 1, 0, 0, 0, []), (11, .istore 5, 2, 5, 0, 0, []), (13, .nop, 0, 13, 0, 0, [])]
  | 13 => [(13, .iload 5, 2, 5, 0, 0, []), (15, .aload_n 1, 1, 1, 0, 0, []), (16, .getfield 28, 3, 0, 9, 0, [(0, 132)]), (19, .if_icmp .ge 32, 3, 51, 0, 0, []), (22, .iload_n 3, 1, 3, 0, 0, []), (23, .ifCond .eq 28, 3, 51, 0, 0, []), (26, .aload_n 1, 1, 1, 0, 0, []), (27, .iload_n 3, 1, 3, 0, 0, []), (28, .invokevirtual 31, 3, 14, 2, 0, [(0, 713)]), (31, .istore 6, 2, 6, 0, 0, []), (33, .iload 4, 2, 4, 0, 0, []), (35, .iload 6, 2, 6, 0, 0, []), (37, .ior, 1, 0, 0, 0, []), (38, .istore 4, 2, 4, 0, 0, []), (40, .iload 6, 2, 6, 0, 0, []), (42, .iload_n 2, 1, 2, 0, 0, []), (43, .iand, 1, 0, 0, 0, []), (44, .istore_n 3, 1, 3, 0, 0, []), (45, .iinc 5 1, 3, 5, 0, 1, []), (48, .goto (-35), 3, 13, 0, 0, [])]
  | 51 => [(51, .iload 4, 2, 4, 0, 0, []), (53, .aload_n 1, 1, 1, 0, 0, []), (54, .getfield 35, 3, 0, 4, 0, [(0, 121)]), (57, .iconst (-1), 1, 0, 0, (-1), []), (58, .ixor, 1, 0, 0, 0, []), (59, .iand, 1, 0, 0, 0, []), (60, .ireturn, 1, 0, 0, 0, [])]
  | _ => []
def mx_k_X2_couldBehind : mx_Mt := (mx_b_X2_couldBehind, ⟨"TwoMayors$Finisher", "couldBehind", "(LTwoMayors$Borough;I)I"⟩, prog_4_method_3_code, 7, (some .int), "TwoMayors$Finisher", { frames := 1, cells := 0, slots := 0, locals := 23 }, [0, 13, 51], [0, 780, 67, 778, 779])
def mx_b_X2_find : Nat → List mx_In := fun t => match t with
  | 0 => [(0, .aload_n 0, 1, 0, 0, 0, []), (1, .getfield 12, 3, 2, 0, 0, [(0, 259)]), (4, .invokevirtual 38, 3, 54, 1, 0, [(0, 706)]), (7, .aload_n 1, 1, 1, 0, 0, []), (8, .iload_n 2, 1, 2, 0, 0, []), (9, .invokevirtual 41, 3, 9, 2, 0, [(0, 707)]), (12, .ifCond .eq 12, 3, 24, 0, 0, []), (15, .aload_n 1, 1, 1, 0, 0, []), (16, .iload_n 2, 1, 2, 0, 0, []), (17, .invokevirtual 45, 3, 10, 2, 0, [(0, 708)]), (20, .iconst 1, 1, 0, 0, 1, []), (21, .if_icmp .ne 4, 3, 25, 0, 0, []), (24, .nop, 0, 24, 0, 0, [])]
  | 24 => [(24, .return_, 1, 0, 0, 0, [])]
  | 25 => [(25, .aload_n 0, 1, 0, 0, 0, []), (26, .aload_n 1, 1, 1, 0, 0, []), (27, .iload_n 3, 1, 3, 0, 0, []), (28, .invokevirtual 48, 3, 22, 3, 0, [(0, 709)]), (31, .iload_n 2, 1, 2, 0, 0, []), (32, .istore 4, 2, 4, 0, 0, []), (34, .aload_n 0, 1, 0, 0, 0, []), (35, .aload_n 1, 1, 1, 0, 0, []), (36, .iload_n 2, 1, 2, 0, 0, []), (37, .invokevirtual 52, 3, 12, 2, 0, [(0, 717)]), (40, .invokevirtual 55, 3, 25, 2, 0, [(0, 718)]), (43, .istore 5, 2, 5, 0, 0, []), (45, .nop, 0, 45, 0, 0, [])]
  | 45 => [(45, .iload 5, 2, 5, 0, 0, []), (47, .ifCond .lt 48, 3, 95, 0, 0, []), (50, .iload 5, 2, 5, 0, 0, []), (52, .aload_n 0, 1, 0, 0, 0, []), (53, .getfield 18, 3, 2, 1, 0, [(0, 263)]), (56, .arraylength, 1, 0, 0, 0, []), (57, .if_icmp .ge 38, 3, 95, 0, 0, []), (60, .aload_n 1, 1, 1, 0, 0, []), (61, .aload_n 1, 1, 1, 0, 0, []), (62, .iload 4, 2, 4, 0, 0, []), (64, .invokevirtual 52, 3, 12, 2, 0, [(0, 717)]), (67, .aload_n 0, 1, 0, 0, 0, []), (68, .getfield 18, 3, 2, 1, 0, [(0, 263)]), (71, .iload 5, 2, 5, 0, 0, []), (73, .iaload, 1, 0, 0, 0, []), (74, .iand, 1, 0, 0, 0, []), (75, .invokevirtual 58, 3, 15, 2, 0, [(0, 722)]), (78, .istore 4, 2, 4, 0, 0, []), (80, .aload_n 0, 1, 0, 0, 0, []), (81, .getfield 12, 3, 2, 0, 0, [(0, 259)]), (84, .iload 4, 2, 4, 0, 0, []), (86, .invokevirtual 61, 3, 55, 2, 0, [(0, 726)]), (89, .iinc 5 (-1), 3, 5, 0, (-1), []), (92, .goto (-47), 3, 45, 0, 0, [])]
  | 95 => [(95, .return_, 1, 0, 0, 0, [])]
  | _ => []
def mx_k_X2_find : mx_Mt := (mx_b_X2_find, ⟨"TwoMayors$Finisher", "find", "(LTwoMayors$Borough;II)V"⟩, prog_4_method_4_code, 6, none, "TwoMayors$Finisher", { frames := 2, cells := 0, slots := 0, locals := 47 }, [0, 24, 25, 45, 95], [0, 705, 67, 703, 704])
def mx_b_X2_fewestMore : Nat → List mx_In := fun t => match t with
  | 0 => [(0, .iconst 0, 1, 0, 0, 0, []), (1, .istore_n 2, 1, 2, 0, 0, []), (2, .nop, 0, 2, 0, 0, [])]
  | 2 => [(2, .iload_n 2, 1, 2, 0, 0, []), (3, .aload_n 0, 1, 0, 0, 0, []), (4, .getfield 18, 3, 2, 1, 0, [(0, 263)]), (7, .arraylength, 1, 0, 0, 0, []), (8, .if_icmp .ge 22, 3, 30, 0, 0, []), (11, .iload_n 1, 1, 1, 0, 0, []), (12, .aload_n 0, 1, 0, 0, 0, []), (13, .getfield 18, 3, 2, 1, 0, [(0, 263)]), (16, .iload_n 2, 1, 2, 0, 0, []), (17, .iaload, 1, 0, 0, 0, []), (18, .iand, 1, 0, 0, 0, []), (19, .ifCond .eq 5, 3, 24, 0, 0, []), (22, .iload_n 2, 1, 2, 0, 0, []), (23, .ireturn, 1, 0, 0, 0, [])]
  | 24 => [(24, .iinc 2 1, 3, 2, 0, 1, []), (27, .goto (-25), 3, 2, 0, 0, [])]
  | 30 => [(30, .iconst (-1), 1, 0, 0, (-1), []), (31, .ireturn, 1, 0, 0, 0, [])]
  | _ => []
def mx_k_X2_fewestMore : mx_Mt := (mx_b_X2_fewestMore, ⟨"TwoMayors$Finisher", "fewestMore", "(I)I"⟩, prog_4_method_5_code, 3, (some .int), "TwoMayors$Finisher", { frames := 0, cells := 0, slots := 0, locals := 0 }, [0, 2, 24, 30], [0, 721, 67, 720, 16])
def mx_b_X3_init : Nat → List mx_In := fun t => match t with
  | 0 => [(0, .aload_n 0, 1, 0, 0, 0, []), (1, .invokespecial 3, 3, 1000, 1, 0, [(0, 323), (0, 83), (0, 84)]), (4, .aload_n 0, 1, 0, 0, 0, []), (5, .sipush 1024, 3, 0, 0, 1024, []), (8, .newarray .int, 2, 0, 0, 0, [(0, 105)]), (10, .putfield 9, 3, 3, 0, 0, [(0, 324)]), (13, .return_, 1, 0, 0, 0, [])]
  | _ => []
def mx_k_X3_init : mx_Mt := (mx_b_X3_init, ⟨"TwoMayors$Guesses", "<init>", "()V"⟩, prog_5_method_1_code, 1, none, "TwoMayors$Guesses", { frames := 1, cells := 1, slots := 1024, locals := 20 }, [0], [2, 322, 70, 321, 0])
def mx_b_X3_startAnew : Nat → List mx_In := fun t => match t with
  | 0 => [(0, .aload_n 0, 1, 0, 0, 0, []), (1, .iconst 0, 1, 0, 0, 0, []), (2, .putfield 15, 3, 3, 1, 0, [(0, 325)]), (5, .aload_n 0, 1, 0, 0, 0, []), (6, .invokevirtual 19, 3, 28, 1, 0, [(0, 514)]), (9, .return_, 1, 0, 0, 0, [])]
  | _ => []
def mx_k_X3_startAnew : mx_Mt := (mx_b_X3_startAnew, ⟨"TwoMayors$Guesses", "startAnew", "()V"⟩, prog_5_method_2_code, 1, none, "TwoMayors$Guesses", { frames := 1, cells := 0, slots := 0, locals := 20 }, [0], [0, 513, 70, 511, 512])
def mx_b_X3_clear : Nat → List mx_In := fun t => match t with
  | 0 => [(0, .aload_n 0, 1, 0, 0, 0, []), (1, .iconst 0, 1, 0, 0, 0, []), (2, .putfield 22, 3, 3, 2, 0, [(0, 326)]), (5, .aload_n 0, 1, 0, 0, 0, []), (6, .iconst 0, 1, 0, 0, 0, []), (7, .putfield 26, 3, 3, 3, 0, [(0, 328)]), (10, .aload_n 0, 1, 0, 0, 0, []), (11, .iconst 0, 1, 0, 0, 0, []), (12, .putfield 29, 3, 3, 4, 0, [(0, 329)]), (15, .return_, 1, 0, 0, 0, [])]
  | _ => []
def mx_k_X3_clear : mx_Mt := (mx_b_X3_clear, ⟨"TwoMayors$Guesses", "clear", "()V"⟩, prog_5_method_3_code, 1, none, "TwoMayors$Guesses", { frames := 0, cells := 0, slots := 0, locals := 0 }, [0], [0, 517, 70, 515, 516])
def mx_b_X3_note : Nat → List mx_In := fun t => match t with
  | 0 => [(0, .aload_n 0, 1, 0, 0, 0, []), (1, .getfield 22, 3, 3, 2, 0, [(0, 326)]), (4, .bipush 8, 2, 0, 0, 8, []), (6, .if_icmp .lt 5, 3, 11, 0, 0, []), (9, .iconst 0, 1, 0, 0, 0, []), (10, .ireturn, 1, 0, 0, 0, [])]
  | 11 => [(11, .aload_n 0, 1, 0, 0, 0, []), (12, .dup, 1, 0, 0, 0, []), (13, .getfield 26, 3, 3, 3, 0, [(0, 328)]), (16, .iload_n 2, 1, 2, 0, 0, []), (17, .ifCond .eq 10, 3, 27, 0, 0, []), (20, .iload_n 1, 1, 1, 0, 0, []), (21, .invokestatic 32, 3, 129, 1, 0, [(0, 903)]), (24, .goto 4, 3, 28, 0, 0, [])]
  | 27 => [(27, .iconst 0, 1, 0, 0, 0, []), (28, .nop, 0, 28, 0, 0, [])]
  | 28 => [(28, .ior, 1, 0, 0, 0, []), (29, .putfield 26, 3, 3, 3, 0, [(0, 328)]), (32, .aload_n 0, 1, 0, 0, 0, []), (33, .dup, 1, 0, 0, 0, []), (34, .getfield 29, 3, 3, 4, 0, [(0, 329)]), (37, .iload_n 2, 1, 2, 0, 0, []), (38, .ifCond .eq 7, 3, 45, 0, 0, []), (41, .iconst 0, 1, 0, 0, 0, []), (42, .goto 7, 3, 49, 0, 0, [])]
  | 45 => [(45, .iload_n 1, 1, 1, 0, 0, []), (46, .invokestatic 32, 3, 129, 1, 0, [(0, 903)]), (49, .nop, 0, 49, 0, 0, [])]
  | 49 => [(49, .ior, 1, 0, 0, 0, []), (50, .putfield 29, 3, 3, 4, 0, [(0, 329)]), (53, .aload_n 0, 1, 0, 0, 0, []), (54, .dup, 1, 0, 0, 0, []), (55, .getfield 22, 3, 3, 2, 0, [(0, 326)]), (58, .iconst 1, 1, 0, 0, 1, []), (59, .iadd, 1, 0, 0, 0, []), (60, .putfield 22, 3, 3, 2, 0, [(0, 326)]), (63, .iconst 1, 1, 0, 0, 1, []), (64, .ireturn, 1, 0, 0, 0, [])]
  | _ => []
def mx_k_X3_note : mx_Mt := (mx_b_X3_note, ⟨"TwoMayors$Guesses", "note", "(IZ)Z"⟩, prog_5_method_4_code, 3, (some .boolean), "TwoMayors$Guesses", { frames := 1, cells := 0, slots := 0, locals := 20 }, [0, 11, 27, 28, 45, 49], [0, 902, 70, 900, 901])
def mx_b_X3_weigh : Nat → List mx_In := fun t => match t with
  | 0 => [(0, .aload_n 0, 1, 0, 0, 0, []), (1, .aload_n 1, 1, 1, 0, 0, []), (2, .aload_n 2, 1, 2, 0, 0, []), (3, .invokevirtual 36, 3, 31, 3, 0, [(0, 917)]), (6, .aload_n 0, 1, 0, 0, 0, []), (7, .iconst 0, 1, 0, 0, 0, []), (8, .putfield 40, 3, 3, 5, 0, [(0, 330)]), (11, .aload_n 0, 1, 0, 0, 0, []), (12, .aload_n 1, 1, 1, 0, 0, []), (13, .invokevirtual 43, 3, 13, 1, 0, [(0, 921)]), (16, .putfield 49, 3, 3, 6, 0, [(0, 332)]), (19, .aload_n 0, 1, 0, 0, 0, []), (20, .iconst 0, 1, 0, 0, 0, []), (21, .putfield 52, 3, 3, 7, 0, [(0, 334)]), (24, .iconst 0, 1, 0, 0, 0, []), (25, .istore_n 3, 1, 3, 0, 0, []), (26, .nop, 0, 26, 0, 0, [])]
  | 26 => [(26, .iload_n 3, 1, 3, 0, 0, []), (27, .aload_n 1, 1, 1, 0, 0, []), (28, .invokevirtual 43, 3, 13, 1, 0, [(0, 921)]), (31, .if_icmp .gt 81, 3, 112, 0, 0, []), (34, .iload_n 3, 1, 3, 0, 0, []), (35, .sipush 1024, 3, 0, 0, 1024, []), (38, .if_icmp .ge 74, 3, 112, 0, 0, []), (41, .aload_n 0, 1, 0, 0, 0, []), (42, .getfield 9, 3, 3, 0, 0, [(0, 324)]), (45, .iload_n 3, 1, 3, 0, 0, []), (46, .iaload, 1, 0, 0, 0, []), (47, .aload_n 0, 1, 0, 0, 0, []), (48, .getfield 26, 3, 3, 3, 0, [(0, 328)]), (51, .aload_n 0, 1, 0, 0, 0, []), (52, .getfield 29, 3, 3, 4, 0, [(0, 329)]), (55, .ior, 1, 0, 0, 0, []), (56, .iand, 1, 0, 0, 0, []), (57, .aload_n 0, 1, 0, 0, 0, []), (58, .getfield 26, 3, 3, 3, 0, [(0, 328)]), (61, .if_icmp .ne 45, 3, 106, 0, 0, []), (64, .aload_n 0, 1, 0, 0, 0, []), (65, .getfield 26, 3, 3, 3, 0, [(0, 328)]), (68, .aload_n 0, 1, 0, 0, 0, []), (69, .getfield 29, 3, 3, 4, 0, [(0, 329)]), (72, .iand, 1, 0, 0, 0, []), (73, .ifCond .ne 33, 3, 106, 0, 0, []), (76, .aload_n 0, 1, 0, 0, 0, []), (77, .dup, 1, 0, 0, 0, []), (78, .getfield 40, 3, 3, 5, 0, [(0, 330)]), (81, .iconst 1, 1, 0, 0, 1, []), (82, .iadd, 1, 0, 0, 0, []), (83, .putfield 40, 3, 3, 5, 0, [(0, 330)]), (86, .aload_n 0, 1, 0, 0, 0, []), (87, .dup, 1, 0, 0, 0, []), (88, .getfield 49, 3, 3, 6, 0, [(0, 332)]), (91, .iload_n 3, 1, 3, 0, 0, []), (92, .iand, 1, 0, 0, 0, []), (93, .putfield 49, 3, 3, 6, 0, [(0, 332)]), (96, .aload_n 0, 1, 0, 0, 0, []), (97, .dup, 1, 0, 0, 0, []), (98, .getfield 52, 3, 3, 7, 0, [(0, 334)]), (101, .iload_n 3, 1, 3, 0, 0, []), (102, .ior, 1, 0, 0, 0, []), (103, .putfield 52, 3, 3, 7, 0, [(0, 334)]), (106, .nop, 0, 106, 0, 0, [])]
  | 106 => [(106, .iinc 3 1, 3, 3, 0, 1, []), (109, .goto (-83), 3, 26, 0, 0, [])]
  | 112 => [(112, .return_, 1, 0, 0, 0, [])]
  | _ => []
def mx_k_X3_weigh : mx_Mt := (mx_b_X3_weigh, ⟨"TwoMayors$Guesses", "weigh", "(LTwoMayors$Borough;LTwoMayors$Finisher;)V"⟩, prog_5_method_5_code, 4, none, "TwoMayors$Guesses", { frames := 3, cells := 0, slots := 0, locals := 72 }, [0, 26, 106, 112], [0, 916, 70, 914, 915])
def mx_b_X3_tableOnce : Nat → List mx_In := fun t => match t with
  | 0 => [(0, .aload_n 0, 1, 0, 0, 0, []), (1, .getfield 15, 3, 3, 1, 0, [(0, 325)]), (4, .ifCond .eq 4, 3, 8, 0, 0, []), (7, .return_, 1, 0, 0, 0, [])]
  | 8 => [(8, .iconst 0, 1, 0, 0, 0, []), (9, .istore_n 3, 1, 3, 0, 0, []), (10, .nop, 0, 10, 0, 0, [])]
  | 10 => [(10, .iload_n 3, 1, 3, 0, 0, []), (11, .aload_n 1, 1, 1, 0, 0, []), (12, .invokevirtual 43, 3, 13, 1, 0, [(0, 921)]), (15, .if_icmp .gt 28, 3, 43, 0, 0, []), (18, .iload_n 3, 1, 3, 0, 0, []), (19, .sipush 1024, 3, 0, 0, 1024, []), (22, .if_icmp .ge 21, 3, 43, 0, 0, []), (25, .aload_n 0, 1, 0, 0, 0, []), (26, .getfield 9, 3, 3, 0, 0, [(0, 324)]), (29, .iload_n 3, 1, 3, 0, 0, []), (30, .aload_n 2, 1, 2, 0, 0, []), (31, .aload_n 1, 1, 1, 0, 0, []), (32, .iload_n 3, 1, 3, 0, 0, []), (33, .invokevirtual 55, 3, 23, 3, 0, [(0, 922)]), (36, .iastore, 1, 0, 0, 0, []), (37, .iinc 3 1, 3, 3, 0, 1, []), (40, .goto (-30), 3, 10, 0, 0, [])]
  | 43 => [(43, .aload_n 0, 1, 0, 0, 0, []), (44, .iconst 1, 1, 0, 0, 1, []), (45, .putfield 15, 3, 3, 1, 0, [(0, 325)]), (48, .return_, 1, 0, 0, 0, [])]
  | _ => []
def mx_k_X3_tableOnce : mx_Mt := (mx_b_X3_tableOnce, ⟨"TwoMayors$Guesses", "tableOnce", "(LTwoMayors$Borough;LTwoMayors$Finisher;)V"⟩, prog_5_method_6_code, 4, none, "TwoMayors$Guesses", { frames := 2, cells := 0, slots := 0, locals := 49 }, [0, 8, 10, 43], [0, 920, 70, 919, 26])
def mx_b_X4_init : Nat → List mx_In := fun t => match t with
  | 0 => [(0, .aload_n 0, 1, 0, 0, 0, []), (1, .invokespecial 1, 3, 1000, 1, 0, [(0, 187), (0, 83), (0, 84)]), (4, .return_, 1, 0, 0, 0, [])]
  | _ => []
def mx_k_X4_init : mx_Mt := (mx_b_X4_init, ⟨"TwoMayors$Mayor", "<init>", "()V"⟩, prog_6_method_1_code, 1, none, "TwoMayors$Mayor", { frames := 1, cells := 0, slots := 0, locals := 20 }, [0], [2, 186, 64, 185, 0])
def mx_b_X4_startWith : Nat → List mx_In := fun t => match t with
  | 0 => [(0, .aload_n 0, 1, 0, 0, 0, []), (1, .iconst 0, 1, 0, 0, 0, []), (2, .putfield 7, 3, 4, 0, 0, [(0, 188)]), (5, .aload_n 0, 1, 0, 0, 0, []), (6, .iconst 0, 1, 0, 0, 0, []), (7, .putfield 13, 3, 4, 1, 0, [(0, 191)]), (10, .aload_n 0, 1, 0, 0, 0, []), (11, .iload_n 1, 1, 1, 0, 0, []), (12, .putfield 16, 3, 4, 2, 0, [(0, 194)]), (15, .return_, 1, 0, 0, 0, [])]
  | _ => []
def mx_k_X4_startWith : mx_Mt := (mx_b_X4_startWith, ⟨"TwoMayors$Mayor", "startWith", "(I)V"⟩, prog_6_method_2_code, 2, none, "TwoMayors$Mayor", { frames := 0, cells := 0, slots := 0, locals := 0 }, [0], [0, 505, 64, 503, 504])
def mx_b_X4_copyFrom : Nat → List mx_In := fun t => match t with
  | 0 => [(0, .aload_n 0, 1, 0, 0, 0, []), (1, .aload_n 1, 1, 1, 0, 0, []), (2, .getfield 7, 3, 4, 0, 0, [(0, 188)]), (5, .putfield 7, 3, 4, 0, 0, [(0, 188)]), (8, .aload_n 0, 1, 0, 0, 0, []), (9, .aload_n 1, 1, 1, 0, 0, []), (10, .getfield 13, 3, 4, 1, 0, [(0, 191)]), (13, .putfield 13, 3, 4, 1, 0, [(0, 191)]), (16, .aload_n 0, 1, 0, 0, 0, []), (17, .aload_n 1, 1, 1, 0, 0, []), (18, .getfield 16, 3, 4, 2, 0, [(0, 194)]), (21, .putfield 16, 3, 4, 2, 0, [(0, 194)]), (24, .return_, 1, 0, 0, 0, [])]
  | _ => []
def mx_k_X4_copyFrom : mx_Mt := (mx_b_X4_copyFrom, ⟨"TwoMayors$Mayor", "copyFrom", "(LTwoMayors$Mayor;)V"⟩, prog_6_method_3_code, 2, none, "TwoMayors$Mayor", { frames := 0, cells := 0, slots := 0, locals := 0 }, [0], [0, 652, 64, 650, 651])
def mx_b_X5_init : Nat → List mx_In := fun t => match t with
  | 0 => [(0, .aload_n 0, 1, 0, 0, 0, []), (1, .invokespecial 3, 3, 1000, 1, 0, [(0, 282), (0, 83), (0, 84)]), (4, .aload_n 0, 1, 0, 0, 0, []), (5, .bipush 10, 2, 0, 0, 10, []), (7, .newarray .int, 2, 0, 0, 0, [(0, 105)]), (9, .putfield 9, 3, 5, 3, 0, [(0, 288)]), (12, .aload_n 0, 1, 0, 0, 0, []), (13, .bipush 10, 2, 0, 0, 10, []), (15, .newarray .int, 2, 0, 0, 0, [(0, 105)]), (17, .putfield 15, 3, 5, 4, 0, [(0, 289)]), (20, .aload_n 0, 1, 0, 0, 0, []), (21, .bipush 10, 2, 0, 0, 10, []), (23, .bipush 10, 2, 0, 0, 10, []), (25, .multianewarray 18 2, 4, 0, 0, 0, [(0, 283), (0, 284), (0, 105)]), (29, .putfield 20, 3, 5, 5, 0, [(0, 290)]), (32, .return_, 1, 0, 0, 0, [])]
  | _ => []
def mx_k_X5_init : mx_Mt := (mx_b_X5_init, ⟨"TwoMayors$Opening", "<init>", "()V"⟩, prog_7_method_1_code, 1, none, "TwoMayors$Opening", { frames := 1, cells := 13, slots := 130, locals := 20 }, [0], [2, 281, 69, 280, 0])
def mx_b_X5_prepare : Nat → List mx_In := fun t => match t with
  | 0 => [(0, .aload_n 0, 1, 0, 0, 0, []), (1, .iload_n 3, 1, 3, 0, 0, []), (2, .putfield 23, 3, 5, 0, 0, [(0, 285)]), (5, .aload_n 0, 1, 0, 0, 0, []), (6, .iload 4, 2, 4, 0, 0, []), (8, .putfield 27, 3, 5, 1, 0, [(0, 286)]), (11, .aload_n 0, 1, 0, 0, 0, []), (12, .aload_n 2, 1, 2, 0, 0, []), (13, .aload_n 1, 1, 1, 0, 0, []), (14, .iload 4, 2, 4, 0, 0, []), (16, .invokevirtual 30, 3, 23, 3, 0, [(0, 777)]), (19, .putfield 36, 3, 5, 2, 0, [(0, 287)]), (22, .return_, 1, 0, 0, 0, [])]
  | _ => []
def mx_k_X5_prepare : mx_Mt := (mx_b_X5_prepare, ⟨"TwoMayors$Opening", "prepare", "(LTwoMayors$Borough;LTwoMayors$Finisher;II)V"⟩, prog_7_method_2_code, 5, none, "TwoMayors$Opening", { frames := 2, cells := 0, slots := 0, locals := 49 }, [0], [0, 776, 69, 774, 775])
def mx_b_X5_firstsWith : Nat → List mx_In := fun t => match t with
  | 0 => [(0, .aload_n 0, 1, 0, 0, 0, []), (1, .iload_n 1, 1, 1, 0, 0, []), (2, .iconst 0, 1, 0, 0, 0, []), (3, .invokevirtual 39, 3, 38, 3, 0, [(0, 796)]), (6, .aload_n 0, 1, 0, 0, 0, []), (7, .getfield 23, 3, 5, 0, 0, [(0, 285)]), (10, .iand, 1, 0, 0, 0, []), (11, .ireturn, 1, 0, 0, 0, [])]
  | _ => []
def mx_k_X5_firstsWith : mx_Mt := (mx_b_X5_firstsWith, ⟨"TwoMayors$Opening", "firstsWith", "(I)I"⟩, prog_7_method_3_code, 2, (some .int), "TwoMayors$Opening", { frames := 1, cells := 0, slots := 0, locals := 22 }, [0], [0, 795, 69, 793, 794])
def mx_b_X5_leadingWith : Nat → List mx_In := fun t => match t with
  | 0 => [(0, .iload_n 1, 1, 1, 0, 0, []), (1, .ifCond .lt 9, 3, 10, 0, 0, []), (4, .iload_n 1, 1, 1, 0, 0, []), (5, .bipush 10, 2, 0, 0, 10, []), (7, .if_icmp .lt 5, 3, 12, 0, 0, []), (10, .nop, 0, 10, 0, 0, [])]
  | 10 => [(10, .iconst 0, 1, 0, 0, 0, []), (11, .ireturn, 1, 0, 0, 0, [])]
  | 12 => [(12, .iload_n 2, 1, 2, 0, 0, []), (13, .ifCond .eq 12, 3, 25, 0, 0, []), (16, .aload_n 0, 1, 0, 0, 0, []), (17, .getfield 15, 3, 5, 4, 0, [(0, 289)]), (20, .iload_n 1, 1, 1, 0, 0, []), (21, .iaload, 1, 0, 0, 0, []), (22, .goto 9, 3, 31, 0, 0, [])]
  | 25 => [(25, .aload_n 0, 1, 0, 0, 0, []), (26, .getfield 9, 3, 5, 3, 0, [(0, 288)]), (29, .iload_n 1, 1, 1, 0, 0, []), (30, .iaload, 1, 0, 0, 0, []), (31, .nop, 0, 31, 0, 0, [])]
  | 31 => [(31, .ireturn, 1, 0, 0, 0, [])]
  | _ => []
def mx_k_X5_leadingWith : mx_Mt := (mx_b_X5_leadingWith, ⟨"TwoMayors$Opening", "leadingWith", "(IZ)I"⟩, prog_7_method_4_code, 3, (some .int), "TwoMayors$Opening", { frames := 0, cells := 0, slots := 0, locals := 0 }, [0, 10, 12, 25, 31], [0, 799, 69, 797, 798])
def mx_b_X5_tableAt : Nat → List mx_In := fun t => match t with
  | 0 => [(0, .iload_n 1, 1, 1, 0, 0, []), (1, .ifCond .lt 30, 3, 31, 0, 0, []), (4, .iload_n 1, 1, 1, 0, 0, []), (5, .bipush 10, 2, 0, 0, 10, []), (7, .if_icmp .ge 24, 3, 31, 0, 0, []), (10, .iload_n 2, 1, 2, 0, 0, []), (11, .ifCond .lt 20, 3, 31, 0, 0, []), (14, .iload_n 2, 1, 2, 0, 0, []), (15, .bipush 10, 2, 0, 0, 10, []), (17, .if_icmp .ge 14, 3, 31, 0, 0, []), (20, .aload_n 0, 1, 0, 0, 0, []), (21, .getfield 20, 3, 5, 5, 0, [(0, 290)]), (24, .iload_n 1, 1, 1, 0, 0, []), (25, .aaload, 1, 0, 0, 0, []), (26, .iload_n 2, 1, 2, 0, 0, []), (27, .iaload, 1, 0, 0, 0, []), (28, .goto 4, 3, 32, 0, 0, [])]
  | 31 => [(31, .iconst (-1), 1, 0, 0, (-1), []), (32, .nop, 0, 32, 0, 0, [])]
  | 32 => [(32, .ireturn, 1, 0, 0, 0, [])]
  | _ => []
def mx_k_X5_tableAt : mx_Mt := (mx_b_X5_tableAt, ⟨"TwoMayors$Opening", "tableAt", "(II)I"⟩, prog_7_method_5_code, 3, (some .int), "TwoMayors$Opening", { frames := 0, cells := 0, slots := 0, locals := 0 }, [0, 31, 32], [0, 835, 69, 833, 834])
def mx_b_X5_seekSafe : Nat → List mx_In := fun t => match t with
  | 0 => [(0, .aload_n 0, 1, 0, 0, 0, []), (1, .getfield 15, 3, 5, 4, 0, [(0, 289)]), (4, .iconst 0, 1, 0, 0, 0, []), (5, .aload_n 1, 1, 1, 0, 0, []), (6, .getfield 43, 3, 0, 5, 0, [(0, 124)]), (9, .iastore, 1, 0, 0, 0, []), (10, .aload_n 0, 1, 0, 0, 0, []), (11, .getfield 9, 3, 5, 3, 0, [(0, 288)]), (14, .iconst 0, 1, 0, 0, 0, []), (15, .aload_n 1, 1, 1, 0, 0, []), (16, .getfield 43, 3, 0, 5, 0, [(0, 124)]), (19, .iload_n 2, 1, 2, 0, 0, []), (20, .invokestatic 48, 3, 129, 1, 0, [(0, 786)]), (23, .iand, 1, 0, 0, 0, []), (24, .iastore, 1, 0, 0, 0, []), (25, .iconst 1, 1, 0, 0, 1, []), (26, .istore_n 3, 1, 3, 0, 0, []), (27, .nop, 0, 27, 0, 0, [])]
  | 27 => [(27, .iload_n 3, 1, 3, 0, 0, []), (28, .bipush 10, 2, 0, 0, 10, []), (30, .if_icmp .ge 82, 3, 112, 0, 0, []), (33, .aload_n 0, 1, 0, 0, 0, []), (34, .getfield 15, 3, 5, 4, 0, [(0, 289)]), (37, .iload_n 3, 1, 3, 0, 0, []), (38, .aload_n 1, 1, 1, 0, 0, []), (39, .aload_n 0, 1, 0, 0, 0, []), (40, .getfield 15, 3, 5, 4, 0, [(0, 289)]), (43, .iload_n 3, 1, 3, 0, 0, []), (44, .iconst 1, 1, 0, 0, 1, []), (45, .isub, 1, 0, 0, 0, []), (46, .iaload, 1, 0, 0, 0, []), (47, .invokevirtual 52, 3, 14, 2, 0, [(0, 787)]), (50, .aload_n 0, 1, 0, 0, 0, []), (51, .getfield 36, 3, 5, 2, 0, [(0, 287)]), (54, .iconst (-1), 1, 0, 0, (-1), []), (55, .ixor, 1, 0, 0, 0, []), (56, .iand, 1, 0, 0, 0, []), (57, .iastore, 1, 0, 0, 0, []), (58, .aload_n 1, 1, 1, 0, 0, []), (59, .aload_n 0, 1, 0, 0, 0, []), (60, .getfield 9, 3, 5, 3, 0, [(0, 288)]), (63, .iload_n 3, 1, 3, 0, 0, []), (64, .iconst 1, 1, 0, 0, 1, []), (65, .isub, 1, 0, 0, 0, []), (66, .iaload, 1, 0, 0, 0, []), (67, .invokevirtual 52, 3, 14, 2, 0, [(0, 787)]), (70, .aload_n 0, 1, 0, 0, 0, []), (71, .getfield 36, 3, 5, 2, 0, [(0, 287)]), (74, .iconst (-1), 1, 0, 0, (-1), []), (75, .ixor, 1, 0, 0, 0, []), (76, .iand, 1, 0, 0, 0, []), (77, .iload_n 2, 1, 2, 0, 0, []), (78, .invokestatic 48, 3, 129, 1, 0, [(0, 786)]), (81, .iconst (-1), 1, 0, 0, (-1), []), (82, .ixor, 1, 0, 0, 0, []), (83, .iand, 1, 0, 0, 0, []), (84, .istore 4, 2, 4, 0, 0, []), (86, .aload_n 0, 1, 0, 0, 0, []), (87, .getfield 9, 3, 5, 3, 0, [(0, 288)]), (90, .iload_n 3, 1, 3, 0, 0, []), (91, .aload_n 0, 1, 0, 0, 0, []), (92, .getfield 15, 3, 5, 4, 0, [(0, 289)]), (95, .iload_n 3, 1, 3, 0, 0, []), (96, .iaload, 1, 0, 0, 0, []), (97, .iload_n 2, 1, 2, 0, 0, []), (98, .invokestatic 48, 3, 129, 1, 0, [(0, 786)]), (101, .iand, 1, 0, 0, 0, []), (102, .iload 4, 2, 4, 0, 0, []), (104, .ior, 1, 0, 0, 0, []), (105, .iastore, 1, 0, 0, 0, []), (106, .iinc 3 1, 3, 3, 0, 1, []), (109, .goto (-82), 3, 27, 0, 0, [])]
  | 112 => [(112, .return_, 1, 0, 0, 0, [])]
  | _ => []
def mx_k_X5_seekSafe : mx_Mt := (mx_b_X5_seekSafe, ⟨"TwoMayors$Opening", "seekSafe", "(LTwoMayors$Borough;I)V"⟩, prog_7_method_6_code, 5, none, "TwoMayors$Opening", { frames := 1, cells := 0, slots := 0, locals := 23 }, [0, 27, 112], [0, 785, 69, 783, 784])
def mx_b_X5_seekLure : Nat → List mx_In := fun t => match t with
  | 0 => [(0, .aload_n 0, 1, 0, 0, 0, []), (1, .getfield 9, 3, 5, 3, 0, [(0, 288)]), (4, .iconst 0, 1, 0, 0, 0, []), (5, .aload_n 0, 1, 0, 0, 0, []), (6, .aload_n 1, 1, 1, 0, 0, []), (7, .aload_n 2, 1, 2, 0, 0, []), (8, .iload_n 3, 1, 3, 0, 0, []), (9, .invokevirtual 55, 3, 42, 4, 0, [(0, 861)]), (12, .iastore, 1, 0, 0, 0, []), (13, .iconst 1, 1, 0, 0, 1, []), (14, .istore 4, 2, 4, 0, 0, []), (16, .nop, 0, 16, 0, 0, [])]
  | 16 => [(16, .iload 4, 2, 4, 0, 0, []), (18, .bipush 10, 2, 0, 0, 10, []), (20, .if_icmp .ge 36, 3, 56, 0, 0, []), (23, .aload_n 0, 1, 0, 0, 0, []), (24, .getfield 9, 3, 5, 3, 0, [(0, 288)]), (27, .iload 4, 2, 4, 0, 0, []), (29, .aload_n 1, 1, 1, 0, 0, []), (30, .aload_n 0, 1, 0, 0, 0, []), (31, .getfield 9, 3, 5, 3, 0, [(0, 288)]), (34, .iload 4, 2, 4, 0, 0, []), (36, .iconst 1, 1, 0, 0, 1, []), (37, .isub, 1, 0, 0, 0, []), (38, .iaload, 1, 0, 0, 0, []), (39, .invokevirtual 52, 3, 14, 2, 0, [(0, 787)]), (42, .aload_n 0, 1, 0, 0, 0, []), (43, .getfield 36, 3, 5, 2, 0, [(0, 287)]), (46, .iconst (-1), 1, 0, 0, (-1), []), (47, .ixor, 1, 0, 0, 0, []), (48, .iand, 1, 0, 0, 0, []), (49, .iastore, 1, 0, 0, 0, []), (50, .iinc 4 1, 3, 4, 0, 1, []), (53, .goto (-37), 3, 16, 0, 0, [])]
  | 56 => [(56, .return_, 1, 0, 0, 0, [])]
  | _ => []
def mx_k_X5_seekLure : mx_Mt := (mx_b_X5_seekLure, ⟨"TwoMayors$Opening", "seekLure", "(LTwoMayors$Borough;LTwoMayors$Finisher;I)V"⟩, prog_7_method_7_code, 5, none, "TwoMayors$Opening", { frames := 4, cells := 0, slots := 0, locals := 97 }, [0, 16, 56], [0, 860, 69, 858, 859])
def mx_b_X5_luresTo : Nat → List mx_In := fun t => match t with
  | 0 => [(0, .iconst 0, 1, 0, 0, 0, []), (1, .istore 4, 2, 4, 0, 0, []), (3, .iconst 0, 1, 0, 0, 0, []), (4, .istore 5, 2, 5, 0, 0, []), (6, .nop, 0, 6, 0, 0, [])]
  | 6 => [(6, .iload 5, 2, 5, 0, 0, []), (8, .aload_n 1, 1, 1, 0, 0, []), (9, .getfield 59, 3, 0, 3, 0, [(0, 117)]), (12, .if_icmp .ge 58, 3, 70, 0, 0, []), (15, .aload_n 0, 1, 0, 0, 0, []), (16, .getfield 36, 3, 5, 2, 0, [(0, 287)]), (19, .iload 5, 2, 5, 0, 0, []), (21, .invokestatic 48, 3, 129, 1, 0, [(0, 786)]), (24, .iand, 1, 0, 0, 0, []), (25, .ifCond .eq 39, 3, 64, 0, 0, []), (28, .aload_n 2, 1, 2, 0, 0, []), (29, .aload_n 1, 1, 1, 0, 0, []), (30, .iload 5, 2, 5, 0, 0, []), (32, .aload_n 0, 1, 0, 0, 0, []), (33, .getfield 27, 3, 5, 1, 0, [(0, 286)]), (36, .invokevirtual 62, 3, 24, 4, 0, [(0, 865)]), (39, .iload 4, 2, 4, 0, 0, []), (41, .aload_n 2, 1, 2, 0, 0, []), (42, .getfield 66, 3, 2, 0, 0, [(0, 261)]), (45, .iload_n 3, 1, 3, 0, 0, []), (46, .invokevirtual 70, 3, 57, 2, 0, [(0, 866)]), (49, .ifCond .eq 11, 3, 60, 0, 0, []), (52, .iload 5, 2, 5, 0, 0, []), (54, .invokestatic 48, 3, 129, 1, 0, [(0, 786)]), (57, .goto 4, 3, 61, 0, 0, [])]
  | 60 => [(60, .iconst 0, 1, 0, 0, 0, []), (61, .nop, 0, 61, 0, 0, [])]
  | 61 => [(61, .ior, 1, 0, 0, 0, []), (62, .istore 4, 2, 4, 0, 0, []), (64, .nop, 0, 64, 0, 0, [])]
  | 64 => [(64, .iinc 5 1, 3, 5, 0, 1, []), (67, .goto (-61), 3, 6, 0, 0, [])]
  | 70 => [(70, .iload 4, 2, 4, 0, 0, []), (72, .ireturn, 1, 0, 0, 0, [])]
  | _ => []
def mx_k_X5_luresTo : mx_Mt := (mx_b_X5_luresTo, ⟨"TwoMayors$Opening", "luresTo", "(LTwoMayors$Borough;LTwoMayors$Finisher;I)I"⟩, prog_7_method_8_code, 6, (some .int), "TwoMayors$Opening", { frames := 3, cells := 0, slots := 0, locals := 72 }, [0, 6, 60, 61, 64, 70], [0, 864, 69, 863, 24])
def mx_b_X5_tableWorths : Nat → List mx_In := fun t => match t with
  | 0 => [(0, .iconst 0, 1, 0, 0, 0, []), (1, .istore_n 3, 1, 3, 0, 0, []), (2, .nop, 0, 2, 0, 0, [])]
  | 2 => [(2, .iload_n 3, 1, 3, 0, 0, []), (3, .aload_n 1, 1, 1, 0, 0, []), (4, .getfield 59, 3, 0, 3, 0, [(0, 117)]), (7, .if_icmp .ge 41, 3, 48, 0, 0, []), (10, .iload_n 3, 1, 3, 0, 0, []), (11, .bipush 10, 2, 0, 0, 10, []), (13, .if_icmp .ge 35, 3, 48, 0, 0, []), (16, .aload_n 0, 1, 0, 0, 0, []), (17, .getfield 20, 3, 5, 5, 0, [(0, 290)]), (20, .iconst 0, 1, 0, 0, 0, []), (21, .aaload, 1, 0, 0, 0, []), (22, .iload_n 3, 1, 3, 0, 0, []), (23, .aload_n 1, 1, 1, 0, 0, []), (24, .iload_n 3, 1, 3, 0, 0, []), (25, .invokevirtual 76, 3, 10, 2, 0, [(0, 825)]), (28, .iconst 2, 1, 0, 0, 2, []), (29, .if_icmp .ne 11, 3, 40, 0, 0, []), (32, .aload_n 1, 1, 1, 0, 0, []), (33, .iload_n 3, 1, 3, 0, 0, []), (34, .invokevirtual 79, 3, 11, 2, 0, [(0, 826)]), (37, .goto 4, 3, 41, 0, 0, [])]
  | 40 => [(40, .iconst (-1), 1, 0, 0, (-1), []), (41, .nop, 0, 41, 0, 0, [])]
  | 41 => [(41, .iastore, 1, 0, 0, 0, []), (42, .iinc 3 1, 3, 3, 0, 1, []), (45, .goto (-43), 3, 2, 0, 0, [])]
  | 48 => [(48, .iconst 1, 1, 0, 0, 1, []), (49, .istore_n 3, 1, 3, 0, 0, []), (50, .nop, 0, 50, 0, 0, [])]
  | 50 => [(50, .iload_n 3, 1, 3, 0, 0, []), (51, .iload_n 2, 1, 2, 0, 0, []), (52, .if_icmp .ge 97, 3, 149, 0, 0, []), (55, .iload_n 3, 1, 3, 0, 0, []), (56, .bipush 10, 2, 0, 0, 10, []), (58, .if_icmp .ge 91, 3, 149, 0, 0, []), (61, .iconst 0, 1, 0, 0, 0, []), (62, .istore 4, 2, 4, 0, 0, []), (64, .nop, 0, 64, 0, 0, [])]
  | 64 => [(64, .iload 4, 2, 4, 0, 0, []), (66, .aload_n 1, 1, 1, 0, 0, []), (67, .getfield 59, 3, 0, 3, 0, [(0, 117)]), (70, .if_icmp .ge 73, 3, 143, 0, 0, []), (73, .iload 4, 2, 4, 0, 0, []), (75, .bipush 10, 2, 0, 0, 10, []), (77, .if_icmp .ge 66, 3, 143, 0, 0, []), (80, .aload_n 0, 1, 0, 0, 0, []), (81, .getfield 36, 3, 5, 2, 0, [(0, 287)]), (84, .iload 4, 2, 4, 0, 0, []), (86, .invokestatic 48, 3, 129, 1, 0, [(0, 786)]), (89, .iand, 1, 0, 0, 0, []), (90, .ifCond .eq 7, 3, 97, 0, 0, []), (93, .iconst (-1), 1, 0, 0, (-1), []), (94, .goto 13, 3, 107, 0, 0, [])]
  | 97 => [(97, .aload_n 0, 1, 0, 0, 0, []), (98, .aload_n 1, 1, 1, 0, 0, []), (99, .iload 4, 2, 4, 0, 0, []), (101, .iload_n 3, 1, 3, 0, 0, []), (102, .iconst 1, 1, 0, 0, 1, []), (103, .isub, 1, 0, 0, 0, []), (104, .invokevirtual 82, 3, 44, 4, 0, [(0, 827)]), (107, .nop, 0, 107, 0, 0, [])]
  | 107 => [(107, .istore 5, 2, 5, 0, 0, []), (109, .aload_n 0, 1, 0, 0, 0, []), (110, .getfield 20, 3, 5, 5, 0, [(0, 290)]), (113, .iload_n 3, 1, 3, 0, 0, []), (114, .aaload, 1, 0, 0, 0, []), (115, .iload 4, 2, 4, 0, 0, []), (117, .iload 5, 2, 5, 0, 0, []), (119, .iconst (-1), 1, 0, 0, (-1), []), (120, .if_icmp .ne 7, 3, 127, 0, 0, []), (123, .iconst (-1), 1, 0, 0, (-1), []), (124, .goto 12, 3, 136, 0, 0, [])]
  | 127 => [(127, .iload 5, 2, 5, 0, 0, []), (129, .aload_n 1, 1, 1, 0, 0, []), (130, .iload 4, 2, 4, 0, 0, []), (132, .invokevirtual 79, 3, 11, 2, 0, [(0, 826)]), (135, .iadd, 1, 0, 0, 0, []), (136, .nop, 0, 136, 0, 0, [])]
  | 136 => [(136, .iastore, 1, 0, 0, 0, []), (137, .iinc 4 1, 3, 4, 0, 1, []), (140, .goto (-76), 3, 64, 0, 0, [])]
  | 143 => [(143, .iinc 3 1, 3, 3, 0, 1, []), (146, .goto (-96), 3, 50, 0, 0, [])]
  | 149 => [(149, .return_, 1, 0, 0, 0, [])]
  | _ => []
def mx_k_X5_tableWorths : mx_Mt := (mx_b_X5_tableWorths, ⟨"TwoMayors$Opening", "tableWorths", "(LTwoMayors$Borough;I)V"⟩, prog_7_method_9_code, 6, none, "TwoMayors$Opening", { frames := 3, cells := 0, slots := 0, locals := 68 }, [0, 2, 40, 41, 48, 50, 64, 97, 107, 127, 136, 143, 149], [0, 824, 69, 822, 823])
def mx_b_X5_mostBehind : Nat → List mx_In := fun t => match t with
  | 0 => [(0, .aload_n 1, 1, 1, 0, 0, []), (1, .iload_n 2, 1, 2, 0, 0, []), (2, .invokevirtual 86, 3, 12, 2, 0, [(0, 831)]), (5, .istore 4, 2, 4, 0, 0, []), (7, .iconst (-1), 1, 0, 0, (-1), []), (8, .istore 5, 2, 5, 0, 0, []), (10, .iconst 0, 1, 0, 0, 0, []), (11, .istore 6, 2, 6, 0, 0, []), (13, .nop, 0, 13, 0, 0, [])]
  | 13 => [(13, .iload 6, 2, 6, 0, 0, []), (15, .aload_n 1, 1, 1, 0, 0, []), (16, .getfield 59, 3, 0, 3, 0, [(0, 117)]), (19, .if_icmp .ge 34, 3, 53, 0, 0, []), (22, .iload 4, 2, 4, 0, 0, []), (24, .iload 6, 2, 6, 0, 0, []), (26, .invokestatic 48, 3, 129, 1, 0, [(0, 786)]), (29, .iand, 1, 0, 0, 0, []), (30, .ifCond .eq 17, 3, 47, 0, 0, []), (33, .iload 5, 2, 5, 0, 0, []), (35, .aload_n 0, 1, 0, 0, 0, []), (36, .iload_n 3, 1, 3, 0, 0, []), (37, .iload 6, 2, 6, 0, 0, []), (39, .invokevirtual 89, 3, 39, 3, 0, [(0, 832)]), (42, .invokestatic 93, 3, 1001, 2, 0, [(0, 836), (0, 238), (0, 66), (0, 239)]), (45, .istore 5, 2, 5, 0, 0, []), (47, .nop, 0, 47, 0, 0, [])]
  | 47 => [(47, .iinc 6 1, 3, 6, 0, 1, []), (50, .goto (-37), 3, 13, 0, 0, [])]
  | 53 => [(53, .iload 5, 2, 5, 0, 0, []), (55, .ireturn, 1, 0, 0, 0, [])]
  | _ => []
def mx_k_X5_mostBehind : mx_Mt := (mx_b_X5_mostBehind, ⟨"TwoMayors$Opening", "mostBehind", "(LTwoMayors$Borough;II)I"⟩, prog_7_method_10_code, 7, (some .int), "TwoMayors$Opening", { frames := 2, cells := 0, slots := 0, locals := 42 }, [0, 13, 47, 53], [0, 830, 69, 829, 21])
def mx_b_X5_tableWays : Nat → List mx_In := fun t => match t with
  | 0 => [(0, .iload_n 3, 1, 3, 0, 0, []), (1, .ifCond .eq 10, 3, 11, 0, 0, []), (4, .aload_n 0, 1, 0, 0, 0, []), (5, .getfield 36, 3, 5, 2, 0, [(0, 287)]), (8, .goto 4, 3, 12, 0, 0, [])]
  | 11 => [(11, .iconst 0, 1, 0, 0, 0, []), (12, .nop, 0, 12, 0, 0, [])]
  | 12 => [(12, .istore 4, 2, 4, 0, 0, []), (14, .iconst 0, 1, 0, 0, 0, []), (15, .istore 5, 2, 5, 0, 0, []), (17, .nop, 0, 17, 0, 0, [])]
  | 17 => [(17, .iload 5, 2, 5, 0, 0, []), (19, .aload_n 1, 1, 1, 0, 0, []), (20, .getfield 59, 3, 0, 3, 0, [(0, 117)]), (23, .if_icmp .ge 40, 3, 63, 0, 0, []), (26, .iload 5, 2, 5, 0, 0, []), (28, .bipush 10, 2, 0, 0, 10, []), (30, .if_icmp .ge 33, 3, 63, 0, 0, []), (33, .aload_n 0, 1, 0, 0, 0, []), (34, .getfield 20, 3, 5, 5, 0, [(0, 290)]), (37, .iconst 0, 1, 0, 0, 0, []), (38, .aaload, 1, 0, 0, 0, []), (39, .iload 5, 2, 5, 0, 0, []), (41, .aload_n 1, 1, 1, 0, 0, []), (42, .iload 5, 2, 5, 0, 0, []), (44, .invokevirtual 76, 3, 10, 2, 0, [(0, 825)]), (47, .iconst 2, 1, 0, 0, 2, []), (48, .if_icmp .ne 7, 3, 55, 0, 0, []), (51, .iconst 1, 1, 0, 0, 1, []), (52, .goto 4, 3, 56, 0, 0, [])]
  | 55 => [(55, .iconst 0, 1, 0, 0, 0, []), (56, .nop, 0, 56, 0, 0, [])]
  | 56 => [(56, .iastore, 1, 0, 0, 0, []), (57, .iinc 5 1, 3, 5, 0, 1, []), (60, .goto (-43), 3, 17, 0, 0, [])]
  | 63 => [(63, .iconst 1, 1, 0, 0, 1, []), (64, .istore 5, 2, 5, 0, 0, []), (66, .nop, 0, 66, 0, 0, [])]
  | 66 => [(66, .iload 5, 2, 5, 0, 0, []), (68, .iload_n 2, 1, 2, 0, 0, []), (69, .if_icmp .ge 77, 3, 146, 0, 0, []), (72, .iload 5, 2, 5, 0, 0, []), (74, .bipush 10, 2, 0, 0, 10, []), (76, .if_icmp .ge 70, 3, 146, 0, 0, []), (79, .iconst 0, 1, 0, 0, 0, []), (80, .istore 6, 2, 6, 0, 0, []), (82, .nop, 0, 82, 0, 0, [])]
  | 82 => [(82, .iload 6, 2, 6, 0, 0, []), (84, .aload_n 1, 1, 1, 0, 0, []), (85, .getfield 59, 3, 0, 3, 0, [(0, 117)]), (88, .if_icmp .ge 52, 3, 140, 0, 0, []), (91, .iload 6, 2, 6, 0, 0, []), (93, .bipush 10, 2, 0, 0, 10, []), (95, .if_icmp .ge 45, 3, 140, 0, 0, []), (98, .aload_n 0, 1, 0, 0, 0, []), (99, .getfield 20, 3, 5, 5, 0, [(0, 290)]), (102, .iload 5, 2, 5, 0, 0, []), (104, .aaload, 1, 0, 0, 0, []), (105, .iload 6, 2, 6, 0, 0, []), (107, .iload 4, 2, 4, 0, 0, []), (109, .iload 6, 2, 6, 0, 0, []), (111, .invokestatic 48, 3, 129, 1, 0, [(0, 786)]), (114, .iand, 1, 0, 0, 0, []), (115, .ifCond .eq 7, 3, 122, 0, 0, []), (118, .iconst 0, 1, 0, 0, 0, []), (119, .goto 14, 3, 133, 0, 0, [])]
  | 122 => [(122, .aload_n 0, 1, 0, 0, 0, []), (123, .aload_n 1, 1, 1, 0, 0, []), (124, .iload 6, 2, 6, 0, 0, []), (126, .iload 5, 2, 5, 0, 0, []), (128, .iconst 1, 1, 0, 0, 1, []), (129, .isub, 1, 0, 0, 0, []), (130, .invokevirtual 98, 3, 46, 4, 0, [(0, 891)]), (133, .nop, 0, 133, 0, 0, [])]
  | 133 => [(133, .iastore, 1, 0, 0, 0, []), (134, .iinc 6 1, 3, 6, 0, 1, []), (137, .goto (-55), 3, 82, 0, 0, [])]
  | 140 => [(140, .iinc 5 1, 3, 5, 0, 1, []), (143, .goto (-77), 3, 66, 0, 0, [])]
  | 146 => [(146, .return_, 1, 0, 0, 0, [])]
  | _ => []
def mx_k_X5_tableWays : mx_Mt := (mx_b_X5_tableWays, ⟨"TwoMayors$Opening", "tableWays", "(LTwoMayors$Borough;IZ)V"⟩, prog_7_method_11_code, 7, none, "TwoMayors$Opening", { frames := 3, cells := 0, slots := 0, locals := 68 }, [0, 11, 12, 17, 55, 56, 63, 66, 82, 122, 133, 140, 146], [0, 890, 69, 888, 889])
def mx_b_X5_sumBehind : Nat → List mx_In := fun t => match t with
  | 0 => [(0, .aload_n 1, 1, 1, 0, 0, []), (1, .iload_n 2, 1, 2, 0, 0, []), (2, .invokevirtual 86, 3, 12, 2, 0, [(0, 831)]), (5, .istore 4, 2, 4, 0, 0, []), (7, .iconst 0, 1, 0, 0, 0, []), (8, .istore 5, 2, 5, 0, 0, []), (10, .iconst 0, 1, 0, 0, 0, []), (11, .istore 6, 2, 6, 0, 0, []), (13, .nop, 0, 13, 0, 0, [])]
  | 13 => [(13, .iload 6, 2, 6, 0, 0, []), (15, .aload_n 1, 1, 1, 0, 0, []), (16, .getfield 59, 3, 0, 3, 0, [(0, 117)]), (19, .if_icmp .ge 32, 3, 51, 0, 0, []), (22, .iload 4, 2, 4, 0, 0, []), (24, .iload 6, 2, 6, 0, 0, []), (26, .invokestatic 48, 3, 129, 1, 0, [(0, 786)]), (29, .iand, 1, 0, 0, 0, []), (30, .ifCond .eq 15, 3, 45, 0, 0, []), (33, .iload 5, 2, 5, 0, 0, []), (35, .aload_n 0, 1, 0, 0, 0, []), (36, .iload_n 3, 1, 3, 0, 0, []), (37, .iload 6, 2, 6, 0, 0, []), (39, .invokevirtual 89, 3, 39, 3, 0, [(0, 832)]), (42, .iadd, 1, 0, 0, 0, []), (43, .istore 5, 2, 5, 0, 0, []), (45, .nop, 0, 45, 0, 0, [])]
  | 45 => [(45, .iinc 6 1, 3, 6, 0, 1, []), (48, .goto (-35), 3, 13, 0, 0, [])]
  | 51 => [(51, .iload 5, 2, 5, 0, 0, []), (53, .ireturn, 1, 0, 0, 0, [])]
  | _ => []
def mx_k_X5_sumBehind : mx_Mt := (mx_b_X5_sumBehind, ⟨"TwoMayors$Opening", "sumBehind", "(LTwoMayors$Borough;II)I"⟩, prog_7_method_12_code, 7, (some .int), "TwoMayors$Opening", { frames := 2, cells := 0, slots := 0, locals := 42 }, [0, 13, 45, 51], [0, 894, 69, 893, 25])
def mx_b_X6_init : Nat → List mx_In := fun t => match t with
  | 0 => [(0, .aload_n 0, 1, 0, 0, 0, []), (1, .invokespecial 1, 3, 1000, 1, 0, [(0, 236), (0, 83), (0, 84)]), (4, .aload_n 0, 1, 0, 0, 0, []), (5, .iload_n 1, 1, 1, 0, 0, []), (6, .iconst 1, 1, 0, 0, 1, []), (7, .invokestatic 7, 3, 1001, 2, 0, [(0, 237), (0, 238), (0, 66), (0, 239)]), (10, .anewarray 13, 3, 0, 0, 0, [(0, 240), (0, 241)]), (13, .putfield 15, 3, 6, 0, 0, [(0, 243)]), (16, .iconst 0, 1, 0, 0, 0, []), (17, .istore_n 2, 1, 2, 0, 0, []), (18, .nop, 0, 18, 0, 0, [])]
  | 18 => [(18, .iload_n 2, 1, 2, 0, 0, []), (19, .aload_n 0, 1, 0, 0, 0, []), (20, .getfield 15, 3, 6, 0, 0, [(0, 243)]), (23, .arraylength, 1, 0, 0, 0, []), (24, .if_icmp .ge 22, 3, 46, 0, 0, []), (27, .aload_n 0, 1, 0, 0, 0, []), (28, .getfield 15, 3, 6, 0, 0, [(0, 243)]), (31, .iload_n 2, 1, 2, 0, 0, []), (32, .new 13, 3, 9, 0, 0, [(0, 240), (0, 161), (0, 62)]), (35, .dup, 1, 0, 0, 0, []), (36, .invokespecial 21, 3, 72, 1, 0, [(0, 242)]), (39, .aastore, 1, 0, 0, 0, []), (40, .iinc 2 1, 3, 2, 0, 1, []), (43, .goto (-25), 3, 18, 0, 0, [])]
  | 46 => [(46, .return_, 1, 0, 0, 0, [])]
  | _ => []
def mx_k_X6_init : mx_Mt := (mx_b_X6_init, ⟨"TwoMayors$Pile", "<init>", "(I)V"⟩, prog_8_method_1_code, 3, none, "TwoMayors$Pile", { frames := 3, cells := 41, slots := 216, locals := 60 }, [0, 18, 46], [2, 235, 65, 234, 0])
def mx_b_X6_clear : Nat → List mx_In := fun t => match t with
  | 0 => [(0, .aload_n 0, 1, 0, 0, 0, []), (1, .iconst 0, 1, 0, 0, 0, []), (2, .putfield 22, 3, 6, 1, 0, [(0, 244)]), (5, .return_, 1, 0, 0, 0, [])]
  | _ => []
def mx_k_X6_clear : mx_Mt := (mx_b_X6_clear, ⟨"TwoMayors$Pile", "clear", "()V"⟩, prog_8_method_2_code, 1, none, "TwoMayors$Pile", { frames := 0, cells := 0, slots := 0, locals := 0 }, [0], [0, 509, 65, 507, 508])
def mx_b_X6_put : Nat → List mx_In := fun t => match t with
  | 0 => [(0, .aload_n 0, 1, 0, 0, 0, []), (1, .getfield 22, 3, 6, 1, 0, [(0, 244)]), (4, .aload_n 0, 1, 0, 0, 0, []), (5, .getfield 15, 3, 6, 0, 0, [(0, 243)]), (8, .arraylength, 1, 0, 0, 0, []), (9, .if_icmp .lt 7, 3, 16, 0, 0, []), (12, .aload_n 0, 1, 0, 0, 0, []), (13, .invokevirtual 26, 3, 52, 1, 0, [(0, 627)]), (16, .nop, 0, 16, 0, 0, [])]
  | 16 => [(16, .aload_n 0, 1, 0, 0, 0, []), (17, .aload_n 0, 1, 0, 0, 0, []), (18, .getfield 22, 3, 6, 1, 0, [(0, 244)]), (21, .invokevirtual 29, 3, 51, 2, 0, [(0, 631)]), (24, .astore_n 2, 1, 2, 0, 0, []), (25, .aload_n 2, 1, 2, 0, 0, []), (26, .ifnull 18, 3, 44, 0, 0, []), (29, .aload_n 2, 1, 2, 0, 0, []), (30, .aload_n 1, 1, 1, 0, 0, []), (31, .invokevirtual 33, 3, 74, 2, 0, [(0, 635)]), (34, .aload_n 0, 1, 0, 0, 0, []), (35, .dup, 1, 0, 0, 0, []), (36, .getfield 22, 3, 6, 1, 0, [(0, 244)]), (39, .iconst 1, 1, 0, 0, 1, []), (40, .iadd, 1, 0, 0, 0, []), (41, .putfield 22, 3, 6, 1, 0, [(0, 244)]), (44, .nop, 0, 44, 0, 0, [])]
  | 44 => [(44, .return_, 1, 0, 0, 0, [])]
  | _ => []
def mx_k_X6_put : mx_Mt := (mx_b_X6_put, ⟨"TwoMayors$Pile", "put", "(LTwoMayors$Standing;)V"⟩, prog_8_method_3_code, 3, none, "TwoMayors$Pile", { frames := 3, cells := 0, slots := 0, locals := 64 }, [0, 16, 44], [0, 626, 65, 624, 625])
def mx_b_X6_takeInto : Nat → List mx_In := fun t => match t with
  | 0 => [(0, .aload_n 0, 1, 0, 0, 0, []), (1, .aload_n 0, 1, 0, 0, 0, []), (2, .getfield 22, 3, 6, 1, 0, [(0, 244)]), (5, .iconst 1, 1, 0, 0, 1, []), (6, .isub, 1, 0, 0, 0, []), (7, .invokevirtual 29, 3, 51, 2, 0, [(0, 631)]), (10, .astore_n 2, 1, 2, 0, 0, []), (11, .aload_n 2, 1, 2, 0, 0, []), (12, .ifnonnull 5, 3, 17, 0, 0, []), (15, .iconst 0, 1, 0, 0, 0, []), (16, .ireturn, 1, 0, 0, 0, [])]
  | 17 => [(17, .aload_n 1, 1, 1, 0, 0, []), (18, .aload_n 2, 1, 2, 0, 0, []), (19, .invokevirtual 33, 3, 74, 2, 0, [(0, 635)]), (22, .aload_n 0, 1, 0, 0, 0, []), (23, .dup, 1, 0, 0, 0, []), (24, .getfield 22, 3, 6, 1, 0, [(0, 244)]), (27, .iconst 1, 1, 0, 0, 1, []), (28, .isub, 1, 0, 0, 0, []), (29, .putfield 22, 3, 6, 1, 0, [(0, 244)]), (32, .iconst 1, 1, 0, 0, 1, []), (33, .ireturn, 1, 0, 0, 0, [])]
  | _ => []
def mx_k_X6_takeInto : mx_Mt := (mx_b_X6_takeInto, ⟨"TwoMayors$Pile", "takeInto", "(LTwoMayors$Standing;)Z"⟩, prog_8_method_4_code, 3, (some .boolean), "TwoMayors$Pile", { frames := 3, cells := 0, slots := 0, locals := 64 }, [0, 17], [0, 751, 65, 749, 750])
def mx_b_X6_placeAt : Nat → List mx_In := fun t => match t with
  | 0 => [(0, .iload_n 1, 1, 1, 0, 0, []), (1, .ifCond .lt 21, 3, 22, 0, 0, []), (4, .iload_n 1, 1, 1, 0, 0, []), (5, .aload_n 0, 1, 0, 0, 0, []), (6, .getfield 15, 3, 6, 0, 0, [(0, 243)]), (9, .arraylength, 1, 0, 0, 0, []), (10, .if_icmp .ge 12, 3, 22, 0, 0, []), (13, .aload_n 0, 1, 0, 0, 0, []), (14, .getfield 15, 3, 6, 0, 0, [(0, 243)]), (17, .iload_n 1, 1, 1, 0, 0, []), (18, .aaload, 1, 0, 0, 0, []), (19, .goto 4, 3, 23, 0, 0, [])]
  | 22 => [(22, .aconst_null, 1, 0, 0, 0, []), (23, .nop, 0, 23, 0, 0, [])]
  | 23 => [(23, .areturn, 1, 0, 0, 0, [])]
  | _ => []
def mx_k_X6_placeAt : mx_Mt := (mx_b_X6_placeAt, ⟨"TwoMayors$Pile", "placeAt", "(I)LTwoMayors$Standing;"⟩, prog_8_method_5_code, 2, (some (.object "TwoMayors$Standing")), "TwoMayors$Pile", { frames := 0, cells := 0, slots := 0, locals := 0 }, [0, 22, 23], [0, 634, 65, 633, 12])
def mx_b_X6_giveOldestToNewest : Nat → List mx_In := fun t => match t with
  | 0 => [(0, .aload_n 0, 1, 0, 0, 0, []), (1, .iconst 0, 1, 0, 0, 0, []), (2, .invokevirtual 29, 3, 51, 2, 0, [(0, 631)]), (5, .astore_n 1, 1, 1, 0, 0, []), (6, .iconst 1, 1, 0, 0, 1, []), (7, .istore_n 2, 1, 2, 0, 0, []), (8, .nop, 0, 8, 0, 0, [])]
  | 8 => [(8, .iload_n 2, 1, 2, 0, 0, []), (9, .aload_n 0, 1, 0, 0, 0, []), (10, .getfield 15, 3, 6, 0, 0, [(0, 243)]), (13, .arraylength, 1, 0, 0, 0, []), (14, .if_icmp .ge 23, 3, 37, 0, 0, []), (17, .aload_n 0, 1, 0, 0, 0, []), (18, .getfield 15, 3, 6, 0, 0, [(0, 243)]), (21, .iload_n 2, 1, 2, 0, 0, []), (22, .iconst 1, 1, 0, 0, 1, []), (23, .isub, 1, 0, 0, 0, []), (24, .aload_n 0, 1, 0, 0, 0, []), (25, .getfield 15, 3, 6, 0, 0, [(0, 243)]), (28, .iload_n 2, 1, 2, 0, 0, []), (29, .aaload, 1, 0, 0, 0, []), (30, .aastore, 1, 0, 0, 0, []), (31, .iinc 2 1, 3, 2, 0, 1, []), (34, .goto (-26), 3, 8, 0, 0, [])]
  | 37 => [(37, .aload_n 0, 1, 0, 0, 0, []), (38, .aload_n 0, 1, 0, 0, 0, []), (39, .getfield 15, 3, 6, 0, 0, [(0, 243)]), (42, .arraylength, 1, 0, 0, 0, []), (43, .iconst 1, 1, 0, 0, 1, []), (44, .isub, 1, 0, 0, 0, []), (45, .putfield 22, 3, 6, 1, 0, [(0, 244)]), (48, .aload_n 0, 1, 0, 0, 0, []), (49, .getfield 22, 3, 6, 1, 0, [(0, 244)]), (52, .ifCond .lt 17, 3, 69, 0, 0, []), (55, .aload_n 1, 1, 1, 0, 0, []), (56, .ifnull 13, 3, 69, 0, 0, []), (59, .aload_n 0, 1, 0, 0, 0, []), (60, .getfield 15, 3, 6, 0, 0, [(0, 243)]), (63, .aload_n 0, 1, 0, 0, 0, []), (64, .getfield 22, 3, 6, 1, 0, [(0, 244)]), (67, .aload_n 1, 1, 1, 0, 0, []), (68, .aastore, 1, 0, 0, 0, []), (69, .nop, 0, 69, 0, 0, [])]
  | 69 => [(69, .return_, 1, 0, 0, 0, [])]
  | _ => []
def mx_k_X6_giveOldestToNewest : mx_Mt := (mx_b_X6_giveOldestToNewest, ⟨"TwoMayors$Pile", "giveOldestToNewest", "()V"⟩, prog_8_method_6_code, 3, none, "TwoMayors$Pile", { frames := 1, cells := 0, slots := 0, locals := 21 }, [0, 8, 37, 69], [0, 630, 65, 629, 11])
def mx_b_X7_init : Nat → List mx_In := fun t => match t with
  | 0 => [(0, .aload_n 0, 1, 0, 0, 0, []), (1, .invokespecial 3, 3, 1000, 1, 0, [(0, 171), (0, 83), (0, 84)]), (4, .aload_n 0, 1, 0, 0, 0, []), (5, .bipush 12, 2, 0, 0, 12, []), (7, .newarray .int, 2, 0, 0, 0, [(0, 105)]), (9, .putfield 9, 3, 7, 0, 0, [(0, 172)]), (12, .return_, 1, 0, 0, 0, [])]
  | _ => []
def mx_k_X7_init : mx_Mt := (mx_b_X7_init, ⟨"TwoMayors$Row", "<init>", "()V"⟩, prog_9_method_1_code, 1, none, "TwoMayors$Row", { frames := 1, cells := 1, slots := 12, locals := 20 }, [0], [2, 170, 63, 169, 0])
def mx_b_X7_clear : Nat → List mx_In := fun t => match t with
  | 0 => [(0, .aload_n 0, 1, 0, 0, 0, []), (1, .iconst 0, 1, 0, 0, 0, []), (2, .putfield 15, 3, 7, 1, 0, [(0, 173)]), (5, .return_, 1, 0, 0, 0, [])]
  | _ => []
def mx_k_X7_clear : mx_Mt := (mx_b_X7_clear, ⟨"TwoMayors$Row", "clear", "()V"⟩, prog_9_method_2_code, 1, none, "TwoMayors$Row", { frames := 0, cells := 0, slots := 0, locals := 0 }, [0], [0, 501, 63, 499, 500])
def mx_b_X7_add : Nat → List mx_In := fun t => match t with
  | 0 => [(0, .aload_n 0, 1, 0, 0, 0, []), (1, .getfield 15, 3, 7, 1, 0, [(0, 173)]), (4, .ifCond .lt 35, 3, 39, 0, 0, []), (7, .aload_n 0, 1, 0, 0, 0, []), (8, .getfield 15, 3, 7, 1, 0, [(0, 173)]), (11, .aload_n 0, 1, 0, 0, 0, []), (12, .getfield 9, 3, 7, 0, 0, [(0, 172)]), (15, .arraylength, 1, 0, 0, 0, []), (16, .if_icmp .ge 23, 3, 39, 0, 0, []), (19, .aload_n 0, 1, 0, 0, 0, []), (20, .getfield 9, 3, 7, 0, 0, [(0, 172)]), (23, .aload_n 0, 1, 0, 0, 0, []), (24, .getfield 15, 3, 7, 1, 0, [(0, 173)]), (27, .iload_n 1, 1, 1, 0, 0, []), (28, .iastore, 1, 0, 0, 0, []), (29, .aload_n 0, 1, 0, 0, 0, []), (30, .dup, 1, 0, 0, 0, []), (31, .getfield 15, 3, 7, 1, 0, [(0, 173)]), (34, .iconst 1, 1, 0, 0, 1, []), (35, .iadd, 1, 0, 0, 0, []), (36, .putfield 15, 3, 7, 1, 0, [(0, 173)]), (39, .nop, 0, 39, 0, 0, [])]
  | 39 => [(39, .return_, 1, 0, 0, 0, [])]
  | _ => []
def mx_k_X7_add : mx_Mt := (mx_b_X7_add, ⟨"TwoMayors$Row", "add", "(I)V"⟩, prog_9_method_3_code, 2, none, "TwoMayors$Row", { frames := 0, cells := 0, slots := 0, locals := 0 }, [0, 39], [0, 648, 63, 646, 647])
def mx_b_X7_at : Nat → List mx_In := fun t => match t with
  | 0 => [(0, .iload_n 1, 1, 1, 0, 0, []), (1, .ifCond .lt 29, 3, 30, 0, 0, []), (4, .iload_n 1, 1, 1, 0, 0, []), (5, .aload_n 0, 1, 0, 0, 0, []), (6, .getfield 15, 3, 7, 1, 0, [(0, 173)]), (9, .if_icmp .ge 21, 3, 30, 0, 0, []), (12, .iload_n 1, 1, 1, 0, 0, []), (13, .aload_n 0, 1, 0, 0, 0, []), (14, .getfield 9, 3, 7, 0, 0, [(0, 172)]), (17, .arraylength, 1, 0, 0, 0, []), (18, .if_icmp .ge 12, 3, 30, 0, 0, []), (21, .aload_n 0, 1, 0, 0, 0, []), (22, .getfield 9, 3, 7, 0, 0, [(0, 172)]), (25, .iload_n 1, 1, 1, 0, 0, []), (26, .iaload, 1, 0, 0, 0, []), (27, .goto 5, 3, 32, 0, 0, [])]
  | 30 => [(30, .bipush (-4), 2, 0, 0, (-4), []), (32, .nop, 0, 32, 0, 0, [])]
  | 32 => [(32, .ireturn, 1, 0, 0, 0, [])]
  | _ => []
def mx_k_X7_at : mx_Mt := (mx_b_X7_at, ⟨"TwoMayors$Row", "at", "(I)I"⟩, prog_9_method_4_code, 2, (some .int), "TwoMayors$Row", { frames := 0, cells := 0, slots := 0, locals := 0 }, [0, 30, 32], [0, 608, 63, 606, 607])
def mx_b_X7_holds : Nat → List mx_In := fun t => match t with
  | 0 => [(0, .iconst 0, 1, 0, 0, 0, []), (1, .istore_n 2, 1, 2, 0, 0, []), (2, .nop, 0, 2, 0, 0, [])]
  | 2 => [(2, .iload_n 2, 1, 2, 0, 0, []), (3, .aload_n 0, 1, 0, 0, 0, []), (4, .getfield 15, 3, 7, 1, 0, [(0, 173)]), (7, .if_icmp .ge 30, 3, 37, 0, 0, []), (10, .iload_n 2, 1, 2, 0, 0, []), (11, .aload_n 0, 1, 0, 0, 0, []), (12, .getfield 9, 3, 7, 0, 0, [(0, 172)]), (15, .arraylength, 1, 0, 0, 0, []), (16, .if_icmp .ge 21, 3, 37, 0, 0, []), (19, .aload_n 0, 1, 0, 0, 0, []), (20, .getfield 9, 3, 7, 0, 0, [(0, 172)]), (23, .iload_n 2, 1, 2, 0, 0, []), (24, .iaload, 1, 0, 0, 0, []), (25, .iload_n 1, 1, 1, 0, 0, []), (26, .if_icmp .ne 5, 3, 31, 0, 0, []), (29, .iconst 1, 1, 0, 0, 1, []), (30, .ireturn, 1, 0, 0, 0, [])]
  | 31 => [(31, .iinc 2 1, 3, 2, 0, 1, []), (34, .goto (-32), 3, 2, 0, 0, [])]
  | 37 => [(37, .iconst 0, 1, 0, 0, 0, []), (38, .ireturn, 1, 0, 0, 0, [])]
  | _ => []
def mx_k_X7_holds : mx_Mt := (mx_b_X7_holds, ⟨"TwoMayors$Row", "holds", "(I)Z"⟩, prog_9_method_5_code, 3, (some .boolean), "TwoMayors$Row", { frames := 0, cells := 0, slots := 0, locals := 0 }, [0, 2, 31, 37], [0, 869, 63, 867, 868])
def mx_b_X7_worthIn : Nat → List mx_In := fun t => match t with
  | 0 => [(0, .iconst 0, 1, 0, 0, 0, []), (1, .istore_n 2, 1, 2, 0, 0, []), (2, .iconst 0, 1, 0, 0, 0, []), (3, .istore_n 3, 1, 3, 0, 0, []), (4, .nop, 0, 4, 0, 0, [])]
  | 4 => [(4, .iload_n 3, 1, 3, 0, 0, []), (5, .aload_n 0, 1, 0, 0, 0, []), (6, .getfield 15, 3, 7, 1, 0, [(0, 173)]), (9, .if_icmp .ge 31, 3, 40, 0, 0, []), (12, .iload_n 3, 1, 3, 0, 0, []), (13, .aload_n 0, 1, 0, 0, 0, []), (14, .getfield 9, 3, 7, 0, 0, [(0, 172)]), (17, .arraylength, 1, 0, 0, 0, []), (18, .if_icmp .ge 22, 3, 40, 0, 0, []), (21, .iload_n 2, 1, 2, 0, 0, []), (22, .aload_n 1, 1, 1, 0, 0, []), (23, .aload_n 0, 1, 0, 0, 0, []), (24, .getfield 9, 3, 7, 0, 0, [(0, 172)]), (27, .iload_n 3, 1, 3, 0, 0, []), (28, .iaload, 1, 0, 0, 0, []), (29, .invokevirtual 19, 3, 11, 2, 0, [(0, 676)]), (32, .iadd, 1, 0, 0, 0, []), (33, .istore_n 2, 1, 2, 0, 0, []), (34, .iinc 3 1, 3, 3, 0, 1, []), (37, .goto (-33), 3, 4, 0, 0, [])]
  | 40 => [(40, .iload_n 2, 1, 2, 0, 0, []), (41, .ireturn, 1, 0, 0, 0, [])]
  | _ => []
def mx_k_X7_worthIn : mx_Mt := (mx_b_X7_worthIn, ⟨"TwoMayors$Row", "worthIn", "(LTwoMayors$Borough;)I"⟩, prog_9_method_6_code, 4, (some .int), "TwoMayors$Row", { frames := 2, cells := 0, slots := 0, locals := 42 }, [0, 4, 40], [0, 675, 63, 673, 674])
def mx_b_X7_copyFrom : Nat → List mx_In := fun t => match t with
  | 0 => [(0, .aload_n 0, 1, 0, 0, 0, []), (1, .invokevirtual 25, 3, 54, 1, 0, [(0, 643)]), (4, .iconst 0, 1, 0, 0, 0, []), (5, .istore_n 2, 1, 2, 0, 0, []), (6, .nop, 0, 6, 0, 0, [])]
  | 6 => [(6, .iload_n 2, 1, 2, 0, 0, []), (7, .aload_n 1, 1, 1, 0, 0, []), (8, .getfield 15, 3, 7, 1, 0, [(0, 173)]), (11, .if_icmp .ge 18, 3, 29, 0, 0, []), (14, .aload_n 0, 1, 0, 0, 0, []), (15, .aload_n 1, 1, 1, 0, 0, []), (16, .iload_n 2, 1, 2, 0, 0, []), (17, .invokevirtual 28, 3, 56, 2, 0, [(0, 644)]), (20, .invokevirtual 31, 3, 55, 2, 0, [(0, 645)]), (23, .iinc 2 1, 3, 2, 0, 1, []), (26, .goto (-20), 3, 6, 0, 0, [])]
  | 29 => [(29, .return_, 1, 0, 0, 0, [])]
  | _ => []
def mx_k_X7_copyFrom : mx_Mt := (mx_b_X7_copyFrom, ⟨"TwoMayors$Row", "copyFrom", "(LTwoMayors$Row;)V"⟩, prog_9_method_7_code, 3, none, "TwoMayors$Row", { frames := 1, cells := 0, slots := 0, locals := 21 }, [0, 6, 29], [0, 642, 63, 640, 641])
def mx_b_X8_init : Nat → List mx_In := fun t => match t with
  | 0 => [(0, .aload_n 0, 1, 0, 0, 0, []), (1, .invokespecial 3, 3, 1000, 1, 0, [(0, 274), (0, 83), (0, 84)]), (4, .aload_n 0, 1, 0, 0, 0, []), (5, .new 9, 3, 7, 0, 0, [(0, 275), (0, 167), (0, 63)]), (8, .dup, 1, 0, 0, 0, []), (9, .invokespecial 11, 3, 53, 1, 0, [(0, 276)]), (12, .putfield 12, 3, 8, 0, 0, [(0, 304)]), (15, .aload_n 0, 1, 0, 0, 0, []), (16, .new 18, 3, 5, 0, 0, [(0, 277), (0, 278), (0, 69)]), (19, .dup, 1, 0, 0, 0, []), (20, .invokespecial 20, 3, 35, 1, 0, [(0, 279)]), (23, .putfield 21, 3, 8, 1, 0, [(0, 306)]), (26, .aload_n 0, 1, 0, 0, 0, []), (27, .new 18, 3, 5, 0, 0, [(0, 277), (0, 278), (0, 69)]), (30, .dup, 1, 0, 0, 0, []), (31, .invokespecial 20, 3, 35, 1, 0, [(0, 279)]), (34, .putfield 25, 3, 8, 2, 0, [(0, 307)]), (37, .aload_n 0, 1, 0, 0, 0, []), (38, .aload_n 1, 1, 1, 0, 0, []), (39, .putfield 28, 3, 8, 3, 0, [(0, 308)]), (42, .return_, 1, 0, 0, 0, [])]
  | _ => []
def mx_k_X8_init : mx_Mt := (mx_b_X8_init, ⟨"TwoMayors$Sentences", "<init>", "(LTwoMayors$Finisher;)V"⟩, prog_10_method_1_code, 2, none, "TwoMayors$Sentences", { frames := 2, cells := 30, slots := 286, locals := 40 }, [0], [2, 273, 68, 272, 0])
def mx_b_X8_prepare : Nat → List mx_In := fun t => match t with
  | 0 => [(0, .aload_n 0, 1, 0, 0, 0, []), (1, .getfield 12, 3, 8, 0, 0, [(0, 304)]), (4, .invokevirtual 32, 3, 54, 1, 0, [(0, 771)]), (7, .aload_n 0, 1, 0, 0, 0, []), (8, .getfield 21, 3, 8, 1, 0, [(0, 306)]), (11, .aload_n 1, 1, 1, 0, 0, []), (12, .aload_n 0, 1, 0, 0, 0, []), (13, .getfield 28, 3, 8, 3, 0, [(0, 308)]), (16, .aload_n 1, 1, 1, 0, 0, []), (17, .getfield 35, 3, 0, 6, 0, [(0, 127)]), (20, .aload_n 1, 1, 1, 0, 0, []), (21, .invokevirtual 41, 3, 13, 1, 0, [(0, 772)]), (24, .invokevirtual 45, 3, 36, 5, 0, [(0, 773)]), (27, .aload_n 0, 1, 0, 0, 0, []), (28, .getfield 25, 3, 8, 2, 0, [(0, 307)]), (31, .aload_n 1, 1, 1, 0, 0, []), (32, .aload_n 0, 1, 0, 0, 0, []), (33, .getfield 28, 3, 8, 3, 0, [(0, 308)]), (36, .aload_n 1, 1, 1, 0, 0, []), (37, .invokevirtual 41, 3, 13, 1, 0, [(0, 772)]), (40, .aload_n 1, 1, 1, 0, 0, []), (41, .getfield 35, 3, 0, 6, 0, [(0, 127)]), (44, .iconst (-1), 1, 0, 0, (-1), []), (45, .ixor, 1, 0, 0, 0, []), (46, .iand, 1, 0, 0, 0, []), (47, .aload_n 2, 1, 2, 0, 0, []), (48, .invokevirtual 49, 3, 76, 1, 0, [(0, 781)]), (51, .getfield 55, 3, 4, 2, 0, [(0, 195)]), (54, .invokevirtual 45, 3, 36, 5, 0, [(0, 773)]), (57, .return_, 1, 0, 0, 0, [])]
  | _ => []
def mx_k_X8_prepare : mx_Mt := (mx_b_X8_prepare, ⟨"TwoMayors$Sentences", "prepare", "(LTwoMayors$Borough;LTwoMayors$Standing;)V"⟩, prog_10_method_2_code, 3, none, "TwoMayors$Sentences", { frames := 3, cells := 0, slots := 0, locals := 73 }, [0], [0, 770, 68, 769, 17])
def mx_b_X8_openingBy : Nat → List mx_In := fun t => match t with
  | 0 => [(0, .aload_n 1, 1, 1, 0, 0, []), (1, .iload_n 2, 1, 2, 0, 0, []), (2, .invokevirtual 60, 3, 10, 2, 0, [(0, 809)]), (5, .iconst 3, 1, 0, 0, 3, []), (6, .if_icmp .ne 10, 3, 16, 0, 0, []), (9, .aload_n 0, 1, 0, 0, 0, []), (10, .getfield 21, 3, 8, 1, 0, [(0, 306)]), (13, .goto 7, 3, 20, 0, 0, [])]
  | 16 => [(16, .aload_n 0, 1, 0, 0, 0, []), (17, .getfield 25, 3, 8, 2, 0, [(0, 307)]), (20, .nop, 0, 20, 0, 0, [])]
  | 20 => [(20, .areturn, 1, 0, 0, 0, [])]
  | _ => []
def mx_k_X8_openingBy : mx_Mt := (mx_b_X8_openingBy, ⟨"TwoMayors$Sentences", "openingBy", "(LTwoMayors$Borough;I)LTwoMayors$Opening;"⟩, prog_10_method_3_code, 3, (some (.object "TwoMayors$Opening")), "TwoMayors$Sentences", { frames := 2, cells := 0, slots := 0, locals := 42 }, [0, 16, 20], [0, 808, 68, 807, 20])
def mx_b_X8_findSafe : Nat → List mx_In := fun t => match t with
  | 0 => [(0, .aload_n 0, 1, 0, 0, 0, []), (1, .aload_n 1, 1, 1, 0, 0, []), (2, .aload_n 2, 1, 2, 0, 0, []), (3, .invokevirtual 64, 3, 61, 3, 0, [(0, 767)]), (6, .aload_n 0, 1, 0, 0, 0, []), (7, .getfield 21, 3, 8, 1, 0, [(0, 306)]), (10, .aload_n 1, 1, 1, 0, 0, []), (11, .iload_n 3, 1, 3, 0, 0, []), (12, .invokevirtual 67, 3, 40, 3, 0, [(0, 782)]), (15, .aload_n 0, 1, 0, 0, 0, []), (16, .getfield 25, 3, 8, 2, 0, [(0, 307)]), (19, .aload_n 1, 1, 1, 0, 0, []), (20, .iload_n 3, 1, 3, 0, 0, []), (21, .invokevirtual 67, 3, 40, 3, 0, [(0, 782)]), (24, .aload_n 0, 1, 0, 0, 0, []), (25, .aload_n 1, 1, 1, 0, 0, []), (26, .iload_n 3, 1, 3, 0, 0, []), (27, .invokevirtual 71, 3, 65, 3, 0, [(0, 788)]), (30, .return_, 1, 0, 0, 0, [])]
  | _ => []
def mx_k_X8_findSafe : mx_Mt := (mx_b_X8_findSafe, ⟨"TwoMayors$Sentences", "findSafe", "(LTwoMayors$Borough;LTwoMayors$Standing;I)V"⟩, prog_10_method_4_code, 4, none, "TwoMayors$Sentences", { frames := 5, cells := 0, slots := 0, locals := 116 }, [0], [0, 766, 68, 764, 765])
def mx_b_X8_findLure : Nat → List mx_In := fun t => match t with
  | 0 => [(0, .aload_n 0, 1, 0, 0, 0, []), (1, .aload_n 1, 1, 1, 0, 0, []), (2, .aload_n 2, 1, 2, 0, 0, []), (3, .invokevirtual 64, 3, 61, 3, 0, [(0, 767)]), (6, .aload_n 0, 1, 0, 0, 0, []), (7, .getfield 21, 3, 8, 1, 0, [(0, 306)]), (10, .aload_n 1, 1, 1, 0, 0, []), (11, .aload_n 0, 1, 0, 0, 0, []), (12, .getfield 28, 3, 8, 3, 0, [(0, 308)]), (15, .iload_n 3, 1, 3, 0, 0, []), (16, .invokevirtual 74, 3, 41, 4, 0, [(0, 857)]), (19, .aload_n 0, 1, 0, 0, 0, []), (20, .getfield 25, 3, 8, 2, 0, [(0, 307)]), (23, .aload_n 1, 1, 1, 0, 0, []), (24, .aload_n 0, 1, 0, 0, 0, []), (25, .getfield 28, 3, 8, 3, 0, [(0, 308)]), (28, .iload_n 3, 1, 3, 0, 0, []), (29, .invokevirtual 74, 3, 41, 4, 0, [(0, 857)]), (32, .aload_n 0, 1, 0, 0, 0, []), (33, .aload_n 1, 1, 1, 0, 0, []), (34, .bipush (-4), 2, 0, 0, (-4), []), (36, .invokevirtual 71, 3, 65, 3, 0, [(0, 788)]), (39, .return_, 1, 0, 0, 0, [])]
  | _ => []
def mx_k_X8_findLure : mx_Mt := (mx_b_X8_findLure, ⟨"TwoMayors$Sentences", "findLure", "(LTwoMayors$Borough;LTwoMayors$Standing;I)V"⟩, prog_10_method_5_code, 4, none, "TwoMayors$Sentences", { frames := 5, cells := 0, slots := 0, locals := 121 }, [0], [0, 856, 68, 854, 855])
def mx_b_X8_followShortest : Nat → List mx_In := fun t => match t with
  | 0 => [(0, .iconst 0, 1, 0, 0, 0, []), (1, .istore_n 3, 1, 3, 0, 0, []), (2, .nop, 0, 2, 0, 0, [])]
  | 2 => [(2, .iload_n 3, 1, 3, 0, 0, []), (3, .bipush 10, 2, 0, 0, 10, []), (5, .if_icmp .ge 49, 3, 54, 0, 0, []), (8, .aload_n 1, 1, 1, 0, 0, []), (9, .aload_n 0, 1, 0, 0, 0, []), (10, .getfield 21, 3, 8, 1, 0, [(0, 306)]), (13, .iload_n 3, 1, 3, 0, 0, []), (14, .invokevirtual 78, 3, 37, 2, 0, [(0, 792)]), (17, .aload_n 0, 1, 0, 0, 0, []), (18, .getfield 25, 3, 8, 2, 0, [(0, 307)]), (21, .iload_n 3, 1, 3, 0, 0, []), (22, .invokevirtual 78, 3, 37, 2, 0, [(0, 792)]), (25, .ior, 1, 0, 0, 0, []), (26, .invokevirtual 81, 3, 15, 2, 0, [(0, 800)]), (29, .istore 4, 2, 4, 0, 0, []), (31, .iload 4, 2, 4, 0, 0, []), (33, .bipush (-4), 2, 0, 0, (-4), []), (35, .if_icmp .eq 13, 3, 48, 0, 0, []), (38, .aload_n 0, 1, 0, 0, 0, []), (39, .aload_n 1, 1, 1, 0, 0, []), (40, .iload 4, 2, 4, 0, 0, []), (42, .iload_n 3, 1, 3, 0, 0, []), (43, .iload_n 2, 1, 2, 0, 0, []), (44, .invokevirtual 84, 3, 66, 5, 0, [(0, 801)]), (47, .return_, 1, 0, 0, 0, [])]
  | 48 => [(48, .iinc 3 1, 3, 3, 0, 1, []), (51, .goto (-49), 3, 2, 0, 0, [])]
  | 54 => [(54, .return_, 1, 0, 0, 0, [])]
  | _ => []
def mx_k_X8_followShortest : mx_Mt := (mx_b_X8_followShortest, ⟨"TwoMayors$Sentences", "followShortest", "(LTwoMayors$Borough;I)V"⟩, prog_10_method_6_code, 5, none, "TwoMayors$Sentences", { frames := 4, cells := 0, slots := 0, locals := 92 }, [0, 2, 48, 54], [0, 791, 68, 790, 18])
def mx_b_X8_follow : Nat → List mx_In := fun t => match t with
  | 0 => [(0, .aload_n 0, 1, 0, 0, 0, []), (1, .aload_n 1, 1, 1, 0, 0, []), (2, .iload_n 2, 1, 2, 0, 0, []), (3, .invokevirtual 88, 3, 62, 3, 0, [(0, 805)]), (6, .astore 5, 2, 5, 0, 0, []), (8, .iload_n 2, 1, 2, 0, 0, []), (9, .istore 6, 2, 6, 0, 0, []), (11, .aload_n 0, 1, 0, 0, 0, []), (12, .getfield 12, 3, 8, 0, 0, [(0, 304)]), (15, .iload 6, 2, 6, 0, 0, []), (17, .invokevirtual 92, 3, 55, 2, 0, [(0, 810)]), (20, .iload 6, 2, 6, 0, 0, []), (22, .iload 4, 2, 4, 0, 0, []), (24, .if_icmp .ne 7, 3, 31, 0, 0, []), (27, .iconst 1, 1, 0, 0, 1, []), (28, .goto 4, 3, 32, 0, 0, [])]
  | 31 => [(31, .iconst 0, 1, 0, 0, 0, []), (32, .nop, 0, 32, 0, 0, [])]
  | 32 => [(32, .istore 7, 2, 7, 0, 0, []), (34, .iload_n 3, 1, 3, 0, 0, []), (35, .iconst 1, 1, 0, 0, 1, []), (36, .isub, 1, 0, 0, 0, []), (37, .istore 8, 2, 8, 0, 0, []), (39, .nop, 0, 39, 0, 0, [])]
  | 39 => [(39, .iload 8, 2, 8, 0, 0, []), (41, .ifCond .lt 59, 3, 100, 0, 0, []), (44, .aload_n 1, 1, 1, 0, 0, []), (45, .aload_n 1, 1, 1, 0, 0, []), (46, .iload 6, 2, 6, 0, 0, []), (48, .invokevirtual 96, 3, 12, 2, 0, [(0, 811)]), (51, .aload 5, 2, 5, 0, 0, []), (53, .iload 8, 2, 8, 0, 0, []), (55, .iload 7, 2, 7, 0, 0, []), (57, .invokevirtual 99, 3, 38, 3, 0, [(0, 812)]), (60, .iand, 1, 0, 0, 0, []), (61, .invokevirtual 81, 3, 15, 2, 0, [(0, 800)]), (64, .istore 6, 2, 6, 0, 0, []), (66, .aload_n 0, 1, 0, 0, 0, []), (67, .getfield 12, 3, 8, 0, 0, [(0, 304)]), (70, .iload 6, 2, 6, 0, 0, []), (72, .invokevirtual 92, 3, 55, 2, 0, [(0, 810)]), (75, .iload 7, 2, 7, 0, 0, []), (77, .ifCond .ne 10, 3, 87, 0, 0, []), (80, .iload 6, 2, 6, 0, 0, []), (82, .iload 4, 2, 4, 0, 0, []), (84, .if_icmp .ne 7, 3, 91, 0, 0, []), (87, .nop, 0, 87, 0, 0, [])]
  | 87 => [(87, .iconst 1, 1, 0, 0, 1, []), (88, .goto 4, 3, 92, 0, 0, [])]
  | 91 => [(91, .iconst 0, 1, 0, 0, 0, []), (92, .nop, 0, 92, 0, 0, [])]
  | 92 => [(92, .istore 7, 2, 7, 0, 0, []), (94, .iinc 8 (-1), 3, 8, 0, (-1), []), (97, .goto (-58), 3, 39, 0, 0, [])]
  | 100 => [(100, .return_, 1, 0, 0, 0, [])]
  | _ => []
def mx_k_X8_follow : mx_Mt := (mx_b_X8_follow, ⟨"TwoMayors$Sentences", "follow", "(LTwoMayors$Borough;III)V"⟩, prog_10_method_7_code, 9, none, "TwoMayors$Sentences", { frames := 3, cells := 0, slots := 0, locals := 64 }, [0, 31, 32, 39, 87, 91, 92, 100], [0, 804, 68, 803, 19])
def mx_b_X8_findBest : Nat → List mx_In := fun t => match t with
  | 0 => [(0, .aload_n 0, 1, 0, 0, 0, []), (1, .aload_n 1, 1, 1, 0, 0, []), (2, .aload_n 2, 1, 2, 0, 0, []), (3, .invokevirtual 64, 3, 61, 3, 0, [(0, 767)]), (6, .aload_n 0, 1, 0, 0, 0, []), (7, .getfield 21, 3, 8, 1, 0, [(0, 306)]), (10, .aload_n 1, 1, 1, 0, 0, []), (11, .iload_n 3, 1, 3, 0, 0, []), (12, .invokevirtual 103, 3, 43, 3, 0, [(0, 821)]), (15, .aload_n 0, 1, 0, 0, 0, []), (16, .getfield 25, 3, 8, 2, 0, [(0, 307)]), (19, .aload_n 1, 1, 1, 0, 0, []), (20, .iload_n 3, 1, 3, 0, 0, []), (21, .invokevirtual 103, 3, 43, 3, 0, [(0, 821)]), (24, .iconst (-1), 1, 0, 0, (-1), []), (25, .istore 4, 2, 4, 0, 0, []), (27, .bipush (-4), 2, 0, 0, (-4), []), (29, .istore 5, 2, 5, 0, 0, []), (31, .iconst 0, 1, 0, 0, 0, []), (32, .istore 6, 2, 6, 0, 0, []), (34, .iconst 0, 1, 0, 0, 0, []), (35, .istore 7, 2, 7, 0, 0, []), (37, .nop, 0, 37, 0, 0, [])]
  | 37 => [(37, .iload 7, 2, 7, 0, 0, []), (39, .iload_n 3, 1, 3, 0, 0, []), (40, .if_icmp .ge 62, 3, 102, 0, 0, []), (43, .iconst 0, 1, 0, 0, 0, []), (44, .istore 8, 2, 8, 0, 0, []), (46, .nop, 0, 46, 0, 0, [])]
  | 46 => [(46, .iload 8, 2, 8, 0, 0, []), (48, .aload_n 1, 1, 1, 0, 0, []), (49, .getfield 106, 3, 0, 3, 0, [(0, 118)]), (52, .if_icmp .ge 44, 3, 96, 0, 0, []), (55, .aload_n 0, 1, 0, 0, 0, []), (56, .aload_n 1, 1, 1, 0, 0, []), (57, .iload 8, 2, 8, 0, 0, []), (59, .invokevirtual 88, 3, 62, 3, 0, [(0, 805)]), (62, .iload 7, 2, 7, 0, 0, []), (64, .iload 8, 2, 8, 0, 0, []), (66, .invokevirtual 109, 3, 39, 3, 0, [(0, 837)]), (69, .istore 9, 2, 9, 0, 0, []), (71, .iload 9, 2, 9, 0, 0, []), (73, .iload 4, 2, 4, 0, 0, []), (75, .if_icmp .le 15, 3, 90, 0, 0, []), (78, .iload 9, 2, 9, 0, 0, []), (80, .istore 4, 2, 4, 0, 0, []), (82, .iload 8, 2, 8, 0, 0, []), (84, .istore 5, 2, 5, 0, 0, []), (86, .iload 7, 2, 7, 0, 0, []), (88, .istore 6, 2, 6, 0, 0, []), (90, .nop, 0, 90, 0, 0, [])]
  | 90 => [(90, .iinc 8 1, 3, 8, 0, 1, []), (93, .goto (-47), 3, 46, 0, 0, [])]
  | 96 => [(96, .iinc 7 1, 3, 7, 0, 1, []), (99, .goto (-62), 3, 37, 0, 0, [])]
  | 102 => [(102, .aload_n 0, 1, 0, 0, 0, []), (103, .aload_n 1, 1, 1, 0, 0, []), (104, .iload 5, 2, 5, 0, 0, []), (106, .iload 6, 2, 6, 0, 0, []), (108, .invokevirtual 113, 3, 68, 4, 0, [(0, 838)]), (111, .iload 4, 2, 4, 0, 0, []), (113, .ireturn, 1, 0, 0, 0, [])]
  | _ => []
def mx_k_X8_findBest : mx_Mt := (mx_b_X8_findBest, ⟨"TwoMayors$Sentences", "findBest", "(LTwoMayors$Borough;LTwoMayors$Standing;I)I"⟩, prog_10_method_8_code, 10, (some .int), "TwoMayors$Sentences", { frames := 4, cells := 0, slots := 0, locals := 95 }, [0, 37, 46, 90, 96, 102], [0, 820, 68, 818, 819])
def mx_b_X8_followWorth : Nat → List mx_In := fun t => match t with
  | 0 => [(0, .aload_n 1, 1, 1, 0, 0, []), (1, .iload_n 2, 1, 2, 0, 0, []), (2, .invokevirtual 117, 3, 9, 2, 0, [(0, 842)]), (5, .ifCond .ne 4, 3, 9, 0, 0, []), (8, .return_, 1, 0, 0, 0, [])]
  | 9 => [(9, .aload_n 0, 1, 0, 0, 0, []), (10, .aload_n 1, 1, 1, 0, 0, []), (11, .iload_n 2, 1, 2, 0, 0, []), (12, .invokevirtual 88, 3, 62, 3, 0, [(0, 805)]), (15, .astore 4, 2, 4, 0, 0, []), (17, .iload_n 2, 1, 2, 0, 0, []), (18, .istore 5, 2, 5, 0, 0, []), (20, .aload_n 0, 1, 0, 0, 0, []), (21, .getfield 12, 3, 8, 0, 0, [(0, 304)]), (24, .iload 5, 2, 5, 0, 0, []), (26, .invokevirtual 92, 3, 55, 2, 0, [(0, 810)]), (29, .iload_n 3, 1, 3, 0, 0, []), (30, .iconst 1, 1, 0, 0, 1, []), (31, .isub, 1, 0, 0, 0, []), (32, .istore 6, 2, 6, 0, 0, []), (34, .nop, 0, 34, 0, 0, [])]
  | 34 => [(34, .iload 6, 2, 6, 0, 0, []), (36, .ifCond .lt 53, 3, 89, 0, 0, []), (39, .aload 4, 2, 4, 0, 0, []), (41, .iload 6, 2, 6, 0, 0, []), (43, .iconst 1, 1, 0, 0, 1, []), (44, .iadd, 1, 0, 0, 0, []), (45, .iload 5, 2, 5, 0, 0, []), (47, .invokevirtual 109, 3, 39, 3, 0, [(0, 837)]), (50, .aload_n 1, 1, 1, 0, 0, []), (51, .iload 5, 2, 5, 0, 0, []), (53, .invokevirtual 121, 3, 11, 2, 0, [(0, 843)]), (56, .isub, 1, 0, 0, 0, []), (57, .istore 7, 2, 7, 0, 0, []), (59, .aload_n 0, 1, 0, 0, 0, []), (60, .aload_n 1, 1, 1, 0, 0, []), (61, .aload 4, 2, 4, 0, 0, []), (63, .iload 5, 2, 5, 0, 0, []), (65, .iload 6, 2, 6, 0, 0, []), (67, .iload 7, 2, 7, 0, 0, []), (69, .invokevirtual 124, 3, 69, 6, 0, [(0, 844)]), (72, .istore 5, 2, 5, 0, 0, []), (74, .aload_n 0, 1, 0, 0, 0, []), (75, .getfield 12, 3, 8, 0, 0, [(0, 304)]), (78, .iload 5, 2, 5, 0, 0, []), (80, .invokevirtual 92, 3, 55, 2, 0, [(0, 810)]), (83, .iinc 6 (-1), 3, 6, 0, (-1), []), (86, .goto (-52), 3, 34, 0, 0, [])]
  | 89 => [(89, .return_, 1, 0, 0, 0, [])]
  | _ => []
def mx_k_X8_followWorth : mx_Mt := (mx_b_X8_followWorth, ⟨"TwoMayors$Sentences", "followWorth", "(LTwoMayors$Borough;II)V"⟩, prog_10_method_9_code, 8, none, "TwoMayors$Sentences", { frames := 3, cells := 0, slots := 0, locals := 68 }, [0, 9, 34, 89], [0, 841, 68, 840, 22])
def mx_b_X8_firstBehindWith : Nat → List mx_In := fun t => match t with
  | 0 => [(0, .iconst 0, 1, 0, 0, 0, []), (1, .istore 6, 2, 6, 0, 0, []), (3, .nop, 0, 3, 0, 0, [])]
  | 3 => [(3, .iload 6, 2, 6, 0, 0, []), (5, .aload_n 1, 1, 1, 0, 0, []), (6, .getfield 106, 3, 0, 3, 0, [(0, 118)]), (9, .if_icmp .ge 39, 3, 48, 0, 0, []), (12, .aload_n 1, 1, 1, 0, 0, []), (13, .iload_n 3, 1, 3, 0, 0, []), (14, .invokevirtual 96, 3, 12, 2, 0, [(0, 811)]), (17, .iload 6, 2, 6, 0, 0, []), (19, .invokestatic 128, 3, 129, 1, 0, [(0, 848)]), (22, .iand, 1, 0, 0, 0, []), (23, .ifCond .eq 19, 3, 42, 0, 0, []), (26, .aload_n 2, 1, 2, 0, 0, []), (27, .iload 4, 2, 4, 0, 0, []), (29, .iload 6, 2, 6, 0, 0, []), (31, .invokevirtual 109, 3, 39, 3, 0, [(0, 837)]), (34, .iload 5, 2, 5, 0, 0, []), (36, .if_icmp .ne 6, 3, 42, 0, 0, []), (39, .iload 6, 2, 6, 0, 0, []), (41, .ireturn, 1, 0, 0, 0, [])]
  | 42 => [(42, .iinc 6 1, 3, 6, 0, 1, []), (45, .goto (-42), 3, 3, 0, 0, [])]
  | 48 => [(48, .bipush (-4), 2, 0, 0, (-4), []), (50, .ireturn, 1, 0, 0, 0, [])]
  | _ => []
def mx_k_X8_firstBehindWith : mx_Mt := (mx_b_X8_firstBehindWith, ⟨"TwoMayors$Sentences", "firstBehindWith", "(LTwoMayors$Borough;LTwoMayors$Opening;III)I"⟩, prog_10_method_10_code, 7, (some .int), "TwoMayors$Sentences", { frames := 2, cells := 0, slots := 0, locals := 42 }, [0, 3, 42, 48], [0, 847, 68, 846, 23])
def mx_b_X8_countWays : Nat → List mx_In := fun t => match t with
  | 0 => [(0, .aload_n 0, 1, 0, 0, 0, []), (1, .aload_n 1, 1, 1, 0, 0, []), (2, .aload_n 2, 1, 2, 0, 0, []), (3, .invokevirtual 64, 3, 61, 3, 0, [(0, 767)]), (6, .aload_n 0, 1, 0, 0, 0, []), (7, .getfield 21, 3, 8, 1, 0, [(0, 306)]), (10, .aload_n 1, 1, 1, 0, 0, []), (11, .iload_n 3, 1, 3, 0, 0, []), (12, .iload 4, 2, 4, 0, 0, []), (14, .invokevirtual 131, 3, 45, 4, 0, [(0, 887)]), (17, .aload_n 0, 1, 0, 0, 0, []), (18, .getfield 25, 3, 8, 2, 0, [(0, 307)]), (21, .aload_n 1, 1, 1, 0, 0, []), (22, .iload_n 3, 1, 3, 0, 0, []), (23, .iload 4, 2, 4, 0, 0, []), (25, .invokevirtual 131, 3, 45, 4, 0, [(0, 887)]), (28, .iconst 0, 1, 0, 0, 0, []), (29, .istore 5, 2, 5, 0, 0, []), (31, .iconst 0, 1, 0, 0, 0, []), (32, .istore 6, 2, 6, 0, 0, []), (34, .nop, 0, 34, 0, 0, [])]
  | 34 => [(34, .iload 6, 2, 6, 0, 0, []), (36, .aload_n 1, 1, 1, 0, 0, []), (37, .getfield 106, 3, 0, 3, 0, [(0, 118)]), (40, .if_icmp .ge 29, 3, 69, 0, 0, []), (43, .iload 5, 2, 5, 0, 0, []), (45, .aload_n 0, 1, 0, 0, 0, []), (46, .aload_n 1, 1, 1, 0, 0, []), (47, .iload 6, 2, 6, 0, 0, []), (49, .invokevirtual 88, 3, 62, 3, 0, [(0, 805)]), (52, .iload_n 3, 1, 3, 0, 0, []), (53, .iconst 1, 1, 0, 0, 1, []), (54, .isub, 1, 0, 0, 0, []), (55, .iload 6, 2, 6, 0, 0, []), (57, .invokevirtual 109, 3, 39, 3, 0, [(0, 837)]), (60, .iadd, 1, 0, 0, 0, []), (61, .istore 5, 2, 5, 0, 0, []), (63, .iinc 6 1, 3, 6, 0, 1, []), (66, .goto (-32), 3, 34, 0, 0, [])]
  | 69 => [(69, .iload 5, 2, 5, 0, 0, []), (71, .ireturn, 1, 0, 0, 0, [])]
  | _ => []
def mx_k_X8_countWays : mx_Mt := (mx_b_X8_countWays, ⟨"TwoMayors$Sentences", "countWays", "(LTwoMayors$Borough;LTwoMayors$Standing;IZ)I"⟩, prog_10_method_11_code, 7, (some .int), "TwoMayors$Sentences", { frames := 4, cells := 0, slots := 0, locals := 95 }, [0, 34, 69], [0, 886, 68, 884, 885])
def mx_b_X8_winnerBehind : Nat → List mx_In := fun t => match t with
  | 0 => [(0, .aload_n 1, 1, 1, 0, 0, []), (1, .aload_n 1, 1, 1, 0, 0, []), (2, .getfield 135, 3, 0, 5, 0, [(0, 125)]), (5, .invokevirtual 138, 3, 14, 2, 0, [(0, 878)]), (8, .istore_n 3, 1, 3, 0, 0, []), (9, .iconst 0, 1, 0, 0, 0, []), (10, .istore 4, 2, 4, 0, 0, []), (12, .iconst 0, 1, 0, 0, 0, []), (13, .istore 5, 2, 5, 0, 0, []), (15, .nop, 0, 15, 0, 0, [])]
  | 15 => [(15, .iload 5, 2, 5, 0, 0, []), (17, .bipush 10, 2, 0, 0, 10, []), (19, .if_icmp .ge 43, 3, 62, 0, 0, []), (22, .aload_n 1, 1, 1, 0, 0, []), (23, .invokevirtual 41, 3, 13, 1, 0, [(0, 772)]), (26, .iload_n 3, 1, 3, 0, 0, []), (27, .iconst (-1), 1, 0, 0, (-1), []), (28, .ixor, 1, 0, 0, 0, []), (29, .iand, 1, 0, 0, 0, []), (30, .aload_n 1, 1, 1, 0, 0, []), (31, .aload_n 1, 1, 1, 0, 0, []), (32, .invokevirtual 41, 3, 13, 1, 0, [(0, 772)]), (35, .iload_n 3, 1, 3, 0, 0, []), (36, .iconst (-1), 1, 0, 0, (-1), []), (37, .ixor, 1, 0, 0, 0, []), (38, .iand, 1, 0, 0, 0, []), (39, .invokevirtual 138, 3, 14, 2, 0, [(0, 878)]), (42, .iconst (-1), 1, 0, 0, (-1), []), (43, .ixor, 1, 0, 0, 0, []), (44, .iand, 1, 0, 0, 0, []), (45, .istore 4, 2, 4, 0, 0, []), (47, .iload_n 3, 1, 3, 0, 0, []), (48, .aload_n 1, 1, 1, 0, 0, []), (49, .iload 4, 2, 4, 0, 0, []), (51, .invokevirtual 138, 3, 14, 2, 0, [(0, 878)]), (54, .ior, 1, 0, 0, 0, []), (55, .istore_n 3, 1, 3, 0, 0, []), (56, .iinc 5 1, 3, 5, 0, 1, []), (59, .goto (-44), 3, 15, 0, 0, [])]
  | 62 => [(62, .iload_n 3, 1, 3, 0, 0, []), (63, .iload_n 2, 1, 2, 0, 0, []), (64, .invokestatic 128, 3, 129, 1, 0, [(0, 848)]), (67, .iand, 1, 0, 0, 0, []), (68, .ifCond .eq 5, 3, 73, 0, 0, []), (71, .iconst 1, 1, 0, 0, 1, []), (72, .ireturn, 1, 0, 0, 0, [])]
  | 73 => [(73, .iload 4, 2, 4, 0, 0, []), (75, .iload_n 2, 1, 2, 0, 0, []), (76, .invokestatic 128, 3, 129, 1, 0, [(0, 848)]), (79, .iand, 1, 0, 0, 0, []), (80, .ifCond .eq 7, 3, 87, 0, 0, []), (83, .iconst 2, 1, 0, 0, 2, []), (84, .goto 4, 3, 88, 0, 0, [])]
  | 87 => [(87, .iconst 0, 1, 0, 0, 0, []), (88, .nop, 0, 88, 0, 0, [])]
  | 88 => [(88, .ireturn, 1, 0, 0, 0, [])]
  | _ => []
def mx_k_X8_winnerBehind : mx_Mt := (mx_b_X8_winnerBehind, ⟨"TwoMayors$Sentences", "winnerBehind", "(LTwoMayors$Borough;I)I"⟩, prog_10_method_12_code, 6, (some .int), "TwoMayors$Sentences", { frames := 1, cells := 0, slots := 0, locals := 23 }, [0, 15, 62, 73, 87, 88], [0, 877, 68, 875, 876])
def mx_b_X9_init : Nat → List mx_In := fun t => match t with
  | 0 => [(0, .aload_n 0, 1, 0, 0, 0, []), (1, .invokespecial 3, 3, 1000, 1, 0, [(0, 165), (0, 83), (0, 84)]), (4, .aload_n 0, 1, 0, 0, 0, []), (5, .new 9, 3, 7, 0, 0, [(0, 166), (0, 167), (0, 63)]), (8, .dup, 1, 0, 0, 0, []), (9, .invokespecial 11, 3, 53, 1, 0, [(0, 168)]), (12, .putfield 12, 3, 9, 0, 0, [(0, 205)]), (15, .aload_n 0, 1, 0, 0, 0, []), (16, .new 18, 3, 4, 0, 0, [(0, 182), (0, 183), (0, 64)]), (19, .dup, 1, 0, 0, 0, []), (20, .invokespecial 20, 3, 32, 1, 0, [(0, 184)]), (23, .putfield 21, 3, 9, 1, 0, [(0, 208)]), (26, .aload_n 0, 1, 0, 0, 0, []), (27, .new 18, 3, 4, 0, 0, [(0, 182), (0, 183), (0, 64)]), (30, .dup, 1, 0, 0, 0, []), (31, .invokespecial 20, 3, 32, 1, 0, [(0, 184)]), (34, .putfield 25, 3, 9, 2, 0, [(0, 210)]), (37, .return_, 1, 0, 0, 0, [])]
  | _ => []
def mx_k_X9_init : mx_Mt := (mx_b_X9_init, ⟨"TwoMayors$Standing", "<init>", "()V"⟩, prog_11_method_1_code, 1, none, "TwoMayors$Standing", { frames := 2, cells := 4, slots := 20, locals := 40 }, [0], [2, 164, 62, 163, 0])
def mx_b_X9_startIn : Nat → List mx_In := fun t => match t with
  | 0 => [(0, .aload_n 0, 1, 0, 0, 0, []), (1, .getfield 12, 3, 9, 0, 0, [(0, 205)]), (4, .invokevirtual 28, 3, 54, 1, 0, [(0, 498)]), (7, .aload_n 0, 1, 0, 0, 0, []), (8, .getfield 21, 3, 9, 1, 0, [(0, 208)]), (11, .aload_n 1, 1, 1, 0, 0, []), (12, .getfield 31, 3, 0, 7, 0, [(0, 128)]), (15, .invokevirtual 37, 3, 33, 2, 0, [(0, 502)]), (18, .aload_n 0, 1, 0, 0, 0, []), (19, .getfield 25, 3, 9, 2, 0, [(0, 210)]), (22, .aload_n 1, 1, 1, 0, 0, []), (23, .getfield 41, 3, 0, 8, 0, [(0, 130)]), (26, .invokevirtual 37, 3, 33, 2, 0, [(0, 502)]), (29, .aload_n 0, 1, 0, 0, 0, []), (30, .aload_n 1, 1, 1, 0, 0, []), (31, .getfield 44, 3, 0, 10, 0, [(0, 135)]), (34, .putfield 47, 3, 9, 3, 0, [(0, 212)]), (37, .aload_n 0, 1, 0, 0, 0, []), (38, .iconst 0, 1, 0, 0, 0, []), (39, .putfield 48, 3, 9, 4, 0, [(0, 214)]), (42, .aload_n 0, 1, 0, 0, 0, []), (43, .iconst 0, 1, 0, 0, 0, []), (44, .putfield 51, 3, 9, 5, 0, [(0, 216)]), (47, .return_, 1, 0, 0, 0, [])]
  | _ => []
def mx_k_X9_startIn : mx_Mt := (mx_b_X9_startIn, ⟨"TwoMayors$Standing", "startIn", "(LTwoMayors$Borough;)V"⟩, prog_11_method_2_code, 2, none, "TwoMayors$Standing", { frames := 1, cells := 0, slots := 0, locals := 21 }, [0], [0, 497, 62, 495, 496])
def mx_b_X9_copyFrom : Nat → List mx_In := fun t => match t with
  | 0 => [(0, .aload_n 0, 1, 0, 0, 0, []), (1, .getfield 12, 3, 9, 0, 0, [(0, 205)]), (4, .aload_n 1, 1, 1, 0, 0, []), (5, .getfield 12, 3, 9, 0, 0, [(0, 205)]), (8, .invokevirtual 54, 3, 59, 2, 0, [(0, 639)]), (11, .aload_n 0, 1, 0, 0, 0, []), (12, .getfield 21, 3, 9, 1, 0, [(0, 208)]), (15, .aload_n 1, 1, 1, 0, 0, []), (16, .getfield 21, 3, 9, 1, 0, [(0, 208)]), (19, .invokevirtual 58, 3, 34, 2, 0, [(0, 649)]), (22, .aload_n 0, 1, 0, 0, 0, []), (23, .getfield 25, 3, 9, 2, 0, [(0, 210)]), (26, .aload_n 1, 1, 1, 0, 0, []), (27, .getfield 25, 3, 9, 2, 0, [(0, 210)]), (30, .invokevirtual 58, 3, 34, 2, 0, [(0, 649)]), (33, .aload_n 0, 1, 0, 0, 0, []), (34, .aload_n 1, 1, 1, 0, 0, []), (35, .getfield 47, 3, 9, 3, 0, [(0, 212)]), (38, .putfield 47, 3, 9, 3, 0, [(0, 212)]), (41, .aload_n 0, 1, 0, 0, 0, []), (42, .aload_n 1, 1, 1, 0, 0, []), (43, .getfield 48, 3, 9, 4, 0, [(0, 214)]), (46, .putfield 48, 3, 9, 4, 0, [(0, 214)]), (49, .aload_n 0, 1, 0, 0, 0, []), (50, .aload_n 1, 1, 1, 0, 0, []), (51, .getfield 51, 3, 9, 5, 0, [(0, 216)]), (54, .putfield 51, 3, 9, 5, 0, [(0, 216)]), (57, .return_, 1, 0, 0, 0, [])]
  | _ => []
def mx_k_X9_copyFrom : mx_Mt := (mx_b_X9_copyFrom, ⟨"TwoMayors$Standing", "copyFrom", "(LTwoMayors$Standing;)V"⟩, prog_11_method_3_code, 2, none, "TwoMayors$Standing", { frames := 2, cells := 0, slots := 0, locals := 43 }, [0], [0, 638, 62, 636, 637])
def mx_b_X9_mayorOf : Nat → List mx_In := fun t => match t with
  | 0 => [(0, .iload_n 1, 1, 1, 0, 0, []), (1, .ifCond .ne 10, 3, 11, 0, 0, []), (4, .aload_n 0, 1, 0, 0, 0, []), (5, .getfield 21, 3, 9, 1, 0, [(0, 208)]), (8, .goto 7, 3, 15, 0, 0, [])]
  | 11 => [(11, .aload_n 0, 1, 0, 0, 0, []), (12, .getfield 25, 3, 9, 2, 0, [(0, 210)]), (15, .nop, 0, 15, 0, 0, [])]
  | 15 => [(15, .areturn, 1, 0, 0, 0, [])]
  | _ => []
def mx_k_X9_mayorOf : mx_Mt := (mx_b_X9_mayorOf, ⟨"TwoMayors$Standing", "mayorOf", "(I)LTwoMayors$Mayor;"⟩, prog_11_method_4_code, 2, (some (.object "TwoMayors$Mayor")), "TwoMayors$Standing", { frames := 0, cells := 0, slots := 0, locals := 0 }, [0, 11, 15], [0, 600, 62, 598, 599])
def mx_b_X9_otherMayor : Nat → List mx_In := fun t => match t with
  | 0 => [(0, .aload_n 0, 1, 0, 0, 0, []), (1, .iconst 1, 1, 0, 0, 1, []), (2, .aload_n 0, 1, 0, 0, 0, []), (3, .getfield 47, 3, 9, 3, 0, [(0, 212)]), (6, .isub, 1, 0, 0, 0, []), (7, .invokevirtual 61, 3, 75, 2, 0, [(0, 671)]), (10, .areturn, 1, 0, 0, 0, [])]
  | _ => []
def mx_k_X9_otherMayor : mx_Mt := (mx_b_X9_otherMayor, ⟨"TwoMayors$Standing", "otherMayor", "()LTwoMayors$Mayor;"⟩, prog_11_method_5_code, 1, (some (.object "TwoMayors$Mayor")), "TwoMayors$Standing", { frames := 1, cells := 0, slots := 0, locals := 21 }, [0], [0, 701, 62, 699, 700])
def mx_b_X9_knowersOf : Nat → List mx_In := fun t => match t with
  | 0 => [(0, .aload_n 0, 1, 0, 0, 0, []), (1, .getfield 21, 3, 9, 1, 0, [(0, 208)]), (4, .getfield 65, 3, 4, 2, 0, [(0, 196)]), (7, .iload_n 1, 1, 1, 0, 0, []), (8, .invokestatic 68, 3, 129, 1, 0, [(0, 591)]), (11, .iand, 1, 0, 0, 0, []), (12, .ifCond .eq 7, 3, 19, 0, 0, []), (15, .iconst 1, 1, 0, 0, 1, []), (16, .goto 4, 3, 20, 0, 0, [])]
  | 19 => [(19, .iconst 0, 1, 0, 0, 0, []), (20, .nop, 0, 20, 0, 0, [])]
  | 20 => [(20, .aload_n 0, 1, 0, 0, 0, []), (21, .getfield 25, 3, 9, 2, 0, [(0, 210)]), (24, .getfield 65, 3, 4, 2, 0, [(0, 196)]), (27, .iload_n 1, 1, 1, 0, 0, []), (28, .invokestatic 68, 3, 129, 1, 0, [(0, 591)]), (31, .iand, 1, 0, 0, 0, []), (32, .ifCond .eq 7, 3, 39, 0, 0, []), (35, .iconst 2, 1, 0, 0, 2, []), (36, .goto 4, 3, 40, 0, 0, [])]
  | 39 => [(39, .iconst 0, 1, 0, 0, 0, []), (40, .nop, 0, 40, 0, 0, [])]
  | 40 => [(40, .iadd, 1, 0, 0, 0, []), (41, .ireturn, 1, 0, 0, 0, [])]
  | _ => []
def mx_k_X9_knowersOf : mx_Mt := (mx_b_X9_knowersOf, ⟨"TwoMayors$Standing", "knowersOf", "(I)I"⟩, prog_11_method_6_code, 2, (some .int), "TwoMayors$Standing", { frames := 1, cells := 0, slots := 0, locals := 20 }, [0, 19, 20, 39, 40], [0, 590, 62, 588, 589])
def mx_b_X9_decreesOfBoth : Nat → List mx_In := fun t => match t with
  | 0 => [(0, .aload_n 0, 1, 0, 0, 0, []), (1, .getfield 21, 3, 9, 1, 0, [(0, 208)]), (4, .getfield 72, 3, 4, 0, 0, [(0, 189)]), (7, .aload_n 0, 1, 0, 0, 0, []), (8, .getfield 25, 3, 9, 2, 0, [(0, 210)]), (11, .getfield 72, 3, 4, 0, 0, [(0, 189)]), (14, .iadd, 1, 0, 0, 0, []), (15, .ireturn, 1, 0, 0, 0, [])]
  | _ => []
def mx_k_X9_decreesOfBoth : mx_Mt := (mx_b_X9_decreesOfBoth, ⟨"TwoMayors$Standing", "decreesOfBoth", "()I"⟩, prog_11_method_7_code, 1, (some .int), "TwoMayors$Standing", { frames := 0, cells := 0, slots := 0, locals := 0 }, [0], [0, 960, 62, 958, 959])
def mx_b_X9_lastWord : Nat → List mx_In := fun t => match t with
  | 0 => [(0, .aload_n 0, 1, 0, 0, 0, []), (1, .getfield 12, 3, 9, 0, 0, [(0, 205)]), (4, .aload_n 0, 1, 0, 0, 0, []), (5, .getfield 12, 3, 9, 0, 0, [(0, 205)]), (8, .getfield 75, 3, 7, 1, 0, [(0, 175)]), (11, .iconst 1, 1, 0, 0, 1, []), (12, .isub, 1, 0, 0, 0, []), (13, .invokevirtual 78, 3, 56, 2, 0, [(0, 621)]), (16, .ireturn, 1, 0, 0, 0, [])]
  | _ => []
def mx_k_X9_lastWord : mx_Mt := (mx_b_X9_lastWord, ⟨"TwoMayors$Standing", "lastWord", "()I"⟩, prog_11_method_8_code, 1, (some .int), "TwoMayors$Standing", { frames := 1, cells := 0, slots := 0, locals := 21 }, [0], [0, 620, 62, 618, 619])
def mx_b_X9_fits : Nat → List mx_In := fun t => match t with
  | 0 => [(0, .aload_n 0, 1, 0, 0, 0, []), (1, .getfield 12, 3, 9, 0, 0, [(0, 205)]), (4, .getfield 75, 3, 7, 1, 0, [(0, 175)]), (7, .ifCond .eq 19, 3, 26, 0, 0, []), (10, .aload_n 1, 1, 1, 0, 0, []), (11, .aload_n 0, 1, 0, 0, 0, []), (12, .invokevirtual 81, 3, 79, 1, 0, [(0, 617)]), (15, .invokevirtual 85, 3, 12, 2, 0, [(0, 622)]), (18, .iload_n 2, 1, 2, 0, 0, []), (19, .invokestatic 68, 3, 129, 1, 0, [(0, 591)]), (22, .iand, 1, 0, 0, 0, []), (23, .ifCond .eq 7, 3, 30, 0, 0, []), (26, .nop, 0, 26, 0, 0, [])]
  | 26 => [(26, .iconst 1, 1, 0, 0, 1, []), (27, .goto 4, 3, 31, 0, 0, [])]
  | 30 => [(30, .iconst 0, 1, 0, 0, 0, []), (31, .nop, 0, 31, 0, 0, [])]
  | 31 => [(31, .ireturn, 1, 0, 0, 0, [])]
  | _ => []
def mx_k_X9_fits : mx_Mt := (mx_b_X9_fits, ⟨"TwoMayors$Standing", "fits", "(LTwoMayors$Borough;I)Z"⟩, prog_11_method_9_code, 3, (some .boolean), "TwoMayors$Standing", { frames := 2, cells := 0, slots := 0, locals := 42 }, [0, 26, 30, 31], [0, 616, 62, 614, 615])
def mx_b_X9_isEndable : Nat → List mx_In := fun t => match t with
  | 0 => [(0, .aload_n 1, 1, 1, 0, 0, []), (1, .aload_n 0, 1, 0, 0, 0, []), (2, .invokevirtual 81, 3, 79, 1, 0, [(0, 617)]), (5, .invokevirtual 88, 3, 10, 2, 0, [(0, 666)]), (8, .iconst 2, 1, 0, 0, 2, []), (9, .if_icmp .ne 7, 3, 16, 0, 0, []), (12, .iconst 1, 1, 0, 0, 1, []), (13, .goto 4, 3, 17, 0, 0, [])]
  | 16 => [(16, .iconst 0, 1, 0, 0, 0, []), (17, .nop, 0, 17, 0, 0, [])]
  | 17 => [(17, .ireturn, 1, 0, 0, 0, [])]
  | _ => []
def mx_k_X9_isEndable : mx_Mt := (mx_b_X9_isEndable, ⟨"TwoMayors$Standing", "isEndable", "(LTwoMayors$Borough;)Z"⟩, prog_11_method_10_code, 2, (some .boolean), "TwoMayors$Standing", { frames := 2, cells := 0, slots := 0, locals := 42 }, [0, 16, 17], [0, 665, 62, 663, 664])
def mx_b_X9_sayableByOther : Nat → List mx_In := fun t => match t with
  | 0 => [(0, .aload_n 1, 1, 1, 0, 0, []), (1, .aload_n 0, 1, 0, 0, 0, []), (2, .getfield 12, 3, 9, 0, 0, [(0, 205)]), (5, .iconst 0, 1, 0, 0, 0, []), (6, .invokevirtual 78, 3, 56, 2, 0, [(0, 621)]), (9, .invokevirtual 88, 3, 10, 2, 0, [(0, 666)]), (12, .iconst 3, 1, 0, 0, 3, []), (13, .if_icmp .ne 10, 3, 23, 0, 0, []), (16, .aload_n 1, 1, 1, 0, 0, []), (17, .invokevirtual 91, 3, 13, 1, 0, [(0, 694)]), (20, .goto 10, 3, 30, 0, 0, [])]
  | 23 => [(23, .aload_n 0, 1, 0, 0, 0, []), (24, .invokevirtual 94, 3, 76, 1, 0, [(0, 698)]), (27, .getfield 65, 3, 4, 2, 0, [(0, 196)]), (30, .nop, 0, 30, 0, 0, [])]
  | 30 => [(30, .ireturn, 1, 0, 0, 0, [])]
  | _ => []
def mx_k_X9_sayableByOther : mx_Mt := (mx_b_X9_sayableByOther, ⟨"TwoMayors$Standing", "sayableByOther", "(LTwoMayors$Borough;)I"⟩, prog_11_method_11_code, 2, (some .int), "TwoMayors$Standing", { frames := 2, cells := 0, slots := 0, locals := 42 }, [0, 23, 30], [0, 693, 62, 691, 692])
def mx_b_X9_speak : Nat → List mx_In := fun t => match t with
  | 0 => [(0, .aload_n 0, 1, 0, 0, 0, []), (1, .getfield 12, 3, 9, 0, 0, [(0, 205)]), (4, .iload_n 1, 1, 1, 0, 0, []), (5, .invokevirtual 98, 3, 55, 2, 0, [(0, 657)]), (8, .aload_n 0, 1, 0, 0, 0, []), (9, .dup, 1, 0, 0, 0, []), (10, .getfield 48, 3, 9, 4, 0, [(0, 214)]), (13, .iconst 1, 1, 0, 0, 1, []), (14, .iadd, 1, 0, 0, 0, []), (15, .putfield 48, 3, 9, 4, 0, [(0, 214)]), (18, .return_, 1, 0, 0, 0, [])]
  | _ => []
def mx_k_X9_speak : mx_Mt := (mx_b_X9_speak, ⟨"TwoMayors$Standing", "speak", "(I)V"⟩, prog_11_method_12_code, 2, none, "TwoMayors$Standing", { frames := 1, cells := 0, slots := 0, locals := 21 }, [0], [0, 656, 62, 654, 655])
def mx_b_X9_letFall : Nat → List mx_In := fun t => match t with
  | 0 => [(0, .aload_n 0, 1, 0, 0, 0, []), (1, .getfield 12, 3, 9, 0, 0, [(0, 205)]), (4, .invokevirtual 28, 3, 54, 1, 0, [(0, 498)]), (7, .aload_n 0, 1, 0, 0, 0, []), (8, .dup, 1, 0, 0, 0, []), (9, .getfield 48, 3, 9, 4, 0, [(0, 214)]), (12, .iconst 1, 1, 0, 0, 1, []), (13, .iadd, 1, 0, 0, 0, []), (14, .putfield 48, 3, 9, 4, 0, [(0, 214)]), (17, .return_, 1, 0, 0, 0, [])]
  | _ => []
def mx_k_X9_letFall : mx_Mt := (mx_b_X9_letFall, ⟨"TwoMayors$Standing", "letFall", "()V"⟩, prog_11_method_13_code, 1, none, "TwoMayors$Standing", { frames := 1, cells := 0, slots := 0, locals := 20 }, [0], [0, 738, 62, 736, 737])
def mx_b_X9_decree : Nat → List mx_In := fun t => match t with
  | 0 => [(0, .aload_n 0, 1, 0, 0, 0, []), (1, .aload_n 0, 1, 0, 0, 0, []), (2, .aload_n 0, 1, 0, 0, 0, []), (3, .getfield 47, 3, 9, 3, 0, [(0, 212)]), (6, .invokevirtual 61, 3, 75, 2, 0, [(0, 671)]), (9, .aload_n 0, 1, 0, 0, 0, []), (10, .getfield 12, 3, 9, 0, 0, [(0, 205)]), (13, .aload_n 1, 1, 1, 0, 0, []), (14, .invokevirtual 101, 3, 58, 2, 0, [(0, 672)]), (17, .invokevirtual 105, 3, 87, 3, 0, [(0, 677)]), (20, .ireturn, 1, 0, 0, 0, [])]
  | _ => []
def mx_k_X9_decree : mx_Mt := (mx_b_X9_decree, ⟨"TwoMayors$Standing", "decree", "(LTwoMayors$Borough;)I"⟩, prog_11_method_14_code, 2, (some .int), "TwoMayors$Standing", { frames := 3, cells := 0, slots := 0, locals := 65 }, [0], [0, 670, 62, 668, 669])
def mx_b_X9_passOver : Nat → List mx_In := fun t => match t with
  | 0 => [(0, .aload_n 0, 1, 0, 0, 0, []), (1, .getfield 12, 3, 9, 0, 0, [(0, 205)]), (4, .aload_n 1, 1, 1, 0, 0, []), (5, .invokevirtual 101, 3, 58, 2, 0, [(0, 672)]), (8, .aload_n 2, 1, 2, 0, 0, []), (9, .aload_n 1, 1, 1, 0, 0, []), (10, .invokevirtual 101, 3, 58, 2, 0, [(0, 672)]), (13, .iadd, 1, 0, 0, 0, []), (14, .istore_n 3, 1, 3, 0, 0, []), (15, .aload_n 0, 1, 0, 0, 0, []), (16, .dup, 1, 0, 0, 0, []), (17, .getfield 48, 3, 9, 4, 0, [(0, 214)]), (20, .aload_n 2, 1, 2, 0, 0, []), (21, .getfield 75, 3, 7, 1, 0, [(0, 175)]), (24, .iadd, 1, 0, 0, 0, []), (25, .putfield 48, 3, 9, 4, 0, [(0, 214)]), (28, .aload_n 0, 1, 0, 0, 0, []), (29, .iconst 1, 1, 0, 0, 1, []), (30, .aload_n 0, 1, 0, 0, 0, []), (31, .getfield 47, 3, 9, 3, 0, [(0, 212)]), (34, .isub, 1, 0, 0, 0, []), (35, .putfield 47, 3, 9, 3, 0, [(0, 212)]), (38, .aload_n 0, 1, 0, 0, 0, []), (39, .dup, 1, 0, 0, 0, []), (40, .getfield 51, 3, 9, 5, 0, [(0, 216)]), (43, .iconst 1, 1, 0, 0, 1, []), (44, .iadd, 1, 0, 0, 0, []), (45, .putfield 51, 3, 9, 5, 0, [(0, 216)]), (48, .aload_n 0, 1, 0, 0, 0, []), (49, .aload_n 0, 1, 0, 0, 0, []), (50, .aload_n 0, 1, 0, 0, 0, []), (51, .getfield 47, 3, 9, 3, 0, [(0, 212)]), (54, .invokevirtual 61, 3, 75, 2, 0, [(0, 671)]), (57, .iload_n 3, 1, 3, 0, 0, []), (58, .invokevirtual 105, 3, 87, 3, 0, [(0, 677)]), (61, .ireturn, 1, 0, 0, 0, [])]
  | _ => []
def mx_k_X9_passOver : mx_Mt := (mx_b_X9_passOver, ⟨"TwoMayors$Standing", "passOver", "(LTwoMayors$Borough;LTwoMayors$Row;)I"⟩, prog_11_method_15_code, 4, (some .int), "TwoMayors$Standing", { frames := 3, cells := 0, slots := 0, locals := 65 }, [0], [0, 730, 62, 728, 729])
def mx_b_X9_gain : Nat → List mx_In := fun t => match t with
  | 0 => [(0, .aload_n 1, 1, 1, 0, 0, []), (1, .dup, 1, 0, 0, 0, []), (2, .getfield 72, 3, 4, 0, 0, [(0, 189)]), (5, .iconst 1, 1, 0, 0, 1, []), (6, .iadd, 1, 0, 0, 0, []), (7, .putfield 72, 3, 4, 0, 0, [(0, 189)]), (10, .aload_n 1, 1, 1, 0, 0, []), (11, .dup, 1, 0, 0, 0, []), (12, .getfield 109, 3, 4, 1, 0, [(0, 193)]), (15, .iload_n 2, 1, 2, 0, 0, []), (16, .iadd, 1, 0, 0, 0, []), (17, .putfield 109, 3, 4, 1, 0, [(0, 193)]), (20, .aload_n 0, 1, 0, 0, 0, []), (21, .getfield 12, 3, 9, 0, 0, [(0, 205)]), (24, .invokevirtual 28, 3, 54, 1, 0, [(0, 498)]), (27, .iload_n 2, 1, 2, 0, 0, []), (28, .ireturn, 1, 0, 0, 0, [])]
  | _ => []
def mx_k_X9_gain : mx_Mt := (mx_b_X9_gain, ⟨"TwoMayors$Standing", "gain", "(LTwoMayors$Mayor;I)I"⟩, prog_11_method_16_code, 3, (some .int), "TwoMayors$Standing", { frames := 1, cells := 0, slots := 0, locals := 20 }, [0], [0, 680, 62, 679, 13])
def mx_b_X10_init : Nat → List mx_In := fun t => match t with
  | 0 => [(0, .aload_n 0, 1, 0, 0, 0, []), (1, .invokespecial 3, 3, 1000, 1, 0, [(0, 90), (0, 83), (0, 84)]), (4, .aload_n 0, 1, 0, 0, 0, []), (5, .sipush 200, 3, 0, 0, 200, []), (8, .newarray .int, 2, 0, 0, 0, [(0, 105)]), (10, .putfield 9, 3, 10, 0, 0, [(0, 91)]), (13, .aload_n 0, 1, 0, 0, 0, []), (14, .iconst 2, 1, 0, 0, 2, []), (15, .newarray .int, 2, 0, 0, 0, [(0, 105)]), (17, .putfield 15, 3, 10, 1, 0, [(0, 92)]), (20, .return_, 1, 0, 0, 0, [])]
  | _ => []
def mx_k_X10_init : mx_Mt := (mx_b_X10_init, ⟨"TwoMayors$Text", "<init>", "()V"⟩, prog_12_method_1_code, 1, none, "TwoMayors$Text", { frames := 1, cells := 2, slots := 202, locals := 20 }, [0], [2, 89, 60, 88, 0])
def mx_b_X10_add : Nat → List mx_In := fun t => match t with
  | 0 => [(0, .aload_n 0, 1, 0, 0, 0, []), (1, .getfield 18, 3, 10, 2, 0, [(0, 93)]), (4, .ifCond .lt 15, 3, 19, 0, 0, []), (7, .aload_n 0, 1, 0, 0, 0, []), (8, .getfield 18, 3, 10, 2, 0, [(0, 93)]), (11, .aload_n 0, 1, 0, 0, 0, []), (12, .getfield 9, 3, 10, 0, 0, [(0, 91)]), (15, .arraylength, 1, 0, 0, 0, []), (16, .if_icmp .lt 5, 3, 21, 0, 0, []), (19, .nop, 0, 19, 0, 0, [])]
  | 19 => [(19, .iconst 0, 1, 0, 0, 0, []), (20, .ireturn, 1, 0, 0, 0, [])]
  | 21 => [(21, .aload_n 0, 1, 0, 0, 0, []), (22, .getfield 9, 3, 10, 0, 0, [(0, 91)]), (25, .aload_n 0, 1, 0, 0, 0, []), (26, .getfield 18, 3, 10, 2, 0, [(0, 93)]), (29, .iload_n 1, 1, 1, 0, 0, []), (30, .iastore, 1, 0, 0, 0, []), (31, .aload_n 0, 1, 0, 0, 0, []), (32, .dup, 1, 0, 0, 0, []), (33, .getfield 18, 3, 10, 2, 0, [(0, 93)]), (36, .iconst 1, 1, 0, 0, 1, []), (37, .iadd, 1, 0, 0, 0, []), (38, .putfield 18, 3, 10, 2, 0, [(0, 93)]), (41, .iconst 1, 1, 0, 0, 1, []), (42, .ireturn, 1, 0, 0, 0, [])]
  | _ => []
def mx_k_X10_add : mx_Mt := (mx_b_X10_add, ⟨"TwoMayors$Text", "add", "(I)Z"⟩, prog_12_method_2_code, 2, (some .boolean), "TwoMayors$Text", { frames := 0, cells := 0, slots := 0, locals := 0 }, [0, 19, 21], [0, 420, 60, 418, 419])
def mx_b_X10_clear : Nat → List mx_In := fun t => match t with
  | 0 => [(0, .aload_n 0, 1, 0, 0, 0, []), (1, .iconst 0, 1, 0, 0, 0, []), (2, .putfield 18, 3, 10, 2, 0, [(0, 93)]), (5, .return_, 1, 0, 0, 0, [])]
  | _ => []
def mx_k_X10_clear : mx_Mt := (mx_b_X10_clear, ⟨"TwoMayors$Text", "clear", "()V"⟩, prog_12_method_3_code, 1, none, "TwoMayors$Text", { frames := 0, cells := 0, slots := 0, locals := 0 }, [0], [0, 521, 60, 519, 520])
def mx_b_X10_readInto : Nat → List mx_In := fun t => match t with
  | 0 => [(0, .aload_n 1, 1, 1, 0, 0, []), (1, .invokevirtual 22, 3, 1, 1, 0, [(0, 429)]), (4, .iconst 0, 1, 0, 0, 0, []), (5, .istore_n 2, 1, 2, 0, 0, []), (6, .iconst 0, 1, 0, 0, 0, []), (7, .istore_n 3, 1, 3, 0, 0, []), (8, .nop, 0, 8, 0, 0, [])]
  | 8 => [(8, .iload_n 3, 1, 3, 0, 0, []), (9, .bipush 66, 2, 0, 0, 66, []), (11, .if_icmp .gt 48, 3, 59, 0, 0, []), (14, .iload_n 2, 1, 2, 0, 0, []), (15, .aload_n 0, 1, 0, 0, 0, []), (16, .getfield 18, 3, 10, 2, 0, [(0, 93)]), (19, .if_icmp .ge 40, 3, 59, 0, 0, []), (22, .aload_n 0, 1, 0, 0, 0, []), (23, .iload_n 2, 1, 2, 0, 0, []), (24, .invokevirtual 27, 3, 92, 2, 0, [(0, 433)]), (27, .istore 4, 2, 4, 0, 0, []), (29, .iload 4, 2, 4, 0, 0, []), (31, .iconst (-1), 1, 0, 0, (-1), []), (32, .if_icmp .eq 16, 3, 48, 0, 0, []), (35, .aload_n 0, 1, 0, 0, 0, []), (36, .aload_n 1, 1, 1, 0, 0, []), (37, .aload_n 0, 1, 0, 0, 0, []), (38, .iload_n 2, 1, 2, 0, 0, []), (39, .invokevirtual 31, 3, 97, 2, 0, [(0, 441)]), (42, .invokevirtual 34, 3, 93, 3, 0, [(0, 452)]), (45, .ifCond .ne 5, 3, 50, 0, 0, []), (48, .nop, 0, 48, 0, 0, [])]
  | 48 => [(48, .iload_n 2, 1, 2, 0, 0, []), (49, .ireturn, 1, 0, 0, 0, [])]
  | 50 => [(50, .iload 4, 2, 4, 0, 0, []), (52, .istore_n 2, 1, 2, 0, 0, []), (53, .iinc 3 1, 3, 3, 0, 1, []), (56, .goto (-48), 3, 8, 0, 0, [])]
  | 59 => [(59, .bipush (-4), 2, 0, 0, (-4), []), (61, .ireturn, 1, 0, 0, 0, [])]
  | _ => []
def mx_k_X10_readInto : mx_Mt := (mx_b_X10_readInto, ⟨"TwoMayors$Text", "readInto", "(LTwoMayors$Borough;)I"⟩, prog_12_method_4_code, 5, (some .int), "TwoMayors$Text", { frames := 4, cells := 0, slots := 0, locals := 88 }, [0, 8, 48, 50, 59], [0, 428, 60, 426, 427])
def mx_b_X10_readItem : Nat → List mx_In := fun t => match t with
  | 0 => [(0, .iload_n 1, 1, 1, 0, 0, []), (1, .iconst 1, 1, 0, 0, 1, []), (2, .iadd, 1, 0, 0, 0, []), (3, .istore_n 2, 1, 2, 0, 0, []), (4, .aload_n 0, 1, 0, 0, 0, []), (5, .iconst 0, 1, 0, 0, 0, []), (6, .putfield 38, 3, 10, 3, 0, [(0, 95)]), (9, .iconst 0, 1, 0, 0, 0, []), (10, .istore_n 3, 1, 3, 0, 0, []), (11, .nop, 0, 11, 0, 0, [])]
  | 11 => [(11, .iload_n 3, 1, 3, 0, 0, []), (12, .aload_n 0, 1, 0, 0, 0, []), (13, .getfield 15, 3, 10, 1, 0, [(0, 92)]), (16, .arraylength, 1, 0, 0, 0, []), (17, .if_icmp .ge 77, 3, 94, 0, 0, []), (20, .aload_n 0, 1, 0, 0, 0, []), (21, .iload_n 2, 1, 2, 0, 0, []), (22, .invokevirtual 41, 3, 94, 2, 0, [(0, 437)]), (25, .istore 4, 2, 4, 0, 0, []), (27, .iload 4, 2, 4, 0, 0, []), (29, .ifCond .ne 5, 3, 34, 0, 0, []), (32, .iconst (-1), 1, 0, 0, (-1), []), (33, .ireturn, 1, 0, 0, 0, [])]
  | 34 => [(34, .aload_n 0, 1, 0, 0, 0, []), (35, .getfield 15, 3, 10, 1, 0, [(0, 92)]), (38, .iload_n 3, 1, 3, 0, 0, []), (39, .aload_n 0, 1, 0, 0, 0, []), (40, .iload_n 2, 1, 2, 0, 0, []), (41, .iload 4, 2, 4, 0, 0, []), (43, .invokevirtual 44, 3, 95, 3, 0, [(0, 448)]), (46, .iastore, 1, 0, 0, 0, []), (47, .aload_n 0, 1, 0, 0, 0, []), (48, .iload_n 3, 1, 3, 0, 0, []), (49, .iconst 1, 1, 0, 0, 1, []), (50, .iadd, 1, 0, 0, 0, []), (51, .putfield 38, 3, 10, 3, 0, [(0, 95)]), (54, .iload_n 2, 1, 2, 0, 0, []), (55, .iload 4, 2, 4, 0, 0, []), (57, .iadd, 1, 0, 0, 0, []), (58, .istore_n 2, 1, 2, 0, 0, []), (59, .aload_n 0, 1, 0, 0, 0, []), (60, .iload_n 2, 1, 2, 0, 0, []), (61, .invokevirtual 31, 3, 97, 2, 0, [(0, 441)]), (64, .bipush 59, 2, 0, 0, 59, []), (66, .if_icmp .ne 7, 3, 73, 0, 0, []), (69, .iload_n 2, 1, 2, 0, 0, []), (70, .iconst 1, 1, 0, 0, 1, []), (71, .iadd, 1, 0, 0, 0, []), (72, .ireturn, 1, 0, 0, 0, [])]
  | 73 => [(73, .aload_n 0, 1, 0, 0, 0, []), (74, .iload_n 2, 1, 2, 0, 0, []), (75, .invokevirtual 31, 3, 97, 2, 0, [(0, 441)]), (78, .bipush 44, 2, 0, 0, 44, []), (80, .if_icmp .eq 5, 3, 85, 0, 0, []), (83, .iconst (-1), 1, 0, 0, (-1), []), (84, .ireturn, 1, 0, 0, 0, [])]
  | 85 => [(85, .iinc 2 1, 3, 2, 0, 1, []), (88, .iinc 3 1, 3, 3, 0, 1, []), (91, .goto (-80), 3, 11, 0, 0, [])]
  | 94 => [(94, .iconst (-1), 1, 0, 0, (-1), []), (95, .ireturn, 1, 0, 0, 0, [])]
  | _ => []
def mx_k_X10_readItem : mx_Mt := (mx_b_X10_readItem, ⟨"TwoMayors$Text", "readItem", "(I)I"⟩, prog_12_method_5_code, 5, (some .int), "TwoMayors$Text", { frames := 2, cells := 0, slots := 0, locals := 44 }, [0, 11, 34, 73, 85, 94], [0, 436, 60, 435, 1])
def mx_b_X10_takeItem : Nat → List mx_In := fun t => match t with
  | 0 => [(0, .aload_n 0, 1, 0, 0, 0, []), (1, .getfield 38, 3, 10, 3, 0, [(0, 95)]), (4, .iconst 2, 1, 0, 0, 2, []), (5, .if_icmp .ne 21, 3, 26, 0, 0, []), (8, .aload_n 1, 1, 1, 0, 0, []), (9, .iload_n 2, 1, 2, 0, 0, []), (10, .aload_n 0, 1, 0, 0, 0, []), (11, .getfield 15, 3, 10, 1, 0, [(0, 92)]), (14, .iconst 0, 1, 0, 0, 0, []), (15, .iaload, 1, 0, 0, 0, []), (16, .aload_n 0, 1, 0, 0, 0, []), (17, .getfield 15, 3, 10, 1, 0, [(0, 92)]), (20, .iconst 1, 1, 0, 0, 1, []), (21, .iaload, 1, 0, 0, 0, []), (22, .invokevirtual 48, 3, 2, 4, 0, [(0, 456)]), (25, .ireturn, 1, 0, 0, 0, [])]
  | 26 => [(26, .aload_n 1, 1, 1, 0, 0, []), (27, .iload_n 2, 1, 2, 0, 0, []), (28, .aload_n 0, 1, 0, 0, 0, []), (29, .getfield 15, 3, 10, 1, 0, [(0, 92)]), (32, .iconst 0, 1, 0, 0, 0, []), (33, .iaload, 1, 0, 0, 0, []), (34, .invokevirtual 52, 3, 3, 3, 0, [(0, 482)]), (37, .ireturn, 1, 0, 0, 0, [])]
  | _ => []
def mx_k_X10_takeItem : mx_Mt := (mx_b_X10_takeItem, ⟨"TwoMayors$Text", "takeItem", "(LTwoMayors$Borough;I)Z"⟩, prog_12_method_6_code, 3, (some .boolean), "TwoMayors$Text", { frames := 3, cells := 0, slots := 0, locals := 66 }, [0, 26], [0, 455, 60, 454, 5])
def mx_b_X10_figuresAt : Nat → List mx_In := fun t => match t with
  | 0 => [(0, .aload_n 0, 1, 0, 0, 0, []), (1, .iload_n 1, 1, 1, 0, 0, []), (2, .invokevirtual 31, 3, 97, 2, 0, [(0, 441)]), (5, .invokestatic 56, 3, 96, 1, 0, [(0, 445)]), (8, .ifCond .ne 5, 3, 13, 0, 0, []), (11, .iconst 0, 1, 0, 0, 0, []), (12, .ireturn, 1, 0, 0, 0, [])]
  | 13 => [(13, .aload_n 0, 1, 0, 0, 0, []), (14, .iload_n 1, 1, 1, 0, 0, []), (15, .iconst 1, 1, 0, 0, 1, []), (16, .iadd, 1, 0, 0, 0, []), (17, .invokevirtual 31, 3, 97, 2, 0, [(0, 441)]), (20, .invokestatic 56, 3, 96, 1, 0, [(0, 445)]), (23, .ifCond .eq 7, 3, 30, 0, 0, []), (26, .iconst 2, 1, 0, 0, 2, []), (27, .goto 4, 3, 31, 0, 0, [])]
  | 30 => [(30, .iconst 1, 1, 0, 0, 1, []), (31, .nop, 0, 31, 0, 0, [])]
  | 31 => [(31, .ireturn, 1, 0, 0, 0, [])]
  | _ => []
def mx_k_X10_figuresAt : mx_Mt := (mx_b_X10_figuresAt, ⟨"TwoMayors$Text", "figuresAt", "(I)I"⟩, prog_12_method_7_code, 2, (some .int), "TwoMayors$Text", { frames := 1, cells := 0, slots := 0, locals := 21 }, [0, 13, 30, 31], [0, 440, 60, 439, 2])
def mx_b_X10_valueAt : Nat → List mx_In := fun t => match t with
  | 0 => [(0, .aload_n 0, 1, 0, 0, 0, []), (1, .iload_n 1, 1, 1, 0, 0, []), (2, .invokevirtual 31, 3, 97, 2, 0, [(0, 441)]), (5, .bipush 48, 2, 0, 0, 48, []), (7, .isub, 1, 0, 0, 0, []), (8, .istore_n 3, 1, 3, 0, 0, []), (9, .iload_n 2, 1, 2, 0, 0, []), (10, .iconst 2, 1, 0, 0, 2, []), (11, .if_icmp .ne 21, 3, 32, 0, 0, []), (14, .iload_n 3, 1, 3, 0, 0, []), (15, .bipush 10, 2, 0, 0, 10, []), (17, .imul, 1, 0, 0, 0, []), (18, .aload_n 0, 1, 0, 0, 0, []), (19, .iload_n 1, 1, 1, 0, 0, []), (20, .iconst 1, 1, 0, 0, 1, []), (21, .iadd, 1, 0, 0, 0, []), (22, .invokevirtual 31, 3, 97, 2, 0, [(0, 441)]), (25, .iadd, 1, 0, 0, 0, []), (26, .bipush 48, 2, 0, 0, 48, []), (28, .isub, 1, 0, 0, 0, []), (29, .goto 4, 3, 33, 0, 0, [])]
  | 32 => [(32, .iload_n 3, 1, 3, 0, 0, []), (33, .nop, 0, 33, 0, 0, [])]
  | 33 => [(33, .ireturn, 1, 0, 0, 0, [])]
  | _ => []
def mx_k_X10_valueAt : mx_Mt := (mx_b_X10_valueAt, ⟨"TwoMayors$Text", "valueAt", "(II)I"⟩, prog_12_method_8_code, 4, (some .int), "TwoMayors$Text", { frames := 1, cells := 0, slots := 0, locals := 21 }, [0, 32, 33], [0, 451, 60, 450, 4])
def mx_b_X10_isFigure : Nat → List mx_In := fun t => match t with
  | 0 => [(0, .iload_n 0, 1, 0, 0, 0, []), (1, .bipush 48, 2, 0, 0, 48, []), (3, .if_icmp .lt 13, 3, 16, 0, 0, []), (6, .iload_n 0, 1, 0, 0, 0, []), (7, .bipush 57, 2, 0, 0, 57, []), (9, .if_icmp .gt 7, 3, 16, 0, 0, []), (12, .iconst 1, 1, 0, 0, 1, []), (13, .goto 4, 3, 17, 0, 0, [])]
  | 16 => [(16, .iconst 0, 1, 0, 0, 0, []), (17, .nop, 0, 17, 0, 0, [])]
  | 17 => [(17, .ireturn, 1, 0, 0, 0, [])]
  | _ => []
def mx_k_X10_isFigure : mx_Mt := (mx_b_X10_isFigure, ⟨"TwoMayors$Text", "isFigure", "(I)Z"⟩, prog_12_method_9_code, 1, (some .boolean), "TwoMayors$Text", { frames := 0, cells := 0, slots := 0, locals := 0 }, [0, 16, 17], [1, 447, 60, 446, 0])
def mx_b_X10_letterAt : Nat → List mx_In := fun t => match t with
  | 0 => [(0, .iload_n 1, 1, 1, 0, 0, []), (1, .ifCond .lt 29, 3, 30, 0, 0, []), (4, .iload_n 1, 1, 1, 0, 0, []), (5, .aload_n 0, 1, 0, 0, 0, []), (6, .getfield 18, 3, 10, 2, 0, [(0, 93)]), (9, .if_icmp .ge 21, 3, 30, 0, 0, []), (12, .iload_n 1, 1, 1, 0, 0, []), (13, .aload_n 0, 1, 0, 0, 0, []), (14, .getfield 9, 3, 10, 0, 0, [(0, 91)]), (17, .arraylength, 1, 0, 0, 0, []), (18, .if_icmp .ge 12, 3, 30, 0, 0, []), (21, .aload_n 0, 1, 0, 0, 0, []), (22, .getfield 9, 3, 10, 0, 0, [(0, 91)]), (25, .iload_n 1, 1, 1, 0, 0, []), (26, .iaload, 1, 0, 0, 0, []), (27, .goto 5, 3, 32, 0, 0, [])]
  | 30 => [(30, .bipush (-4), 2, 0, 0, (-4), []), (32, .nop, 0, 32, 0, 0, [])]
  | 32 => [(32, .ireturn, 1, 0, 0, 0, [])]
  | _ => []
def mx_k_X10_letterAt : mx_Mt := (mx_b_X10_letterAt, ⟨"TwoMayors$Text", "letterAt", "(I)I"⟩, prog_12_method_10_code, 2, (some .int), "TwoMayors$Text", { frames := 0, cells := 0, slots := 0, locals := 0 }, [0, 30, 32], [0, 444, 60, 443, 3])
def mx_b_X11_init : Nat → List mx_In := fun t => match t with
  | 0 => [(0, .aload_n 0, 1, 0, 0, 0, []), (1, .invokespecial 3, 3, 1000, 1, 0, [(0, 82), (0, 83), (0, 84)]), (4, .aload_n 0, 1, 0, 0, 0, []), (5, .new 9, 3, 10, 0, 0, [(0, 85), (0, 86), (0, 60)]), (8, .dup, 1, 0, 0, 0, []), (9, .invokespecial 11, 3, 88, 1, 0, [(0, 87)]), (12, .putfield 12, 3, 11, 0, 0, [(0, 522)]), (15, .aload_n 0, 1, 0, 0, 0, []), (16, .new 16, 3, 0, 0, 0, [(0, 106), (0, 107), (0, 61)]), (19, .dup, 1, 0, 0, 0, []), (20, .invokespecial 18, 3, 0, 1, 0, [(0, 108)]), (23, .putfield 19, 3, 11, 1, 0, [(0, 523)]), (26, .aload_n 0, 1, 0, 0, 0, []), (27, .new 16, 3, 0, 0, 0, [(0, 106), (0, 107), (0, 61)]), (30, .dup, 1, 0, 0, 0, []), (31, .invokespecial 18, 3, 0, 1, 0, [(0, 108)]), (34, .putfield 23, 3, 11, 2, 0, [(0, 524)]), (37, .aload_n 0, 1, 0, 0, 0, []), (38, .new 26, 3, 9, 0, 0, [(0, 160), (0, 161), (0, 62)]), (41, .dup, 1, 0, 0, 0, []), (42, .invokespecial 28, 3, 72, 1, 0, [(0, 162)]), (45, .putfield 29, 3, 11, 3, 0, [(0, 525)]), (48, .aload_n 0, 1, 0, 0, 0, []), (49, .new 33, 3, 6, 0, 0, [(0, 231), (0, 232), (0, 65)]), (52, .dup, 1, 0, 0, 0, []), (53, .bipush 8, 2, 0, 0, 8, []), (55, .invokespecial 35, 3, 47, 2, 0, [(0, 233)]), (58, .putfield 38, 3, 11, 4, 0, [(0, 526)]), (61, .aload_n 0, 1, 0, 0, 0, []), (62, .new 33, 3, 6, 0, 0, [(0, 231), (0, 232), (0, 65)]), (65, .dup, 1, 0, 0, 0, []), (66, .iconst 2, 1, 0, 0, 2, []), (67, .invokespecial 35, 3, 47, 2, 0, [(0, 233)]), (70, .putfield 42, 3, 11, 5, 0, [(0, 527)]), (73, .aload_n 0, 1, 0, 0, 0, []), (74, .new 45, 3, 2, 0, 0, [(0, 251), (0, 252), (0, 67)]), (77, .dup, 1, 0, 0, 0, []), (78, .invokespecial 47, 3, 21, 1, 0, [(0, 253)]), (81, .putfield 48, 3, 11, 6, 0, [(0, 528)]), (84, .aload_n 0, 1, 0, 0, 0, []), (85, .new 52, 3, 8, 0, 0, [(0, 269), (0, 270), (0, 68)]), (88, .dup, 1, 0, 0, 0, []), (89, .aload_n 0, 1, 0, 0, 0, []), (90, .getfield 48, 3, 11, 6, 0, [(0, 528)]), (93, .invokespecial 54, 3, 60, 2, 0, [(0, 271)]), (96, .putfield 57, 3, 11, 7, 0, [(0, 529)]), (99, .aload_n 0, 1, 0, 0, 0, []), (100, .new 61, 3, 3, 0, 0, [(0, 318), (0, 319), (0, 70)]), (103, .dup, 1, 0, 0, 0, []), (104, .invokespecial 63, 3, 26, 1, 0, [(0, 320)]), (107, .putfield 64, 3, 11, 8, 0, [(0, 530)]), (110, .aload_n 0, 1, 0, 0, 0, []), (111, .new 68, 3, 1, 0, 0, [(0, 353), (0, 354), (0, 71)]), (114, .dup, 1, 0, 0, 0, []), (115, .aload_n 0, 1, 0, 0, 0, []), (116, .getfield 48, 3, 11, 6, 0, [(0, 528)]), (119, .invokespecial 70, 3, 16, 2, 0, [(0, 355)]), (122, .putfield 71, 3, 11, 9, 0, [(0, 531)]), (125, .iconst 0, 1, 0, 0, 0, []), (126, .istore_n 1, 1, 1, 0, 0, []), (127, .nop, 0, 127, 0, 0, [])]
  | 127 => [(127, .iload_n 1, 1, 1, 0, 0, []), (128, .ldc 75, 2, 0, 0, 0, []), (130, .invokevirtual 77, 3, 1002, 1, 0, [(0, 369)]), (133, .if_icmp .ge 23, 3, 156, 0, 0, []), (136, .aload_n 0, 1, 0, 0, 0, []), (137, .getfield 12, 3, 11, 0, 0, [(0, 522)]), (140, .ldc 75, 2, 0, 0, 0, []), (142, .iload_n 1, 1, 1, 0, 0, []), (143, .invokevirtual 83, 3, 1003, 2, 0, [(0, 379)]), (146, .invokevirtual 87, 3, 89, 2, 0, [(0, 417)]), (149, .pop, 1, 0, 0, 0, []), (150, .iinc 1 1, 3, 1, 0, 1, []), (153, .goto (-26), 3, 127, 0, 0, [])]
  | 156 => [(156, .aload_n 0, 1, 0, 0, 0, []), (157, .invokevirtual 91, 3, 125, 1, 0, [(0, 421)]), (160, .pop, 1, 0, 0, 0, []), (161, .aload_n 0, 1, 0, 0, 0, []), (162, .getfield 12, 3, 11, 0, 0, [(0, 522)]), (165, .invokevirtual 94, 3, 90, 1, 0, [(0, 518)]), (168, .return_, 1, 0, 0, 0, [])]
  | _ => []
def mx_k_X11_init : mx_Mt := (mx_b_X11_init, ⟨"TwoMayors", "<init>", "()V"⟩, prog_1_method_1_code, 2, none, "TwoMayors", { frames := 6, cells := 143, slots := 2120, locals := 133 }, [0, 127, 156], [2, 81, 59, 80, 0])
def mx_b_X11_write : Nat → List mx_In := fun t => match t with
  | 0 => [(0, .iload_n 1, 1, 1, 0, 0, []), (1, .bipush 32, 2, 0, 0, 32, []), (3, .if_icmp .lt 9, 3, 12, 0, 0, []), (6, .iload_n 1, 1, 1, 0, 0, []), (7, .bipush 126, 2, 0, 0, 126, []), (9, .if_icmp .le 5, 3, 14, 0, 0, []), (12, .nop, 0, 12, 0, 0, [])]
  | 12 => [(12, .iconst (-1), 1, 0, 0, (-1), []), (13, .ireturn, 1, 0, 0, 0, [])]
  | 14 => [(14, .aload_n 0, 1, 0, 0, 0, []), (15, .getfield 12, 3, 11, 0, 0, [(0, 522)]), (18, .iload_n 1, 1, 1, 0, 0, []), (19, .invokevirtual 87, 3, 89, 2, 0, [(0, 417)]), (22, .ifCond .eq 13, 3, 35, 0, 0, []), (25, .aload_n 0, 1, 0, 0, 0, []), (26, .getfield 12, 3, 11, 0, 0, [(0, 522)]), (29, .getfield 97, 3, 10, 2, 0, [(0, 94)]), (32, .goto 5, 3, 37, 0, 0, [])]
  | 35 => [(35, .bipush (-3), 2, 0, 0, (-3), []), (37, .nop, 0, 37, 0, 0, [])]
  | 37 => [(37, .ireturn, 1, 0, 0, 0, [])]
  | _ => []
def mx_k_X11_write : mx_Mt := (mx_b_X11_write, ⟨"TwoMayors", "write", "(I)I"⟩, prog_1_method_2_code, 2, (some .int), "TwoMayors", { frames := 1, cells := 0, slots := 0, locals := 21 }, [0, 12, 14, 35, 37], [0, 557, 59, 555, 556])
def mx_b_X11_wipe : Nat → List mx_In := fun t => match t with
  | 0 => [(0, .aload_n 0, 1, 0, 0, 0, []), (1, .getfield 12, 3, 11, 0, 0, [(0, 522)]), (4, .getfield 97, 3, 10, 2, 0, [(0, 94)]), (7, .istore_n 1, 1, 1, 0, 0, []), (8, .aload_n 0, 1, 0, 0, 0, []), (9, .getfield 12, 3, 11, 0, 0, [(0, 522)]), (12, .invokevirtual 94, 3, 90, 1, 0, [(0, 518)]), (15, .iload_n 1, 1, 1, 0, 0, []), (16, .ireturn, 1, 0, 0, 0, [])]
  | _ => []
def mx_k_X11_wipe : mx_Mt := (mx_b_X11_wipe, ⟨"TwoMayors", "wipe", "()I"⟩, prog_1_method_3_code, 2, (some .int), "TwoMayors", { frames := 1, cells := 0, slots := 0, locals := 20 }, [0], [0, 561, 59, 559, 560])
def mx_b_X11_fault : Nat → List mx_In := fun t => match t with
  | 0 => [(0, .aload_n 0, 1, 0, 0, 0, []), (1, .getfield 12, 3, 11, 0, 0, [(0, 522)]), (4, .aload_n 0, 1, 0, 0, 0, []), (5, .getfield 23, 3, 11, 2, 0, [(0, 524)]), (8, .invokevirtual 100, 3, 91, 2, 0, [(0, 425)]), (11, .ireturn, 1, 0, 0, 0, [])]
  | _ => []
def mx_k_X11_fault : mx_Mt := (mx_b_X11_fault, ⟨"TwoMayors", "fault", "()I"⟩, prog_1_method_4_code, 1, (some .int), "TwoMayors", { frames := 5, cells := 0, slots := 0, locals := 112 }, [0], [0, 565, 59, 563, 564])
def mx_b_X11_lay : Nat → List mx_In := fun t => match t with
  | 0 => [(0, .aload_n 0, 1, 0, 0, 0, []), (1, .invokevirtual 91, 3, 125, 1, 0, [(0, 421)]), (4, .ireturn, 1, 0, 0, 0, [])]
  | _ => []
def mx_k_X11_lay : mx_Mt := (mx_b_X11_lay, ⟨"TwoMayors", "lay", "()I"⟩, prog_1_method_5_code, 1, (some .int), "TwoMayors", { frames := 6, cells := 0, slots := 0, locals := 133 }, [0], [0, 569, 59, 567, 568])
def mx_b_X11_word : Nat → List mx_In := fun t => match t with
  | 0 => [(0, .aload_n 0, 1, 0, 0, 0, []), (1, .getfield 19, 3, 11, 1, 0, [(0, 523)]), (4, .iload_n 1, 1, 1, 0, 0, []), (5, .invokevirtual 104, 3, 9, 2, 0, [(0, 574)]), (8, .ifCond .ne 5, 3, 13, 0, 0, []), (11, .iconst (-1), 1, 0, 0, (-1), []), (12, .ireturn, 1, 0, 0, 0, [])]
  | 13 => [(13, .iload_n 2, 1, 2, 0, 0, []), (14, .tableswitch 66 0 3 #[30, 39, 48, 57], 30, 80, 0, 0, [(0, 44), (1, 53), (2, 62), (3, 71)])]
  | 44 => [(44, .aload_n 0, 1, 0, 0, 0, []), (45, .getfield 19, 3, 11, 1, 0, [(0, 523)]), (48, .iload_n 1, 1, 1, 0, 0, []), (49, .invokevirtual 107, 3, 10, 2, 0, [(0, 575)]), (52, .ireturn, 1, 0, 0, 0, [])]
  | 53 => [(53, .aload_n 0, 1, 0, 0, 0, []), (54, .getfield 19, 3, 11, 1, 0, [(0, 523)]), (57, .iload_n 1, 1, 1, 0, 0, []), (58, .invokevirtual 111, 3, 11, 2, 0, [(0, 579)]), (61, .ireturn, 1, 0, 0, 0, [])]
  | 62 => [(62, .aload_n 0, 1, 0, 0, 0, []), (63, .getfield 19, 3, 11, 1, 0, [(0, 523)]), (66, .iload_n 1, 1, 1, 0, 0, []), (67, .invokevirtual 114, 3, 12, 2, 0, [(0, 583)]), (70, .ireturn, 1, 0, 0, 0, [])]
  | 71 => [(71, .aload_n 0, 1, 0, 0, 0, []), (72, .getfield 29, 3, 11, 3, 0, [(0, 525)]), (75, .iload_n 1, 1, 1, 0, 0, []), (76, .invokevirtual 117, 3, 77, 2, 0, [(0, 587)]), (79, .ireturn, 1, 0, 0, 0, [])]
  | 80 => [(80, .iconst (-1), 1, 0, 0, (-1), []), (81, .ireturn, 1, 0, 0, 0, [])]
  | _ => []
def mx_k_X11_word : mx_Mt := (mx_b_X11_word, ⟨"TwoMayors", "word", "(II)I"⟩, prog_1_method_6_code, 3, (some .int), "TwoMayors", { frames := 2, cells := 0, slots := 0, locals := 42 }, [0, 13, 44, 53, 62, 71, 80], [0, 573, 59, 571, 572])
def mx_b_X11_mayor : Nat → List mx_In := fun t => match t with
  | 0 => [(0, .iload_n 1, 1, 1, 0, 0, []), (1, .invokestatic 120, 3, 128, 1, 0, [(0, 596)]), (4, .ifCond .ne 5, 3, 9, 0, 0, []), (7, .iconst (-1), 1, 0, 0, (-1), []), (8, .ireturn, 1, 0, 0, 0, [])]
  | 9 => [(9, .aload_n 0, 1, 0, 0, 0, []), (10, .getfield 29, 3, 11, 3, 0, [(0, 525)]), (13, .iload_n 1, 1, 1, 0, 0, []), (14, .invokevirtual 123, 3, 75, 2, 0, [(0, 597)]), (17, .astore_n 3, 1, 3, 0, 0, []), (18, .iload_n 2, 1, 2, 0, 0, []), (19, .tableswitch 61 0 3 #[29, 46, 51, 56], 29, 80, 0, 0, [(0, 48), (1, 65), (2, 70), (3, 75)])]
  | 48 => [(48, .aload_n 0, 1, 0, 0, 0, []), (49, .getfield 29, 3, 11, 3, 0, [(0, 525)]), (52, .getfield 127, 3, 9, 3, 0, [(0, 213)]), (55, .iload_n 1, 1, 1, 0, 0, []), (56, .if_icmp .ne 7, 3, 63, 0, 0, []), (59, .iconst 1, 1, 0, 0, 1, []), (60, .goto 4, 3, 64, 0, 0, [])]
  | 63 => [(63, .iconst 0, 1, 0, 0, 0, []), (64, .nop, 0, 64, 0, 0, [])]
  | 64 => [(64, .ireturn, 1, 0, 0, 0, [])]
  | 65 => [(65, .aload_n 3, 1, 3, 0, 0, []), (66, .getfield 130, 3, 4, 0, 0, [(0, 190)]), (69, .ireturn, 1, 0, 0, 0, [])]
  | 70 => [(70, .aload_n 3, 1, 3, 0, 0, []), (71, .getfield 135, 3, 4, 1, 0, [(0, 192)]), (74, .ireturn, 1, 0, 0, 0, [])]
  | 75 => [(75, .aload_n 3, 1, 3, 0, 0, []), (76, .getfield 138, 3, 4, 2, 0, [(0, 197)]), (79, .ireturn, 1, 0, 0, 0, [])]
  | 80 => [(80, .iconst (-1), 1, 0, 0, (-1), []), (81, .ireturn, 1, 0, 0, 0, [])]
  | _ => []
def mx_k_X11_mayor : mx_Mt := (mx_b_X11_mayor, ⟨"TwoMayors", "mayor", "(II)I"⟩, prog_1_method_7_code, 4, (some .int), "TwoMayors", { frames := 1, cells := 0, slots := 0, locals := 21 }, [0, 9, 48, 63, 64, 65, 70, 75, 80], [0, 595, 59, 593, 594])
def mx_b_X11_said : Nat → List mx_In := fun t => match t with
  | 0 => [(0, .iload_n 1, 1, 1, 0, 0, []), (1, .ifCond .ge 7, 3, 8, 0, 0, []), (4, .iconst (-1), 1, 0, 0, (-1), []), (5, .goto 14, 3, 19, 0, 0, [])]
  | 8 => [(8, .aload_n 0, 1, 0, 0, 0, []), (9, .getfield 29, 3, 11, 3, 0, [(0, 525)]), (12, .getfield 141, 3, 9, 0, 0, [(0, 207)]), (15, .iload_n 1, 1, 1, 0, 0, []), (16, .invokevirtual 145, 3, 56, 2, 0, [(0, 605)]), (19, .nop, 0, 19, 0, 0, [])]
  | 19 => [(19, .ireturn, 1, 0, 0, 0, [])]
  | _ => []
def mx_k_X11_said : mx_Mt := (mx_b_X11_said, ⟨"TwoMayors", "said", "(I)I"⟩, prog_1_method_8_code, 2, (some .int), "TwoMayors", { frames := 1, cells := 0, slots := 0, locals := 21 }, [0, 8, 19], [0, 604, 59, 602, 603])
def mx_b_X11_say : Nat → List mx_In := fun t => match t with
  | 0 => [(0, .aload_n 0, 1, 0, 0, 0, []), (1, .getfield 19, 3, 11, 1, 0, [(0, 523)]), (4, .iload_n 1, 1, 1, 0, 0, []), (5, .invokevirtual 104, 3, 9, 2, 0, [(0, 574)]), (8, .ifCond .ne 5, 3, 13, 0, 0, []), (11, .iconst (-1), 1, 0, 0, (-1), []), (12, .ireturn, 1, 0, 0, 0, [])]
  | 13 => [(13, .aload_n 0, 1, 0, 0, 0, []), (14, .getfield 29, 3, 11, 3, 0, [(0, 525)]), (17, .aload_n 0, 1, 0, 0, 0, []), (18, .getfield 19, 3, 11, 1, 0, [(0, 523)]), (21, .iload_n 1, 1, 1, 0, 0, []), (22, .invokevirtual 150, 3, 80, 3, 0, [(0, 613)]), (25, .ifCond .ne 6, 3, 31, 0, 0, []), (28, .bipush (-2), 2, 0, 0, (-2), []), (30, .ireturn, 1, 0, 0, 0, [])]
  | 31 => [(31, .aload_n 0, 1, 0, 0, 0, []), (32, .getfield 29, 3, 11, 3, 0, [(0, 525)]), (35, .getfield 141, 3, 9, 0, 0, [(0, 207)]), (38, .getfield 154, 3, 7, 1, 0, [(0, 176)]), (41, .bipush 12, 2, 0, 0, 12, []), (43, .if_icmp .lt 6, 3, 49, 0, 0, []), (46, .bipush (-3), 2, 0, 0, (-3), []), (48, .ireturn, 1, 0, 0, 0, [])]
  | 49 => [(49, .aload_n 0, 1, 0, 0, 0, []), (50, .getfield 38, 3, 11, 4, 0, [(0, 526)]), (53, .aload_n 0, 1, 0, 0, 0, []), (54, .getfield 29, 3, 11, 3, 0, [(0, 525)]), (57, .invokevirtual 157, 3, 49, 2, 0, [(0, 623)]), (60, .aload_n 0, 1, 0, 0, 0, []), (61, .getfield 29, 3, 11, 3, 0, [(0, 525)]), (64, .iload_n 1, 1, 1, 0, 0, []), (65, .invokevirtual 161, 3, 83, 2, 0, [(0, 653)]), (68, .aload_n 0, 1, 0, 0, 0, []), (69, .getfield 29, 3, 11, 3, 0, [(0, 525)]), (72, .getfield 141, 3, 9, 0, 0, [(0, 207)]), (75, .getfield 154, 3, 7, 1, 0, [(0, 176)]), (78, .ireturn, 1, 0, 0, 0, [])]
  | _ => []
def mx_k_X11_say : mx_Mt := (mx_b_X11_say, ⟨"TwoMayors", "say", "(I)I"⟩, prog_1_method_9_code, 2, (some .int), "TwoMayors", { frames := 4, cells := 0, slots := 0, locals := 86 }, [0, 13, 31, 49], [0, 612, 59, 610, 611])
def mx_b_X11_end : Nat → List mx_In := fun t => match t with
  | 0 => [(0, .aload_n 0, 1, 0, 0, 0, []), (1, .getfield 29, 3, 11, 3, 0, [(0, 525)]), (4, .aload_n 0, 1, 0, 0, 0, []), (5, .getfield 19, 3, 11, 1, 0, [(0, 523)]), (8, .invokevirtual 164, 3, 81, 2, 0, [(0, 662)]), (11, .ifCond .ne 6, 3, 17, 0, 0, []), (14, .bipush (-2), 2, 0, 0, (-2), []), (16, .ireturn, 1, 0, 0, 0, [])]
  | 17 => [(17, .aload_n 0, 1, 0, 0, 0, []), (18, .getfield 38, 3, 11, 4, 0, [(0, 526)]), (21, .aload_n 0, 1, 0, 0, 0, []), (22, .getfield 29, 3, 11, 3, 0, [(0, 525)]), (25, .invokevirtual 157, 3, 49, 2, 0, [(0, 623)]), (28, .aload_n 0, 1, 0, 0, 0, []), (29, .getfield 29, 3, 11, 3, 0, [(0, 525)]), (32, .aload_n 0, 1, 0, 0, 0, []), (33, .getfield 19, 3, 11, 1, 0, [(0, 523)]), (36, .invokevirtual 168, 3, 85, 2, 0, [(0, 667)]), (39, .ireturn, 1, 0, 0, 0, [])]
  | _ => []
def mx_k_X11_end : mx_Mt := (mx_b_X11_end, ⟨"TwoMayors", "end", "()I"⟩, prog_1_method_10_code, 1, (some .int), "TwoMayors", { frames := 4, cells := 0, slots := 0, locals := 86 }, [0, 17], [0, 661, 59, 659, 660])
def mx_b_X11_finish : Nat → List mx_In := fun t => match t with
  | 0 => [(0, .aload_n 0, 1, 0, 0, 0, []), (1, .invokevirtual 171, 3, 126, 1, 0, [(0, 685)]), (4, .aload_n 0, 1, 0, 0, 0, []), (5, .getfield 48, 3, 11, 6, 0, [(0, 528)]), (8, .getfield 174, 3, 2, 0, 0, [(0, 262)]), (11, .getfield 154, 3, 7, 1, 0, [(0, 176)]), (14, .ifCond .ne 6, 3, 20, 0, 0, []), (17, .bipush (-2), 2, 0, 0, (-2), []), (19, .ireturn, 1, 0, 0, 0, [])]
  | 20 => [(20, .aload_n 0, 1, 0, 0, 0, []), (21, .getfield 38, 3, 11, 4, 0, [(0, 526)]), (24, .aload_n 0, 1, 0, 0, 0, []), (25, .getfield 29, 3, 11, 3, 0, [(0, 525)]), (28, .invokevirtual 157, 3, 49, 2, 0, [(0, 623)]), (31, .aload_n 0, 1, 0, 0, 0, []), (32, .getfield 29, 3, 11, 3, 0, [(0, 525)]), (35, .aload_n 0, 1, 0, 0, 0, []), (36, .getfield 19, 3, 11, 1, 0, [(0, 523)]), (39, .aload_n 0, 1, 0, 0, 0, []), (40, .getfield 48, 3, 11, 6, 0, [(0, 528)]), (43, .getfield 174, 3, 2, 0, 0, [(0, 262)]), (46, .invokevirtual 177, 3, 86, 3, 0, [(0, 727)]), (49, .ireturn, 1, 0, 0, 0, [])]
  | _ => []
def mx_k_X11_finish : mx_Mt := (mx_b_X11_finish, ⟨"TwoMayors", "finish", "()I"⟩, prog_1_method_11_code, 1, (some .int), "TwoMayors", { frames := 4, cells := 0, slots := 0, locals := 92 }, [0, 20], [0, 684, 59, 682, 683])
def mx_b_X11_drop : Nat → List mx_In := fun t => match t with
  | 0 => [(0, .aload_n 0, 1, 0, 0, 0, []), (1, .getfield 29, 3, 11, 3, 0, [(0, 525)]), (4, .getfield 141, 3, 9, 0, 0, [(0, 207)]), (7, .getfield 154, 3, 7, 1, 0, [(0, 176)]), (10, .istore_n 1, 1, 1, 0, 0, []), (11, .iload_n 1, 1, 1, 0, 0, []), (12, .ifCond .ne 6, 3, 18, 0, 0, []), (15, .bipush (-2), 2, 0, 0, (-2), []), (17, .ireturn, 1, 0, 0, 0, [])]
  | 18 => [(18, .aload_n 0, 1, 0, 0, 0, []), (19, .getfield 38, 3, 11, 4, 0, [(0, 526)]), (22, .aload_n 0, 1, 0, 0, 0, []), (23, .getfield 29, 3, 11, 3, 0, [(0, 525)]), (26, .invokevirtual 157, 3, 49, 2, 0, [(0, 623)]), (29, .aload_n 0, 1, 0, 0, 0, []), (30, .getfield 29, 3, 11, 3, 0, [(0, 525)]), (33, .invokevirtual 181, 3, 84, 1, 0, [(0, 735)]), (36, .iload_n 1, 1, 1, 0, 0, []), (37, .ireturn, 1, 0, 0, 0, [])]
  | _ => []
def mx_k_X11_drop : mx_Mt := (mx_b_X11_drop, ⟨"TwoMayors", "drop", "()I"⟩, prog_1_method_12_code, 2, (some .int), "TwoMayors", { frames := 4, cells := 0, slots := 0, locals := 86 }, [0, 18], [0, 734, 59, 732, 733])
def mx_b_X11_learn : Nat → List mx_In := fun t => match t with
  | 0 => [(0, .iload_n 1, 1, 1, 0, 0, []), (1, .invokestatic 120, 3, 128, 1, 0, [(0, 596)]), (4, .ifCond .eq 14, 3, 18, 0, 0, []), (7, .aload_n 0, 1, 0, 0, 0, []), (8, .getfield 19, 3, 11, 1, 0, [(0, 523)]), (11, .iload_n 2, 1, 2, 0, 0, []), (12, .invokevirtual 104, 3, 9, 2, 0, [(0, 574)]), (15, .ifCond .ne 5, 3, 20, 0, 0, []), (18, .nop, 0, 18, 0, 0, [])]
  | 18 => [(18, .iconst (-1), 1, 0, 0, (-1), []), (19, .ireturn, 1, 0, 0, 0, [])]
  | 20 => [(20, .aload_n 0, 1, 0, 0, 0, []), (21, .getfield 38, 3, 11, 4, 0, [(0, 526)]), (24, .aload_n 0, 1, 0, 0, 0, []), (25, .getfield 29, 3, 11, 3, 0, [(0, 525)]), (28, .invokevirtual 157, 3, 49, 2, 0, [(0, 623)]), (31, .aload_n 0, 1, 0, 0, 0, []), (32, .getfield 29, 3, 11, 3, 0, [(0, 525)]), (35, .iload_n 1, 1, 1, 0, 0, []), (36, .invokevirtual 123, 3, 75, 2, 0, [(0, 597)]), (39, .astore_n 3, 1, 3, 0, 0, []), (40, .aload_n 3, 1, 3, 0, 0, []), (41, .dup, 1, 0, 0, 0, []), (42, .getfield 138, 3, 4, 2, 0, [(0, 197)]), (45, .iload_n 2, 1, 2, 0, 0, []), (46, .invokestatic 184, 3, 129, 1, 0, [(0, 743)]), (49, .ixor, 1, 0, 0, 0, []), (50, .putfield 138, 3, 4, 2, 0, [(0, 197)]), (53, .aload_n 3, 1, 3, 0, 0, []), (54, .getfield 138, 3, 4, 2, 0, [(0, 197)]), (57, .iload_n 2, 1, 2, 0, 0, []), (58, .invokestatic 184, 3, 129, 1, 0, [(0, 743)]), (61, .iand, 1, 0, 0, 0, []), (62, .ifCond .eq 7, 3, 69, 0, 0, []), (65, .iconst 1, 1, 0, 0, 1, []), (66, .goto 4, 3, 70, 0, 0, [])]
  | 69 => [(69, .iconst 0, 1, 0, 0, 0, []), (70, .nop, 0, 70, 0, 0, [])]
  | 70 => [(70, .ireturn, 1, 0, 0, 0, [])]
  | _ => []
def mx_k_X11_learn : mx_Mt := (mx_b_X11_learn, ⟨"TwoMayors", "learn", "(II)I"⟩, prog_1_method_13_code, 4, (some .int), "TwoMayors", { frames := 4, cells := 0, slots := 0, locals := 86 }, [0, 18, 20, 69, 70], [0, 742, 59, 740, 741])
def mx_b_X11_undo : Nat → List mx_In := fun t => match t with
  | 0 => [(0, .aload_n 0, 1, 0, 0, 0, []), (1, .getfield 38, 3, 11, 4, 0, [(0, 526)]), (4, .aload_n 0, 1, 0, 0, 0, []), (5, .getfield 29, 3, 11, 3, 0, [(0, 525)]), (8, .invokevirtual 187, 3, 50, 2, 0, [(0, 748)]), (11, .ifCond .eq 13, 3, 24, 0, 0, []), (14, .aload_n 0, 1, 0, 0, 0, []), (15, .getfield 38, 3, 11, 4, 0, [(0, 526)]), (18, .getfield 191, 3, 6, 1, 0, [(0, 245)]), (21, .goto 5, 3, 26, 0, 0, [])]
  | 24 => [(24, .bipush (-2), 2, 0, 0, (-2), []), (26, .nop, 0, 26, 0, 0, [])]
  | 26 => [(26, .ireturn, 1, 0, 0, 0, [])]
  | _ => []
def mx_k_X11_undo : mx_Mt := (mx_b_X11_undo, ⟨"TwoMayors", "undo", "()I"⟩, prog_1_method_14_code, 1, (some .int), "TwoMayors", { frames := 4, cells := 0, slots := 0, locals := 86 }, [0, 24, 26], [0, 747, 59, 745, 746])
def mx_b_X11_finishing : Nat → List mx_In := fun t => match t with
  | 0 => [(0, .iload_n 1, 1, 1, 0, 0, []), (1, .iconst (-1), 1, 0, 0, (-1), []), (2, .if_icmp .lt 8, 3, 10, 0, 0, []), (5, .iload_n 1, 1, 1, 0, 0, []), (6, .iconst 4, 1, 0, 0, 4, []), (7, .if_icmp .lt 5, 3, 12, 0, 0, []), (10, .nop, 0, 10, 0, 0, [])]
  | 10 => [(10, .iconst (-1), 1, 0, 0, (-1), []), (11, .ireturn, 1, 0, 0, 0, [])]
  | 12 => [(12, .aload_n 0, 1, 0, 0, 0, []), (13, .invokevirtual 171, 3, 126, 1, 0, [(0, 685)]), (16, .aload_n 0, 1, 0, 0, 0, []), (17, .getfield 48, 3, 11, 6, 0, [(0, 528)]), (20, .getfield 174, 3, 2, 0, 0, [(0, 262)]), (23, .iload_n 1, 1, 1, 0, 0, []), (24, .invokestatic 192, 3, 127, 2, 0, [(0, 756)]), (27, .ireturn, 1, 0, 0, 0, [])]
  | _ => []
def mx_k_X11_finishing : mx_Mt := (mx_b_X11_finishing, ⟨"TwoMayors", "finishing", "(I)I"⟩, prog_1_method_15_code, 2, (some .int), "TwoMayors", { frames := 4, cells := 0, slots := 0, locals := 92 }, [0, 10, 12], [0, 755, 59, 753, 754])
def mx_b_X11_safe : Nat → List mx_In := fun t => match t with
  | 0 => [(0, .aload_n 0, 1, 0, 0, 0, []), (1, .getfield 19, 3, 11, 1, 0, [(0, 523)]), (4, .iload_n 1, 1, 1, 0, 0, []), (5, .invokevirtual 104, 3, 9, 2, 0, [(0, 574)]), (8, .ifCond .eq 14, 3, 22, 0, 0, []), (11, .iload_n 2, 1, 2, 0, 0, []), (12, .iconst (-1), 1, 0, 0, (-1), []), (13, .if_icmp .lt 9, 3, 22, 0, 0, []), (16, .iload_n 2, 1, 2, 0, 0, []), (17, .bipush 10, 2, 0, 0, 10, []), (19, .if_icmp .lt 5, 3, 24, 0, 0, []), (22, .nop, 0, 22, 0, 0, [])]
  | 22 => [(22, .iconst (-1), 1, 0, 0, (-1), []), (23, .ireturn, 1, 0, 0, 0, [])]
  | 24 => [(24, .aload_n 0, 1, 0, 0, 0, []), (25, .getfield 57, 3, 11, 7, 0, [(0, 529)]), (28, .aload_n 0, 1, 0, 0, 0, []), (29, .getfield 19, 3, 11, 1, 0, [(0, 523)]), (32, .aload_n 0, 1, 0, 0, 0, []), (33, .getfield 29, 3, 11, 3, 0, [(0, 525)]), (36, .iload_n 1, 1, 1, 0, 0, []), (37, .invokevirtual 196, 3, 63, 4, 0, [(0, 763)]), (40, .aload_n 0, 1, 0, 0, 0, []), (41, .getfield 57, 3, 11, 7, 0, [(0, 529)]), (44, .getfield 200, 3, 8, 0, 0, [(0, 305)]), (47, .iload_n 2, 1, 2, 0, 0, []), (48, .invokestatic 192, 3, 127, 2, 0, [(0, 756)]), (51, .ireturn, 1, 0, 0, 0, [])]
  | _ => []
def mx_k_X11_safe : mx_Mt := (mx_b_X11_safe, ⟨"TwoMayors", "safe", "(II)I"⟩, prog_1_method_16_code, 3, (some .int), "TwoMayors", { frames := 6, cells := 0, slots := 0, locals := 139 }, [0, 22, 24], [0, 762, 59, 760, 761])
def mx_b_X11_best : Nat → List mx_In := fun t => match t with
  | 0 => [(0, .iload_n 1, 1, 1, 0, 0, []), (1, .iconst 1, 1, 0, 0, 1, []), (2, .if_icmp .lt 21, 3, 23, 0, 0, []), (5, .iload_n 1, 1, 1, 0, 0, []), (6, .bipush 10, 2, 0, 0, 10, []), (8, .if_icmp .gt 15, 3, 23, 0, 0, []), (11, .iload_n 2, 1, 2, 0, 0, []), (12, .bipush (-2), 2, 0, 0, (-2), []), (14, .if_icmp .lt 9, 3, 23, 0, 0, []), (17, .iload_n 2, 1, 2, 0, 0, []), (18, .bipush 10, 2, 0, 0, 10, []), (20, .if_icmp .lt 5, 3, 25, 0, 0, []), (23, .nop, 0, 23, 0, 0, [])]
  | 23 => [(23, .iconst (-1), 1, 0, 0, (-1), []), (24, .ireturn, 1, 0, 0, 0, [])]
  | 25 => [(25, .aload_n 0, 1, 0, 0, 0, []), (26, .getfield 57, 3, 11, 7, 0, [(0, 529)]), (29, .aload_n 0, 1, 0, 0, 0, []), (30, .getfield 19, 3, 11, 1, 0, [(0, 523)]), (33, .aload_n 0, 1, 0, 0, 0, []), (34, .getfield 29, 3, 11, 3, 0, [(0, 525)]), (37, .iload_n 1, 1, 1, 0, 0, []), (38, .invokevirtual 203, 3, 67, 4, 0, [(0, 817)]), (41, .istore_n 3, 1, 3, 0, 0, []), (42, .aload_n 0, 1, 0, 0, 0, []), (43, .getfield 57, 3, 11, 7, 0, [(0, 529)]), (46, .getfield 200, 3, 8, 0, 0, [(0, 305)]), (49, .getfield 154, 3, 7, 1, 0, [(0, 176)]), (52, .ifCond .ne 6, 3, 58, 0, 0, []), (55, .bipush (-4), 2, 0, 0, (-4), []), (57, .ireturn, 1, 0, 0, 0, [])]
  | 58 => [(58, .iload_n 2, 1, 2, 0, 0, []), (59, .bipush (-2), 2, 0, 0, (-2), []), (61, .if_icmp .ne 14, 3, 75, 0, 0, []), (64, .aload_n 0, 1, 0, 0, 0, []), (65, .getfield 57, 3, 11, 7, 0, [(0, 529)]), (68, .getfield 200, 3, 8, 0, 0, [(0, 305)]), (71, .getfield 154, 3, 7, 1, 0, [(0, 176)]), (74, .ireturn, 1, 0, 0, 0, [])]
  | 75 => [(75, .iload_n 2, 1, 2, 0, 0, []), (76, .iconst (-1), 1, 0, 0, (-1), []), (77, .if_icmp .ne 7, 3, 84, 0, 0, []), (80, .iload_n 3, 1, 3, 0, 0, []), (81, .goto 14, 3, 95, 0, 0, [])]
  | 84 => [(84, .aload_n 0, 1, 0, 0, 0, []), (85, .getfield 57, 3, 11, 7, 0, [(0, 529)]), (88, .getfield 200, 3, 8, 0, 0, [(0, 305)]), (91, .iload_n 2, 1, 2, 0, 0, []), (92, .invokevirtual 145, 3, 56, 2, 0, [(0, 605)]), (95, .nop, 0, 95, 0, 0, [])]
  | 95 => [(95, .ireturn, 1, 0, 0, 0, [])]
  | _ => []
def mx_k_X11_best : mx_Mt := (mx_b_X11_best, ⟨"TwoMayors", "best", "(II)I"⟩, prog_1_method_17_code, 4, (some .int), "TwoMayors", { frames := 5, cells := 0, slots := 0, locals := 124 }, [0, 23, 25, 58, 75, 84, 95], [0, 816, 59, 814, 815])
def mx_b_X11_lure : Nat → List mx_In := fun t => match t with
  | 0 => [(0, .aload_n 0, 1, 0, 0, 0, []), (1, .getfield 19, 3, 11, 1, 0, [(0, 523)]), (4, .iload_n 1, 1, 1, 0, 0, []), (5, .invokevirtual 104, 3, 9, 2, 0, [(0, 574)]), (8, .ifCond .eq 14, 3, 22, 0, 0, []), (11, .iload_n 2, 1, 2, 0, 0, []), (12, .iconst (-1), 1, 0, 0, (-1), []), (13, .if_icmp .lt 9, 3, 22, 0, 0, []), (16, .iload_n 2, 1, 2, 0, 0, []), (17, .bipush 10, 2, 0, 0, 10, []), (19, .if_icmp .lt 5, 3, 24, 0, 0, []), (22, .nop, 0, 22, 0, 0, [])]
  | 22 => [(22, .iconst (-1), 1, 0, 0, (-1), []), (23, .ireturn, 1, 0, 0, 0, [])]
  | 24 => [(24, .aload_n 0, 1, 0, 0, 0, []), (25, .getfield 57, 3, 11, 7, 0, [(0, 529)]), (28, .aload_n 0, 1, 0, 0, 0, []), (29, .getfield 19, 3, 11, 1, 0, [(0, 523)]), (32, .aload_n 0, 1, 0, 0, 0, []), (33, .getfield 29, 3, 11, 3, 0, [(0, 525)]), (36, .iload_n 1, 1, 1, 0, 0, []), (37, .invokevirtual 207, 3, 64, 4, 0, [(0, 853)]), (40, .aload_n 0, 1, 0, 0, 0, []), (41, .getfield 57, 3, 11, 7, 0, [(0, 529)]), (44, .getfield 200, 3, 8, 0, 0, [(0, 305)]), (47, .iload_n 2, 1, 2, 0, 0, []), (48, .invokestatic 192, 3, 127, 2, 0, [(0, 756)]), (51, .ireturn, 1, 0, 0, 0, [])]
  | _ => []
def mx_k_X11_lure : mx_Mt := (mx_b_X11_lure, ⟨"TwoMayors", "lure", "(II)I"⟩, prog_1_method_18_code, 3, (some .int), "TwoMayors", { frames := 6, cells := 0, slots := 0, locals := 144 }, [0, 22, 24], [0, 852, 59, 850, 851])
def mx_b_X11_sitting : Nat → List mx_In := fun t => match t with
  | 0 => [(0, .aload_n 0, 1, 0, 0, 0, []), (1, .getfield 19, 3, 11, 1, 0, [(0, 523)]), (4, .iload_n 1, 1, 1, 0, 0, []), (5, .invokevirtual 104, 3, 9, 2, 0, [(0, 574)]), (8, .ifCond .eq 18, 3, 26, 0, 0, []), (11, .aload_n 0, 1, 0, 0, 0, []), (12, .getfield 57, 3, 11, 7, 0, [(0, 529)]), (15, .aload_n 0, 1, 0, 0, 0, []), (16, .getfield 19, 3, 11, 1, 0, [(0, 523)]), (19, .iload_n 1, 1, 1, 0, 0, []), (20, .invokevirtual 210, 3, 71, 3, 0, [(0, 874)]), (23, .goto 4, 3, 27, 0, 0, [])]
  | 26 => [(26, .iconst (-1), 1, 0, 0, (-1), []), (27, .nop, 0, 27, 0, 0, [])]
  | 27 => [(27, .ireturn, 1, 0, 0, 0, [])]
  | _ => []
def mx_k_X11_sitting : mx_Mt := (mx_b_X11_sitting, ⟨"TwoMayors", "sitting", "(I)I"⟩, prog_1_method_19_code, 2, (some .int), "TwoMayors", { frames := 2, cells := 0, slots := 0, locals := 48 }, [0, 26, 27], [0, 873, 59, 871, 872])
def mx_b_X11_ways : Nat → List mx_In := fun t => match t with
  | 0 => [(0, .iload_n 1, 1, 1, 0, 0, []), (1, .iconst 1, 1, 0, 0, 1, []), (2, .if_icmp .lt 18, 3, 20, 0, 0, []), (5, .iload_n 1, 1, 1, 0, 0, []), (6, .bipush 8, 2, 0, 0, 8, []), (8, .if_icmp .gt 12, 3, 20, 0, 0, []), (11, .iload_n 2, 1, 2, 0, 0, []), (12, .ifCond .lt 8, 3, 20, 0, 0, []), (15, .iload_n 2, 1, 2, 0, 0, []), (16, .iconst 1, 1, 0, 0, 1, []), (17, .if_icmp .le 5, 3, 22, 0, 0, []), (20, .nop, 0, 20, 0, 0, [])]
  | 20 => [(20, .iconst (-1), 1, 0, 0, (-1), []), (21, .ireturn, 1, 0, 0, 0, [])]
  | 22 => [(22, .aload_n 0, 1, 0, 0, 0, []), (23, .getfield 57, 3, 11, 7, 0, [(0, 529)]), (26, .aload_n 0, 1, 0, 0, 0, []), (27, .getfield 19, 3, 11, 1, 0, [(0, 523)]), (30, .aload_n 0, 1, 0, 0, 0, []), (31, .getfield 29, 3, 11, 3, 0, [(0, 525)]), (34, .iload_n 1, 1, 1, 0, 0, []), (35, .iload_n 2, 1, 2, 0, 0, []), (36, .iconst 1, 1, 0, 0, 1, []), (37, .if_icmp .ne 7, 3, 44, 0, 0, []), (40, .iconst 1, 1, 0, 0, 1, []), (41, .goto 4, 3, 45, 0, 0, [])]
  | 44 => [(44, .iconst 0, 1, 0, 0, 0, []), (45, .nop, 0, 45, 0, 0, [])]
  | 45 => [(45, .invokevirtual 214, 3, 70, 5, 0, [(0, 883)]), (48, .ireturn, 1, 0, 0, 0, [])]
  | _ => []
def mx_k_X11_ways : mx_Mt := (mx_b_X11_ways, ⟨"TwoMayors", "ways", "(II)I"⟩, prog_1_method_20_code, 3, (some .int), "TwoMayors", { frames := 5, cells := 0, slots := 0, locals := 121 }, [0, 20, 22, 44, 45], [0, 882, 59, 880, 881])
def mx_b_X11_seen : Nat → List mx_In := fun t => match t with
  | 0 => [(0, .aload_n 0, 1, 0, 0, 0, []), (1, .getfield 19, 3, 11, 1, 0, [(0, 523)]), (4, .iload_n 1, 1, 1, 0, 0, []), (5, .invokevirtual 104, 3, 9, 2, 0, [(0, 574)]), (8, .ifCond .eq 12, 3, 20, 0, 0, []), (11, .iload_n 2, 1, 2, 0, 0, []), (12, .ifCond .lt 8, 3, 20, 0, 0, []), (15, .iload_n 2, 1, 2, 0, 0, []), (16, .iconst 1, 1, 0, 0, 1, []), (17, .if_icmp .le 5, 3, 22, 0, 0, []), (20, .nop, 0, 20, 0, 0, [])]
  | 20 => [(20, .iconst (-1), 1, 0, 0, (-1), []), (21, .ireturn, 1, 0, 0, 0, [])]
  | 22 => [(22, .aload_n 0, 1, 0, 0, 0, []), (23, .getfield 64, 3, 11, 8, 0, [(0, 530)]), (26, .iload_n 1, 1, 1, 0, 0, []), (27, .iload_n 2, 1, 2, 0, 0, []), (28, .iconst 1, 1, 0, 0, 1, []), (29, .if_icmp .ne 7, 3, 36, 0, 0, []), (32, .iconst 1, 1, 0, 0, 1, []), (33, .goto 4, 3, 37, 0, 0, [])]
  | 36 => [(36, .iconst 0, 1, 0, 0, 0, []), (37, .nop, 0, 37, 0, 0, [])]
  | 37 => [(37, .invokevirtual 218, 3, 29, 3, 0, [(0, 899)]), (40, .ifCond .eq 13, 3, 53, 0, 0, []), (43, .aload_n 0, 1, 0, 0, 0, []), (44, .getfield 64, 3, 11, 8, 0, [(0, 530)]), (47, .getfield 222, 3, 3, 2, 0, [(0, 327)]), (50, .goto 5, 3, 55, 0, 0, [])]
  | 53 => [(53, .bipush (-3), 2, 0, 0, (-3), []), (55, .nop, 0, 55, 0, 0, [])]
  | 55 => [(55, .ireturn, 1, 0, 0, 0, [])]
  | _ => []
def mx_k_X11_seen : mx_Mt := (mx_b_X11_seen, ⟨"TwoMayors", "seen", "(II)I"⟩, prog_1_method_21_code, 3, (some .int), "TwoMayors", { frames := 2, cells := 0, slots := 0, locals := 42 }, [0, 20, 22, 36, 37, 53, 55], [0, 898, 59, 896, 897])
def mx_b_X11_forget : Nat → List mx_In := fun t => match t with
  | 0 => [(0, .aload_n 0, 1, 0, 0, 0, []), (1, .getfield 64, 3, 11, 8, 0, [(0, 530)]), (4, .getfield 222, 3, 3, 2, 0, [(0, 327)]), (7, .istore_n 1, 1, 1, 0, 0, []), (8, .aload_n 0, 1, 0, 0, 0, []), (9, .getfield 64, 3, 11, 8, 0, [(0, 530)]), (12, .invokevirtual 223, 3, 28, 1, 0, [(0, 908)]), (15, .iload_n 1, 1, 1, 0, 0, []), (16, .ireturn, 1, 0, 0, 0, [])]
  | _ => []
def mx_k_X11_forget : mx_Mt := (mx_b_X11_forget, ⟨"TwoMayors", "forget", "()I"⟩, prog_1_method_22_code, 2, (some .int), "TwoMayors", { frames := 1, cells := 0, slots := 0, locals := 20 }, [0], [0, 907, 59, 905, 906])
def mx_b_X11_guessed : Nat → List mx_In := fun t => match t with
  | 0 => [(0, .iload_n 1, 1, 1, 0, 0, []), (1, .ifCond .lt 8, 3, 9, 0, 0, []), (4, .iload_n 1, 1, 1, 0, 0, []), (5, .iconst 2, 1, 0, 0, 2, []), (6, .if_icmp .le 5, 3, 11, 0, 0, []), (9, .nop, 0, 9, 0, 0, [])]
  | 9 => [(9, .iconst (-1), 1, 0, 0, (-1), []), (10, .ireturn, 1, 0, 0, 0, [])]
  | 11 => [(11, .aload_n 0, 1, 0, 0, 0, []), (12, .getfield 64, 3, 11, 8, 0, [(0, 530)]), (15, .aload_n 0, 1, 0, 0, 0, []), (16, .getfield 19, 3, 11, 1, 0, [(0, 523)]), (19, .aload_n 0, 1, 0, 0, 0, []), (20, .getfield 48, 3, 11, 6, 0, [(0, 528)]), (23, .invokevirtual 224, 3, 30, 3, 0, [(0, 913)]), (26, .iload_n 1, 1, 1, 0, 0, []), (27, .ifCond .ne 11, 3, 38, 0, 0, []), (30, .aload_n 0, 1, 0, 0, 0, []), (31, .getfield 64, 3, 11, 8, 0, [(0, 530)]), (34, .getfield 228, 3, 3, 5, 0, [(0, 331)]), (37, .ireturn, 1, 0, 0, 0, [])]
  | 38 => [(38, .aload_n 0, 1, 0, 0, 0, []), (39, .getfield 64, 3, 11, 8, 0, [(0, 530)]), (42, .getfield 228, 3, 3, 5, 0, [(0, 331)]), (45, .ifCond .ne 6, 3, 51, 0, 0, []), (48, .bipush (-4), 2, 0, 0, (-4), []), (50, .ireturn, 1, 0, 0, 0, [])]
  | 51 => [(51, .iload_n 1, 1, 1, 0, 0, []), (52, .iconst 1, 1, 0, 0, 1, []), (53, .if_icmp .ne 13, 3, 66, 0, 0, []), (56, .aload_n 0, 1, 0, 0, 0, []), (57, .getfield 64, 3, 11, 8, 0, [(0, 530)]), (60, .getfield 231, 3, 3, 6, 0, [(0, 333)]), (63, .goto 10, 3, 73, 0, 0, [])]
  | 66 => [(66, .aload_n 0, 1, 0, 0, 0, []), (67, .getfield 64, 3, 11, 8, 0, [(0, 530)]), (70, .getfield 234, 3, 3, 7, 0, [(0, 335)]), (73, .nop, 0, 73, 0, 0, [])]
  | 73 => [(73, .ireturn, 1, 0, 0, 0, [])]
  | _ => []
def mx_k_X11_guessed : mx_Mt := (mx_b_X11_guessed, ⟨"TwoMayors", "guessed", "(I)I"⟩, prog_1_method_23_code, 2, (some .int), "TwoMayors", { frames := 4, cells := 0, slots := 0, locals := 95 }, [0, 9, 11, 38, 51, 66, 73], [0, 912, 59, 910, 911])
def mx_b_X11_council : Nat → List mx_In := fun t => match t with
  | 0 => [(0, .iload_n 1, 1, 1, 0, 0, []), (1, .ifCond .lt 30, 3, 31, 0, 0, []), (4, .iload_n 1, 1, 1, 0, 0, []), (5, .sipush 9999, 3, 0, 0, 9999, []), (8, .if_icmp .gt 23, 3, 31, 0, 0, []), (11, .iload_n 2, 1, 2, 0, 0, []), (12, .iconst 1, 1, 0, 0, 1, []), (13, .if_icmp .lt 18, 3, 31, 0, 0, []), (16, .iload_n 2, 1, 2, 0, 0, []), (17, .bipush 60, 2, 0, 0, 60, []), (19, .if_icmp .gt 12, 3, 31, 0, 0, []), (22, .iload_n 3, 1, 3, 0, 0, []), (23, .ifCond .lt 8, 3, 31, 0, 0, []), (26, .iload_n 3, 1, 3, 0, 0, []), (27, .iconst 2, 1, 0, 0, 2, []), (28, .if_icmp .le 5, 3, 33, 0, 0, []), (31, .nop, 0, 31, 0, 0, [])]
  | 31 => [(31, .iconst (-1), 1, 0, 0, (-1), []), (32, .ireturn, 1, 0, 0, 0, [])]
  | 33 => [(33, .aload_n 0, 1, 0, 0, 0, []), (34, .getfield 71, 3, 11, 9, 0, [(0, 531)]), (37, .aload_n 0, 1, 0, 0, 0, []), (38, .getfield 19, 3, 11, 1, 0, [(0, 523)]), (41, .aload_n 0, 1, 0, 0, 0, []), (42, .getfield 29, 3, 11, 3, 0, [(0, 525)]), (45, .iload_n 1, 1, 1, 0, 0, []), (46, .iload_n 2, 1, 2, 0, 0, []), (47, .invokevirtual 237, 3, 17, 5, 0, [(0, 927)]), (50, .astore 4, 2, 4, 0, 0, []), (52, .iload_n 3, 1, 3, 0, 0, []), (53, .lookupswitch 39 #[(0, 27), (1, 33)], 27, 92, 0, 0, [(0, 80), (1, 86)])]
  | 80 => [(80, .aload 4, 2, 4, 0, 0, []), (82, .getfield 127, 3, 9, 3, 0, [(0, 213)]), (85, .ireturn, 1, 0, 0, 0, [])]
  | 86 => [(86, .aload 4, 2, 4, 0, 0, []), (88, .invokevirtual 241, 3, 78, 1, 0, [(0, 957)]), (91, .ireturn, 1, 0, 0, 0, [])]
  | 92 => [(92, .aload 4, 2, 4, 0, 0, []), (94, .getfield 244, 3, 9, 1, 0, [(0, 209)]), (97, .getfield 135, 3, 4, 1, 0, [(0, 192)]), (100, .aload 4, 2, 4, 0, 0, []), (102, .getfield 248, 3, 9, 2, 0, [(0, 211)]), (105, .getfield 135, 3, 4, 1, 0, [(0, 192)]), (108, .isub, 1, 0, 0, 0, []), (109, .sipush 500, 3, 0, 0, 500, []), (112, .iadd, 1, 0, 0, 0, []), (113, .ireturn, 1, 0, 0, 0, [])]
  | _ => []
def mx_k_X11_council : mx_Mt := (mx_b_X11_council, ⟨"TwoMayors", "council", "(III)I"⟩, prog_1_method_24_code, 5, (some .int), "TwoMayors", { frames := 7, cells := 0, slots := 0, locals := 158 }, [0, 31, 33, 80, 86, 92], [0, 926, 59, 924, 925])
def mx_b_X11_keep : Nat → List mx_In := fun t => match t with
  | 0 => [(0, .aload_n 0, 1, 0, 0, 0, []), (1, .getfield 42, 3, 11, 5, 0, [(0, 527)]), (4, .getfield 191, 3, 6, 1, 0, [(0, 245)]), (7, .iconst 2, 1, 0, 0, 2, []), (8, .if_icmp .lt 6, 3, 14, 0, 0, []), (11, .bipush (-3), 2, 0, 0, (-3), []), (13, .ireturn, 1, 0, 0, 0, [])]
  | 14 => [(14, .aload_n 0, 1, 0, 0, 0, []), (15, .getfield 42, 3, 11, 5, 0, [(0, 527)]), (18, .aload_n 0, 1, 0, 0, 0, []), (19, .getfield 29, 3, 11, 3, 0, [(0, 525)]), (22, .invokevirtual 157, 3, 49, 2, 0, [(0, 623)]), (25, .aload_n 0, 1, 0, 0, 0, []), (26, .getfield 42, 3, 11, 5, 0, [(0, 527)]), (29, .getfield 191, 3, 6, 1, 0, [(0, 245)]), (32, .ireturn, 1, 0, 0, 0, [])]
  | _ => []
def mx_k_X11_keep : mx_Mt := (mx_b_X11_keep, ⟨"TwoMayors", "keep", "()I"⟩, prog_1_method_25_code, 1, (some .int), "TwoMayors", { frames := 4, cells := 0, slots := 0, locals := 86 }, [0, 14], [0, 964, 59, 962, 963])
def mx_b_X11_back : Nat → List mx_In := fun t => match t with
  | 0 => [(0, .aload_n 0, 1, 0, 0, 0, []), (1, .getfield 42, 3, 11, 5, 0, [(0, 527)]), (4, .aload_n 0, 1, 0, 0, 0, []), (5, .getfield 29, 3, 11, 3, 0, [(0, 525)]), (8, .invokevirtual 187, 3, 50, 2, 0, [(0, 748)]), (11, .ifCond .ne 6, 3, 17, 0, 0, []), (14, .bipush (-2), 2, 0, 0, (-2), []), (16, .ireturn, 1, 0, 0, 0, [])]
  | 17 => [(17, .aload_n 0, 1, 0, 0, 0, []), (18, .getfield 38, 3, 11, 4, 0, [(0, 526)]), (21, .invokevirtual 251, 3, 48, 1, 0, [(0, 506)]), (24, .aload_n 0, 1, 0, 0, 0, []), (25, .getfield 42, 3, 11, 5, 0, [(0, 527)]), (28, .getfield 191, 3, 6, 1, 0, [(0, 245)]), (31, .ireturn, 1, 0, 0, 0, [])]
  | _ => []
def mx_k_X11_back : mx_Mt := (mx_b_X11_back, ⟨"TwoMayors", "back", "()I"⟩, prog_1_method_26_code, 1, (some .int), "TwoMayors", { frames := 4, cells := 0, slots := 0, locals := 86 }, [0, 17], [0, 968, 59, 966, 967])
def mx_b_X11_count : Nat → List mx_In := fun t => match t with
  | 0 => [(0, .iload_n 1, 1, 1, 0, 0, []), (1, .tableswitch 138 0 9 #[55, 63, 71, 82, 90, 98, 106, 114, 122, 130], 55, 139, 0, 0, [(0, 56), (1, 64), (2, 72), (3, 83), (4, 91), (5, 99), (6, 107), (7, 115), (8, 123), (9, 131)])]
  | 56 => [(56, .aload_n 0, 1, 0, 0, 0, []), (57, .getfield 19, 3, 11, 1, 0, [(0, 523)]), (60, .getfield 252, 3, 0, 3, 0, [(0, 119)]), (63, .ireturn, 1, 0, 0, 0, [])]
  | 64 => [(64, .aload_n 0, 1, 0, 0, 0, []), (65, .getfield 29, 3, 11, 3, 0, [(0, 525)]), (68, .getfield 255, 3, 9, 4, 0, [(0, 215)]), (71, .ireturn, 1, 0, 0, 0, [])]
  | 72 => [(72, .aload_n 0, 1, 0, 0, 0, []), (73, .getfield 29, 3, 11, 3, 0, [(0, 525)]), (76, .getfield 141, 3, 9, 0, 0, [(0, 207)]), (79, .getfield 154, 3, 7, 1, 0, [(0, 176)]), (82, .ireturn, 1, 0, 0, 0, [])]
  | 83 => [(83, .aload_n 0, 1, 0, 0, 0, []), (84, .getfield 29, 3, 11, 3, 0, [(0, 525)]), (87, .invokevirtual 241, 3, 78, 1, 0, [(0, 957)]), (90, .ireturn, 1, 0, 0, 0, [])]
  | 91 => [(91, .aload_n 0, 1, 0, 0, 0, []), (92, .getfield 29, 3, 11, 3, 0, [(0, 525)]), (95, .getfield 258, 3, 9, 5, 0, [(0, 217)]), (98, .ireturn, 1, 0, 0, 0, [])]
  | 99 => [(99, .aload_n 0, 1, 0, 0, 0, []), (100, .getfield 19, 3, 11, 1, 0, [(0, 523)]), (103, .getfield 261, 3, 0, 9, 0, [(0, 134)]), (106, .ireturn, 1, 0, 0, 0, [])]
  | 107 => [(107, .aload_n 0, 1, 0, 0, 0, []), (108, .getfield 64, 3, 11, 8, 0, [(0, 530)]), (111, .getfield 222, 3, 3, 2, 0, [(0, 327)]), (114, .ireturn, 1, 0, 0, 0, [])]
  | 115 => [(115, .aload_n 0, 1, 0, 0, 0, []), (116, .getfield 38, 3, 11, 4, 0, [(0, 526)]), (119, .getfield 191, 3, 6, 1, 0, [(0, 245)]), (122, .ireturn, 1, 0, 0, 0, [])]
  | 123 => [(123, .aload_n 0, 1, 0, 0, 0, []), (124, .getfield 42, 3, 11, 5, 0, [(0, 527)]), (127, .getfield 191, 3, 6, 1, 0, [(0, 245)]), (130, .ireturn, 1, 0, 0, 0, [])]
  | 131 => [(131, .aload_n 0, 1, 0, 0, 0, []), (132, .getfield 12, 3, 11, 0, 0, [(0, 522)]), (135, .getfield 97, 3, 10, 2, 0, [(0, 94)]), (138, .ireturn, 1, 0, 0, 0, [])]
  | 139 => [(139, .iconst (-1), 1, 0, 0, (-1), []), (140, .ireturn, 1, 0, 0, 0, [])]
  | _ => []
def mx_k_X11_count : mx_Mt := (mx_b_X11_count, ⟨"TwoMayors", "count", "(I)I"⟩, prog_1_method_27_code, 2, (some .int), "TwoMayors", { frames := 1, cells := 0, slots := 0, locals := 20 }, [0, 56, 64, 72, 83, 91, 99, 107, 115, 123, 131, 139], [0, 972, 59, 970, 971])
def mx_b_X11_layText : Nat → List mx_In := fun t => match t with
  | 0 => [(0, .aload_n 0, 1, 0, 0, 0, []), (1, .getfield 12, 3, 11, 0, 0, [(0, 522)]), (4, .aload_n 0, 1, 0, 0, 0, []), (5, .getfield 23, 3, 11, 2, 0, [(0, 524)]), (8, .invokevirtual 100, 3, 91, 2, 0, [(0, 425)]), (11, .bipush (-4), 2, 0, 0, (-4), []), (13, .if_icmp .ne 13, 3, 26, 0, 0, []), (16, .aload_n 0, 1, 0, 0, 0, []), (17, .getfield 23, 3, 11, 2, 0, [(0, 524)]), (20, .getfield 252, 3, 0, 3, 0, [(0, 119)]), (23, .ifCond .ne 6, 3, 29, 0, 0, []), (26, .nop, 0, 26, 0, 0, [])]
  | 26 => [(26, .bipush (-2), 2, 0, 0, (-2), []), (28, .ireturn, 1, 0, 0, 0, [])]
  | 29 => [(29, .aload_n 0, 1, 0, 0, 0, []), (30, .getfield 19, 3, 11, 1, 0, [(0, 523)]), (33, .astore_n 1, 1, 1, 0, 0, []), (34, .aload_n 0, 1, 0, 0, 0, []), (35, .aload_n 0, 1, 0, 0, 0, []), (36, .getfield 23, 3, 11, 2, 0, [(0, 524)]), (39, .putfield 19, 3, 11, 1, 0, [(0, 523)]), (42, .aload_n 0, 1, 0, 0, 0, []), (43, .aload_n 1, 1, 1, 0, 0, []), (44, .putfield 23, 3, 11, 2, 0, [(0, 524)]), (47, .aload_n 0, 1, 0, 0, 0, []), (48, .getfield 29, 3, 11, 3, 0, [(0, 525)]), (51, .aload_n 0, 1, 0, 0, 0, []), (52, .getfield 19, 3, 11, 1, 0, [(0, 523)]), (55, .invokevirtual 264, 3, 73, 2, 0, [(0, 494)]), (58, .aload_n 0, 1, 0, 0, 0, []), (59, .getfield 38, 3, 11, 4, 0, [(0, 526)]), (62, .invokevirtual 251, 3, 48, 1, 0, [(0, 506)]), (65, .aload_n 0, 1, 0, 0, 0, []), (66, .getfield 42, 3, 11, 5, 0, [(0, 527)]), (69, .invokevirtual 251, 3, 48, 1, 0, [(0, 506)]), (72, .aload_n 0, 1, 0, 0, 0, []), (73, .getfield 64, 3, 11, 8, 0, [(0, 530)]), (76, .invokevirtual 268, 3, 27, 1, 0, [(0, 510)]), (79, .aload_n 0, 1, 0, 0, 0, []), (80, .getfield 19, 3, 11, 1, 0, [(0, 523)]), (83, .getfield 252, 3, 0, 3, 0, [(0, 119)]), (86, .ireturn, 1, 0, 0, 0, [])]
  | _ => []
def mx_k_X11_layText : mx_Mt := (mx_b_X11_layText, ⟨"TwoMayors", "layText", "()I"⟩, prog_1_method_28_code, 2, (some .int), "TwoMayors", { frames := 5, cells := 0, slots := 0, locals := 112 }, [0, 26, 29], [0, 424, 59, 423, 0])
def mx_b_X11_findFinishing : Nat → List mx_In := fun t => match t with
  | 0 => [(0, .aload_n 0, 1, 0, 0, 0, []), (1, .getfield 48, 3, 11, 6, 0, [(0, 528)]), (4, .aload_n 0, 1, 0, 0, 0, []), (5, .getfield 19, 3, 11, 1, 0, [(0, 523)]), (8, .aload_n 0, 1, 0, 0, 0, []), (9, .getfield 29, 3, 11, 3, 0, [(0, 525)]), (12, .invokevirtual 271, 3, 79, 1, 0, [(0, 689)]), (15, .aload_n 0, 1, 0, 0, 0, []), (16, .getfield 29, 3, 11, 3, 0, [(0, 525)]), (19, .aload_n 0, 1, 0, 0, 0, []), (20, .getfield 19, 3, 11, 1, 0, [(0, 523)]), (23, .invokevirtual 274, 3, 82, 2, 0, [(0, 690)]), (26, .invokevirtual 277, 3, 24, 4, 0, [(0, 702)]), (29, .return_, 1, 0, 0, 0, [])]
  | _ => []
def mx_k_X11_findFinishing : mx_Mt := (mx_b_X11_findFinishing, ⟨"TwoMayors", "findFinishing", "()V"⟩, prog_1_method_29_code, 1, none, "TwoMayors", { frames := 3, cells := 0, slots := 0, locals := 72 }, [0], [0, 688, 59, 687, 14])
def mx_b_X11_told : Nat → List mx_In := fun t => match t with
  | 0 => [(0, .aload_n 0, 1, 0, 0, 0, []), (1, .getfield 154, 3, 7, 1, 0, [(0, 176)]), (4, .ifCond .ne 6, 3, 10, 0, 0, []), (7, .bipush (-4), 2, 0, 0, (-4), []), (9, .ireturn, 1, 0, 0, 0, [])]
  | 10 => [(10, .iload_n 1, 1, 1, 0, 0, []), (11, .iconst (-1), 1, 0, 0, (-1), []), (12, .if_icmp .ne 10, 3, 22, 0, 0, []), (15, .aload_n 0, 1, 0, 0, 0, []), (16, .getfield 154, 3, 7, 1, 0, [(0, 176)]), (19, .goto 8, 3, 27, 0, 0, [])]
  | 22 => [(22, .aload_n 0, 1, 0, 0, 0, []), (23, .iload_n 1, 1, 1, 0, 0, []), (24, .invokevirtual 145, 3, 56, 2, 0, [(0, 605)]), (27, .nop, 0, 27, 0, 0, [])]
  | 27 => [(27, .ireturn, 1, 0, 0, 0, [])]
  | _ => []
def mx_k_X11_told : mx_Mt := (mx_b_X11_told, ⟨"TwoMayors", "told", "(LTwoMayors$Row;I)I"⟩, prog_1_method_30_code, 2, (some .int), "TwoMayors", { frames := 1, cells := 0, slots := 0, locals := 21 }, [0, 10, 22, 27], [1, 758, 59, 757, 0])
def mx_b_X11_isMayor : Nat → List mx_In := fun t => match t with
  | 0 => [(0, .iload_n 0, 1, 0, 0, 0, []), (1, .ifCond .eq 8, 3, 9, 0, 0, []), (4, .iload_n 0, 1, 0, 0, 0, []), (5, .iconst 1, 1, 0, 0, 1, []), (6, .if_icmp .ne 7, 3, 13, 0, 0, []), (9, .nop, 0, 9, 0, 0, [])]
  | 9 => [(9, .iconst 1, 1, 0, 0, 1, []), (10, .goto 4, 3, 14, 0, 0, [])]
  | 13 => [(13, .iconst 0, 1, 0, 0, 0, []), (14, .nop, 0, 14, 0, 0, [])]
  | 14 => [(14, .ireturn, 1, 0, 0, 0, [])]
  | _ => []
def mx_k_X11_isMayor : mx_Mt := (mx_b_X11_isMayor, ⟨"TwoMayors", "isMayor", "(I)Z"⟩, prog_1_method_31_code, 1, (some .boolean), "TwoMayors", { frames := 0, cells := 0, slots := 0, locals := 0 }, [0, 9, 13, 14], [1, 481, 59, 480, 0])
def mx_b_X11_bit : Nat → List mx_In := fun t => match t with
  | 0 => [(0, .iload_n 0, 1, 0, 0, 0, []), (1, .ifCond .lt 15, 3, 16, 0, 0, []), (4, .iload_n 0, 1, 0, 0, 0, []), (5, .bipush 10, 2, 0, 0, 10, []), (7, .if_icmp .ge 9, 3, 16, 0, 0, []), (10, .iconst 1, 1, 0, 0, 1, []), (11, .iload_n 0, 1, 0, 0, 0, []), (12, .ishl, 1, 0, 0, 0, []), (13, .goto 4, 3, 17, 0, 0, [])]
  | 16 => [(16, .iconst 0, 1, 0, 0, 0, []), (17, .nop, 0, 17, 0, 0, [])]
  | 17 => [(17, .ireturn, 1, 0, 0, 0, [])]
  | _ => []
def mx_k_X11_bit : mx_Mt := (mx_b_X11_bit, ⟨"TwoMayors", "bit", "(I)I"⟩, prog_1_method_32_code, 1, (some .int), "TwoMayors", { frames := 0, cells := 0, slots := 0, locals := 0 }, [0, 16, 17], [1, 466, 59, 465, 0])
def mx_b_X12_init : Nat → List mx_In := fun t => match t with
  | 0 => [(0, .aload_n 0, 1, 0, 0, 0, []), (1, .invokespecial 1, 3, 1000, 1, 0, [(0, 978), (0, 83), (0, 84)]), (4, .aload_n 0, 1, 0, 0, 0, []), (5, .sipush 200, 3, 0, 0, 200, []), (8, .newarray .int, 2, 0, 0, 0, [(0, 105)]), (10, .putfield 7, 3, 12, 0, 0, [(0, 991)]), (13, .aload_n 0, 1, 0, 0, 0, []), (14, .bipush 35, 2, 0, 0, 35, []), (16, .newarray .int, 2, 0, 0, 0, [(0, 105)]), (18, .putfield 13, 3, 12, 2, 0, [(0, 993)]), (21, .aload_n 0, 1, 0, 0, 0, []), (22, .bipush 35, 2, 0, 0, 35, []), (24, .newarray .int, 2, 0, 0, 0, [(0, 105)]), (26, .putfield 16, 3, 12, 3, 0, [(0, 994)]), (29, .aload_n 0, 1, 0, 0, 0, []), (30, .bipush 22, 2, 0, 0, 22, []), (32, .newarray .int, 2, 0, 0, 0, [(0, 105)]), (34, .putfield 19, 3, 12, 4, 0, [(0, 995)]), (37, .aload_n 0, 1, 0, 0, 0, []), (38, .sipush 176, 3, 0, 0, 176, []), (41, .newarray .int, 2, 0, 0, 0, [(0, 105)]), (43, .putfield 22, 3, 12, 5, 0, [(0, 996)]), (46, .aload_n 0, 1, 0, 0, 0, []), (47, .bipush 44, 2, 0, 0, 44, []), (49, .newarray .int, 2, 0, 0, 0, [(0, 105)]), (51, .putfield 25, 3, 12, 7, 0, [(0, 998)]), (54, .aload_n 0, 1, 0, 0, 0, []), (55, .bipush 8, 2, 0, 0, 8, []), (57, .newarray .int, 2, 0, 0, 0, [(0, 105)]), (59, .putfield 28, 3, 12, 9, 0, [(0, 1000)]), (62, .aload_n 0, 1, 0, 0, 0, []), (63, .iconst 5, 1, 0, 0, 5, []), (64, .newarray .int, 2, 0, 0, 0, [(0, 105)]), (66, .putfield 31, 3, 12, 12, 0, [(0, 1003)]), (69, .aload_n 0, 1, 0, 0, 0, []), (70, .bipush 10, 2, 0, 0, 10, []), (72, .newarray .int, 2, 0, 0, 0, [(0, 105)]), (74, .putfield 34, 3, 12, 13, 0, [(0, 1004)]), (77, .aload_n 0, 1, 0, 0, 0, []), (78, .bipush 20, 2, 0, 0, 20, []), (80, .newarray .int, 2, 0, 0, 0, [(0, 105)]), (82, .putfield 37, 3, 12, 14, 0, [(0, 1005)]), (85, .aload_n 0, 1, 0, 0, 0, []), (86, .bipush 100, 2, 0, 0, 100, []), (88, .newarray .int, 2, 0, 0, 0, [(0, 105)]), (90, .putfield 40, 3, 12, 15, 0, [(0, 1006)]), (93, .aload_n 0, 1, 0, 0, 0, []), (94, .bipush 10, 2, 0, 0, 10, []), (96, .newarray .int, 2, 0, 0, 0, [(0, 105)]), (98, .putfield 43, 3, 12, 16, 0, [(0, 1007)]), (101, .aload_n 0, 1, 0, 0, 0, []), (102, .bipush 10, 2, 0, 0, 10, []), (104, .newarray .int, 2, 0, 0, 0, [(0, 105)]), (106, .putfield 46, 3, 12, 17, 0, [(0, 1008)]), (109, .aload_n 0, 1, 0, 0, 0, []), (110, .bipush 10, 2, 0, 0, 10, []), (112, .newarray .int, 2, 0, 0, 0, [(0, 105)]), (114, .putfield 49, 3, 12, 18, 0, [(0, 1009)]), (117, .aload_n 0, 1, 0, 0, 0, []), (118, .bipush 22, 2, 0, 0, 22, []), (120, .newarray .int, 2, 0, 0, 0, [(0, 105)]), (122, .putfield 52, 3, 12, 19, 0, [(0, 1010)]), (125, .aload_n 0, 1, 0, 0, 0, []), (126, .invokevirtual 55, 3, 139, 1, 0, [(0, 979)]), (129, .aload_n 0, 1, 0, 0, 0, []), (130, .iconst 0, 1, 0, 0, 0, []), (131, .iconst 3, 1, 0, 0, 3, []), (132, .invokevirtual 58, 3, 140, 3, 0, [(0, 983)]), (135, .aload_n 0, 1, 0, 0, 0, []), (136, .iconst 0, 1, 0, 0, 0, []), (137, .iconst 1, 1, 0, 0, 1, []), (138, .invokevirtual 58, 3, 140, 3, 0, [(0, 983)]), (141, .aload_n 0, 1, 0, 0, 0, []), (142, .iconst 1, 1, 0, 0, 1, []), (143, .iconst 5, 1, 0, 0, 5, []), (144, .invokevirtual 58, 3, 140, 3, 0, [(0, 983)]), (147, .aload_n 0, 1, 0, 0, 0, []), (148, .iconst 2, 1, 0, 0, 2, []), (149, .iconst 2, 1, 0, 0, 2, []), (150, .invokevirtual 58, 3, 140, 3, 0, [(0, 983)]), (153, .aload_n 0, 1, 0, 0, 0, []), (154, .iconst 2, 1, 0, 0, 2, []), (155, .iconst 4, 1, 0, 0, 4, []), (156, .invokevirtual 58, 3, 140, 3, 0, [(0, 983)]), (159, .aload_n 0, 1, 0, 0, 0, []), (160, .iconst 3, 1, 0, 0, 3, []), (161, .iconst 1, 1, 0, 0, 1, []), (162, .invokevirtual 58, 3, 140, 3, 0, [(0, 983)]), (165, .aload_n 0, 1, 0, 0, 0, []), (166, .iconst 0, 1, 0, 0, 0, []), (167, .iconst 2, 1, 0, 0, 2, []), (168, .invokevirtual 58, 3, 140, 3, 0, [(0, 983)]), (171, .aload_n 0, 1, 0, 0, 0, []), (172, .getfield 16, 3, 12, 3, 0, [(0, 994)]), (175, .bipush 23, 2, 0, 0, 23, []), (177, .bipush 6, 2, 0, 0, 6, []), (179, .iastore, 1, 0, 0, 0, []), (180, .aload_n 0, 1, 0, 0, 0, []), (181, .getfield 16, 3, 12, 3, 0, [(0, 994)]), (184, .bipush 24, 2, 0, 0, 24, []), (186, .bipush 72, 2, 0, 0, 72, []), (188, .iastore, 1, 0, 0, 0, []), (189, .aload_n 0, 1, 0, 0, 0, []), (190, .getfield 16, 3, 12, 3, 0, [(0, 994)]), (193, .bipush 25, 2, 0, 0, 25, []), (195, .bipush 24, 2, 0, 0, 24, []), (197, .iastore, 1, 0, 0, 0, []), (198, .aload_n 0, 1, 0, 0, 0, []), (199, .getfield 16, 3, 12, 3, 0, [(0, 994)]), (202, .bipush 26, 2, 0, 0, 26, []), (204, .iconst 4, 1, 0, 0, 4, []), (205, .iastore, 1, 0, 0, 0, []), (206, .aload_n 0, 1, 0, 0, 0, []), (207, .getfield 16, 3, 12, 3, 0, [(0, 994)]), (210, .bipush 28, 2, 0, 0, 28, []), (212, .bipush 8, 2, 0, 0, 8, []), (214, .iastore, 1, 0, 0, 0, []), (215, .aload_n 0, 1, 0, 0, 0, []), (216, .getfield 16, 3, 12, 3, 0, [(0, 994)]), (219, .bipush 29, 2, 0, 0, 29, []), (221, .bipush 17, 2, 0, 0, 17, []), (223, .iastore, 1, 0, 0, 0, []), (224, .aload_n 0, 1, 0, 0, 0, []), (225, .getfield 16, 3, 12, 3, 0, [(0, 994)]), (228, .bipush 33, 2, 0, 0, 33, []), (230, .bipush 24, 2, 0, 0, 24, []), (232, .iastore, 1, 0, 0, 0, []), (233, .aload_n 0, 1, 0, 0, 0, []), (234, .getfield 16, 3, 12, 3, 0, [(0, 994)]), (237, .bipush 34, 2, 0, 0, 34, []), (239, .bipush 10, 2, 0, 0, 10, []), (241, .iastore, 1, 0, 0, 0, []), (242, .aload_n 0, 1, 0, 0, 0, []), (243, .invokevirtual 62, 3, 144, 1, 0, [(0, 987)]), (246, .return_, 1, 0, 0, 0, [])]
  | _ => []
def mx_k_X12_init : mx_Mt := (mx_b_X12_init, ⟨"TwoMayorsModel", "<init>", "()V"⟩, prog_14_method_1_code, 1, none, "TwoMayorsModel", { frames := 1, cells := 15, slots := 707, locals := 22 }, [0], [2, 977, 76, 976, 0])
def mx_b_X12_in : Nat → List mx_In := fun t => match t with
  | 0 => [(0, .iload_n 0, 1, 0, 0, 0, []), (1, .iload_n 1, 1, 1, 0, 0, []), (2, .if_icmp .lt 12, 3, 14, 0, 0, []), (5, .iload_n 0, 1, 0, 0, 0, []), (6, .iload_n 2, 1, 2, 0, 0, []), (7, .if_icmp .gt 7, 3, 14, 0, 0, []), (10, .iconst 1, 1, 0, 0, 1, []), (11, .goto 4, 3, 15, 0, 0, [])]
  | 14 => [(14, .iconst 0, 1, 0, 0, 0, []), (15, .nop, 0, 15, 0, 0, [])]
  | 15 => [(15, .ireturn, 1, 0, 0, 0, [])]
  | _ => []
def mx_k_X12_in : mx_Mt := (mx_b_X12_in, ⟨"TwoMayorsModel", "in", "(III)Z"⟩, prog_14_method_3_code, 3, (some .boolean), "TwoMayorsModel", { frames := 0, cells := 0, slots := 0, locals := 0 }, [0, 14, 15], [1, 1058, 76, 1057, 0])
def mx_b_X12_isWord : Nat → List mx_In := fun t => match t with
  | 0 => [(0, .iload_n 1, 1, 1, 0, 0, []), (1, .iconst 0, 1, 0, 0, 0, []), (2, .aload_n 0, 1, 0, 0, 0, []), (3, .getfield 13, 3, 12, 2, 0, [(0, 993)]), (6, .iconst 0, 1, 0, 0, 0, []), (7, .iaload, 1, 0, 0, 0, []), (8, .iconst 1, 1, 0, 0, 1, []), (9, .isub, 1, 0, 0, 0, []), (10, .invokestatic 65, 3, 131, 3, 0, [(0, 1056)]), (13, .ireturn, 1, 0, 0, 0, [])]
  | _ => []
def mx_k_X12_isWord : mx_Mt := (mx_b_X12_isWord, ⟨"TwoMayorsModel", "isWord", "(I)Z"⟩, prog_14_method_4_code, 2, (some .boolean), "TwoMayorsModel", { frames := 1, cells := 0, slots := 0, locals := 22 }, [0], [0, 1097, 76, 1096, 36])
def mx_b_X12_has : Nat → List mx_In := fun t => match t with
  | 0 => [(0, .iload_n 0, 1, 0, 0, 0, []), (1, .iload_n 1, 1, 1, 0, 0, []), (2, .ishr, 1, 0, 0, 0, []), (3, .iconst 1, 1, 0, 0, 1, []), (4, .iand, 1, 0, 0, 0, []), (5, .iconst 1, 1, 0, 0, 1, []), (6, .if_icmp .ne 7, 3, 13, 0, 0, []), (9, .iconst 1, 1, 0, 0, 1, []), (10, .goto 4, 3, 14, 0, 0, [])]
  | 13 => [(13, .iconst 0, 1, 0, 0, 0, []), (14, .nop, 0, 14, 0, 0, [])]
  | 14 => [(14, .ireturn, 1, 0, 0, 0, [])]
  | _ => []
def mx_k_X12_has : mx_Mt := (mx_b_X12_has, ⟨"TwoMayorsModel", "has", "(II)Z"⟩, prog_14_method_5_code, 2, (some .boolean), "TwoMayorsModel", { frames := 0, cells := 0, slots := 0, locals := 0 }, [0, 13, 14], [1, 1100, 76, 1099, 0])
def mx_b_X12_write : Nat → List mx_In := fun t => match t with
  | 0 => [(0, .iload_n 1, 1, 1, 0, 0, []), (1, .bipush 32, 2, 0, 0, 32, []), (3, .bipush 126, 2, 0, 0, 126, []), (5, .invokestatic 65, 3, 131, 3, 0, [(0, 1056)]), (8, .ifCond .ne 5, 3, 13, 0, 0, []), (11, .iconst (-1), 1, 0, 0, (-1), []), (12, .ireturn, 1, 0, 0, 0, [])]
  | 13 => [(13, .aload_n 0, 1, 0, 0, 0, []), (14, .getfield 69, 3, 12, 1, 0, [(0, 992)]), (17, .sipush 200, 3, 0, 0, 200, []), (20, .if_icmp .ne 6, 3, 26, 0, 0, []), (23, .bipush (-3), 2, 0, 0, (-3), []), (25, .ireturn, 1, 0, 0, 0, [])]
  | 26 => [(26, .aload_n 0, 1, 0, 0, 0, []), (27, .getfield 7, 3, 12, 0, 0, [(0, 991)]), (30, .aload_n 0, 1, 0, 0, 0, []), (31, .getfield 69, 3, 12, 1, 0, [(0, 992)]), (34, .iload_n 1, 1, 1, 0, 0, []), (35, .iastore, 1, 0, 0, 0, []), (36, .aload_n 0, 1, 0, 0, 0, []), (37, .dup, 1, 0, 0, 0, []), (38, .getfield 69, 3, 12, 1, 0, [(0, 992)]), (41, .iconst 1, 1, 0, 0, 1, []), (42, .iadd, 1, 0, 0, 0, []), (43, .putfield 69, 3, 12, 1, 0, [(0, 992)]), (46, .aload_n 0, 1, 0, 0, 0, []), (47, .getfield 69, 3, 12, 1, 0, [(0, 992)]), (50, .ireturn, 1, 0, 0, 0, [])]
  | _ => []
def mx_k_X12_write : mx_Mt := (mx_b_X12_write, ⟨"TwoMayorsModel", "write", "(I)I"⟩, prog_14_method_6_code, 2, (some .int), "TwoMayorsModel", { frames := 1, cells := 0, slots := 0, locals := 22 }, [0, 13, 26], [0, 1055, 76, 1053, 1054])
def mx_b_X12_wipe : Nat → List mx_In := fun t => match t with
  | 0 => [(0, .aload_n 0, 1, 0, 0, 0, []), (1, .getfield 69, 3, 12, 1, 0, [(0, 992)]), (4, .istore_n 1, 1, 1, 0, 0, []), (5, .aload_n 0, 1, 0, 0, 0, []), (6, .iconst 0, 1, 0, 0, 0, []), (7, .putfield 69, 3, 12, 1, 0, [(0, 992)]), (10, .iload_n 1, 1, 1, 0, 0, []), (11, .ireturn, 1, 0, 0, 0, [])]
  | _ => []
def mx_k_X12_wipe : mx_Mt := (mx_b_X12_wipe, ⟨"TwoMayorsModel", "wipe", "()I"⟩, prog_14_method_7_code, 2, (some .int), "TwoMayorsModel", { frames := 0, cells := 0, slots := 0, locals := 0 }, [0], [0, 1062, 76, 1060, 1061])
def mx_b_X12_letterAt : Nat → List mx_In := fun t => match t with
  | 0 => [(0, .iload_n 1, 1, 1, 0, 0, []), (1, .aload_n 0, 1, 0, 0, 0, []), (2, .getfield 69, 3, 12, 1, 0, [(0, 992)]), (5, .if_icmp .ge 12, 3, 17, 0, 0, []), (8, .aload_n 0, 1, 0, 0, 0, []), (9, .getfield 7, 3, 12, 0, 0, [(0, 991)]), (12, .iload_n 1, 1, 1, 0, 0, []), (13, .iaload, 1, 0, 0, 0, []), (14, .goto 4, 3, 18, 0, 0, [])]
  | 17 => [(17, .iconst (-1), 1, 0, 0, (-1), []), (18, .nop, 0, 18, 0, 0, [])]
  | 18 => [(18, .ireturn, 1, 0, 0, 0, [])]
  | _ => []
def mx_k_X12_letterAt : mx_Mt := (mx_b_X12_letterAt, ⟨"TwoMayorsModel", "letterAt", "(I)I"⟩, prog_14_method_8_code, 2, (some .int), "TwoMayorsModel", { frames := 0, cells := 0, slots := 0, locals := 0 }, [0, 17, 18], [0, 1082, 76, 1081, 35])
def mx_b_X12_isFigure : Nat → List mx_In := fun t => match t with
  | 0 => [(0, .iload_n 0, 1, 0, 0, 0, []), (1, .bipush 48, 2, 0, 0, 48, []), (3, .bipush 57, 2, 0, 0, 57, []), (5, .invokestatic 65, 3, 131, 3, 0, [(0, 1056)]), (8, .ireturn, 1, 0, 0, 0, [])]
  | _ => []
def mx_k_X12_isFigure : mx_Mt := (mx_b_X12_isFigure, ⟨"TwoMayorsModel", "isFigure", "(I)Z"⟩, prog_14_method_9_code, 1, (some .boolean), "TwoMayorsModel", { frames := 1, cells := 0, slots := 0, locals := 22 }, [0], [1, 1085, 76, 1084, 0])
def mx_b_X12_number : Nat → List mx_In := fun t => match t with
  | 0 => [(0, .aload_n 0, 1, 0, 0, 0, []), (1, .aload_n 0, 1, 0, 0, 0, []), (2, .getfield 73, 3, 12, 11, 0, [(0, 1002)]), (5, .invokevirtual 76, 3, 136, 2, 0, [(0, 1079)]), (8, .invokestatic 80, 3, 137, 1, 0, [(0, 1083)]), (11, .ifCond .ne 5, 3, 16, 0, 0, []), (14, .iconst (-1), 1, 0, 0, (-1), []), (15, .ireturn, 1, 0, 0, 0, [])]
  | 16 => [(16, .aload_n 0, 1, 0, 0, 0, []), (17, .aload_n 0, 1, 0, 0, 0, []), (18, .getfield 73, 3, 12, 11, 0, [(0, 1002)]), (21, .invokevirtual 76, 3, 136, 2, 0, [(0, 1079)]), (24, .bipush 48, 2, 0, 0, 48, []), (26, .isub, 1, 0, 0, 0, []), (27, .istore 4, 2, 4, 0, 0, []), (29, .aload_n 0, 1, 0, 0, 0, []), (30, .dup, 1, 0, 0, 0, []), (31, .getfield 73, 3, 12, 11, 0, [(0, 1002)]), (34, .iconst 1, 1, 0, 0, 1, []), (35, .iadd, 1, 0, 0, 0, []), (36, .putfield 73, 3, 12, 11, 0, [(0, 1002)]), (39, .aload_n 0, 1, 0, 0, 0, []), (40, .aload_n 0, 1, 0, 0, 0, []), (41, .getfield 73, 3, 12, 11, 0, [(0, 1002)]), (44, .invokevirtual 76, 3, 136, 2, 0, [(0, 1079)]), (47, .invokestatic 80, 3, 137, 1, 0, [(0, 1083)]), (50, .ifCond .eq 32, 3, 82, 0, 0, []), (53, .bipush 10, 2, 0, 0, 10, []), (55, .iload 4, 2, 4, 0, 0, []), (57, .imul, 1, 0, 0, 0, []), (58, .aload_n 0, 1, 0, 0, 0, []), (59, .aload_n 0, 1, 0, 0, 0, []), (60, .getfield 73, 3, 12, 11, 0, [(0, 1002)]), (63, .invokevirtual 76, 3, 136, 2, 0, [(0, 1079)]), (66, .iadd, 1, 0, 0, 0, []), (67, .bipush 48, 2, 0, 0, 48, []), (69, .isub, 1, 0, 0, 0, []), (70, .istore 4, 2, 4, 0, 0, []), (72, .aload_n 0, 1, 0, 0, 0, []), (73, .dup, 1, 0, 0, 0, []), (74, .getfield 73, 3, 12, 11, 0, [(0, 1002)]), (77, .iconst 1, 1, 0, 0, 1, []), (78, .iadd, 1, 0, 0, 0, []), (79, .putfield 73, 3, 12, 11, 0, [(0, 1002)]), (82, .nop, 0, 82, 0, 0, [])]
  | 82 => [(82, .aload_n 0, 1, 0, 0, 0, []), (83, .aload_n 0, 1, 0, 0, 0, []), (84, .getfield 73, 3, 12, 11, 0, [(0, 1002)]), (87, .invokevirtual 76, 3, 136, 2, 0, [(0, 1079)]), (90, .iload_n 3, 1, 3, 0, 0, []), (91, .if_icmp .ne 17, 3, 108, 0, 0, []), (94, .iload 4, 2, 4, 0, 0, []), (96, .iload_n 1, 1, 1, 0, 0, []), (97, .iload_n 2, 1, 2, 0, 0, []), (98, .invokestatic 65, 3, 131, 3, 0, [(0, 1056)]), (101, .ifCond .eq 7, 3, 108, 0, 0, []), (104, .iconst 1, 1, 0, 0, 1, []), (105, .goto 4, 3, 109, 0, 0, [])]
  | 108 => [(108, .iconst 0, 1, 0, 0, 0, []), (109, .nop, 0, 109, 0, 0, [])]
  | 109 => [(109, .istore 5, 2, 5, 0, 0, []), (111, .aload_n 0, 1, 0, 0, 0, []), (112, .dup, 1, 0, 0, 0, []), (113, .getfield 73, 3, 12, 11, 0, [(0, 1002)]), (116, .iconst 1, 1, 0, 0, 1, []), (117, .iadd, 1, 0, 0, 0, []), (118, .putfield 73, 3, 12, 11, 0, [(0, 1002)]), (121, .iload 5, 2, 5, 0, 0, []), (123, .ifCond .eq 8, 3, 131, 0, 0, []), (126, .iload 4, 2, 4, 0, 0, []), (128, .goto 4, 3, 132, 0, 0, [])]
  | 131 => [(131, .iconst (-1), 1, 0, 0, (-1), []), (132, .nop, 0, 132, 0, 0, [])]
  | 132 => [(132, .ireturn, 1, 0, 0, 0, [])]
  | _ => []
def mx_k_X12_number : mx_Mt := (mx_b_X12_number, ⟨"TwoMayorsModel", "number", "(III)I"⟩, prog_14_method_10_code, 6, (some .int), "TwoMayorsModel", { frames := 2, cells := 0, slots := 0, locals := 42 }, [0, 16, 82, 108, 109, 131, 132], [0, 1078, 76, 1077, 34])
def mx_b_X12_begins : Nat → List mx_In := fun t => match t with
  | 0 => [(0, .iconst 0, 1, 0, 0, 0, []), (1, .istore_n 1, 1, 1, 0, 0, []), (2, .nop, 0, 2, 0, 0, [])]
  | 2 => [(2, .iload_n 1, 1, 1, 0, 0, []), (3, .bipush 35, 2, 0, 0, 35, []), (5, .if_icmp .ge 16, 3, 21, 0, 0, []), (8, .aload_n 0, 1, 0, 0, 0, []), (9, .getfield 16, 3, 12, 3, 0, [(0, 994)]), (12, .iload_n 1, 1, 1, 0, 0, []), (13, .iconst 0, 1, 0, 0, 0, []), (14, .iastore, 1, 0, 0, 0, []), (15, .iinc 1 1, 3, 1, 0, 1, []), (18, .goto (-16), 3, 2, 0, 0, [])]
  | 21 => [(21, .aload_n 0, 1, 0, 0, 0, []), (22, .getfield 16, 3, 12, 3, 0, [(0, 994)]), (25, .iconst 1, 1, 0, 0, 1, []), (26, .iconst 2, 1, 0, 0, 2, []), (27, .iastore, 1, 0, 0, 0, []), (28, .return_, 1, 0, 0, 0, [])]
  | _ => []
def mx_k_X12_begins : mx_Mt := (mx_b_X12_begins, ⟨"TwoMayorsModel", "begins", "()V"⟩, prog_14_method_11_code, 2, none, "TwoMayorsModel", { frames := 0, cells := 0, slots := 0, locals := 0 }, [0, 2, 21], [0, 982, 76, 981, 29])
def mx_b_X12_wordOf : Nat → List mx_In := fun t => match t with
  | 0 => [(0, .aload_n 0, 1, 0, 0, 0, []), (1, .getfield 16, 3, 12, 3, 0, [(0, 994)]), (4, .iconst 3, 1, 0, 0, 3, []), (5, .aload_n 0, 1, 0, 0, 0, []), (6, .getfield 16, 3, 12, 3, 0, [(0, 994)]), (9, .iconst 0, 1, 0, 0, 0, []), (10, .iaload, 1, 0, 0, 0, []), (11, .iadd, 1, 0, 0, 0, []), (12, .iload_n 1, 1, 1, 0, 0, []), (13, .iastore, 1, 0, 0, 0, []), (14, .aload_n 0, 1, 0, 0, 0, []), (15, .getfield 16, 3, 12, 3, 0, [(0, 994)]), (18, .bipush 13, 2, 0, 0, 13, []), (20, .aload_n 0, 1, 0, 0, 0, []), (21, .getfield 16, 3, 12, 3, 0, [(0, 994)]), (24, .iconst 0, 1, 0, 0, 0, []), (25, .iaload, 1, 0, 0, 0, []), (26, .iadd, 1, 0, 0, 0, []), (27, .iload_n 2, 1, 2, 0, 0, []), (28, .iastore, 1, 0, 0, 0, []), (29, .aload_n 0, 1, 0, 0, 0, []), (30, .getfield 16, 3, 12, 3, 0, [(0, 994)]), (33, .iconst 0, 1, 0, 0, 0, []), (34, .dup2, 1, 0, 0, 0, []), (35, .iaload, 1, 0, 0, 0, []), (36, .iconst 1, 1, 0, 0, 1, []), (37, .iadd, 1, 0, 0, 0, []), (38, .iastore, 1, 0, 0, 0, []), (39, .return_, 1, 0, 0, 0, [])]
  | _ => []
def mx_k_X12_wordOf : mx_Mt := (mx_b_X12_wordOf, ⟨"TwoMayorsModel", "wordOf", "(II)V"⟩, prog_14_method_12_code, 3, none, "TwoMayorsModel", { frames := 0, cells := 0, slots := 0, locals := 0 }, [0], [0, 986, 76, 985, 30])
def mx_b_X12_readsItem : Nat → List mx_In := fun t => match t with
  | 0 => [(0, .iload_n 1, 1, 1, 0, 0, []), (1, .lookupswitch 280 #[(99, 251), (103, 103), (107, 166), (108, 222), (119, 51)], 51, 281, 0, 0, [(99, 252), (103, 104), (107, 167), (108, 223), (119, 52)])]
  | 52 => [(52, .aload_n 0, 1, 0, 0, 0, []), (53, .iconst 0, 1, 0, 0, 0, []), (54, .iconst 3, 1, 0, 0, 3, []), (55, .bipush 44, 2, 0, 0, 44, []), (57, .invokevirtual 84, 3, 138, 4, 0, [(0, 1075)]), (60, .istore_n 2, 1, 2, 0, 0, []), (61, .iload_n 2, 1, 2, 0, 0, []), (62, .ifCond .ge 7, 3, 69, 0, 0, []), (65, .iconst (-1), 1, 0, 0, (-1), []), (66, .goto 12, 3, 78, 0, 0, [])]
  | 69 => [(69, .aload_n 0, 1, 0, 0, 0, []), (70, .iconst 0, 1, 0, 0, 0, []), (71, .bipush 9, 2, 0, 0, 9, []), (73, .bipush 59, 2, 0, 0, 59, []), (75, .invokevirtual 84, 3, 138, 4, 0, [(0, 1075)]), (78, .nop, 0, 78, 0, 0, [])]
  | 78 => [(78, .istore_n 3, 1, 3, 0, 0, []), (79, .iload_n 3, 1, 3, 0, 0, []), (80, .ifCond .lt 14, 3, 94, 0, 0, []), (83, .aload_n 0, 1, 0, 0, 0, []), (84, .getfield 16, 3, 12, 3, 0, [(0, 994)]), (87, .iconst 0, 1, 0, 0, 0, []), (88, .iaload, 1, 0, 0, 0, []), (89, .bipush 10, 2, 0, 0, 10, []), (91, .if_icmp .ne 5, 3, 96, 0, 0, []), (94, .nop, 0, 94, 0, 0, [])]
  | 94 => [(94, .iconst 0, 1, 0, 0, 0, []), (95, .ireturn, 1, 0, 0, 0, [])]
  | 96 => [(96, .aload_n 0, 1, 0, 0, 0, []), (97, .iload_n 2, 1, 2, 0, 0, []), (98, .iload_n 3, 1, 3, 0, 0, []), (99, .invokevirtual 58, 3, 140, 3, 0, [(0, 983)]), (102, .iconst 1, 1, 0, 0, 1, []), (103, .ireturn, 1, 0, 0, 0, [])]
  | 104 => [(104, .aload_n 0, 1, 0, 0, 0, []), (105, .iconst 0, 1, 0, 0, 0, []), (106, .aload_n 0, 1, 0, 0, 0, []), (107, .getfield 16, 3, 12, 3, 0, [(0, 994)]), (110, .iconst 0, 1, 0, 0, 0, []), (111, .iaload, 1, 0, 0, 0, []), (112, .iconst 1, 1, 0, 0, 1, []), (113, .isub, 1, 0, 0, 0, []), (114, .bipush 44, 2, 0, 0, 44, []), (116, .invokevirtual 84, 3, 138, 4, 0, [(0, 1075)]), (119, .istore_n 2, 1, 2, 0, 0, []), (120, .iload_n 2, 1, 2, 0, 0, []), (121, .ifCond .ge 7, 3, 128, 0, 0, []), (124, .iconst (-1), 1, 0, 0, (-1), []), (125, .goto 18, 3, 143, 0, 0, [])]
  | 128 => [(128, .aload_n 0, 1, 0, 0, 0, []), (129, .iconst 0, 1, 0, 0, 0, []), (130, .aload_n 0, 1, 0, 0, 0, []), (131, .getfield 16, 3, 12, 3, 0, [(0, 994)]), (134, .iconst 0, 1, 0, 0, 0, []), (135, .iaload, 1, 0, 0, 0, []), (136, .iconst 1, 1, 0, 0, 1, []), (137, .isub, 1, 0, 0, 0, []), (138, .bipush 59, 2, 0, 0, 59, []), (140, .invokevirtual 84, 3, 138, 4, 0, [(0, 1075)]), (143, .nop, 0, 143, 0, 0, [])]
  | 143 => [(143, .istore_n 3, 1, 3, 0, 0, []), (144, .iload_n 3, 1, 3, 0, 0, []), (145, .ifCond .ge 5, 3, 150, 0, 0, []), (148, .iconst 0, 1, 0, 0, 0, []), (149, .ireturn, 1, 0, 0, 0, [])]
  | 150 => [(150, .aload_n 0, 1, 0, 0, 0, []), (151, .getfield 16, 3, 12, 3, 0, [(0, 994)]), (154, .bipush 23, 2, 0, 0, 23, []), (156, .iload_n 2, 1, 2, 0, 0, []), (157, .iadd, 1, 0, 0, 0, []), (158, .dup2, 1, 0, 0, 0, []), (159, .iaload, 1, 0, 0, 0, []), (160, .iconst 1, 1, 0, 0, 1, []), (161, .iload_n 3, 1, 3, 0, 0, []), (162, .ishl, 1, 0, 0, 0, []), (163, .ior, 1, 0, 0, 0, []), (164, .iastore, 1, 0, 0, 0, []), (165, .iconst 1, 1, 0, 0, 1, []), (166, .ireturn, 1, 0, 0, 0, [])]
  | 167 => [(167, .aload_n 0, 1, 0, 0, 0, []), (168, .iconst 0, 1, 0, 0, 0, []), (169, .iconst 1, 1, 0, 0, 1, []), (170, .bipush 44, 2, 0, 0, 44, []), (172, .invokevirtual 84, 3, 138, 4, 0, [(0, 1075)]), (175, .istore_n 2, 1, 2, 0, 0, []), (176, .iload_n 2, 1, 2, 0, 0, []), (177, .ifCond .ge 7, 3, 184, 0, 0, []), (180, .iconst (-1), 1, 0, 0, (-1), []), (181, .goto 18, 3, 199, 0, 0, [])]
  | 184 => [(184, .aload_n 0, 1, 0, 0, 0, []), (185, .iconst 0, 1, 0, 0, 0, []), (186, .aload_n 0, 1, 0, 0, 0, []), (187, .getfield 16, 3, 12, 3, 0, [(0, 994)]), (190, .iconst 0, 1, 0, 0, 0, []), (191, .iaload, 1, 0, 0, 0, []), (192, .iconst 1, 1, 0, 0, 1, []), (193, .isub, 1, 0, 0, 0, []), (194, .bipush 59, 2, 0, 0, 59, []), (196, .invokevirtual 84, 3, 138, 4, 0, [(0, 1075)]), (199, .nop, 0, 199, 0, 0, [])]
  | 199 => [(199, .istore_n 3, 1, 3, 0, 0, []), (200, .iload_n 3, 1, 3, 0, 0, []), (201, .ifCond .ge 5, 3, 206, 0, 0, []), (204, .iconst 0, 1, 0, 0, 0, []), (205, .ireturn, 1, 0, 0, 0, [])]
  | 206 => [(206, .aload_n 0, 1, 0, 0, 0, []), (207, .getfield 16, 3, 12, 3, 0, [(0, 994)]), (210, .bipush 33, 2, 0, 0, 33, []), (212, .iload_n 2, 1, 2, 0, 0, []), (213, .iadd, 1, 0, 0, 0, []), (214, .dup2, 1, 0, 0, 0, []), (215, .iaload, 1, 0, 0, 0, []), (216, .iconst 1, 1, 0, 0, 1, []), (217, .iload_n 3, 1, 3, 0, 0, []), (218, .ishl, 1, 0, 0, 0, []), (219, .ior, 1, 0, 0, 0, []), (220, .iastore, 1, 0, 0, 0, []), (221, .iconst 1, 1, 0, 0, 1, []), (222, .ireturn, 1, 0, 0, 0, [])]
  | 223 => [(223, .aload_n 0, 1, 0, 0, 0, []), (224, .getfield 16, 3, 12, 3, 0, [(0, 994)]), (227, .iconst 1, 1, 0, 0, 1, []), (228, .aload_n 0, 1, 0, 0, 0, []), (229, .iconst 1, 1, 0, 0, 1, []), (230, .iconst 4, 1, 0, 0, 4, []), (231, .bipush 59, 2, 0, 0, 59, []), (233, .invokevirtual 84, 3, 138, 4, 0, [(0, 1075)]), (236, .iastore, 1, 0, 0, 0, []), (237, .aload_n 0, 1, 0, 0, 0, []), (238, .getfield 16, 3, 12, 3, 0, [(0, 994)]), (241, .iconst 1, 1, 0, 0, 1, []), (242, .iaload, 1, 0, 0, 0, []), (243, .ifCond .le 7, 3, 250, 0, 0, []), (246, .iconst 1, 1, 0, 0, 1, []), (247, .goto 4, 3, 251, 0, 0, [])]
  | 250 => [(250, .iconst 0, 1, 0, 0, 0, []), (251, .nop, 0, 251, 0, 0, [])]
  | 251 => [(251, .ireturn, 1, 0, 0, 0, [])]
  | 252 => [(252, .aload_n 0, 1, 0, 0, 0, []), (253, .getfield 16, 3, 12, 3, 0, [(0, 994)]), (256, .iconst 2, 1, 0, 0, 2, []), (257, .aload_n 0, 1, 0, 0, 0, []), (258, .iconst 0, 1, 0, 0, 0, []), (259, .iconst 1, 1, 0, 0, 1, []), (260, .bipush 59, 2, 0, 0, 59, []), (262, .invokevirtual 84, 3, 138, 4, 0, [(0, 1075)]), (265, .iastore, 1, 0, 0, 0, []), (266, .aload_n 0, 1, 0, 0, 0, []), (267, .getfield 16, 3, 12, 3, 0, [(0, 994)]), (270, .iconst 2, 1, 0, 0, 2, []), (271, .iaload, 1, 0, 0, 0, []), (272, .ifCond .lt 7, 3, 279, 0, 0, []), (275, .iconst 1, 1, 0, 0, 1, []), (276, .goto 4, 3, 280, 0, 0, [])]
  | 279 => [(279, .iconst 0, 1, 0, 0, 0, []), (280, .nop, 0, 280, 0, 0, [])]
  | 280 => [(280, .ireturn, 1, 0, 0, 0, [])]
  | 281 => [(281, .iconst 0, 1, 0, 0, 0, []), (282, .ireturn, 1, 0, 0, 0, [])]
  | _ => []
def mx_k_X12_readsItem : mx_Mt := (mx_b_X12_readsItem, ⟨"TwoMayorsModel", "readsItem", "(I)Z"⟩, prog_14_method_13_code, 4, (some .boolean), "TwoMayorsModel", { frames := 3, cells := 0, slots := 0, locals := 67 }, [0, 52, 69, 78, 94, 96, 104, 128, 143, 150, 167, 184, 199, 206, 223, 250, 251, 252, 279, 280, 281], [0, 1074, 76, 1073, 33])
def mx_b_X12_readsAll : Nat → List mx_In := fun t => match t with
  | 0 => [(0, .aload_n 0, 1, 0, 0, 0, []), (1, .invokevirtual 55, 3, 139, 1, 0, [(0, 979)]), (4, .aload_n 0, 1, 0, 0, 0, []), (5, .iconst 0, 1, 0, 0, 0, []), (6, .putfield 73, 3, 12, 11, 0, [(0, 1002)]), (9, .nop, 0, 9, 0, 0, [])]
  | 9 => [(9, .aload_n 0, 1, 0, 0, 0, []), (10, .getfield 73, 3, 12, 11, 0, [(0, 1002)]), (13, .aload_n 0, 1, 0, 0, 0, []), (14, .getfield 69, 3, 12, 1, 0, [(0, 992)]), (17, .if_icmp .ge 36, 3, 53, 0, 0, []), (20, .aload_n 0, 1, 0, 0, 0, []), (21, .getfield 73, 3, 12, 11, 0, [(0, 1002)]), (24, .istore_n 1, 1, 1, 0, 0, []), (25, .aload_n 0, 1, 0, 0, 0, []), (26, .dup, 1, 0, 0, 0, []), (27, .getfield 73, 3, 12, 11, 0, [(0, 1002)]), (30, .iconst 1, 1, 0, 0, 1, []), (31, .iadd, 1, 0, 0, 0, []), (32, .putfield 73, 3, 12, 11, 0, [(0, 1002)]), (35, .aload_n 0, 1, 0, 0, 0, []), (36, .aload_n 0, 1, 0, 0, 0, []), (37, .getfield 7, 3, 12, 0, 0, [(0, 991)]), (40, .iload_n 1, 1, 1, 0, 0, []), (41, .iaload, 1, 0, 0, 0, []), (42, .invokevirtual 88, 3, 141, 2, 0, [(0, 1071)]), (45, .ifCond .ne 5, 3, 50, 0, 0, []), (48, .iload_n 1, 1, 1, 0, 0, []), (49, .ireturn, 1, 0, 0, 0, [])]
  | 50 => [(50, .goto (-41), 3, 9, 0, 0, [])]
  | 53 => [(53, .bipush (-4), 2, 0, 0, (-4), []), (55, .ireturn, 1, 0, 0, 0, [])]
  | _ => []
def mx_k_X12_readsAll : mx_Mt := (mx_b_X12_readsAll, ⟨"TwoMayorsModel", "readsAll", "()I"⟩, prog_14_method_14_code, 2, (some .int), "TwoMayorsModel", { frames := 4, cells := 0, slots := 0, locals := 90 }, [0, 9, 50, 53], [0, 1070, 76, 1069, 32])
def mx_b_X12_fault : Nat → List mx_In := fun t => match t with
  | 0 => [(0, .aload_n 0, 1, 0, 0, 0, []), (1, .invokevirtual 91, 3, 142, 1, 0, [(0, 1067)]), (4, .ireturn, 1, 0, 0, 0, [])]
  | _ => []
def mx_k_X12_fault : mx_Mt := (mx_b_X12_fault, ⟨"TwoMayorsModel", "fault", "()I"⟩, prog_14_method_15_code, 1, (some .int), "TwoMayorsModel", { frames := 5, cells := 0, slots := 0, locals := 111 }, [0], [0, 1066, 76, 1064, 1065])
def mx_b_X12_lays : Nat → List mx_In := fun t => match t with
  | 0 => [(0, .iconst 0, 1, 0, 0, 0, []), (1, .istore_n 1, 1, 1, 0, 0, []), (2, .nop, 0, 2, 0, 0, [])]
  | 2 => [(2, .iload_n 1, 1, 1, 0, 0, []), (3, .bipush 35, 2, 0, 0, 35, []), (5, .if_icmp .ge 21, 3, 26, 0, 0, []), (8, .aload_n 0, 1, 0, 0, 0, []), (9, .getfield 13, 3, 12, 2, 0, [(0, 993)]), (12, .iload_n 1, 1, 1, 0, 0, []), (13, .aload_n 0, 1, 0, 0, 0, []), (14, .getfield 16, 3, 12, 3, 0, [(0, 994)]), (17, .iload_n 1, 1, 1, 0, 0, []), (18, .iaload, 1, 0, 0, 0, []), (19, .iastore, 1, 0, 0, 0, []), (20, .iinc 1 1, 3, 1, 0, 1, []), (23, .goto (-21), 3, 2, 0, 0, [])]
  | 26 => [(26, .iconst 0, 1, 0, 0, 0, []), (27, .istore_n 1, 1, 1, 0, 0, []), (28, .nop, 0, 28, 0, 0, [])]
  | 28 => [(28, .iload_n 1, 1, 1, 0, 0, []), (29, .bipush 22, 2, 0, 0, 22, []), (31, .if_icmp .ge 16, 3, 47, 0, 0, []), (34, .aload_n 0, 1, 0, 0, 0, []), (35, .getfield 19, 3, 12, 4, 0, [(0, 995)]), (38, .iload_n 1, 1, 1, 0, 0, []), (39, .iconst 0, 1, 0, 0, 0, []), (40, .iastore, 1, 0, 0, 0, []), (41, .iinc 1 1, 3, 1, 0, 1, []), (44, .goto (-16), 3, 28, 0, 0, [])]
  | 47 => [(47, .aload_n 0, 1, 0, 0, 0, []), (48, .getfield 19, 3, 12, 4, 0, [(0, 995)]), (51, .bipush 13, 2, 0, 0, 13, []), (53, .aload_n 0, 1, 0, 0, 0, []), (54, .getfield 13, 3, 12, 2, 0, [(0, 993)]), (57, .iconst 2, 1, 0, 0, 2, []), (58, .iaload, 1, 0, 0, 0, []), (59, .iastore, 1, 0, 0, 0, []), (60, .aload_n 0, 1, 0, 0, 0, []), (61, .getfield 19, 3, 12, 4, 0, [(0, 995)]), (64, .bipush 19, 2, 0, 0, 19, []), (66, .aload_n 0, 1, 0, 0, 0, []), (67, .getfield 13, 3, 12, 2, 0, [(0, 993)]), (70, .bipush 33, 2, 0, 0, 33, []), (72, .iaload, 1, 0, 0, 0, []), (73, .iastore, 1, 0, 0, 0, []), (74, .aload_n 0, 1, 0, 0, 0, []), (75, .getfield 19, 3, 12, 4, 0, [(0, 995)]), (78, .bipush 20, 2, 0, 0, 20, []), (80, .aload_n 0, 1, 0, 0, 0, []), (81, .getfield 13, 3, 12, 2, 0, [(0, 993)]), (84, .bipush 34, 2, 0, 0, 34, []), (86, .iaload, 1, 0, 0, 0, []), (87, .iastore, 1, 0, 0, 0, []), (88, .aload_n 0, 1, 0, 0, 0, []), (89, .iconst 0, 1, 0, 0, 0, []), (90, .putfield 95, 3, 12, 6, 0, [(0, 997)]), (93, .aload_n 0, 1, 0, 0, 0, []), (94, .iconst 0, 1, 0, 0, 0, []), (95, .putfield 98, 3, 12, 8, 0, [(0, 999)]), (98, .aload_n 0, 1, 0, 0, 0, []), (99, .iconst 0, 1, 0, 0, 0, []), (100, .putfield 101, 3, 12, 10, 0, [(0, 1001)]), (103, .return_, 1, 0, 0, 0, [])]
  | _ => []
def mx_k_X12_lays : mx_Mt := (mx_b_X12_lays, ⟨"TwoMayorsModel", "lays", "()V"⟩, prog_14_method_16_code, 2, none, "TwoMayorsModel", { frames := 0, cells := 0, slots := 0, locals := 0 }, [0, 2, 26, 28, 47], [0, 990, 76, 989, 31])
def mx_b_X12_lay : Nat → List mx_In := fun t => match t with
  | 0 => [(0, .aload_n 0, 1, 0, 0, 0, []), (1, .invokevirtual 91, 3, 142, 1, 0, [(0, 1067)]), (4, .bipush (-4), 2, 0, 0, (-4), []), (6, .if_icmp .ne 12, 3, 18, 0, 0, []), (9, .aload_n 0, 1, 0, 0, 0, []), (10, .getfield 16, 3, 12, 3, 0, [(0, 994)]), (13, .iconst 0, 1, 0, 0, 0, []), (14, .iaload, 1, 0, 0, 0, []), (15, .ifCond .ne 6, 3, 21, 0, 0, []), (18, .nop, 0, 18, 0, 0, [])]
  | 18 => [(18, .bipush (-2), 2, 0, 0, (-2), []), (20, .ireturn, 1, 0, 0, 0, [])]
  | 21 => [(21, .aload_n 0, 1, 0, 0, 0, []), (22, .invokevirtual 62, 3, 144, 1, 0, [(0, 987)]), (25, .aload_n 0, 1, 0, 0, 0, []), (26, .getfield 13, 3, 12, 2, 0, [(0, 993)]), (29, .iconst 0, 1, 0, 0, 0, []), (30, .iaload, 1, 0, 0, 0, []), (31, .ireturn, 1, 0, 0, 0, [])]
  | _ => []
def mx_k_X12_lay : mx_Mt := (mx_b_X12_lay, ⟨"TwoMayorsModel", "lay", "()I"⟩, prog_14_method_17_code, 1, (some .int), "TwoMayorsModel", { frames := 5, cells := 0, slots := 0, locals := 111 }, [0, 18, 21], [0, 1089, 76, 1087, 1088])
def mx_b_X12_word : Nat → List mx_In := fun t => match t with
  | 0 => [(0, .aload_n 0, 1, 0, 0, 0, []), (1, .iload_n 1, 1, 1, 0, 0, []), (2, .invokevirtual 104, 3, 132, 2, 0, [(0, 1094)]), (5, .ifCond .ne 5, 3, 10, 0, 0, []), (8, .iconst (-1), 1, 0, 0, (-1), []), (9, .ireturn, 1, 0, 0, 0, [])]
  | 10 => [(10, .iload_n 2, 1, 2, 0, 0, []), (11, .tableswitch 98 0 3 #[29, 38, 48, 58], 29, 109, 0, 0, [(0, 40), (1, 49), (2, 59), (3, 69)])]
  | 40 => [(40, .aload_n 0, 1, 0, 0, 0, []), (41, .getfield 13, 3, 12, 2, 0, [(0, 993)]), (44, .iconst 3, 1, 0, 0, 3, []), (45, .iload_n 1, 1, 1, 0, 0, []), (46, .iadd, 1, 0, 0, 0, []), (47, .iaload, 1, 0, 0, 0, []), (48, .ireturn, 1, 0, 0, 0, [])]
  | 49 => [(49, .aload_n 0, 1, 0, 0, 0, []), (50, .getfield 13, 3, 12, 2, 0, [(0, 993)]), (53, .bipush 13, 2, 0, 0, 13, []), (55, .iload_n 1, 1, 1, 0, 0, []), (56, .iadd, 1, 0, 0, 0, []), (57, .iaload, 1, 0, 0, 0, []), (58, .ireturn, 1, 0, 0, 0, [])]
  | 59 => [(59, .aload_n 0, 1, 0, 0, 0, []), (60, .getfield 13, 3, 12, 2, 0, [(0, 993)]), (63, .bipush 23, 2, 0, 0, 23, []), (65, .iload_n 1, 1, 1, 0, 0, []), (66, .iadd, 1, 0, 0, 0, []), (67, .iaload, 1, 0, 0, 0, []), (68, .ireturn, 1, 0, 0, 0, [])]
  | 69 => [(69, .aload_n 0, 1, 0, 0, 0, []), (70, .getfield 19, 3, 12, 4, 0, [(0, 995)]), (73, .bipush 19, 2, 0, 0, 19, []), (75, .iaload, 1, 0, 0, 0, []), (76, .iload_n 1, 1, 1, 0, 0, []), (77, .invokestatic 107, 3, 133, 2, 0, [(0, 1098)]), (80, .ifCond .eq 7, 3, 87, 0, 0, []), (83, .iconst 1, 1, 0, 0, 1, []), (84, .goto 4, 3, 88, 0, 0, [])]
  | 87 => [(87, .iconst 0, 1, 0, 0, 0, []), (88, .nop, 0, 88, 0, 0, [])]
  | 88 => [(88, .aload_n 0, 1, 0, 0, 0, []), (89, .getfield 19, 3, 12, 4, 0, [(0, 995)]), (92, .bipush 20, 2, 0, 0, 20, []), (94, .iaload, 1, 0, 0, 0, []), (95, .iload_n 1, 1, 1, 0, 0, []), (96, .invokestatic 107, 3, 133, 2, 0, [(0, 1098)]), (99, .ifCond .eq 7, 3, 106, 0, 0, []), (102, .iconst 2, 1, 0, 0, 2, []), (103, .goto 4, 3, 107, 0, 0, [])]
  | 106 => [(106, .iconst 0, 1, 0, 0, 0, []), (107, .nop, 0, 107, 0, 0, [])]
  | 107 => [(107, .iadd, 1, 0, 0, 0, []), (108, .ireturn, 1, 0, 0, 0, [])]
  | 109 => [(109, .iconst (-1), 1, 0, 0, (-1), []), (110, .ireturn, 1, 0, 0, 0, [])]
  | _ => []
def mx_k_X12_word : mx_Mt := (mx_b_X12_word, ⟨"TwoMayorsModel", "word", "(II)I"⟩, prog_14_method_18_code, 3, (some .int), "TwoMayorsModel", { frames := 2, cells := 0, slots := 0, locals := 43 }, [0, 10, 40, 49, 59, 69, 87, 88, 106, 107, 109], [0, 1093, 76, 1091, 1092])
def mx_b_X12_mayor : Nat → List mx_In := fun t => match t with
  | 0 => [(0, .iload_n 1, 1, 1, 0, 0, []), (1, .iconst 0, 1, 0, 0, 0, []), (2, .iconst 1, 1, 0, 0, 1, []), (3, .invokestatic 65, 3, 131, 3, 0, [(0, 1056)]), (6, .ifCond .ne 5, 3, 11, 0, 0, []), (9, .iconst (-1), 1, 0, 0, (-1), []), (10, .ireturn, 1, 0, 0, 0, [])]
  | 11 => [(11, .iload_n 2, 1, 2, 0, 0, []), (12, .tableswitch 79 0 3 #[32, 49, 59, 69], 32, 91, 0, 0, [(0, 44), (1, 61), (2, 71), (3, 81)])]
  | 44 => [(44, .aload_n 0, 1, 0, 0, 0, []), (45, .getfield 19, 3, 12, 4, 0, [(0, 995)]), (48, .bipush 13, 2, 0, 0, 13, []), (50, .iaload, 1, 0, 0, 0, []), (51, .iload_n 1, 1, 1, 0, 0, []), (52, .if_icmp .ne 7, 3, 59, 0, 0, []), (55, .iconst 1, 1, 0, 0, 1, []), (56, .goto 4, 3, 60, 0, 0, [])]
  | 59 => [(59, .iconst 0, 1, 0, 0, 0, []), (60, .nop, 0, 60, 0, 0, [])]
  | 60 => [(60, .ireturn, 1, 0, 0, 0, [])]
  | 61 => [(61, .aload_n 0, 1, 0, 0, 0, []), (62, .getfield 19, 3, 12, 4, 0, [(0, 995)]), (65, .bipush 15, 2, 0, 0, 15, []), (67, .iload_n 1, 1, 1, 0, 0, []), (68, .iadd, 1, 0, 0, 0, []), (69, .iaload, 1, 0, 0, 0, []), (70, .ireturn, 1, 0, 0, 0, [])]
  | 71 => [(71, .aload_n 0, 1, 0, 0, 0, []), (72, .getfield 19, 3, 12, 4, 0, [(0, 995)]), (75, .bipush 17, 2, 0, 0, 17, []), (77, .iload_n 1, 1, 1, 0, 0, []), (78, .iadd, 1, 0, 0, 0, []), (79, .iaload, 1, 0, 0, 0, []), (80, .ireturn, 1, 0, 0, 0, [])]
  | 81 => [(81, .aload_n 0, 1, 0, 0, 0, []), (82, .getfield 19, 3, 12, 4, 0, [(0, 995)]), (85, .bipush 19, 2, 0, 0, 19, []), (87, .iload_n 1, 1, 1, 0, 0, []), (88, .iadd, 1, 0, 0, 0, []), (89, .iaload, 1, 0, 0, 0, []), (90, .ireturn, 1, 0, 0, 0, [])]
  | 91 => [(91, .iconst (-1), 1, 0, 0, (-1), []), (92, .ireturn, 1, 0, 0, 0, [])]
  | _ => []
def mx_k_X12_mayor : mx_Mt := (mx_b_X12_mayor, ⟨"TwoMayorsModel", "mayor", "(II)I"⟩, prog_14_method_19_code, 3, (some .int), "TwoMayorsModel", { frames := 1, cells := 0, slots := 0, locals := 22 }, [0, 11, 44, 59, 60, 61, 71, 81, 91], [0, 1104, 76, 1102, 1103])
def mx_b_X12_said : Nat → List mx_In := fun t => match t with
  | 0 => [(0, .iload_n 1, 1, 1, 0, 0, []), (1, .ifCond .ge 7, 3, 8, 0, 0, []), (4, .iconst (-1), 1, 0, 0, (-1), []), (5, .goto 25, 3, 30, 0, 0, [])]
  | 8 => [(8, .iload_n 1, 1, 1, 0, 0, []), (9, .aload_n 0, 1, 0, 0, 0, []), (10, .getfield 19, 3, 12, 4, 0, [(0, 995)]), (13, .bipush 12, 2, 0, 0, 12, []), (15, .iaload, 1, 0, 0, 0, []), (16, .if_icmp .ge 12, 3, 28, 0, 0, []), (19, .aload_n 0, 1, 0, 0, 0, []), (20, .getfield 19, 3, 12, 4, 0, [(0, 995)]), (23, .iload_n 1, 1, 1, 0, 0, []), (24, .iaload, 1, 0, 0, 0, []), (25, .goto 5, 3, 30, 0, 0, [])]
  | 28 => [(28, .bipush (-4), 2, 0, 0, (-4), []), (30, .nop, 0, 30, 0, 0, [])]
  | 30 => [(30, .ireturn, 1, 0, 0, 0, [])]
  | _ => []
def mx_k_X12_said : mx_Mt := (mx_b_X12_said, ⟨"TwoMayorsModel", "said", "(I)I"⟩, prog_14_method_20_code, 2, (some .int), "TwoMayorsModel", { frames := 0, cells := 0, slots := 0, locals := 0 }, [0, 8, 28, 30], [0, 1108, 76, 1106, 1107])
def mx_b_X12_keeps : Nat → List mx_In := fun t => match t with
  | 0 => [(0, .aload_n 0, 1, 0, 0, 0, []), (1, .getfield 95, 3, 12, 6, 0, [(0, 997)]), (4, .bipush 8, 2, 0, 0, 8, []), (6, .if_icmp .ne 43, 3, 49, 0, 0, []), (9, .iconst 0, 1, 0, 0, 0, []), (10, .istore_n 1, 1, 1, 0, 0, []), (11, .nop, 0, 11, 0, 0, [])]
  | 11 => [(11, .iload_n 1, 1, 1, 0, 0, []), (12, .sipush 154, 3, 0, 0, 154, []), (15, .if_icmp .ge 24, 3, 39, 0, 0, []), (18, .aload_n 0, 1, 0, 0, 0, []), (19, .getfield 22, 3, 12, 5, 0, [(0, 996)]), (22, .iload_n 1, 1, 1, 0, 0, []), (23, .aload_n 0, 1, 0, 0, 0, []), (24, .getfield 22, 3, 12, 5, 0, [(0, 996)]), (27, .iload_n 1, 1, 1, 0, 0, []), (28, .bipush 22, 2, 0, 0, 22, []), (30, .iadd, 1, 0, 0, 0, []), (31, .iaload, 1, 0, 0, 0, []), (32, .iastore, 1, 0, 0, 0, []), (33, .iinc 1 1, 3, 1, 0, 1, []), (36, .goto (-25), 3, 11, 0, 0, [])]
  | 39 => [(39, .aload_n 0, 1, 0, 0, 0, []), (40, .dup, 1, 0, 0, 0, []), (41, .getfield 95, 3, 12, 6, 0, [(0, 997)]), (44, .iconst 1, 1, 0, 0, 1, []), (45, .isub, 1, 0, 0, 0, []), (46, .putfield 95, 3, 12, 6, 0, [(0, 997)]), (49, .nop, 0, 49, 0, 0, [])]
  | 49 => [(49, .iconst 0, 1, 0, 0, 0, []), (50, .istore_n 1, 1, 1, 0, 0, []), (51, .nop, 0, 51, 0, 0, [])]
  | 51 => [(51, .iload_n 1, 1, 1, 0, 0, []), (52, .bipush 22, 2, 0, 0, 22, []), (54, .if_icmp .ge 29, 3, 83, 0, 0, []), (57, .aload_n 0, 1, 0, 0, 0, []), (58, .getfield 22, 3, 12, 5, 0, [(0, 996)]), (61, .bipush 22, 2, 0, 0, 22, []), (63, .aload_n 0, 1, 0, 0, 0, []), (64, .getfield 95, 3, 12, 6, 0, [(0, 997)]), (67, .imul, 1, 0, 0, 0, []), (68, .iload_n 1, 1, 1, 0, 0, []), (69, .iadd, 1, 0, 0, 0, []), (70, .aload_n 0, 1, 0, 0, 0, []), (71, .getfield 19, 3, 12, 4, 0, [(0, 995)]), (74, .iload_n 1, 1, 1, 0, 0, []), (75, .iaload, 1, 0, 0, 0, []), (76, .iastore, 1, 0, 0, 0, []), (77, .iinc 1 1, 3, 1, 0, 1, []), (80, .goto (-29), 3, 51, 0, 0, [])]
  | 83 => [(83, .aload_n 0, 1, 0, 0, 0, []), (84, .dup, 1, 0, 0, 0, []), (85, .getfield 95, 3, 12, 6, 0, [(0, 997)]), (88, .iconst 1, 1, 0, 0, 1, []), (89, .iadd, 1, 0, 0, 0, []), (90, .putfield 95, 3, 12, 6, 0, [(0, 997)]), (93, .return_, 1, 0, 0, 0, [])]
  | _ => []
def mx_k_X12_keeps : mx_Mt := (mx_b_X12_keeps, ⟨"TwoMayorsModel", "keeps", "()V"⟩, prog_14_method_21_code, 2, none, "TwoMayorsModel", { frames := 0, cells := 0, slots := 0, locals := 0 }, [0, 11, 39, 49, 51, 83], [0, 1124, 76, 1123, 39])
def mx_b_X12_last : Nat → List mx_In := fun t => match t with
  | 0 => [(0, .aload_n 0, 1, 0, 0, 0, []), (1, .getfield 19, 3, 12, 4, 0, [(0, 995)]), (4, .aload_n 0, 1, 0, 0, 0, []), (5, .getfield 19, 3, 12, 4, 0, [(0, 995)]), (8, .bipush 12, 2, 0, 0, 12, []), (10, .iaload, 1, 0, 0, 0, []), (11, .iconst 1, 1, 0, 0, 1, []), (12, .isub, 1, 0, 0, 0, []), (13, .iaload, 1, 0, 0, 0, []), (14, .ireturn, 1, 0, 0, 0, [])]
  | _ => []
def mx_k_X12_last : mx_Mt := (mx_b_X12_last, ⟨"TwoMayorsModel", "last", "()I"⟩, prog_14_method_22_code, 1, (some .int), "TwoMayorsModel", { frames := 0, cells := 0, slots := 0, locals := 0 }, [0], [0, 1120, 76, 1119, 38])
def mx_b_X12_maySay : Nat → List mx_In := fun t => match t with
  | 0 => [(0, .aload_n 0, 1, 0, 0, 0, []), (1, .getfield 19, 3, 12, 4, 0, [(0, 995)]), (4, .bipush 12, 2, 0, 0, 12, []), (6, .iaload, 1, 0, 0, 0, []), (7, .ifCond .eq 22, 3, 29, 0, 0, []), (10, .aload_n 0, 1, 0, 0, 0, []), (11, .getfield 13, 3, 12, 2, 0, [(0, 993)]), (14, .bipush 23, 2, 0, 0, 23, []), (16, .aload_n 0, 1, 0, 0, 0, []), (17, .invokevirtual 111, 3, 150, 1, 0, [(0, 1117)]), (20, .iadd, 1, 0, 0, 0, []), (21, .iaload, 1, 0, 0, 0, []), (22, .iload_n 1, 1, 1, 0, 0, []), (23, .invokestatic 107, 3, 133, 2, 0, [(0, 1098)]), (26, .ifCond .eq 7, 3, 33, 0, 0, []), (29, .nop, 0, 29, 0, 0, [])]
  | 29 => [(29, .iconst 1, 1, 0, 0, 1, []), (30, .goto 4, 3, 34, 0, 0, [])]
  | 33 => [(33, .iconst 0, 1, 0, 0, 0, []), (34, .nop, 0, 34, 0, 0, [])]
  | 34 => [(34, .ireturn, 1, 0, 0, 0, [])]
  | _ => []
def mx_k_X12_maySay : mx_Mt := (mx_b_X12_maySay, ⟨"TwoMayorsModel", "maySay", "(I)Z"⟩, prog_14_method_23_code, 2, (some .boolean), "TwoMayorsModel", { frames := 1, cells := 0, slots := 0, locals := 21 }, [0, 29, 33, 34], [0, 1116, 76, 1115, 37])
def mx_b_X12_says : Nat → List mx_In := fun t => match t with
  | 0 => [(0, .aload_n 0, 1, 0, 0, 0, []), (1, .getfield 19, 3, 12, 4, 0, [(0, 995)]), (4, .aload_n 0, 1, 0, 0, 0, []), (5, .getfield 19, 3, 12, 4, 0, [(0, 995)]), (8, .bipush 12, 2, 0, 0, 12, []), (10, .iaload, 1, 0, 0, 0, []), (11, .iload_n 1, 1, 1, 0, 0, []), (12, .iastore, 1, 0, 0, 0, []), (13, .aload_n 0, 1, 0, 0, 0, []), (14, .getfield 19, 3, 12, 4, 0, [(0, 995)]), (17, .bipush 12, 2, 0, 0, 12, []), (19, .dup2, 1, 0, 0, 0, []), (20, .iaload, 1, 0, 0, 0, []), (21, .iconst 1, 1, 0, 0, 1, []), (22, .iadd, 1, 0, 0, 0, []), (23, .iastore, 1, 0, 0, 0, []), (24, .aload_n 0, 1, 0, 0, 0, []), (25, .getfield 19, 3, 12, 4, 0, [(0, 995)]), (28, .bipush 14, 2, 0, 0, 14, []), (30, .dup2, 1, 0, 0, 0, []), (31, .iaload, 1, 0, 0, 0, []), (32, .iconst 1, 1, 0, 0, 1, []), (33, .iadd, 1, 0, 0, 0, []), (34, .iastore, 1, 0, 0, 0, []), (35, .return_, 1, 0, 0, 0, [])]
  | _ => []
def mx_k_X12_says : mx_Mt := (mx_b_X12_says, ⟨"TwoMayorsModel", "says", "(I)V"⟩, prog_14_method_24_code, 2, none, "TwoMayorsModel", { frames := 0, cells := 0, slots := 0, locals := 0 }, [0], [0, 1128, 76, 1127, 40])
def mx_b_X12_say : Nat → List mx_In := fun t => match t with
  | 0 => [(0, .aload_n 0, 1, 0, 0, 0, []), (1, .iload_n 1, 1, 1, 0, 0, []), (2, .invokevirtual 104, 3, 132, 2, 0, [(0, 1094)]), (5, .ifCond .ne 5, 3, 10, 0, 0, []), (8, .iconst (-1), 1, 0, 0, (-1), []), (9, .ireturn, 1, 0, 0, 0, [])]
  | 10 => [(10, .aload_n 0, 1, 0, 0, 0, []), (11, .iload_n 1, 1, 1, 0, 0, []), (12, .invokevirtual 114, 3, 151, 2, 0, [(0, 1113)]), (15, .ifCond .ne 6, 3, 21, 0, 0, []), (18, .bipush (-2), 2, 0, 0, (-2), []), (20, .ireturn, 1, 0, 0, 0, [])]
  | 21 => [(21, .aload_n 0, 1, 0, 0, 0, []), (22, .getfield 19, 3, 12, 4, 0, [(0, 995)]), (25, .bipush 12, 2, 0, 0, 12, []), (27, .iaload, 1, 0, 0, 0, []), (28, .bipush 12, 2, 0, 0, 12, []), (30, .if_icmp .ne 6, 3, 36, 0, 0, []), (33, .bipush (-3), 2, 0, 0, (-3), []), (35, .ireturn, 1, 0, 0, 0, [])]
  | 36 => [(36, .aload_n 0, 1, 0, 0, 0, []), (37, .invokevirtual 117, 3, 149, 1, 0, [(0, 1121)]), (40, .aload_n 0, 1, 0, 0, 0, []), (41, .iload_n 1, 1, 1, 0, 0, []), (42, .invokevirtual 120, 3, 152, 2, 0, [(0, 1125)]), (45, .aload_n 0, 1, 0, 0, 0, []), (46, .getfield 19, 3, 12, 4, 0, [(0, 995)]), (49, .bipush 12, 2, 0, 0, 12, []), (51, .iaload, 1, 0, 0, 0, []), (52, .ireturn, 1, 0, 0, 0, [])]
  | _ => []
def mx_k_X12_say : mx_Mt := (mx_b_X12_say, ⟨"TwoMayorsModel", "say", "(I)I"⟩, prog_14_method_25_code, 2, (some .int), "TwoMayorsModel", { frames := 2, cells := 0, slots := 0, locals := 43 }, [0, 10, 21, 36], [0, 1112, 76, 1110, 1111])
def mx_b_X12_worthNow : Nat → List mx_In := fun t => match t with
  | 0 => [(0, .iconst 0, 1, 0, 0, 0, []), (1, .istore_n 1, 1, 1, 0, 0, []), (2, .iconst 0, 1, 0, 0, 0, []), (3, .istore_n 2, 1, 2, 0, 0, []), (4, .nop, 0, 4, 0, 0, [])]
  | 4 => [(4, .iload_n 2, 1, 2, 0, 0, []), (5, .aload_n 0, 1, 0, 0, 0, []), (6, .getfield 19, 3, 12, 4, 0, [(0, 995)]), (9, .bipush 12, 2, 0, 0, 12, []), (11, .iaload, 1, 0, 0, 0, []), (12, .if_icmp .ge 26, 3, 38, 0, 0, []), (15, .iload_n 1, 1, 1, 0, 0, []), (16, .aload_n 0, 1, 0, 0, 0, []), (17, .getfield 13, 3, 12, 2, 0, [(0, 993)]), (20, .bipush 13, 2, 0, 0, 13, []), (22, .aload_n 0, 1, 0, 0, 0, []), (23, .getfield 19, 3, 12, 4, 0, [(0, 995)]), (26, .iload_n 2, 1, 2, 0, 0, []), (27, .iaload, 1, 0, 0, 0, []), (28, .iadd, 1, 0, 0, 0, []), (29, .iaload, 1, 0, 0, 0, []), (30, .iadd, 1, 0, 0, 0, []), (31, .istore_n 1, 1, 1, 0, 0, []), (32, .iinc 2 1, 3, 2, 0, 1, []), (35, .goto (-31), 3, 4, 0, 0, [])]
  | 38 => [(38, .iload_n 1, 1, 1, 0, 0, []), (39, .ireturn, 1, 0, 0, 0, [])]
  | _ => []
def mx_k_X12_worthNow : mx_Mt := (mx_b_X12_worthNow, ⟨"TwoMayorsModel", "worthNow", "()I"⟩, prog_14_method_26_code, 3, (some .int), "TwoMayorsModel", { frames := 0, cells := 0, slots := 0, locals := 0 }, [0, 4, 38], [0, 1140, 76, 1139, 42])
def mx_b_X12_decrees : Nat → List mx_In := fun t => match t with
  | 0 => [(0, .aload_n 0, 1, 0, 0, 0, []), (1, .getfield 19, 3, 12, 4, 0, [(0, 995)]), (4, .bipush 15, 2, 0, 0, 15, []), (6, .iload_n 1, 1, 1, 0, 0, []), (7, .iadd, 1, 0, 0, 0, []), (8, .dup2, 1, 0, 0, 0, []), (9, .iaload, 1, 0, 0, 0, []), (10, .iconst 1, 1, 0, 0, 1, []), (11, .iadd, 1, 0, 0, 0, []), (12, .iastore, 1, 0, 0, 0, []), (13, .aload_n 0, 1, 0, 0, 0, []), (14, .getfield 19, 3, 12, 4, 0, [(0, 995)]), (17, .bipush 17, 2, 0, 0, 17, []), (19, .iload_n 1, 1, 1, 0, 0, []), (20, .iadd, 1, 0, 0, 0, []), (21, .dup2, 1, 0, 0, 0, []), (22, .iaload, 1, 0, 0, 0, []), (23, .iload_n 2, 1, 2, 0, 0, []), (24, .iadd, 1, 0, 0, 0, []), (25, .iastore, 1, 0, 0, 0, []), (26, .aload_n 0, 1, 0, 0, 0, []), (27, .getfield 19, 3, 12, 4, 0, [(0, 995)]), (30, .bipush 12, 2, 0, 0, 12, []), (32, .iconst 0, 1, 0, 0, 0, []), (33, .iastore, 1, 0, 0, 0, []), (34, .return_, 1, 0, 0, 0, [])]
  | _ => []
def mx_k_X12_decrees : mx_Mt := (mx_b_X12_decrees, ⟨"TwoMayorsModel", "decrees", "(II)V"⟩, prog_14_method_27_code, 3, none, "TwoMayorsModel", { frames := 0, cells := 0, slots := 0, locals := 0 }, [0], [0, 1144, 76, 1143, 43])
def mx_b_X12_mayEnd : Nat → List mx_In := fun t => match t with
  | 0 => [(0, .aload_n 0, 1, 0, 0, 0, []), (1, .getfield 19, 3, 12, 4, 0, [(0, 995)]), (4, .bipush 12, 2, 0, 0, 12, []), (6, .iaload, 1, 0, 0, 0, []), (7, .ifCond .le 22, 3, 29, 0, 0, []), (10, .aload_n 0, 1, 0, 0, 0, []), (11, .getfield 13, 3, 12, 2, 0, [(0, 993)]), (14, .iconst 3, 1, 0, 0, 3, []), (15, .aload_n 0, 1, 0, 0, 0, []), (16, .invokevirtual 111, 3, 150, 1, 0, [(0, 1117)]), (19, .iadd, 1, 0, 0, 0, []), (20, .iaload, 1, 0, 0, 0, []), (21, .iconst 2, 1, 0, 0, 2, []), (22, .if_icmp .ne 7, 3, 29, 0, 0, []), (25, .iconst 1, 1, 0, 0, 1, []), (26, .goto 4, 3, 30, 0, 0, [])]
  | 29 => [(29, .iconst 0, 1, 0, 0, 0, []), (30, .nop, 0, 30, 0, 0, [])]
  | 30 => [(30, .ireturn, 1, 0, 0, 0, [])]
  | _ => []
def mx_k_X12_mayEnd : mx_Mt := (mx_b_X12_mayEnd, ⟨"TwoMayorsModel", "mayEnd", "()Z"⟩, prog_14_method_28_code, 1, (some .boolean), "TwoMayorsModel", { frames := 1, cells := 0, slots := 0, locals := 20 }, [0, 29, 30], [0, 1136, 76, 1135, 41])
def mx_b_X12_end : Nat → List mx_In := fun t => match t with
  | 0 => [(0, .aload_n 0, 1, 0, 0, 0, []), (1, .invokevirtual 124, 3, 156, 1, 0, [(0, 1133)]), (4, .ifCond .ne 6, 3, 10, 0, 0, []), (7, .bipush (-2), 2, 0, 0, (-2), []), (9, .ireturn, 1, 0, 0, 0, [])]
  | 10 => [(10, .aload_n 0, 1, 0, 0, 0, []), (11, .invokevirtual 117, 3, 149, 1, 0, [(0, 1121)]), (14, .aload_n 0, 1, 0, 0, 0, []), (15, .invokevirtual 128, 3, 154, 1, 0, [(0, 1137)]), (18, .istore_n 1, 1, 1, 0, 0, []), (19, .aload_n 0, 1, 0, 0, 0, []), (20, .aload_n 0, 1, 0, 0, 0, []), (21, .getfield 19, 3, 12, 4, 0, [(0, 995)]), (24, .bipush 13, 2, 0, 0, 13, []), (26, .iaload, 1, 0, 0, 0, []), (27, .iload_n 1, 1, 1, 0, 0, []), (28, .invokevirtual 131, 3, 155, 3, 0, [(0, 1141)]), (31, .iload_n 1, 1, 1, 0, 0, []), (32, .ireturn, 1, 0, 0, 0, [])]
  | _ => []
def mx_k_X12_end : mx_Mt := (mx_b_X12_end, ⟨"TwoMayorsModel", "end", "()I"⟩, prog_14_method_29_code, 2, (some .int), "TwoMayorsModel", { frames := 2, cells := 0, slots := 0, locals := 40 }, [0, 10], [0, 1132, 76, 1130, 1131])
def mx_b_X12_stops : Nat → List mx_In := fun t => match t with
  | 0 => [(0, .iconst 0, 1, 0, 0, 0, []), (1, .istore_n 1, 1, 1, 0, 0, []), (2, .iconst 0, 1, 0, 0, 0, []), (3, .istore_n 2, 1, 2, 0, 0, []), (4, .nop, 0, 4, 0, 0, [])]
  | 4 => [(4, .iload_n 2, 1, 2, 0, 0, []), (5, .aload_n 0, 1, 0, 0, 0, []), (6, .getfield 13, 3, 12, 2, 0, [(0, 993)]), (9, .iconst 0, 1, 0, 0, 0, []), (10, .iaload, 1, 0, 0, 0, []), (11, .if_icmp .ge 31, 3, 42, 0, 0, []), (14, .iload_n 1, 1, 1, 0, 0, []), (15, .aload_n 0, 1, 0, 0, 0, []), (16, .getfield 13, 3, 12, 2, 0, [(0, 993)]), (19, .iconst 3, 1, 0, 0, 3, []), (20, .iload_n 2, 1, 2, 0, 0, []), (21, .iadd, 1, 0, 0, 0, []), (22, .iaload, 1, 0, 0, 0, []), (23, .iconst 2, 1, 0, 0, 2, []), (24, .if_icmp .ne 9, 3, 33, 0, 0, []), (27, .iconst 1, 1, 0, 0, 1, []), (28, .iload_n 2, 1, 2, 0, 0, []), (29, .ishl, 1, 0, 0, 0, []), (30, .goto 4, 3, 34, 0, 0, [])]
  | 33 => [(33, .iconst 0, 1, 0, 0, 0, []), (34, .nop, 0, 34, 0, 0, [])]
  | 34 => [(34, .ior, 1, 0, 0, 0, []), (35, .istore_n 1, 1, 1, 0, 0, []), (36, .iinc 2 1, 3, 2, 0, 1, []), (39, .goto (-35), 3, 4, 0, 0, [])]
  | 42 => [(42, .iload_n 1, 1, 1, 0, 0, []), (43, .ireturn, 1, 0, 0, 0, [])]
  | _ => []
def mx_k_X12_stops : mx_Mt := (mx_b_X12_stops, ⟨"TwoMayorsModel", "stops", "()I"⟩, prog_14_method_30_code, 3, (some .int), "TwoMayorsModel", { frames := 0, cells := 0, slots := 0, locals := 0 }, [0, 4, 33, 34, 42], [0, 1172, 76, 1171, 49])
def mx_b_X12_levelsOf : Nat → List mx_In := fun t => match t with
  | 0 => [(0, .aload_n 0, 1, 0, 0, 0, []), (1, .getfield 31, 3, 12, 12, 0, [(0, 1003)]), (4, .iconst 0, 1, 0, 0, 0, []), (5, .aload_n 0, 1, 0, 0, 0, []), (6, .invokevirtual 134, 3, 158, 1, 0, [(0, 1169)]), (9, .iastore, 1, 0, 0, 0, []), (10, .iconst 1, 1, 0, 0, 1, []), (11, .istore_n 2, 1, 2, 0, 0, []), (12, .nop, 0, 12, 0, 0, [])]
  | 12 => [(12, .iload_n 2, 1, 2, 0, 0, []), (13, .iconst 5, 1, 0, 0, 5, []), (14, .if_icmp .ge 73, 3, 87, 0, 0, []), (17, .aload_n 0, 1, 0, 0, 0, []), (18, .getfield 31, 3, 12, 12, 0, [(0, 1003)]), (21, .iload_n 2, 1, 2, 0, 0, []), (22, .iconst 0, 1, 0, 0, 0, []), (23, .iastore, 1, 0, 0, 0, []), (24, .iconst 0, 1, 0, 0, 0, []), (25, .istore_n 3, 1, 3, 0, 0, []), (26, .nop, 0, 26, 0, 0, [])]
  | 26 => [(26, .iload_n 3, 1, 3, 0, 0, []), (27, .aload_n 0, 1, 0, 0, 0, []), (28, .getfield 13, 3, 12, 2, 0, [(0, 993)]), (31, .iconst 0, 1, 0, 0, 0, []), (32, .iaload, 1, 0, 0, 0, []), (33, .if_icmp .ge 48, 3, 81, 0, 0, []), (36, .aload_n 0, 1, 0, 0, 0, []), (37, .getfield 31, 3, 12, 12, 0, [(0, 1003)]), (40, .iload_n 2, 1, 2, 0, 0, []), (41, .dup2, 1, 0, 0, 0, []), (42, .iaload, 1, 0, 0, 0, []), (43, .aload_n 0, 1, 0, 0, 0, []), (44, .getfield 13, 3, 12, 2, 0, [(0, 993)]), (47, .bipush 23, 2, 0, 0, 23, []), (49, .iload_n 3, 1, 3, 0, 0, []), (50, .iadd, 1, 0, 0, 0, []), (51, .iaload, 1, 0, 0, 0, []), (52, .iload_n 1, 1, 1, 0, 0, []), (53, .iand, 1, 0, 0, 0, []), (54, .aload_n 0, 1, 0, 0, 0, []), (55, .getfield 31, 3, 12, 12, 0, [(0, 1003)]), (58, .iload_n 2, 1, 2, 0, 0, []), (59, .iconst 1, 1, 0, 0, 1, []), (60, .isub, 1, 0, 0, 0, []), (61, .iaload, 1, 0, 0, 0, []), (62, .iand, 1, 0, 0, 0, []), (63, .ifCond .eq 9, 3, 72, 0, 0, []), (66, .iconst 1, 1, 0, 0, 1, []), (67, .iload_n 3, 1, 3, 0, 0, []), (68, .ishl, 1, 0, 0, 0, []), (69, .goto 4, 3, 73, 0, 0, [])]
  | 72 => [(72, .iconst 0, 1, 0, 0, 0, []), (73, .nop, 0, 73, 0, 0, [])]
  | 73 => [(73, .ior, 1, 0, 0, 0, []), (74, .iastore, 1, 0, 0, 0, []), (75, .iinc 3 1, 3, 3, 0, 1, []), (78, .goto (-52), 3, 26, 0, 0, [])]
  | 81 => [(81, .iinc 2 1, 3, 2, 0, 1, []), (84, .goto (-72), 3, 12, 0, 0, [])]
  | 87 => [(87, .return_, 1, 0, 0, 0, [])]
  | _ => []
def mx_k_X12_levelsOf : mx_Mt := (mx_b_X12_levelsOf, ⟨"TwoMayorsModel", "levelsOf", "(I)V"⟩, prog_14_method_31_code, 4, none, "TwoMayorsModel", { frames := 1, cells := 0, slots := 0, locals := 22 }, [0, 12, 26, 72, 73, 81, 87], [0, 1168, 76, 1167, 48])
def mx_b_X12_finishes : Nat → List mx_In := fun t => match t with
  | 0 => [(0, .aload_n 0, 1, 0, 0, 0, []), (1, .iload_n 2, 1, 2, 0, 0, []), (2, .invokevirtual 137, 3, 159, 2, 0, [(0, 1165)]), (5, .iconst 0, 1, 0, 0, 0, []), (6, .istore_n 3, 1, 3, 0, 0, []), (7, .aload_n 0, 1, 0, 0, 0, []), (8, .getfield 13, 3, 12, 2, 0, [(0, 993)]), (11, .iconst 1, 1, 0, 0, 1, []), (12, .iaload, 1, 0, 0, 0, []), (13, .istore 4, 2, 4, 0, 0, []), (15, .nop, 0, 15, 0, 0, [])]
  | 15 => [(15, .iload 4, 2, 4, 0, 0, []), (17, .ifCond .le 30, 3, 47, 0, 0, []), (20, .aload_n 0, 1, 0, 0, 0, []), (21, .getfield 31, 3, 12, 12, 0, [(0, 1003)]), (24, .iload 4, 2, 4, 0, 0, []), (26, .iaload, 1, 0, 0, 0, []), (27, .iload_n 1, 1, 1, 0, 0, []), (28, .invokestatic 107, 3, 133, 2, 0, [(0, 1098)]), (31, .ifCond .eq 8, 3, 39, 0, 0, []), (34, .iload 4, 2, 4, 0, 0, []), (36, .goto 4, 3, 40, 0, 0, [])]
  | 39 => [(39, .iload_n 3, 1, 3, 0, 0, []), (40, .nop, 0, 40, 0, 0, [])]
  | 40 => [(40, .istore_n 3, 1, 3, 0, 0, []), (41, .iinc 4 (-1), 3, 4, 0, (-1), []), (44, .goto (-29), 3, 15, 0, 0, [])]
  | 47 => [(47, .aload_n 0, 1, 0, 0, 0, []), (48, .getfield 13, 3, 12, 2, 0, [(0, 993)]), (51, .iconst 3, 1, 0, 0, 3, []), (52, .iload_n 1, 1, 1, 0, 0, []), (53, .iadd, 1, 0, 0, 0, []), (54, .iaload, 1, 0, 0, 0, []), (55, .iconst 1, 1, 0, 0, 1, []), (56, .if_icmp .ne 7, 3, 63, 0, 0, []), (59, .iconst 0, 1, 0, 0, 0, []), (60, .goto 4, 3, 64, 0, 0, [])]
  | 63 => [(63, .iload_n 3, 1, 3, 0, 0, []), (64, .nop, 0, 64, 0, 0, [])]
  | 64 => [(64, .istore_n 3, 1, 3, 0, 0, []), (65, .iload_n 1, 1, 1, 0, 0, []), (66, .istore 4, 2, 4, 0, 0, []), (68, .iconst 0, 1, 0, 0, 0, []), (69, .istore 5, 2, 5, 0, 0, []), (71, .nop, 0, 71, 0, 0, [])]
  | 71 => [(71, .iload 5, 2, 5, 0, 0, []), (73, .iload_n 3, 1, 3, 0, 0, []), (74, .if_icmp .ge 67, 3, 141, 0, 0, []), (77, .aload_n 0, 1, 0, 0, 0, []), (78, .getfield 13, 3, 12, 2, 0, [(0, 993)]), (81, .bipush 23, 2, 0, 0, 23, []), (83, .iload 4, 2, 4, 0, 0, []), (85, .iadd, 1, 0, 0, 0, []), (86, .iaload, 1, 0, 0, 0, []), (87, .iload_n 2, 1, 2, 0, 0, []), (88, .iand, 1, 0, 0, 0, []), (89, .aload_n 0, 1, 0, 0, 0, []), (90, .getfield 31, 3, 12, 12, 0, [(0, 1003)]), (93, .iload_n 3, 1, 3, 0, 0, []), (94, .iconst 1, 1, 0, 0, 1, []), (95, .isub, 1, 0, 0, 0, []), (96, .iload 5, 2, 5, 0, 0, []), (98, .isub, 1, 0, 0, 0, []), (99, .iaload, 1, 0, 0, 0, []), (100, .iand, 1, 0, 0, 0, []), (101, .istore 6, 2, 6, 0, 0, []), (103, .iconst 0, 1, 0, 0, 0, []), (104, .istore 7, 2, 7, 0, 0, []), (106, .nop, 0, 106, 0, 0, [])]
  | 106 => [(106, .iload 6, 2, 6, 0, 0, []), (108, .iload 7, 2, 7, 0, 0, []), (110, .invokestatic 107, 3, 133, 2, 0, [(0, 1098)]), (113, .ifCond .ne 9, 3, 122, 0, 0, []), (116, .iinc 7 1, 3, 7, 0, 1, []), (119, .goto (-13), 3, 106, 0, 0, [])]
  | 122 => [(122, .aload_n 0, 1, 0, 0, 0, []), (123, .getfield 34, 3, 12, 13, 0, [(0, 1004)]), (126, .iload 5, 2, 5, 0, 0, []), (128, .iload 7, 2, 7, 0, 0, []), (130, .iastore, 1, 0, 0, 0, []), (131, .iload 7, 2, 7, 0, 0, []), (133, .istore 4, 2, 4, 0, 0, []), (135, .iinc 5 1, 3, 5, 0, 1, []), (138, .goto (-67), 3, 71, 0, 0, [])]
  | 141 => [(141, .iload_n 3, 1, 3, 0, 0, []), (142, .ireturn, 1, 0, 0, 0, [])]
  | _ => []
def mx_k_X12_finishes : mx_Mt := (mx_b_X12_finishes, ⟨"TwoMayorsModel", "finishes", "(II)I"⟩, prog_14_method_32_code, 8, (some .int), "TwoMayorsModel", { frames := 2, cells := 0, slots := 0, locals := 45 }, [0, 15, 39, 40, 47, 63, 64, 71, 106, 122, 141], [0, 1164, 76, 1163, 47])
def mx_b_X12_all : Nat → List mx_In := fun t => match t with
  | 0 => [(0, .iconst 1, 1, 0, 0, 1, []), (1, .aload_n 0, 1, 0, 0, 0, []), (2, .getfield 13, 3, 12, 2, 0, [(0, 993)]), (5, .iconst 0, 1, 0, 0, 0, []), (6, .iaload, 1, 0, 0, 0, []), (7, .ishl, 1, 0, 0, 0, []), (8, .iconst 1, 1, 0, 0, 1, []), (9, .isub, 1, 0, 0, 0, []), (10, .ireturn, 1, 0, 0, 0, [])]
  | _ => []
def mx_k_X12_all : mx_Mt := (mx_b_X12_all, ⟨"TwoMayorsModel", "all", "()I"⟩, prog_14_method_33_code, 1, (some .int), "TwoMayorsModel", { frames := 0, cells := 0, slots := 0, locals := 0 }, [0], [0, 1160, 76, 1159, 46])
def mx_b_X12_knowsFor : Nat → List mx_In := fun t => match t with
  | 0 => [(0, .aload_n 0, 1, 0, 0, 0, []), (1, .getfield 13, 3, 12, 2, 0, [(0, 993)]), (4, .iconst 3, 1, 0, 0, 3, []), (5, .iload_n 1, 1, 1, 0, 0, []), (6, .iadd, 1, 0, 0, 0, []), (7, .iaload, 1, 0, 0, 0, []), (8, .iconst 3, 1, 0, 0, 3, []), (9, .if_icmp .ne 10, 3, 19, 0, 0, []), (12, .aload_n 0, 1, 0, 0, 0, []), (13, .invokevirtual 140, 3, 161, 1, 0, [(0, 1157)]), (16, .goto 18, 3, 34, 0, 0, [])]
  | 19 => [(19, .aload_n 0, 1, 0, 0, 0, []), (20, .getfield 19, 3, 12, 4, 0, [(0, 995)]), (23, .bipush 20, 2, 0, 0, 20, []), (25, .aload_n 0, 1, 0, 0, 0, []), (26, .getfield 19, 3, 12, 4, 0, [(0, 995)]), (29, .bipush 13, 2, 0, 0, 13, []), (31, .iaload, 1, 0, 0, 0, []), (32, .isub, 1, 0, 0, 0, []), (33, .iaload, 1, 0, 0, 0, []), (34, .nop, 0, 34, 0, 0, [])]
  | 34 => [(34, .ireturn, 1, 0, 0, 0, [])]
  | _ => []
def mx_k_X12_knowsFor : mx_Mt := (mx_b_X12_knowsFor, ⟨"TwoMayorsModel", "knowsFor", "(I)I"⟩, prog_14_method_34_code, 2, (some .int), "TwoMayorsModel", { frames := 1, cells := 0, slots := 0, locals := 20 }, [0, 19, 34], [0, 1156, 76, 1155, 45])
def mx_b_X12_finishesNow : Nat → List mx_In := fun t => match t with
  | 0 => [(0, .aload_n 0, 1, 0, 0, 0, []), (1, .getfield 19, 3, 12, 4, 0, [(0, 995)]), (4, .bipush 12, 2, 0, 0, 12, []), (6, .iaload, 1, 0, 0, 0, []), (7, .ifCond .ne 7, 3, 14, 0, 0, []), (10, .iconst 0, 1, 0, 0, 0, []), (11, .goto 21, 3, 32, 0, 0, [])]
  | 14 => [(14, .aload_n 0, 1, 0, 0, 0, []), (15, .aload_n 0, 1, 0, 0, 0, []), (16, .invokevirtual 111, 3, 150, 1, 0, [(0, 1117)]), (19, .aload_n 0, 1, 0, 0, 0, []), (20, .aload_n 0, 1, 0, 0, 0, []), (21, .getfield 19, 3, 12, 4, 0, [(0, 995)]), (24, .iconst 0, 1, 0, 0, 0, []), (25, .iaload, 1, 0, 0, 0, []), (26, .invokevirtual 143, 3, 162, 2, 0, [(0, 1153)]), (29, .invokevirtual 146, 3, 160, 3, 0, [(0, 1161)]), (32, .nop, 0, 32, 0, 0, [])]
  | 32 => [(32, .ireturn, 1, 0, 0, 0, [])]
  | _ => []
def mx_k_X12_finishesNow : mx_Mt := (mx_b_X12_finishesNow, ⟨"TwoMayorsModel", "finishesNow", "()I"⟩, prog_14_method_35_code, 1, (some .int), "TwoMayorsModel", { frames := 3, cells := 0, slots := 0, locals := 72 }, [0, 14, 32], [0, 1152, 76, 1151, 44])
def mx_b_X12_ends : Nat → List mx_In := fun t => match t with
  | 0 => [(0, .aload_n 0, 1, 0, 0, 0, []), (1, .invokevirtual 150, 3, 163, 1, 0, [(0, 1149)]), (4, .istore_n 1, 1, 1, 0, 0, []), (5, .aload_n 0, 1, 0, 0, 0, []), (6, .invokevirtual 128, 3, 154, 1, 0, [(0, 1137)]), (9, .istore_n 2, 1, 2, 0, 0, []), (10, .iconst 0, 1, 0, 0, 0, []), (11, .istore_n 3, 1, 3, 0, 0, []), (12, .nop, 0, 12, 0, 0, [])]
  | 12 => [(12, .iload_n 3, 1, 3, 0, 0, []), (13, .iload_n 1, 1, 1, 0, 0, []), (14, .if_icmp .ge 26, 3, 40, 0, 0, []), (17, .iload_n 2, 1, 2, 0, 0, []), (18, .aload_n 0, 1, 0, 0, 0, []), (19, .getfield 13, 3, 12, 2, 0, [(0, 993)]), (22, .bipush 13, 2, 0, 0, 13, []), (24, .aload_n 0, 1, 0, 0, 0, []), (25, .getfield 34, 3, 12, 13, 0, [(0, 1004)]), (28, .iload_n 3, 1, 3, 0, 0, []), (29, .iaload, 1, 0, 0, 0, []), (30, .iadd, 1, 0, 0, 0, []), (31, .iaload, 1, 0, 0, 0, []), (32, .iadd, 1, 0, 0, 0, []), (33, .istore_n 2, 1, 2, 0, 0, []), (34, .iinc 3 1, 3, 3, 0, 1, []), (37, .goto (-25), 3, 12, 0, 0, [])]
  | 40 => [(40, .aload_n 0, 1, 0, 0, 0, []), (41, .getfield 19, 3, 12, 4, 0, [(0, 995)]), (44, .bipush 14, 2, 0, 0, 14, []), (46, .dup2, 1, 0, 0, 0, []), (47, .iaload, 1, 0, 0, 0, []), (48, .iload_n 1, 1, 1, 0, 0, []), (49, .iadd, 1, 0, 0, 0, []), (50, .iastore, 1, 0, 0, 0, []), (51, .aload_n 0, 1, 0, 0, 0, []), (52, .getfield 19, 3, 12, 4, 0, [(0, 995)]), (55, .bipush 13, 2, 0, 0, 13, []), (57, .iconst 1, 1, 0, 0, 1, []), (58, .aload_n 0, 1, 0, 0, 0, []), (59, .getfield 19, 3, 12, 4, 0, [(0, 995)]), (62, .bipush 13, 2, 0, 0, 13, []), (64, .iaload, 1, 0, 0, 0, []), (65, .isub, 1, 0, 0, 0, []), (66, .iastore, 1, 0, 0, 0, []), (67, .aload_n 0, 1, 0, 0, 0, []), (68, .getfield 19, 3, 12, 4, 0, [(0, 995)]), (71, .bipush 21, 2, 0, 0, 21, []), (73, .dup2, 1, 0, 0, 0, []), (74, .iaload, 1, 0, 0, 0, []), (75, .iconst 1, 1, 0, 0, 1, []), (76, .iadd, 1, 0, 0, 0, []), (77, .iastore, 1, 0, 0, 0, []), (78, .aload_n 0, 1, 0, 0, 0, []), (79, .aload_n 0, 1, 0, 0, 0, []), (80, .getfield 19, 3, 12, 4, 0, [(0, 995)]), (83, .bipush 13, 2, 0, 0, 13, []), (85, .iaload, 1, 0, 0, 0, []), (86, .iload_n 2, 1, 2, 0, 0, []), (87, .invokevirtual 131, 3, 155, 3, 0, [(0, 1141)]), (90, .iload_n 2, 1, 2, 0, 0, []), (91, .ireturn, 1, 0, 0, 0, [])]
  | _ => []
def mx_k_X12_ends : mx_Mt := (mx_b_X12_ends, ⟨"TwoMayorsModel", "ends", "()I"⟩, prog_14_method_36_code, 4, (some .int), "TwoMayorsModel", { frames := 4, cells := 0, slots := 0, locals := 92 }, [0, 12, 40], [0, 1176, 76, 1175, 50])
def mx_b_X12_finish : Nat → List mx_In := fun t => match t with
  | 0 => [(0, .aload_n 0, 1, 0, 0, 0, []), (1, .invokevirtual 150, 3, 163, 1, 0, [(0, 1149)]), (4, .ifCond .ne 6, 3, 10, 0, 0, []), (7, .bipush (-2), 2, 0, 0, (-2), []), (9, .ireturn, 1, 0, 0, 0, [])]
  | 10 => [(10, .aload_n 0, 1, 0, 0, 0, []), (11, .invokevirtual 117, 3, 149, 1, 0, [(0, 1121)]), (14, .aload_n 0, 1, 0, 0, 0, []), (15, .invokevirtual 153, 3, 164, 1, 0, [(0, 1173)]), (18, .ireturn, 1, 0, 0, 0, [])]
  | _ => []
def mx_k_X12_finish : mx_Mt := (mx_b_X12_finish, ⟨"TwoMayorsModel", "finish", "()I"⟩, prog_14_method_37_code, 1, (some .int), "TwoMayorsModel", { frames := 5, cells := 0, slots := 0, locals := 115 }, [0, 10], [0, 1148, 76, 1146, 1147])
def mx_b_X12_drops : Nat → List mx_In := fun t => match t with
  | 0 => [(0, .aload_n 0, 1, 0, 0, 0, []), (1, .getfield 19, 3, 12, 4, 0, [(0, 995)]), (4, .bipush 12, 2, 0, 0, 12, []), (6, .iconst 0, 1, 0, 0, 0, []), (7, .iastore, 1, 0, 0, 0, []), (8, .aload_n 0, 1, 0, 0, 0, []), (9, .getfield 19, 3, 12, 4, 0, [(0, 995)]), (12, .bipush 14, 2, 0, 0, 14, []), (14, .dup2, 1, 0, 0, 0, []), (15, .iaload, 1, 0, 0, 0, []), (16, .iconst 1, 1, 0, 0, 1, []), (17, .iadd, 1, 0, 0, 0, []), (18, .iastore, 1, 0, 0, 0, []), (19, .return_, 1, 0, 0, 0, [])]
  | _ => []
def mx_k_X12_drops : mx_Mt := (mx_b_X12_drops, ⟨"TwoMayorsModel", "drops", "()V"⟩, prog_14_method_38_code, 1, none, "TwoMayorsModel", { frames := 0, cells := 0, slots := 0, locals := 0 }, [0], [0, 1184, 76, 1183, 51])
def mx_b_X12_drop : Nat → List mx_In := fun t => match t with
  | 0 => [(0, .aload_n 0, 1, 0, 0, 0, []), (1, .getfield 19, 3, 12, 4, 0, [(0, 995)]), (4, .bipush 12, 2, 0, 0, 12, []), (6, .iaload, 1, 0, 0, 0, []), (7, .ifCond .ne 6, 3, 13, 0, 0, []), (10, .bipush (-2), 2, 0, 0, (-2), []), (12, .ireturn, 1, 0, 0, 0, [])]
  | 13 => [(13, .aload_n 0, 1, 0, 0, 0, []), (14, .invokevirtual 117, 3, 149, 1, 0, [(0, 1121)]), (17, .aload_n 0, 1, 0, 0, 0, []), (18, .getfield 19, 3, 12, 4, 0, [(0, 995)]), (21, .bipush 12, 2, 0, 0, 12, []), (23, .iaload, 1, 0, 0, 0, []), (24, .istore_n 1, 1, 1, 0, 0, []), (25, .aload_n 0, 1, 0, 0, 0, []), (26, .invokevirtual 156, 3, 166, 1, 0, [(0, 1181)]), (29, .iload_n 1, 1, 1, 0, 0, []), (30, .ireturn, 1, 0, 0, 0, [])]
  | _ => []
def mx_k_X12_drop : mx_Mt := (mx_b_X12_drop, ⟨"TwoMayorsModel", "drop", "()I"⟩, prog_14_method_39_code, 2, (some .int), "TwoMayorsModel", { frames := 1, cells := 0, slots := 0, locals := 21 }, [0, 13], [0, 1180, 76, 1178, 1179])
def mx_b_X12_learn : Nat → List mx_In := fun t => match t with
  | 0 => [(0, .iload_n 1, 1, 1, 0, 0, []), (1, .iconst 0, 1, 0, 0, 0, []), (2, .iconst 1, 1, 0, 0, 1, []), (3, .invokestatic 65, 3, 131, 3, 0, [(0, 1056)]), (6, .ifCond .eq 11, 3, 17, 0, 0, []), (9, .aload_n 0, 1, 0, 0, 0, []), (10, .iload_n 2, 1, 2, 0, 0, []), (11, .invokevirtual 104, 3, 132, 2, 0, [(0, 1094)]), (14, .ifCond .ne 5, 3, 19, 0, 0, []), (17, .nop, 0, 17, 0, 0, [])]
  | 17 => [(17, .iconst (-1), 1, 0, 0, (-1), []), (18, .ireturn, 1, 0, 0, 0, [])]
  | 19 => [(19, .aload_n 0, 1, 0, 0, 0, []), (20, .invokevirtual 117, 3, 149, 1, 0, [(0, 1121)]), (23, .aload_n 0, 1, 0, 0, 0, []), (24, .getfield 19, 3, 12, 4, 0, [(0, 995)]), (27, .bipush 19, 2, 0, 0, 19, []), (29, .iload_n 1, 1, 1, 0, 0, []), (30, .iadd, 1, 0, 0, 0, []), (31, .dup2, 1, 0, 0, 0, []), (32, .iaload, 1, 0, 0, 0, []), (33, .iconst 1, 1, 0, 0, 1, []), (34, .iload_n 2, 1, 2, 0, 0, []), (35, .ishl, 1, 0, 0, 0, []), (36, .ixor, 1, 0, 0, 0, []), (37, .iastore, 1, 0, 0, 0, []), (38, .aload_n 0, 1, 0, 0, 0, []), (39, .getfield 19, 3, 12, 4, 0, [(0, 995)]), (42, .bipush 19, 2, 0, 0, 19, []), (44, .iload_n 1, 1, 1, 0, 0, []), (45, .iadd, 1, 0, 0, 0, []), (46, .iaload, 1, 0, 0, 0, []), (47, .iload_n 2, 1, 2, 0, 0, []), (48, .invokestatic 107, 3, 133, 2, 0, [(0, 1098)]), (51, .ifCond .eq 7, 3, 58, 0, 0, []), (54, .iconst 1, 1, 0, 0, 1, []), (55, .goto 4, 3, 59, 0, 0, [])]
  | 58 => [(58, .iconst 0, 1, 0, 0, 0, []), (59, .nop, 0, 59, 0, 0, [])]
  | 59 => [(59, .ireturn, 1, 0, 0, 0, [])]
  | _ => []
def mx_k_X12_learn : mx_Mt := (mx_b_X12_learn, ⟨"TwoMayorsModel", "learn", "(II)I"⟩, prog_14_method_40_code, 3, (some .int), "TwoMayorsModel", { frames := 2, cells := 0, slots := 0, locals := 43 }, [0, 17, 19, 58, 59], [0, 1188, 76, 1186, 1187])
def mx_b_X12_undo : Nat → List mx_In := fun t => match t with
  | 0 => [(0, .aload_n 0, 1, 0, 0, 0, []), (1, .getfield 95, 3, 12, 6, 0, [(0, 997)]), (4, .ifCond .ne 6, 3, 10, 0, 0, []), (7, .bipush (-2), 2, 0, 0, (-2), []), (9, .ireturn, 1, 0, 0, 0, [])]
  | 10 => [(10, .aload_n 0, 1, 0, 0, 0, []), (11, .dup, 1, 0, 0, 0, []), (12, .getfield 95, 3, 12, 6, 0, [(0, 997)]), (15, .iconst 1, 1, 0, 0, 1, []), (16, .isub, 1, 0, 0, 0, []), (17, .putfield 95, 3, 12, 6, 0, [(0, 997)]), (20, .iconst 0, 1, 0, 0, 0, []), (21, .istore_n 1, 1, 1, 0, 0, []), (22, .nop, 0, 22, 0, 0, [])]
  | 22 => [(22, .iload_n 1, 1, 1, 0, 0, []), (23, .bipush 22, 2, 0, 0, 22, []), (25, .if_icmp .ge 29, 3, 54, 0, 0, []), (28, .aload_n 0, 1, 0, 0, 0, []), (29, .getfield 19, 3, 12, 4, 0, [(0, 995)]), (32, .iload_n 1, 1, 1, 0, 0, []), (33, .aload_n 0, 1, 0, 0, 0, []), (34, .getfield 22, 3, 12, 5, 0, [(0, 996)]), (37, .bipush 22, 2, 0, 0, 22, []), (39, .aload_n 0, 1, 0, 0, 0, []), (40, .getfield 95, 3, 12, 6, 0, [(0, 997)]), (43, .imul, 1, 0, 0, 0, []), (44, .iload_n 1, 1, 1, 0, 0, []), (45, .iadd, 1, 0, 0, 0, []), (46, .iaload, 1, 0, 0, 0, []), (47, .iastore, 1, 0, 0, 0, []), (48, .iinc 1 1, 3, 1, 0, 1, []), (51, .goto (-29), 3, 22, 0, 0, [])]
  | 54 => [(54, .aload_n 0, 1, 0, 0, 0, []), (55, .getfield 95, 3, 12, 6, 0, [(0, 997)]), (58, .ireturn, 1, 0, 0, 0, [])]
  | _ => []
def mx_k_X12_undo : mx_Mt := (mx_b_X12_undo, ⟨"TwoMayorsModel", "undo", "()I"⟩, prog_14_method_41_code, 2, (some .int), "TwoMayorsModel", { frames := 0, cells := 0, slots := 0, locals := 0 }, [0, 10, 22, 54], [0, 1192, 76, 1190, 1191])
def mx_b_X12_finishing : Nat → List mx_In := fun t => match t with
  | 0 => [(0, .iload_n 1, 1, 1, 0, 0, []), (1, .iconst (-1), 1, 0, 0, (-1), []), (2, .iconst 3, 1, 0, 0, 3, []), (3, .invokestatic 65, 3, 131, 3, 0, [(0, 1056)]), (6, .ifCond .ne 5, 3, 11, 0, 0, []), (9, .iconst (-1), 1, 0, 0, (-1), []), (10, .ireturn, 1, 0, 0, 0, [])]
  | 11 => [(11, .aload_n 0, 1, 0, 0, 0, []), (12, .invokevirtual 150, 3, 163, 1, 0, [(0, 1149)]), (15, .istore_n 2, 1, 2, 0, 0, []), (16, .iload_n 2, 1, 2, 0, 0, []), (17, .ifCond .ne 8, 3, 25, 0, 0, []), (20, .bipush (-4), 2, 0, 0, (-4), []), (22, .goto 28, 3, 50, 0, 0, [])]
  | 25 => [(25, .iload_n 1, 1, 1, 0, 0, []), (26, .iconst (-1), 1, 0, 0, (-1), []), (27, .if_icmp .ne 7, 3, 34, 0, 0, []), (30, .iload_n 2, 1, 2, 0, 0, []), (31, .goto 19, 3, 50, 0, 0, [])]
  | 34 => [(34, .iload_n 1, 1, 1, 0, 0, []), (35, .iload_n 2, 1, 2, 0, 0, []), (36, .if_icmp .ge 12, 3, 48, 0, 0, []), (39, .aload_n 0, 1, 0, 0, 0, []), (40, .getfield 34, 3, 12, 13, 0, [(0, 1004)]), (43, .iload_n 1, 1, 1, 0, 0, []), (44, .iaload, 1, 0, 0, 0, []), (45, .goto 5, 3, 50, 0, 0, [])]
  | 48 => [(48, .bipush (-4), 2, 0, 0, (-4), []), (50, .nop, 0, 50, 0, 0, [])]
  | 50 => [(50, .ireturn, 1, 0, 0, 0, [])]
  | _ => []
def mx_k_X12_finishing : mx_Mt := (mx_b_X12_finishing, ⟨"TwoMayorsModel", "finishing", "(I)I"⟩, prog_14_method_42_code, 3, (some .int), "TwoMayorsModel", { frames := 4, cells := 0, slots := 0, locals := 92 }, [0, 11, 25, 34, 48, 50], [0, 1196, 76, 1194, 1195])
def mx_b_X12_lost : Nat → List mx_In := fun t => match t with
  | 0 => [(0, .aload_n 0, 1, 0, 0, 0, []), (1, .iload_n 1, 1, 1, 0, 0, []), (2, .invokevirtual 143, 3, 162, 2, 0, [(0, 1153)]), (5, .istore_n 2, 1, 2, 0, 0, []), (6, .iconst 0, 1, 0, 0, 0, []), (7, .istore_n 3, 1, 3, 0, 0, []), (8, .iconst 0, 1, 0, 0, 0, []), (9, .istore 4, 2, 4, 0, 0, []), (11, .nop, 0, 11, 0, 0, [])]
  | 11 => [(11, .iload 4, 2, 4, 0, 0, []), (13, .aload_n 0, 1, 0, 0, 0, []), (14, .getfield 13, 3, 12, 2, 0, [(0, 993)]), (17, .iconst 0, 1, 0, 0, 0, []), (18, .iaload, 1, 0, 0, 0, []), (19, .if_icmp .ge 30, 3, 49, 0, 0, []), (22, .iload_n 3, 1, 3, 0, 0, []), (23, .aload_n 0, 1, 0, 0, 0, []), (24, .iload 4, 2, 4, 0, 0, []), (26, .iload_n 2, 1, 2, 0, 0, []), (27, .invokevirtual 146, 3, 160, 3, 0, [(0, 1161)]), (30, .ifCond .le 10, 3, 40, 0, 0, []), (33, .iconst 1, 1, 0, 0, 1, []), (34, .iload 4, 2, 4, 0, 0, []), (36, .ishl, 1, 0, 0, 0, []), (37, .goto 4, 3, 41, 0, 0, [])]
  | 40 => [(40, .iconst 0, 1, 0, 0, 0, []), (41, .nop, 0, 41, 0, 0, [])]
  | 41 => [(41, .ior, 1, 0, 0, 0, []), (42, .istore_n 3, 1, 3, 0, 0, []), (43, .iinc 4 1, 3, 4, 0, 1, []), (46, .goto (-35), 3, 11, 0, 0, [])]
  | 49 => [(49, .iload_n 3, 1, 3, 0, 0, []), (50, .ireturn, 1, 0, 0, 0, [])]
  | _ => []
def mx_k_X12_lost : mx_Mt := (mx_b_X12_lost, ⟨"TwoMayorsModel", "lost", "(I)I"⟩, prog_14_method_43_code, 5, (some .int), "TwoMayorsModel", { frames := 3, cells := 0, slots := 0, locals := 72 }, [0, 11, 40, 41, 49], [0, 1208, 76, 1207, 53])
def mx_b_X12_reckons : Nat → List mx_In := fun t => match t with
  | 0 => [(0, .aload_n 0, 1, 0, 0, 0, []), (1, .getfield 37, 3, 12, 14, 0, [(0, 1005)]), (4, .iconst 0, 1, 0, 0, 0, []), (5, .iconst 0, 1, 0, 0, 0, []), (6, .iastore, 1, 0, 0, 0, []), (7, .aload_n 0, 1, 0, 0, 0, []), (8, .getfield 37, 3, 12, 14, 0, [(0, 1005)]), (11, .bipush 10, 2, 0, 0, 10, []), (13, .aload_n 0, 1, 0, 0, 0, []), (14, .invokevirtual 134, 3, 158, 1, 0, [(0, 1169)]), (17, .iastore, 1, 0, 0, 0, []), (18, .iconst 1, 1, 0, 0, 1, []), (19, .istore_n 3, 1, 3, 0, 0, []), (20, .nop, 0, 20, 0, 0, [])]
  | 20 => [(20, .iload_n 3, 1, 3, 0, 0, []), (21, .bipush 10, 2, 0, 0, 10, []), (23, .if_icmp .ge 182, 3, 205, 0, 0, []), (26, .aload_n 0, 1, 0, 0, 0, []), (27, .getfield 37, 3, 12, 14, 0, [(0, 1005)]), (30, .iload_n 3, 1, 3, 0, 0, []), (31, .iconst 0, 1, 0, 0, 0, []), (32, .iastore, 1, 0, 0, 0, []), (33, .aload_n 0, 1, 0, 0, 0, []), (34, .getfield 37, 3, 12, 14, 0, [(0, 1005)]), (37, .bipush 10, 2, 0, 0, 10, []), (39, .iload_n 3, 1, 3, 0, 0, []), (40, .iadd, 1, 0, 0, 0, []), (41, .iconst 0, 1, 0, 0, 0, []), (42, .iastore, 1, 0, 0, 0, []), (43, .iconst 0, 1, 0, 0, 0, []), (44, .istore 4, 2, 4, 0, 0, []), (46, .nop, 0, 46, 0, 0, [])]
  | 46 => [(46, .iload 4, 2, 4, 0, 0, []), (48, .aload_n 0, 1, 0, 0, 0, []), (49, .getfield 13, 3, 12, 2, 0, [(0, 993)]), (52, .iconst 0, 1, 0, 0, 0, []), (53, .iaload, 1, 0, 0, 0, []), (54, .if_icmp .ge 145, 3, 199, 0, 0, []), (57, .iload_n 2, 1, 2, 0, 0, []), (58, .iload 4, 2, 4, 0, 0, []), (60, .invokestatic 107, 3, 133, 2, 0, [(0, 1098)]), (63, .ifCond .eq 7, 3, 70, 0, 0, []), (66, .iconst 0, 1, 0, 0, 0, []), (67, .goto 13, 3, 80, 0, 0, [])]
  | 70 => [(70, .aload_n 0, 1, 0, 0, 0, []), (71, .getfield 13, 3, 12, 2, 0, [(0, 993)]), (74, .bipush 23, 2, 0, 0, 23, []), (76, .iload 4, 2, 4, 0, 0, []), (78, .iadd, 1, 0, 0, 0, []), (79, .iaload, 1, 0, 0, 0, []), (80, .nop, 0, 80, 0, 0, [])]
  | 80 => [(80, .istore 5, 2, 5, 0, 0, []), (82, .iload 5, 2, 5, 0, 0, []), (84, .aload_n 0, 1, 0, 0, 0, []), (85, .getfield 37, 3, 12, 14, 0, [(0, 1005)]), (88, .bipush 10, 2, 0, 0, 10, []), (90, .iload_n 3, 1, 3, 0, 0, []), (91, .iadd, 1, 0, 0, 0, []), (92, .iconst 1, 1, 0, 0, 1, []), (93, .isub, 1, 0, 0, 0, []), (94, .iaload, 1, 0, 0, 0, []), (95, .iand, 1, 0, 0, 0, []), (96, .ifCond .eq 7, 3, 103, 0, 0, []), (99, .iconst 1, 1, 0, 0, 1, []), (100, .goto 4, 3, 104, 0, 0, [])]
  | 103 => [(103, .iconst 0, 1, 0, 0, 0, []), (104, .nop, 0, 104, 0, 0, [])]
  | 104 => [(104, .istore 6, 2, 6, 0, 0, []), (106, .iload 5, 2, 5, 0, 0, []), (108, .aload_n 0, 1, 0, 0, 0, []), (109, .getfield 37, 3, 12, 14, 0, [(0, 1005)]), (112, .bipush 10, 2, 0, 0, 10, []), (114, .iload_n 3, 1, 3, 0, 0, []), (115, .iadd, 1, 0, 0, 0, []), (116, .iconst 1, 1, 0, 0, 1, []), (117, .isub, 1, 0, 0, 0, []), (118, .iaload, 1, 0, 0, 0, []), (119, .iand, 1, 0, 0, 0, []), (120, .iload_n 1, 1, 1, 0, 0, []), (121, .invokestatic 107, 3, 133, 2, 0, [(0, 1098)]), (124, .istore 7, 2, 7, 0, 0, []), (126, .aload_n 0, 1, 0, 0, 0, []), (127, .getfield 37, 3, 12, 14, 0, [(0, 1005)]), (130, .bipush 10, 2, 0, 0, 10, []), (132, .iload_n 3, 1, 3, 0, 0, []), (133, .iadd, 1, 0, 0, 0, []), (134, .dup2, 1, 0, 0, 0, []), (135, .iaload, 1, 0, 0, 0, []), (136, .iload 6, 2, 6, 0, 0, []), (138, .ifCond .eq 10, 3, 148, 0, 0, []), (141, .iconst 1, 1, 0, 0, 1, []), (142, .iload 4, 2, 4, 0, 0, []), (144, .ishl, 1, 0, 0, 0, []), (145, .goto 4, 3, 149, 0, 0, [])]
  | 148 => [(148, .iconst 0, 1, 0, 0, 0, []), (149, .nop, 0, 149, 0, 0, [])]
  | 149 => [(149, .ior, 1, 0, 0, 0, []), (150, .iastore, 1, 0, 0, 0, []), (151, .aload_n 0, 1, 0, 0, 0, []), (152, .getfield 37, 3, 12, 14, 0, [(0, 1005)]), (155, .iload_n 3, 1, 3, 0, 0, []), (156, .dup2, 1, 0, 0, 0, []), (157, .iaload, 1, 0, 0, 0, []), (158, .iload 7, 2, 7, 0, 0, []), (160, .ifCond .ne 23, 3, 183, 0, 0, []), (163, .iload 5, 2, 5, 0, 0, []), (165, .iconst 1, 1, 0, 0, 1, []), (166, .iload_n 1, 1, 1, 0, 0, []), (167, .ishl, 1, 0, 0, 0, []), (168, .iconst (-1), 1, 0, 0, (-1), []), (169, .ixor, 1, 0, 0, 0, []), (170, .iand, 1, 0, 0, 0, []), (171, .aload_n 0, 1, 0, 0, 0, []), (172, .getfield 37, 3, 12, 14, 0, [(0, 1005)]), (175, .iload_n 3, 1, 3, 0, 0, []), (176, .iconst 1, 1, 0, 0, 1, []), (177, .isub, 1, 0, 0, 0, []), (178, .iaload, 1, 0, 0, 0, []), (179, .iand, 1, 0, 0, 0, []), (180, .ifCond .eq 10, 3, 190, 0, 0, []), (183, .nop, 0, 183, 0, 0, [])]
  | 183 => [(183, .iconst 1, 1, 0, 0, 1, []), (184, .iload 4, 2, 4, 0, 0, []), (186, .ishl, 1, 0, 0, 0, []), (187, .goto 4, 3, 191, 0, 0, [])]
  | 190 => [(190, .iconst 0, 1, 0, 0, 0, []), (191, .nop, 0, 191, 0, 0, [])]
  | 191 => [(191, .ior, 1, 0, 0, 0, []), (192, .iastore, 1, 0, 0, 0, []), (193, .iinc 4 1, 3, 4, 0, 1, []), (196, .goto (-150), 3, 46, 0, 0, [])]
  | 199 => [(199, .iinc 3 1, 3, 3, 0, 1, []), (202, .goto (-182), 3, 20, 0, 0, [])]
  | 205 => [(205, .return_, 1, 0, 0, 0, [])]
  | _ => []
def mx_k_X12_reckons : mx_Mt := (mx_b_X12_reckons, ⟨"TwoMayorsModel", "reckons", "(II)V"⟩, prog_14_method_44_code, 8, none, "TwoMayorsModel", { frames := 1, cells := 0, slots := 0, locals := 22 }, [0, 20, 46, 70, 80, 103, 104, 148, 149, 183, 190, 191, 199, 205], [0, 1212, 76, 1211, 54])
def mx_b_X12_lowest : Nat → List mx_In := fun t => match t with
  | 0 => [(0, .iconst 0, 1, 0, 0, 0, []), (1, .istore_n 1, 1, 1, 0, 0, []), (2, .nop, 0, 2, 0, 0, [])]
  | 2 => [(2, .iload_n 0, 1, 0, 0, 0, []), (3, .iload_n 1, 1, 1, 0, 0, []), (4, .invokestatic 107, 3, 133, 2, 0, [(0, 1098)]), (7, .ifCond .ne 9, 3, 16, 0, 0, []), (10, .iinc 1 1, 3, 1, 0, 1, []), (13, .goto (-11), 3, 2, 0, 0, [])]
  | 16 => [(16, .iload_n 1, 1, 1, 0, 0, []), (17, .ireturn, 1, 0, 0, 0, [])]
  | _ => []
def mx_k_X12_lowest : mx_Mt := (mx_b_X12_lowest, ⟨"TwoMayorsModel", "lowest", "(I)I"⟩, prog_14_method_45_code, 2, (some .int), "TwoMayorsModel", { frames := 1, cells := 0, slots := 0, locals := 21 }, [0, 2, 16], [1, 1215, 76, 1214, 0])
def mx_b_X12_isSafe : Nat → List mx_In := fun t => match t with
  | 0 => [(0, .aload_n 0, 1, 0, 0, 0, []), (1, .iload_n 1, 1, 1, 0, 0, []), (2, .aload_n 0, 1, 0, 0, 0, []), (3, .iload_n 2, 1, 2, 0, 0, []), (4, .invokevirtual 159, 3, 171, 2, 0, [(0, 1205)]), (7, .invokevirtual 162, 3, 172, 3, 0, [(0, 1209)]), (10, .iload_n 2, 1, 2, 0, 0, []), (11, .iload_n 1, 1, 1, 0, 0, []), (12, .if_icmp .ne 8, 3, 20, 0, 0, []), (15, .bipush 10, 2, 0, 0, 10, []), (17, .goto 4, 3, 21, 0, 0, [])]
  | 20 => [(20, .iconst 0, 1, 0, 0, 0, []), (21, .nop, 0, 21, 0, 0, [])]
  | 21 => [(21, .istore 4, 2, 4, 0, 0, []), (23, .aload_n 0, 1, 0, 0, 0, []), (24, .getfield 37, 3, 12, 14, 0, [(0, 1005)]), (27, .iload 4, 2, 4, 0, 0, []), (29, .iload_n 3, 1, 3, 0, 0, []), (30, .iadd, 1, 0, 0, 0, []), (31, .iconst 1, 1, 0, 0, 1, []), (32, .isub, 1, 0, 0, 0, []), (33, .iaload, 1, 0, 0, 0, []), (34, .iload_n 2, 1, 2, 0, 0, []), (35, .invokestatic 107, 3, 133, 2, 0, [(0, 1098)]), (38, .istore 5, 2, 5, 0, 0, []), (40, .iload_n 2, 1, 2, 0, 0, []), (41, .istore 6, 2, 6, 0, 0, []), (43, .aload_n 0, 1, 0, 0, 0, []), (44, .getfield 34, 3, 12, 13, 0, [(0, 1004)]), (47, .iconst 0, 1, 0, 0, 0, []), (48, .iload_n 2, 1, 2, 0, 0, []), (49, .iastore, 1, 0, 0, 0, []), (50, .iconst 1, 1, 0, 0, 1, []), (51, .istore 7, 2, 7, 0, 0, []), (53, .nop, 0, 53, 0, 0, [])]
  | 53 => [(53, .iload 7, 2, 7, 0, 0, []), (55, .iload_n 3, 1, 3, 0, 0, []), (56, .if_icmp .ge 119, 3, 175, 0, 0, []), (59, .iload 5, 2, 5, 0, 0, []), (61, .ifCond .eq 114, 3, 175, 0, 0, []), (64, .iload_n 3, 1, 3, 0, 0, []), (65, .iconst 1, 1, 0, 0, 1, []), (66, .isub, 1, 0, 0, 0, []), (67, .iload 7, 2, 7, 0, 0, []), (69, .isub, 1, 0, 0, 0, []), (70, .istore 8, 2, 8, 0, 0, []), (72, .aload_n 0, 1, 0, 0, 0, []), (73, .getfield 13, 3, 12, 2, 0, [(0, 993)]), (76, .bipush 23, 2, 0, 0, 23, []), (78, .iload 6, 2, 6, 0, 0, []), (80, .iadd, 1, 0, 0, 0, []), (81, .iaload, 1, 0, 0, 0, []), (82, .istore 9, 2, 9, 0, 0, []), (84, .iload 4, 2, 4, 0, 0, []), (86, .ifCond .le 19, 3, 105, 0, 0, []), (89, .iload 9, 2, 9, 0, 0, []), (91, .aload_n 0, 1, 0, 0, 0, []), (92, .getfield 37, 3, 12, 14, 0, [(0, 1005)]), (95, .bipush 10, 2, 0, 0, 10, []), (97, .iload 8, 2, 8, 0, 0, []), (99, .iadd, 1, 0, 0, 0, []), (100, .iaload, 1, 0, 0, 0, []), (101, .iand, 1, 0, 0, 0, []), (102, .goto 34, 3, 136, 0, 0, [])]
  | 105 => [(105, .iload 9, 2, 9, 0, 0, []), (107, .aload_n 0, 1, 0, 0, 0, []), (108, .getfield 37, 3, 12, 14, 0, [(0, 1005)]), (111, .iload 8, 2, 8, 0, 0, []), (113, .iaload, 1, 0, 0, 0, []), (114, .iconst 1, 1, 0, 0, 1, []), (115, .iload_n 1, 1, 1, 0, 0, []), (116, .ishl, 1, 0, 0, 0, []), (117, .iconst (-1), 1, 0, 0, (-1), []), (118, .ixor, 1, 0, 0, 0, []), (119, .iand, 1, 0, 0, 0, []), (120, .aload_n 0, 1, 0, 0, 0, []), (121, .getfield 37, 3, 12, 14, 0, [(0, 1005)]), (124, .bipush 10, 2, 0, 0, 10, []), (126, .iload 8, 2, 8, 0, 0, []), (128, .iadd, 1, 0, 0, 0, []), (129, .iaload, 1, 0, 0, 0, []), (130, .iconst 1, 1, 0, 0, 1, []), (131, .iload_n 1, 1, 1, 0, 0, []), (132, .ishl, 1, 0, 0, 0, []), (133, .iand, 1, 0, 0, 0, []), (134, .ior, 1, 0, 0, 0, []), (135, .iand, 1, 0, 0, 0, []), (136, .nop, 0, 136, 0, 0, [])]
  | 136 => [(136, .istore 10, 2, 10, 0, 0, []), (138, .iload 10, 2, 10, 0, 0, []), (140, .invokestatic 165, 3, 173, 1, 0, [(0, 1213)]), (143, .istore 6, 2, 6, 0, 0, []), (145, .iload 6, 2, 6, 0, 0, []), (147, .iload_n 1, 1, 1, 0, 0, []), (148, .if_icmp .ne 8, 3, 156, 0, 0, []), (151, .bipush 10, 2, 0, 0, 10, []), (153, .goto 5, 3, 158, 0, 0, [])]
  | 156 => [(156, .iload 4, 2, 4, 0, 0, []), (158, .nop, 0, 158, 0, 0, [])]
  | 158 => [(158, .istore 4, 2, 4, 0, 0, []), (160, .aload_n 0, 1, 0, 0, 0, []), (161, .getfield 34, 3, 12, 13, 0, [(0, 1004)]), (164, .iload 7, 2, 7, 0, 0, []), (166, .iload 6, 2, 6, 0, 0, []), (168, .iastore, 1, 0, 0, 0, []), (169, .iinc 7 1, 3, 7, 0, 1, []), (172, .goto (-119), 3, 53, 0, 0, [])]
  | 175 => [(175, .iload 5, 2, 5, 0, 0, []), (177, .ireturn, 1, 0, 0, 0, [])]
  | _ => []
def mx_k_X12_isSafe : mx_Mt := (mx_b_X12_isSafe, ⟨"TwoMayorsModel", "isSafe", "(III)Z"⟩, prog_14_method_46_code, 11, (some .boolean), "TwoMayorsModel", { frames := 4, cells := 0, slots := 0, locals := 96 }, [0, 20, 21, 53, 105, 136, 156, 158, 175], [0, 1204, 76, 1203, 52])
def mx_b_X12_safe : Nat → List mx_In := fun t => match t with
  | 0 => [(0, .aload_n 0, 1, 0, 0, 0, []), (1, .iload_n 1, 1, 1, 0, 0, []), (2, .invokevirtual 104, 3, 132, 2, 0, [(0, 1094)]), (5, .ifCond .eq 13, 3, 18, 0, 0, []), (8, .iload_n 2, 1, 2, 0, 0, []), (9, .iconst (-1), 1, 0, 0, (-1), []), (10, .bipush 9, 2, 0, 0, 9, []), (12, .invokestatic 65, 3, 131, 3, 0, [(0, 1056)]), (15, .ifCond .ne 5, 3, 20, 0, 0, []), (18, .nop, 0, 18, 0, 0, [])]
  | 18 => [(18, .iconst (-1), 1, 0, 0, (-1), []), (19, .ireturn, 1, 0, 0, 0, [])]
  | 20 => [(20, .iconst 1, 1, 0, 0, 1, []), (21, .istore_n 3, 1, 3, 0, 0, []), (22, .nop, 0, 22, 0, 0, [])]
  | 22 => [(22, .iload_n 3, 1, 3, 0, 0, []), (23, .bipush 10, 2, 0, 0, 10, []), (25, .if_icmp .gt 66, 3, 91, 0, 0, []), (28, .iconst 0, 1, 0, 0, 0, []), (29, .istore 4, 2, 4, 0, 0, []), (31, .nop, 0, 31, 0, 0, [])]
  | 31 => [(31, .iload 4, 2, 4, 0, 0, []), (33, .aload_n 0, 1, 0, 0, 0, []), (34, .getfield 13, 3, 12, 2, 0, [(0, 993)]), (37, .iconst 0, 1, 0, 0, 0, []), (38, .iaload, 1, 0, 0, 0, []), (39, .if_icmp .ge 46, 3, 85, 0, 0, []), (42, .aload_n 0, 1, 0, 0, 0, []), (43, .iload_n 1, 1, 1, 0, 0, []), (44, .iload 4, 2, 4, 0, 0, []), (46, .iload_n 3, 1, 3, 0, 0, []), (47, .invokevirtual 168, 3, 174, 4, 0, [(0, 1201)]), (50, .ifCond .eq 29, 3, 79, 0, 0, []), (53, .iload_n 2, 1, 2, 0, 0, []), (54, .iconst (-1), 1, 0, 0, (-1), []), (55, .if_icmp .ne 7, 3, 62, 0, 0, []), (58, .iload_n 3, 1, 3, 0, 0, []), (59, .goto 19, 3, 78, 0, 0, [])]
  | 62 => [(62, .iload_n 2, 1, 2, 0, 0, []), (63, .iload_n 3, 1, 3, 0, 0, []), (64, .if_icmp .ge 12, 3, 76, 0, 0, []), (67, .aload_n 0, 1, 0, 0, 0, []), (68, .getfield 34, 3, 12, 13, 0, [(0, 1004)]), (71, .iload_n 2, 1, 2, 0, 0, []), (72, .iaload, 1, 0, 0, 0, []), (73, .goto 5, 3, 78, 0, 0, [])]
  | 76 => [(76, .bipush (-4), 2, 0, 0, (-4), []), (78, .nop, 0, 78, 0, 0, [])]
  | 78 => [(78, .ireturn, 1, 0, 0, 0, [])]
  | 79 => [(79, .iinc 4 1, 3, 4, 0, 1, []), (82, .goto (-51), 3, 31, 0, 0, [])]
  | 85 => [(85, .iinc 3 1, 3, 3, 0, 1, []), (88, .goto (-66), 3, 22, 0, 0, [])]
  | 91 => [(91, .bipush (-4), 2, 0, 0, (-4), []), (93, .ireturn, 1, 0, 0, 0, [])]
  | _ => []
def mx_k_X12_safe : mx_Mt := (mx_b_X12_safe, ⟨"TwoMayorsModel", "safe", "(II)I"⟩, prog_14_method_47_code, 5, (some .int), "TwoMayorsModel", { frames := 5, cells := 0, slots := 0, locals := 126 }, [0, 18, 20, 22, 31, 62, 76, 78, 79, 85, 91], [0, 1200, 76, 1198, 1199])
def mx_b_X12_gainsFor : Nat → List mx_In := fun t => match t with
  | 0 => [(0, .iconst 0, 1, 0, 0, 0, []), (1, .istore_n 2, 1, 2, 0, 0, []), (2, .nop, 0, 2, 0, 0, [])]
  | 2 => [(2, .iload_n 2, 1, 2, 0, 0, []), (3, .bipush 10, 2, 0, 0, 10, []), (5, .if_icmp .ge 175, 3, 180, 0, 0, []), (8, .iconst 0, 1, 0, 0, 0, []), (9, .istore_n 3, 1, 3, 0, 0, []), (10, .nop, 0, 10, 0, 0, [])]
  | 10 => [(10, .iload_n 3, 1, 3, 0, 0, []), (11, .aload_n 0, 1, 0, 0, 0, []), (12, .getfield 13, 3, 12, 2, 0, [(0, 993)]), (15, .iconst 0, 1, 0, 0, 0, []), (16, .iaload, 1, 0, 0, 0, []), (17, .if_icmp .ge 157, 3, 174, 0, 0, []), (20, .iload_n 2, 1, 2, 0, 0, []), (21, .ifCond .ne 19, 3, 40, 0, 0, []), (24, .aload_n 0, 1, 0, 0, 0, []), (25, .getfield 13, 3, 12, 2, 0, [(0, 993)]), (28, .iconst 3, 1, 0, 0, 3, []), (29, .iload_n 3, 1, 3, 0, 0, []), (30, .iadd, 1, 0, 0, 0, []), (31, .iaload, 1, 0, 0, 0, []), (32, .iconst 2, 1, 0, 0, 2, []), (33, .if_icmp .ne 7, 3, 40, 0, 0, []), (36, .iconst 0, 1, 0, 0, 0, []), (37, .goto 6, 3, 43, 0, 0, [])]
  | 40 => [(40, .sipush (-9999), 3, 0, 0, (-9999), []), (43, .nop, 0, 43, 0, 0, [])]
  | 43 => [(43, .istore 4, 2, 4, 0, 0, []), (45, .iconst 0, 1, 0, 0, 0, []), (46, .istore 5, 2, 5, 0, 0, []), (48, .nop, 0, 48, 0, 0, [])]
  | 48 => [(48, .iload 5, 2, 5, 0, 0, []), (50, .aload_n 0, 1, 0, 0, 0, []), (51, .getfield 13, 3, 12, 2, 0, [(0, 993)]), (54, .iconst 0, 1, 0, 0, 0, []), (55, .iaload, 1, 0, 0, 0, []), (56, .if_icmp .ge 99, 3, 155, 0, 0, []), (59, .iload_n 2, 1, 2, 0, 0, []), (60, .ifCond .le 32, 3, 92, 0, 0, []), (63, .iload_n 1, 1, 1, 0, 0, []), (64, .iload_n 3, 1, 3, 0, 0, []), (65, .invokestatic 107, 3, 133, 2, 0, [(0, 1098)]), (68, .ifCond .ne 24, 3, 92, 0, 0, []), (71, .aload_n 0, 1, 0, 0, 0, []), (72, .getfield 13, 3, 12, 2, 0, [(0, 993)]), (75, .bipush 23, 2, 0, 0, 23, []), (77, .iload_n 3, 1, 3, 0, 0, []), (78, .iadd, 1, 0, 0, 0, []), (79, .iaload, 1, 0, 0, 0, []), (80, .iload 5, 2, 5, 0, 0, []), (82, .invokestatic 107, 3, 133, 2, 0, [(0, 1098)]), (85, .ifCond .eq 7, 3, 92, 0, 0, []), (88, .iconst 1, 1, 0, 0, 1, []), (89, .goto 4, 3, 93, 0, 0, [])]
  | 92 => [(92, .iconst 0, 1, 0, 0, 0, []), (93, .nop, 0, 93, 0, 0, [])]
  | 93 => [(93, .istore 6, 2, 6, 0, 0, []), (95, .iload 6, 2, 6, 0, 0, []), (97, .ifCond .eq 31, 3, 128, 0, 0, []), (100, .aload_n 0, 1, 0, 0, 0, []), (101, .getfield 40, 3, 12, 15, 0, [(0, 1006)]), (104, .bipush 10, 2, 0, 0, 10, []), (106, .iload_n 2, 1, 2, 0, 0, []), (107, .iconst 1, 1, 0, 0, 1, []), (108, .isub, 1, 0, 0, 0, []), (109, .imul, 1, 0, 0, 0, []), (110, .iload 5, 2, 5, 0, 0, []), (112, .iadd, 1, 0, 0, 0, []), (113, .iaload, 1, 0, 0, 0, []), (114, .aload_n 0, 1, 0, 0, 0, []), (115, .getfield 13, 3, 12, 2, 0, [(0, 993)]), (118, .bipush 13, 2, 0, 0, 13, []), (120, .iload 5, 2, 5, 0, 0, []), (122, .iadd, 1, 0, 0, 0, []), (123, .iaload, 1, 0, 0, 0, []), (124, .iadd, 1, 0, 0, 0, []), (125, .goto 6, 3, 131, 0, 0, [])]
  | 128 => [(128, .sipush (-9999), 3, 0, 0, (-9999), []), (131, .nop, 0, 131, 0, 0, [])]
  | 131 => [(131, .istore 7, 2, 7, 0, 0, []), (133, .iload 7, 2, 7, 0, 0, []), (135, .iload 4, 2, 4, 0, 0, []), (137, .if_icmp .le 8, 3, 145, 0, 0, []), (140, .iload 7, 2, 7, 0, 0, []), (142, .goto 5, 3, 147, 0, 0, [])]
  | 145 => [(145, .iload 4, 2, 4, 0, 0, []), (147, .nop, 0, 147, 0, 0, [])]
  | 147 => [(147, .istore 4, 2, 4, 0, 0, []), (149, .iinc 5 1, 3, 5, 0, 1, []), (152, .goto (-104), 3, 48, 0, 0, [])]
  | 155 => [(155, .aload_n 0, 1, 0, 0, 0, []), (156, .getfield 40, 3, 12, 15, 0, [(0, 1006)]), (159, .bipush 10, 2, 0, 0, 10, []), (161, .iload_n 2, 1, 2, 0, 0, []), (162, .imul, 1, 0, 0, 0, []), (163, .iload_n 3, 1, 3, 0, 0, []), (164, .iadd, 1, 0, 0, 0, []), (165, .iload 4, 2, 4, 0, 0, []), (167, .iastore, 1, 0, 0, 0, []), (168, .iinc 3 1, 3, 3, 0, 1, []), (171, .goto (-161), 3, 10, 0, 0, [])]
  | 174 => [(174, .iinc 2 1, 3, 2, 0, 1, []), (177, .goto (-175), 3, 2, 0, 0, [])]
  | 180 => [(180, .return_, 1, 0, 0, 0, [])]
  | _ => []
def mx_k_X12_gainsFor : mx_Mt := (mx_b_X12_gainsFor, ⟨"TwoMayorsModel", "gainsFor", "(I)V"⟩, prog_14_method_48_code, 8, none, "TwoMayorsModel", { frames := 1, cells := 0, slots := 0, locals := 21 }, [0, 2, 10, 40, 43, 48, 92, 93, 128, 131, 145, 147, 155, 174, 180], [0, 1223, 76, 1222, 55])
def mx_b_X12_best : Nat → List mx_In := fun t => match t with
  | 0 => [(0, .iload_n 1, 1, 1, 0, 0, []), (1, .iconst 1, 1, 0, 0, 1, []), (2, .bipush 10, 2, 0, 0, 10, []), (4, .invokestatic 65, 3, 131, 3, 0, [(0, 1056)]), (7, .ifCond .eq 14, 3, 21, 0, 0, []), (10, .iload_n 2, 1, 2, 0, 0, []), (11, .bipush (-2), 2, 0, 0, (-2), []), (13, .bipush 9, 2, 0, 0, 9, []), (15, .invokestatic 65, 3, 131, 3, 0, [(0, 1056)]), (18, .ifCond .ne 5, 3, 23, 0, 0, []), (21, .nop, 0, 21, 0, 0, [])]
  | 21 => [(21, .iconst (-1), 1, 0, 0, (-1), []), (22, .ireturn, 1, 0, 0, 0, [])]
  | 23 => [(23, .iconst (-1), 1, 0, 0, (-1), []), (24, .istore_n 3, 1, 3, 0, 0, []), (25, .iconst 0, 1, 0, 0, 0, []), (26, .istore 4, 2, 4, 0, 0, []), (28, .iconst 0, 1, 0, 0, 0, []), (29, .istore 5, 2, 5, 0, 0, []), (31, .iload_n 1, 1, 1, 0, 0, []), (32, .iconst 1, 1, 0, 0, 1, []), (33, .isub, 1, 0, 0, 0, []), (34, .istore 6, 2, 6, 0, 0, []), (36, .nop, 0, 36, 0, 0, [])]
  | 36 => [(36, .iload 6, 2, 6, 0, 0, []), (38, .ifCond .lt 90, 3, 128, 0, 0, []), (41, .aload_n 0, 1, 0, 0, 0, []), (42, .getfield 13, 3, 12, 2, 0, [(0, 993)]), (45, .iconst 0, 1, 0, 0, 0, []), (46, .iaload, 1, 0, 0, 0, []), (47, .iconst 1, 1, 0, 0, 1, []), (48, .isub, 1, 0, 0, 0, []), (49, .istore 7, 2, 7, 0, 0, []), (51, .nop, 0, 51, 0, 0, [])]
  | 51 => [(51, .iload 7, 2, 7, 0, 0, []), (53, .ifCond .lt 69, 3, 122, 0, 0, []), (56, .aload_n 0, 1, 0, 0, 0, []), (57, .aload_n 0, 1, 0, 0, 0, []), (58, .iload 7, 2, 7, 0, 0, []), (60, .invokevirtual 159, 3, 171, 2, 0, [(0, 1205)]), (63, .invokevirtual 171, 3, 176, 2, 0, [(0, 1220)]), (66, .aload_n 0, 1, 0, 0, 0, []), (67, .getfield 40, 3, 12, 15, 0, [(0, 1006)]), (70, .bipush 10, 2, 0, 0, 10, []), (72, .iload 6, 2, 6, 0, 0, []), (74, .imul, 1, 0, 0, 0, []), (75, .iload 7, 2, 7, 0, 0, []), (77, .iadd, 1, 0, 0, 0, []), (78, .iaload, 1, 0, 0, 0, []), (79, .aload_n 0, 1, 0, 0, 0, []), (80, .getfield 13, 3, 12, 2, 0, [(0, 993)]), (83, .bipush 13, 2, 0, 0, 13, []), (85, .iload 7, 2, 7, 0, 0, []), (87, .iadd, 1, 0, 0, 0, []), (88, .iaload, 1, 0, 0, 0, []), (89, .iadd, 1, 0, 0, 0, []), (90, .istore 8, 2, 8, 0, 0, []), (92, .iload 8, 2, 8, 0, 0, []), (94, .ifCond .lt 22, 3, 116, 0, 0, []), (97, .iload 8, 2, 8, 0, 0, []), (99, .iload_n 3, 1, 3, 0, 0, []), (100, .if_icmp .lt 16, 3, 116, 0, 0, []), (103, .iload 8, 2, 8, 0, 0, []), (105, .istore_n 3, 1, 3, 0, 0, []), (106, .iload 6, 2, 6, 0, 0, []), (108, .iconst 1, 1, 0, 0, 1, []), (109, .iadd, 1, 0, 0, 0, []), (110, .istore 4, 2, 4, 0, 0, []), (112, .iload 7, 2, 7, 0, 0, []), (114, .istore 5, 2, 5, 0, 0, []), (116, .nop, 0, 116, 0, 0, [])]
  | 116 => [(116, .iinc 7 (-1), 3, 7, 0, (-1), []), (119, .goto (-68), 3, 51, 0, 0, [])]
  | 122 => [(122, .iinc 6 (-1), 3, 6, 0, (-1), []), (125, .goto (-89), 3, 36, 0, 0, [])]
  | 128 => [(128, .iload_n 3, 1, 3, 0, 0, []), (129, .ifCond .lt 7, 3, 136, 0, 0, []), (132, .iload_n 2, 1, 2, 0, 0, []), (133, .ifCond .ge 24, 3, 157, 0, 0, []), (136, .nop, 0, 136, 0, 0, [])]
  | 136 => [(136, .iload_n 3, 1, 3, 0, 0, []), (137, .ifCond .ge 8, 3, 145, 0, 0, []), (140, .bipush (-4), 2, 0, 0, (-4), []), (142, .goto 14, 3, 156, 0, 0, [])]
  | 145 => [(145, .iload_n 2, 1, 2, 0, 0, []), (146, .iconst (-1), 1, 0, 0, (-1), []), (147, .if_icmp .ne 7, 3, 154, 0, 0, []), (150, .iload_n 3, 1, 3, 0, 0, []), (151, .goto 5, 3, 156, 0, 0, [])]
  | 154 => [(154, .iload 4, 2, 4, 0, 0, []), (156, .nop, 0, 156, 0, 0, [])]
  | 156 => [(156, .ireturn, 1, 0, 0, 0, [])]
  | 157 => [(157, .aload_n 0, 1, 0, 0, 0, []), (158, .aload_n 0, 1, 0, 0, 0, []), (159, .iload 5, 2, 5, 0, 0, []), (161, .invokevirtual 159, 3, 171, 2, 0, [(0, 1205)]), (164, .invokevirtual 171, 3, 176, 2, 0, [(0, 1220)]), (167, .iload 5, 2, 5, 0, 0, []), (169, .istore 6, 2, 6, 0, 0, []), (171, .iconst 1, 1, 0, 0, 1, []), (172, .istore 7, 2, 7, 0, 0, []), (174, .nop, 0, 174, 0, 0, [])]
  | 174 => [(174, .iload 7, 2, 7, 0, 0, []), (176, .iload_n 2, 1, 2, 0, 0, []), (177, .if_icmp .gt 102, 3, 279, 0, 0, []), (180, .iload 7, 2, 7, 0, 0, []), (182, .iload 4, 2, 4, 0, 0, []), (184, .if_icmp .ge 95, 3, 279, 0, 0, []), (187, .iload 4, 2, 4, 0, 0, []), (189, .iconst 1, 1, 0, 0, 1, []), (190, .isub, 1, 0, 0, 0, []), (191, .iload 7, 2, 7, 0, 0, []), (193, .isub, 1, 0, 0, 0, []), (194, .istore 8, 2, 8, 0, 0, []), (196, .aload_n 0, 1, 0, 0, 0, []), (197, .getfield 40, 3, 12, 15, 0, [(0, 1006)]), (200, .bipush 10, 2, 0, 0, 10, []), (202, .iload 8, 2, 8, 0, 0, []), (204, .iconst 1, 1, 0, 0, 1, []), (205, .iadd, 1, 0, 0, 0, []), (206, .imul, 1, 0, 0, 0, []), (207, .iload 6, 2, 6, 0, 0, []), (209, .iadd, 1, 0, 0, 0, []), (210, .iaload, 1, 0, 0, 0, []), (211, .istore 9, 2, 9, 0, 0, []), (213, .iconst 0, 1, 0, 0, 0, []), (214, .istore 10, 2, 10, 0, 0, []), (216, .nop, 0, 216, 0, 0, [])]
  | 216 => [(216, .aload_n 0, 1, 0, 0, 0, []), (217, .getfield 13, 3, 12, 2, 0, [(0, 993)]), (220, .bipush 23, 2, 0, 0, 23, []), (222, .iload 6, 2, 6, 0, 0, []), (224, .iadd, 1, 0, 0, 0, []), (225, .iaload, 1, 0, 0, 0, []), (226, .iload 10, 2, 10, 0, 0, []), (228, .invokestatic 107, 3, 133, 2, 0, [(0, 1098)]), (231, .ifCond .eq 32, 3, 263, 0, 0, []), (234, .aload_n 0, 1, 0, 0, 0, []), (235, .getfield 40, 3, 12, 15, 0, [(0, 1006)]), (238, .bipush 10, 2, 0, 0, 10, []), (240, .iload 8, 2, 8, 0, 0, []), (242, .imul, 1, 0, 0, 0, []), (243, .iload 10, 2, 10, 0, 0, []), (245, .iadd, 1, 0, 0, 0, []), (246, .iaload, 1, 0, 0, 0, []), (247, .aload_n 0, 1, 0, 0, 0, []), (248, .getfield 13, 3, 12, 2, 0, [(0, 993)]), (251, .bipush 13, 2, 0, 0, 13, []), (253, .iload 10, 2, 10, 0, 0, []), (255, .iadd, 1, 0, 0, 0, []), (256, .iaload, 1, 0, 0, 0, []), (257, .iadd, 1, 0, 0, 0, []), (258, .iload 9, 2, 9, 0, 0, []), (260, .if_icmp .eq 9, 3, 269, 0, 0, []), (263, .nop, 0, 263, 0, 0, [])]
  | 263 => [(263, .iinc 10 1, 3, 10, 0, 1, []), (266, .goto (-50), 3, 216, 0, 0, [])]
  | 269 => [(269, .iload 10, 2, 10, 0, 0, []), (271, .istore 6, 2, 6, 0, 0, []), (273, .iinc 7 1, 3, 7, 0, 1, []), (276, .goto (-102), 3, 174, 0, 0, [])]
  | 279 => [(279, .iload_n 2, 1, 2, 0, 0, []), (280, .iload 4, 2, 4, 0, 0, []), (282, .if_icmp .ge 8, 3, 290, 0, 0, []), (285, .iload 6, 2, 6, 0, 0, []), (287, .goto 5, 3, 292, 0, 0, [])]
  | 290 => [(290, .bipush (-4), 2, 0, 0, (-4), []), (292, .nop, 0, 292, 0, 0, [])]
  | 292 => [(292, .ireturn, 1, 0, 0, 0, [])]
  | _ => []
def mx_k_X12_best : mx_Mt := (mx_b_X12_best, ⟨"TwoMayorsModel", "best", "(II)I"⟩, prog_14_method_49_code, 11, (some .int), "TwoMayorsModel", { frames := 4, cells := 0, slots := 0, locals := 96 }, [0, 21, 23, 36, 51, 116, 122, 128, 136, 145, 154, 156, 157, 174, 216, 263, 269, 279, 290, 292], [0, 1219, 76, 1217, 1218])
def mx_b_X12_isLure : Nat → List mx_In := fun t => match t with
  | 0 => [(0, .aload_n 0, 1, 0, 0, 0, []), (1, .iload_n 2, 1, 2, 0, 0, []), (2, .invokevirtual 159, 3, 171, 2, 0, [(0, 1205)]), (5, .istore 4, 2, 4, 0, 0, []), (7, .aload_n 0, 1, 0, 0, 0, []), (8, .iload_n 2, 1, 2, 0, 0, []), (9, .invokevirtual 143, 3, 162, 2, 0, [(0, 1153)]), (12, .istore 5, 2, 5, 0, 0, []), (14, .aload_n 0, 1, 0, 0, 0, []), (15, .getfield 37, 3, 12, 14, 0, [(0, 1005)]), (18, .iconst 0, 1, 0, 0, 0, []), (19, .iconst 0, 1, 0, 0, 0, []), (20, .iastore, 1, 0, 0, 0, []), (21, .iconst 0, 1, 0, 0, 0, []), (22, .istore 6, 2, 6, 0, 0, []), (24, .nop, 0, 24, 0, 0, [])]
  | 24 => [(24, .iload 6, 2, 6, 0, 0, []), (26, .aload_n 0, 1, 0, 0, 0, []), (27, .getfield 13, 3, 12, 2, 0, [(0, 993)]), (30, .iconst 0, 1, 0, 0, 0, []), (31, .iaload, 1, 0, 0, 0, []), (32, .if_icmp .ge 83, 3, 115, 0, 0, []), (35, .aload_n 0, 1, 0, 0, 0, []), (36, .iload 6, 2, 6, 0, 0, []), (38, .iload 5, 2, 5, 0, 0, []), (40, .invokevirtual 146, 3, 160, 3, 0, [(0, 1161)]), (43, .istore 7, 2, 7, 0, 0, []), (45, .iconst 0, 1, 0, 0, 0, []), (46, .istore 8, 2, 8, 0, 0, []), (48, .iconst 0, 1, 0, 0, 0, []), (49, .istore 9, 2, 9, 0, 0, []), (51, .nop, 0, 51, 0, 0, [])]
  | 51 => [(51, .iload 9, 2, 9, 0, 0, []), (53, .iload 7, 2, 7, 0, 0, []), (55, .if_icmp .ge 32, 3, 87, 0, 0, []), (58, .iload 8, 2, 8, 0, 0, []), (60, .ifCond .ne 14, 3, 74, 0, 0, []), (63, .aload_n 0, 1, 0, 0, 0, []), (64, .getfield 34, 3, 12, 13, 0, [(0, 1004)]), (67, .iload 9, 2, 9, 0, 0, []), (69, .iaload, 1, 0, 0, 0, []), (70, .iload_n 1, 1, 1, 0, 0, []), (71, .if_icmp .ne 7, 3, 78, 0, 0, []), (74, .nop, 0, 74, 0, 0, [])]
  | 74 => [(74, .iconst 1, 1, 0, 0, 1, []), (75, .goto 4, 3, 79, 0, 0, [])]
  | 78 => [(78, .iconst 0, 1, 0, 0, 0, []), (79, .nop, 0, 79, 0, 0, [])]
  | 79 => [(79, .istore 8, 2, 8, 0, 0, []), (81, .iinc 9 1, 3, 9, 0, 1, []), (84, .goto (-33), 3, 51, 0, 0, [])]
  | 87 => [(87, .aload_n 0, 1, 0, 0, 0, []), (88, .getfield 37, 3, 12, 14, 0, [(0, 1005)]), (91, .iconst 0, 1, 0, 0, 0, []), (92, .dup2, 1, 0, 0, 0, []), (93, .iaload, 1, 0, 0, 0, []), (94, .iload 8, 2, 8, 0, 0, []), (96, .ifCond .eq 10, 3, 106, 0, 0, []), (99, .iconst 1, 1, 0, 0, 1, []), (100, .iload 6, 2, 6, 0, 0, []), (102, .ishl, 1, 0, 0, 0, []), (103, .goto 4, 3, 107, 0, 0, [])]
  | 106 => [(106, .iconst 0, 1, 0, 0, 0, []), (107, .nop, 0, 107, 0, 0, [])]
  | 107 => [(107, .ior, 1, 0, 0, 0, []), (108, .iastore, 1, 0, 0, 0, []), (109, .iinc 6 1, 3, 6, 0, 1, []), (112, .goto (-88), 3, 24, 0, 0, [])]
  | 115 => [(115, .iconst 1, 1, 0, 0, 1, []), (116, .istore 6, 2, 6, 0, 0, []), (118, .nop, 0, 118, 0, 0, [])]
  | 118 => [(118, .iload 6, 2, 6, 0, 0, []), (120, .iload_n 3, 1, 3, 0, 0, []), (121, .if_icmp .ge 88, 3, 209, 0, 0, []), (124, .aload_n 0, 1, 0, 0, 0, []), (125, .getfield 37, 3, 12, 14, 0, [(0, 1005)]), (128, .iload 6, 2, 6, 0, 0, []), (130, .iconst 0, 1, 0, 0, 0, []), (131, .iastore, 1, 0, 0, 0, []), (132, .iconst 0, 1, 0, 0, 0, []), (133, .istore 7, 2, 7, 0, 0, []), (135, .nop, 0, 135, 0, 0, [])]
  | 135 => [(135, .iload 7, 2, 7, 0, 0, []), (137, .aload_n 0, 1, 0, 0, 0, []), (138, .getfield 13, 3, 12, 2, 0, [(0, 993)]), (141, .iconst 0, 1, 0, 0, 0, []), (142, .iaload, 1, 0, 0, 0, []), (143, .if_icmp .ge 60, 3, 203, 0, 0, []), (146, .aload_n 0, 1, 0, 0, 0, []), (147, .getfield 37, 3, 12, 14, 0, [(0, 1005)]), (150, .iload 6, 2, 6, 0, 0, []), (152, .dup2, 1, 0, 0, 0, []), (153, .iaload, 1, 0, 0, 0, []), (154, .iload 4, 2, 4, 0, 0, []), (156, .iload 7, 2, 7, 0, 0, []), (158, .invokestatic 107, 3, 133, 2, 0, [(0, 1098)]), (161, .ifCond .ne 33, 3, 194, 0, 0, []), (164, .aload_n 0, 1, 0, 0, 0, []), (165, .getfield 13, 3, 12, 2, 0, [(0, 993)]), (168, .bipush 23, 2, 0, 0, 23, []), (170, .iload 7, 2, 7, 0, 0, []), (172, .iadd, 1, 0, 0, 0, []), (173, .iaload, 1, 0, 0, 0, []), (174, .aload_n 0, 1, 0, 0, 0, []), (175, .getfield 37, 3, 12, 14, 0, [(0, 1005)]), (178, .iload 6, 2, 6, 0, 0, []), (180, .iconst 1, 1, 0, 0, 1, []), (181, .isub, 1, 0, 0, 0, []), (182, .iaload, 1, 0, 0, 0, []), (183, .iand, 1, 0, 0, 0, []), (184, .ifCond .eq 10, 3, 194, 0, 0, []), (187, .iconst 1, 1, 0, 0, 1, []), (188, .iload 7, 2, 7, 0, 0, []), (190, .ishl, 1, 0, 0, 0, []), (191, .goto 4, 3, 195, 0, 0, [])]
  | 194 => [(194, .iconst 0, 1, 0, 0, 0, []), (195, .nop, 0, 195, 0, 0, [])]
  | 195 => [(195, .ior, 1, 0, 0, 0, []), (196, .iastore, 1, 0, 0, 0, []), (197, .iinc 7 1, 3, 7, 0, 1, []), (200, .goto (-65), 3, 135, 0, 0, [])]
  | 203 => [(203, .iinc 6 1, 3, 6, 0, 1, []), (206, .goto (-88), 3, 118, 0, 0, [])]
  | 209 => [(209, .aload_n 0, 1, 0, 0, 0, []), (210, .getfield 37, 3, 12, 14, 0, [(0, 1005)]), (213, .iload_n 3, 1, 3, 0, 0, []), (214, .iconst 1, 1, 0, 0, 1, []), (215, .isub, 1, 0, 0, 0, []), (216, .iaload, 1, 0, 0, 0, []), (217, .iload_n 2, 1, 2, 0, 0, []), (218, .invokestatic 107, 3, 133, 2, 0, [(0, 1098)]), (221, .istore 6, 2, 6, 0, 0, []), (223, .aload_n 0, 1, 0, 0, 0, []), (224, .getfield 43, 3, 12, 16, 0, [(0, 1007)]), (227, .iconst 0, 1, 0, 0, 0, []), (228, .iload_n 2, 1, 2, 0, 0, []), (229, .iastore, 1, 0, 0, 0, []), (230, .iconst 1, 1, 0, 0, 1, []), (231, .istore 7, 2, 7, 0, 0, []), (233, .nop, 0, 233, 0, 0, [])]
  | 233 => [(233, .iload 7, 2, 7, 0, 0, []), (235, .iload_n 3, 1, 3, 0, 0, []), (236, .if_icmp .ge 53, 3, 289, 0, 0, []), (239, .iload 6, 2, 6, 0, 0, []), (241, .ifCond .eq 48, 3, 289, 0, 0, []), (244, .aload_n 0, 1, 0, 0, 0, []), (245, .getfield 43, 3, 12, 16, 0, [(0, 1007)]), (248, .iload 7, 2, 7, 0, 0, []), (250, .aload_n 0, 1, 0, 0, 0, []), (251, .getfield 13, 3, 12, 2, 0, [(0, 993)]), (254, .bipush 23, 2, 0, 0, 23, []), (256, .aload_n 0, 1, 0, 0, 0, []), (257, .getfield 43, 3, 12, 16, 0, [(0, 1007)]), (260, .iload 7, 2, 7, 0, 0, []), (262, .iconst 1, 1, 0, 0, 1, []), (263, .isub, 1, 0, 0, 0, []), (264, .iaload, 1, 0, 0, 0, []), (265, .iadd, 1, 0, 0, 0, []), (266, .iaload, 1, 0, 0, 0, []), (267, .aload_n 0, 1, 0, 0, 0, []), (268, .getfield 37, 3, 12, 14, 0, [(0, 1005)]), (271, .iload_n 3, 1, 3, 0, 0, []), (272, .iconst 1, 1, 0, 0, 1, []), (273, .isub, 1, 0, 0, 0, []), (274, .iload 7, 2, 7, 0, 0, []), (276, .isub, 1, 0, 0, 0, []), (277, .iaload, 1, 0, 0, 0, []), (278, .iand, 1, 0, 0, 0, []), (279, .invokestatic 165, 3, 173, 1, 0, [(0, 1213)]), (282, .iastore, 1, 0, 0, 0, []), (283, .iinc 7 1, 3, 7, 0, 1, []), (286, .goto (-53), 3, 233, 0, 0, [])]
  | 289 => [(289, .iload 6, 2, 6, 0, 0, []), (291, .ireturn, 1, 0, 0, 0, [])]
  | _ => []
def mx_k_X12_isLure : mx_Mt := (mx_b_X12_isLure, ⟨"TwoMayorsModel", "isLure", "(III)Z"⟩, prog_14_method_50_code, 10, (some .boolean), "TwoMayorsModel", { frames := 4, cells := 0, slots := 0, locals := 96 }, [0, 24, 51, 74, 78, 79, 87, 106, 107, 115, 118, 135, 194, 195, 203, 209, 233, 289], [0, 1231, 76, 1230, 56])
def mx_b_X12_lure : Nat → List mx_In := fun t => match t with
  | 0 => [(0, .aload_n 0, 1, 0, 0, 0, []), (1, .iload_n 1, 1, 1, 0, 0, []), (2, .invokevirtual 104, 3, 132, 2, 0, [(0, 1094)]), (5, .ifCond .eq 13, 3, 18, 0, 0, []), (8, .iload_n 2, 1, 2, 0, 0, []), (9, .iconst (-1), 1, 0, 0, (-1), []), (10, .bipush 9, 2, 0, 0, 9, []), (12, .invokestatic 65, 3, 131, 3, 0, [(0, 1056)]), (15, .ifCond .ne 5, 3, 20, 0, 0, []), (18, .nop, 0, 18, 0, 0, [])]
  | 18 => [(18, .iconst (-1), 1, 0, 0, (-1), []), (19, .ireturn, 1, 0, 0, 0, [])]
  | 20 => [(20, .iconst 1, 1, 0, 0, 1, []), (21, .istore_n 3, 1, 3, 0, 0, []), (22, .nop, 0, 22, 0, 0, [])]
  | 22 => [(22, .iload_n 3, 1, 3, 0, 0, []), (23, .bipush 10, 2, 0, 0, 10, []), (25, .if_icmp .gt 66, 3, 91, 0, 0, []), (28, .iconst 0, 1, 0, 0, 0, []), (29, .istore 4, 2, 4, 0, 0, []), (31, .nop, 0, 31, 0, 0, [])]
  | 31 => [(31, .iload 4, 2, 4, 0, 0, []), (33, .aload_n 0, 1, 0, 0, 0, []), (34, .getfield 13, 3, 12, 2, 0, [(0, 993)]), (37, .iconst 0, 1, 0, 0, 0, []), (38, .iaload, 1, 0, 0, 0, []), (39, .if_icmp .ge 46, 3, 85, 0, 0, []), (42, .aload_n 0, 1, 0, 0, 0, []), (43, .iload_n 1, 1, 1, 0, 0, []), (44, .iload 4, 2, 4, 0, 0, []), (46, .iload_n 3, 1, 3, 0, 0, []), (47, .invokevirtual 174, 3, 178, 4, 0, [(0, 1228)]), (50, .ifCond .eq 29, 3, 79, 0, 0, []), (53, .iload_n 2, 1, 2, 0, 0, []), (54, .iconst (-1), 1, 0, 0, (-1), []), (55, .if_icmp .ne 7, 3, 62, 0, 0, []), (58, .iload_n 3, 1, 3, 0, 0, []), (59, .goto 19, 3, 78, 0, 0, [])]
  | 62 => [(62, .iload_n 2, 1, 2, 0, 0, []), (63, .iload_n 3, 1, 3, 0, 0, []), (64, .if_icmp .ge 12, 3, 76, 0, 0, []), (67, .aload_n 0, 1, 0, 0, 0, []), (68, .getfield 43, 3, 12, 16, 0, [(0, 1007)]), (71, .iload_n 2, 1, 2, 0, 0, []), (72, .iaload, 1, 0, 0, 0, []), (73, .goto 5, 3, 78, 0, 0, [])]
  | 76 => [(76, .bipush (-4), 2, 0, 0, (-4), []), (78, .nop, 0, 78, 0, 0, [])]
  | 78 => [(78, .ireturn, 1, 0, 0, 0, [])]
  | 79 => [(79, .iinc 4 1, 3, 4, 0, 1, []), (82, .goto (-51), 3, 31, 0, 0, [])]
  | 85 => [(85, .iinc 3 1, 3, 3, 0, 1, []), (88, .goto (-66), 3, 22, 0, 0, [])]
  | 91 => [(91, .bipush (-4), 2, 0, 0, (-4), []), (93, .ireturn, 1, 0, 0, 0, [])]
  | _ => []
def mx_k_X12_lure : mx_Mt := (mx_b_X12_lure, ⟨"TwoMayorsModel", "lure", "(II)I"⟩, prog_14_method_51_code, 5, (some .int), "TwoMayorsModel", { frames := 5, cells := 0, slots := 0, locals := 125 }, [0, 18, 20, 22, 31, 62, 76, 78, 79, 85, 91], [0, 1227, 76, 1225, 1226])
def mx_b_X12_sitting : Nat → List mx_In := fun t => match t with
  | 0 => [(0, .aload_n 0, 1, 0, 0, 0, []), (1, .iload_n 1, 1, 1, 0, 0, []), (2, .invokevirtual 104, 3, 132, 2, 0, [(0, 1094)]), (5, .ifCond .ne 5, 3, 10, 0, 0, []), (8, .iconst (-1), 1, 0, 0, (-1), []), (9, .ireturn, 1, 0, 0, 0, [])]
  | 10 => [(10, .iconst 0, 1, 0, 0, 0, []), (11, .istore_n 2, 1, 2, 0, 0, []), (12, .iconst 0, 1, 0, 0, 0, []), (13, .istore_n 3, 1, 3, 0, 0, []), (14, .iconst 0, 1, 0, 0, 0, []), (15, .istore 4, 2, 4, 0, 0, []), (17, .nop, 0, 17, 0, 0, [])]
  | 17 => [(17, .iload 4, 2, 4, 0, 0, []), (19, .bipush 20, 2, 0, 0, 20, []), (21, .if_icmp .ge 105, 3, 126, 0, 0, []), (24, .iload_n 2, 1, 2, 0, 0, []), (25, .istore 5, 2, 5, 0, 0, []), (27, .iload_n 3, 1, 3, 0, 0, []), (28, .istore 6, 2, 6, 0, 0, []), (30, .iconst 0, 1, 0, 0, 0, []), (31, .istore 7, 2, 7, 0, 0, []), (33, .nop, 0, 33, 0, 0, [])]
  | 33 => [(33, .iload 7, 2, 7, 0, 0, []), (35, .aload_n 0, 1, 0, 0, 0, []), (36, .getfield 13, 3, 12, 2, 0, [(0, 993)]), (39, .iconst 0, 1, 0, 0, 0, []), (40, .iaload, 1, 0, 0, 0, []), (41, .if_icmp .ge 73, 3, 114, 0, 0, []), (44, .aload_n 0, 1, 0, 0, 0, []), (45, .getfield 13, 3, 12, 2, 0, [(0, 993)]), (48, .bipush 23, 2, 0, 0, 23, []), (50, .iload 7, 2, 7, 0, 0, []), (52, .iadd, 1, 0, 0, 0, []), (53, .iaload, 1, 0, 0, 0, []), (54, .istore 8, 2, 8, 0, 0, []), (56, .iload 5, 2, 5, 0, 0, []), (58, .iload 8, 2, 8, 0, 0, []), (60, .aload_n 0, 1, 0, 0, 0, []), (61, .invokevirtual 134, 3, 158, 1, 0, [(0, 1169)]), (64, .iload_n 3, 1, 3, 0, 0, []), (65, .ior, 1, 0, 0, 0, []), (66, .iand, 1, 0, 0, 0, []), (67, .ifCond .eq 10, 3, 77, 0, 0, []), (70, .iconst 1, 1, 0, 0, 1, []), (71, .iload 7, 2, 7, 0, 0, []), (73, .ishl, 1, 0, 0, 0, []), (74, .goto 4, 3, 78, 0, 0, [])]
  | 77 => [(77, .iconst 0, 1, 0, 0, 0, []), (78, .nop, 0, 78, 0, 0, [])]
  | 78 => [(78, .ior, 1, 0, 0, 0, []), (79, .istore 5, 2, 5, 0, 0, []), (81, .iload 6, 2, 6, 0, 0, []), (83, .iload 8, 2, 8, 0, 0, []), (85, .aload_n 0, 1, 0, 0, 0, []), (86, .invokevirtual 134, 3, 158, 1, 0, [(0, 1169)]), (89, .iload_n 2, 1, 2, 0, 0, []), (90, .iconst (-1), 1, 0, 0, (-1), []), (91, .ixor, 1, 0, 0, 0, []), (92, .ior, 1, 0, 0, 0, []), (93, .iand, 1, 0, 0, 0, []), (94, .ifCond .ne 10, 3, 104, 0, 0, []), (97, .iconst 1, 1, 0, 0, 1, []), (98, .iload 7, 2, 7, 0, 0, []), (100, .ishl, 1, 0, 0, 0, []), (101, .goto 4, 3, 105, 0, 0, [])]
  | 104 => [(104, .iconst 0, 1, 0, 0, 0, []), (105, .nop, 0, 105, 0, 0, [])]
  | 105 => [(105, .ior, 1, 0, 0, 0, []), (106, .istore 6, 2, 6, 0, 0, []), (108, .iinc 7 1, 3, 7, 0, 1, []), (111, .goto (-78), 3, 33, 0, 0, [])]
  | 114 => [(114, .iload 5, 2, 5, 0, 0, []), (116, .istore_n 2, 1, 2, 0, 0, []), (117, .iload 6, 2, 6, 0, 0, []), (119, .istore_n 3, 1, 3, 0, 0, []), (120, .iinc 4 1, 3, 4, 0, 1, []), (123, .goto (-106), 3, 17, 0, 0, [])]
  | 126 => [(126, .iload_n 2, 1, 2, 0, 0, []), (127, .iload_n 1, 1, 1, 0, 0, []), (128, .invokestatic 107, 3, 133, 2, 0, [(0, 1098)]), (131, .ifCond .eq 7, 3, 138, 0, 0, []), (134, .iconst 1, 1, 0, 0, 1, []), (135, .goto 16, 3, 151, 0, 0, [])]
  | 138 => [(138, .iload_n 3, 1, 3, 0, 0, []), (139, .iload_n 1, 1, 1, 0, 0, []), (140, .invokestatic 107, 3, 133, 2, 0, [(0, 1098)]), (143, .ifCond .eq 7, 3, 150, 0, 0, []), (146, .iconst 2, 1, 0, 0, 2, []), (147, .goto 4, 3, 151, 0, 0, [])]
  | 150 => [(150, .iconst 0, 1, 0, 0, 0, []), (151, .nop, 0, 151, 0, 0, [])]
  | 151 => [(151, .ireturn, 1, 0, 0, 0, [])]
  | _ => []
def mx_k_X12_sitting : mx_Mt := (mx_b_X12_sitting, ⟨"TwoMayorsModel", "sitting", "(I)I"⟩, prog_14_method_52_code, 9, (some .int), "TwoMayorsModel", { frames := 2, cells := 0, slots := 0, locals := 43 }, [0, 10, 17, 33, 77, 78, 104, 105, 114, 126, 138, 150, 151], [0, 1235, 76, 1233, 1234])
def mx_b_X12_ways : Nat → List mx_In := fun t => match t with
  | 0 => [(0, .iload_n 1, 1, 1, 0, 0, []), (1, .iconst 1, 1, 0, 0, 1, []), (2, .bipush 8, 2, 0, 0, 8, []), (4, .invokestatic 65, 3, 131, 3, 0, [(0, 1056)]), (7, .ifCond .eq 12, 3, 19, 0, 0, []), (10, .iload_n 2, 1, 2, 0, 0, []), (11, .iconst 0, 1, 0, 0, 0, []), (12, .iconst 1, 1, 0, 0, 1, []), (13, .invokestatic 65, 3, 131, 3, 0, [(0, 1056)]), (16, .ifCond .ne 5, 3, 21, 0, 0, []), (19, .nop, 0, 19, 0, 0, [])]
  | 19 => [(19, .iconst (-1), 1, 0, 0, (-1), []), (20, .ireturn, 1, 0, 0, 0, [])]
  | 21 => [(21, .iconst 0, 1, 0, 0, 0, []), (22, .istore_n 3, 1, 3, 0, 0, []), (23, .iconst 0, 1, 0, 0, 0, []), (24, .istore 4, 2, 4, 0, 0, []), (26, .nop, 0, 26, 0, 0, [])]
  | 26 => [(26, .iload 4, 2, 4, 0, 0, []), (28, .aload_n 0, 1, 0, 0, 0, []), (29, .getfield 13, 3, 12, 2, 0, [(0, 993)]), (32, .iconst 0, 1, 0, 0, 0, []), (33, .iaload, 1, 0, 0, 0, []), (34, .if_icmp .ge 257, 3, 291, 0, 0, []), (37, .iload_n 2, 1, 2, 0, 0, []), (38, .ifCond .ne 7, 3, 45, 0, 0, []), (41, .iconst 0, 1, 0, 0, 0, []), (42, .goto 9, 3, 51, 0, 0, [])]
  | 45 => [(45, .aload_n 0, 1, 0, 0, 0, []), (46, .iload 4, 2, 4, 0, 0, []), (48, .invokevirtual 159, 3, 171, 2, 0, [(0, 1205)]), (51, .nop, 0, 51, 0, 0, [])]
  | 51 => [(51, .istore 5, 2, 5, 0, 0, []), (53, .iconst 0, 1, 0, 0, 0, []), (54, .istore 6, 2, 6, 0, 0, []), (56, .nop, 0, 56, 0, 0, [])]
  | 56 => [(56, .iload 6, 2, 6, 0, 0, []), (58, .aload_n 0, 1, 0, 0, 0, []), (59, .getfield 13, 3, 12, 2, 0, [(0, 993)]), (62, .iconst 0, 1, 0, 0, 0, []), (63, .iaload, 1, 0, 0, 0, []), (64, .if_icmp .ge 28, 3, 92, 0, 0, []), (67, .aload_n 0, 1, 0, 0, 0, []), (68, .getfield 46, 3, 12, 17, 0, [(0, 1008)]), (71, .iload 6, 2, 6, 0, 0, []), (73, .iload 6, 2, 6, 0, 0, []), (75, .iload 4, 2, 4, 0, 0, []), (77, .if_icmp .ne 7, 3, 84, 0, 0, []), (80, .iconst 1, 1, 0, 0, 1, []), (81, .goto 4, 3, 85, 0, 0, [])]
  | 84 => [(84, .iconst 0, 1, 0, 0, 0, []), (85, .nop, 0, 85, 0, 0, [])]
  | 85 => [(85, .iastore, 1, 0, 0, 0, []), (86, .iinc 6 1, 3, 6, 0, 1, []), (89, .goto (-33), 3, 56, 0, 0, [])]
  | 92 => [(92, .iconst 1, 1, 0, 0, 1, []), (93, .istore 6, 2, 6, 0, 0, []), (95, .nop, 0, 95, 0, 0, [])]
  | 95 => [(95, .iload 6, 2, 6, 0, 0, []), (97, .iload_n 1, 1, 1, 0, 0, []), (98, .if_icmp .ge 140, 3, 238, 0, 0, []), (101, .iconst 0, 1, 0, 0, 0, []), (102, .istore 7, 2, 7, 0, 0, []), (104, .nop, 0, 104, 0, 0, [])]
  | 104 => [(104, .iload 7, 2, 7, 0, 0, []), (106, .aload_n 0, 1, 0, 0, 0, []), (107, .getfield 13, 3, 12, 2, 0, [(0, 993)]), (110, .iconst 0, 1, 0, 0, 0, []), (111, .iaload, 1, 0, 0, 0, []), (112, .if_icmp .ge 86, 3, 198, 0, 0, []), (115, .aload_n 0, 1, 0, 0, 0, []), (116, .getfield 49, 3, 12, 18, 0, [(0, 1009)]), (119, .iload 7, 2, 7, 0, 0, []), (121, .iconst 0, 1, 0, 0, 0, []), (122, .iastore, 1, 0, 0, 0, []), (123, .iconst 0, 1, 0, 0, 0, []), (124, .istore 8, 2, 8, 0, 0, []), (126, .nop, 0, 126, 0, 0, [])]
  | 126 => [(126, .iload 8, 2, 8, 0, 0, []), (128, .aload_n 0, 1, 0, 0, 0, []), (129, .getfield 13, 3, 12, 2, 0, [(0, 993)]), (132, .iconst 0, 1, 0, 0, 0, []), (133, .iaload, 1, 0, 0, 0, []), (134, .if_icmp .ge 58, 3, 192, 0, 0, []), (137, .aload_n 0, 1, 0, 0, 0, []), (138, .getfield 49, 3, 12, 18, 0, [(0, 1009)]), (141, .iload 7, 2, 7, 0, 0, []), (143, .dup2, 1, 0, 0, 0, []), (144, .iaload, 1, 0, 0, 0, []), (145, .aload_n 0, 1, 0, 0, 0, []), (146, .getfield 13, 3, 12, 2, 0, [(0, 993)]), (149, .bipush 23, 2, 0, 0, 23, []), (151, .iload 8, 2, 8, 0, 0, []), (153, .iadd, 1, 0, 0, 0, []), (154, .iaload, 1, 0, 0, 0, []), (155, .iload 7, 2, 7, 0, 0, []), (157, .invokestatic 107, 3, 133, 2, 0, [(0, 1098)]), (160, .ifCond .eq 23, 3, 183, 0, 0, []), (163, .iload 5, 2, 5, 0, 0, []), (165, .iload 8, 2, 8, 0, 0, []), (167, .invokestatic 107, 3, 133, 2, 0, [(0, 1098)]), (170, .ifCond .ne 13, 3, 183, 0, 0, []), (173, .aload_n 0, 1, 0, 0, 0, []), (174, .getfield 46, 3, 12, 17, 0, [(0, 1008)]), (177, .iload 8, 2, 8, 0, 0, []), (179, .iaload, 1, 0, 0, 0, []), (180, .goto 4, 3, 184, 0, 0, [])]
  | 183 => [(183, .iconst 0, 1, 0, 0, 0, []), (184, .nop, 0, 184, 0, 0, [])]
  | 184 => [(184, .iadd, 1, 0, 0, 0, []), (185, .iastore, 1, 0, 0, 0, []), (186, .iinc 8 1, 3, 8, 0, 1, []), (189, .goto (-63), 3, 126, 0, 0, [])]
  | 192 => [(192, .iinc 7 1, 3, 7, 0, 1, []), (195, .goto (-91), 3, 104, 0, 0, [])]
  | 198 => [(198, .iconst 0, 1, 0, 0, 0, []), (199, .istore 7, 2, 7, 0, 0, []), (201, .nop, 0, 201, 0, 0, [])]
  | 201 => [(201, .iload 7, 2, 7, 0, 0, []), (203, .aload_n 0, 1, 0, 0, 0, []), (204, .getfield 13, 3, 12, 2, 0, [(0, 993)]), (207, .iconst 0, 1, 0, 0, 0, []), (208, .iaload, 1, 0, 0, 0, []), (209, .if_icmp .ge 23, 3, 232, 0, 0, []), (212, .aload_n 0, 1, 0, 0, 0, []), (213, .getfield 46, 3, 12, 17, 0, [(0, 1008)]), (216, .iload 7, 2, 7, 0, 0, []), (218, .aload_n 0, 1, 0, 0, 0, []), (219, .getfield 49, 3, 12, 18, 0, [(0, 1009)]), (222, .iload 7, 2, 7, 0, 0, []), (224, .iaload, 1, 0, 0, 0, []), (225, .iastore, 1, 0, 0, 0, []), (226, .iinc 7 1, 3, 7, 0, 1, []), (229, .goto (-28), 3, 201, 0, 0, [])]
  | 232 => [(232, .iinc 6 1, 3, 6, 0, 1, []), (235, .goto (-140), 3, 95, 0, 0, [])]
  | 238 => [(238, .iconst 0, 1, 0, 0, 0, []), (239, .istore 6, 2, 6, 0, 0, []), (241, .nop, 0, 241, 0, 0, [])]
  | 241 => [(241, .iload 6, 2, 6, 0, 0, []), (243, .aload_n 0, 1, 0, 0, 0, []), (244, .getfield 13, 3, 12, 2, 0, [(0, 993)]), (247, .iconst 0, 1, 0, 0, 0, []), (248, .iaload, 1, 0, 0, 0, []), (249, .if_icmp .ge 36, 3, 285, 0, 0, []), (252, .iload_n 3, 1, 3, 0, 0, []), (253, .aload_n 0, 1, 0, 0, 0, []), (254, .getfield 13, 3, 12, 2, 0, [(0, 993)]), (257, .iconst 3, 1, 0, 0, 3, []), (258, .iload 6, 2, 6, 0, 0, []), (260, .iadd, 1, 0, 0, 0, []), (261, .iaload, 1, 0, 0, 0, []), (262, .iconst 2, 1, 0, 0, 2, []), (263, .if_icmp .ne 13, 3, 276, 0, 0, []), (266, .aload_n 0, 1, 0, 0, 0, []), (267, .getfield 46, 3, 12, 17, 0, [(0, 1008)]), (270, .iload 6, 2, 6, 0, 0, []), (272, .iaload, 1, 0, 0, 0, []), (273, .goto 4, 3, 277, 0, 0, [])]
  | 276 => [(276, .iconst 0, 1, 0, 0, 0, []), (277, .nop, 0, 277, 0, 0, [])]
  | 277 => [(277, .iadd, 1, 0, 0, 0, []), (278, .istore_n 3, 1, 3, 0, 0, []), (279, .iinc 6 1, 3, 6, 0, 1, []), (282, .goto (-41), 3, 241, 0, 0, [])]
  | 285 => [(285, .iinc 4 1, 3, 4, 0, 1, []), (288, .goto (-262), 3, 26, 0, 0, [])]
  | 291 => [(291, .iload_n 3, 1, 3, 0, 0, []), (292, .ireturn, 1, 0, 0, 0, [])]
  | _ => []
def mx_k_X12_ways : mx_Mt := (mx_b_X12_ways, ⟨"TwoMayorsModel", "ways", "(II)I"⟩, prog_14_method_53_code, 9, (some .int), "TwoMayorsModel", { frames := 4, cells := 0, slots := 0, locals := 96 }, [0, 19, 21, 26, 45, 51, 56, 84, 85, 92, 95, 104, 126, 183, 184, 192, 198, 201, 232, 238, 241, 276, 277, 285, 291], [0, 1239, 76, 1237, 1238])
def mx_b_X12_seen : Nat → List mx_In := fun t => match t with
  | 0 => [(0, .aload_n 0, 1, 0, 0, 0, []), (1, .iload_n 1, 1, 1, 0, 0, []), (2, .invokevirtual 104, 3, 132, 2, 0, [(0, 1094)]), (5, .ifCond .eq 12, 3, 17, 0, 0, []), (8, .iload_n 2, 1, 2, 0, 0, []), (9, .iconst 0, 1, 0, 0, 0, []), (10, .iconst 1, 1, 0, 0, 1, []), (11, .invokestatic 65, 3, 131, 3, 0, [(0, 1056)]), (14, .ifCond .ne 5, 3, 19, 0, 0, []), (17, .nop, 0, 17, 0, 0, [])]
  | 17 => [(17, .iconst (-1), 1, 0, 0, (-1), []), (18, .ireturn, 1, 0, 0, 0, [])]
  | 19 => [(19, .aload_n 0, 1, 0, 0, 0, []), (20, .getfield 101, 3, 12, 10, 0, [(0, 1001)]), (23, .bipush 8, 2, 0, 0, 8, []), (25, .if_icmp .ne 6, 3, 31, 0, 0, []), (28, .bipush (-3), 2, 0, 0, (-3), []), (30, .ireturn, 1, 0, 0, 0, [])]
  | 31 => [(31, .aload_n 0, 1, 0, 0, 0, []), (32, .getfield 28, 3, 12, 9, 0, [(0, 1000)]), (35, .aload_n 0, 1, 0, 0, 0, []), (36, .getfield 101, 3, 12, 10, 0, [(0, 1001)]), (39, .iconst 2, 1, 0, 0, 2, []), (40, .iload_n 1, 1, 1, 0, 0, []), (41, .imul, 1, 0, 0, 0, []), (42, .iload_n 2, 1, 2, 0, 0, []), (43, .iadd, 1, 0, 0, 0, []), (44, .iastore, 1, 0, 0, 0, []), (45, .aload_n 0, 1, 0, 0, 0, []), (46, .dup, 1, 0, 0, 0, []), (47, .getfield 101, 3, 12, 10, 0, [(0, 1001)]), (50, .iconst 1, 1, 0, 0, 1, []), (51, .iadd, 1, 0, 0, 0, []), (52, .putfield 101, 3, 12, 10, 0, [(0, 1001)]), (55, .aload_n 0, 1, 0, 0, 0, []), (56, .getfield 101, 3, 12, 10, 0, [(0, 1001)]), (59, .ireturn, 1, 0, 0, 0, [])]
  | _ => []
def mx_k_X12_seen : mx_Mt := (mx_b_X12_seen, ⟨"TwoMayorsModel", "seen", "(II)I"⟩, prog_14_method_54_code, 3, (some .int), "TwoMayorsModel", { frames := 2, cells := 0, slots := 0, locals := 43 }, [0, 17, 19, 31], [0, 1243, 76, 1241, 1242])
def mx_b_X12_forget : Nat → List mx_In := fun t => match t with
  | 0 => [(0, .aload_n 0, 1, 0, 0, 0, []), (1, .getfield 101, 3, 12, 10, 0, [(0, 1001)]), (4, .istore_n 1, 1, 1, 0, 0, []), (5, .aload_n 0, 1, 0, 0, 0, []), (6, .iconst 0, 1, 0, 0, 0, []), (7, .putfield 101, 3, 12, 10, 0, [(0, 1001)]), (10, .iload_n 1, 1, 1, 0, 0, []), (11, .ireturn, 1, 0, 0, 0, [])]
  | _ => []
def mx_k_X12_forget : mx_Mt := (mx_b_X12_forget, ⟨"TwoMayorsModel", "forget", "()I"⟩, prog_14_method_55_code, 2, (some .int), "TwoMayorsModel", { frames := 0, cells := 0, slots := 0, locals := 0 }, [0], [0, 1247, 76, 1245, 1246])
def mx_b_X12_guessed : Nat → List mx_In := fun t => match t with
  | 0 => [(0, .iload_n 1, 1, 1, 0, 0, []), (1, .iconst 0, 1, 0, 0, 0, []), (2, .iconst 2, 1, 0, 0, 2, []), (3, .invokestatic 65, 3, 131, 3, 0, [(0, 1056)]), (6, .ifCond .ne 5, 3, 11, 0, 0, []), (9, .iconst (-1), 1, 0, 0, (-1), []), (10, .ireturn, 1, 0, 0, 0, [])]
  | 11 => [(11, .iconst 0, 1, 0, 0, 0, []), (12, .istore_n 2, 1, 2, 0, 0, []), (13, .aload_n 0, 1, 0, 0, 0, []), (14, .invokevirtual 140, 3, 161, 1, 0, [(0, 1157)]), (17, .istore_n 3, 1, 3, 0, 0, []), (18, .iconst 0, 1, 0, 0, 0, []), (19, .istore 4, 2, 4, 0, 0, []), (21, .iconst 0, 1, 0, 0, 0, []), (22, .istore 5, 2, 5, 0, 0, []), (24, .nop, 0, 24, 0, 0, [])]
  | 24 => [(24, .iload 5, 2, 5, 0, 0, []), (26, .aload_n 0, 1, 0, 0, 0, []), (27, .invokevirtual 140, 3, 161, 1, 0, [(0, 1157)]), (30, .if_icmp .gt 129, 3, 159, 0, 0, []), (33, .iconst 1, 1, 0, 0, 1, []), (34, .istore 6, 2, 6, 0, 0, []), (36, .iconst 0, 1, 0, 0, 0, []), (37, .istore 7, 2, 7, 0, 0, []), (39, .nop, 0, 39, 0, 0, [])]
  | 39 => [(39, .iload 7, 2, 7, 0, 0, []), (41, .aload_n 0, 1, 0, 0, 0, []), (42, .getfield 101, 3, 12, 10, 0, [(0, 1001)]), (45, .if_icmp .ge 65, 3, 110, 0, 0, []), (48, .iload 6, 2, 6, 0, 0, []), (50, .ifCond .eq 60, 3, 110, 0, 0, []), (53, .aload_n 0, 1, 0, 0, 0, []), (54, .aload_n 0, 1, 0, 0, 0, []), (55, .getfield 28, 3, 12, 9, 0, [(0, 1000)]), (58, .iload 7, 2, 7, 0, 0, []), (60, .iaload, 1, 0, 0, 0, []), (61, .iconst 2, 1, 0, 0, 2, []), (62, .idiv, 1, 0, 0, 0, []), (63, .iload 5, 2, 5, 0, 0, []), (65, .invokevirtual 146, 3, 160, 3, 0, [(0, 1161)]), (68, .ifCond .le 7, 3, 75, 0, 0, []), (71, .iconst 1, 1, 0, 0, 1, []), (72, .goto 4, 3, 76, 0, 0, [])]
  | 75 => [(75, .iconst 0, 1, 0, 0, 0, []), (76, .nop, 0, 76, 0, 0, [])]
  | 76 => [(76, .aload_n 0, 1, 0, 0, 0, []), (77, .getfield 28, 3, 12, 9, 0, [(0, 1000)]), (80, .iload 7, 2, 7, 0, 0, []), (82, .iaload, 1, 0, 0, 0, []), (83, .iconst 2, 1, 0, 0, 2, []), (84, .irem, 1, 0, 0, 0, []), (85, .iconst 1, 1, 0, 0, 1, []), (86, .if_icmp .ne 7, 3, 93, 0, 0, []), (89, .iconst 1, 1, 0, 0, 1, []), (90, .goto 4, 3, 94, 0, 0, [])]
  | 93 => [(93, .iconst 0, 1, 0, 0, 0, []), (94, .nop, 0, 94, 0, 0, [])]
  | 94 => [(94, .if_icmp .ne 7, 3, 101, 0, 0, []), (97, .iconst 1, 1, 0, 0, 1, []), (98, .goto 4, 3, 102, 0, 0, [])]
  | 101 => [(101, .iconst 0, 1, 0, 0, 0, []), (102, .nop, 0, 102, 0, 0, [])]
  | 102 => [(102, .istore 6, 2, 6, 0, 0, []), (104, .iinc 7 1, 3, 7, 0, 1, []), (107, .goto (-68), 3, 39, 0, 0, [])]
  | 110 => [(110, .iload_n 2, 1, 2, 0, 0, []), (111, .iload 6, 2, 6, 0, 0, []), (113, .ifCond .eq 7, 3, 120, 0, 0, []), (116, .iconst 1, 1, 0, 0, 1, []), (117, .goto 4, 3, 121, 0, 0, [])]
  | 120 => [(120, .iconst 0, 1, 0, 0, 0, []), (121, .nop, 0, 121, 0, 0, [])]
  | 121 => [(121, .iadd, 1, 0, 0, 0, []), (122, .istore_n 2, 1, 2, 0, 0, []), (123, .iload_n 3, 1, 3, 0, 0, []), (124, .iload 6, 2, 6, 0, 0, []), (126, .ifCond .eq 8, 3, 134, 0, 0, []), (129, .iload 5, 2, 5, 0, 0, []), (131, .goto 4, 3, 135, 0, 0, [])]
  | 134 => [(134, .iconst (-1), 1, 0, 0, (-1), []), (135, .nop, 0, 135, 0, 0, [])]
  | 135 => [(135, .iand, 1, 0, 0, 0, []), (136, .istore_n 3, 1, 3, 0, 0, []), (137, .iload 4, 2, 4, 0, 0, []), (139, .iload 6, 2, 6, 0, 0, []), (141, .ifCond .eq 8, 3, 149, 0, 0, []), (144, .iload 5, 2, 5, 0, 0, []), (146, .goto 4, 3, 150, 0, 0, [])]
  | 149 => [(149, .iconst 0, 1, 0, 0, 0, []), (150, .nop, 0, 150, 0, 0, [])]
  | 150 => [(150, .ior, 1, 0, 0, 0, []), (151, .istore 4, 2, 4, 0, 0, []), (153, .iinc 5 1, 3, 5, 0, 1, []), (156, .goto (-132), 3, 24, 0, 0, [])]
  | 159 => [(159, .iload_n 1, 1, 1, 0, 0, []), (160, .ifCond .ne 7, 3, 167, 0, 0, []), (163, .iload_n 2, 1, 2, 0, 0, []), (164, .goto 23, 3, 187, 0, 0, [])]
  | 167 => [(167, .iload_n 2, 1, 2, 0, 0, []), (168, .ifCond .ne 8, 3, 176, 0, 0, []), (171, .bipush (-4), 2, 0, 0, (-4), []), (173, .goto 14, 3, 187, 0, 0, [])]
  | 176 => [(176, .iload_n 1, 1, 1, 0, 0, []), (177, .iconst 1, 1, 0, 0, 1, []), (178, .if_icmp .ne 7, 3, 185, 0, 0, []), (181, .iload_n 3, 1, 3, 0, 0, []), (182, .goto 5, 3, 187, 0, 0, [])]
  | 185 => [(185, .iload 4, 2, 4, 0, 0, []), (187, .nop, 0, 187, 0, 0, [])]
  | 187 => [(187, .ireturn, 1, 0, 0, 0, [])]
  | _ => []
def mx_k_X12_guessed : mx_Mt := (mx_b_X12_guessed, ⟨"TwoMayorsModel", "guessed", "(I)I"⟩, prog_14_method_56_code, 8, (some .int), "TwoMayorsModel", { frames := 3, cells := 0, slots := 0, locals := 72 }, [0, 11, 24, 39, 75, 76, 93, 94, 101, 102, 110, 120, 121, 134, 135, 149, 150, 159, 167, 176, 185, 187], [0, 1251, 76, 1249, 1250])
def mx_b_X12_turn : Nat → List mx_In := fun t => match t with
  | 0 => [(0, .iload_n 1, 1, 1, 0, 0, []), (1, .aload_n 0, 1, 0, 0, 0, []), (2, .getfield 13, 3, 12, 2, 0, [(0, 993)]), (5, .iconst 0, 1, 0, 0, 0, []), (6, .iaload, 1, 0, 0, 0, []), (7, .irem, 1, 0, 0, 0, []), (8, .istore_n 2, 1, 2, 0, 0, []), (9, .iload_n 1, 1, 1, 0, 0, []), (10, .bipush 64, 2, 0, 0, 64, []), (12, .idiv, 1, 0, 0, 0, []), (13, .iconst 3, 1, 0, 0, 3, []), (14, .irem, 1, 0, 0, 0, []), (15, .istore_n 3, 1, 3, 0, 0, []), (16, .iload_n 3, 1, 3, 0, 0, []), (17, .ifCond .ne 18, 3, 35, 0, 0, []), (20, .aload_n 0, 1, 0, 0, 0, []), (21, .invokevirtual 150, 3, 163, 1, 0, [(0, 1149)]), (24, .ifCond .le 11, 3, 35, 0, 0, []), (27, .aload_n 0, 1, 0, 0, 0, []), (28, .invokevirtual 153, 3, 164, 1, 0, [(0, 1173)]), (31, .pop, 1, 0, 0, 0, []), (32, .goto 75, 3, 107, 0, 0, [])]
  | 35 => [(35, .iload_n 3, 1, 3, 0, 0, []), (36, .iconst 1, 1, 0, 0, 1, []), (37, .if_icmp .ne 28, 3, 65, 0, 0, []), (40, .aload_n 0, 1, 0, 0, 0, []), (41, .invokevirtual 124, 3, 156, 1, 0, [(0, 1133)]), (44, .ifCond .eq 21, 3, 65, 0, 0, []), (47, .aload_n 0, 1, 0, 0, 0, []), (48, .aload_n 0, 1, 0, 0, 0, []), (49, .getfield 19, 3, 12, 4, 0, [(0, 995)]), (52, .bipush 13, 2, 0, 0, 13, []), (54, .iaload, 1, 0, 0, 0, []), (55, .aload_n 0, 1, 0, 0, 0, []), (56, .invokevirtual 128, 3, 154, 1, 0, [(0, 1137)]), (59, .invokevirtual 131, 3, 155, 3, 0, [(0, 1141)]), (62, .goto 45, 3, 107, 0, 0, [])]
  | 65 => [(65, .aload_n 0, 1, 0, 0, 0, []), (66, .iload_n 2, 1, 2, 0, 0, []), (67, .invokevirtual 114, 3, 151, 2, 0, [(0, 1113)]), (70, .ifCond .eq 23, 3, 93, 0, 0, []), (73, .aload_n 0, 1, 0, 0, 0, []), (74, .getfield 19, 3, 12, 4, 0, [(0, 995)]), (77, .bipush 12, 2, 0, 0, 12, []), (79, .iaload, 1, 0, 0, 0, []), (80, .bipush 12, 2, 0, 0, 12, []), (82, .if_icmp .ge 11, 3, 93, 0, 0, []), (85, .aload_n 0, 1, 0, 0, 0, []), (86, .iload_n 2, 1, 2, 0, 0, []), (87, .invokevirtual 120, 3, 152, 2, 0, [(0, 1125)]), (90, .goto 17, 3, 107, 0, 0, [])]
  | 93 => [(93, .aload_n 0, 1, 0, 0, 0, []), (94, .getfield 19, 3, 12, 4, 0, [(0, 995)]), (97, .bipush 12, 2, 0, 0, 12, []), (99, .iaload, 1, 0, 0, 0, []), (100, .ifCond .le 7, 3, 107, 0, 0, []), (103, .aload_n 0, 1, 0, 0, 0, []), (104, .invokevirtual 156, 3, 166, 1, 0, [(0, 1181)]), (107, .nop, 0, 107, 0, 0, [])]
  | 107 => [(107, .return_, 1, 0, 0, 0, [])]
  | _ => []
def mx_k_X12_turn : mx_Mt := (mx_b_X12_turn, ⟨"TwoMayorsModel", "turn", "(I)V"⟩, prog_14_method_57_code, 4, none, "TwoMayorsModel", { frames := 5, cells := 0, slots := 0, locals := 115 }, [0, 35, 65, 93, 107], [0, 1262, 76, 1261, 57])
def mx_b_X12_council : Nat → List mx_In := fun t => match t with
  | 0 => [(0, .iload_n 1, 1, 1, 0, 0, []), (1, .iconst 0, 1, 0, 0, 0, []), (2, .sipush 9999, 3, 0, 0, 9999, []), (5, .invokestatic 65, 3, 131, 3, 0, [(0, 1056)]), (8, .ifCond .eq 22, 3, 30, 0, 0, []), (11, .iload_n 2, 1, 2, 0, 0, []), (12, .iconst 1, 1, 0, 0, 1, []), (13, .bipush 60, 2, 0, 0, 60, []), (15, .invokestatic 65, 3, 131, 3, 0, [(0, 1056)]), (18, .ifCond .eq 12, 3, 30, 0, 0, []), (21, .iload_n 3, 1, 3, 0, 0, []), (22, .iconst 0, 1, 0, 0, 0, []), (23, .iconst 2, 1, 0, 0, 2, []), (24, .invokestatic 65, 3, 131, 3, 0, [(0, 1056)]), (27, .ifCond .ne 5, 3, 32, 0, 0, []), (30, .nop, 0, 30, 0, 0, [])]
  | 30 => [(30, .iconst (-1), 1, 0, 0, (-1), []), (31, .ireturn, 1, 0, 0, 0, [])]
  | 32 => [(32, .iconst 0, 1, 0, 0, 0, []), (33, .istore 4, 2, 4, 0, 0, []), (35, .nop, 0, 35, 0, 0, [])]
  | 35 => [(35, .iload 4, 2, 4, 0, 0, []), (37, .bipush 22, 2, 0, 0, 22, []), (39, .if_icmp .ge 23, 3, 62, 0, 0, []), (42, .aload_n 0, 1, 0, 0, 0, []), (43, .getfield 52, 3, 12, 19, 0, [(0, 1010)]), (46, .iload 4, 2, 4, 0, 0, []), (48, .aload_n 0, 1, 0, 0, 0, []), (49, .getfield 19, 3, 12, 4, 0, [(0, 995)]), (52, .iload 4, 2, 4, 0, 0, []), (54, .iaload, 1, 0, 0, 0, []), (55, .iastore, 1, 0, 0, 0, []), (56, .iinc 4 1, 3, 4, 0, 1, []), (59, .goto (-24), 3, 35, 0, 0, [])]
  | 62 => [(62, .iconst 0, 1, 0, 0, 0, []), (63, .istore 4, 2, 4, 0, 0, []), (65, .nop, 0, 65, 0, 0, [])]
  | 65 => [(65, .iload 4, 2, 4, 0, 0, []), (67, .iload_n 2, 1, 2, 0, 0, []), (68, .if_icmp .ge 43, 3, 111, 0, 0, []), (71, .ldc2_w 177, 3, 0, 0, 7919, [(0, 1256)]), (74, .iload_n 1, 1, 1, 0, 0, []), (75, .i2l, 1, 0, 0, 0, []), (76, .lmul, 1, 0, 0, 0, []), (77, .ldc2_w 179, 3, 0, 0, 6151, [(0, 1257)]), (80, .iload 4, 2, 4, 0, 0, []), (82, .i2l, 1, 0, 0, 0, []), (83, .lmul, 1, 0, 0, 0, []), (84, .ladd, 1, 0, 0, 0, []), (85, .lconst 1, 1, 0, 0, 1, []), (86, .ladd, 1, 0, 0, 0, []), (87, .lstore 5, 2, 5, 0, 0, []), (89, .aload_n 0, 1, 0, 0, 0, []), (90, .lload 5, 2, 5, 0, 0, []), (92, .lload 5, 2, 5, 0, 0, []), (94, .lmul, 1, 0, 0, 0, []), (95, .ldc2_w 181, 3, 0, 0, 65521, [(0, 1258)]), (98, .lrem, 1, 0, 0, 0, []), (99, .l2i, 1, 0, 0, 0, []), (100, .iconst 2, 1, 0, 0, 2, []), (101, .idiv, 1, 0, 0, 0, []), (102, .invokevirtual 183, 3, 185, 2, 0, [(0, 1259)]), (105, .iinc 4 1, 3, 4, 0, 1, []), (108, .goto (-43), 3, 65, 0, 0, [])]
  | 111 => [(111, .iload_n 3, 1, 3, 0, 0, []), (112, .ifCond .ne 13, 3, 125, 0, 0, []), (115, .aload_n 0, 1, 0, 0, 0, []), (116, .getfield 19, 3, 12, 4, 0, [(0, 995)]), (119, .bipush 13, 2, 0, 0, 13, []), (121, .iaload, 1, 0, 0, 0, []), (122, .goto 45, 3, 167, 0, 0, [])]
  | 125 => [(125, .iload_n 3, 1, 3, 0, 0, []), (126, .iconst 1, 1, 0, 0, 1, []), (127, .if_icmp .ne 21, 3, 148, 0, 0, []), (130, .aload_n 0, 1, 0, 0, 0, []), (131, .getfield 19, 3, 12, 4, 0, [(0, 995)]), (134, .bipush 15, 2, 0, 0, 15, []), (136, .iaload, 1, 0, 0, 0, []), (137, .aload_n 0, 1, 0, 0, 0, []), (138, .getfield 19, 3, 12, 4, 0, [(0, 995)]), (141, .bipush 16, 2, 0, 0, 16, []), (143, .iaload, 1, 0, 0, 0, []), (144, .iadd, 1, 0, 0, 0, []), (145, .goto 22, 3, 167, 0, 0, [])]
  | 148 => [(148, .sipush 500, 3, 0, 0, 500, []), (151, .aload_n 0, 1, 0, 0, 0, []), (152, .getfield 19, 3, 12, 4, 0, [(0, 995)]), (155, .bipush 17, 2, 0, 0, 17, []), (157, .iaload, 1, 0, 0, 0, []), (158, .iadd, 1, 0, 0, 0, []), (159, .aload_n 0, 1, 0, 0, 0, []), (160, .getfield 19, 3, 12, 4, 0, [(0, 995)]), (163, .bipush 18, 2, 0, 0, 18, []), (165, .iaload, 1, 0, 0, 0, []), (166, .isub, 1, 0, 0, 0, []), (167, .nop, 0, 167, 0, 0, [])]
  | 167 => [(167, .istore 4, 2, 4, 0, 0, []), (169, .iconst 0, 1, 0, 0, 0, []), (170, .istore 5, 2, 5, 0, 0, []), (172, .nop, 0, 172, 0, 0, [])]
  | 172 => [(172, .iload 5, 2, 5, 0, 0, []), (174, .bipush 22, 2, 0, 0, 22, []), (176, .if_icmp .ge 23, 3, 199, 0, 0, []), (179, .aload_n 0, 1, 0, 0, 0, []), (180, .getfield 19, 3, 12, 4, 0, [(0, 995)]), (183, .iload 5, 2, 5, 0, 0, []), (185, .aload_n 0, 1, 0, 0, 0, []), (186, .getfield 52, 3, 12, 19, 0, [(0, 1010)]), (189, .iload 5, 2, 5, 0, 0, []), (191, .iaload, 1, 0, 0, 0, []), (192, .iastore, 1, 0, 0, 0, []), (193, .iinc 5 1, 3, 5, 0, 1, []), (196, .goto (-24), 3, 172, 0, 0, [])]
  | 199 => [(199, .iload 4, 2, 4, 0, 0, []), (201, .ireturn, 1, 0, 0, 0, [])]
  | _ => []
def mx_k_X12_council : mx_Mt := (mx_b_X12_council, ⟨"TwoMayorsModel", "council", "(III)I"⟩, prog_14_method_58_code, 7, (some .int), "TwoMayorsModel", { frames := 6, cells := 0, slots := 0, locals := 138 }, [0, 30, 32, 35, 62, 65, 111, 125, 148, 167, 172, 199], [0, 1255, 76, 1253, 1254])
def mx_b_X12_keep : Nat → List mx_In := fun t => match t with
  | 0 => [(0, .aload_n 0, 1, 0, 0, 0, []), (1, .getfield 98, 3, 12, 8, 0, [(0, 999)]), (4, .iconst 2, 1, 0, 0, 2, []), (5, .if_icmp .ne 6, 3, 11, 0, 0, []), (8, .bipush (-3), 2, 0, 0, (-3), []), (10, .ireturn, 1, 0, 0, 0, [])]
  | 11 => [(11, .iconst 0, 1, 0, 0, 0, []), (12, .istore_n 1, 1, 1, 0, 0, []), (13, .nop, 0, 13, 0, 0, [])]
  | 13 => [(13, .iload_n 1, 1, 1, 0, 0, []), (14, .bipush 22, 2, 0, 0, 22, []), (16, .if_icmp .ge 29, 3, 45, 0, 0, []), (19, .aload_n 0, 1, 0, 0, 0, []), (20, .getfield 25, 3, 12, 7, 0, [(0, 998)]), (23, .bipush 22, 2, 0, 0, 22, []), (25, .aload_n 0, 1, 0, 0, 0, []), (26, .getfield 98, 3, 12, 8, 0, [(0, 999)]), (29, .imul, 1, 0, 0, 0, []), (30, .iload_n 1, 1, 1, 0, 0, []), (31, .iadd, 1, 0, 0, 0, []), (32, .aload_n 0, 1, 0, 0, 0, []), (33, .getfield 19, 3, 12, 4, 0, [(0, 995)]), (36, .iload_n 1, 1, 1, 0, 0, []), (37, .iaload, 1, 0, 0, 0, []), (38, .iastore, 1, 0, 0, 0, []), (39, .iinc 1 1, 3, 1, 0, 1, []), (42, .goto (-29), 3, 13, 0, 0, [])]
  | 45 => [(45, .aload_n 0, 1, 0, 0, 0, []), (46, .dup, 1, 0, 0, 0, []), (47, .getfield 98, 3, 12, 8, 0, [(0, 999)]), (50, .iconst 1, 1, 0, 0, 1, []), (51, .iadd, 1, 0, 0, 0, []), (52, .putfield 98, 3, 12, 8, 0, [(0, 999)]), (55, .aload_n 0, 1, 0, 0, 0, []), (56, .getfield 98, 3, 12, 8, 0, [(0, 999)]), (59, .ireturn, 1, 0, 0, 0, [])]
  | _ => []
def mx_k_X12_keep : mx_Mt := (mx_b_X12_keep, ⟨"TwoMayorsModel", "keep", "()I"⟩, prog_14_method_59_code, 2, (some .int), "TwoMayorsModel", { frames := 0, cells := 0, slots := 0, locals := 0 }, [0, 11, 13, 45], [0, 1266, 76, 1264, 1265])
def mx_b_X12_back : Nat → List mx_In := fun t => match t with
  | 0 => [(0, .aload_n 0, 1, 0, 0, 0, []), (1, .getfield 98, 3, 12, 8, 0, [(0, 999)]), (4, .ifCond .ne 6, 3, 10, 0, 0, []), (7, .bipush (-2), 2, 0, 0, (-2), []), (9, .ireturn, 1, 0, 0, 0, [])]
  | 10 => [(10, .aload_n 0, 1, 0, 0, 0, []), (11, .dup, 1, 0, 0, 0, []), (12, .getfield 98, 3, 12, 8, 0, [(0, 999)]), (15, .iconst 1, 1, 0, 0, 1, []), (16, .isub, 1, 0, 0, 0, []), (17, .putfield 98, 3, 12, 8, 0, [(0, 999)]), (20, .iconst 0, 1, 0, 0, 0, []), (21, .istore_n 1, 1, 1, 0, 0, []), (22, .nop, 0, 22, 0, 0, [])]
  | 22 => [(22, .iload_n 1, 1, 1, 0, 0, []), (23, .bipush 22, 2, 0, 0, 22, []), (25, .if_icmp .ge 29, 3, 54, 0, 0, []), (28, .aload_n 0, 1, 0, 0, 0, []), (29, .getfield 19, 3, 12, 4, 0, [(0, 995)]), (32, .iload_n 1, 1, 1, 0, 0, []), (33, .aload_n 0, 1, 0, 0, 0, []), (34, .getfield 25, 3, 12, 7, 0, [(0, 998)]), (37, .bipush 22, 2, 0, 0, 22, []), (39, .aload_n 0, 1, 0, 0, 0, []), (40, .getfield 98, 3, 12, 8, 0, [(0, 999)]), (43, .imul, 1, 0, 0, 0, []), (44, .iload_n 1, 1, 1, 0, 0, []), (45, .iadd, 1, 0, 0, 0, []), (46, .iaload, 1, 0, 0, 0, []), (47, .iastore, 1, 0, 0, 0, []), (48, .iinc 1 1, 3, 1, 0, 1, []), (51, .goto (-29), 3, 22, 0, 0, [])]
  | 54 => [(54, .aload_n 0, 1, 0, 0, 0, []), (55, .iconst 0, 1, 0, 0, 0, []), (56, .putfield 95, 3, 12, 6, 0, [(0, 997)]), (59, .aload_n 0, 1, 0, 0, 0, []), (60, .getfield 98, 3, 12, 8, 0, [(0, 999)]), (63, .ireturn, 1, 0, 0, 0, [])]
  | _ => []
def mx_k_X12_back : mx_Mt := (mx_b_X12_back, ⟨"TwoMayorsModel", "back", "()I"⟩, prog_14_method_60_code, 2, (some .int), "TwoMayorsModel", { frames := 0, cells := 0, slots := 0, locals := 0 }, [0, 10, 22, 54], [0, 1270, 76, 1268, 1269])
def mx_b_X12_count : Nat → List mx_In := fun t => match t with
  | 0 => [(0, .iload_n 1, 1, 1, 0, 0, []), (1, .tableswitch 129 0 9 #[55, 62, 70, 78, 94, 102, 109, 114, 119, 124], 55, 130, 0, 0, [(0, 56), (1, 63), (2, 71), (3, 79), (4, 95), (5, 103), (6, 110), (7, 115), (8, 120), (9, 125)])]
  | 56 => [(56, .aload_n 0, 1, 0, 0, 0, []), (57, .getfield 13, 3, 12, 2, 0, [(0, 993)]), (60, .iconst 0, 1, 0, 0, 0, []), (61, .iaload, 1, 0, 0, 0, []), (62, .ireturn, 1, 0, 0, 0, [])]
  | 63 => [(63, .aload_n 0, 1, 0, 0, 0, []), (64, .getfield 19, 3, 12, 4, 0, [(0, 995)]), (67, .bipush 14, 2, 0, 0, 14, []), (69, .iaload, 1, 0, 0, 0, []), (70, .ireturn, 1, 0, 0, 0, [])]
  | 71 => [(71, .aload_n 0, 1, 0, 0, 0, []), (72, .getfield 19, 3, 12, 4, 0, [(0, 995)]), (75, .bipush 12, 2, 0, 0, 12, []), (77, .iaload, 1, 0, 0, 0, []), (78, .ireturn, 1, 0, 0, 0, [])]
  | 79 => [(79, .aload_n 0, 1, 0, 0, 0, []), (80, .getfield 19, 3, 12, 4, 0, [(0, 995)]), (83, .bipush 15, 2, 0, 0, 15, []), (85, .iaload, 1, 0, 0, 0, []), (86, .aload_n 0, 1, 0, 0, 0, []), (87, .getfield 19, 3, 12, 4, 0, [(0, 995)]), (90, .bipush 16, 2, 0, 0, 16, []), (92, .iaload, 1, 0, 0, 0, []), (93, .iadd, 1, 0, 0, 0, []), (94, .ireturn, 1, 0, 0, 0, [])]
  | 95 => [(95, .aload_n 0, 1, 0, 0, 0, []), (96, .getfield 19, 3, 12, 4, 0, [(0, 995)]), (99, .bipush 21, 2, 0, 0, 21, []), (101, .iaload, 1, 0, 0, 0, []), (102, .ireturn, 1, 0, 0, 0, [])]
  | 103 => [(103, .aload_n 0, 1, 0, 0, 0, []), (104, .getfield 13, 3, 12, 2, 0, [(0, 993)]), (107, .iconst 1, 1, 0, 0, 1, []), (108, .iaload, 1, 0, 0, 0, []), (109, .ireturn, 1, 0, 0, 0, [])]
  | 110 => [(110, .aload_n 0, 1, 0, 0, 0, []), (111, .getfield 101, 3, 12, 10, 0, [(0, 1001)]), (114, .ireturn, 1, 0, 0, 0, [])]
  | 115 => [(115, .aload_n 0, 1, 0, 0, 0, []), (116, .getfield 95, 3, 12, 6, 0, [(0, 997)]), (119, .ireturn, 1, 0, 0, 0, [])]
  | 120 => [(120, .aload_n 0, 1, 0, 0, 0, []), (121, .getfield 98, 3, 12, 8, 0, [(0, 999)]), (124, .ireturn, 1, 0, 0, 0, [])]
  | 125 => [(125, .aload_n 0, 1, 0, 0, 0, []), (126, .getfield 69, 3, 12, 1, 0, [(0, 992)]), (129, .ireturn, 1, 0, 0, 0, [])]
  | 130 => [(130, .iconst (-1), 1, 0, 0, (-1), []), (131, .ireturn, 1, 0, 0, 0, [])]
  | _ => []
def mx_k_X12_count : mx_Mt := (mx_b_X12_count, ⟨"TwoMayorsModel", "count", "(I)I"⟩, prog_14_method_61_code, 2, (some .int), "TwoMayorsModel", { frames := 0, cells := 0, slots := 0, locals := 0 }, [0, 56, 63, 71, 79, 95, 103, 110, 115, 120, 125, 130], [0, 1274, 76, 1272, 1273])
def mx_b_L_law : Nat → List mx_In := fun t => match t with
  | 0 => [(0, .new 7, 3, 11, 0, 0, [(0, 77), (0, 78), (0, 59)]), (3, .dup, 1, 0, 0, 0, []), (4, .invokespecial 9, 3, 98, 1, 0, [(0, 79)]), (7, .astore_n 1, 1, 1, 0, 0, []), (8, .new 10, 3, 12, 0, 0, [(0, 973), (0, 974), (0, 76)]), (11, .dup, 1, 0, 0, 0, []), (12, .invokespecial 12, 3, 130, 1, 0, [(0, 975)]), (15, .astore_n 2, 1, 2, 0, 0, []), (16, .iconst 0, 1, 0, 0, 0, []), (17, .istore_n 3, 1, 3, 0, 0, []), (18, .nop, 0, 18, 0, 0, [])]
  | 18 => [(18, .iload_n 3, 1, 3, 0, 0, []), (19, .aload_n 0, 1, 0, 0, 0, []), (20, .arraylength, 1, 0, 0, 0, []), (21, .iconst 4, 1, 0, 0, 4, []), (22, .isub, 1, 0, 0, 0, []), (23, .if_icmp .gt 733, 3, 756, 0, 0, []), (26, .aload_n 0, 1, 0, 0, 0, []), (27, .iload_n 3, 1, 3, 0, 0, []), (28, .iaload, 1, 0, 0, 0, []), (29, .bipush 31, 2, 0, 0, 31, []), (31, .iand, 1, 0, 0, 0, []), (32, .tableswitch 718 0 25 #[120, 143, 156, 169, 182, 215, 248, 271, 294, 307, 320, 333, 366, 379, 402, 435, 468, 501, 524, 557, 590, 603, 626, 669, 682, 695], 120, 750, 0, 0, [(0, 152), (1, 175), (2, 188), (3, 201), (4, 214), (5, 247), (6, 280), (7, 303), (8, 326), (9, 339), (10, 352), (11, 365), (12, 398), (13, 411), (14, 434), (15, 467), (16, 500), (17, 533), (18, 556), (19, 589), (20, 622), (21, 635), (22, 658), (23, 701), (24, 714), (25, 727)])]
  | 152 => [(152, .aload_n 1, 1, 1, 0, 0, []), (153, .aload_n 0, 1, 0, 0, 0, []), (154, .iload_n 3, 1, 3, 0, 0, []), (155, .iconst 1, 1, 0, 0, 1, []), (156, .iadd, 1, 0, 0, 0, []), (157, .iaload, 1, 0, 0, 0, []), (158, .invokevirtual 13, 3, 99, 2, 0, [(0, 554)]), (161, .aload_n 2, 1, 2, 0, 0, []), (162, .aload_n 0, 1, 0, 0, 0, []), (163, .iload_n 3, 1, 3, 0, 0, []), (164, .iconst 1, 1, 0, 0, 1, []), (165, .iadd, 1, 0, 0, 0, []), (166, .iaload, 1, 0, 0, 0, []), (167, .invokevirtual 17, 3, 134, 2, 0, [(0, 1052)]), (170, .if_icmp .eq 580, 3, 750, 0, 0, []), (173, .iconst 0, 1, 0, 0, 0, []), (174, .ireturn, 1, 0, 0, 0, [])]
  | 175 => [(175, .aload_n 1, 1, 1, 0, 0, []), (176, .invokevirtual 18, 3, 100, 1, 0, [(0, 558)]), (179, .aload_n 2, 1, 2, 0, 0, []), (180, .invokevirtual 22, 3, 135, 1, 0, [(0, 1059)]), (183, .if_icmp .eq 567, 3, 750, 0, 0, []), (186, .iconst 0, 1, 0, 0, 0, []), (187, .ireturn, 1, 0, 0, 0, [])]
  | 188 => [(188, .aload_n 1, 1, 1, 0, 0, []), (189, .invokevirtual 23, 3, 101, 1, 0, [(0, 562)]), (192, .aload_n 2, 1, 2, 0, 0, []), (193, .invokevirtual 26, 3, 143, 1, 0, [(0, 1063)]), (196, .if_icmp .eq 554, 3, 750, 0, 0, []), (199, .iconst 0, 1, 0, 0, 0, []), (200, .ireturn, 1, 0, 0, 0, [])]
  | 201 => [(201, .aload_n 1, 1, 1, 0, 0, []), (202, .invokevirtual 27, 3, 102, 1, 0, [(0, 566)]), (205, .aload_n 2, 1, 2, 0, 0, []), (206, .invokevirtual 30, 3, 145, 1, 0, [(0, 1086)]), (209, .if_icmp .eq 541, 3, 750, 0, 0, []), (212, .iconst 0, 1, 0, 0, 0, []), (213, .ireturn, 1, 0, 0, 0, [])]
  | 214 => [(214, .aload_n 1, 1, 1, 0, 0, []), (215, .aload_n 0, 1, 0, 0, 0, []), (216, .iload_n 3, 1, 3, 0, 0, []), (217, .iconst 1, 1, 0, 0, 1, []), (218, .iadd, 1, 0, 0, 0, []), (219, .iaload, 1, 0, 0, 0, []), (220, .aload_n 0, 1, 0, 0, 0, []), (221, .iload_n 3, 1, 3, 0, 0, []), (222, .iconst 2, 1, 0, 0, 2, []), (223, .iadd, 1, 0, 0, 0, []), (224, .iaload, 1, 0, 0, 0, []), (225, .invokevirtual 31, 3, 103, 3, 0, [(0, 570)]), (228, .aload_n 2, 1, 2, 0, 0, []), (229, .aload_n 0, 1, 0, 0, 0, []), (230, .iload_n 3, 1, 3, 0, 0, []), (231, .iconst 1, 1, 0, 0, 1, []), (232, .iadd, 1, 0, 0, 0, []), (233, .iaload, 1, 0, 0, 0, []), (234, .aload_n 0, 1, 0, 0, 0, []), (235, .iload_n 3, 1, 3, 0, 0, []), (236, .iconst 2, 1, 0, 0, 2, []), (237, .iadd, 1, 0, 0, 0, []), (238, .iaload, 1, 0, 0, 0, []), (239, .invokevirtual 35, 3, 146, 3, 0, [(0, 1090)]), (242, .if_icmp .eq 508, 3, 750, 0, 0, []), (245, .iconst 0, 1, 0, 0, 0, []), (246, .ireturn, 1, 0, 0, 0, [])]
  | 247 => [(247, .aload_n 1, 1, 1, 0, 0, []), (248, .aload_n 0, 1, 0, 0, 0, []), (249, .iload_n 3, 1, 3, 0, 0, []), (250, .iconst 1, 1, 0, 0, 1, []), (251, .iadd, 1, 0, 0, 0, []), (252, .iaload, 1, 0, 0, 0, []), (253, .aload_n 0, 1, 0, 0, 0, []), (254, .iload_n 3, 1, 3, 0, 0, []), (255, .iconst 2, 1, 0, 0, 2, []), (256, .iadd, 1, 0, 0, 0, []), (257, .iaload, 1, 0, 0, 0, []), (258, .invokevirtual 36, 3, 104, 3, 0, [(0, 592)]), (261, .aload_n 2, 1, 2, 0, 0, []), (262, .aload_n 0, 1, 0, 0, 0, []), (263, .iload_n 3, 1, 3, 0, 0, []), (264, .iconst 1, 1, 0, 0, 1, []), (265, .iadd, 1, 0, 0, 0, []), (266, .iaload, 1, 0, 0, 0, []), (267, .aload_n 0, 1, 0, 0, 0, []), (268, .iload_n 3, 1, 3, 0, 0, []), (269, .iconst 2, 1, 0, 0, 2, []), (270, .iadd, 1, 0, 0, 0, []), (271, .iaload, 1, 0, 0, 0, []), (272, .invokevirtual 39, 3, 147, 3, 0, [(0, 1101)]), (275, .if_icmp .eq 475, 3, 750, 0, 0, []), (278, .iconst 0, 1, 0, 0, 0, []), (279, .ireturn, 1, 0, 0, 0, [])]
  | 280 => [(280, .aload_n 1, 1, 1, 0, 0, []), (281, .aload_n 0, 1, 0, 0, 0, []), (282, .iload_n 3, 1, 3, 0, 0, []), (283, .iconst 1, 1, 0, 0, 1, []), (284, .iadd, 1, 0, 0, 0, []), (285, .iaload, 1, 0, 0, 0, []), (286, .invokevirtual 40, 3, 105, 2, 0, [(0, 601)]), (289, .aload_n 2, 1, 2, 0, 0, []), (290, .aload_n 0, 1, 0, 0, 0, []), (291, .iload_n 3, 1, 3, 0, 0, []), (292, .iconst 1, 1, 0, 0, 1, []), (293, .iadd, 1, 0, 0, 0, []), (294, .iaload, 1, 0, 0, 0, []), (295, .invokevirtual 43, 3, 148, 2, 0, [(0, 1105)]), (298, .if_icmp .eq 452, 3, 750, 0, 0, []), (301, .iconst 0, 1, 0, 0, 0, []), (302, .ireturn, 1, 0, 0, 0, [])]
  | 303 => [(303, .aload_n 1, 1, 1, 0, 0, []), (304, .aload_n 0, 1, 0, 0, 0, []), (305, .iload_n 3, 1, 3, 0, 0, []), (306, .iconst 1, 1, 0, 0, 1, []), (307, .iadd, 1, 0, 0, 0, []), (308, .iaload, 1, 0, 0, 0, []), (309, .invokevirtual 44, 3, 106, 2, 0, [(0, 609)]), (312, .aload_n 2, 1, 2, 0, 0, []), (313, .aload_n 0, 1, 0, 0, 0, []), (314, .iload_n 3, 1, 3, 0, 0, []), (315, .iconst 1, 1, 0, 0, 1, []), (316, .iadd, 1, 0, 0, 0, []), (317, .iaload, 1, 0, 0, 0, []), (318, .invokevirtual 47, 3, 153, 2, 0, [(0, 1109)]), (321, .if_icmp .eq 429, 3, 750, 0, 0, []), (324, .iconst 0, 1, 0, 0, 0, []), (325, .ireturn, 1, 0, 0, 0, [])]
  | 326 => [(326, .aload_n 1, 1, 1, 0, 0, []), (327, .invokevirtual 48, 3, 107, 1, 0, [(0, 658)]), (330, .aload_n 2, 1, 2, 0, 0, []), (331, .invokevirtual 51, 3, 157, 1, 0, [(0, 1129)]), (334, .if_icmp .eq 416, 3, 750, 0, 0, []), (337, .iconst 0, 1, 0, 0, 0, []), (338, .ireturn, 1, 0, 0, 0, [])]
  | 339 => [(339, .aload_n 1, 1, 1, 0, 0, []), (340, .invokevirtual 52, 3, 108, 1, 0, [(0, 681)]), (343, .aload_n 2, 1, 2, 0, 0, []), (344, .invokevirtual 55, 3, 165, 1, 0, [(0, 1145)]), (347, .if_icmp .eq 403, 3, 750, 0, 0, []), (350, .iconst 0, 1, 0, 0, 0, []), (351, .ireturn, 1, 0, 0, 0, [])]
  | 352 => [(352, .aload_n 1, 1, 1, 0, 0, []), (353, .invokevirtual 56, 3, 109, 1, 0, [(0, 731)]), (356, .aload_n 2, 1, 2, 0, 0, []), (357, .invokevirtual 59, 3, 167, 1, 0, [(0, 1177)]), (360, .if_icmp .eq 390, 3, 750, 0, 0, []), (363, .iconst 0, 1, 0, 0, 0, []), (364, .ireturn, 1, 0, 0, 0, [])]
  | 365 => [(365, .aload_n 1, 1, 1, 0, 0, []), (366, .aload_n 0, 1, 0, 0, 0, []), (367, .iload_n 3, 1, 3, 0, 0, []), (368, .iconst 1, 1, 0, 0, 1, []), (369, .iadd, 1, 0, 0, 0, []), (370, .iaload, 1, 0, 0, 0, []), (371, .aload_n 0, 1, 0, 0, 0, []), (372, .iload_n 3, 1, 3, 0, 0, []), (373, .iconst 2, 1, 0, 0, 2, []), (374, .iadd, 1, 0, 0, 0, []), (375, .iaload, 1, 0, 0, 0, []), (376, .invokevirtual 60, 3, 110, 3, 0, [(0, 739)]), (379, .aload_n 2, 1, 2, 0, 0, []), (380, .aload_n 0, 1, 0, 0, 0, []), (381, .iload_n 3, 1, 3, 0, 0, []), (382, .iconst 1, 1, 0, 0, 1, []), (383, .iadd, 1, 0, 0, 0, []), (384, .iaload, 1, 0, 0, 0, []), (385, .aload_n 0, 1, 0, 0, 0, []), (386, .iload_n 3, 1, 3, 0, 0, []), (387, .iconst 2, 1, 0, 0, 2, []), (388, .iadd, 1, 0, 0, 0, []), (389, .iaload, 1, 0, 0, 0, []), (390, .invokevirtual 63, 3, 168, 3, 0, [(0, 1185)]), (393, .if_icmp .eq 357, 3, 750, 0, 0, []), (396, .iconst 0, 1, 0, 0, 0, []), (397, .ireturn, 1, 0, 0, 0, [])]
  | 398 => [(398, .aload_n 1, 1, 1, 0, 0, []), (399, .invokevirtual 64, 3, 111, 1, 0, [(0, 744)]), (402, .aload_n 2, 1, 2, 0, 0, []), (403, .invokevirtual 67, 3, 169, 1, 0, [(0, 1189)]), (406, .if_icmp .eq 344, 3, 750, 0, 0, []), (409, .iconst 0, 1, 0, 0, 0, []), (410, .ireturn, 1, 0, 0, 0, [])]
  | 411 => [(411, .aload_n 1, 1, 1, 0, 0, []), (412, .aload_n 0, 1, 0, 0, 0, []), (413, .iload_n 3, 1, 3, 0, 0, []), (414, .iconst 1, 1, 0, 0, 1, []), (415, .iadd, 1, 0, 0, 0, []), (416, .iaload, 1, 0, 0, 0, []), (417, .invokevirtual 68, 3, 112, 2, 0, [(0, 752)]), (420, .aload_n 2, 1, 2, 0, 0, []), (421, .aload_n 0, 1, 0, 0, 0, []), (422, .iload_n 3, 1, 3, 0, 0, []), (423, .iconst 1, 1, 0, 0, 1, []), (424, .iadd, 1, 0, 0, 0, []), (425, .iaload, 1, 0, 0, 0, []), (426, .invokevirtual 71, 3, 170, 2, 0, [(0, 1193)]), (429, .if_icmp .eq 321, 3, 750, 0, 0, []), (432, .iconst 0, 1, 0, 0, 0, []), (433, .ireturn, 1, 0, 0, 0, [])]
  | 434 => [(434, .aload_n 1, 1, 1, 0, 0, []), (435, .aload_n 0, 1, 0, 0, 0, []), (436, .iload_n 3, 1, 3, 0, 0, []), (437, .iconst 1, 1, 0, 0, 1, []), (438, .iadd, 1, 0, 0, 0, []), (439, .iaload, 1, 0, 0, 0, []), (440, .aload_n 0, 1, 0, 0, 0, []), (441, .iload_n 3, 1, 3, 0, 0, []), (442, .iconst 2, 1, 0, 0, 2, []), (443, .iadd, 1, 0, 0, 0, []), (444, .iaload, 1, 0, 0, 0, []), (445, .invokevirtual 72, 3, 113, 3, 0, [(0, 759)]), (448, .aload_n 2, 1, 2, 0, 0, []), (449, .aload_n 0, 1, 0, 0, 0, []), (450, .iload_n 3, 1, 3, 0, 0, []), (451, .iconst 1, 1, 0, 0, 1, []), (452, .iadd, 1, 0, 0, 0, []), (453, .iaload, 1, 0, 0, 0, []), (454, .aload_n 0, 1, 0, 0, 0, []), (455, .iload_n 3, 1, 3, 0, 0, []), (456, .iconst 2, 1, 0, 0, 2, []), (457, .iadd, 1, 0, 0, 0, []), (458, .iaload, 1, 0, 0, 0, []), (459, .invokevirtual 75, 3, 175, 3, 0, [(0, 1197)]), (462, .if_icmp .eq 288, 3, 750, 0, 0, []), (465, .iconst 0, 1, 0, 0, 0, []), (466, .ireturn, 1, 0, 0, 0, [])]
  | 467 => [(467, .aload_n 1, 1, 1, 0, 0, []), (468, .aload_n 0, 1, 0, 0, 0, []), (469, .iload_n 3, 1, 3, 0, 0, []), (470, .iconst 1, 1, 0, 0, 1, []), (471, .iadd, 1, 0, 0, 0, []), (472, .iaload, 1, 0, 0, 0, []), (473, .aload_n 0, 1, 0, 0, 0, []), (474, .iload_n 3, 1, 3, 0, 0, []), (475, .iconst 2, 1, 0, 0, 2, []), (476, .iadd, 1, 0, 0, 0, []), (477, .iaload, 1, 0, 0, 0, []), (478, .invokevirtual 76, 3, 114, 3, 0, [(0, 813)]), (481, .aload_n 2, 1, 2, 0, 0, []), (482, .aload_n 0, 1, 0, 0, 0, []), (483, .iload_n 3, 1, 3, 0, 0, []), (484, .iconst 1, 1, 0, 0, 1, []), (485, .iadd, 1, 0, 0, 0, []), (486, .iaload, 1, 0, 0, 0, []), (487, .aload_n 0, 1, 0, 0, 0, []), (488, .iload_n 3, 1, 3, 0, 0, []), (489, .iconst 2, 1, 0, 0, 2, []), (490, .iadd, 1, 0, 0, 0, []), (491, .iaload, 1, 0, 0, 0, []), (492, .invokevirtual 79, 3, 177, 3, 0, [(0, 1216)]), (495, .if_icmp .eq 255, 3, 750, 0, 0, []), (498, .iconst 0, 1, 0, 0, 0, []), (499, .ireturn, 1, 0, 0, 0, [])]
  | 500 => [(500, .aload_n 1, 1, 1, 0, 0, []), (501, .aload_n 0, 1, 0, 0, 0, []), (502, .iload_n 3, 1, 3, 0, 0, []), (503, .iconst 1, 1, 0, 0, 1, []), (504, .iadd, 1, 0, 0, 0, []), (505, .iaload, 1, 0, 0, 0, []), (506, .aload_n 0, 1, 0, 0, 0, []), (507, .iload_n 3, 1, 3, 0, 0, []), (508, .iconst 2, 1, 0, 0, 2, []), (509, .iadd, 1, 0, 0, 0, []), (510, .iaload, 1, 0, 0, 0, []), (511, .invokevirtual 80, 3, 115, 3, 0, [(0, 849)]), (514, .aload_n 2, 1, 2, 0, 0, []), (515, .aload_n 0, 1, 0, 0, 0, []), (516, .iload_n 3, 1, 3, 0, 0, []), (517, .iconst 1, 1, 0, 0, 1, []), (518, .iadd, 1, 0, 0, 0, []), (519, .iaload, 1, 0, 0, 0, []), (520, .aload_n 0, 1, 0, 0, 0, []), (521, .iload_n 3, 1, 3, 0, 0, []), (522, .iconst 2, 1, 0, 0, 2, []), (523, .iadd, 1, 0, 0, 0, []), (524, .iaload, 1, 0, 0, 0, []), (525, .invokevirtual 83, 3, 179, 3, 0, [(0, 1224)]), (528, .if_icmp .eq 222, 3, 750, 0, 0, []), (531, .iconst 0, 1, 0, 0, 0, []), (532, .ireturn, 1, 0, 0, 0, [])]
  | 533 => [(533, .aload_n 1, 1, 1, 0, 0, []), (534, .aload_n 0, 1, 0, 0, 0, []), (535, .iload_n 3, 1, 3, 0, 0, []), (536, .iconst 1, 1, 0, 0, 1, []), (537, .iadd, 1, 0, 0, 0, []), (538, .iaload, 1, 0, 0, 0, []), (539, .invokevirtual 84, 3, 116, 2, 0, [(0, 870)]), (542, .aload_n 2, 1, 2, 0, 0, []), (543, .aload_n 0, 1, 0, 0, 0, []), (544, .iload_n 3, 1, 3, 0, 0, []), (545, .iconst 1, 1, 0, 0, 1, []), (546, .iadd, 1, 0, 0, 0, []), (547, .iaload, 1, 0, 0, 0, []), (548, .invokevirtual 87, 3, 180, 2, 0, [(0, 1232)]), (551, .if_icmp .eq 199, 3, 750, 0, 0, []), (554, .iconst 0, 1, 0, 0, 0, []), (555, .ireturn, 1, 0, 0, 0, [])]
  | 556 => [(556, .aload_n 1, 1, 1, 0, 0, []), (557, .aload_n 0, 1, 0, 0, 0, []), (558, .iload_n 3, 1, 3, 0, 0, []), (559, .iconst 1, 1, 0, 0, 1, []), (560, .iadd, 1, 0, 0, 0, []), (561, .iaload, 1, 0, 0, 0, []), (562, .aload_n 0, 1, 0, 0, 0, []), (563, .iload_n 3, 1, 3, 0, 0, []), (564, .iconst 2, 1, 0, 0, 2, []), (565, .iadd, 1, 0, 0, 0, []), (566, .iaload, 1, 0, 0, 0, []), (567, .invokevirtual 88, 3, 117, 3, 0, [(0, 879)]), (570, .aload_n 2, 1, 2, 0, 0, []), (571, .aload_n 0, 1, 0, 0, 0, []), (572, .iload_n 3, 1, 3, 0, 0, []), (573, .iconst 1, 1, 0, 0, 1, []), (574, .iadd, 1, 0, 0, 0, []), (575, .iaload, 1, 0, 0, 0, []), (576, .aload_n 0, 1, 0, 0, 0, []), (577, .iload_n 3, 1, 3, 0, 0, []), (578, .iconst 2, 1, 0, 0, 2, []), (579, .iadd, 1, 0, 0, 0, []), (580, .iaload, 1, 0, 0, 0, []), (581, .invokevirtual 91, 3, 181, 3, 0, [(0, 1236)]), (584, .if_icmp .eq 166, 3, 750, 0, 0, []), (587, .iconst 0, 1, 0, 0, 0, []), (588, .ireturn, 1, 0, 0, 0, [])]
  | 589 => [(589, .aload_n 1, 1, 1, 0, 0, []), (590, .aload_n 0, 1, 0, 0, 0, []), (591, .iload_n 3, 1, 3, 0, 0, []), (592, .iconst 1, 1, 0, 0, 1, []), (593, .iadd, 1, 0, 0, 0, []), (594, .iaload, 1, 0, 0, 0, []), (595, .aload_n 0, 1, 0, 0, 0, []), (596, .iload_n 3, 1, 3, 0, 0, []), (597, .iconst 2, 1, 0, 0, 2, []), (598, .iadd, 1, 0, 0, 0, []), (599, .iaload, 1, 0, 0, 0, []), (600, .invokevirtual 92, 3, 118, 3, 0, [(0, 895)]), (603, .aload_n 2, 1, 2, 0, 0, []), (604, .aload_n 0, 1, 0, 0, 0, []), (605, .iload_n 3, 1, 3, 0, 0, []), (606, .iconst 1, 1, 0, 0, 1, []), (607, .iadd, 1, 0, 0, 0, []), (608, .iaload, 1, 0, 0, 0, []), (609, .aload_n 0, 1, 0, 0, 0, []), (610, .iload_n 3, 1, 3, 0, 0, []), (611, .iconst 2, 1, 0, 0, 2, []), (612, .iadd, 1, 0, 0, 0, []), (613, .iaload, 1, 0, 0, 0, []), (614, .invokevirtual 95, 3, 182, 3, 0, [(0, 1240)]), (617, .if_icmp .eq 133, 3, 750, 0, 0, []), (620, .iconst 0, 1, 0, 0, 0, []), (621, .ireturn, 1, 0, 0, 0, [])]
  | 622 => [(622, .aload_n 1, 1, 1, 0, 0, []), (623, .invokevirtual 96, 3, 119, 1, 0, [(0, 904)]), (626, .aload_n 2, 1, 2, 0, 0, []), (627, .invokevirtual 99, 3, 183, 1, 0, [(0, 1244)]), (630, .if_icmp .eq 120, 3, 750, 0, 0, []), (633, .iconst 0, 1, 0, 0, 0, []), (634, .ireturn, 1, 0, 0, 0, [])]
  | 635 => [(635, .aload_n 1, 1, 1, 0, 0, []), (636, .aload_n 0, 1, 0, 0, 0, []), (637, .iload_n 3, 1, 3, 0, 0, []), (638, .iconst 1, 1, 0, 0, 1, []), (639, .iadd, 1, 0, 0, 0, []), (640, .iaload, 1, 0, 0, 0, []), (641, .invokevirtual 100, 3, 120, 2, 0, [(0, 909)]), (644, .aload_n 2, 1, 2, 0, 0, []), (645, .aload_n 0, 1, 0, 0, 0, []), (646, .iload_n 3, 1, 3, 0, 0, []), (647, .iconst 1, 1, 0, 0, 1, []), (648, .iadd, 1, 0, 0, 0, []), (649, .iaload, 1, 0, 0, 0, []), (650, .invokevirtual 103, 3, 184, 2, 0, [(0, 1248)]), (653, .if_icmp .eq 97, 3, 750, 0, 0, []), (656, .iconst 0, 1, 0, 0, 0, []), (657, .ireturn, 1, 0, 0, 0, [])]
  | 658 => [(658, .aload_n 1, 1, 1, 0, 0, []), (659, .aload_n 0, 1, 0, 0, 0, []), (660, .iload_n 3, 1, 3, 0, 0, []), (661, .iconst 1, 1, 0, 0, 1, []), (662, .iadd, 1, 0, 0, 0, []), (663, .iaload, 1, 0, 0, 0, []), (664, .aload_n 0, 1, 0, 0, 0, []), (665, .iload_n 3, 1, 3, 0, 0, []), (666, .iconst 2, 1, 0, 0, 2, []), (667, .iadd, 1, 0, 0, 0, []), (668, .iaload, 1, 0, 0, 0, []), (669, .aload_n 0, 1, 0, 0, 0, []), (670, .iload_n 3, 1, 3, 0, 0, []), (671, .iconst 3, 1, 0, 0, 3, []), (672, .iadd, 1, 0, 0, 0, []), (673, .iaload, 1, 0, 0, 0, []), (674, .invokevirtual 104, 3, 121, 4, 0, [(0, 923)]), (677, .aload_n 2, 1, 2, 0, 0, []), (678, .aload_n 0, 1, 0, 0, 0, []), (679, .iload_n 3, 1, 3, 0, 0, []), (680, .iconst 1, 1, 0, 0, 1, []), (681, .iadd, 1, 0, 0, 0, []), (682, .iaload, 1, 0, 0, 0, []), (683, .aload_n 0, 1, 0, 0, 0, []), (684, .iload_n 3, 1, 3, 0, 0, []), (685, .iconst 2, 1, 0, 0, 2, []), (686, .iadd, 1, 0, 0, 0, []), (687, .iaload, 1, 0, 0, 0, []), (688, .aload_n 0, 1, 0, 0, 0, []), (689, .iload_n 3, 1, 3, 0, 0, []), (690, .iconst 3, 1, 0, 0, 3, []), (691, .iadd, 1, 0, 0, 0, []), (692, .iaload, 1, 0, 0, 0, []), (693, .invokevirtual 108, 3, 186, 4, 0, [(0, 1252)]), (696, .if_icmp .eq 54, 3, 750, 0, 0, []), (699, .iconst 0, 1, 0, 0, 0, []), (700, .ireturn, 1, 0, 0, 0, [])]
  | 701 => [(701, .aload_n 1, 1, 1, 0, 0, []), (702, .invokevirtual 109, 3, 122, 1, 0, [(0, 961)]), (705, .aload_n 2, 1, 2, 0, 0, []), (706, .invokevirtual 112, 3, 187, 1, 0, [(0, 1263)]), (709, .if_icmp .eq 41, 3, 750, 0, 0, []), (712, .iconst 0, 1, 0, 0, 0, []), (713, .ireturn, 1, 0, 0, 0, [])]
  | 714 => [(714, .aload_n 1, 1, 1, 0, 0, []), (715, .invokevirtual 113, 3, 123, 1, 0, [(0, 965)]), (718, .aload_n 2, 1, 2, 0, 0, []), (719, .invokevirtual 116, 3, 188, 1, 0, [(0, 1267)]), (722, .if_icmp .eq 28, 3, 750, 0, 0, []), (725, .iconst 0, 1, 0, 0, 0, []), (726, .ireturn, 1, 0, 0, 0, [])]
  | 727 => [(727, .aload_n 1, 1, 1, 0, 0, []), (728, .aload_n 0, 1, 0, 0, 0, []), (729, .iload_n 3, 1, 3, 0, 0, []), (730, .iconst 1, 1, 0, 0, 1, []), (731, .iadd, 1, 0, 0, 0, []), (732, .iaload, 1, 0, 0, 0, []), (733, .invokevirtual 117, 3, 124, 2, 0, [(0, 969)]), (736, .aload_n 2, 1, 2, 0, 0, []), (737, .aload_n 0, 1, 0, 0, 0, []), (738, .iload_n 3, 1, 3, 0, 0, []), (739, .iconst 1, 1, 0, 0, 1, []), (740, .iadd, 1, 0, 0, 0, []), (741, .iaload, 1, 0, 0, 0, []), (742, .invokevirtual 120, 3, 189, 2, 0, [(0, 1271)]), (745, .if_icmp .eq 5, 3, 750, 0, 0, []), (748, .iconst 0, 1, 0, 0, 0, []), (749, .ireturn, 1, 0, 0, 0, [])]
  | 750 => [(750, .iinc 3 4, 3, 3, 0, 4, []), (753, .goto (-735), 3, 18, 0, 0, [])]
  | 756 => [(756, .iconst 1, 1, 0, 0, 1, []), (757, .ireturn, 1, 0, 0, 0, [])]
  | _ => []
def mx_k_L_law : mx_Mt := (mx_b_L_law, ⟨"TwoMayorsLaw", "law", "([I)Z"⟩, code, 4, (some .boolean), "TwoMayorsLaw", { frames := 10, cells := 600000, slots := 7302249, locals := 364 }, [0, 18, 152, 175, 188, 201, 214, 247, 280, 303, 326, 339, 352, 365, 398, 411, 434, 467, 500, 533, 556, 589, 622, 635, 658, 701, 714, 727, 750, 756], [])
def mx_tabL : List mx_Mt := [mx_k_X0_init, mx_k_X0_clear, mx_k_X0_takePair, mx_k_X0_takeSingle, mx_k_X0_addWord, mx_k_X0_addBehind, mx_k_X0_addKnown, mx_k_X0_setLongest, mx_k_X0_setChain, mx_k_X0_has, mx_k_X0_kindOf, mx_k_X0_worthOf, mx_k_X0_behindOf, mx_k_X0_allWords, mx_k_X0_aheadOf, mx_k_X0_firstOf, mx_k_X1_init, mx_k_X1_outcome, mx_k_X1_drawOf, mx_k_X1_step, mx_k_X1_finishes, mx_k_X2_init, mx_k_X2_fillStarts, mx_k_X2_couldBehind, mx_k_X2_find, mx_k_X2_fewestMore, mx_k_X3_init, mx_k_X3_startAnew, mx_k_X3_clear, mx_k_X3_note, mx_k_X3_weigh, mx_k_X3_tableOnce, mx_k_X4_init, mx_k_X4_startWith, mx_k_X4_copyFrom, mx_k_X5_init, mx_k_X5_prepare, mx_k_X5_firstsWith, mx_k_X5_leadingWith, mx_k_X5_tableAt, mx_k_X5_seekSafe, mx_k_X5_seekLure, mx_k_X5_luresTo, mx_k_X5_tableWorths, mx_k_X5_mostBehind, mx_k_X5_tableWays, mx_k_X5_sumBehind, mx_k_X6_init, mx_k_X6_clear, mx_k_X6_put, mx_k_X6_takeInto, mx_k_X6_placeAt, mx_k_X6_giveOldestToNewest, mx_k_X7_init, mx_k_X7_clear, mx_k_X7_add, mx_k_X7_at, mx_k_X7_holds, mx_k_X7_worthIn, mx_k_X7_copyFrom, mx_k_X8_init, mx_k_X8_prepare, mx_k_X8_openingBy, mx_k_X8_findSafe, mx_k_X8_findLure, mx_k_X8_followShortest, mx_k_X8_follow, mx_k_X8_findBest, mx_k_X8_followWorth, mx_k_X8_firstBehindWith, mx_k_X8_countWays, mx_k_X8_winnerBehind, mx_k_X9_init, mx_k_X9_startIn, mx_k_X9_copyFrom, mx_k_X9_mayorOf, mx_k_X9_otherMayor, mx_k_X9_knowersOf, mx_k_X9_decreesOfBoth, mx_k_X9_lastWord, mx_k_X9_fits, mx_k_X9_isEndable, mx_k_X9_sayableByOther, mx_k_X9_speak, mx_k_X9_letFall, mx_k_X9_decree, mx_k_X9_passOver, mx_k_X9_gain, mx_k_X10_init, mx_k_X10_add, mx_k_X10_clear, mx_k_X10_readInto, mx_k_X10_readItem, mx_k_X10_takeItem, mx_k_X10_figuresAt, mx_k_X10_valueAt, mx_k_X10_isFigure, mx_k_X10_letterAt, mx_k_X11_init, mx_k_X11_write, mx_k_X11_wipe, mx_k_X11_fault, mx_k_X11_lay, mx_k_X11_word, mx_k_X11_mayor, mx_k_X11_said, mx_k_X11_say, mx_k_X11_end, mx_k_X11_finish, mx_k_X11_drop, mx_k_X11_learn, mx_k_X11_undo, mx_k_X11_finishing, mx_k_X11_safe, mx_k_X11_best, mx_k_X11_lure, mx_k_X11_sitting, mx_k_X11_ways, mx_k_X11_seen, mx_k_X11_forget, mx_k_X11_guessed, mx_k_X11_council, mx_k_X11_keep, mx_k_X11_back, mx_k_X11_count, mx_k_X11_layText, mx_k_X11_findFinishing, mx_k_X11_told, mx_k_X11_isMayor, mx_k_X11_bit, mx_k_X12_init, mx_k_X12_in, mx_k_X12_isWord, mx_k_X12_has, mx_k_X12_write, mx_k_X12_wipe, mx_k_X12_letterAt, mx_k_X12_isFigure, mx_k_X12_number, mx_k_X12_begins, mx_k_X12_wordOf, mx_k_X12_readsItem, mx_k_X12_readsAll, mx_k_X12_fault, mx_k_X12_lays, mx_k_X12_lay, mx_k_X12_word, mx_k_X12_mayor, mx_k_X12_said, mx_k_X12_keeps, mx_k_X12_last, mx_k_X12_maySay, mx_k_X12_says, mx_k_X12_say, mx_k_X12_worthNow, mx_k_X12_decrees, mx_k_X12_mayEnd, mx_k_X12_end, mx_k_X12_stops, mx_k_X12_levelsOf, mx_k_X12_finishes, mx_k_X12_all, mx_k_X12_knowsFor, mx_k_X12_finishesNow, mx_k_X12_ends, mx_k_X12_finish, mx_k_X12_drops, mx_k_X12_drop, mx_k_X12_learn, mx_k_X12_undo, mx_k_X12_finishing, mx_k_X12_lost, mx_k_X12_reckons, mx_k_X12_lowest, mx_k_X12_isSafe, mx_k_X12_safe, mx_k_X12_gainsFor, mx_k_X12_best, mx_k_X12_isLure, mx_k_X12_lure, mx_k_X12_sitting, mx_k_X12_ways, mx_k_X12_seen, mx_k_X12_forget, mx_k_X12_guessed, mx_k_X12_turn, mx_k_X12_council, mx_k_X12_keep, mx_k_X12_back, mx_k_X12_count, mx_k_L_law]
def mx_tab (y : Nat) : mx_Mt := mx_tabL.getD y mx_k_X0_has
def mx_law : Nat := 190
theorem mx_t_X0_init : mx_tab 0 = mx_k_X0_init := rfl
theorem mx_t_X0_clear : mx_tab 1 = mx_k_X0_clear := rfl
theorem mx_t_X0_takePair : mx_tab 2 = mx_k_X0_takePair := rfl
theorem mx_t_X0_takeSingle : mx_tab 3 = mx_k_X0_takeSingle := rfl
theorem mx_t_X0_addWord : mx_tab 4 = mx_k_X0_addWord := rfl
theorem mx_t_X0_addBehind : mx_tab 5 = mx_k_X0_addBehind := rfl
theorem mx_t_X0_addKnown : mx_tab 6 = mx_k_X0_addKnown := rfl
theorem mx_t_X0_setLongest : mx_tab 7 = mx_k_X0_setLongest := rfl
theorem mx_t_X0_setChain : mx_tab 8 = mx_k_X0_setChain := rfl
theorem mx_t_X0_has : mx_tab 9 = mx_k_X0_has := rfl
theorem mx_t_X0_kindOf : mx_tab 10 = mx_k_X0_kindOf := rfl
theorem mx_t_X0_worthOf : mx_tab 11 = mx_k_X0_worthOf := rfl
theorem mx_t_X0_behindOf : mx_tab 12 = mx_k_X0_behindOf := rfl
theorem mx_t_X0_allWords : mx_tab 13 = mx_k_X0_allWords := rfl
theorem mx_t_X0_aheadOf : mx_tab 14 = mx_k_X0_aheadOf := rfl
theorem mx_t_X0_firstOf : mx_tab 15 = mx_k_X0_firstOf := rfl
theorem mx_t_X1_init : mx_tab 16 = mx_k_X1_init := rfl
theorem mx_t_X1_outcome : mx_tab 17 = mx_k_X1_outcome := rfl
theorem mx_t_X1_drawOf : mx_tab 18 = mx_k_X1_drawOf := rfl
theorem mx_t_X1_step : mx_tab 19 = mx_k_X1_step := rfl
theorem mx_t_X1_finishes : mx_tab 20 = mx_k_X1_finishes := rfl
theorem mx_t_X2_init : mx_tab 21 = mx_k_X2_init := rfl
theorem mx_t_X2_fillStarts : mx_tab 22 = mx_k_X2_fillStarts := rfl
theorem mx_t_X2_couldBehind : mx_tab 23 = mx_k_X2_couldBehind := rfl
theorem mx_t_X2_find : mx_tab 24 = mx_k_X2_find := rfl
theorem mx_t_X2_fewestMore : mx_tab 25 = mx_k_X2_fewestMore := rfl
theorem mx_t_X3_init : mx_tab 26 = mx_k_X3_init := rfl
theorem mx_t_X3_startAnew : mx_tab 27 = mx_k_X3_startAnew := rfl
theorem mx_t_X3_clear : mx_tab 28 = mx_k_X3_clear := rfl
theorem mx_t_X3_note : mx_tab 29 = mx_k_X3_note := rfl
theorem mx_t_X3_weigh : mx_tab 30 = mx_k_X3_weigh := rfl
theorem mx_t_X3_tableOnce : mx_tab 31 = mx_k_X3_tableOnce := rfl
theorem mx_t_X4_init : mx_tab 32 = mx_k_X4_init := rfl
theorem mx_t_X4_startWith : mx_tab 33 = mx_k_X4_startWith := rfl
theorem mx_t_X4_copyFrom : mx_tab 34 = mx_k_X4_copyFrom := rfl
theorem mx_t_X5_init : mx_tab 35 = mx_k_X5_init := rfl
theorem mx_t_X5_prepare : mx_tab 36 = mx_k_X5_prepare := rfl
theorem mx_t_X5_firstsWith : mx_tab 37 = mx_k_X5_firstsWith := rfl
theorem mx_t_X5_leadingWith : mx_tab 38 = mx_k_X5_leadingWith := rfl
theorem mx_t_X5_tableAt : mx_tab 39 = mx_k_X5_tableAt := rfl
theorem mx_t_X5_seekSafe : mx_tab 40 = mx_k_X5_seekSafe := rfl
theorem mx_t_X5_seekLure : mx_tab 41 = mx_k_X5_seekLure := rfl
theorem mx_t_X5_luresTo : mx_tab 42 = mx_k_X5_luresTo := rfl
theorem mx_t_X5_tableWorths : mx_tab 43 = mx_k_X5_tableWorths := rfl
theorem mx_t_X5_mostBehind : mx_tab 44 = mx_k_X5_mostBehind := rfl
theorem mx_t_X5_tableWays : mx_tab 45 = mx_k_X5_tableWays := rfl
theorem mx_t_X5_sumBehind : mx_tab 46 = mx_k_X5_sumBehind := rfl
theorem mx_t_X6_init : mx_tab 47 = mx_k_X6_init := rfl
theorem mx_t_X6_clear : mx_tab 48 = mx_k_X6_clear := rfl
theorem mx_t_X6_put : mx_tab 49 = mx_k_X6_put := rfl
theorem mx_t_X6_takeInto : mx_tab 50 = mx_k_X6_takeInto := rfl
theorem mx_t_X6_placeAt : mx_tab 51 = mx_k_X6_placeAt := rfl
theorem mx_t_X6_giveOldestToNewest : mx_tab 52 = mx_k_X6_giveOldestToNewest := rfl
theorem mx_t_X7_init : mx_tab 53 = mx_k_X7_init := rfl
theorem mx_t_X7_clear : mx_tab 54 = mx_k_X7_clear := rfl
theorem mx_t_X7_add : mx_tab 55 = mx_k_X7_add := rfl
theorem mx_t_X7_at : mx_tab 56 = mx_k_X7_at := rfl
theorem mx_t_X7_holds : mx_tab 57 = mx_k_X7_holds := rfl
theorem mx_t_X7_worthIn : mx_tab 58 = mx_k_X7_worthIn := rfl
theorem mx_t_X7_copyFrom : mx_tab 59 = mx_k_X7_copyFrom := rfl
theorem mx_t_X8_init : mx_tab 60 = mx_k_X8_init := rfl
theorem mx_t_X8_prepare : mx_tab 61 = mx_k_X8_prepare := rfl
theorem mx_t_X8_openingBy : mx_tab 62 = mx_k_X8_openingBy := rfl
theorem mx_t_X8_findSafe : mx_tab 63 = mx_k_X8_findSafe := rfl
theorem mx_t_X8_findLure : mx_tab 64 = mx_k_X8_findLure := rfl
theorem mx_t_X8_followShortest : mx_tab 65 = mx_k_X8_followShortest := rfl
theorem mx_t_X8_follow : mx_tab 66 = mx_k_X8_follow := rfl
theorem mx_t_X8_findBest : mx_tab 67 = mx_k_X8_findBest := rfl
theorem mx_t_X8_followWorth : mx_tab 68 = mx_k_X8_followWorth := rfl
theorem mx_t_X8_firstBehindWith : mx_tab 69 = mx_k_X8_firstBehindWith := rfl
theorem mx_t_X8_countWays : mx_tab 70 = mx_k_X8_countWays := rfl
theorem mx_t_X8_winnerBehind : mx_tab 71 = mx_k_X8_winnerBehind := rfl
theorem mx_t_X9_init : mx_tab 72 = mx_k_X9_init := rfl
theorem mx_t_X9_startIn : mx_tab 73 = mx_k_X9_startIn := rfl
theorem mx_t_X9_copyFrom : mx_tab 74 = mx_k_X9_copyFrom := rfl
theorem mx_t_X9_mayorOf : mx_tab 75 = mx_k_X9_mayorOf := rfl
theorem mx_t_X9_otherMayor : mx_tab 76 = mx_k_X9_otherMayor := rfl
theorem mx_t_X9_knowersOf : mx_tab 77 = mx_k_X9_knowersOf := rfl
theorem mx_t_X9_decreesOfBoth : mx_tab 78 = mx_k_X9_decreesOfBoth := rfl
theorem mx_t_X9_lastWord : mx_tab 79 = mx_k_X9_lastWord := rfl
theorem mx_t_X9_fits : mx_tab 80 = mx_k_X9_fits := rfl
theorem mx_t_X9_isEndable : mx_tab 81 = mx_k_X9_isEndable := rfl
theorem mx_t_X9_sayableByOther : mx_tab 82 = mx_k_X9_sayableByOther := rfl
theorem mx_t_X9_speak : mx_tab 83 = mx_k_X9_speak := rfl
theorem mx_t_X9_letFall : mx_tab 84 = mx_k_X9_letFall := rfl
theorem mx_t_X9_decree : mx_tab 85 = mx_k_X9_decree := rfl
theorem mx_t_X9_passOver : mx_tab 86 = mx_k_X9_passOver := rfl
theorem mx_t_X9_gain : mx_tab 87 = mx_k_X9_gain := rfl
theorem mx_t_X10_init : mx_tab 88 = mx_k_X10_init := rfl
theorem mx_t_X10_add : mx_tab 89 = mx_k_X10_add := rfl
theorem mx_t_X10_clear : mx_tab 90 = mx_k_X10_clear := rfl
theorem mx_t_X10_readInto : mx_tab 91 = mx_k_X10_readInto := rfl
theorem mx_t_X10_readItem : mx_tab 92 = mx_k_X10_readItem := rfl
theorem mx_t_X10_takeItem : mx_tab 93 = mx_k_X10_takeItem := rfl
theorem mx_t_X10_figuresAt : mx_tab 94 = mx_k_X10_figuresAt := rfl
theorem mx_t_X10_valueAt : mx_tab 95 = mx_k_X10_valueAt := rfl
theorem mx_t_X10_isFigure : mx_tab 96 = mx_k_X10_isFigure := rfl
theorem mx_t_X10_letterAt : mx_tab 97 = mx_k_X10_letterAt := rfl
theorem mx_t_X11_init : mx_tab 98 = mx_k_X11_init := rfl
theorem mx_t_X11_write : mx_tab 99 = mx_k_X11_write := rfl
theorem mx_t_X11_wipe : mx_tab 100 = mx_k_X11_wipe := rfl
theorem mx_t_X11_fault : mx_tab 101 = mx_k_X11_fault := rfl
theorem mx_t_X11_lay : mx_tab 102 = mx_k_X11_lay := rfl
theorem mx_t_X11_word : mx_tab 103 = mx_k_X11_word := rfl
theorem mx_t_X11_mayor : mx_tab 104 = mx_k_X11_mayor := rfl
theorem mx_t_X11_said : mx_tab 105 = mx_k_X11_said := rfl
theorem mx_t_X11_say : mx_tab 106 = mx_k_X11_say := rfl
theorem mx_t_X11_end : mx_tab 107 = mx_k_X11_end := rfl
theorem mx_t_X11_finish : mx_tab 108 = mx_k_X11_finish := rfl
theorem mx_t_X11_drop : mx_tab 109 = mx_k_X11_drop := rfl
theorem mx_t_X11_learn : mx_tab 110 = mx_k_X11_learn := rfl
theorem mx_t_X11_undo : mx_tab 111 = mx_k_X11_undo := rfl
theorem mx_t_X11_finishing : mx_tab 112 = mx_k_X11_finishing := rfl
theorem mx_t_X11_safe : mx_tab 113 = mx_k_X11_safe := rfl
theorem mx_t_X11_best : mx_tab 114 = mx_k_X11_best := rfl
theorem mx_t_X11_lure : mx_tab 115 = mx_k_X11_lure := rfl
theorem mx_t_X11_sitting : mx_tab 116 = mx_k_X11_sitting := rfl
theorem mx_t_X11_ways : mx_tab 117 = mx_k_X11_ways := rfl
theorem mx_t_X11_seen : mx_tab 118 = mx_k_X11_seen := rfl
theorem mx_t_X11_forget : mx_tab 119 = mx_k_X11_forget := rfl
theorem mx_t_X11_guessed : mx_tab 120 = mx_k_X11_guessed := rfl
theorem mx_t_X11_council : mx_tab 121 = mx_k_X11_council := rfl
theorem mx_t_X11_keep : mx_tab 122 = mx_k_X11_keep := rfl
theorem mx_t_X11_back : mx_tab 123 = mx_k_X11_back := rfl
theorem mx_t_X11_count : mx_tab 124 = mx_k_X11_count := rfl
theorem mx_t_X11_layText : mx_tab 125 = mx_k_X11_layText := rfl
theorem mx_t_X11_findFinishing : mx_tab 126 = mx_k_X11_findFinishing := rfl
theorem mx_t_X11_told : mx_tab 127 = mx_k_X11_told := rfl
theorem mx_t_X11_isMayor : mx_tab 128 = mx_k_X11_isMayor := rfl
theorem mx_t_X11_bit : mx_tab 129 = mx_k_X11_bit := rfl
theorem mx_t_X12_init : mx_tab 130 = mx_k_X12_init := rfl
theorem mx_t_X12_in : mx_tab 131 = mx_k_X12_in := rfl
theorem mx_t_X12_isWord : mx_tab 132 = mx_k_X12_isWord := rfl
theorem mx_t_X12_has : mx_tab 133 = mx_k_X12_has := rfl
theorem mx_t_X12_write : mx_tab 134 = mx_k_X12_write := rfl
theorem mx_t_X12_wipe : mx_tab 135 = mx_k_X12_wipe := rfl
theorem mx_t_X12_letterAt : mx_tab 136 = mx_k_X12_letterAt := rfl
theorem mx_t_X12_isFigure : mx_tab 137 = mx_k_X12_isFigure := rfl
theorem mx_t_X12_number : mx_tab 138 = mx_k_X12_number := rfl
theorem mx_t_X12_begins : mx_tab 139 = mx_k_X12_begins := rfl
theorem mx_t_X12_wordOf : mx_tab 140 = mx_k_X12_wordOf := rfl
theorem mx_t_X12_readsItem : mx_tab 141 = mx_k_X12_readsItem := rfl
theorem mx_t_X12_readsAll : mx_tab 142 = mx_k_X12_readsAll := rfl
theorem mx_t_X12_fault : mx_tab 143 = mx_k_X12_fault := rfl
theorem mx_t_X12_lays : mx_tab 144 = mx_k_X12_lays := rfl
theorem mx_t_X12_lay : mx_tab 145 = mx_k_X12_lay := rfl
theorem mx_t_X12_word : mx_tab 146 = mx_k_X12_word := rfl
theorem mx_t_X12_mayor : mx_tab 147 = mx_k_X12_mayor := rfl
theorem mx_t_X12_said : mx_tab 148 = mx_k_X12_said := rfl
theorem mx_t_X12_keeps : mx_tab 149 = mx_k_X12_keeps := rfl
theorem mx_t_X12_last : mx_tab 150 = mx_k_X12_last := rfl
theorem mx_t_X12_maySay : mx_tab 151 = mx_k_X12_maySay := rfl
theorem mx_t_X12_says : mx_tab 152 = mx_k_X12_says := rfl
theorem mx_t_X12_say : mx_tab 153 = mx_k_X12_say := rfl
theorem mx_t_X12_worthNow : mx_tab 154 = mx_k_X12_worthNow := rfl
theorem mx_t_X12_decrees : mx_tab 155 = mx_k_X12_decrees := rfl
theorem mx_t_X12_mayEnd : mx_tab 156 = mx_k_X12_mayEnd := rfl
theorem mx_t_X12_end : mx_tab 157 = mx_k_X12_end := rfl
theorem mx_t_X12_stops : mx_tab 158 = mx_k_X12_stops := rfl
theorem mx_t_X12_levelsOf : mx_tab 159 = mx_k_X12_levelsOf := rfl
theorem mx_t_X12_finishes : mx_tab 160 = mx_k_X12_finishes := rfl
theorem mx_t_X12_all : mx_tab 161 = mx_k_X12_all := rfl
theorem mx_t_X12_knowsFor : mx_tab 162 = mx_k_X12_knowsFor := rfl
theorem mx_t_X12_finishesNow : mx_tab 163 = mx_k_X12_finishesNow := rfl
theorem mx_t_X12_ends : mx_tab 164 = mx_k_X12_ends := rfl
theorem mx_t_X12_finish : mx_tab 165 = mx_k_X12_finish := rfl
theorem mx_t_X12_drops : mx_tab 166 = mx_k_X12_drops := rfl
theorem mx_t_X12_drop : mx_tab 167 = mx_k_X12_drop := rfl
theorem mx_t_X12_learn : mx_tab 168 = mx_k_X12_learn := rfl
theorem mx_t_X12_undo : mx_tab 169 = mx_k_X12_undo := rfl
theorem mx_t_X12_finishing : mx_tab 170 = mx_k_X12_finishing := rfl
theorem mx_t_X12_lost : mx_tab 171 = mx_k_X12_lost := rfl
theorem mx_t_X12_reckons : mx_tab 172 = mx_k_X12_reckons := rfl
theorem mx_t_X12_lowest : mx_tab 173 = mx_k_X12_lowest := rfl
theorem mx_t_X12_isSafe : mx_tab 174 = mx_k_X12_isSafe := rfl
theorem mx_t_X12_safe : mx_tab 175 = mx_k_X12_safe := rfl
theorem mx_t_X12_gainsFor : mx_tab 176 = mx_k_X12_gainsFor := rfl
theorem mx_t_X12_best : mx_tab 177 = mx_k_X12_best := rfl
theorem mx_t_X12_isLure : mx_tab 178 = mx_k_X12_isLure := rfl
theorem mx_t_X12_lure : mx_tab 179 = mx_k_X12_lure := rfl
theorem mx_t_X12_sitting : mx_tab 180 = mx_k_X12_sitting := rfl
theorem mx_t_X12_ways : mx_tab 181 = mx_k_X12_ways := rfl
theorem mx_t_X12_seen : mx_tab 182 = mx_k_X12_seen := rfl
theorem mx_t_X12_forget : mx_tab 183 = mx_k_X12_forget := rfl
theorem mx_t_X12_guessed : mx_tab 184 = mx_k_X12_guessed := rfl
theorem mx_t_X12_turn : mx_tab 185 = mx_k_X12_turn := rfl
theorem mx_t_X12_council : mx_tab 186 = mx_k_X12_council := rfl
theorem mx_t_X12_keep : mx_tab 187 = mx_k_X12_keep := rfl
theorem mx_t_X12_back : mx_tab 188 = mx_k_X12_back := rfl
theorem mx_t_X12_count : mx_tab 189 = mx_k_X12_count := rfl
theorem mx_t_L_law : mx_tab 190 = mx_k_L_law := rfl
end
section
/-! THE LIGHT MACHINE: one frame's run over a small heap, a step an instruction; part 04 ties it to the machine -/
abbrev mx_Hp : Type := Nat × (Nat → Nat → Int32) × (Nat → Nat → Option Nat)
abbrev mx_Lc : Type := List (Option Value)
abbrev mx_Cf : Type := List mx_In × mx_Lc × List Value × mx_Hp × Nat × Nat
abbrev mx_Rs : Type := Option Value × mx_Hp
/-- go on; call (which method, its arguments, what comes behind it); return -/
abbrev mx_Ac : Type := mx_Cf ⊕ ((Nat × List Value × mx_Cf) ⊕ mx_Rs)
/-- the script: how long, its ints; whether it may be read -/
abbrev mx_Sc : Type := Bool × Nat × (Nat → Int32)
def mx_ld (loc : mx_Lc) (i : Nat) : Option Value := match loc[i]? with
  | some (some v) => some v
  | _ => none
def mx_isL (v : Option (Option Value)) : Bool := match v with
  | some (some (.long _)) => true
  | some (some (.double _)) => true
  | _ => false
/-- a store spoils a long ahead of it -/
def mx_cl1 (loc : mx_Lc) (i : Nat) : mx_Lc := if mx_isL loc[i - 1]? = true then loc.set (i - 1) none else loc
def mx_sv (loc : mx_Lc) (i : Nat) (v : Value) : Option mx_Lc := if i < loc.length then some ((mx_cl1 loc i).set i (some v)) else none
def mx_sv2 (loc : mx_Lc) (i : Nat) (v : Value) : Option mx_Lc := if i + 1 < loc.length then some (((mx_cl1 loc i).set i (some v)).set (i + 1) none) else none
/-- one cell's place is written -/
def mx_up {α : Type} (m : Nat → Nat → α) (o k : Nat) (v : α) : Nat → Nat → α := fun a j => if a = o ∧ j = k then v else m a j
/-- one cell is new -/
def mx_fr {α : Type} (m : Nat → Nat → α) (o : Nat) (v : α) : Nat → Nat → α := fun a j => if a = o then v else m a j
/-- an int field of an object of class c -/
def mx_gi (h : mx_Hp) (o c k : Nat) : Option Int32 := if o < h.1 ∧ (mx_lay o).1 = c + 3 ∧ (mx_fk c k = 0 ∨ mx_fk c k = 2) then some (h.2.1 o k) else none
def mx_gr (h : mx_Hp) (o c k : Nat) : Option Nat := if o < h.1 ∧ (mx_lay o).1 = c + 3 ∧ mx_fk c k = 1 then h.2.2 o k else none
def mx_pi (h : mx_Hp) (o c k : Nat) (v : Int32) : Option mx_Hp := if o < h.1 ∧ (mx_lay o).1 = c + 3 ∧ (mx_fk c k = 0 ∨ (mx_fk c k = 2 ∧ (v = 0 ∨ v = 1))) then some (h.1, mx_up h.2.1 o k v, h.2.2) else none
def mx_pr (h : mx_Hp) (o c k : Nat) (v : Nat) : Option mx_Hp := if o < h.1 ∧ (mx_lay o).1 = c + 3 ∧ mx_fk c k = 1 then some (h.1, h.2.1, mx_up h.2.2 o k (some v)) else none
def mx_inb (i : Int32) (n : Nat) : Prop := 0 ≤ i ∧ i.toNatClampNeg < n
def mx_al (h : mx_Hp) (o : Nat) (i : Int32) : Option Int32 := if o < h.1 ∧ (mx_lay o).1 = 0 ∧ (0 ≤ i ∧ i.toNatClampNeg < (mx_lay o).2) then some (h.2.1 o i.toNatClampNeg) else none
def mx_as (h : mx_Hp) (o : Nat) (i v : Int32) : Option mx_Hp := if o < h.1 ∧ (mx_lay o).1 = 0 ∧ (0 ≤ i ∧ i.toNatClampNeg < (mx_lay o).2) then some (h.1, mx_up h.2.1 o i.toNatClampNeg v, h.2.2) else none
def mx_rl (h : mx_Hp) (o : Nat) (i : Int32) : Option Nat := if o < h.1 ∧ ((mx_lay o).1 = 1 ∨ (mx_lay o).1 = 2) ∧ (0 ≤ i ∧ i.toNatClampNeg < (mx_lay o).2) then h.2.2 o i.toNatClampNeg else none
def mx_rs (h : mx_Hp) (o : Nat) (i : Int32) (v : Nat) : Option mx_Hp := if o < h.1 ∧ (mx_lay o).1 = 1 ∧ (0 ≤ i ∧ i.toNatClampNeg < (mx_lay o).2) ∧ v < h.1 ∧ (mx_lay v).1 = 12 then some (h.1, h.2.1, mx_up h.2.2 o i.toNatClampNeg (some v)) else none
def mx_ln (h : mx_Hp) (o : Nat) : Option Int32 := if o < h.1 ∧ ((mx_lay o).1 = 0 ∨ (mx_lay o).1 = 1 ∨ (mx_lay o).1 = 2) then some (Int32.ofNat (mx_lay o).2) else none
def mx_new (h : mx_Hp) : mx_Hp := (h.1 + 1, mx_fr h.2.1 h.1 0, mx_fr h.2.2 h.1 none)
/-- a row of rows of ten ints -/
def mx_mna (h : mx_Hp) : mx_Hp := (h.1 + 11, (fun a j => if h.1 ≤ a ∧ a < h.1 + 11 then 0 else h.2.1 a j), (fun a j => if a = h.1 then (if j < 10 then some (h.1 + 1 + j) else none) else if h.1 < a ∧ a < h.1 + 11 then none else h.2.2 a j))
def mx_sw (l : List (Int32 × Nat)) (x : Int32) (d : Nat) : Nat := match l with
  | [] => d
  | q :: r => if x = q.1 then q.2 else mx_sw r x d
def mx_SCR : Nat := 1000000
def mx_STR : Nat := 1000001
def mx_str : List Int32 := [119, 48, 44, 51, 59, 119, 48, 44, 49, 59, 119, 49, 44, 53, 59, 119, 50, 44, 50, 59, 119, 50, 44, 52, 59, 119, 51, 44, 49, 59, 119, 48, 44, 50, 59, 103, 48, 44, 49, 59, 103, 48, 44, 50, 59, 103, 49, 44, 51, 59, 103, 49, 44, 54, 59, 103, 50, 44, 51, 59, 103, 50, 44, 52, 59, 103, 53, 44, 51, 59, 103, 54, 44, 52, 59, 103, 54, 44, 48, 59, 103, 51, 44, 50, 59, 107, 48, 44, 51, 59, 107, 48, 44, 52, 59, 107, 49, 44, 51, 59, 107, 49, 44, 49, 59, 108, 50, 59, 99, 48, 59]
section Step
variable (M : mx_Mt) (sc : mx_Sc) (i : mx_In) (r : List mx_In) (loc : mx_Lc) (st : List Value) (h : mx_Hp) (k z : Nat)
def mx_go : Option mx_Ac := some (.inl (r, loc, st, h, k, z))
def mx_jp (t : Nat) : Option mx_Ac := some (.inl (M.1 t, loc, st, h, k, z))
def mx_sLoad : Option mx_Ac := match mx_ld loc i.2.2.2.1 with
  | some v => mx_go r loc (v :: st) h k z
  | none => none
def mx_sIload : Option mx_Ac := match mx_ld loc i.2.2.2.1 with
  | some (.int x) => mx_go r loc (.int x :: st) h k z
  | _ => none
def mx_sLload : Option mx_Ac := match mx_ld loc i.2.2.2.1 with
  | some (.long x) => mx_go r loc (.long x :: st) h k z
  | _ => none
def mx_sAload : Option mx_Ac := match mx_ld loc i.2.2.2.1 with
  | some (.ref x) => mx_go r loc (.ref x :: st) h k z
  | some .null => mx_go r loc (.null :: st) h k z
  | _ => none
def mx_sIstore : Option mx_Ac := match st with
  | .int x :: s => match mx_sv loc i.2.2.2.1 (.int x) with
    | some loc' => mx_go r loc' s h k z
    | none => none
  | _ => none
def mx_sAstore : Option mx_Ac := match st with
  | .ref x :: s => match mx_sv loc i.2.2.2.1 (.ref x) with
    | some loc' => mx_go r loc' s h k z
    | none => none
  | .null :: s => match mx_sv loc i.2.2.2.1 .null with
    | some loc' => mx_go r loc' s h k z
    | none => none
  | _ => none
def mx_sLstore : Option mx_Ac := match st with
  | .long x :: s => match mx_sv2 loc i.2.2.2.1 (.long x) with
    | some loc' => mx_go r loc' s h k z
    | none => none
  | _ => none
def mx_sIinc : Option mx_Ac := match mx_ld loc i.2.2.2.1 with
  | some (.int x) => match mx_sv loc i.2.2.2.1 (.int (x + i.2.2.2.2.2.1)) with
    | some loc' => mx_go r loc' st h k z
    | none => none
  | _ => none
def mx_sB (f : Int32 → Int32 → Int32) : Option mx_Ac := match st with
  | .int y :: .int x :: s => mx_go r loc (.int (f x y) :: s) h k z
  | _ => none
def mx_sBd (f : Int32 → Int32 → Int32) : Option mx_Ac := match st with
  | .int y :: .int x :: s => if y = 0 then none else mx_go r loc (.int (f x y) :: s) h k z
  | _ => none
def mx_sL (f : Int64 → Int64 → Int64) : Option mx_Ac := match st with
  | .long y :: .long x :: s => mx_go r loc (.long (f x y) :: s) h k z
  | _ => none
def mx_sLd (f : Int64 → Int64 → Int64) : Option mx_Ac := match st with
  | .long y :: .long x :: s => if y = 0 then none else mx_go r loc (.long (f x y) :: s) h k z
  | _ => none
def mx_cond (q : ClassFile.Cond) (x y : Int32) : Bool := match q with
  | .eq => decide (x = y)
  | .ne => decide (¬ x = y)
  | .lt => decide (x < y)
  | .ge => decide (y ≤ x)
  | .gt => decide (y < x)
  | .le => decide (x ≤ y)
def mx_sIcmp (q : ClassFile.Cond) : Option mx_Ac := match st with
  | .int y :: .int x :: s => if mx_cond q x y = true then mx_jp M loc s h k z i.2.2.2.1 else mx_go r loc s h k z
  | _ => none
def mx_sIf (q : ClassFile.Cond) : Option mx_Ac := match st with
  | .int x :: s => if mx_cond q x 0 = true then mx_jp M loc s h k z i.2.2.2.1 else mx_go r loc s h k z
  | _ => none
def mx_sSw : Option mx_Ac := match st with
  | .int x :: s => mx_jp M loc s h k z (mx_sw i.2.2.2.2.2.2 x i.2.2.2.1)
  | _ => none
def mx_sIfnull : Option mx_Ac := match st with
  | .null :: s => mx_jp M loc s h k z i.2.2.2.1
  | .ref _ :: s => mx_go r loc s h k z
  | _ => none
def mx_sIfnn : Option mx_Ac := match st with
  | .ref _ :: s => mx_jp M loc s h k z i.2.2.2.1
  | .null :: s => mx_go r loc s h k z
  | _ => none
def mx_c1 (v : Value) : Bool := match v with
  | .int _ => true
  | .ref _ => true
  | .null => true
  | _ => false
def mx_sDup : Option mx_Ac := match st with
  | v :: s => if mx_c1 v = true then mx_go r loc (v :: v :: s) h k z else none
  | _ => none
def mx_sDup2 : Option mx_Ac := match st with
  | v :: w :: s => if mx_c1 v = true ∧ mx_c1 w = true then mx_go r loc (v :: w :: v :: w :: s) h k z else none
  | _ => none
def mx_sPop : Option mx_Ac := match st with
  | v :: s => if mx_c1 v = true then mx_go r loc s h k z else none
  | _ => none
def mx_sGet : Option mx_Ac := match st with
  | .ref o :: s => if mx_fk i.2.2.2.1 i.2.2.2.2.1 = 1 then match mx_gr h o i.2.2.2.1 i.2.2.2.2.1 with
      | some v => mx_go r loc (.ref v :: s) h k z
      | none => none
    else match mx_gi h o i.2.2.2.1 i.2.2.2.2.1 with
      | some v => mx_go r loc (.int v :: s) h k z
      | none => none
  | _ => none
def mx_sPut : Option mx_Ac := match st with
  | .int v :: .ref o :: s => match mx_pi h o i.2.2.2.1 i.2.2.2.2.1 v with
    | some h' => mx_go r loc s h' k z
    | none => none
  | .ref v :: .ref o :: s => match mx_pr h o i.2.2.2.1 i.2.2.2.2.1 v with
    | some h' => mx_go r loc s h' k z
    | none => none
  | _ => none
def mx_sIald : Option mx_Ac := match st with
  | .int j :: .ref o :: s => if o = mx_SCR then (if sc.1 = true ∧ 0 ≤ j ∧ j.toNatClampNeg < sc.2.1 then mx_go r loc (.int (sc.2.2 j.toNatClampNeg) :: s) h k z else none) else match mx_al h o j with
    | some v => mx_go r loc (.int v :: s) h k z
    | none => none
  | _ => none
def mx_sIast : Option mx_Ac := match st with
  | .int v :: .int j :: .ref o :: s => match mx_as h o j v with
    | some h' => mx_go r loc s h' k z
    | none => none
  | _ => none
def mx_sAald : Option mx_Ac := match st with
  | .int j :: .ref o :: s => match mx_rl h o j with
    | some v => mx_go r loc (.ref v :: s) h k z
    | none => none
  | _ => none
def mx_sAast : Option mx_Ac := match st with
  | .ref v :: .int j :: .ref o :: s => match mx_rs h o j v with
    | some h' => mx_go r loc s h' k z
    | none => none
  | _ => none
def mx_sAlen : Option mx_Ac := match st with
  | .ref o :: s => if o = mx_SCR then (if sc.1 = true then mx_go r loc (.int (Int32.ofNat sc.2.1) :: s) h k z else none) else match mx_ln h o with
    | some v => mx_go r loc (.int v :: s) h k z
    | none => none
  | _ => none
def mx_sNew : Option mx_Ac := if (mx_lay h.1).1 = i.2.2.2.1 + 3 ∧ i.2.2.2.1 < 13 ∧ k + 1 ≤ M.2.2.2.2.2.2.1.cells ∧ z + mx_nf i.2.2.2.1 ≤ M.2.2.2.2.2.2.1.slots then mx_go r loc (.ref h.1 :: st) (mx_new h) (k + 1) (z + mx_nf i.2.2.2.1) else none
def mx_sNewa : Option mx_Ac := match st with
  | .int n :: s => if mx_lay h.1 = (0, n.toNatClampNeg) ∧ 0 ≤ n ∧ n.toNatClampNeg ≤ 2048 ∧ k + 1 ≤ M.2.2.2.2.2.2.1.cells ∧ z + n.toNatClampNeg ≤ M.2.2.2.2.2.2.1.slots then mx_go r loc (.ref h.1 :: s) (mx_new h) (k + 1) (z + n.toNatClampNeg) else none
  | _ => none
def mx_sNewq : Option mx_Ac := match st with
  | .int n :: s => if mx_lay h.1 = (1, n.toNatClampNeg) ∧ 0 ≤ n ∧ n.toNatClampNeg ≤ 2048 ∧ k + 1 ≤ M.2.2.2.2.2.2.1.cells ∧ z + n.toNatClampNeg ≤ M.2.2.2.2.2.2.1.slots then mx_go r loc (.ref h.1 :: s) (mx_new h) (k + 1) (z + n.toNatClampNeg) else none
  | _ => none
def mx_sMna : Option mx_Ac := match st with
  | .int b :: .int n :: s => if n = 10 ∧ b = 10 ∧ mx_lay h.1 = (2, 10) ∧ ((List.range 10).all (fun j => decide (mx_lay (h.1 + 1 + j) = (0, 10)))) = true ∧ k + 11 ≤ M.2.2.2.2.2.2.1.cells ∧ z + 110 ≤ M.2.2.2.2.2.2.1.slots then mx_go r loc (.ref h.1 :: s) (mx_mna h) (k + 11) (z + 110) else none
  | _ => none
def mx_sI2l : Option mx_Ac := match st with
  | .int x :: s => mx_go r loc (.long x.toInt64 :: s) h k z
  | _ => none
def mx_sL2i : Option mx_Ac := match st with
  | .long x :: s => mx_go r loc (.int x.toInt32 :: s) h k z
  | _ => none
def mx_cat (l : List Value) : Nat := (l.map fun v => v.category).sum
def mx_call (v : Bool) : Option mx_Ac :=
  if i.2.2.2.2.1 ≤ st.length ∧ (st.take i.2.2.2.2.1).all mx_c1 = true ∧ i.2.2.2.2.1 ≤ (mx_tab i.2.2.2.1).2.2.2.1 ∧ mx_cat (st.drop i.2.2.2.2.1) ≤ 8 ∧ k + (mx_tab i.2.2.2.1).2.2.2.2.2.2.1.cells ≤ M.2.2.2.2.2.2.1.cells ∧ z + (mx_tab i.2.2.2.1).2.2.2.2.2.2.1.slots ≤ M.2.2.2.2.2.2.1.slots then
    match v, (st.take i.2.2.2.2.1).reverse with
    | true, .ref o :: as => if o < h.1 ∧ 3 ≤ (mx_lay o).1 ∧ mx_Cn ((mx_lay o).1 - 3) = (mx_tab i.2.2.2.1).2.1.cls then some (.inr (.inl (i.2.2.2.1, .ref o :: as, (r, loc, st.drop i.2.2.2.2.1, h, k + (mx_tab i.2.2.2.1).2.2.2.2.2.2.1.cells, z + (mx_tab i.2.2.2.1).2.2.2.2.2.2.1.slots)))) else none
    | true, _ => none
    | false, as => some (.inr (.inl (i.2.2.2.1, as, (r, loc, st.drop i.2.2.2.2.1, h, k + (mx_tab i.2.2.2.1).2.2.2.2.2.2.1.cells, z + (mx_tab i.2.2.2.1).2.2.2.2.2.2.1.slots))))
  else none
def mx_sVirt : Option mx_Ac := if i.2.2.2.1 = 1002 then (match st with
    | .ref o :: s => if o = mx_STR ∧ mx_cat s ≤ 8 then mx_go r loc (.int (Int32.ofNat 116) :: s) h k z else none
    | _ => none)
  else if i.2.2.2.1 = 1003 then (match st with
    | .int j :: .ref o :: s => if o = mx_STR ∧ mx_cat s ≤ 8 ∧ 0 ≤ j ∧ j.toNatClampNeg < 116 then mx_go r loc (.int (mx_str.getD j.toNatClampNeg 0) :: s) h k z else none
    | _ => none)
  else mx_call M i r loc st h k z true
def mx_sSpec : Option mx_Ac := if i.2.2.2.1 = 1000 then (match st with
    | .ref _ :: s => if mx_cat s ≤ 8 then mx_go r loc s h k z else none
    | _ => none)
  else mx_call M i r loc st h k z true
def mx_sStat : Option mx_Ac := if i.2.2.2.1 = 1001 then (match st with
    | .int y :: .int x :: s => if mx_cat s ≤ 8 ∧ k ≤ M.2.2.2.2.2.2.1.cells ∧ z ≤ M.2.2.2.2.2.2.1.slots then mx_go r loc (.int (if x < y then y else x) :: s) h k z else none
    | _ => none)
  else mx_call M i r loc st h k z false
def mx_ret (v : Option Value) : Option mx_Ac := if k ≤ M.2.2.2.2.2.2.1.cells ∧ z ≤ M.2.2.2.2.2.2.1.slots then some (.inr (.inr (v, h))) else none
def mx_sIret : Option mx_Ac := match st with
  | [.int v] => if M.2.2.2.2.1 = some .int ∨ (M.2.2.2.2.1 = some .boolean ∧ (v = 0 ∨ v = 1)) then mx_ret M h k z (some (.int v)) else none
  | _ => none
def mx_sAret : Option mx_Ac := match st with
  | [.ref v] => mx_ret M h k z (some (.ref v))
  | [.null] => mx_ret M h k z (some .null)
  | _ => none
def mx_sVret : Option mx_Ac := match st with
  | [] => mx_ret M h k z none
  | _ => none
def mx_step1 : Option mx_Ac := match i.2.1 with
  | .iconst _ => mx_go r loc (.int i.2.2.2.2.2.1 :: st) h k z
  | .bipush _ => mx_go r loc (.int i.2.2.2.2.2.1 :: st) h k z
  | .sipush _ => mx_go r loc (.int i.2.2.2.2.2.1 :: st) h k z
  | .lconst _ => mx_go r loc (.long i.2.2.2.2.2.1.toInt64 :: st) h k z
  | .ldc2_w _ => mx_go r loc (.long i.2.2.2.2.2.1.toInt64 :: st) h k z
  | .aconst_null => mx_go r loc (.null :: st) h k z
  | .ldc _ => mx_go r loc (.ref mx_STR :: st) h k z
  | .iload_n _ => mx_sIload i r loc st h k z
  | .iload _ => mx_sIload i r loc st h k z
  | .lload_n _ => mx_sLload i r loc st h k z
  | .lload _ => mx_sLload i r loc st h k z
  | .aload_n _ => mx_sAload i r loc st h k z
  | .aload _ => mx_sAload i r loc st h k z
  | .istore_n _ => mx_sIstore i r loc st h k z
  | .istore _ => mx_sIstore i r loc st h k z
  | .astore_n _ => mx_sAstore i r loc st h k z
  | .astore _ => mx_sAstore i r loc st h k z
  | .lstore_n _ => mx_sLstore i r loc st h k z
  | .lstore _ => mx_sLstore i r loc st h k z
  | .iinc _ _ => mx_sIinc i r loc st h k z
  | .iadd => mx_sB r loc st h k z (fun x y => x + y)
  | .isub => mx_sB r loc st h k z (fun x y => x - y)
  | .imul => mx_sB r loc st h k z (fun x y => x * y)
  | .iand => mx_sB r loc st h k z (fun x y => x &&& y)
  | .ior => mx_sB r loc st h k z (fun x y => x ||| y)
  | .ixor => mx_sB r loc st h k z (fun x y => x ^^^ y)
  | .ishl => mx_sB r loc st h k z (fun x y => x <<< (y &&& 31))
  | .ishr => mx_sB r loc st h k z (fun x y => x >>> (y &&& 31))
  | .idiv => mx_sBd r loc st h k z (fun x y => x / y)
  | .irem => mx_sBd r loc st h k z (fun x y => x - x / y * y)
  | .ladd => mx_sL r loc st h k z (fun x y => x + y)
  | .lmul => mx_sL r loc st h k z (fun x y => x * y)
  | .ldiv => mx_sLd r loc st h k z (fun x y => x / y)
  | .lrem => mx_sLd r loc st h k z (fun x y => x - x / y * y)
  | .i2l => mx_sI2l r loc st h k z
  | .l2i => mx_sL2i r loc st h k z
  | .if_icmp q _ => mx_sIcmp M i r loc st h k z q
  | .ifCond q _ => mx_sIf M i r loc st h k z q
  | .goto _ => mx_jp M loc st h k z i.2.2.2.1
  | .nop => mx_jp M loc st h k z i.2.2.2.1
  | .tableswitch _ _ _ _ => mx_sSw M i loc st h k z
  | .lookupswitch _ _ => mx_sSw M i loc st h k z
  | .ifnull _ => mx_sIfnull M i r loc st h k z
  | .ifnonnull _ => mx_sIfnn M i r loc st h k z
  | .dup => mx_sDup r loc st h k z
  | .dup2 => mx_sDup2 r loc st h k z
  | .pop => mx_sPop r loc st h k z
  | .getfield _ => mx_sGet i r loc st h k z
  | .putfield _ => mx_sPut i r loc st h k z
  | .iaload => mx_sIald sc r loc st h k z
  | .iastore => mx_sIast r loc st h k z
  | .aaload => mx_sAald r loc st h k z
  | .aastore => mx_sAast r loc st h k z
  | .arraylength => mx_sAlen sc r loc st h k z
  | .new _ => mx_sNew M i r loc st h k z
  | .newarray _ => mx_sNewa M r loc st h k z
  | .anewarray _ => mx_sNewq M r loc st h k z
  | .multianewarray _ _ => mx_sMna M r loc st h k z
  | .invokevirtual _ => mx_sVirt M i r loc st h k z
  | .invokespecial _ => mx_sSpec M i r loc st h k z
  | .invokestatic _ => mx_sStat M i r loc st h k z
  | .ireturn => mx_sIret M st h k z
  | .areturn => mx_sAret M st h k z
  | .return_ => mx_sVret M st h k z
  | _ => none
end Step
def mx_step (M : mx_Mt) (sc : mx_Sc) (c : mx_Cf) : Option mx_Ac := match c.1 with
  | [] => none
  | i :: r => mx_step1 M sc i r c.2.1 c.2.2.1 c.2.2.2.1 c.2.2.2.2.1 c.2.2.2.2.2
def mx_noS : mx_Sc := (false, 0, fun _ => 0)
/-- a method's start -/
def mx_ent (M : mx_Mt) (as : List Value) (h : mx_Hp) : mx_Cf := (M.1 0, as.map some ++ List.replicate (M.2.2.2.1 - as.length) none, [], h, 0, 0)
/-- behind a call -/
def mx_beh (c : mx_Cf) (q : mx_Rs) : mx_Cf := (c.1, c.2.1, q.1.toList ++ c.2.2.1, q.2, c.2.2.2.2.1, c.2.2.2.2.2)
def mx_run : Nat → mx_Mt → mx_Sc → mx_Cf → Option mx_Rs
  | 0, _, _, _ => none
  | n + 1, M, sc, c => match mx_step M sc c with
    | some (.inl c') => mx_run n M sc c'
    | some (.inr (.inl (y, as, c'))) => match mx_run n (mx_tab y) mx_noS (mx_ent (mx_tab y) as c'.2.2.2.1) with
      | some q => mx_run n M sc (mx_beh c' q)
      | none => none
    | some (.inr (.inr q)) => some q
    | none => none
end
section
/-! the light heap as cells of the machine's -/
def mx_rv (ρ : Nat → Nat) (v : Value) : Value := match v with
  | .ref i => .ref (ρ i)
  | v => v
def mx_fv (ρ : Nat → Nat) (h : mx_Hp) (i c k : Nat) : Value := if mx_fk c k = 1 then va_rf ((h.2.2 i k).map ρ) else .int (h.2.1 i k)
abbrev mx_Cs : Type := ClassId × ClassId × ClassId
def mx_E (ρ : Nat → Nat) (cs : mx_Cs) (h : mx_Hp) (i : Nat) : va_E := match mx_lay i with
  | (0, n) => .inl (cs.1, n, .inl (h.2.1 i))
  | (1, n) => .inl (cs.2.1, n, .inr (.inr (.inr (.inr (fun j => (h.2.2 i j).map ρ)))))
  | (2, n) => .inl (cs.2.2, n, .inr (.inr (.inr (.inr (fun j => (h.2.2 i j).map ρ)))))
  | (c + 3, _) => .inr (c, (List.range (mx_nf c)).map (fun k => mx_fv ρ h i c k))
def mx_W (B : Nat) (ρ : Nat → Nat) (cs : mx_Cs) (h : mx_Hp) : va_W := (List.range h.1).map (fun i => (B + i, mx_E ρ cs h i))
def mx_A (B : Nat) : Nat → Prop := fun q => B ≤ q
theorem mx_W_get {B : Nat} {ρ : Nat → Nat} {cs : mx_Cs} {h : mx_Hp} {i : Nat} (hi : i < h.1) : (mx_W B ρ cs h)[i]? = some (B + i, mx_E ρ cs h i) := by
  simp [mx_W, hi]
theorem mx_W_inv {B : Nat} {ρ : Nat → Nat} {cs : mx_Cs} {h : mx_Hp} {i : Nat} {q : Nat × va_E} (hq : (mx_W B ρ cs h)[i]? = some q) : i < h.1 ∧ q = (B + i, mx_E ρ cs h i) := by
  have hl : i < (mx_W B ρ cs h).length := (List.getElem?_eq_some_iff.mp hq).1
  have hi : i < h.1 := by simpa [mx_W] using hl
  rw [mx_W_get hi] at hq
  exact ⟨hi, (Option.some.inj hq).symm⟩
theorem mx_W_D {B : Nat} {ρ : Nat → Nat} {cs : mx_Cs} {h : mx_Hp} : va_D (mx_A B) (mx_W B ρ cs h) := by
  refine ⟨fun i j p q hp hq e => ?_, fun k q hq => ?_⟩
  · obtain ⟨_, rfl⟩ := mx_W_inv hp
    obtain ⟨_, rfl⟩ := mx_W_inv hq
    simpa using e
  · obtain ⟨_, rfl⟩ := mx_W_inv hq
    exact Nat.le_add_right _ _
theorem mx_W_set {B : Nat} {ρ : Nat → Nat} {cs : mx_Cs} {h h' : mx_Hp} {i : Nat} {e : va_E} (hn : h'.1 = h.1) (hi : i < h.1) (he : mx_E ρ cs h' i = e) (ho : ∀ j, j ≠ i → mx_E ρ cs h' j = mx_E ρ cs h j) : (mx_W B ρ cs h).set i (B + i, e) = mx_W B ρ cs h' := by
  refine List.ext_getElem? fun j => ?_
  by_cases hj : j = i
  · subst hj
    rw [List.getElem?_set_self (by simpa [mx_W] using hi), mx_W_get (by omega), he]
  · rw [List.getElem?_set_ne (fun q => hj q.symm)]
    by_cases hl : j < h.1
    · rw [mx_W_get hl, mx_W_get (by omega), ho j hj]
    · rw [List.getElem?_eq_none (by simp [mx_W]; omega), List.getElem?_eq_none (by simp [mx_W]; omega)]
/-- the machine's heap holds the light one, from B on -/
def mx_Rep (D : va_G) (B : Nat) (ρ : Nat → Nat) (cs : mx_Cs) (h : mx_Hp) (H : Heap) : Prop := h.1 ≤ 130 ∧ H.size = B + h.1 ∧ va_P D mx_cl (mx_W B ρ cs h) H
theorem mx_lay_lt {o : Nat} (h : (mx_lay o).1 ≠ 99) : o < 130 := by
  refine Nat.lt_of_not_le fun q => h ?_
  unfold mx_lay
  rw [List.getD_eq_getElem?_getD, List.getElem?_eq_none (by
    have : mx_layL.length = 130 := by decide +kernel
    omega)]
  rfl
theorem mx_fk_lt {c k : Nat} (h : mx_fk c k ≠ 9) : c < 13 ∧ k < mx_nf c := by
  have h1 : c < 13 := by
    refine Nat.lt_of_not_le fun q => h ?_
    have e : mx_fkL.getD c [] = [] := by
      rw [List.getD_eq_getElem?_getD, List.getElem?_eq_none (by
        have : mx_fkL.length = 13 := by decide +kernel
        omega)]
      rfl
    unfold mx_fk
    rw [e]
    rfl
  refine ⟨h1, Nat.lt_of_not_le fun q => h ?_⟩
  have e1 : ∀ c, c < 13 → (mx_fkL.getD c []).length = mx_nf c := by decide +kernel
  unfold mx_fk
  rw [List.getD_eq_getElem?_getD, List.getElem?_eq_none (by rw [e1 c h1]; exact q)]
  rfl
theorem mx_cl_get {c : Nat} (h : c < 13) : mx_cl[c]? = some (mx_Cn c, mx_Tn c, mx_nf c) := by
  match c, h with
  | 0, _ => rfl
  | 1, _ => rfl
  | 2, _ => rfl
  | 3, _ => rfl
  | 4, _ => rfl
  | 5, _ => rfl
  | 6, _ => rfl
  | 7, _ => rfl
  | 8, _ => rfl
  | 9, _ => rfl
  | 10, _ => rfl
  | 11, _ => rfl
  | 12, _ => rfl
theorem mx_E_obj {ρ : Nat → Nat} {cs : mx_Cs} {h : mx_Hp} {i c : Nat} (hl : (mx_lay i).1 = c + 3) : mx_E ρ cs h i = .inr (c, (List.range (mx_nf c)).map (fun k => mx_fv ρ h i c k)) := by
  unfold mx_E
  generalize mx_lay i = q at hl
  obtain ⟨a, b⟩ := q
  dsimp only at hl
  subst hl
  rfl
theorem mx_E_arr {ρ : Nat → Nat} {cs : mx_Cs} {h : mx_Hp} {i : Nat} (hl : (mx_lay i).1 = 0) : mx_E ρ cs h i = .inl (cs.1, (mx_lay i).2, .inl (h.2.1 i)) := by
  unfold mx_E
  generalize mx_lay i = q at hl
  obtain ⟨a, b⟩ := q
  dsimp only at hl
  subst hl
  rfl
theorem mx_E_arS {ρ : Nat → Nat} {cs : mx_Cs} {h : mx_Hp} {i : Nat} (hl : (mx_lay i).1 = 1) : mx_E ρ cs h i = .inl (cs.2.1, (mx_lay i).2, .inr (.inr (.inr (.inr (fun j => (h.2.2 i j).map ρ))))) := by
  unfold mx_E
  generalize mx_lay i = q at hl
  obtain ⟨a, b⟩ := q
  dsimp only at hl
  subst hl
  rfl
theorem mx_E_arJ {ρ : Nat → Nat} {cs : mx_Cs} {h : mx_Hp} {i : Nat} (hl : (mx_lay i).1 = 2) : mx_E ρ cs h i = .inl (cs.2.2, (mx_lay i).2, .inr (.inr (.inr (.inr (fun j => (h.2.2 i j).map ρ))))) := by
  unfold mx_E
  generalize mx_lay i = q at hl
  obtain ⟨a, b⟩ := q
  dsimp only at hl
  subst hl
  rfl
/-- a cell depends on its own row alone -/
theorem mx_E_cong {ρ : Nat → Nat} {cs : mx_Cs} {h h' : mx_Hp} {i : Nat} (h1 : h'.2.1 i = h.2.1 i) (h2 : h'.2.2 i = h.2.2 i) : mx_E ρ cs h' i = mx_E ρ cs h i := by
  unfold mx_E
  split <;> simp [mx_fv, h1, h2]
theorem mx_up_row {α : Type} {m : Nat → Nat → α} {o k : Nat} {v : α} {j : Nat} (h : j ≠ o) : mx_up m o k v j = m j := by
  funext a
  simp [mx_up, h]
theorem mx_up_same {α : Type} {m : Nat → Nat → α} {o k : Nat} {v : α} : mx_up m o k v o k = v := by simp [mx_up]
theorem mx_up_ne {α : Type} {m : Nat → Nat → α} {o k j : Nat} {v : α} (h : j ≠ k) : mx_up m o k v o j = m o j := by simp [mx_up, h]
theorem mx_up_upd {m : Nat → Nat → Int32} {o k : Nat} {v : Int32} : mx_up m o k v o = upd (m o) k v := by
  funext a
  simp [mx_up, upd]
theorem mx_range_set {α : Type} {f g : Nat → α} {n k : Nat} (hk : k < n) (ho : ∀ j, j ≠ k → g j = f j) : ((List.range n).map f).set k (g k) = (List.range n).map g := by
  refine List.ext_getElem? fun j => ?_
  by_cases hj : j = k
  · subst hj
    rw [List.getElem?_set_self (by simpa using hk)]
    simp [hk]
  · rw [List.getElem?_set_ne (fun q => hj q.symm)]
    by_cases hl : j < n
    · simp [hl, ho j hj]
    · rw [List.getElem?_eq_none (by simp; omega), List.getElem?_eq_none (by simp; omega)]
/-- the locals -/
def mx_HL (ρ : Nat → Nat) (ls : Array Slot) (nL : Nat) (loc : mx_Lc) : Prop := ls.size = nL ∧ loc.length = nL ∧ lv_wf ls ∧ ∀ (i : Nat) (v : Value), mx_ld loc i = some v → ls[i]? = some (.val (mx_rv ρ v))
def mx_lvs (ρ : Nat → Nat) (loc : mx_Lc) : List (Nat × Value) := (List.range loc.length).filterMap (fun i => (mx_ld loc i).map (fun v => (i, mx_rv ρ v)))
theorem mx_lvs_mem {ρ : Nat → Nat} {loc : mx_Lc} {q : Nat × Value} : q ∈ mx_lvs ρ loc ↔ ∃ v, mx_ld loc q.1 = some v ∧ q.2 = mx_rv ρ v := by
  unfold mx_lvs
  rw [List.mem_filterMap]
  constructor
  · rintro ⟨i, -, h⟩
    cases hv : mx_ld loc i with
    | none => rw [hv] at h; cases h
    | some v =>
      rw [hv] at h
      have h' := Option.some.inj h
      subst h'
      exact ⟨v, hv, rfl⟩
  · rintro ⟨v, hv, e⟩
    refine ⟨q.1, List.mem_range.mpr ?_, ?_⟩
    · unfold mx_ld at hv
      split at hv
      · rename_i w hw
        exact (List.getElem?_eq_some_iff.mp hw).1
      · cases hv
    · rw [hv]
      simp [← e]
theorem mx_HL.lv {ρ : Nat → Nat} {ls : Array Slot} {nL : Nat} {loc : mx_Lc} (h : mx_HL ρ ls nL loc) : lv_has ls nL (mx_lvs ρ loc) := by
  refine ⟨h.1, h.2.2.1, fun q hq => ?_⟩
  obtain ⟨v, hv, e⟩ := mx_lvs_mem.mp hq
  rw [e]
  exact h.2.2.2 _ _ hv
theorem mx_rv_cat {ρ : Nat → Nat} {v : Value} : (mx_rv ρ v).category = v.category := by cases v <;> rfl
theorem mx_ld_set {loc : mx_Lc} {i j : Nat} {x : Option Value} (hi : i < loc.length) : mx_ld (loc.set i x) j = if j = i then x else mx_ld loc j := by
  unfold mx_ld
  by_cases hj : j = i
  · subst hj
    rw [List.getElem?_set_self hi, if_pos rfl]
    cases x <;> rfl
  · rw [List.getElem?_set_ne (fun q => hj q.symm), if_neg hj]
theorem mx_cl1_len {loc : mx_Lc} {i : Nat} : (mx_cl1 loc i).length = loc.length := by
  unfold mx_cl1
  split
  · rw [List.length_set]
  · rfl
theorem mx_ld_some {loc : mx_Lc} {i : Nat} {v : Value} : mx_ld loc i = some v ↔ loc[i]? = some (some v) := by
  unfold mx_ld
  constructor
  · intro h
    split at h
    · rename_i w hw
      cases h
      exact hw
    · cases h
  · intro h
    rw [h]
theorem mx_isL_cat {loc : mx_Lc} {i : Nat} {v : Value} (h : mx_ld loc i = some v) (hl : mx_isL loc[i]? = false) : v.category = 1 := by
  rw [mx_ld_some.mp h] at hl
  cases v <;> first | rfl | cases hl
/-- what is left of the locals where a store spoils a long -/
theorem mx_cl1_ld {loc : mx_Lc} {i j : Nat} {w : Value} (hi : i < loc.length) (h : mx_ld (mx_cl1 loc i) j = some w) : mx_ld loc j = some w ∧ (j + 1 = i → w.category = 1) := by
  unfold mx_cl1 at h
  split at h
  · rename_i hc
    rw [mx_ld_set (by omega)] at h
    split at h
    · cases h
    · rename_i hne
      exact ⟨h, fun q => by omega⟩
  · rename_i hc
    refine ⟨h, fun q => ?_⟩
    have e : i - 1 = j := by omega
    rw [e] at hc
    exact mx_isL_cat h (by simpa using hc)
theorem mx_HL.st {ρ : Nat → Nat} {ls ls' : Array Slot} {nL i : Nat} {loc loc' : mx_Lc} {v : Value} (h : mx_HL ρ ls nL loc) (hs : mx_sv loc i v = some loc') (h' : lv_has ls' nL ((i, mx_rv ρ v) :: (mx_lvs ρ loc).filter (fun q => !(q.1 == i) && !(q.1 + 1 == i && q.2.category == 2)))) : mx_HL ρ ls' nL loc' := by
  unfold mx_sv at hs
  split at hs
  · rename_i hc
    cases hs
    refine ⟨h'.1, by rw [List.length_set, mx_cl1_len]; exact h.2.1, h'.2.1, fun j w hj => ?_⟩
    rw [mx_ld_set (by rw [mx_cl1_len]; exact hc)] at hj
    by_cases hji : j = i
    · rw [if_pos hji] at hj
      cases hj
      subst hji
      exact h'.2.2 _ List.mem_cons_self
    · rw [if_neg hji] at hj
      obtain ⟨hj, hcat⟩ := mx_cl1_ld hc hj
      refine h'.2.2 (j, mx_rv ρ w) (List.mem_cons_of_mem _ (List.mem_filter.mpr ⟨mx_lvs_mem.mpr ⟨w, hj, rfl⟩, ?_⟩))
      have h1 : (j == i) = false := by simpa using hji
      simp only [h1, Bool.not_false, Bool.true_and, Bool.not_eq_true', Bool.and_eq_false_iff]
      by_cases hj1 : j + 1 = i
      · right
        rw [mx_rv_cat, hcat hj1]
        rfl
      · left
        simpa using hj1
  · cases hs
theorem mx_HL.st2 {ρ : Nat → Nat} {ls ls' : Array Slot} {nL i : Nat} {loc loc' : mx_Lc} {v : Value} (h : mx_HL ρ ls nL loc) (hs : mx_sv2 loc i v = some loc') (h' : lv_has ls' nL ((i, mx_rv ρ v) :: (mx_lvs ρ loc).filter (fun q => !(q.1 == i) && (!(q.1 == i + 1) && !(q.1 + 1 == i && q.2.category == 2))))) : mx_HL ρ ls' nL loc' := by
  unfold mx_sv2 at hs
  split at hs
  · rename_i hc
    cases hs
    refine ⟨h'.1, by rw [List.length_set, List.length_set, mx_cl1_len]; exact h.2.1, h'.2.1, fun j w hj => ?_⟩
    rw [mx_ld_set (by rw [List.length_set, mx_cl1_len]; exact hc), mx_ld_set (by rw [mx_cl1_len]; omega)] at hj
    by_cases hji : j = i
    · subst hji
      rw [if_neg (by omega), if_pos rfl] at hj
      cases hj
      exact h'.2.2 _ List.mem_cons_self
    · by_cases hj2 : j = i + 1
      · rw [if_pos hj2] at hj
        cases hj
      · rw [if_neg hj2, if_neg hji] at hj
        obtain ⟨hj, hcat⟩ := mx_cl1_ld (by omega) hj
        refine h'.2.2 (j, mx_rv ρ w) (List.mem_cons_of_mem _ (List.mem_filter.mpr ⟨mx_lvs_mem.mpr ⟨w, hj, rfl⟩, ?_⟩))
        have h1 : (j == i) = false := by simpa using hji
        have h2 : (j == i + 1) = false := by simpa using hj2
        simp only [h1, h2, Bool.not_false, Bool.true_and, Bool.not_eq_true', Bool.and_eq_false_iff]
        by_cases hj1 : j + 1 = i
        · right
          rw [mx_rv_cat, hcat hj1]
          rfl
        · left
          simpa using hj1
  · cases hs
theorem mx_HL.dup {ρ : Nat → Nat} {ls : Array Slot} {nL i : Nat} {loc : mx_Lc} {v : Value} (h : mx_HL ρ ls nL loc) (hv : mx_ld loc i = some v) : lv_has ls nL ((i, mx_rv ρ v) :: mx_lvs ρ loc) := by
  refine ⟨h.1, h.2.2.1, fun q hq => ?_⟩
  rcases List.mem_cons.mp hq with rfl | hq
  · exact h.2.2.2 _ _ hv
  · exact h.lv.2.2 q hq
theorem mx_filter_dup {i : Nat} {x : Value} {l : List (Nat × Value)} : ((i, x) :: l).filter (fun q => !(q.1 == i) && !(q.1 + 1 == i && q.2.category == 2)) = l.filter (fun q => !(q.1 == i) && !(q.1 + 1 == i && q.2.category == 2)) := by
  rw [List.filter_cons_of_neg]
  simp
theorem mx_sv_lt {loc loc' : mx_Lc} {i : Nat} {v : Value} (h : mx_sv loc i v = some loc') : i < loc.length := by
  unfold mx_sv at h
  split at h
  · rename_i hc; exact hc
  · cases h
theorem mx_sv2_lt {loc loc' : mx_Lc} {i : Nat} {v : Value} (h : mx_sv2 loc i v = some loc') : i + 1 < loc.length := by
  unfold mx_sv2 at h
  split at h
  · rename_i hc; exact hc
  · cases h
end
section
/-! what is looked up once of each method: its instructions as its bytes have them, the tables' words that they need -/
def mx_tg (M : mx_Mt) : List Nat := M.2.2.2.2.2.2.2.1
def mx_hn (M : mx_Mt) (k : Nat) : Nat := M.2.2.2.2.2.2.2.2.getD k 0
def mx_own (M : mx_Mt) : String := M.2.2.2.2.2.1
def mx_rm (M : mx_Mt) : Room := M.2.2.2.2.2.2.1
def mx_cd (M : mx_Mt) : Cond := .code M.2.1 M.2.2.1 M.2.2.2.1 M.2.2.2.2.1
/-- the tables' words that ride along with every call -/
def mx_wk (w : Cond) : Bool := match w with
  | .arrayClass _ => true
  | .arrayOver (.object _) => true
  | .arrayOver (.array _) => true
  | .fieldLinkNest _ _ _ _ _ _ => true
  | .methodLinkNest _ _ _ _ => true
  | w => w.onTables && w.keeps
def mx_tb : List Cond := lw_tbl.filter mx_wk
def mx_at (w : Cond) (j : Nat) : Bool := decide (lw_tbl[j]? = some w) && mx_wk w
/-- the k-th place that an instruction names in the tables -/
def mx_h (i : mx_In) (k : Nat) : Nat := (i.2.2.2.2.2.2.getD k (0, 0)).2
def mx_okJ (M : mx_Mt) (i : mx_In) (off : Int) : Bool := decide ((i.1 : Int) + off = (i.2.2.2.1 : Int)) && decide (i.2.2.2.1 ∈ mx_tg M)
def mx_okF (M : mx_Mt) (i : mx_In) (idx : Nat) (put : Bool) : Bool :=
  decide (i.2.2.2.1 < 13) && decide (i.2.2.2.2.1 < mx_nf i.2.2.2.1) &&
  ((mx_at (.fieldLink (mx_own M) idx (mx_Tn i.2.2.2.1 i.2.2.2.2.1).1 (mx_Tn i.2.2.2.1 i.2.2.2.2.1).2.1 (mx_Tn i.2.2.2.1 i.2.2.2.2.1).2.2.1) (mx_h i 0) && (!put || !(mx_Tn i.2.2.2.1 i.2.2.2.2.1).2.2.2 || (decide ((mx_Tn i.2.2.2.1 i.2.2.2.2.1).1 = mx_own M) && decide (M.2.1.name = "<init>")))) ||
   (mx_at (.fieldLinkNest (mx_own M) idx (mx_Tn i.2.2.2.1 i.2.2.2.2.1).1 (mx_Tn i.2.2.2.1 i.2.2.2.2.1).2.1 (mx_Tn i.2.2.2.1 i.2.2.2.2.1).2.2.1 "TwoMayors") (mx_h i 0) && (!put || !(mx_Tn i.2.2.2.1 i.2.2.2.2.1).2.2.2)))
/-- a method's own words -/
def mx_okW (M : mx_Mt) : Bool :=
  mx_at (mx_cd M) (mx_hn M 1) && mx_at (.initialized M.2.1.cls) (mx_hn M 2) && decide (M.2.1.cls ≠ "java/lang/invoke/MethodHandle") && decide (M.2.1.cls ≠ "java/lang/invoke/VarHandle") &&
  (if mx_hn M 0 = 0 then mx_at (.instanceMethod M.2.1) (mx_hn M 3) && mx_at (.selects M.2.1.cls M.2.1 M.2.1) (mx_hn M 4)
   else if mx_hn M 0 = 1 then mx_at (.static M.2.1) (mx_hn M 3)
   else mx_at (.instanceMethod M.2.1) (mx_hn M 3) && decide (M.2.1.name = "<init>") && decide (M.2.2.2.2.1 = none))
def mx_okC (M : mx_Mt) (i : mx_In) (idx n kd : Nat) : Bool :=
  decide (i.2.2.2.1 < mx_law) && decide (mx_hn (mx_tab i.2.2.2.1) 0 = kd) &&
  decide ((parseMethodDescriptor (mx_tab i.2.2.2.1).2.1.desc).map (fun d => d.parameters.length) = some n) &&
  decide ((mx_rm (mx_tab i.2.2.2.1)).frames + 1 ≤ (mx_rm M).frames) && decide (8 + ((mx_tab i.2.2.2.1).2.2.2.1 + 11) + (mx_rm (mx_tab i.2.2.2.1)).locals ≤ (mx_rm M).locals) &&
  (mx_at (.methodLink (mx_own M) idx (mx_tab i.2.2.2.1).2.1) (mx_h i 0) || mx_at (.methodLinkNest (mx_own M) idx (mx_tab i.2.2.2.1).2.1 "TwoMayors") (mx_h i 0))
def mx_okK (ps : List (Int × Int)) (l : List (Int32 × Nat)) (pc : Nat) : Bool := match ps, l with
  | [], [] => true
  | a :: ps, b :: l => decide (a.1 = b.1.toInt) && decide ((pc : Int) + a.2 = (b.2 : Int)) && mx_okK ps l pc
  | _, _ => false
def mx_okO (M : mx_Mt) (i : mx_In) : Bool := match i.2.1 with
  | .iconst n => decide (i.2.2.1 = 1) && decide (Int32.ofInt n = i.2.2.2.2.2.1)
  | .bipush n => decide (i.2.2.1 = 2) && decide ((Int8.ofInt n).toInt32 = i.2.2.2.2.2.1)
  | .sipush n => decide (i.2.2.1 = 3) && decide ((Int16.ofInt n).toInt32 = i.2.2.2.2.2.1)
  | .lconst n => decide (i.2.2.1 = 1) && decide (Int64.ofNat (n : Nat) = i.2.2.2.2.2.1.toInt64)
  | .ldc2_w idx => decide (i.2.2.1 = 3) && mx_at (.constantLong (mx_own M) idx i.2.2.2.2.2.1.toInt64) (mx_h i 0)
  | .aconst_null => decide (i.2.2.1 = 1)
  | .ldc idx => decide (i.2.2.1 = 2) && decide (mx_own M = "TwoMayors") && decide (idx = 75)
  | .iload_n n => decide (i.2.2.1 = 1) && decide ((n : Nat) = i.2.2.2.1)
  | .iload n => decide (i.2.2.1 = 2) && decide (n = i.2.2.2.1)
  | .lload_n n => decide (i.2.2.1 = 1) && decide ((n : Nat) = i.2.2.2.1)
  | .lload n => decide (i.2.2.1 = 2) && decide (n = i.2.2.2.1)
  | .aload_n n => decide (i.2.2.1 = 1) && decide ((n : Nat) = i.2.2.2.1)
  | .aload n => decide (i.2.2.1 = 2) && decide (n = i.2.2.2.1)
  | .istore_n n => decide (i.2.2.1 = 1) && decide ((n : Nat) = i.2.2.2.1)
  | .istore n => decide (i.2.2.1 = 2) && decide (n = i.2.2.2.1)
  | .astore_n n => decide (i.2.2.1 = 1) && decide ((n : Nat) = i.2.2.2.1)
  | .astore n => decide (i.2.2.1 = 2) && decide (n = i.2.2.2.1)
  | .lstore_n n => decide (i.2.2.1 = 1) && decide ((n : Nat) = i.2.2.2.1)
  | .lstore n => decide (i.2.2.1 = 2) && decide (n = i.2.2.2.1)
  | .iinc n d => decide (i.2.2.1 = 3) && decide (n = i.2.2.2.1) && decide (Int32.ofInt d = i.2.2.2.2.2.1)
  | .iadd => decide (i.2.2.1 = 1)
  | .isub => decide (i.2.2.1 = 1)
  | .imul => decide (i.2.2.1 = 1)
  | .iand => decide (i.2.2.1 = 1)
  | .ior => decide (i.2.2.1 = 1)
  | .ixor => decide (i.2.2.1 = 1)
  | .ishl => decide (i.2.2.1 = 1)
  | .ishr => decide (i.2.2.1 = 1)
  | .idiv => decide (i.2.2.1 = 1)
  | .irem => decide (i.2.2.1 = 1)
  | .ladd => decide (i.2.2.1 = 1)
  | .lmul => decide (i.2.2.1 = 1)
  | .ldiv => decide (i.2.2.1 = 1)
  | .lrem => decide (i.2.2.1 = 1)
  | .i2l => decide (i.2.2.1 = 1)
  | .l2i => decide (i.2.2.1 = 1)
  | .if_icmp _ off => decide (i.2.2.1 = 3) && mx_okJ M i off
  | .ifCond _ off => decide (i.2.2.1 = 3) && mx_okJ M i off
  | .goto off => decide (i.2.2.1 = 3) && mx_okJ M i off
  | .tableswitch d lo hi offs => mx_okJ M i d && decide ((offs.size : Int) = hi - lo + 1) && mx_okK ((List.range offs.size).zipWith (fun (a : Nat) (b : Int) => (lo + (a : Int), b)) offs.toList) i.2.2.2.2.2.2 i.1 && i.2.2.2.2.2.2.all (fun q => decide (q.2 ∈ mx_tg M))
  | .lookupswitch d ps => mx_okJ M i d && (ps.toList.zip (ps.toList.drop 1)).all (fun (a, next) => a.1 < next.1) && mx_okK ps.toList i.2.2.2.2.2.2 i.1 && i.2.2.2.2.2.2.all (fun q => decide (q.2 ∈ mx_tg M))
  | .ifnull off => decide (i.2.2.1 = 3) && mx_okJ M i off
  | .ifnonnull off => decide (i.2.2.1 = 3) && mx_okJ M i off
  | .dup => decide (i.2.2.1 = 1)
  | .dup2 => decide (i.2.2.1 = 1)
  | .pop => decide (i.2.2.1 = 1)
  | .getfield idx => decide (i.2.2.1 = 3) && mx_okF M i idx false
  | .putfield idx => decide (i.2.2.1 = 3) && mx_okF M i idx true
  | .iaload => decide (i.2.2.1 = 1)
  | .iastore => decide (i.2.2.1 = 1)
  | .aaload => decide (i.2.2.1 = 1)
  | .aastore => decide (i.2.2.1 = 1)
  | .arraylength => decide (i.2.2.1 = 1)
  | .new idx => decide (i.2.2.1 = 3) && mx_at (.classLink (mx_own M) idx (mx_Cn i.2.2.2.1)) (mx_h i 0) && mx_at (.instantiable (mx_Cn i.2.2.2.1) (mx_nf i.2.2.2.1)) (mx_h i 1) && mx_at (.initialized (mx_Cn i.2.2.2.1)) (mx_h i 2)
  | .newarray t => decide (i.2.2.1 = 2) && decide (t = .int) && mx_at (.arrayClass .int) (mx_h i 0)
  | .anewarray idx => decide (i.2.2.1 = 3) && mx_at (.classLink (mx_own M) idx mx_R9) (mx_h i 0) && mx_at (.arrayOver (.object mx_R9)) (mx_h i 1)
  | .multianewarray idx d => decide (i.2.2.1 = 4) && decide (d = 2) && mx_at (.classLink (mx_own M) idx "[[I") (mx_h i 0) && mx_at (.arrayOver (.array .int)) (mx_h i 1) && mx_at (.arrayClass .int) (mx_h i 2)
  | .invokevirtual idx => decide (i.2.2.1 = 3) && (if i.2.2.2.1 = 1002 ∨ i.2.2.2.1 = 1003 then decide (mx_own M = "TwoMayors") && decide (mx_rm M = (mx_rm mx_k_X11_init)) && decide (idx = if i.2.2.2.1 = 1002 then 77 else 83) else mx_okC M i idx (i.2.2.2.2.1 - 1) 0 && decide (0 < i.2.2.2.2.1))
  | .invokespecial idx => decide (i.2.2.1 = 3) && (if i.2.2.2.1 = 1000 then mx_at (.methodLink (mx_own M) idx Lib.objectInit) (mx_h i 0) && mx_at (.instanceMethod Lib.objectInit) (mx_h i 1) && mx_at (.code Lib.objectInit ⟨#[0xb1]⟩ 1 none) (mx_h i 2) && decide (1 ≤ (mx_rm M).frames) && decide (20 ≤ (mx_rm M).locals) else mx_okC M i idx (i.2.2.2.2.1 - 1) 2 && decide (0 < i.2.2.2.2.1))
  | .invokestatic idx => decide (i.2.2.1 = 3) && (if i.2.2.2.1 = 1001 then mx_at (.methodLink (mx_own M) idx Lib.Math.max.name) (mx_h i 0) && mx_at (.static Lib.Math.max.name) (mx_h i 1) && mx_at (.initialized "java/lang/Math") (mx_h i 2) && mx_at (.code Lib.Math.max.name Lib.Math.max.code 2 (some .int)) (mx_h i 3) && decide (1 ≤ (mx_rm M).frames) && decide (21 ≤ (mx_rm M).locals) else mx_okC M i idx i.2.2.2.2.1 1)
  | .ireturn => decide (i.2.2.1 = 1)
  | .areturn => decide (i.2.2.1 = 1) && (match M.2.2.2.2.1 with | some (.object _) => true | _ => false)
  | .return_ => decide (i.2.2.1 = 1) && decide (M.2.2.2.2.1 = none)
  | _ => false
def mx_okI (M : mx_Mt) (i : mx_In) : Bool := match i.2.1 with
  | .nop => decide (i.2.2.1 = 0) && decide (i.1 = i.2.2.2.1) && decide (i.2.2.2.1 ∈ mx_tg M)
  | _ => decide (decode M.2.2.1 i.1 = .ok (i.2.1, i.2.2.1)) && mx_okO M i
/-- nothing comes behind these -/
def mx_trm (i : mx_In) : Bool := match i.2.1 with
  | .nop => true
  | .goto _ => true
  | .ireturn => true
  | .areturn => true
  | .return_ => true
  | .tableswitch _ _ _ _ => true
  | .lookupswitch _ _ => true
  | _ => false
def mx_pc (r : List mx_In) : Nat := match r with
  | [] => 0
  | i :: _ => i.1
def mx_okL (M : mx_Mt) (r : List mx_In) : Bool := match r with
  | [] => false
  | i :: r => mx_okI M i && (mx_trm i || (decide (mx_pc r = i.1 + i.2.2.1) && mx_okL M r))
def mx_okB (M : mx_Mt) : Bool := (mx_tg M).all (fun t => mx_okL M (M.1 t) && decide (mx_pc (M.1 t) = t))
def mx_okM (M : mx_Mt) : Bool := mx_okB M && decide (0 ∈ mx_tg M) && plainName M.2.1.cls && decide (mx_own M = M.2.1.cls) && decide (M.2.1.cls ≠ "")
end
section
/-! each step of the light machine is one of the machine's: plain instructions -/
def mx_tys (cs : mx_Cs) : List (ClassId × FieldType) := [(cs.1, .int), (cs.2.1, .object mx_R9), (cs.2.2, .array .int)]
def mx_text : String := "w0,3;w0,1;w1,5;w2,2;w2,4;w3,1;w0,2;g0,1;g0,2;g1,3;g1,6;g2,3;g2,4;g5,3;g6,4;g6,0;g3,2;k0,3;k0,4;k1,3;k1,1;l2;c0;"
/-- what is known of the text's own cells, which lie below B -/
def mx_Sx (B : Nat) (ρ : Nat → Nat) (U : State) : Prop := vk_R "TwoMayors" 75 mx_text (ρ mx_STR) U ∧ (∃ v : Nat, vk_S 1 [116] [mx_str] (fun _ => ρ mx_STR) (fun _ => v) (mx_A B) U U.heap) ∧ va_Z "java/lang/String" "COMPACT_STRINGS" "Z" (.int 1) (mx_A B) U U.heap ∧ va_Zq "jdk/internal/util/Preconditions" "SIOOBE_FORMATTER" "Ljava/util/function/BiFunction;" (mx_A B) U U.heap
def mx_Cx (p : Program) (s : State) (m : MethodId) (args : Array Value) (meth : Method) (c : Code) (R : Room) (D : va_G) (B : Nat) (ρ : Nat → Nat) (cs : mx_Cs) (M : mx_Mt) (sc : mx_Sc) : Prop :=
  p.tables.exec = Jvm.exec ∧ c.code = M.2.2.1 ∧ c.maxLocals = M.2.2.2.1 ∧ s.vm.findClass (mx_own M) = some m.cls ∧ (∀ w ∈ mx_tb, w.before args s = true) ∧ va_K D mx_cl (mx_tys cs) s ∧ meth.name = M.2.1.name ∧ R = mx_rm M ∧ (∀ i, i < 1000 → ρ i = B + i) ∧ B ≤ s.heap.size ∧ (sc.1 = true → va_X (ρ mx_SCR) sc.2.1 sc.2.2 s s.heap ∧ ρ mx_SCR < s.heap.size ∧ ρ mx_SCR < B) ∧ mx_Sx B ρ s
def mx_Sim (p : Program) (l : Launch) (e : Env) (R : Room) (s : State) (m : MethodId) (args : Array Value) (below : List Frame) (meth : Method) (c : Code) (Q : State → Prop) (D : va_G) (B : Nat) (ρ : Nat → Nat) (cs : mx_Cs) (M : mx_Mt) (cf : mx_Cf) : Prop :=
  ∀ (H : Heap) (locs : List Loc) (ls : Array Slot), mx_Rep D B ρ cs cf.2.2.2.1 H → va_S (mx_A B) s.heap H locs → mx_HL ρ ls M.2.2.2.1 cf.2.1 → W p l e R s m args below meth c H locs cf.2.2.2.2.1 cf.2.2.2.2.2 Q (F0 m (mx_pc cf.1) ls (cf.2.2.1.map (mx_rv ρ)))
theorem mx_go_eq {r : List mx_In} {loc : mx_Lc} {st : List Value} {h : mx_Hp} {k z : Nat} {c' : mx_Cf} (q : mx_go r loc st h k z = some (.inl c')) : c' = (r, loc, st, h, k, z) := (Sum.inl.inj (Option.some.inj q)).symm
theorem mx_jp_eq {M : mx_Mt} {loc : mx_Lc} {st : List Value} {h : mx_Hp} {k z t : Nat} {c' : mx_Cf} (q : mx_jp M loc st h k z t = some (.inl c')) : c' = (M.1 t, loc, st, h, k, z) := (Sum.inl.inj (Option.some.inj q)).symm
theorem mx_at_in {w : Cond} {j : Nat} (h : mx_at w j = true) : w ∈ mx_tb := by
  unfold mx_at at h
  simp only [Bool.and_eq_true, decide_eq_true_eq] at h
  exact List.mem_filter.mpr ⟨List.mem_of_getElem? h.1, h.2⟩
section Sim
variable {p : Program} {l : Launch} {e : Env} {R : Room} {s : State} {m : MethodId} {args : Array Value} {below : List Frame} {meth : Method} {c : Code} {Q : State → Prop} {D : va_G} {B : Nat} {ρ : Nat → Nat} {cs : mx_Cs} {M : mx_Mt} {sc : mx_Sc}
variable {i : mx_In} {r : List mx_In} {loc : mx_Lc} {st : List Value} {h : mx_Hp} {k z : Nat} {c' : mx_Cf}
/-- what comes behind an instruction of n bytes -/
theorem mx_nx {n : Nat} (hp : mx_pc r = i.1 + n) (K : mx_Sim p l e R s m args below meth c Q D B ρ cs M (r, loc, st, h, k, z)) {H : Heap} {locs : List Loc} {ls : Array Slot} (hR : mx_Rep D B ρ cs h H) (hS : va_S (mx_A B) s.heap H locs) (hL : mx_HL ρ ls M.2.2.2.1 loc) : W p l e R s m args below meth c H locs k z Q (F0 m (i.1 + n) ls (st.map (mx_rv ρ))) := by
  have h1 := K H locs ls hR hS hL
  dsimp only at h1
  rw [hp] at h1
  exact h1
theorem mx_tgt (ho : mx_okB M = true) {t : Nat} (ht : t ∈ mx_tg M) : mx_okL M (M.1 t) = true ∧ mx_pc (M.1 t) = t := by
  have h1 := List.all_eq_true.mp ho t ht
  simp only [Bool.and_eq_true, decide_eq_true_eq] at h1
  exact h1
theorem mx_jx (ho : mx_okB M = true) {t : Nat} (ht : t ∈ mx_tg M) (K : mx_Sim p l e R s m args below meth c Q D B ρ cs M (M.1 t, loc, st, h, k, z)) {H : Heap} {locs : List Loc} {ls : Array Slot} (hR : mx_Rep D B ρ cs h H) (hS : va_S (mx_A B) s.heap H locs) (hL : mx_HL ρ ls M.2.2.2.1 loc) : W p l e R s m args below meth c H locs k z Q (F0 m t ls (st.map (mx_rv ρ))) := by
  have h1 := K H locs ls hR hS hL
  dsimp only at h1
  rw [(mx_tgt ho ht).2] at h1
  exact h1

theorem mx_s_iconst (C : mx_Cx p s m args meth c R D B ρ cs M sc) {n : Int} (hi : i.2.1 = .iconst n) (hd : decode M.2.2.1 i.1 = .ok (i.2.1, i.2.2.1)) (ok : mx_okO M i = true) (hp : mx_pc r = i.1 + i.2.2.1) (hs : mx_go r loc (.int i.2.2.2.2.2.1 :: st) h k z = some (.inl c')) (K : mx_Sim p l e R s m args below meth c Q D B ρ cs M c') : mx_Sim p l e R s m args below meth c Q D B ρ cs M (i :: r, loc, st, h, k, z) := by
  obtain ⟨hx, hb, hml, hown, hts, hK, hnm, hRm, hρ, hBs, hsc, hsx⟩ := C
  unfold mx_okO at ok
  rw [hi] at ok hd
  simp only [Bool.and_eq_true, decide_eq_true_eq] at ok
  rw [ok.1] at hd hp
  cases mx_go_eq hs
  exact fun H locs ls hR hS hL => lv_iconst hx hb hd ok.2 (mx_nx hp K hR hS hL)
theorem mx_s_bipush (C : mx_Cx p s m args meth c R D B ρ cs M sc) {n : Int} (hi : i.2.1 = .bipush n) (hd : decode M.2.2.1 i.1 = .ok (i.2.1, i.2.2.1)) (ok : mx_okO M i = true) (hp : mx_pc r = i.1 + i.2.2.1) (hs : mx_go r loc (.int i.2.2.2.2.2.1 :: st) h k z = some (.inl c')) (K : mx_Sim p l e R s m args below meth c Q D B ρ cs M c') : mx_Sim p l e R s m args below meth c Q D B ρ cs M (i :: r, loc, st, h, k, z) := by
  obtain ⟨hx, hb, hml, hown, hts, hK, hnm, hRm, hρ, hBs, hsc, hsx⟩ := C
  unfold mx_okO at ok
  rw [hi] at ok hd
  simp only [Bool.and_eq_true, decide_eq_true_eq] at ok
  rw [ok.1] at hd hp
  cases mx_go_eq hs
  exact fun H locs ls hR hS hL => lv_bipush hx hb hd ok.2 (mx_nx hp K hR hS hL)
theorem mx_s_sipush (C : mx_Cx p s m args meth c R D B ρ cs M sc) {n : Int} (hi : i.2.1 = .sipush n) (hd : decode M.2.2.1 i.1 = .ok (i.2.1, i.2.2.1)) (ok : mx_okO M i = true) (hp : mx_pc r = i.1 + i.2.2.1) (hs : mx_go r loc (.int i.2.2.2.2.2.1 :: st) h k z = some (.inl c')) (K : mx_Sim p l e R s m args below meth c Q D B ρ cs M c') : mx_Sim p l e R s m args below meth c Q D B ρ cs M (i :: r, loc, st, h, k, z) := by
  obtain ⟨hx, hb, hml, hown, hts, hK, hnm, hRm, hρ, hBs, hsc, hsx⟩ := C
  unfold mx_okO at ok
  rw [hi] at ok hd
  simp only [Bool.and_eq_true, decide_eq_true_eq] at ok
  rw [ok.1] at hd hp
  cases mx_go_eq hs
  exact fun H locs ls hR hS hL => lv_sipush hx hb hd ok.2 (mx_nx hp K hR hS hL)
theorem mx_s_lconst (C : mx_Cx p s m args meth c R D B ρ cs M sc) {n : Fin 2} (hi : i.2.1 = .lconst n) (hd : decode M.2.2.1 i.1 = .ok (i.2.1, i.2.2.1)) (ok : mx_okO M i = true) (hp : mx_pc r = i.1 + i.2.2.1) (hs : mx_go r loc (.long i.2.2.2.2.2.1.toInt64 :: st) h k z = some (.inl c')) (K : mx_Sim p l e R s m args below meth c Q D B ρ cs M c') : mx_Sim p l e R s m args below meth c Q D B ρ cs M (i :: r, loc, st, h, k, z) := by
  obtain ⟨hx, hb, hml, hown, hts, hK, hnm, hRm, hρ, hBs, hsc, hsx⟩ := C
  unfold mx_okO at ok
  rw [hi] at ok hd
  simp only [Bool.and_eq_true, decide_eq_true_eq] at ok
  rw [ok.1] at hd hp
  cases mx_go_eq hs
  exact fun H locs ls hR hS hL => lv_lconst hx hb hd ok.2 (mx_nx hp K hR hS hL)
theorem mx_s_ldc2 (C : mx_Cx p s m args meth c R D B ρ cs M sc) {n : Nat} (hi : i.2.1 = .ldc2_w n) (hd : decode M.2.2.1 i.1 = .ok (i.2.1, i.2.2.1)) (ok : mx_okO M i = true) (hp : mx_pc r = i.1 + i.2.2.1) (hs : mx_go r loc (.long i.2.2.2.2.2.1.toInt64 :: st) h k z = some (.inl c')) (K : mx_Sim p l e R s m args below meth c Q D B ρ cs M c') : mx_Sim p l e R s m args below meth c Q D B ρ cs M (i :: r, loc, st, h, k, z) := by
  obtain ⟨hx, hb, hml, hown, hts, hK, hnm, hRm, hρ, hBs, hsc, hsx⟩ := C
  unfold mx_okO at ok
  rw [hi] at ok hd
  simp only [Bool.and_eq_true, decide_eq_true_eq] at ok
  rw [ok.1] at hd hp
  cases mx_go_eq hs
  exact fun H locs ls hR hS hL => lv_ldc2 hx hb hown (hts _ (mx_at_in ok.2)) hd (mx_nx hp K hR hS hL)
theorem mx_s_null (C : mx_Cx p s m args meth c R D B ρ cs M sc) (hi : i.2.1 = .aconst_null) (hd : decode M.2.2.1 i.1 = .ok (i.2.1, i.2.2.1)) (ok : mx_okO M i = true) (hp : mx_pc r = i.1 + i.2.2.1) (hs : mx_go r loc (.null :: st) h k z = some (.inl c')) (K : mx_Sim p l e R s m args below meth c Q D B ρ cs M c') : mx_Sim p l e R s m args below meth c Q D B ρ cs M (i :: r, loc, st, h, k, z) := by
  obtain ⟨hx, hb, hml, hown, hts, hK, hnm, hRm, hρ, hBs, hsc, hsx⟩ := C
  unfold mx_okO at ok
  rw [hi] at ok hd
  simp only [Bool.and_eq_true, decide_eq_true_eq] at ok
  rw [ok] at hd hp
  cases mx_go_eq hs
  exact fun H locs ls hR hS hL => lv_null hx hb hd (mx_nx hp K hR hS hL)
theorem mx_s_ldc (C : mx_Cx p s m args meth c R D B ρ cs M sc) {n : Nat} (hi : i.2.1 = .ldc n) (hd : decode M.2.2.1 i.1 = .ok (i.2.1, i.2.2.1)) (ok : mx_okO M i = true) (hp : mx_pc r = i.1 + i.2.2.1) (hs : mx_go r loc (.ref mx_STR :: st) h k z = some (.inl c')) (K : mx_Sim p l e R s m args below meth c Q D B ρ cs M c') : mx_Sim p l e R s m args below meth c Q D B ρ cs M (i :: r, loc, st, h, k, z) := by
  obtain ⟨hx, hb, hml, hown, hts, hK, hnm, hRm, hρ, hBs, hsc, hsx⟩ := C
  unfold mx_okO at ok
  rw [hi] at ok hd
  simp only [Bool.and_eq_true, decide_eq_true_eq] at ok
  obtain ⟨⟨ok1, ok2⟩, ok3⟩ := ok
  rw [ok1] at hd hp
  subst ok3
  rw [ok2] at hown
  cases mx_go_eq hs
  exact fun H locs ls hR hS hL => va_ldcS hx hb hown hsx.1 hd (mx_nx hp K hR hS hL)
theorem mx_s_iload_n (C : mx_Cx p s m args meth c R D B ρ cs M sc) {n : Fin 4} (hi : i.2.1 = .iload_n n) (hd : decode M.2.2.1 i.1 = .ok (i.2.1, i.2.2.1)) (ok : mx_okO M i = true) (hp : mx_pc r = i.1 + i.2.2.1) (hs : mx_sIload i r loc st h k z = some (.inl c')) (K : mx_Sim p l e R s m args below meth c Q D B ρ cs M c') : mx_Sim p l e R s m args below meth c Q D B ρ cs M (i :: r, loc, st, h, k, z) := by
  obtain ⟨hx, hb, hml, hown, hts, hK, hnm, hRm, hρ, hBs, hsc, hsx⟩ := C
  unfold mx_okO at ok
  rw [hi] at ok hd
  simp only [Bool.and_eq_true, decide_eq_true_eq] at ok
  rw [ok.1] at hd hp
  unfold mx_sIload at hs
  split at hs
  · rename_i x hv
    cases mx_go_eq hs
    exact fun H locs ls hR hS hL => lv_iload_n hx hb hd ok.2 (hL.2.2.2 _ _ hv) (mx_nx hp K hR hS hL)
  · cases hs
theorem mx_s_iload (C : mx_Cx p s m args meth c R D B ρ cs M sc) {n : Nat} (hi : i.2.1 = .iload n) (hd : decode M.2.2.1 i.1 = .ok (i.2.1, i.2.2.1)) (ok : mx_okO M i = true) (hp : mx_pc r = i.1 + i.2.2.1) (hs : mx_sIload i r loc st h k z = some (.inl c')) (K : mx_Sim p l e R s m args below meth c Q D B ρ cs M c') : mx_Sim p l e R s m args below meth c Q D B ρ cs M (i :: r, loc, st, h, k, z) := by
  obtain ⟨hx, hb, hml, hown, hts, hK, hnm, hRm, hρ, hBs, hsc, hsx⟩ := C
  unfold mx_okO at ok
  rw [hi] at ok hd
  simp only [Bool.and_eq_true, decide_eq_true_eq] at ok
  rw [ok.1] at hd hp
  rw [ok.2] at hd
  unfold mx_sIload at hs
  split at hs
  · rename_i x hv
    cases mx_go_eq hs
    exact fun H locs ls hR hS hL => lv_iload hx hb hd (hL.2.2.2 _ _ hv) (mx_nx hp K hR hS hL)
  · cases hs
theorem mx_s_lload_n (C : mx_Cx p s m args meth c R D B ρ cs M sc) {n : Fin 4} (hi : i.2.1 = .lload_n n) (hd : decode M.2.2.1 i.1 = .ok (i.2.1, i.2.2.1)) (ok : mx_okO M i = true) (hp : mx_pc r = i.1 + i.2.2.1) (hs : mx_sLload i r loc st h k z = some (.inl c')) (K : mx_Sim p l e R s m args below meth c Q D B ρ cs M c') : mx_Sim p l e R s m args below meth c Q D B ρ cs M (i :: r, loc, st, h, k, z) := by
  obtain ⟨hx, hb, hml, hown, hts, hK, hnm, hRm, hρ, hBs, hsc, hsx⟩ := C
  unfold mx_okO at ok
  rw [hi] at ok hd
  simp only [Bool.and_eq_true, decide_eq_true_eq] at ok
  rw [ok.1] at hd hp
  unfold mx_sLload at hs
  split at hs
  · rename_i x hv
    cases mx_go_eq hs
    exact fun H locs ls hR hS hL => lv_lload_n hx hb hd ok.2 (hL.2.2.2 _ _ hv) (mx_nx hp K hR hS hL)
  · cases hs
theorem mx_s_lload (C : mx_Cx p s m args meth c R D B ρ cs M sc) {n : Nat} (hi : i.2.1 = .lload n) (hd : decode M.2.2.1 i.1 = .ok (i.2.1, i.2.2.1)) (ok : mx_okO M i = true) (hp : mx_pc r = i.1 + i.2.2.1) (hs : mx_sLload i r loc st h k z = some (.inl c')) (K : mx_Sim p l e R s m args below meth c Q D B ρ cs M c') : mx_Sim p l e R s m args below meth c Q D B ρ cs M (i :: r, loc, st, h, k, z) := by
  obtain ⟨hx, hb, hml, hown, hts, hK, hnm, hRm, hρ, hBs, hsc, hsx⟩ := C
  unfold mx_okO at ok
  rw [hi] at ok hd
  simp only [Bool.and_eq_true, decide_eq_true_eq] at ok
  rw [ok.1] at hd hp
  rw [ok.2] at hd
  unfold mx_sLload at hs
  split at hs
  · rename_i x hv
    cases mx_go_eq hs
    exact fun H locs ls hR hS hL => lv_lload hx hb hd (hL.2.2.2 _ _ hv) (mx_nx hp K hR hS hL)
  · cases hs
theorem mx_s_aload_n (C : mx_Cx p s m args meth c R D B ρ cs M sc) {n : Fin 4} (hi : i.2.1 = .aload_n n) (hd : decode M.2.2.1 i.1 = .ok (i.2.1, i.2.2.1)) (ok : mx_okO M i = true) (hp : mx_pc r = i.1 + i.2.2.1) (hs : mx_sAload i r loc st h k z = some (.inl c')) (K : mx_Sim p l e R s m args below meth c Q D B ρ cs M c') : mx_Sim p l e R s m args below meth c Q D B ρ cs M (i :: r, loc, st, h, k, z) := by
  obtain ⟨hx, hb, hml, hown, hts, hK, hnm, hRm, hρ, hBs, hsc, hsx⟩ := C
  unfold mx_okO at ok
  rw [hi] at ok hd
  simp only [Bool.and_eq_true, decide_eq_true_eq] at ok
  rw [ok.1] at hd hp
  unfold mx_sAload at hs
  split at hs
  · rename_i x hv
    cases mx_go_eq hs
    exact fun H locs ls hR hS hL => lv_aload_n hx hb hd ok.2 (hL.2.2.2 _ _ hv) (mx_nx hp K hR hS hL)
  · rename_i hv
    cases mx_go_eq hs
    exact fun H locs ls hR hS hL => lv_aload_nN hx hb hd ok.2 (hL.2.2.2 _ _ hv) (mx_nx hp K hR hS hL)
  · cases hs
theorem mx_s_aload (C : mx_Cx p s m args meth c R D B ρ cs M sc) {n : Nat} (hi : i.2.1 = .aload n) (hd : decode M.2.2.1 i.1 = .ok (i.2.1, i.2.2.1)) (ok : mx_okO M i = true) (hp : mx_pc r = i.1 + i.2.2.1) (hs : mx_sAload i r loc st h k z = some (.inl c')) (K : mx_Sim p l e R s m args below meth c Q D B ρ cs M c') : mx_Sim p l e R s m args below meth c Q D B ρ cs M (i :: r, loc, st, h, k, z) := by
  obtain ⟨hx, hb, hml, hown, hts, hK, hnm, hRm, hρ, hBs, hsc, hsx⟩ := C
  unfold mx_okO at ok
  rw [hi] at ok hd
  simp only [Bool.and_eq_true, decide_eq_true_eq] at ok
  rw [ok.1] at hd hp
  rw [ok.2] at hd
  unfold mx_sAload at hs
  split at hs
  · rename_i x hv
    cases mx_go_eq hs
    exact fun H locs ls hR hS hL => lv_aload hx hb hd (hL.2.2.2 _ _ hv) (mx_nx hp K hR hS hL)
  · rename_i hv
    cases mx_go_eq hs
    exact fun H locs ls hR hS hL => lv_aloadN hx hb hd (hL.2.2.2 _ _ hv) (mx_nx hp K hR hS hL)
  · cases hs
theorem mx_s_istore_n (C : mx_Cx p s m args meth c R D B ρ cs M sc) {n : Fin 4} (hi : i.2.1 = .istore_n n) (hd : decode M.2.2.1 i.1 = .ok (i.2.1, i.2.2.1)) (ok : mx_okO M i = true) (hp : mx_pc r = i.1 + i.2.2.1) (hs : mx_sIstore i r loc st h k z = some (.inl c')) (K : mx_Sim p l e R s m args below meth c Q D B ρ cs M c') : mx_Sim p l e R s m args below meth c Q D B ρ cs M (i :: r, loc, st, h, k, z) := by
  obtain ⟨hx, hb, hml, hown, hts, hK, hnm, hRm, hρ, hBs, hsc, hsx⟩ := C
  unfold mx_okO at ok
  rw [hi] at ok hd
  simp only [Bool.and_eq_true, decide_eq_true_eq] at ok
  rw [ok.1] at hd hp
  unfold mx_sIstore at hs
  split at hs
  · rename_i x s'
    split at hs
    · rename_i loc' hv
      cases mx_go_eq hs
      exact fun H locs ls hR hS hL => lv_istore_n hx hb hd ok.2 hL.lv (by rw [← hL.2.1]; exact mx_sv_lt hv) rfl (fun ls' hl' => mx_nx hp K hR hS (hL.st hv hl'))
    · cases hs
  · cases hs
theorem mx_s_istore (C : mx_Cx p s m args meth c R D B ρ cs M sc) {n : Nat} (hi : i.2.1 = .istore n) (hd : decode M.2.2.1 i.1 = .ok (i.2.1, i.2.2.1)) (ok : mx_okO M i = true) (hp : mx_pc r = i.1 + i.2.2.1) (hs : mx_sIstore i r loc st h k z = some (.inl c')) (K : mx_Sim p l e R s m args below meth c Q D B ρ cs M c') : mx_Sim p l e R s m args below meth c Q D B ρ cs M (i :: r, loc, st, h, k, z) := by
  obtain ⟨hx, hb, hml, hown, hts, hK, hnm, hRm, hρ, hBs, hsc, hsx⟩ := C
  unfold mx_okO at ok
  rw [hi] at ok hd
  simp only [Bool.and_eq_true, decide_eq_true_eq] at ok
  rw [ok.1] at hd hp
  rw [ok.2] at hd
  unfold mx_sIstore at hs
  split at hs
  · rename_i x s'
    split at hs
    · rename_i loc' hv
      cases mx_go_eq hs
      exact fun H locs ls hR hS hL => lv_istore hx hb hd hL.lv (by rw [← hL.2.1]; exact mx_sv_lt hv) rfl (fun ls' hl' => mx_nx hp K hR hS (hL.st hv hl'))
    · cases hs
  · cases hs
theorem mx_s_astore_n (C : mx_Cx p s m args meth c R D B ρ cs M sc) {n : Fin 4} (hi : i.2.1 = .astore_n n) (hd : decode M.2.2.1 i.1 = .ok (i.2.1, i.2.2.1)) (ok : mx_okO M i = true) (hp : mx_pc r = i.1 + i.2.2.1) (hs : mx_sAstore i r loc st h k z = some (.inl c')) (K : mx_Sim p l e R s m args below meth c Q D B ρ cs M c') : mx_Sim p l e R s m args below meth c Q D B ρ cs M (i :: r, loc, st, h, k, z) := by
  obtain ⟨hx, hb, hml, hown, hts, hK, hnm, hRm, hρ, hBs, hsc, hsx⟩ := C
  unfold mx_okO at ok
  rw [hi] at ok hd
  simp only [Bool.and_eq_true, decide_eq_true_eq] at ok
  rw [ok.1] at hd hp
  unfold mx_sAstore at hs
  split at hs
  · rename_i x s'
    split at hs
    · rename_i loc' hv
      cases mx_go_eq hs
      exact fun H locs ls hR hS hL => lv_astore_n hx hb hd ok.2 hL.lv (by rw [← hL.2.1]; exact mx_sv_lt hv) rfl (fun ls' hl' => mx_nx hp K hR hS (hL.st hv hl'))
    · cases hs
  · rename_i s'
    split at hs
    · rename_i loc' hv
      cases mx_go_eq hs
      exact fun H locs ls hR hS hL => lv_astore_nN hx hb hd ok.2 hL.lv (by rw [← hL.2.1]; exact mx_sv_lt hv) rfl (fun ls' hl' => mx_nx hp K hR hS (hL.st hv hl'))
    · cases hs
  · cases hs
theorem mx_s_astore (C : mx_Cx p s m args meth c R D B ρ cs M sc) {n : Nat} (hi : i.2.1 = .astore n) (hd : decode M.2.2.1 i.1 = .ok (i.2.1, i.2.2.1)) (ok : mx_okO M i = true) (hp : mx_pc r = i.1 + i.2.2.1) (hs : mx_sAstore i r loc st h k z = some (.inl c')) (K : mx_Sim p l e R s m args below meth c Q D B ρ cs M c') : mx_Sim p l e R s m args below meth c Q D B ρ cs M (i :: r, loc, st, h, k, z) := by
  obtain ⟨hx, hb, hml, hown, hts, hK, hnm, hRm, hρ, hBs, hsc, hsx⟩ := C
  unfold mx_okO at ok
  rw [hi] at ok hd
  simp only [Bool.and_eq_true, decide_eq_true_eq] at ok
  rw [ok.1] at hd hp
  rw [ok.2] at hd
  unfold mx_sAstore at hs
  split at hs
  · rename_i x s'
    split at hs
    · rename_i loc' hv
      cases mx_go_eq hs
      exact fun H locs ls hR hS hL => lv_astore hx hb hd hL.lv (by rw [← hL.2.1]; exact mx_sv_lt hv) rfl (fun ls' hl' => mx_nx hp K hR hS (hL.st hv hl'))
    · cases hs
  · rename_i s'
    split at hs
    · rename_i loc' hv
      cases mx_go_eq hs
      exact fun H locs ls hR hS hL => lv_astoreN hx hb hd hL.lv (by rw [← hL.2.1]; exact mx_sv_lt hv) rfl (fun ls' hl' => mx_nx hp K hR hS (hL.st hv hl'))
    · cases hs
  · cases hs
theorem mx_s_lstore_n (C : mx_Cx p s m args meth c R D B ρ cs M sc) {n : Fin 4} (hi : i.2.1 = .lstore_n n) (hd : decode M.2.2.1 i.1 = .ok (i.2.1, i.2.2.1)) (ok : mx_okO M i = true) (hp : mx_pc r = i.1 + i.2.2.1) (hs : mx_sLstore i r loc st h k z = some (.inl c')) (K : mx_Sim p l e R s m args below meth c Q D B ρ cs M c') : mx_Sim p l e R s m args below meth c Q D B ρ cs M (i :: r, loc, st, h, k, z) := by
  obtain ⟨hx, hb, hml, hown, hts, hK, hnm, hRm, hρ, hBs, hsc, hsx⟩ := C
  unfold mx_okO at ok
  rw [hi] at ok hd
  simp only [Bool.and_eq_true, decide_eq_true_eq] at ok
  rw [ok.1] at hd hp
  unfold mx_sLstore at hs
  split at hs
  · rename_i x s'
    split at hs
    · rename_i loc' hv
      cases mx_go_eq hs
      exact fun H locs ls hR hS hL => lv_lstore_n hx hb hd ok.2 hL.lv (by rw [← hL.2.1]; exact mx_sv2_lt hv) rfl (fun ls' hl' => mx_nx hp K hR hS (hL.st2 hv hl'))
    · cases hs
  · cases hs
theorem mx_s_lstore (C : mx_Cx p s m args meth c R D B ρ cs M sc) {n : Nat} (hi : i.2.1 = .lstore n) (hd : decode M.2.2.1 i.1 = .ok (i.2.1, i.2.2.1)) (ok : mx_okO M i = true) (hp : mx_pc r = i.1 + i.2.2.1) (hs : mx_sLstore i r loc st h k z = some (.inl c')) (K : mx_Sim p l e R s m args below meth c Q D B ρ cs M c') : mx_Sim p l e R s m args below meth c Q D B ρ cs M (i :: r, loc, st, h, k, z) := by
  obtain ⟨hx, hb, hml, hown, hts, hK, hnm, hRm, hρ, hBs, hsc, hsx⟩ := C
  unfold mx_okO at ok
  rw [hi] at ok hd
  simp only [Bool.and_eq_true, decide_eq_true_eq] at ok
  rw [ok.1] at hd hp
  rw [ok.2] at hd
  unfold mx_sLstore at hs
  split at hs
  · rename_i x s'
    split at hs
    · rename_i loc' hv
      cases mx_go_eq hs
      exact fun H locs ls hR hS hL => lv_lstore hx hb hd hL.lv (by rw [← hL.2.1]; exact mx_sv2_lt hv) rfl (fun ls' hl' => mx_nx hp K hR hS (hL.st2 hv hl'))
    · cases hs
  · cases hs
theorem mx_s_iinc (C : mx_Cx p s m args meth c R D B ρ cs M sc) {n : Nat} {d : Int} (hi : i.2.1 = .iinc n d) (hd : decode M.2.2.1 i.1 = .ok (i.2.1, i.2.2.1)) (ok : mx_okO M i = true) (hp : mx_pc r = i.1 + i.2.2.1) (hs : mx_sIinc i r loc st h k z = some (.inl c')) (K : mx_Sim p l e R s m args below meth c Q D B ρ cs M c') : mx_Sim p l e R s m args below meth c Q D B ρ cs M (i :: r, loc, st, h, k, z) := by
  obtain ⟨hx, hb, hml, hown, hts, hK, hnm, hRm, hρ, hBs, hsc, hsx⟩ := C
  unfold mx_okO at ok
  rw [hi] at ok hd
  simp only [Bool.and_eq_true, decide_eq_true_eq] at ok
  obtain ⟨⟨ok1, ok2⟩, ok3⟩ := ok
  rw [ok1] at hd hp
  rw [ok2] at hd
  unfold mx_sIinc at hs
  split at hs
  · rename_i x hv
    split at hs
    · rename_i loc' hv'
      cases mx_go_eq hs
      exact fun H locs ls hR hS hL => lv_iinc (k := 0) hx hb hd (hL.dup hv) rfl (by rw [ok3]) (by rw [← hL.2.1]; exact mx_sv_lt hv') rfl (fun ls' hl' => mx_nx hp K hR hS (hL.st hv' (by rw [← mx_filter_dup (x := mx_rv ρ (.int x))]; exact hl')))
    · cases hs
  · cases hs
theorem mx_s_iadd (C : mx_Cx p s m args meth c R D B ρ cs M sc) (hi : i.2.1 = .iadd) (hd : decode M.2.2.1 i.1 = .ok (i.2.1, i.2.2.1)) (ok : mx_okO M i = true) (hp : mx_pc r = i.1 + i.2.2.1) (hs : mx_sB r loc st h k z (fun x y => x + y) = some (.inl c')) (K : mx_Sim p l e R s m args below meth c Q D B ρ cs M c') : mx_Sim p l e R s m args below meth c Q D B ρ cs M (i :: r, loc, st, h, k, z) := by
  obtain ⟨hx, hb, hml, hown, hts, hK, hnm, hRm, hρ, hBs, hsc, hsx⟩ := C
  unfold mx_okO at ok
  rw [hi] at ok hd
  simp only [Bool.and_eq_true, decide_eq_true_eq] at ok
  rw [ok] at hd hp
  unfold mx_sB at hs
  split at hs
  · cases mx_go_eq hs
    exact fun H locs ls hR hS hL => lv_iadd hx hb hd (mx_nx hp K hR hS hL)
  · cases hs
theorem mx_s_isub (C : mx_Cx p s m args meth c R D B ρ cs M sc) (hi : i.2.1 = .isub) (hd : decode M.2.2.1 i.1 = .ok (i.2.1, i.2.2.1)) (ok : mx_okO M i = true) (hp : mx_pc r = i.1 + i.2.2.1) (hs : mx_sB r loc st h k z (fun x y => x - y) = some (.inl c')) (K : mx_Sim p l e R s m args below meth c Q D B ρ cs M c') : mx_Sim p l e R s m args below meth c Q D B ρ cs M (i :: r, loc, st, h, k, z) := by
  obtain ⟨hx, hb, hml, hown, hts, hK, hnm, hRm, hρ, hBs, hsc, hsx⟩ := C
  unfold mx_okO at ok
  rw [hi] at ok hd
  simp only [Bool.and_eq_true, decide_eq_true_eq] at ok
  rw [ok] at hd hp
  unfold mx_sB at hs
  split at hs
  · cases mx_go_eq hs
    exact fun H locs ls hR hS hL => lv_isub hx hb hd (mx_nx hp K hR hS hL)
  · cases hs
theorem mx_s_imul (C : mx_Cx p s m args meth c R D B ρ cs M sc) (hi : i.2.1 = .imul) (hd : decode M.2.2.1 i.1 = .ok (i.2.1, i.2.2.1)) (ok : mx_okO M i = true) (hp : mx_pc r = i.1 + i.2.2.1) (hs : mx_sB r loc st h k z (fun x y => x * y) = some (.inl c')) (K : mx_Sim p l e R s m args below meth c Q D B ρ cs M c') : mx_Sim p l e R s m args below meth c Q D B ρ cs M (i :: r, loc, st, h, k, z) := by
  obtain ⟨hx, hb, hml, hown, hts, hK, hnm, hRm, hρ, hBs, hsc, hsx⟩ := C
  unfold mx_okO at ok
  rw [hi] at ok hd
  simp only [Bool.and_eq_true, decide_eq_true_eq] at ok
  rw [ok] at hd hp
  unfold mx_sB at hs
  split at hs
  · cases mx_go_eq hs
    exact fun H locs ls hR hS hL => lv_imul hx hb hd (mx_nx hp K hR hS hL)
  · cases hs
theorem mx_s_iand (C : mx_Cx p s m args meth c R D B ρ cs M sc) (hi : i.2.1 = .iand) (hd : decode M.2.2.1 i.1 = .ok (i.2.1, i.2.2.1)) (ok : mx_okO M i = true) (hp : mx_pc r = i.1 + i.2.2.1) (hs : mx_sB r loc st h k z (fun x y => x &&& y) = some (.inl c')) (K : mx_Sim p l e R s m args below meth c Q D B ρ cs M c') : mx_Sim p l e R s m args below meth c Q D B ρ cs M (i :: r, loc, st, h, k, z) := by
  obtain ⟨hx, hb, hml, hown, hts, hK, hnm, hRm, hρ, hBs, hsc, hsx⟩ := C
  unfold mx_okO at ok
  rw [hi] at ok hd
  simp only [Bool.and_eq_true, decide_eq_true_eq] at ok
  rw [ok] at hd hp
  unfold mx_sB at hs
  split at hs
  · cases mx_go_eq hs
    exact fun H locs ls hR hS hL => lv_iand hx hb hd (mx_nx hp K hR hS hL)
  · cases hs
theorem mx_s_ior (C : mx_Cx p s m args meth c R D B ρ cs M sc) (hi : i.2.1 = .ior) (hd : decode M.2.2.1 i.1 = .ok (i.2.1, i.2.2.1)) (ok : mx_okO M i = true) (hp : mx_pc r = i.1 + i.2.2.1) (hs : mx_sB r loc st h k z (fun x y => x ||| y) = some (.inl c')) (K : mx_Sim p l e R s m args below meth c Q D B ρ cs M c') : mx_Sim p l e R s m args below meth c Q D B ρ cs M (i :: r, loc, st, h, k, z) := by
  obtain ⟨hx, hb, hml, hown, hts, hK, hnm, hRm, hρ, hBs, hsc, hsx⟩ := C
  unfold mx_okO at ok
  rw [hi] at ok hd
  simp only [Bool.and_eq_true, decide_eq_true_eq] at ok
  rw [ok] at hd hp
  unfold mx_sB at hs
  split at hs
  · cases mx_go_eq hs
    exact fun H locs ls hR hS hL => lv_ior hx hb hd (mx_nx hp K hR hS hL)
  · cases hs
theorem mx_s_ixor (C : mx_Cx p s m args meth c R D B ρ cs M sc) (hi : i.2.1 = .ixor) (hd : decode M.2.2.1 i.1 = .ok (i.2.1, i.2.2.1)) (ok : mx_okO M i = true) (hp : mx_pc r = i.1 + i.2.2.1) (hs : mx_sB r loc st h k z (fun x y => x ^^^ y) = some (.inl c')) (K : mx_Sim p l e R s m args below meth c Q D B ρ cs M c') : mx_Sim p l e R s m args below meth c Q D B ρ cs M (i :: r, loc, st, h, k, z) := by
  obtain ⟨hx, hb, hml, hown, hts, hK, hnm, hRm, hρ, hBs, hsc, hsx⟩ := C
  unfold mx_okO at ok
  rw [hi] at ok hd
  simp only [Bool.and_eq_true, decide_eq_true_eq] at ok
  rw [ok] at hd hp
  unfold mx_sB at hs
  split at hs
  · cases mx_go_eq hs
    exact fun H locs ls hR hS hL => lv_ixor hx hb hd (mx_nx hp K hR hS hL)
  · cases hs
theorem mx_s_ishl (C : mx_Cx p s m args meth c R D B ρ cs M sc) (hi : i.2.1 = .ishl) (hd : decode M.2.2.1 i.1 = .ok (i.2.1, i.2.2.1)) (ok : mx_okO M i = true) (hp : mx_pc r = i.1 + i.2.2.1) (hs : mx_sB r loc st h k z (fun x y => x <<< (y &&& 31)) = some (.inl c')) (K : mx_Sim p l e R s m args below meth c Q D B ρ cs M c') : mx_Sim p l e R s m args below meth c Q D B ρ cs M (i :: r, loc, st, h, k, z) := by
  obtain ⟨hx, hb, hml, hown, hts, hK, hnm, hRm, hρ, hBs, hsc, hsx⟩ := C
  unfold mx_okO at ok
  rw [hi] at ok hd
  simp only [Bool.and_eq_true, decide_eq_true_eq] at ok
  rw [ok] at hd hp
  unfold mx_sB at hs
  split at hs
  · cases mx_go_eq hs
    exact fun H locs ls hR hS hL => lv_ishl hx hb hd (mx_nx hp K hR hS hL)
  · cases hs
theorem mx_s_ishr (C : mx_Cx p s m args meth c R D B ρ cs M sc) (hi : i.2.1 = .ishr) (hd : decode M.2.2.1 i.1 = .ok (i.2.1, i.2.2.1)) (ok : mx_okO M i = true) (hp : mx_pc r = i.1 + i.2.2.1) (hs : mx_sB r loc st h k z (fun x y => x >>> (y &&& 31)) = some (.inl c')) (K : mx_Sim p l e R s m args below meth c Q D B ρ cs M c') : mx_Sim p l e R s m args below meth c Q D B ρ cs M (i :: r, loc, st, h, k, z) := by
  obtain ⟨hx, hb, hml, hown, hts, hK, hnm, hRm, hρ, hBs, hsc, hsx⟩ := C
  unfold mx_okO at ok
  rw [hi] at ok hd
  simp only [Bool.and_eq_true, decide_eq_true_eq] at ok
  rw [ok] at hd hp
  unfold mx_sB at hs
  split at hs
  · cases mx_go_eq hs
    exact fun H locs ls hR hS hL => lv_ishr hx hb hd (mx_nx hp K hR hS hL)
  · cases hs
theorem mx_s_ladd (C : mx_Cx p s m args meth c R D B ρ cs M sc) (hi : i.2.1 = .ladd) (hd : decode M.2.2.1 i.1 = .ok (i.2.1, i.2.2.1)) (ok : mx_okO M i = true) (hp : mx_pc r = i.1 + i.2.2.1) (hs : mx_sL r loc st h k z (fun x y => x + y) = some (.inl c')) (K : mx_Sim p l e R s m args below meth c Q D B ρ cs M c') : mx_Sim p l e R s m args below meth c Q D B ρ cs M (i :: r, loc, st, h, k, z) := by
  obtain ⟨hx, hb, hml, hown, hts, hK, hnm, hRm, hρ, hBs, hsc, hsx⟩ := C
  unfold mx_okO at ok
  rw [hi] at ok hd
  simp only [Bool.and_eq_true, decide_eq_true_eq] at ok
  rw [ok] at hd hp
  unfold mx_sL at hs
  split at hs
  · cases mx_go_eq hs
    exact fun H locs ls hR hS hL => lv_ladd hx hb hd (mx_nx hp K hR hS hL)
  · cases hs
theorem mx_s_lmul (C : mx_Cx p s m args meth c R D B ρ cs M sc) (hi : i.2.1 = .lmul) (hd : decode M.2.2.1 i.1 = .ok (i.2.1, i.2.2.1)) (ok : mx_okO M i = true) (hp : mx_pc r = i.1 + i.2.2.1) (hs : mx_sL r loc st h k z (fun x y => x * y) = some (.inl c')) (K : mx_Sim p l e R s m args below meth c Q D B ρ cs M c') : mx_Sim p l e R s m args below meth c Q D B ρ cs M (i :: r, loc, st, h, k, z) := by
  obtain ⟨hx, hb, hml, hown, hts, hK, hnm, hRm, hρ, hBs, hsc, hsx⟩ := C
  unfold mx_okO at ok
  rw [hi] at ok hd
  simp only [Bool.and_eq_true, decide_eq_true_eq] at ok
  rw [ok] at hd hp
  unfold mx_sL at hs
  split at hs
  · cases mx_go_eq hs
    exact fun H locs ls hR hS hL => lv_lmul hx hb hd (mx_nx hp K hR hS hL)
  · cases hs
theorem mx_s_idiv (C : mx_Cx p s m args meth c R D B ρ cs M sc) (hi : i.2.1 = .idiv) (hd : decode M.2.2.1 i.1 = .ok (i.2.1, i.2.2.1)) (ok : mx_okO M i = true) (hp : mx_pc r = i.1 + i.2.2.1) (hs : mx_sBd r loc st h k z (fun x y => x / y) = some (.inl c')) (K : mx_Sim p l e R s m args below meth c Q D B ρ cs M c') : mx_Sim p l e R s m args below meth c Q D B ρ cs M (i :: r, loc, st, h, k, z) := by
  obtain ⟨hx, hb, hml, hown, hts, hK, hnm, hRm, hρ, hBs, hsc, hsx⟩ := C
  unfold mx_okO at ok
  rw [hi] at ok hd
  simp only [Bool.and_eq_true, decide_eq_true_eq] at ok
  rw [ok] at hd hp
  unfold mx_sBd at hs
  split at hs
  · split at hs
    · cases hs
    · rename_i hne
      cases mx_go_eq hs
      exact fun H locs ls hR hS hL => lv_idiv hx hb hd hne (mx_nx hp K hR hS hL)
  · cases hs
theorem mx_s_irem (C : mx_Cx p s m args meth c R D B ρ cs M sc) (hi : i.2.1 = .irem) (hd : decode M.2.2.1 i.1 = .ok (i.2.1, i.2.2.1)) (ok : mx_okO M i = true) (hp : mx_pc r = i.1 + i.2.2.1) (hs : mx_sBd r loc st h k z (fun x y => x - x / y * y) = some (.inl c')) (K : mx_Sim p l e R s m args below meth c Q D B ρ cs M c') : mx_Sim p l e R s m args below meth c Q D B ρ cs M (i :: r, loc, st, h, k, z) := by
  obtain ⟨hx, hb, hml, hown, hts, hK, hnm, hRm, hρ, hBs, hsc, hsx⟩ := C
  unfold mx_okO at ok
  rw [hi] at ok hd
  simp only [Bool.and_eq_true, decide_eq_true_eq] at ok
  rw [ok] at hd hp
  unfold mx_sBd at hs
  split at hs
  · split at hs
    · cases hs
    · rename_i hne
      cases mx_go_eq hs
      exact fun H locs ls hR hS hL => lv_irem hx hb hd hne (mx_nx hp K hR hS hL)
  · cases hs
theorem mx_s_ldiv (C : mx_Cx p s m args meth c R D B ρ cs M sc) (hi : i.2.1 = .ldiv) (hd : decode M.2.2.1 i.1 = .ok (i.2.1, i.2.2.1)) (ok : mx_okO M i = true) (hp : mx_pc r = i.1 + i.2.2.1) (hs : mx_sLd r loc st h k z (fun x y => x / y) = some (.inl c')) (K : mx_Sim p l e R s m args below meth c Q D B ρ cs M c') : mx_Sim p l e R s m args below meth c Q D B ρ cs M (i :: r, loc, st, h, k, z) := by
  obtain ⟨hx, hb, hml, hown, hts, hK, hnm, hRm, hρ, hBs, hsc, hsx⟩ := C
  unfold mx_okO at ok
  rw [hi] at ok hd
  simp only [Bool.and_eq_true, decide_eq_true_eq] at ok
  rw [ok] at hd hp
  unfold mx_sLd at hs
  split at hs
  · split at hs
    · cases hs
    · rename_i hne
      cases mx_go_eq hs
      exact fun H locs ls hR hS hL => lv_ldiv hx hb hd hne (mx_nx hp K hR hS hL)
  · cases hs
theorem mx_s_lrem (C : mx_Cx p s m args meth c R D B ρ cs M sc) (hi : i.2.1 = .lrem) (hd : decode M.2.2.1 i.1 = .ok (i.2.1, i.2.2.1)) (ok : mx_okO M i = true) (hp : mx_pc r = i.1 + i.2.2.1) (hs : mx_sLd r loc st h k z (fun x y => x - x / y * y) = some (.inl c')) (K : mx_Sim p l e R s m args below meth c Q D B ρ cs M c') : mx_Sim p l e R s m args below meth c Q D B ρ cs M (i :: r, loc, st, h, k, z) := by
  obtain ⟨hx, hb, hml, hown, hts, hK, hnm, hRm, hρ, hBs, hsc, hsx⟩ := C
  unfold mx_okO at ok
  rw [hi] at ok hd
  simp only [Bool.and_eq_true, decide_eq_true_eq] at ok
  rw [ok] at hd hp
  unfold mx_sLd at hs
  split at hs
  · split at hs
    · cases hs
    · rename_i hne
      cases mx_go_eq hs
      exact fun H locs ls hR hS hL => lv_lrem hx hb hd hne (mx_nx hp K hR hS hL)
  · cases hs
theorem mx_s_i2l (C : mx_Cx p s m args meth c R D B ρ cs M sc) (hi : i.2.1 = .i2l) (hd : decode M.2.2.1 i.1 = .ok (i.2.1, i.2.2.1)) (ok : mx_okO M i = true) (hp : mx_pc r = i.1 + i.2.2.1) (hs : mx_sI2l r loc st h k z = some (.inl c')) (K : mx_Sim p l e R s m args below meth c Q D B ρ cs M c') : mx_Sim p l e R s m args below meth c Q D B ρ cs M (i :: r, loc, st, h, k, z) := by
  obtain ⟨hx, hb, hml, hown, hts, hK, hnm, hRm, hρ, hBs, hsc, hsx⟩ := C
  unfold mx_okO at ok
  rw [hi] at ok hd
  simp only [Bool.and_eq_true, decide_eq_true_eq] at ok
  rw [ok] at hd hp
  unfold mx_sI2l at hs
  split at hs
  · cases mx_go_eq hs
    exact fun H locs ls hR hS hL => lv_i2l hx hb hd rfl (mx_nx hp K hR hS hL)
  · cases hs
theorem mx_s_l2i (C : mx_Cx p s m args meth c R D B ρ cs M sc) (hi : i.2.1 = .l2i) (hd : decode M.2.2.1 i.1 = .ok (i.2.1, i.2.2.1)) (ok : mx_okO M i = true) (hp : mx_pc r = i.1 + i.2.2.1) (hs : mx_sL2i r loc st h k z = some (.inl c')) (K : mx_Sim p l e R s m args below meth c Q D B ρ cs M c') : mx_Sim p l e R s m args below meth c Q D B ρ cs M (i :: r, loc, st, h, k, z) := by
  obtain ⟨hx, hb, hml, hown, hts, hK, hnm, hRm, hρ, hBs, hsc, hsx⟩ := C
  unfold mx_okO at ok
  rw [hi] at ok hd
  simp only [Bool.and_eq_true, decide_eq_true_eq] at ok
  rw [ok] at hd hp
  unfold mx_sL2i at hs
  split at hs
  · cases mx_go_eq hs
    exact fun H locs ls hR hS hL => lv_l2i hx hb hd rfl (mx_nx hp K hR hS hL)
  · cases hs
theorem mx_c1_cat {v : Value} (h : mx_c1 v = true) : (mx_rv ρ v).category = 1 := by
  cases v <;> first | rfl | cases h
theorem mx_s_dup (C : mx_Cx p s m args meth c R D B ρ cs M sc) (hi : i.2.1 = .dup) (hd : decode M.2.2.1 i.1 = .ok (i.2.1, i.2.2.1)) (ok : mx_okO M i = true) (hp : mx_pc r = i.1 + i.2.2.1) (hs : mx_sDup r loc st h k z = some (.inl c')) (K : mx_Sim p l e R s m args below meth c Q D B ρ cs M c') : mx_Sim p l e R s m args below meth c Q D B ρ cs M (i :: r, loc, st, h, k, z) := by
  obtain ⟨hx, hb, hml, hown, hts, hK, hnm, hRm, hρ, hBs, hsc, hsx⟩ := C
  unfold mx_okO at ok
  rw [hi] at ok hd
  simp only [Bool.and_eq_true, decide_eq_true_eq] at ok
  rw [ok] at hd hp
  unfold mx_sDup at hs
  split at hs
  · split at hs
    · rename_i hv
      cases mx_go_eq hs
      exact fun H locs ls hR hS hL => lv_dup hx hb hd (mx_c1_cat hv) (mx_nx hp K hR hS hL)
    · cases hs
  · cases hs
theorem mx_s_dup2 (C : mx_Cx p s m args meth c R D B ρ cs M sc) (hi : i.2.1 = .dup2) (hd : decode M.2.2.1 i.1 = .ok (i.2.1, i.2.2.1)) (ok : mx_okO M i = true) (hp : mx_pc r = i.1 + i.2.2.1) (hs : mx_sDup2 r loc st h k z = some (.inl c')) (K : mx_Sim p l e R s m args below meth c Q D B ρ cs M c') : mx_Sim p l e R s m args below meth c Q D B ρ cs M (i :: r, loc, st, h, k, z) := by
  obtain ⟨hx, hb, hml, hown, hts, hK, hnm, hRm, hρ, hBs, hsc, hsx⟩ := C
  unfold mx_okO at ok
  rw [hi] at ok hd
  simp only [Bool.and_eq_true, decide_eq_true_eq] at ok
  rw [ok] at hd hp
  unfold mx_sDup2 at hs
  split at hs
  · split at hs
    · rename_i hv
      cases mx_go_eq hs
      exact fun H locs ls hR hS hL => lv_dup2_11 hx hb hd (mx_c1_cat hv.1) (mx_c1_cat hv.2) (mx_nx hp K hR hS hL)
    · cases hs
  · cases hs
theorem mx_s_pop (C : mx_Cx p s m args meth c R D B ρ cs M sc) (hi : i.2.1 = .pop) (hd : decode M.2.2.1 i.1 = .ok (i.2.1, i.2.2.1)) (ok : mx_okO M i = true) (hp : mx_pc r = i.1 + i.2.2.1) (hs : mx_sPop r loc st h k z = some (.inl c')) (K : mx_Sim p l e R s m args below meth c Q D B ρ cs M c') : mx_Sim p l e R s m args below meth c Q D B ρ cs M (i :: r, loc, st, h, k, z) := by
  obtain ⟨hx, hb, hml, hown, hts, hK, hnm, hRm, hρ, hBs, hsc, hsx⟩ := C
  unfold mx_okO at ok
  rw [hi] at ok hd
  simp only [Bool.and_eq_true, decide_eq_true_eq] at ok
  rw [ok] at hd hp
  unfold mx_sPop at hs
  split at hs
  · split at hs
    · rename_i hv
      cases mx_go_eq hs
      exact fun H locs ls hR hS hL => lv_pop hx hb hd (mx_c1_cat hv) (mx_nx hp K hR hS hL)
    · cases hs
  · cases hs
theorem mx_s_goto (C : mx_Cx p s m args meth c R D B ρ cs M sc) (hB : mx_okB M = true) {off : Int} (hi : i.2.1 = .goto off) (hd : decode M.2.2.1 i.1 = .ok (i.2.1, i.2.2.1)) (ok : mx_okO M i = true) (hs : mx_jp M loc st h k z i.2.2.2.1 = some (.inl c')) (K : mx_Sim p l e R s m args below meth c Q D B ρ cs M c') : mx_Sim p l e R s m args below meth c Q D B ρ cs M (i :: r, loc, st, h, k, z) := by
  obtain ⟨hx, hb, hml, hown, hts, hK, hnm, hRm, hρ, hBs, hsc, hsx⟩ := C
  unfold mx_okO mx_okJ at ok
  rw [hi] at ok hd
  simp only [Bool.and_eq_true, decide_eq_true_eq] at ok
  rw [ok.1] at hd
  cases mx_jp_eq hs
  exact fun H locs ls hR hS hL => lv_goto hx hb hd ok.2.1 (mx_jx hB ok.2.2 K hR hS hL)
theorem mx_s_icmp (C : mx_Cx p s m args meth c R D B ρ cs M sc) (hB : mx_okB M = true) {q : ClassFile.Cond} {off : Int} (hi : i.2.1 = .if_icmp q off) (hd : decode M.2.2.1 i.1 = .ok (i.2.1, i.2.2.1)) (ok : mx_okO M i = true) (hp : mx_pc r = i.1 + i.2.2.1) (hs : mx_sIcmp M i r loc st h k z q = some (.inl c')) (K : mx_Sim p l e R s m args below meth c Q D B ρ cs M c') : mx_Sim p l e R s m args below meth c Q D B ρ cs M (i :: r, loc, st, h, k, z) := by
  obtain ⟨hx, hb, hml, hown, hts, hK, hnm, hRm, hρ, hBs, hsc, hsx⟩ := C
  unfold mx_okO mx_okJ at ok
  rw [hi] at ok hd
  simp only [Bool.and_eq_true, decide_eq_true_eq] at ok
  rw [ok.1] at hd hp
  unfold mx_sIcmp at hs
  split at hs
  · cases q <;> simp only [mx_cond, decide_eq_true_eq] at hs
    · refine fun H locs ls hR hS hL => lv_icmp_eq hx hb hd ok.2.1 (fun ht => ?_) (fun ht => ?_)
      · rw [if_pos ht] at hs
        cases mx_jp_eq hs
        exact mx_jx hB ok.2.2 K hR hS hL
      · rw [if_neg ht] at hs
        cases mx_go_eq hs
        exact mx_nx hp K hR hS hL
    · refine fun H locs ls hR hS hL => lv_icmp_ne hx hb hd ok.2.1 (fun ht => ?_) (fun ht => ?_)
      · rw [if_pos ht] at hs
        cases mx_jp_eq hs
        exact mx_jx hB ok.2.2 K hR hS hL
      · rw [if_neg (fun z => z ht)] at hs
        cases mx_go_eq hs
        exact mx_nx hp K hR hS hL
    · refine fun H locs ls hR hS hL => lv_icmp_lt hx hb hd ok.2.1 (fun ht => ?_) (fun ht => ?_)
      · rw [if_pos ht] at hs
        cases mx_jp_eq hs
        exact mx_jx hB ok.2.2 K hR hS hL
      · rw [if_neg ht] at hs
        cases mx_go_eq hs
        exact mx_nx hp K hR hS hL
    · refine fun H locs ls hR hS hL => lv_icmp_ge hx hb hd ok.2.1 (fun ht => ?_) (fun ht => ?_)
      · rw [if_pos ht] at hs
        cases mx_jp_eq hs
        exact mx_jx hB ok.2.2 K hR hS hL
      · rw [if_neg ht] at hs
        cases mx_go_eq hs
        exact mx_nx hp K hR hS hL
    · refine fun H locs ls hR hS hL => lv_icmp_gt hx hb hd ok.2.1 (fun ht => ?_) (fun ht => ?_)
      · rw [if_pos ht] at hs
        cases mx_jp_eq hs
        exact mx_jx hB ok.2.2 K hR hS hL
      · rw [if_neg ht] at hs
        cases mx_go_eq hs
        exact mx_nx hp K hR hS hL
    · refine fun H locs ls hR hS hL => lv_icmp_le hx hb hd ok.2.1 (fun ht => ?_) (fun ht => ?_)
      · rw [if_pos ht] at hs
        cases mx_jp_eq hs
        exact mx_jx hB ok.2.2 K hR hS hL
      · rw [if_neg ht] at hs
        cases mx_go_eq hs
        exact mx_nx hp K hR hS hL
  · cases hs
theorem mx_s_ifc (C : mx_Cx p s m args meth c R D B ρ cs M sc) (hB : mx_okB M = true) {q : ClassFile.Cond} {off : Int} (hi : i.2.1 = .ifCond q off) (hd : decode M.2.2.1 i.1 = .ok (i.2.1, i.2.2.1)) (ok : mx_okO M i = true) (hp : mx_pc r = i.1 + i.2.2.1) (hs : mx_sIf M i r loc st h k z q = some (.inl c')) (K : mx_Sim p l e R s m args below meth c Q D B ρ cs M c') : mx_Sim p l e R s m args below meth c Q D B ρ cs M (i :: r, loc, st, h, k, z) := by
  obtain ⟨hx, hb, hml, hown, hts, hK, hnm, hRm, hρ, hBs, hsc, hsx⟩ := C
  unfold mx_okO mx_okJ at ok
  rw [hi] at ok hd
  simp only [Bool.and_eq_true, decide_eq_true_eq] at ok
  rw [ok.1] at hd hp
  unfold mx_sIf at hs
  split at hs
  · cases q <;> simp only [mx_cond, decide_eq_true_eq] at hs
    · refine fun H locs ls hR hS hL => lv_if_eq hx hb hd ok.2.1 (fun ht => ?_) (fun ht => ?_)
      · rw [if_pos ht] at hs
        cases mx_jp_eq hs
        exact mx_jx hB ok.2.2 K hR hS hL
      · rw [if_neg ht] at hs
        cases mx_go_eq hs
        exact mx_nx hp K hR hS hL
    · refine fun H locs ls hR hS hL => lv_if_ne hx hb hd ok.2.1 (fun ht => ?_) (fun ht => ?_)
      · rw [if_pos ht] at hs
        cases mx_jp_eq hs
        exact mx_jx hB ok.2.2 K hR hS hL
      · rw [if_neg (fun z => z ht)] at hs
        cases mx_go_eq hs
        exact mx_nx hp K hR hS hL
    · refine fun H locs ls hR hS hL => lv_if_lt hx hb hd ok.2.1 (fun ht => ?_) (fun ht => ?_)
      · rw [if_pos ht] at hs
        cases mx_jp_eq hs
        exact mx_jx hB ok.2.2 K hR hS hL
      · rw [if_neg ht] at hs
        cases mx_go_eq hs
        exact mx_nx hp K hR hS hL
    · refine fun H locs ls hR hS hL => lv_if_ge hx hb hd ok.2.1 (fun ht => ?_) (fun ht => ?_)
      · rw [if_pos ht] at hs
        cases mx_jp_eq hs
        exact mx_jx hB ok.2.2 K hR hS hL
      · rw [if_neg ht] at hs
        cases mx_go_eq hs
        exact mx_nx hp K hR hS hL
    · refine fun H locs ls hR hS hL => lv_if_gt hx hb hd ok.2.1 (fun ht => ?_) (fun ht => ?_)
      · rw [if_pos ht] at hs
        cases mx_jp_eq hs
        exact mx_jx hB ok.2.2 K hR hS hL
      · rw [if_neg ht] at hs
        cases mx_go_eq hs
        exact mx_nx hp K hR hS hL
    · refine fun H locs ls hR hS hL => lv_if_le hx hb hd ok.2.1 (fun ht => ?_) (fun ht => ?_)
      · rw [if_pos ht] at hs
        cases mx_jp_eq hs
        exact mx_jx hB ok.2.2 K hR hS hL
      · rw [if_neg ht] at hs
        cases mx_go_eq hs
        exact mx_nx hp K hR hS hL
  · cases hs
theorem mx_s_ifnull (C : mx_Cx p s m args meth c R D B ρ cs M sc) (hB : mx_okB M = true) {off : Int} (hi : i.2.1 = .ifnull off) (hd : decode M.2.2.1 i.1 = .ok (i.2.1, i.2.2.1)) (ok : mx_okO M i = true) (hp : mx_pc r = i.1 + i.2.2.1) (hs : mx_sIfnull M i r loc st h k z = some (.inl c')) (K : mx_Sim p l e R s m args below meth c Q D B ρ cs M c') : mx_Sim p l e R s m args below meth c Q D B ρ cs M (i :: r, loc, st, h, k, z) := by
  obtain ⟨hx, hb, hml, hown, hts, hK, hnm, hRm, hρ, hBs, hsc, hsx⟩ := C
  unfold mx_okO mx_okJ at ok
  rw [hi] at ok hd
  simp only [Bool.and_eq_true, decide_eq_true_eq] at ok
  rw [ok.1] at hd hp
  unfold mx_sIfnull at hs
  split at hs
  · skip
    cases mx_jp_eq hs
    exact fun H locs ls hR hS hL => lv_ifnullN hx hb hd ok.2.1 (mx_jx hB ok.2.2 K hR hS hL)
  · skip
    cases mx_go_eq hs
    exact fun H locs ls hR hS hL => lv_ifnull hx hb hd (mx_nx hp K hR hS hL)
  · cases hs
theorem mx_s_ifnonnull (C : mx_Cx p s m args meth c R D B ρ cs M sc) (hB : mx_okB M = true) {off : Int} (hi : i.2.1 = .ifnonnull off) (hd : decode M.2.2.1 i.1 = .ok (i.2.1, i.2.2.1)) (ok : mx_okO M i = true) (hp : mx_pc r = i.1 + i.2.2.1) (hs : mx_sIfnn M i r loc st h k z = some (.inl c')) (K : mx_Sim p l e R s m args below meth c Q D B ρ cs M c') : mx_Sim p l e R s m args below meth c Q D B ρ cs M (i :: r, loc, st, h, k, z) := by
  obtain ⟨hx, hb, hml, hown, hts, hK, hnm, hRm, hρ, hBs, hsc, hsx⟩ := C
  unfold mx_okO mx_okJ at ok
  rw [hi] at ok hd
  simp only [Bool.and_eq_true, decide_eq_true_eq] at ok
  rw [ok.1] at hd hp
  unfold mx_sIfnn at hs
  split at hs
  · skip
    cases mx_jp_eq hs
    exact fun H locs ls hR hS hL => lv_ifnonnull hx hb hd ok.2.1 (mx_jx hB ok.2.2 K hR hS hL)
  · skip
    cases mx_go_eq hs
    exact fun H locs ls hR hS hL => lv_ifnonnullN hx hb hd (mx_nx hp K hR hS hL)
  · cases hs
end Sim
end
section
/-! each step of the light machine is one of the machine's: the heap -/
theorem mx_u (c : Nat) (hc : c < 13) : ∀ w ∈ u_ws (mx_Cn c) (mx_Tn c) (mx_nf c), w ∈ mx_tb := by
  have key : ∀ c, c < 13 → (u_ws (mx_Cn c) (mx_Tn c) (mx_nf c)).all (fun w => decide (w ∈ lw_tbl) && mx_wk w) = true := by decide +kernel
  intro w hw
  have h1 := List.all_eq_true.mp (key c hc) w hw
  simp only [Bool.and_eq_true, decide_eq_true_eq] at h1
  exact List.mem_filter.mpr h1
theorem mx_y (c : Nat) (hc : c < 13) : ∀ k, k < mx_nf c → parseFieldDescriptor (mx_Tn c k).2.2.1 = some (mx_Yn c k) := by
  have key : ∀ c, c < 13 → ∀ k, k < mx_nf c → parseFieldDescriptor (mx_Tn c k).2.2.1 = some (mx_Yn c k) := by decide +kernel
  exact key c hc
theorem mx_n (c : Nat) (hc : c < 13) : ∀ a, a < mx_nf c → ∀ b, b < mx_nf c → a ≠ b → (mx_Tn c a).2.1 ≠ (mx_Tn c b).2.1 := by
  have key : ∀ c, c < 13 → ∀ a, a < mx_nf c → ∀ b, b < mx_nf c → a ≠ b → (mx_Tn c a).2.1 ≠ (mx_Tn c b).2.1 := by decide +kernel
  exact key c hc
theorem mx_k0 (c : Nat) (hc : c < 13) : ∀ k, k < mx_nf c → (mx_fk c k = 0 → mx_Yn c k = .int) ∧ (mx_fk c k = 2 → mx_Yn c k = .boolean) ∧ (mx_fk c k = 1 → (mx_Yn c k).isReference = true) ∧ (mx_fk c k = 0 ∨ mx_fk c k = 1 ∨ mx_fk c k = 2) := by
  have key : ∀ c, c < 13 → ∀ k, k < mx_nf c → (mx_fk c k = 0 → mx_Yn c k = .int) ∧ (mx_fk c k = 2 → mx_Yn c k = .boolean) ∧ (mx_fk c k = 1 → (mx_Yn c k).isReference = true) ∧ (mx_fk c k = 0 ∨ mx_fk c k = 1 ∨ mx_fk c k = 2) := by decide +kernel
  exact key c hc
theorem mx_fit_ref {t : FieldType} (h : t.isReference = true) (a : Nat) : narrow t (.ref a) = .ref a ∧ fits t (.ref a) = true := by
  cases t <;> first | exact ⟨rfl, rfl⟩ | cases h
theorem mx_vp_in {j : Int32} {n : Nat} (h : 0 ≤ j ∧ j.toNatClampNeg < n) : vp_in j n := by
  rintro (q | q)
  · exact absurd h.1 (Int32.not_le.mpr q)
  · omega
section Sim
variable {p : Program} {l : Launch} {e : Env} {R : Room} {s : State} {m : MethodId} {args : Array Value} {below : List Frame} {meth : Method} {c : Code} {Q : State → Prop} {D : va_G} {B : Nat} {ρ : Nat → Nat} {cs : mx_Cs} {M : mx_Mt} {sc : mx_Sc}
variable {i : mx_In} {r : List mx_In} {loc : mx_Lc} {st : List Value} {h : mx_Hp} {k z : Nat} {c' : mx_Cf}
theorem mx_rho_lt (hρ : ∀ i, i < 1000 → ρ i = B + i) {H : Heap} (hR : mx_Rep D B ρ cs h H) {o : Nat} (ho : o < h.1) : ρ o = B + o := hρ o (by have := hR.1; omega)
/-- the heap behind a write into cell o -/
theorem mx_Rep_set {H1 : Heap} {h' : mx_Hp} {o : Nat} {e1 : va_E} (hn : h'.1 = h.1) (h130 : h.1 ≤ 130) (hz : H1.size = B + h.1) (ho : o < h.1) (he : mx_E ρ cs h' o = e1) (hoth : ∀ j, j ≠ o → mx_E ρ cs h' j = mx_E ρ cs h j) (hP : va_P D mx_cl ((mx_W B ρ cs h).set o (B + o, e1)) H1) : mx_Rep D B ρ cs h' H1 := by
  refine ⟨by omega, by omega, ?_⟩
  rw [mx_W_set hn ho he hoth] at hP
  exact hP
theorem mx_s_get (C : mx_Cx p s m args meth c R D B ρ cs M sc) {n : Nat} (hi : i.2.1 = .getfield n) (hd : decode M.2.2.1 i.1 = .ok (i.2.1, i.2.2.1)) (ok : mx_okO M i = true) (hp : mx_pc r = i.1 + i.2.2.1) (hs : mx_sGet i r loc st h k z = some (.inl c')) (K : mx_Sim p l e R s m args below meth c Q D B ρ cs M c') : mx_Sim p l e R s m args below meth c Q D B ρ cs M (i :: r, loc, st, h, k, z) := by
  obtain ⟨hx, hb, hml, hown, hts, hK, hnm, hRm, hρ, hBs, hsc, hsx⟩ := C
  unfold mx_okO mx_okF at ok
  rw [hi] at ok hd
  simp only [Bool.and_eq_true, Bool.or_eq_true, decide_eq_true_eq] at ok
  obtain ⟨ok1, ⟨ok2, ok3⟩, ok4⟩ := ok
  rw [ok1] at hd hp
  unfold mx_sGet at hs
  split at hs
  · rename_i o s'
    split at hs
    · rename_i hk1
      split at hs
      · rename_i v hv
        cases mx_go_eq hs
        unfold mx_gr at hv
        split at hv
        · rename_i hc
          refine fun H locs ls hR hS hL => ?_
          have he := mx_W_get (B := B) (ρ := ρ) (cs := cs) hc.1
          rw [mx_E_obj hc.2.1] at he
          have hf : ((List.range (mx_nf i.2.2.2.1)).map (fun k => mx_fv ρ h o i.2.2.2.1 k))[i.2.2.2.2.1]? = some (.ref (ρ v)) := by
            simp [ok3, mx_fv, hk1, hv, va_rf]
          have hg : W p l e R s m args below meth c H locs k z Q (F0 m i.1 ls (.ref (B + o) :: s'.map (mx_rv ρ))) := by
            rcases ok4 with q | q
            · exact va_get hx hb hts (mx_u _ ok2) hown hK hR.2.2 o he (mx_cl_get ok2) i.2.2.2.2.1 ok3 (hts _ (mx_at_in q.1)) (fun _ h => h) hf hd (mx_nx hp K hR hS hL)
            · exact va_getN hx hb hts (mx_u _ ok2) hown hK hR.2.2 o he (mx_cl_get ok2) i.2.2.2.2.1 ok3 (hts _ (mx_at_in q.1)) (fun _ h => h) hf hd (mx_nx hp K hR hS hL)
          rw [← mx_rho_lt hρ hR hc.1] at hg
          exact hg
        · cases hv
      · cases hs
    · rename_i hk1
      split at hs
      · rename_i v hv
        cases mx_go_eq hs
        unfold mx_gi at hv
        split at hv
        · rename_i hc
          cases hv
          refine fun H locs ls hR hS hL => ?_
          have he := mx_W_get (B := B) (ρ := ρ) (cs := cs) hc.1
          rw [mx_E_obj hc.2.1] at he
          have hf : ((List.range (mx_nf i.2.2.2.1)).map (fun k => mx_fv ρ h o i.2.2.2.1 k))[i.2.2.2.2.1]? = some (.int (h.2.1 o i.2.2.2.2.1)) := by
            simp [ok3, mx_fv, hk1]
          have hg : W p l e R s m args below meth c H locs k z Q (F0 m i.1 ls (.ref (B + o) :: s'.map (mx_rv ρ))) := by
            rcases ok4 with q | q
            · exact va_get hx hb hts (mx_u _ ok2) hown hK hR.2.2 o he (mx_cl_get ok2) i.2.2.2.2.1 ok3 (hts _ (mx_at_in q.1)) (fun _ h => h) hf hd (mx_nx hp K hR hS hL)
            · exact va_getN hx hb hts (mx_u _ ok2) hown hK hR.2.2 o he (mx_cl_get ok2) i.2.2.2.2.1 ok3 (hts _ (mx_at_in q.1)) (fun _ h => h) hf hd (mx_nx hp K hR hS hL)
          rw [← mx_rho_lt hρ hR hc.1] at hg
          exact hg
        · cases hv
      · cases hs
  · cases hs
/-- the field's write, whichever the link -/
theorem mx_putW (C : mx_Cx p s m args meth c R D B ρ cs M sc) {n : Nat} (hd : decode M.2.2.1 i.1 = .ok (.putfield n, 3)) (ok : mx_okF M i n true = true) {o : Nat} {v : Value} {s' : List Value} {H : Heap} {locs : List Loc} {ls : Array Slot} (hR : mx_Rep D B ρ cs h H) (hS : va_S (mx_A B) s.heap H locs) (ho : o < h.1) (hl : (mx_lay o).1 = i.2.2.2.1 + 3)
    (hn : narrow (mx_Yn i.2.2.2.1 i.2.2.2.2.1) v = v) (hfit : fits (mx_Yn i.2.2.2.1 i.2.2.2.2.1) v = true)
    (kk : ∀ (H1 : Heap) (locs1 : List Loc), va_P D mx_cl ((mx_W B ρ cs h).set o (B + o, .inr (i.2.2.2.1, ((List.range (mx_nf i.2.2.2.1)).map (fun k => mx_fv ρ h o i.2.2.2.1 k)).set i.2.2.2.2.1 v))) H1 → H1.size = H.size → va_S (mx_A B) s.heap H1 locs1 → W p l e R s m args below meth c H1 locs1 k z Q (F0 m (i.1 + 3) ls s')) : W p l e R s m args below meth c H locs k z Q (F0 m i.1 ls (v :: .ref (ρ o) :: s')) := by
  obtain ⟨hx, hb, hml, hown, hts, hK, hnm, hRm, hρ, hBs, hsc, hsx⟩ := C
  unfold mx_okF at ok
  simp only [Bool.and_eq_true, Bool.or_eq_true, decide_eq_true_eq, Bool.not_true, Bool.false_eq_true, false_or, Bool.not_eq_true'] at ok
  obtain ⟨⟨ok2, ok3⟩, ok4⟩ := ok
  have he := mx_W_get (B := B) (ρ := ρ) (cs := cs) ho
  rw [mx_E_obj hl] at he
  rw [mx_rho_lt hρ hR ho]
  have hin := mx_u _ ok2
  have hc := mx_cl_get ok2
  have hP := hR.2.2
  have hap := va_apart (own := mx_own M) hts hin (mx_Yn i.2.2.2.1) (mx_y _ ok2) (mx_n _ ok2) hK hc
  obtain ⟨r0, h1, cell, q1, q2, q3, q4⟩ := hP o _ he
  have hr : r0 = (mx_Cn i.2.2.2.1, mx_Tn i.2.2.2.1, mx_nf i.2.2.2.1) := Option.some.inj (h1.symm.trans hc)
  subst hr
  obtain ⟨hS', hfc, kC, hkC, hkind⟩ := hK.1 i.2.2.2.1 _ hc
  obtain ⟨cf, kf, fi, f, hi, hsl⟩ := hS' i.2.2.2.2.1 ok3
  have hlay := hts _ (hin _ (u_in_lay ok3))
  unfold u_lay at hlay
  have hst := (u_facts hfc hkC (u_lays hts hin ok3) hi).1
  have hl2 : i.2.2.2.2.1 < ((List.range (mx_nf i.2.2.2.1)).map (fun k => mx_fv ρ h o i.2.2.2.1 k)).length := by simpa using ok3
  have fin : ∀ H' : Heap, H'[B + o]? = some (cell.setSlot f.slot v) → H'.size = H.size → (∀ q, q ≠ B + o → H'[q]? = H[q]?) → W p l e R s m args below meth c H' (locs ++ [⟨B + o, f.slot⟩]) k z Q (F0 m (i.1 + 3) ls s') := by
    intro H' e1 e2 e3
    rw [hsl] at e1 ⊢
    exact kk H' _ (hP.set mx_W_D he ⟨_, hc, t_OB.to (V := updV (vp_V _) i.2.2.2.2.1 v) ⟨_, e1, q2, q3, t_set q4 hap ok3 v⟩ (fun j _ => vp_updV_set hl2 v j)⟩ e3) e2 (hS.put e2 e3 (Nat.le_add_right _ _))
  rcases ok4 with ⟨w, q⟩ | ⟨w, q⟩
  · rcases q with hfin | ⟨hdecl, hin2⟩
    · rw [if_neg (by rw [hfin]; decide)] at hlay
      have h6 := u_store hfc hkC hkind hlay hi (mx_y _ ok2 _ ok3) hn hfit
      exact W.putK hx hb (f := f) ⟨hown, hts _ (mx_at_in w), ⟨_, _, _, hi⟩, hst⟩ (by rw [q2]; exact h6) q1 q3 (by rw [hsl]; exact k2_hasslot (q4 _ ok3)) rfl rfl hd fin
    · by_cases hfin : (mx_Tn i.2.2.2.1 i.2.2.2.2.1).2.2.2 = true
      · rw [if_pos hfin] at hlay
        have hcf : m.cls = cf := by
          obtain ⟨_, _, c9, _, _, _, -, -, hf9, -, -, -, hown2, -⟩ := Cond.laysFinal_spec hlay
          have e1 : c9 = cf := by have := hi.symm.trans hf9; simp at this; exact this.1.symm
          rw [hdecl] at hown2
          rw [← e1]; exact Option.some.inj (hown.symm.trans hown2)
        have h6 := u_fits hfc hkC hkind (Or.inr hlay) hi (mx_y _ ok2 _ ok3) hn hfit
        exact W.putFinK hx hb hown (hts _ (mx_at_in w)) hi hst hcf (by rw [hnm]; exact hin2) (by rw [q2]; exact h6) q1 q3 (by rw [hsl]; exact k2_hasslot (q4 _ ok3)) rfl rfl hd fin
      · rw [if_neg hfin] at hlay
        have h6 := u_store hfc hkC hkind hlay hi (mx_y _ ok2 _ ok3) hn hfit
        exact W.putK hx hb (f := f) ⟨hown, hts _ (mx_at_in w), ⟨_, _, _, hi⟩, hst⟩ (by rw [q2]; exact h6) q1 q3 (by rw [hsl]; exact k2_hasslot (q4 _ ok3)) rfl rfl hd fin
  · rw [if_neg (by rw [q]; decide)] at hlay
    have h6 := u_store hfc hkC hkind hlay hi (mx_y _ ok2 _ ok3) hn hfit
    exact va_WputK hx hb (f := f) hown (hts _ (mx_at_in w)) hi hst (by rw [q2]; exact h6) q1 q3 (by rw [hsl]; exact k2_hasslot (q4 _ ok3)) rfl rfl hd fin
theorem mx_s_put (C : mx_Cx p s m args meth c R D B ρ cs M sc) {n : Nat} (hi : i.2.1 = .putfield n) (hd : decode M.2.2.1 i.1 = .ok (i.2.1, i.2.2.1)) (ok : mx_okO M i = true) (hp : mx_pc r = i.1 + i.2.2.1) (hs : mx_sPut i r loc st h k z = some (.inl c')) (K : mx_Sim p l e R s m args below meth c Q D B ρ cs M c') : mx_Sim p l e R s m args below meth c Q D B ρ cs M (i :: r, loc, st, h, k, z) := by
  have C0 := C
  obtain ⟨hx, hb, hml, hown, hts, hK, hnm, hRm, hρ, hBs, hsc, hsx⟩ := C
  unfold mx_okO at ok
  rw [hi] at ok hd
  simp only [Bool.and_eq_true, decide_eq_true_eq] at ok
  obtain ⟨ok1, ok2⟩ := ok
  rw [ok1] at hd hp
  unfold mx_sPut at hs
  split at hs
  · rename_i v o s'
    split at hs
    · rename_i h' hv
      cases mx_go_eq hs
      unfold mx_pi at hv
      split at hv
      · rename_i hc
        cases hv
        have hb13 := mx_fk_lt (c := i.2.2.2.1) (k := i.2.2.2.2.1) (by rcases hc.2.2 with q | q <;> omega)
        have hkk := mx_k0 _ hb13.1 _ hb13.2
        have hne1 : ¬ mx_fk i.2.2.2.1 i.2.2.2.2.1 = 1 := by rcases hc.2.2 with q | q <;> omega
        have hnf : narrow (mx_Yn i.2.2.2.1 i.2.2.2.2.1) (.int v) = .int v ∧ fits (mx_Yn i.2.2.2.1 i.2.2.2.2.1) (.int v) = true := by
          rcases hc.2.2 with q | ⟨q, hv⟩
          · rw [hkk.1 q]; exact ⟨rfl, rfl⟩
          · rw [hkk.2.1 q]
            rcases hv with rfl | rfl <;> exact ⟨rfl, rfl⟩
        refine fun H locs ls hR hS hL => mx_putW C0 hd ok2 hR hS hc.1 hc.2.1 hnf.1 hnf.2 (fun H1 locs1 hP1 hz1 hS1 => ?_)
        refine mx_nx hp K (mx_Rep_set (h := h) rfl hR.1 (by rw [hz1]; exact hR.2.1) hc.1 ?_ (fun j hj => mx_E_cong (mx_up_row hj) rfl) hP1) hS1 hL
        rw [mx_E_obj hc.2.1]
        refine congrArg (fun q => Sum.inr (i.2.2.2.1, q)) ?_
        rw [← mx_range_set (f := fun k => mx_fv ρ h o i.2.2.2.1 k) hb13.2]
        · simp [mx_fv, hne1, mx_up, mx_rv]
        · intro j hj
          simp [mx_fv, mx_up, hj]
      · cases hv
    · cases hs
  · rename_i v o s'
    split at hs
    · rename_i h' hv
      cases mx_go_eq hs
      unfold mx_pr at hv
      split at hv
      · rename_i hc
        cases hv
        have hb13 := mx_fk_lt (c := i.2.2.2.1) (k := i.2.2.2.2.1) (by omega)
        have hkk := mx_k0 _ hb13.1 _ hb13.2
        have hnf := mx_fit_ref (hkk.2.2.1 hc.2.2) (ρ v)
        refine fun H locs ls hR hS hL => mx_putW C0 hd ok2 hR hS hc.1 hc.2.1 hnf.1 hnf.2 (fun H1 locs1 hP1 hz1 hS1 => ?_)
        refine mx_nx hp K (mx_Rep_set (h := h) rfl hR.1 (by rw [hz1]; exact hR.2.1) hc.1 ?_ (fun j hj => mx_E_cong rfl (mx_up_row hj)) hP1) hS1 hL
        rw [mx_E_obj hc.2.1]
        refine congrArg (fun q => Sum.inr (i.2.2.2.1, q)) ?_
        rw [← mx_range_set (f := fun k => mx_fv ρ h o i.2.2.2.1 k) hb13.2]
        · simp [mx_fv, hc.2.2, mx_up, va_rf, mx_rv]
        · intro j hj
          simp [mx_fv, mx_up, hj]
      · cases hv
    · cases hs
  · cases hs
theorem mx_s_iald (C : mx_Cx p s m args meth c R D B ρ cs M sc) (hi : i.2.1 = .iaload) (hd : decode M.2.2.1 i.1 = .ok (i.2.1, i.2.2.1)) (ok : mx_okO M i = true) (hp : mx_pc r = i.1 + i.2.2.1) (hs : mx_sIald sc r loc st h k z = some (.inl c')) (K : mx_Sim p l e R s m args below meth c Q D B ρ cs M c') : mx_Sim p l e R s m args below meth c Q D B ρ cs M (i :: r, loc, st, h, k, z) := by
  obtain ⟨hx, hb, hml, hown, hts, hK, hnm, hRm, hρ, hBs, hsc, hsx⟩ := C
  unfold mx_okO at ok
  rw [hi] at ok hd
  simp only [Bool.and_eq_true, decide_eq_true_eq] at ok
  rw [ok] at hd hp
  unfold mx_sIald at hs
  split at hs
  · rename_i j o s'
    split at hs
    · rename_i hscr
      split at hs
      · rename_i hc
        cases mx_go_eq hs
        obtain ⟨x1, x2, x3⟩ := hsc hc.1
        subst hscr
        exact fun H locs ls hR hS hL => va_sld hx hb x1 x2 (A := mx_A B) (by unfold mx_A; omega) hS (mx_vp_in hc.2) hd (mx_nx hp K hR hS hL)
      · cases hs
    · split at hs
      · rename_i v hv
        cases mx_go_eq hs
        unfold mx_al at hv
        split at hv
        · rename_i hc
          cases hv
          refine fun H locs ls hR hS hL => ?_
          have he := mx_W_get (B := B) (ρ := ρ) (cs := cs) hc.1
          rw [mx_E_arr hc.2.1] at he
          have hg : W p l e R s m args below meth c H locs k z Q (F0 m i.1 ls (.int j :: .ref (B + o) :: s'.map (mx_rv ρ))) := va_iald hx hb hK hR.2.2 o 0 he rfl (mx_vp_in hc.2.2) hd (mx_nx hp K hR hS hL)
          rw [← mx_rho_lt hρ hR hc.1] at hg
          exact hg
        · cases hv
      · cases hs
  · cases hs
theorem mx_s_iast (C : mx_Cx p s m args meth c R D B ρ cs M sc) (hi : i.2.1 = .iastore) (hd : decode M.2.2.1 i.1 = .ok (i.2.1, i.2.2.1)) (ok : mx_okO M i = true) (hp : mx_pc r = i.1 + i.2.2.1) (hs : mx_sIast r loc st h k z = some (.inl c')) (K : mx_Sim p l e R s m args below meth c Q D B ρ cs M c') : mx_Sim p l e R s m args below meth c Q D B ρ cs M (i :: r, loc, st, h, k, z) := by
  obtain ⟨hx, hb, hml, hown, hts, hK, hnm, hRm, hρ, hBs, hsc, hsx⟩ := C
  unfold mx_okO at ok
  rw [hi] at ok hd
  simp only [Bool.and_eq_true, decide_eq_true_eq] at ok
  rw [ok] at hd hp
  unfold mx_sIast at hs
  split at hs
  · rename_i v j o s'
    split at hs
    · rename_i h' hv
      cases mx_go_eq hs
      unfold mx_as at hv
      split at hv
      · rename_i hc
        cases hv
        refine fun H locs ls hR hS hL => ?_
        have he := mx_W_get (B := B) (ρ := ρ) (cs := cs) hc.1
        rw [mx_E_arr hc.2.1] at he
        have hin := mx_vp_in hc.2.2
        have hP := hR.2.2
        have hg : W p l e R s m args below meth c H locs k z Q (F0 m i.1 ls (.int v :: .int j :: .ref (B + o) :: s'.map (mx_rv ρ))) := by
          refine W.iast hx hb (hP o _ he) ((hK.2 0 _ rfl).1 (mx_lay o).2 (fun j => .int (h.2.1 o j))) (fun q => by cases q) (by show ¬ (j < 0 ∨ (arrV _ _ _).slots.size ≤ _); rw [arrV_size]; exact hin) rfl rfl hd fun H1 e z1 oq => ?_
          refine mx_nx hp K (mx_Rep_set (h := h) (o := o) (e1 := .inl (cs.1, (mx_lay o).2, .inl (upd (h.2.1 o) j.toNatClampNeg v))) rfl hR.1 (by rw [z1]; exact hR.2.1) hc.1 ?_ (fun j hj => mx_E_cong (mx_up_row hj) rfl) (hP.set mx_W_D he ?_ oq)) (hS.put z1 oq (Nat.le_add_right _ _)) hL
          · rw [mx_E_arr hc.2.1]
            dsimp only
            rw [mx_up_upd]
          · show H1[B + o]? = some (vp_cell _ _)
            rw [e]
            rw [vp_cell_i, vp_cell_i, arrV_store]
            congr 2
            funext q
            by_cases hq : q = j.toNatClampNeg
            · subst hq
              simp [updV, upd]
            · simp [updV, upd, hq]
        rw [← mx_rho_lt hρ hR hc.1] at hg
        exact hg
      · cases hv
    · cases hs
  · cases hs
theorem mx_s_aald (C : mx_Cx p s m args meth c R D B ρ cs M sc) (hi : i.2.1 = .aaload) (hd : decode M.2.2.1 i.1 = .ok (i.2.1, i.2.2.1)) (ok : mx_okO M i = true) (hp : mx_pc r = i.1 + i.2.2.1) (hs : mx_sAald r loc st h k z = some (.inl c')) (K : mx_Sim p l e R s m args below meth c Q D B ρ cs M c') : mx_Sim p l e R s m args below meth c Q D B ρ cs M (i :: r, loc, st, h, k, z) := by
  obtain ⟨hx, hb, hml, hown, hts, hK, hnm, hRm, hρ, hBs, hsc, hsx⟩ := C
  unfold mx_okO at ok
  rw [hi] at ok hd
  simp only [Bool.and_eq_true, decide_eq_true_eq] at ok
  rw [ok] at hd hp
  unfold mx_sAald at hs
  split at hs
  · rename_i j o s'
    split at hs
    · rename_i v hv
      cases mx_go_eq hs
      unfold mx_rl at hv
      split at hv
      · rename_i hc
        refine fun H locs ls hR hS hL => ?_
        have he := mx_W_get (B := B) (ρ := ρ) (cs := cs) hc.1
        have hin := mx_vp_in hc.2.2
        have hcl : ∃ (t0 : Nat) (cA : ClassId) (ty : FieldType), (mx_tys cs)[t0]? = some (cA, ty) ∧ ty.isReference = true ∧ mx_E ρ cs h o = .inl (cA, (mx_lay o).2, .inr (.inr (.inr (.inr (fun j => (h.2.2 o j).map ρ))))) := by
          rcases hc.2.1 with q | q
          · exact ⟨1, _, _, rfl, rfl, mx_E_arS q⟩
          · exact ⟨2, _, _, rfl, rfl, mx_E_arJ q⟩
        obtain ⟨t0, cA, ty, ht, hty, hE⟩ := hcl
        rw [hE] at he
        have hcell := hR.2.2 o _ he
        have hg : W p l e R s m args below meth c H locs k z Q (F0 m i.1 ls (.int j :: .ref (B + o) :: s'.map (mx_rv ρ))) := by
          refine W.aald (v := .ref (ρ v)) hx hb hcell ((hK.2 t0 _ ht).1 (mx_lay o).2 (fun j => va_rf ((h.2.2 o j).map ρ))) hty (fun q => by cases q) (by show ¬ (j < 0 ∨ (arrV _ _ _).slots.size ≤ _); rw [arrV_size]; exact hin) (by show (arrV _ _ _).slots[_]? = _; rw [arrV_read _ _ hc.2.2.2]; dsimp only; rw [hv]; rfl) rfl rfl hd (mx_nx hp K hR hS hL)
        rw [← mx_rho_lt hρ hR hc.1] at hg
        exact hg
      · cases hv
    · cases hs
  · cases hs
theorem mx_s_aast (C : mx_Cx p s m args meth c R D B ρ cs M sc) (hi : i.2.1 = .aastore) (hd : decode M.2.2.1 i.1 = .ok (i.2.1, i.2.2.1)) (ok : mx_okO M i = true) (hp : mx_pc r = i.1 + i.2.2.1) (hs : mx_sAast r loc st h k z = some (.inl c')) (K : mx_Sim p l e R s m args below meth c Q D B ρ cs M c') : mx_Sim p l e R s m args below meth c Q D B ρ cs M (i :: r, loc, st, h, k, z) := by
  obtain ⟨hx, hb, hml, hown, hts, hK, hnm, hRm, hρ, hBs, hsc, hsx⟩ := C
  unfold mx_okO at ok
  rw [hi] at ok hd
  simp only [Bool.and_eq_true, decide_eq_true_eq] at ok
  rw [ok] at hd hp
  unfold mx_sAast at hs
  split at hs
  · rename_i v j o s'
    split at hs
    · rename_i h' hv
      cases mx_go_eq hs
      unfold mx_rs at hv
      split at hv
      · rename_i hc
        cases hv
        refine fun H locs ls hR hS hL => ?_
        have he := mx_W_get (B := B) (ρ := ρ) (cs := cs) hc.1
        rw [mx_E_arS hc.2.1] at he
        have hev := mx_W_get (B := B) (ρ := ρ) (cs := cs) hc.2.2.2.1
        rw [mx_E_obj (c := 9) hc.2.2.2.2] at hev
        have hin := mx_vp_in hc.2.2.1
        have hP := hR.2.2
        have hg : W p l e R s m args below meth c H locs k z Q (F0 m i.1 ls (.ref (B + v) :: .int j :: .ref (B + o) :: s'.map (mx_rv ρ))) := by
          have h0 : ¬ j < 0 := fun q => hin (Or.inl q)
          obtain ⟨r', hr', cellV, g1, g2, g3, -⟩ := hP v _ hev
          have hcls := (hK.1 9 _ rfl).2
          obtain ⟨kA, comp, k1, k2, k3, -⟩ := (hK.2 1 _ rfl).2
          have hcomp : comp = D.1 9 := Option.some.inj (k3.symm.trans hcls.1)
          subst hcomp
          obtain ⟨kC, hkC, -⟩ := hcls.2
          refine W.aast hx hb (hP o _ he) (fun q h => by cases h) (fun h => by cases h) k1 k2 rfl hkC ⟨h0, by show _ < (arrV _ _ _).slots.size; rw [arrV_size]; exact hc.2.2.1.2⟩ g1 (fun q h => by rw [g3] at h; cases h) (by rw [g2]; exact hkC) (by rw [g2]; exact va_assign hcls) rfl rfl hd fun H1 e z1 oq => ?_
          refine mx_nx hp K (mx_Rep_set (h := h) (o := o) (e1 := .inl (cs.2.1, (mx_lay o).2, .inr (.inr (.inr (.inr (va_up (fun j => (h.2.2 o j).map ρ) j.toNatClampNeg (some (B + v)))))))) rfl hR.1 (by rw [z1]; exact hR.2.1) hc.1 ?_ (fun j hj => mx_E_cong rfl (mx_up_row hj)) (hP.set mx_W_D he ?_ oq)) (hS.put z1 oq (Nat.le_add_right _ _)) hL
          · rw [mx_E_arS hc.2.1]
            have hfun : (fun q => (mx_up h.2.2 o j.toNatClampNeg (some v) o q).map ρ) = va_up (fun j => (h.2.2 o j).map ρ) j.toNatClampNeg (some (B + v)) := by
              funext q
              by_cases hq : q = j.toNatClampNeg
              · subst hq
                simp [mx_up, va_up, mx_rho_lt hρ hR hc.2.2.2.1]
              · simp [mx_up, va_up, hq]
            rw [hfun]
          · show H1[B + o]? = some (vp_cell _ _)
            rw [e]
            rw [vp_cell_q, vp_cell_q, arrV_store]
            congr 2
            funext q
            by_cases hq : q = j.toNatClampNeg
            · subst hq
              simp [updV, va_up, va_rf]
            · simp [updV, va_up, hq]
        rw [← mx_rho_lt hρ hR hc.1, ← mx_rho_lt hρ hR hc.2.2.2.1] at hg
        exact hg
      · cases hv
    · cases hs
  · cases hs
theorem mx_s_alen (C : mx_Cx p s m args meth c R D B ρ cs M sc) (hi : i.2.1 = .arraylength) (hd : decode M.2.2.1 i.1 = .ok (i.2.1, i.2.2.1)) (ok : mx_okO M i = true) (hp : mx_pc r = i.1 + i.2.2.1) (hs : mx_sAlen sc r loc st h k z = some (.inl c')) (K : mx_Sim p l e R s m args below meth c Q D B ρ cs M c') : mx_Sim p l e R s m args below meth c Q D B ρ cs M (i :: r, loc, st, h, k, z) := by
  obtain ⟨hx, hb, hml, hown, hts, hK, hnm, hRm, hρ, hBs, hsc, hsx⟩ := C
  unfold mx_okO at ok
  rw [hi] at ok hd
  simp only [Bool.and_eq_true, decide_eq_true_eq] at ok
  rw [ok] at hd hp
  unfold mx_sAlen at hs
  split at hs
  · rename_i o s'
    split at hs
    · rename_i hscr
      split at hs
      · rename_i hc
        cases mx_go_eq hs
        obtain ⟨x1, x2, x3⟩ := hsc hc
        subst hscr
        exact fun H locs ls hR hS hL => va_slen hx hb x1 x2 (A := mx_A B) (by unfold mx_A; omega) hS hd (mx_nx hp K hR hS hL)
      · cases hs
    · split at hs
      · rename_i v hv
        cases mx_go_eq hs
        unfold mx_ln at hv
        split at hv
        · rename_i hc
          cases hv
          refine fun H locs ls hR hS hL => ?_
          have he := mx_W_get (B := B) (ρ := ρ) (cs := cs) hc.1
          have hg : W p l e R s m args below meth c H locs k z Q (F0 m i.1 ls (.ref (B + o) :: s'.map (mx_rv ρ))) := by
            rcases hc.2 with q | q | q
            · rw [mx_E_arr q] at he
              exact va_alen hx hb hK hR.2.2 o 0 he rfl rfl hd (mx_nx hp K hR hS hL)
            · rw [mx_E_arS q] at he
              exact va_alen hx hb hK hR.2.2 o 1 he rfl rfl hd (mx_nx hp K hR hS hL)
            · rw [mx_E_arJ q] at he
              exact va_alen hx hb hK hR.2.2 o 2 he rfl rfl hd (mx_nx hp K hR hS hL)
          rw [← mx_rho_lt hρ hR hc.1] at hg
          exact hg
        · cases hv
      · cases hs
  · cases hs
/-- the heap behind a new cell -/
theorem mx_Rep_new {H H1 : Heap} (hR : mx_Rep D B ρ cs h H) (hz : H1.size = H.size + 1) (ho : ∀ q, q < H.size → H1[q]? = H[q]?) (h130 : h.1 < 130) (hnew : va_at D mx_cl (B + h.1, mx_E ρ cs (mx_new h) h.1) H1) : mx_Rep D B ρ cs (mx_new h) H1 := by
  have hz0 := hR.2.1
  refine ⟨h130, by show H1.size = B + (h.1 + 1); omega, fun j q hq => ?_⟩
  obtain ⟨hj, rfl⟩ := mx_W_inv hq
  by_cases hl : j < h.1
  · have h1 := hR.2.2 j _ (mx_W_get hl)
    have e1 : mx_E ρ cs (mx_new h) j = mx_E ρ cs h j := mx_E_cong (by funext a; simp [mx_new, mx_fr, Nat.ne_of_lt hl]) (by funext a; simp [mx_new, mx_fr, Nat.ne_of_lt hl])
    rw [e1]
    exact h1.kept (ho _ (by show B + j < H.size; omega))
  · have : j = h.1 := by
      have : j < h.1 + 1 := hj
      omega
    subst this
    exact hnew
theorem mx_S_new {H H1 : Heap} {locs : List Loc} (hS : va_S (mx_A B) s.heap H locs) (hz : H.size ≤ H1.size) (ho : ∀ q, q < H.size → H1[q]? = H[q]?) : va_S (mx_A B) s.heap H1 locs := ⟨Nat.le_trans hS.1 hz, fun x h1 h2 => (ho x (Nat.lt_of_lt_of_le h1 hS.1)).trans (hS.2.1 x h1 h2), hS.2.2⟩
theorem mx_default (c : Nat) (hc : c < 13) : ∀ k, k < mx_nf c → defaultValue (mx_Yn c k) = if mx_fk c k = 1 then .null else .int 0 := by
  have key : ∀ c, c < 13 → ∀ k, k < mx_nf c → defaultValue (mx_Yn c k) = if mx_fk c k = 1 then .null else .int 0 := by decide +kernel
  exact key c hc
theorem mx_s_new (C : mx_Cx p s m args meth c R D B ρ cs M sc) {n : Nat} (hi : i.2.1 = .new n) (hd : decode M.2.2.1 i.1 = .ok (i.2.1, i.2.2.1)) (ok : mx_okO M i = true) (hp : mx_pc r = i.1 + i.2.2.1) (hs : mx_sNew M i r loc st h k z = some (.inl c')) (K : mx_Sim p l e R s m args below meth c Q D B ρ cs M c') : mx_Sim p l e R s m args below meth c Q D B ρ cs M (i :: r, loc, st, h, k, z) := by
  obtain ⟨hx, hb, hml, hown, hts, hK, hnm, hRm, hρ, hBs, hsc, hsx⟩ := C
  unfold mx_okO at ok
  rw [hi] at ok hd
  simp only [Bool.and_eq_true, decide_eq_true_eq] at ok
  obtain ⟨⟨⟨ok1, ok2⟩, ok3⟩, ok4⟩ := ok
  rw [ok1] at hd hp
  unfold mx_sNew at hs
  split at hs
  · rename_i hc
    cases mx_go_eq hs
    refine fun H locs ls hR hS hL => ?_
    have hKn := hK.1 i.2.2.2.1 _ (mx_cl_get hc.2.1)
    have h130 : h.1 < 130 := mx_lay_lt (by rw [hc.1]; have := hc.2.1; omega)
    refine W.newcK hx hb hown (hts _ (mx_at_in ok2)) (hts _ (mx_at_in ok3)) (hts _ (mx_at_in ok4)) rfl hd (by rw [hRm]; exact hc.2.2.1) (by rw [hRm]; exact hc.2.2.2) hKn.2.1 rfl fun H1 kC hkC e1 z1 o1 => ?_
    have hw := mx_nx hp K (mx_Rep_new hR z1 o1 h130 ?_) (mx_S_new hS (by omega) o1) hL
    · have hz0 := hR.2.1
      have e2 : (Value.ref h.1 :: st).map (mx_rv ρ) = .ref H.size :: st.map (mx_rv ρ) := by
        show Value.ref (ρ h.1) :: _ = _
        rw [hρ h.1 (by omega), hz0]
      rw [e2] at hw
      exact hw
    · rw [mx_E_obj hc.1]
      refine ⟨_, mx_cl_get hc.2.1, ?_⟩
      have hb0 := u_born (mx_Yn i.2.2.2.1) hts (mx_u _ hc.2.1) hKn hkC e1 (mx_y _ hc.2.1)
      have hz0 := hR.2.1
      rw [← hz0]
      refine hb0.to (fun j hj => ?_)
      rw [mx_default _ hc.2.1 j hj]
      unfold vp_V
      rw [List.getD_eq_getElem?_getD]
      by_cases h1 : mx_fk i.2.2.2.1 j = 1
      · simp [hj, mx_fv, h1, mx_new, mx_fr, va_rf]
      · simp [hj, mx_fv, h1, mx_new, mx_fr]
  · cases hs
theorem mx_s_newa (C : mx_Cx p s m args meth c R D B ρ cs M sc) {n : ArrayType} (hi : i.2.1 = .newarray n) (hd : decode M.2.2.1 i.1 = .ok (i.2.1, i.2.2.1)) (ok : mx_okO M i = true) (hp : mx_pc r = i.1 + i.2.2.1) (hs : mx_sNewa M r loc st h k z = some (.inl c')) (K : mx_Sim p l e R s m args below meth c Q D B ρ cs M c') : mx_Sim p l e R s m args below meth c Q D B ρ cs M (i :: r, loc, st, h, k, z) := by
  obtain ⟨hx, hb, hml, hown, hts, hK, hnm, hRm, hρ, hBs, hsc, hsx⟩ := C
  unfold mx_okO at ok
  rw [hi] at ok hd
  simp only [Bool.and_eq_true, decide_eq_true_eq] at ok
  obtain ⟨⟨ok1, ok2⟩, ok3⟩ := ok
  rw [ok1] at hd hp
  subst ok2
  unfold mx_sNewa at hs
  split at hs
  · rename_i n s'
    split at hs
    · rename_i hc
      cases mx_go_eq hs
      refine fun H locs ls hR hS hL => ?_
      have h130 : h.1 < 130 := mx_lay_lt (by rw [hc.1]; exact fun q => by cases q)
      refine va_newaK (atype := .int) hx hb (hts _ (mx_at_in ok3)) rfl hd rfl (Int32.not_lt.mpr hc.2.1) rfl (by show _ * 4 ≤ _; have := hc.2.2.1; omega) (by rw [hRm]; exact hc.2.2.2.1) (by rw [hRm]; exact hc.2.2.2.2) rfl fun H1 cA e1 z1 o1 hAr hNm => ?_
      have hcI : cs.1 = cA := Option.some.inj ((hK.2 0 _ rfl).2.symm.trans hNm)
      have hw := mx_nx hp K (mx_Rep_new hR z1 o1 h130 ?_) (mx_S_new hS (by omega) o1) hL
      · have hz0 := hR.2.1
        have e2 : (Value.ref h.1 :: s').map (mx_rv ρ) = .ref H.size :: s'.map (mx_rv ρ) := by
          show Value.ref (ρ h.1) :: _ = _
          rw [hρ h.1 (by omega), hz0]
        rw [e2] at hw
        exact hw
      · rw [mx_E_arr (by rw [hc.1])]
        show H1[B + h.1]? = some (vp_cell _ _)
        rw [← hR.2.1, e1, vp_cell_i, hc.1, hcI]
        refine congrArg some (congrArg (arrV cA n.toNatClampNeg) (funext fun j => ?_))
        simp [mx_new, mx_fr, newarray.typeOf, defaultValue]
    · cases hs
  · cases hs
theorem mx_s_newq (C : mx_Cx p s m args meth c R D B ρ cs M sc) {n : Nat} (hi : i.2.1 = .anewarray n) (hd : decode M.2.2.1 i.1 = .ok (i.2.1, i.2.2.1)) (ok : mx_okO M i = true) (hp : mx_pc r = i.1 + i.2.2.1) (hs : mx_sNewq M r loc st h k z = some (.inl c')) (K : mx_Sim p l e R s m args below meth c Q D B ρ cs M c') : mx_Sim p l e R s m args below meth c Q D B ρ cs M (i :: r, loc, st, h, k, z) := by
  obtain ⟨hx, hb, hml, hown, hts, hK, hnm, hRm, hρ, hBs, hsc, hsx⟩ := C
  unfold mx_okO at ok
  rw [hi] at ok hd
  simp only [Bool.and_eq_true, decide_eq_true_eq] at ok
  obtain ⟨⟨ok1, ok2⟩, ok3⟩ := ok
  rw [ok1] at hd hp
  unfold mx_sNewq at hs
  split at hs
  · rename_i n s'
    split at hs
    · rename_i hc
      cases mx_go_eq hs
      refine fun H locs ls hR hS hL => ?_
      have h130 : h.1 < 130 := mx_lay_lt (by rw [hc.1]; exact fun q => by cases q)
      refine W.anew hx hb hown (hts _ (mx_at_in ok2)) (hts _ (mx_at_in ok3)) rfl hd rfl (Int32.not_lt.mpr hc.2.1) (by have := hc.2.2.1; omega) (by rw [hRm]; exact hc.2.2.2.1) (by rw [hRm]; exact hc.2.2.2.2) fun cA kA comp f1 f2 f3 f4 => ?_
      generalize hH1 : H.push ({ cls := cA, slots := Array.replicate n.toNatClampNeg .null, vm := .none } : Cell) = H1
      have z1 : H1.size = H.size + 1 := by rw [← hH1, Array.size_push]
      have e1 : H1[H.size]? = some (arrV cA n.toNatClampNeg (fun _ => .null)) := by rw [← hH1, Array.getElem?_push_size, ← arrV_new]
      have o1 : ∀ q : Nat, q < H.size → H1[q]? = H[q]? := fun q hq => by rw [← hH1, Array.getElem?_push, if_neg (Nat.ne_of_lt hq)]
      have hcS : cs.2.1 = cA := by
        obtain ⟨kA2, comp2, -, -, -, k4⟩ := (hK.2 1 _ rfl).2
        exact Option.some.inj (k4.symm.trans f1)
      have hw := mx_nx hp K (mx_Rep_new hR z1 o1 h130 ?_) (mx_S_new hS (by omega) o1) hL
      · have hz0 := hR.2.1
        have e2 : (Value.ref h.1 :: s').map (mx_rv ρ) = .ref H.size :: s'.map (mx_rv ρ) := by
          show Value.ref (ρ h.1) :: _ = _
          rw [hρ h.1 (by omega), hz0]
        rw [e2] at hw
        exact hw
      · rw [mx_E_arS (by rw [hc.1])]
        show H1[B + h.1]? = some (vp_cell _ _)
        rw [← hR.2.1, e1, vp_cell_q, hc.1, hcS]
        refine congrArg some (congrArg (arrV cA n.toNatClampNeg) (funext fun j => ?_))
        simp [mx_new, mx_fr, va_rf]
    · cases hs
  · cases hs
end Sim
end
section
/-! each step of the light machine is one of the machine's: switches, rows of rows, calls, returns -/
theorem mx_sw_spec {ps : List (Int × Int)} : ∀ {l : List (Int32 × Nat)} {pc : Nat} {x : Int32} {d : Nat}, mx_okK ps l pc = true → (∃ q ∈ ps, q.1 = x.toInt ∧ (pc : Int) + q.2 = (mx_sw l x d : Int) ∧ ∃ u ∈ l, mx_sw l x d = u.2) ∨ ((∀ q ∈ ps, q.1 ≠ x.toInt) ∧ mx_sw l x d = d) := by
  induction ps with
  | nil =>
    intro l pc x d h
    cases l with
    | nil => exact Or.inr ⟨fun q hq => (by cases hq), rfl⟩
    | cons b l => cases h
  | cons a ps ih =>
    intro l pc x d h
    cases l with
    | nil => cases h
    | cons b l =>
      simp only [mx_okK, Bool.and_eq_true, decide_eq_true_eq] at h
      by_cases hx : x = b.1
      · left
        refine ⟨a, List.mem_cons_self, by rw [h.1.1, hx], ?_, b, List.mem_cons_self, ?_⟩
        · simp only [mx_sw, if_pos hx]; exact h.1.2
        · simp only [mx_sw, if_pos hx]
      · have hne : a.1 ≠ x.toInt := by
          rw [h.1.1]
          exact fun q => hx (Int32.toInt_inj.mp q).symm
        simp only [mx_sw, if_neg hx]
        rcases ih (x := x) (d := d) h.2 with ⟨q, q1, q2, q3, u, q4, q5⟩ | ⟨q1, q2⟩
        · exact Or.inl ⟨q, List.mem_cons_of_mem _ q1, q2, q3, u, List.mem_cons_of_mem _ q4, q5⟩
        · refine Or.inr ⟨fun q hq => ?_, q2⟩
          rcases List.mem_cons.mp hq with rfl | hq
          · exact hne
          · exact q1 q hq
theorem mx_sw_look {ps : List (Int × Int)} : ∀ {l : List (Int32 × Nat)} {pc : Nat} {x : Int32} {dt : Nat} {d : Int}, mx_okK ps l pc = true → (pc : Int) + d = (dt : Int) → (pc : Int) + Op.lookupswitch.offset ps d x.toInt = (mx_sw l x dt : Int) := by
  induction ps with
  | nil =>
    intro l pc x dt d h hd
    cases l with
    | nil => exact hd
    | cons b l => cases h
  | cons a ps ih =>
    intro l pc x dt d h hd
    cases l with
    | nil => cases h
    | cons b l =>
      simp only [mx_okK, Bool.and_eq_true, decide_eq_true_eq] at h
      obtain ⟨a1, a2⟩ := a
      dsimp only at h
      rw [Op.lookupswitch.offset_cons]
      by_cases hx : x = b.1
      · rw [if_pos (by rw [h.1.1, hx])]
        simp only [mx_sw, if_pos hx]; exact h.1.2
      · have hne : a1 ≠ x.toInt := by
          rw [h.1.1]
          exact fun q => hx (Int32.toInt_inj.mp q).symm
        rw [if_neg hne]
        simp only [mx_sw, if_neg hx]
        exact ih h.2 hd
theorem mx_sw_tg {M : mx_Mt} {l : List (Int32 × Nat)} {x : Int32} {d : Nat} (h : l.all (fun q => decide (q.2 ∈ mx_tg M)) = true) (hd : d ∈ mx_tg M) : mx_sw l x d ∈ mx_tg M := by
  induction l with
  | nil => exact hd
  | cons a l ih =>
    simp only [List.all_cons, Bool.and_eq_true, decide_eq_true_eq] at h
    simp only [mx_sw]
    split
    · exact h.1
    · exact ih h.2
section Sim
variable {p : Program} {l : Launch} {e : Env} {R : Room} {s : State} {m : MethodId} {args : Array Value} {below : List Frame} {meth : Method} {c : Code} {Q : State → Prop} {D : va_G} {B : Nat} {ρ : Nat → Nat} {cs : mx_Cs} {M : mx_Mt} {sc : mx_Sc}
variable {i : mx_In} {r : List mx_In} {loc : mx_Lc} {st : List Value} {h : mx_Hp} {k z : Nat} {c' : mx_Cf}
theorem mx_s_lookup (C : mx_Cx p s m args meth c R D B ρ cs M sc) (hB : mx_okB M = true) {d : Int} {ps : Array (Int × Int)} (hi : i.2.1 = .lookupswitch d ps) (hd : decode M.2.2.1 i.1 = .ok (i.2.1, i.2.2.1)) (ok : mx_okO M i = true) (hs : mx_sSw M i loc st h k z = some (.inl c')) (K : mx_Sim p l e R s m args below meth c Q D B ρ cs M c') : mx_Sim p l e R s m args below meth c Q D B ρ cs M (i :: r, loc, st, h, k, z) := by
  obtain ⟨hx, hb, hml, hown, hts, hK, hnm, hRm, hρ, hBs, hsc, hsx⟩ := C
  unfold mx_okO mx_okJ at ok
  rw [hi] at ok hd
  simp only [Bool.and_eq_true, decide_eq_true_eq] at ok
  obtain ⟨⟨⟨⟨ok1, ok2⟩, ok3⟩, ok4⟩, ok5⟩ := ok
  unfold mx_sSw at hs
  split at hs
  · rename_i x s'
    cases mx_jp_eq hs
    exact fun H locs ls hR hS hL => lv_lookup hx hb hd ok3 rfl (mx_sw_look ok4 ok1) (mx_jx hB (mx_sw_tg ok5 ok2) K hR hS hL)
  · cases hs
theorem mx_s_table (C : mx_Cx p s m args meth c R D B ρ cs M sc) (hB : mx_okB M = true) {d lo hi9 : Int} {offs : Array Int} (hi : i.2.1 = .tableswitch d lo hi9 offs) (hd : decode M.2.2.1 i.1 = .ok (i.2.1, i.2.2.1)) (ok : mx_okO M i = true) (hs : mx_sSw M i loc st h k z = some (.inl c')) (K : mx_Sim p l e R s m args below meth c Q D B ρ cs M c') : mx_Sim p l e R s m args below meth c Q D B ρ cs M (i :: r, loc, st, h, k, z) := by
  obtain ⟨hx, hb, hml, hown, hts, hK, hnm, hRm, hρ, hBs, hsc, hsx⟩ := C
  unfold mx_okO mx_okJ at ok
  rw [hi] at ok hd
  simp only [Bool.and_eq_true, decide_eq_true_eq] at ok
  obtain ⟨⟨⟨⟨ok1, ok2⟩, ok3⟩, ok4⟩, ok5⟩ := ok
  unfold mx_sSw at hs
  split at hs
  · rename_i x s'
    cases mx_jp_eq hs
    have hmem : ∀ q ∈ (List.range offs.size).zipWith (fun (a : Nat) (b : Int) => (lo + (a : Int), b)) offs.toList, ∃ j : Nat, j < offs.size ∧ q.1 = lo + (j : Int) ∧ offs[j]? = some q.2 := by
      intro q hq
      obtain ⟨j, hj⟩ := List.getElem?_of_mem hq
      rw [List.getElem?_zipWith] at hj
      by_cases hjl : j < offs.size
      · simp [hjl] at hj
        refine ⟨j, hjl, by rw [← hj], by simp [hjl, ← hj]⟩
      · rw [List.getElem?_eq_none (by simp; omega)] at hj
        cases hj
    have hall : ∀ j : Nat, j < offs.size → ∃ b, (lo + (j : Int), b) ∈ (List.range offs.size).zipWith (fun (a : Nat) (b : Int) => (lo + (a : Int), b)) offs.toList := by
      intro j hj
      refine ⟨offs[j], List.mem_of_getElem? (i := j) ?_⟩
      rw [List.getElem?_zipWith]
      simp [hj]
    refine fun H locs ls hR hS hL => ?_
    rcases mx_sw_spec (x := x) (d := i.2.2.2.1) ok4 with ⟨q, q1, q2, q3, -⟩ | ⟨q1, q2⟩
    · obtain ⟨j, j1, j2, j3⟩ := hmem q q1
      refine lv_tableIn hx hb hd (x := x) (off := q.2) (tgt := mx_sw i.2.2.2.2.2.2 x i.2.2.2.1) (by omega) (by omega) ?_ q3 (mx_jx hB (mx_sw_tg ok5 ok2) K hR hS hL)
      rw [show (x.toInt - lo).toNat = j by omega]
      exact j3
    · refine lv_tableOut hx hb hd (x := x) (tgt := mx_sw i.2.2.2.2.2.2 x i.2.2.2.1) ?_ (by rw [q2]; exact ok1) (mx_jx hB (mx_sw_tg ok5 ok2) K hR hS hL)
      by_cases h1 : x.toInt < lo
      · exact Or.inl h1
      · right
        refine Int.lt_of_not_ge fun h2 => ?_
        obtain ⟨b, hb9⟩ := hall (x.toInt - lo).toNat (by omega)
        exact q1 _ hb9 (by show lo + (((x.toInt - lo).toNat : Nat) : Int) = x.toInt; omega)
  · cases hs
theorem mx_s_oinit (C : mx_Cx p s m args meth c R D B ρ cs M sc) {n : Nat} (hi : i.2.1 = .invokespecial n) (hk : i.2.2.2.1 = 1000) (hd : decode M.2.2.1 i.1 = .ok (i.2.1, i.2.2.1)) (ok : mx_okO M i = true) (hp : mx_pc r = i.1 + i.2.2.1) (hs : mx_sSpec M i r loc st h k z = some (.inl c')) (K : mx_Sim p l e R s m args below meth c Q D B ρ cs M c') : mx_Sim p l e R s m args below meth c Q D B ρ cs M (i :: r, loc, st, h, k, z) := by
  obtain ⟨hx, hb, hml, hown, hts, hK, hnm, hRm, hρ, hBs, hsc, hsx⟩ := C
  unfold mx_okO at ok
  rw [hi] at ok hd
  simp only [Bool.and_eq_true, decide_eq_true_eq] at ok
  rw [if_pos hk] at ok
  simp only [Bool.and_eq_true, decide_eq_true_eq] at ok
  obtain ⟨ok1, ⟨⟨⟨ok2, ok3⟩, ok4⟩, ok5⟩, ok6⟩ := ok
  rw [ok1] at hd hp
  unfold mx_sSpec at hs
  rw [if_pos hk] at hs
  split at hs
  · rename_i a s'
    split at hs
    · rename_i hc
      cases mx_go_eq hs
      refine fun H locs ls hR hS hL => W.objInit hx hb hown (hts _ (mx_at_in ok2)) (hts _ (mx_at_in ok3)) (hts _ (mx_at_in ok4)) rfl (by rw [hml]; exact hL.1) rfl hd (by rw [hRm]; exact ok5) ?_ (mx_nx hp K hR hS hL)
      have e1 : ((s'.map (mx_rv ρ)).map fun v => v.category).sum = mx_cat s' := by
        unfold mx_cat
        rw [List.map_map]
        congr 1
        exact List.map_congr_left fun v _ => mx_rv_cat
      rw [hRm]
      show 2 * 0 + ((s'.map (mx_rv ρ)).map fun v => v.category).sum + 12 ≤ _
      rw [e1]
      omega
    · cases hs
  · cases hs
theorem mx_s_mmax (C : mx_Cx p s m args meth c R D B ρ cs M sc) {n : Nat} (hi : i.2.1 = .invokestatic n) (hk : i.2.2.2.1 = 1001) (hd : decode M.2.2.1 i.1 = .ok (i.2.1, i.2.2.1)) (ok : mx_okO M i = true) (hp : mx_pc r = i.1 + i.2.2.1) (hs : mx_sStat M i r loc st h k z = some (.inl c')) (K : mx_Sim p l e R s m args below meth c Q D B ρ cs M c') : mx_Sim p l e R s m args below meth c Q D B ρ cs M (i :: r, loc, st, h, k, z) := by
  obtain ⟨hx, hb, hml, hown, hts, hK, hnm, hRm, hρ, hBs, hsc, hsx⟩ := C
  unfold mx_okO at ok
  rw [hi] at ok hd
  simp only [Bool.and_eq_true, decide_eq_true_eq] at ok
  rw [if_pos hk] at ok
  simp only [Bool.and_eq_true, decide_eq_true_eq] at ok
  obtain ⟨ok1, ⟨⟨⟨⟨ok2, ok3⟩, ok4⟩, ok5⟩, ok6⟩, ok7⟩ := ok
  rw [ok1] at hd hp
  unfold mx_sStat at hs
  rw [if_pos hk] at hs
  split at hs
  · rename_i y x s'
    split at hs
    · rename_i hc
      cases mx_go_eq hs
      refine fun H locs ls hR hS hL => va_mmax hx hb (by rw [hml]; exact hL.1.symm) hown (hts _ (mx_at_in ok2)) (hts _ (mx_at_in ok3)) (hts _ (mx_at_in ok4)) (hts _ (mx_at_in ok5)) (by rw [hRm]; exact ok6) ?_ (by rw [hRm]; exact hc.2.1) (by rw [hRm]; exact hc.2.2) hd (mx_nx hp K hR hS hL)
      have e1 : ((s'.map (mx_rv ρ)).map fun v => v.category).sum = mx_cat s' := by
        unfold mx_cat
        rw [List.map_map]
        congr 1
        exact List.map_congr_left fun v _ => mx_rv_cat
      rw [hRm, e1]
      have := hc.1
      omega
    · cases hs
  · cases hs
end Sim
end
section
/-! calls -/
def mx_Pre (D : va_G) (B : Nat) (ρ : Nat → Nat) (cs : mx_Cs) (as : List Value) (h : mx_Hp) : Array Value → State → Prop := va_Pc (as.map (mx_rv ρ)) (fun U => mx_Rep D B ρ cs h U.heap ∧ va_K D mx_cl (mx_tys cs) U ∧ (∀ w ∈ mx_tb, w.before #[] U = true) ∧ mx_Sx B ρ U)
def mx_Post (D : va_G) (B : Nat) (ρ : Nat → Nat) (cs : mx_Cs) (q : mx_Rs) : Array Value → State → Outcome → State → Prop := fun _ st oc t => oc = .returned (q.1.map (mx_rv ρ)) ∧ mx_Rep D B ρ cs q.2 t.heap ∧ va_F (mx_A B) st t
def mx_Met (l : Launch) (D : va_G) (B : Nat) (ρ : Nat → Nat) (cs : mx_Cs) (M : mx_Mt) (as : List Value) (h : mx_Hp) (q : mx_Rs) : Prop := Met l M.2.1 [mx_cd M] (mx_rm M) (mx_Pre D B ρ cs as h) (mx_Post D B ρ cs q) (mx_rm M).cells (mx_rm M).slots (mx_A B)
theorem mx_wride {s U : State} {A A' : Array Value} (hW : s.WarmedH U.vm) {w : Cond} (hk : w ∈ mx_tb) (h : w.before A s = true) : w.before A' U = true := by
  have hk := (List.mem_filter.mp hk).2
  unfold mx_wk at hk
  split at hk
  · exact word_at hW (Or.inr ⟨_, rfl⟩) h
  · exact va_AO.use (va_AO.moved hW.alike (va_AO.of h))
  · rename_i t hk9
    have hvm := hW.alike
    obtain ⟨comp, c, k, h1, h2, h3, h4, h5⟩ := Jvm.Stand.arrayOver_specB h
    obtain ⟨k', hk', he⟩ := hvm.2.2 _ _ h3
    have hbe : U.vm.bare = s.vm.bare := by first | exact hvm.bare_eq | exact hvm.bare_eq.symm
    have hi : (U.vm.classes.findIdx? fun (x : Class) => match x.kind with | .array component _ => component == comp | _ => false) = some c := by
      have e1 := va_idx_bare U.vm comp
      rw [hbe] at e1
      exact e1.symm.trans ((va_idx_bare s.vm comp).trans h2)
    have hkind : k'.kind = .array comp (.array t) := by rw [he]; exact h4
    have f1 : U.vm.findClass (FieldType.array t).toString = some comp := by rw [hvm.findClass]; exact h1
    have f2 : U.vm.findClass ("[" ++ (FieldType.array t).toString) = some c := by rw [hvm.findClass]; exact h5
    unfold Cond.before Cond.holds
    simp only [Cond.value]
    rw [f1, Option.bind_some]
    refine (congrArg (fun o : Option Nat => (o.bind (fun c => (U.vm.classes[c]?).map fun (k : Class) => match k.kind with | .array _ ty => decide (ty = FieldType.array t) && decide (U.vm.findClass ("[" ++ (FieldType.array t).toString) = some c) | _ => false) == some true)) hi).trans ?_
    simp [hk', hkind, f2]
  · exact (va_Nw.warmF hW (va_Nw.of rfl h)).use rfl
  · exact (va_Nw.warmM hW (va_Nw.of rfl h)).use rfl
  · exact word_at hW (Or.inl hk) h
theorem mx_Sx_moved {B : Nat} {ρ : Nat → Nat} {s U : State} (hW : s.WarmedH U.vm) (hh : ∀ a : Nat, a < s.heap.size → ¬ mx_A B a → U.heap[a]? = s.heap[a]?) (h : mx_Sx B ρ s) : mx_Sx B ρ U := by
  obtain ⟨h1, ⟨v, h2⟩, h3, h4⟩ := h
  exact ⟨h1.warm hW, ⟨v, (h2.moved hW.alike).kept hh⟩, (h3.moved hW.alike).kept hh, (h4.moved hW.alike).kept hh⟩
section Sim
variable {p : Program} {l : Launch} {e : Env} {R : Room} {s : State} {m : MethodId} {args : Array Value} {below : List Frame} {meth : Method} {c : Code} {Q : State → Prop} {D : va_G} {B : Nat} {ρ : Nat → Nat} {cs : mx_Cs} {M : mx_Mt} {sc : mx_Sc}
variable {i : mx_In} {r : List mx_In} {loc : mx_Lc} {st : List Value} {h : mx_Hp} {k z : Nat} {c' : mx_Cf}
theorem mx_blind {as : List Value} : FrameBlind (mx_Pre D B ρ cs as h) := by
  intro a U g mk q
  obtain ⟨q1, q2, q3, q4, q5⟩ := q
  refine ⟨q1, q2, va_K.moved (u := U) (U := U.calling g mk a) (Vm.Alike.refl U.vm) q3, fun w hw => mx_wride (s := U) (U := U.calling g mk a) (State.WarmedH.refl U) hw (q4 w hw), ?_⟩
  obtain ⟨h1, ⟨v, h2⟩, h3, h4⟩ := q5
  exact ⟨vk_R.same rfl h1, ⟨v, vk_S.moved (u := U) (U := U.calling g mk a) (Vm.Alike.refl U.vm) h2⟩, va_Z.moved (u := U) (U := U.calling g mk a) (Vm.Alike.refl U.vm) h3, va_Zq.moved (u := U) (U := U.calling g mk a) (Vm.Alike.refl U.vm) h4⟩
theorem mx_pre (C : mx_Cx p s m args meth c R D B ρ cs M sc) {as : List Value} {H : Heap} {locs : List Loc} (hR : mx_Rep D B ρ cs h H) (hS : va_S (mx_A B) s.heap H locs) : ∀ U : State, U.heap = H → s.WarmedH U.vm → mx_Pre D B ρ cs as h (as.map (mx_rv ρ)).toArray U := by
  obtain ⟨hx, hb, hml, hown, hts, hK, hnm, hRm, hρ, hBs, hsc, hsx⟩ := C
  intro U hU hW
  refine ⟨rfl, by rw [hU]; exact hR, va_K.moved hW.alike hK, fun w hw => mx_wride hW hw (hts w hw), mx_Sx_moved hW (fun a ha hA => ?_) hsx⟩
  rw [hU]
  exact hS.2.1 a ha hA
/-- behind a call -/
theorem mx_callGo {q : mx_Rs} {as : List Value} {a : Array Value} {H : Heap} {locs : List Loc} {ls : Array Slot} {st0 rest : List Value} {mc ms : Nat} (hS : va_S (mx_A B) s.heap H locs) (hL : mx_HL ρ ls M.2.2.2.1 loc)
    (hr : va_Run p l e R s m args below meth c H locs k z mc ms (F0 m i.1 ls st0) (rest.map (mx_rv ρ)) (mx_Post D B ρ cs q a) (mx_A B)) (hp : mx_pc r = i.1 + 3) (K : mx_Sim p l e R s m args below meth c Q D B ρ cs M (r, loc, q.1.toList ++ rest, q.2, k + mc, z + ms)) : W p l e R s m args below meth c H locs k z Q (F0 m i.1 ls st0) := by
  intro T hT X
  obtain ⟨v, st₀, t, T', L, h0, X', hL', e1, e2, ⟨hv, hR', hF⟩, stp⟩ := hr T hT X
  have hv' : v = q.1.map (mx_rv ρ) := by injection hv
  have hS' : va_S (mx_A B) s.heap T'.heap (locs ++ L) := by
    refine ⟨Nat.le_trans hS.1 (by rw [e1]; rw [← h0]; exact hF.1), fun a ha hA => ?_, fun q hq => ?_⟩
    · rw [e1, hF.2 a (by rw [h0]; exact Nat.lt_of_lt_of_le ha hS.1) hA, h0]
      exact hS.2.1 a ha hA
    · rcases List.mem_append.mp hq with h1 | h1
      · exact hS.2.2 q h1
      · exact hL' q h1
  obtain ⟨t2, a1, b1⟩ := mx_nx hp K (by rw [e1]; exact hR') hS' hL T' rfl X'
  refine ⟨t2, stp t2 ?_, b1⟩
  have e3 : (q.1.toList ++ rest).map (mx_rv ρ) = v.toList ++ rest.map (mx_rv ρ) := by
    rw [hv', List.map_append]
    cases q.1 <;> rfl
  rw [e3] at a1
  exact a1
theorem mx_cat_map {s' : List Value} (h8 : mx_cat s' ≤ 8) {pc : Nat} {ls : Array Slot} {st0 : List Value} : 2 * (F0 m pc ls st0).monitorRoom + (((s'.map (mx_rv ρ)).map fun v => v.category).sum) ≤ 8 := by
  have e1 : ((s'.map (mx_rv ρ)).map fun v => v.category).sum = mx_cat s' := by
    unfold mx_cat
    rw [List.map_map]
    congr 1
    exact List.map_congr_left fun v _ => mx_rv_cat
  show 2 * 0 + _ ≤ 8
  rw [e1]
  omega
theorem mx_okW_of (hW : mx_okW M = true) : mx_cd M ∈ mx_tb ∧ Cond.initialized M.2.1.cls ∈ mx_tb ∧ M.2.1.cls ≠ "java/lang/invoke/MethodHandle" ∧ M.2.1.cls ≠ "java/lang/invoke/VarHandle" ∧ (mx_hn M 0 = 0 → Cond.instanceMethod M.2.1 ∈ mx_tb ∧ Cond.selects M.2.1.cls M.2.1 M.2.1 ∈ mx_tb) ∧ (mx_hn M 0 = 1 → Cond.static M.2.1 ∈ mx_tb) ∧ (mx_hn M 0 = 2 → Cond.instanceMethod M.2.1 ∈ mx_tb ∧ M.2.1.name = "<init>" ∧ M.2.2.2.2.1 = none) := by
  unfold mx_okW at hW
  simp only [Bool.and_eq_true, decide_eq_true_eq] at hW
  obtain ⟨⟨⟨⟨h1, h2⟩, h3⟩, h4⟩, h5⟩ := hW
  refine ⟨mx_at_in h1, mx_at_in h2, h3, h4, fun q => ?_, fun q => ?_, fun q => ?_⟩
  · rw [if_pos q] at h5
    simp only [Bool.and_eq_true] at h5
    exact ⟨mx_at_in h5.1, mx_at_in h5.2⟩
  · rw [if_neg (by omega), if_pos q] at h5
    exact mx_at_in h5
  · rw [if_neg (by omega), if_neg (by omega)] at h5
    simp only [Bool.and_eq_true, decide_eq_true_eq] at h5
    exact ⟨mx_at_in h5.1.1, h5.1.2, h5.2⟩
theorem mx_good (hW : mx_cd M ∈ mx_tb) : GoodIn mx_tb [mx_cd M] := by
  intro w hw
  rw [List.mem_singleton.mp hw]
  exact ⟨hW, Or.inl rfl⟩
/-- a call's stack: the arguments, and what is below them -/
theorem mx_stk {b : Nat} : st.map (mx_rv ρ) = ((((st.take b).reverse).map (mx_rv ρ)).reverse) ++ (st.drop b).map (mx_rv ρ) := by
  rw [← List.map_reverse, List.reverse_reverse, ← List.map_append, List.take_append_drop]
/-- what a call of the light machine is -/
theorem mx_call_of {v : Bool} {y : Nat} {as : List Value} (hs : mx_call M i r loc st h k z v = some (.inr (.inl (y, as, c')))) : y = i.2.2.2.1 ∧ as = (st.take i.2.2.2.2.1).reverse ∧ c' = (r, loc, st.drop i.2.2.2.2.1, h, k + (mx_rm (mx_tab i.2.2.2.1)).cells, z + (mx_rm (mx_tab i.2.2.2.1)).slots) ∧ i.2.2.2.2.1 ≤ st.length ∧ (st.take i.2.2.2.2.1).all mx_c1 = true ∧ i.2.2.2.2.1 ≤ (mx_tab i.2.2.2.1).2.2.2.1 ∧ mx_cat (st.drop i.2.2.2.2.1) ≤ 8 ∧ k + (mx_rm (mx_tab i.2.2.2.1)).cells ≤ (mx_rm M).cells ∧ z + (mx_rm (mx_tab i.2.2.2.1)).slots ≤ (mx_rm M).slots ∧ (v = true → ∃ (a : Nat) (as' : List Value), as = .ref a :: as' ∧ a < h.1 ∧ 3 ≤ (mx_lay a).1 ∧ mx_Cn ((mx_lay a).1 - 3) = (mx_tab i.2.2.2.1).2.1.cls) := by
  unfold mx_call at hs
  split at hs
  · rename_i hc
    split at hs
    · rename_i a as' he
      split at hs
      · rename_i hc2
        have e1 := Sum.inl.inj (Sum.inr.inj (Option.some.inj hs))
        cases e1
        exact ⟨rfl, he.symm, rfl, hc.1, hc.2.1, hc.2.2.1, hc.2.2.2.1, hc.2.2.2.2.1, hc.2.2.2.2.2, fun _ => ⟨a, as', rfl, hc2.1, hc2.2.1, hc2.2.2⟩⟩
      · cases hs
    · cases hs
    · have e1 := Sum.inl.inj (Sum.inr.inj (Option.some.inj hs))
      cases e1
      exact ⟨rfl, rfl, rfl, hc.1, hc.2.1, hc.2.2.1, hc.2.2.2.1, hc.2.2.2.2.1, hc.2.2.2.2.2, fun q => by cases q⟩
  · cases hs
theorem mx_okC_of {n kd idx : Nat} (ok : mx_okC M i idx n kd = true) : i.2.2.2.1 < mx_law ∧ mx_hn (mx_tab i.2.2.2.1) 0 = kd ∧ (parseMethodDescriptor (mx_tab i.2.2.2.1).2.1.desc).map (fun d => d.parameters.length) = some n ∧ (mx_rm (mx_tab i.2.2.2.1)).frames + 1 ≤ (mx_rm M).frames ∧ 8 + ((mx_tab i.2.2.2.1).2.2.2.1 + 11) + (mx_rm (mx_tab i.2.2.2.1)).locals ≤ (mx_rm M).locals ∧ (Cond.methodLink (mx_own M) idx (mx_tab i.2.2.2.1).2.1 ∈ mx_tb ∨ Cond.methodLinkNest (mx_own M) idx (mx_tab i.2.2.2.1).2.1 "TwoMayors" ∈ mx_tb) := by
  unfold mx_okC at ok
  simp only [Bool.and_eq_true, Bool.or_eq_true, decide_eq_true_eq] at ok
  obtain ⟨⟨⟨⟨⟨h1, h2⟩, h3⟩, h4⟩, h5⟩, h6⟩ := ok
  exact ⟨h1, h2, h3, h4, h5, h6.imp mx_at_in mx_at_in⟩
theorem mx_lay_cl {a : Nat} {C : String} (h3 : 3 ≤ (mx_lay a).1) (hC : mx_Cn ((mx_lay a).1 - 3) = C) (hne : C ≠ "") : (mx_lay a).1 - 3 < 13 := by
  refine Nat.lt_of_not_le fun q => hne ?_
  rw [← hC]
  unfold mx_Cn
  rw [List.getD_eq_getElem?_getD, List.getElem?_eq_none (by simp; omega)]
  rfl
theorem mx_c_virt (C : mx_Cx p s m args meth c R D B ρ cs M sc) {idx : Nat} (hd : decode M.2.2.1 i.1 = .ok (.invokevirtual idx, 3)) (ok : mx_okC M i idx (i.2.2.2.2.1 - 1) 0 = true) (hb0 : 0 < i.2.2.2.2.1) (hp : mx_pc r = i.1 + 3) (okne : (mx_tab i.2.2.2.1).2.1.cls ≠ "") (okW : mx_okW (mx_tab i.2.2.2.1) = true) {y : Nat} {as : List Value} (hs : mx_call M i r loc st h k z true = some (.inr (.inl (y, as, c')))) {q : mx_Rs} (hM : mx_Met l D B ρ cs (mx_tab y) as c'.2.2.2.1 q) (K : mx_Sim p l e R s m args below meth c Q D B ρ cs M (mx_beh c' q)) : mx_Sim p l e R s m args below meth c Q D B ρ cs M (i :: r, loc, st, h, k, z) := by
  have C0 := C
  obtain ⟨hx, hb, hml, hown, hts, hK, hnm, hRm, hρ, hBs, hsc, hsx⟩ := C
  obtain ⟨rfl, rfl, rfl, b1, -, -, b4, b5, b6, b7⟩ := mx_call_of hs
  obtain ⟨o1, o2, o3, o4, o5, o6⟩ := mx_okC_of ok
  obtain ⟨w1, w2, w3, w4, w5, w6, w7⟩ := mx_okW_of okW
  obtain ⟨a, as', ea, ha, hl3, hcn⟩ := b7 rfl
  rw [ea] at hM
  have hlen : as'.length = i.2.2.2.2.1 - 1 := by
    have h1 : (st.take i.2.2.2.2.1).reverse.length = (Value.ref a :: as').length := by rw [ea]
    simp at h1
    omega
  refine fun H locs ls hR hS hL => ?_
  have hlen0 : c.maxLocals = M.2.2.2.1 := hml
  have hrun : va_Run p l e R s m args below meth c H locs k z (mx_rm (mx_tab i.2.2.2.1)).cells (mx_rm (mx_tab i.2.2.2.1)).slots (F0 m i.1 ls (st.map (mx_rv ρ))) ((st.drop i.2.2.2.2.1).map (mx_rv ρ)) (mx_Post D B ρ cs q ((Value.ref a :: as').map (mx_rv ρ)).toArray) (mx_A B) := by
    have hstk : st.map (mx_rv ρ) = (as'.map (mx_rv ρ)).reverse ++ .ref (ρ a) :: (st.drop i.2.2.2.2.1).map (mx_rv ρ) := by
      rw [mx_stk (b := i.2.2.2.2.1), ea]
      simp [mx_rv]
    have hci := mx_lay_cl hl3 hcn okne
    have hev := mx_W_get (B := B) (ρ := ρ) (cs := cs) ha
    rw [mx_E_obj (c := (mx_lay a).1 - 3) (by omega)] at hev
    have hrec := va_recv hK hR.2.2 (mx_cl_get hci) hev
    rw [← mx_rho_lt hρ hR ha] at hrec
    have hrec' : ∃ cell : Cell, H[ρ a]? = some cell ∧ cell.vm.isStatics = false ∧ s.vm.findClass (mx_tab i.2.2.2.1).2.1.cls = some cell.cls := by
      rw [← hcn]
      exact hrec
    rcases o6 with o6 | o6
    · exact va_runV (As := as'.map (mx_rv ρ)) (n := i.2.2.2.2.1 - 1) ⟨hx, hb, hml, hown, hts⟩ hM ⟨callB_of _ hts (mx_good w1) rfl rfl rfl (hts _ w2) (hts _ o6) ⟨w3, w4, o3⟩ (by rw [hRm]; exact ⟨o4, o5⟩), hts _ (w5 o2).1, hts _ (w5 o2).2⟩ ⟨mx_blind, hrec', mx_pre C0 hR hS⟩ rfl (by rw [List.length_map]; exact hlen) hL.1 hstk (mx_cat_map b4) hd (by rw [hRm]; exact ⟨b5, b6⟩)
    · exact va_runVN (As := as'.map (mx_rv ρ)) (n := i.2.2.2.2.1 - 1) ⟨hx, hb, hml, hown, hts⟩ hM ⟨va_cnB _ hts (mx_good w1) rfl rfl rfl (va_Nw.of rfl (hts _ o6)) (hts _ w2) ⟨w3, w4, o3⟩ (by rw [hRm]; exact ⟨o4, o5⟩), hts _ (w5 o2).1, hts _ (w5 o2).2⟩ ⟨mx_blind, hrec', mx_pre C0 hR hS⟩ rfl (by rw [List.length_map]; exact hlen) hL.1 hstk (mx_cat_map b4) hd (by rw [hRm]; exact ⟨b5, b6⟩)
  exact mx_callGo (as := []) hS hL hrun hp K
theorem mx_c_spec (C : mx_Cx p s m args meth c R D B ρ cs M sc) {idx : Nat} (hd : decode M.2.2.1 i.1 = .ok (.invokespecial idx, 3)) (ok : mx_okC M i idx (i.2.2.2.2.1 - 1) 2 = true) (hb0 : 0 < i.2.2.2.2.1) (hp : mx_pc r = i.1 + 3) (okne : (mx_tab i.2.2.2.1).2.1.cls ≠ "") (okW : mx_okW (mx_tab i.2.2.2.1) = true) {y : Nat} {as : List Value} (hs : mx_call M i r loc st h k z true = some (.inr (.inl (y, as, c')))) {q : mx_Rs} (hM : mx_Met l D B ρ cs (mx_tab y) as c'.2.2.2.1 q) (K : mx_Sim p l e R s m args below meth c Q D B ρ cs M (mx_beh c' q)) : mx_Sim p l e R s m args below meth c Q D B ρ cs M (i :: r, loc, st, h, k, z) := by
  have C0 := C
  obtain ⟨hx, hb, hml, hown, hts, hK, hnm, hRm, hρ, hBs, hsc, hsx⟩ := C
  obtain ⟨rfl, rfl, rfl, b1, -, -, b4, b5, b6, b7⟩ := mx_call_of hs
  obtain ⟨o1, o2, o3, o4, o5, o6⟩ := mx_okC_of ok
  obtain ⟨w1, w2, w3, w4, w5, w6, w7⟩ := mx_okW_of okW
  obtain ⟨a, as', ea, ha, hl3, hcn⟩ := b7 rfl
  rw [ea] at hM
  have hlen : as'.length = i.2.2.2.2.1 - 1 := by
    have h1 : (st.take i.2.2.2.2.1).reverse.length = (Value.ref a :: as').length := by rw [ea]
    simp at h1
    omega
  refine fun H locs ls hR hS hL => ?_
  have hlen0 : c.maxLocals = M.2.2.2.1 := hml
  have hrun : va_Run p l e R s m args below meth c H locs k z (mx_rm (mx_tab i.2.2.2.1)).cells (mx_rm (mx_tab i.2.2.2.1)).slots (F0 m i.1 ls (st.map (mx_rv ρ))) ((st.drop i.2.2.2.2.1).map (mx_rv ρ)) (mx_Post D B ρ cs q ((Value.ref a :: as').map (mx_rv ρ)).toArray) (mx_A B) := by
    have hstk : st.map (mx_rv ρ) = (as'.map (mx_rv ρ)).reverse ++ .ref (ρ a) :: (st.drop i.2.2.2.2.1).map (mx_rv ρ) := by
      rw [mx_stk (b := i.2.2.2.2.1), ea]
      simp [mx_rv]
    have hM' := hM
    unfold mx_Met mx_cd at hM'
    rw [(w7 o2).2.2] at hM'
    have w1' := w1
    unfold mx_cd at w1'
    rw [(w7 o2).2.2] at w1'
    have hG : GoodIn mx_tb [.code (mx_tab i.2.2.2.1).2.1 (mx_tab i.2.2.2.1).2.2.1 (mx_tab i.2.2.2.1).2.2.2.1 none] := by
      intro w hw
      rw [List.mem_singleton.mp hw]
      exact ⟨w1', Or.inl rfl⟩
    rcases o6 with o6 | o6
    · exact va_runI (As := as'.map (mx_rv ρ)) (n := i.2.2.2.2.1 - 1) ⟨hx, hb, hml, hown, hts⟩ hM' ⟨callB_of _ hts hG rfl rfl rfl (hts _ w2) (hts _ o6) ⟨w3, w4, o3⟩ (by rw [hRm]; exact ⟨o4, o5⟩), (w7 o2).2.1, hts _ (w7 o2).1⟩ ⟨mx_blind, mx_pre C0 hR hS⟩ rfl (by rw [List.length_map]; exact hlen) hL.1 hstk (mx_cat_map b4) hd (by rw [hRm]; exact ⟨b5, b6⟩)
    · exact va_runIN (As := as'.map (mx_rv ρ)) (n := i.2.2.2.2.1 - 1) ⟨hx, hb, hml, hown, hts⟩ hM' ⟨va_cnB _ hts hG rfl rfl rfl (va_Nw.of rfl (hts _ o6)) (hts _ w2) ⟨w3, w4, o3⟩ (by rw [hRm]; exact ⟨o4, o5⟩), (w7 o2).2.1, hts _ (w7 o2).1⟩ ⟨mx_blind, mx_pre C0 hR hS⟩ rfl (by rw [List.length_map]; exact hlen) hL.1 hstk (mx_cat_map b4) hd (by rw [hRm]; exact ⟨b5, b6⟩)
  exact mx_callGo (as := []) hS hL hrun hp K
theorem mx_c_stat (C : mx_Cx p s m args meth c R D B ρ cs M sc) {idx : Nat} (hd : decode M.2.2.1 i.1 = .ok (.invokestatic idx, 3)) (ok : mx_okC M i idx i.2.2.2.2.1 1 = true) (hp : mx_pc r = i.1 + 3) (okne : (mx_tab i.2.2.2.1).2.1.cls ≠ "") (okW : mx_okW (mx_tab i.2.2.2.1) = true) {y : Nat} {as : List Value} (hs : mx_call M i r loc st h k z false = some (.inr (.inl (y, as, c')))) {q : mx_Rs} (hM : mx_Met l D B ρ cs (mx_tab y) as c'.2.2.2.1 q) (K : mx_Sim p l e R s m args below meth c Q D B ρ cs M (mx_beh c' q)) : mx_Sim p l e R s m args below meth c Q D B ρ cs M (i :: r, loc, st, h, k, z) := by
  have C0 := C
  obtain ⟨hx, hb, hml, hown, hts, hK, hnm, hRm, hρ, hBs, hsc, hsx⟩ := C
  obtain ⟨rfl, rfl, rfl, b1, -, -, b4, b5, b6, b7⟩ := mx_call_of hs
  obtain ⟨o1, o2, o3, o4, o5, o6⟩ := mx_okC_of ok
  obtain ⟨w1, w2, w3, w4, w5, w6, w7⟩ := mx_okW_of okW
  refine fun H locs ls hR hS hL => ?_
  have hlen0 : c.maxLocals = M.2.2.2.1 := hml
  have hrun : va_Run p l e R s m args below meth c H locs k z (mx_rm (mx_tab i.2.2.2.1)).cells (mx_rm (mx_tab i.2.2.2.1)).slots (F0 m i.1 ls (st.map (mx_rv ρ))) ((st.drop i.2.2.2.2.1).map (mx_rv ρ)) (mx_Post D B ρ cs q (((st.take i.2.2.2.2.1).reverse).map (mx_rv ρ)).toArray) (mx_A B) := by
    have hlen : (((st.take i.2.2.2.2.1).reverse).map (mx_rv ρ)).length = i.2.2.2.2.1 := by
      simp
      omega
    rcases o6 with o6 | o6
    · exact va_runS (As := ((st.take i.2.2.2.2.1).reverse).map (mx_rv ρ)) (n := i.2.2.2.2.1) ⟨hx, hb, hml, hown, hts⟩ hM ⟨callB_of _ hts (mx_good w1) rfl rfl rfl (hts _ w2) (hts _ o6) ⟨w3, w4, o3⟩ (by rw [hRm]; exact ⟨o4, o5⟩), hts _ (w6 o2)⟩ ⟨mx_blind, mx_pre C0 hR hS⟩ rfl hlen hL.1 mx_stk (mx_cat_map b4) hd (by rw [hRm]; exact ⟨b5, b6⟩)
    · exact va_runSN (As := ((st.take i.2.2.2.2.1).reverse).map (mx_rv ρ)) (n := i.2.2.2.2.1) ⟨hx, hb, hml, hown, hts⟩ hM ⟨va_cnB _ hts (mx_good w1) rfl rfl rfl (va_Nw.of rfl (hts _ o6)) (hts _ w2) ⟨w3, w4, o3⟩ (by rw [hRm]; exact ⟨o4, o5⟩), hts _ (w6 o2), trivial⟩ ⟨mx_blind, mx_pre C0 hR hS⟩ rfl hlen hL.1 mx_stk (mx_cat_map b4) hd (by rw [hRm]; exact ⟨b5, b6⟩)
  exact mx_callGo (as := []) hS hL hrun hp K
end Sim
end
section
/-! rows of rows; the text's own calls; what a step leads to -/
theorem mx_outer (c : ClassId) (N h0 : Nat) : ∀ i : Nat, Jvm.Free.Multi.outerC c N h0 i = arrV c N (fun j => va_rf (if j < i then some (h0 + 1 + j) else none))
  | 0 => by
    show ({ cls := c, slots := Array.replicate N .null, vm := .none } : Cell) = _
    rw [arrV_new]
    refine congrArg (arrV c N) (funext fun j => ?_)
    simp [va_rf]
  | i + 1 => by
    show (Jvm.Free.Multi.outerC c N h0 i).setSlot i (.ref (h0 + 1 + i)) = _
    rw [mx_outer c N h0 i, arrV_store]
    refine congrArg (arrV c N) (funext fun j => ?_)
    by_cases e : j = i
    · subst e
      simp [updV, va_rf]
    · by_cases h : j < i
      · simp [updV, e, h, Nat.lt_succ_of_lt h]
      · simp [updV, e, h, show ¬ j < i + 1 by omega]
section Sim
variable {p : Program} {l : Launch} {e : Env} {R : Room} {s : State} {m : MethodId} {args : Array Value} {below : List Frame} {meth : Method} {c : Code} {Q : State → Prop} {D : va_G} {B : Nat} {ρ : Nat → Nat} {cs : mx_Cs} {M : mx_Mt} {sc : mx_Sc}
variable {i : mx_In} {r : List mx_In} {loc : mx_Lc} {st : List Value} {h : mx_Hp} {k z : Nat} {c' : mx_Cf}
theorem mx_s_mna (C : mx_Cx p s m args meth c R D B ρ cs M sc) {n d : Nat} (hi : i.2.1 = .multianewarray n d) (hd : decode M.2.2.1 i.1 = .ok (i.2.1, i.2.2.1)) (ok : mx_okO M i = true) (hp : mx_pc r = i.1 + i.2.2.1) (hs : mx_sMna M r loc st h k z = some (.inl c')) (K : mx_Sim p l e R s m args below meth c Q D B ρ cs M c') : mx_Sim p l e R s m args below meth c Q D B ρ cs M (i :: r, loc, st, h, k, z) := by
  obtain ⟨hx, hb, hml, hown, hts, hK, hnm, hRm, hρ, hBs, hsc, hsx⟩ := C
  unfold mx_okO at ok
  rw [hi] at ok hd
  simp only [Bool.and_eq_true, decide_eq_true_eq] at ok
  obtain ⟨⟨⟨⟨ok1, ok2⟩, ok3⟩, ok4⟩, ok5⟩ := ok
  rw [ok1] at hd hp
  subst ok2
  unfold mx_sMna at hs
  split at hs
  · rename_i b n' s'
    split at hs
    · rename_i hc
      cases mx_go_eq hs
      obtain ⟨rfl, rfl, hl0, hl1, hk1, hz1⟩ := hc
      refine fun H locs ls hR hS hL => ?_
      have hlr : ∀ j, j < 10 → mx_lay (h.1 + 1 + j) = (0, 10) := fun j hj => of_decide_eq_true (List.all_eq_true.mp hl1 j (List.mem_range.mpr hj))
      have h130 : h.1 + 10 < 130 := by
        have := mx_lay_lt (o := h.1 + 1 + 9) (by rw [hlr 9 (by omega)]; exact fun q => by cases q)
        omega
      have hz0 : H.size = B + h.1 := hR.2.1
      intro T hT X
      obtain ⟨vm₁, cA, comp, -, fA, fC, -, -, X', step⟩ := X.multianewarray2F hx hown (hts _ (mx_at_in ok3)) (hts _ (mx_at_in ok4)) (hts _ (mx_at_in ok5)) (g := F0 m i.1 ls (.int 10 :: .int 10 :: s'.map (mx_rv ρ))) rfl (by rw [hb]; exact hd) rfl (by decide) (by decide) (by decide) (by decide) (by decide) rfl rfl (by rw [hRm]; exact hk1) (by rw [hRm]; exact hz1)
      have hcI : cs.1 = comp := Option.some.inj ((hK.2 0 _ rfl).2.symm.trans fC)
      have hcJ : cs.2.2 = cA := Option.some.inj ((hK.2 2 _ rfl).2.symm.trans fA)
      have t10 : (10 : Int32).toNatClampNeg = 10 := by decide
      rw [t10] at X' step
      generalize hF : Jvm.Free.Multi.fill (T.setVm vm₁) cA comp 10 10 (defaultValue .int) 10 = F at X' step
      have hTh : (T.setVm vm₁).heap = H := hT
      obtain ⟨f1, f2, -, -⟩ := Jvm.Free.Multi.fill_facts (T.setVm vm₁) cA comp 10 10 (defaultValue .int) 10
      rw [hF, hTh] at f1 f2
      have hold : ∀ x : Nat, x < H.size → F.heap[x]? = H[x]? := fun x hx => by
        have := Jvm.Free.Multi.fill_old (T.setVm vm₁) cA comp 10 10 (defaultValue .int) (a := x) (by rw [hTh]; exact hx) 10
        rw [hF, hTh] at this
        exact this
      have hrow : ∀ j : Nat, j < 10 → F.heap[H.size + 1 + j]? = some (Jvm.Free.Multi.innerC comp 10 (defaultValue .int)) := fun j hj => by
        have := Jvm.Free.Multi.fill_inner (T.setVm vm₁) cA comp 10 10 (defaultValue .int) 10 j hj
        rw [hF, hTh] at this
        exact this
      have hRep : mx_Rep D B ρ cs (mx_mna h) F.heap := by
        refine ⟨by show h.1 + 11 ≤ 130; omega, by show F.heap.size = B + (h.1 + 11); omega, fun j q hq => ?_⟩
        obtain ⟨hj, rfl⟩ := mx_W_inv hq
        have hj : j < h.1 + 11 := hj
        by_cases hjl : j < h.1
        · have e1 : mx_E ρ cs (mx_mna h) j = mx_E ρ cs h j := mx_E_cong (by funext a; simp [mx_mna]; omega) (by funext a; show (if j = h.1 then _ else if h.1 < j ∧ j < h.1 + 11 then none else h.2.2 j a) = h.2.2 j a; rw [if_neg (by omega), if_neg (by omega)])
          rw [e1]
          exact (hR.2.2 j _ (mx_W_get hjl)).kept (hold _ (by show B + j < H.size; omega))
        · by_cases hje : j = h.1
          · subst hje
            rw [mx_E_arJ (by rw [hl0])]
            show F.heap[B + h.1]? = some (vp_cell _ _)
            rw [← hz0, f2, mx_outer, vp_cell_q, hl0, hcJ]
            refine congrArg some (congrArg (arrV cA 10) (funext fun j => ?_))
            simp only [mx_mna, if_true]
            by_cases h10 : j < 10
            · rw [if_pos h10, if_pos h10]
              show va_rf (some (H.size + 1 + j)) = va_rf (some (ρ (h.1 + 1 + j)))
              rw [hρ (h.1 + 1 + j) (by omega), hz0, show B + h.1 + 1 + j = B + (h.1 + 1 + j) by omega]
            · simp [h10, va_rf]
          · obtain ⟨j', rfl⟩ : ∃ j', j = h.1 + 1 + j' := ⟨j - h.1 - 1, by omega⟩
            have hj' : j' < 10 := by omega
            rw [mx_E_arr (by rw [hlr j' hj'])]
            show F.heap[B + (h.1 + 1 + j')]? = some (vp_cell _ _)
            rw [show B + (h.1 + 1 + j') = H.size + 1 + j' by omega, hrow j' hj', vp_cell_i, hlr j' hj', hcI]
            show some ({ cls := comp, slots := Array.replicate 10 (defaultValue .int), vm := .none } : Cell) = _
            rw [arrV_new]
            refine congrArg some (congrArg (arrV comp 10) (funext fun j => ?_))
            simp [mx_mna, defaultValue]
            intros
            omega
      obtain ⟨t2, a1, b1⟩ := mx_nx hp K hRep (mx_S_new hS (by omega) hold) hL F rfl X'
      refine ⟨t2, step t2 ?_, b1⟩
      have e2 : (Value.ref h.1 :: s').map (mx_rv ρ) = .ref T.heap.size :: s'.map (mx_rv ρ) := by
        show Value.ref (ρ h.1) :: _ = _
        rw [hρ h.1 (by omega), hT, hz0]
      rw [e2] at a1
      exact a1
    · cases hs
  · cases hs
end Sim
end
section
/-! what a step leads to; the whole run -/
theorem mx_okI_of {M : mx_Mt} {i : mx_In} (h : mx_okI M i = true) (hne : i.2.1 ≠ .nop) : decode M.2.2.1 i.1 = .ok (i.2.1, i.2.2.1) ∧ mx_okO M i = true := by
  unfold mx_okI at h
  split at h
  · rename_i hi
    exact absurd hi hne
  · simp only [Bool.and_eq_true, decide_eq_true_eq] at h
    exact h
theorem mx_okL_of {M : mx_Mt} {i : mx_In} {r : List mx_In} (h : mx_okL M (i :: r) = true) : mx_okI M i = true ∧ (mx_trm i = false → mx_pc r = i.1 + i.2.2.1 ∧ mx_okL M r = true) := by
  unfold mx_okL at h
  simp only [Bool.and_eq_true, Bool.or_eq_true, decide_eq_true_eq] at h
  refine ⟨h.1, fun q => ?_⟩
  rcases h.2 with h2 | h2
  · rw [q] at h2
    cases h2
  · exact h2
/-- the text's two calls: how long it is, which letter -/
def mx_Jdk (l : Launch) (D : va_G) (B : Nat) (ρ : Nat → Nat) (cs : mx_Cs) : Prop :=
  ∀ {p : Program} {e : Env} {R : Room} {s : State} {m : MethodId} {args : Array Value} {below : List Frame} {meth : Method} {c : Code} {Q : State → Prop} {M : mx_Mt} {sc : mx_Sc} {i : mx_In} {r : List mx_In} {loc : mx_Lc} {st : List Value} {h : mx_Hp} {k z : Nat} {c' : mx_Cf} {n : Nat},
    mx_Cx p s m args meth c R D B ρ cs M sc → i.2.1 = .invokevirtual n → (i.2.2.2.1 = 1002 ∨ i.2.2.2.1 = 1003) → decode M.2.2.1 i.1 = .ok (i.2.1, i.2.2.1) → mx_okO M i = true → mx_pc r = i.1 + i.2.2.1 → mx_sVirt M i r loc st h k z = some (.inl c') → mx_Sim p l e R s m args below meth c Q D B ρ cs M c' → mx_Sim p l e R s m args below meth c Q D B ρ cs M (i :: r, loc, st, h, k, z)
section Sim
variable {p : Program} {l : Launch} {e : Env} {R : Room} {s : State} {m : MethodId} {args : Array Value} {below : List Frame} {meth : Method} {c : Code} {Q : State → Prop} {D : va_G} {B : Nat} {ρ : Nat → Nat} {cs : mx_Cs} {M : mx_Mt} {sc : mx_Sc}
variable {i : mx_In} {r : List mx_In} {loc : mx_Lc} {st : List Value} {h : mx_Hp} {k z : Nat} {c' : mx_Cf}
theorem mx_call_no {v : Bool} (hs : mx_call M i r loc st h k z v = some (.inl c')) : False := by
  unfold mx_call at hs
  split at hs
  · split at hs
    · split at hs <;> cases hs
    · cases hs
    · cases hs
  · cases hs
theorem mx_call_nor {v : Bool} {q : mx_Rs} (hs : mx_call M i r loc st h k z v = some (.inr (.inr q))) : False := by
  unfold mx_call at hs
  split at hs
  · split at hs
    · split at hs <;> cases hs
    · cases hs
    · cases hs
  · cases hs
theorem mx_next (ho : mx_okL M (i :: r) = true) (hB : mx_okB M = true) (hs : mx_step1 M sc i r loc st h k z = some (.inl c')) : mx_okL M c'.1 = true := by
  obtain ⟨hI, hT⟩ := mx_okL_of ho
  unfold mx_step1 at hs
  split at hs
  · rename_i hi
    cases mx_go_eq hs
    exact (hT (by unfold mx_trm; rw [hi])).2
  · rename_i hi
    cases mx_go_eq hs
    exact (hT (by unfold mx_trm; rw [hi])).2
  · rename_i hi
    cases mx_go_eq hs
    exact (hT (by unfold mx_trm; rw [hi])).2
  · rename_i hi
    cases mx_go_eq hs
    exact (hT (by unfold mx_trm; rw [hi])).2
  · rename_i hi
    cases mx_go_eq hs
    exact (hT (by unfold mx_trm; rw [hi])).2
  · rename_i hi
    cases mx_go_eq hs
    exact (hT (by unfold mx_trm; rw [hi])).2
  · rename_i hi
    cases mx_go_eq hs
    exact (hT (by unfold mx_trm; rw [hi])).2
  · rename_i hi
    have hn := (hT (by unfold mx_trm; rw [hi])).2
    unfold mx_sIload at hs
    repeat' split at hs
    all_goals first
      | (cases hs; done)
      | (cases mx_go_eq hs; exact hn)
  · rename_i hi
    have hn := (hT (by unfold mx_trm; rw [hi])).2
    unfold mx_sIload at hs
    repeat' split at hs
    all_goals first
      | (cases hs; done)
      | (cases mx_go_eq hs; exact hn)
  · rename_i hi
    have hn := (hT (by unfold mx_trm; rw [hi])).2
    unfold mx_sLload at hs
    repeat' split at hs
    all_goals first
      | (cases hs; done)
      | (cases mx_go_eq hs; exact hn)
  · rename_i hi
    have hn := (hT (by unfold mx_trm; rw [hi])).2
    unfold mx_sLload at hs
    repeat' split at hs
    all_goals first
      | (cases hs; done)
      | (cases mx_go_eq hs; exact hn)
  · rename_i hi
    have hn := (hT (by unfold mx_trm; rw [hi])).2
    unfold mx_sAload at hs
    repeat' split at hs
    all_goals first
      | (cases hs; done)
      | (cases mx_go_eq hs; exact hn)
  · rename_i hi
    have hn := (hT (by unfold mx_trm; rw [hi])).2
    unfold mx_sAload at hs
    repeat' split at hs
    all_goals first
      | (cases hs; done)
      | (cases mx_go_eq hs; exact hn)
  · rename_i hi
    have hn := (hT (by unfold mx_trm; rw [hi])).2
    unfold mx_sIstore at hs
    repeat' split at hs
    all_goals first
      | (cases hs; done)
      | (cases mx_go_eq hs; exact hn)
  · rename_i hi
    have hn := (hT (by unfold mx_trm; rw [hi])).2
    unfold mx_sIstore at hs
    repeat' split at hs
    all_goals first
      | (cases hs; done)
      | (cases mx_go_eq hs; exact hn)
  · rename_i hi
    have hn := (hT (by unfold mx_trm; rw [hi])).2
    unfold mx_sAstore at hs
    repeat' split at hs
    all_goals first
      | (cases hs; done)
      | (cases mx_go_eq hs; exact hn)
  · rename_i hi
    have hn := (hT (by unfold mx_trm; rw [hi])).2
    unfold mx_sAstore at hs
    repeat' split at hs
    all_goals first
      | (cases hs; done)
      | (cases mx_go_eq hs; exact hn)
  · rename_i hi
    have hn := (hT (by unfold mx_trm; rw [hi])).2
    unfold mx_sLstore at hs
    repeat' split at hs
    all_goals first
      | (cases hs; done)
      | (cases mx_go_eq hs; exact hn)
  · rename_i hi
    have hn := (hT (by unfold mx_trm; rw [hi])).2
    unfold mx_sLstore at hs
    repeat' split at hs
    all_goals first
      | (cases hs; done)
      | (cases mx_go_eq hs; exact hn)
  · rename_i hi
    have hn := (hT (by unfold mx_trm; rw [hi])).2
    unfold mx_sIinc at hs
    repeat' split at hs
    all_goals first
      | (cases hs; done)
      | (cases mx_go_eq hs; exact hn)
  · rename_i hi
    have hn := (hT (by unfold mx_trm; rw [hi])).2
    unfold mx_sB at hs
    repeat' split at hs
    all_goals first
      | (cases hs; done)
      | (cases mx_go_eq hs; exact hn)
  · rename_i hi
    have hn := (hT (by unfold mx_trm; rw [hi])).2
    unfold mx_sB at hs
    repeat' split at hs
    all_goals first
      | (cases hs; done)
      | (cases mx_go_eq hs; exact hn)
  · rename_i hi
    have hn := (hT (by unfold mx_trm; rw [hi])).2
    unfold mx_sB at hs
    repeat' split at hs
    all_goals first
      | (cases hs; done)
      | (cases mx_go_eq hs; exact hn)
  · rename_i hi
    have hn := (hT (by unfold mx_trm; rw [hi])).2
    unfold mx_sB at hs
    repeat' split at hs
    all_goals first
      | (cases hs; done)
      | (cases mx_go_eq hs; exact hn)
  · rename_i hi
    have hn := (hT (by unfold mx_trm; rw [hi])).2
    unfold mx_sB at hs
    repeat' split at hs
    all_goals first
      | (cases hs; done)
      | (cases mx_go_eq hs; exact hn)
  · rename_i hi
    have hn := (hT (by unfold mx_trm; rw [hi])).2
    unfold mx_sB at hs
    repeat' split at hs
    all_goals first
      | (cases hs; done)
      | (cases mx_go_eq hs; exact hn)
  · rename_i hi
    have hn := (hT (by unfold mx_trm; rw [hi])).2
    unfold mx_sB at hs
    repeat' split at hs
    all_goals first
      | (cases hs; done)
      | (cases mx_go_eq hs; exact hn)
  · rename_i hi
    have hn := (hT (by unfold mx_trm; rw [hi])).2
    unfold mx_sB at hs
    repeat' split at hs
    all_goals first
      | (cases hs; done)
      | (cases mx_go_eq hs; exact hn)
  · rename_i hi
    have hn := (hT (by unfold mx_trm; rw [hi])).2
    unfold mx_sBd at hs
    repeat' split at hs
    all_goals first
      | (cases hs; done)
      | (cases mx_go_eq hs; exact hn)
  · rename_i hi
    have hn := (hT (by unfold mx_trm; rw [hi])).2
    unfold mx_sBd at hs
    repeat' split at hs
    all_goals first
      | (cases hs; done)
      | (cases mx_go_eq hs; exact hn)
  · rename_i hi
    have hn := (hT (by unfold mx_trm; rw [hi])).2
    unfold mx_sL at hs
    repeat' split at hs
    all_goals first
      | (cases hs; done)
      | (cases mx_go_eq hs; exact hn)
  · rename_i hi
    have hn := (hT (by unfold mx_trm; rw [hi])).2
    unfold mx_sL at hs
    repeat' split at hs
    all_goals first
      | (cases hs; done)
      | (cases mx_go_eq hs; exact hn)
  · rename_i hi
    have hn := (hT (by unfold mx_trm; rw [hi])).2
    unfold mx_sLd at hs
    repeat' split at hs
    all_goals first
      | (cases hs; done)
      | (cases mx_go_eq hs; exact hn)
  · rename_i hi
    have hn := (hT (by unfold mx_trm; rw [hi])).2
    unfold mx_sLd at hs
    repeat' split at hs
    all_goals first
      | (cases hs; done)
      | (cases mx_go_eq hs; exact hn)
  · rename_i hi
    have hn := (hT (by unfold mx_trm; rw [hi])).2
    unfold mx_sI2l at hs
    repeat' split at hs
    all_goals first
      | (cases hs; done)
      | (cases mx_go_eq hs; exact hn)
  · rename_i hi
    have hn := (hT (by unfold mx_trm; rw [hi])).2
    unfold mx_sL2i at hs
    repeat' split at hs
    all_goals first
      | (cases hs; done)
      | (cases mx_go_eq hs; exact hn)
  · rename_i hi
    have hn := (hT (by unfold mx_trm; rw [hi])).2
    have hok := (mx_okI_of hI (by rw [hi]; exact fun q => by cases q)).2
    unfold mx_okO mx_okJ at hok
    rw [hi] at hok
    simp only [Bool.and_eq_true, decide_eq_true_eq] at hok
    unfold mx_sIcmp at hs
    repeat' split at hs
    all_goals first
      | (cases hs; done)
      | (cases mx_go_eq hs; exact hn)
      | (cases mx_jp_eq hs; exact (mx_tgt hB hok.2.2).1)
  · rename_i hi
    have hn := (hT (by unfold mx_trm; rw [hi])).2
    have hok := (mx_okI_of hI (by rw [hi]; exact fun q => by cases q)).2
    unfold mx_okO mx_okJ at hok
    rw [hi] at hok
    simp only [Bool.and_eq_true, decide_eq_true_eq] at hok
    unfold mx_sIf at hs
    repeat' split at hs
    all_goals first
      | (cases hs; done)
      | (cases mx_go_eq hs; exact hn)
      | (cases mx_jp_eq hs; exact (mx_tgt hB hok.2.2).1)
  · rename_i hi
    have hok := (mx_okI_of hI (by rw [hi]; exact fun q => by cases q)).2
    unfold mx_okO mx_okJ at hok
    rw [hi] at hok
    simp only [Bool.and_eq_true, decide_eq_true_eq] at hok
    cases mx_jp_eq hs
    exact (mx_tgt hB hok.2.2).1
  · rename_i hi
    unfold mx_okI at hI
    rw [hi] at hI
    simp only [Bool.and_eq_true, decide_eq_true_eq] at hI
    cases mx_jp_eq hs
    exact (mx_tgt hB hI.2).1
  · rename_i hi
    have hok := (mx_okI_of hI (by rw [hi]; exact fun q => by cases q)).2
    unfold mx_okO mx_okJ at hok
    rw [hi] at hok
    simp only [Bool.and_eq_true, decide_eq_true_eq] at hok
    unfold mx_sSw at hs
    split at hs
    · cases mx_jp_eq hs
      exact (mx_tgt hB (mx_sw_tg hok.2 hok.1.1.1.2)).1
    · cases hs
  · rename_i hi
    have hok := (mx_okI_of hI (by rw [hi]; exact fun q => by cases q)).2
    unfold mx_okO mx_okJ at hok
    rw [hi] at hok
    simp only [Bool.and_eq_true, decide_eq_true_eq] at hok
    unfold mx_sSw at hs
    split at hs
    · cases mx_jp_eq hs
      exact (mx_tgt hB (mx_sw_tg hok.2 hok.1.1.1.2)).1
    · cases hs
  · rename_i hi
    have hn := (hT (by unfold mx_trm; rw [hi])).2
    have hok := (mx_okI_of hI (by rw [hi]; exact fun q => by cases q)).2
    unfold mx_okO mx_okJ at hok
    rw [hi] at hok
    simp only [Bool.and_eq_true, decide_eq_true_eq] at hok
    unfold mx_sIfnull at hs
    repeat' split at hs
    all_goals first
      | (cases hs; done)
      | (cases mx_go_eq hs; exact hn)
      | (cases mx_jp_eq hs; exact (mx_tgt hB hok.2.2).1)
  · rename_i hi
    have hn := (hT (by unfold mx_trm; rw [hi])).2
    have hok := (mx_okI_of hI (by rw [hi]; exact fun q => by cases q)).2
    unfold mx_okO mx_okJ at hok
    rw [hi] at hok
    simp only [Bool.and_eq_true, decide_eq_true_eq] at hok
    unfold mx_sIfnn at hs
    repeat' split at hs
    all_goals first
      | (cases hs; done)
      | (cases mx_go_eq hs; exact hn)
      | (cases mx_jp_eq hs; exact (mx_tgt hB hok.2.2).1)
  · rename_i hi
    have hn := (hT (by unfold mx_trm; rw [hi])).2
    unfold mx_sDup at hs
    repeat' split at hs
    all_goals first
      | (cases hs; done)
      | (cases mx_go_eq hs; exact hn)
  · rename_i hi
    have hn := (hT (by unfold mx_trm; rw [hi])).2
    unfold mx_sDup2 at hs
    repeat' split at hs
    all_goals first
      | (cases hs; done)
      | (cases mx_go_eq hs; exact hn)
  · rename_i hi
    have hn := (hT (by unfold mx_trm; rw [hi])).2
    unfold mx_sPop at hs
    repeat' split at hs
    all_goals first
      | (cases hs; done)
      | (cases mx_go_eq hs; exact hn)
  · rename_i hi
    have hn := (hT (by unfold mx_trm; rw [hi])).2
    unfold mx_sGet at hs
    repeat' split at hs
    all_goals first
      | (cases hs; done)
      | (cases mx_go_eq hs; exact hn)
  · rename_i hi
    have hn := (hT (by unfold mx_trm; rw [hi])).2
    unfold mx_sPut at hs
    repeat' split at hs
    all_goals first
      | (cases hs; done)
      | (cases mx_go_eq hs; exact hn)
  · rename_i hi
    have hn := (hT (by unfold mx_trm; rw [hi])).2
    unfold mx_sIald at hs
    repeat' split at hs
    all_goals first
      | (cases hs; done)
      | (cases mx_go_eq hs; exact hn)
  · rename_i hi
    have hn := (hT (by unfold mx_trm; rw [hi])).2
    unfold mx_sIast at hs
    repeat' split at hs
    all_goals first
      | (cases hs; done)
      | (cases mx_go_eq hs; exact hn)
  · rename_i hi
    have hn := (hT (by unfold mx_trm; rw [hi])).2
    unfold mx_sAald at hs
    repeat' split at hs
    all_goals first
      | (cases hs; done)
      | (cases mx_go_eq hs; exact hn)
  · rename_i hi
    have hn := (hT (by unfold mx_trm; rw [hi])).2
    unfold mx_sAast at hs
    repeat' split at hs
    all_goals first
      | (cases hs; done)
      | (cases mx_go_eq hs; exact hn)
  · rename_i hi
    have hn := (hT (by unfold mx_trm; rw [hi])).2
    unfold mx_sAlen at hs
    repeat' split at hs
    all_goals first
      | (cases hs; done)
      | (cases mx_go_eq hs; exact hn)
  · rename_i hi
    have hn := (hT (by unfold mx_trm; rw [hi])).2
    unfold mx_sNew at hs
    repeat' split at hs
    all_goals first
      | (cases hs; done)
      | (cases mx_go_eq hs; exact hn)
  · rename_i hi
    have hn := (hT (by unfold mx_trm; rw [hi])).2
    unfold mx_sNewa at hs
    repeat' split at hs
    all_goals first
      | (cases hs; done)
      | (cases mx_go_eq hs; exact hn)
  · rename_i hi
    have hn := (hT (by unfold mx_trm; rw [hi])).2
    unfold mx_sNewq at hs
    repeat' split at hs
    all_goals first
      | (cases hs; done)
      | (cases mx_go_eq hs; exact hn)
  · rename_i hi
    have hn := (hT (by unfold mx_trm; rw [hi])).2
    unfold mx_sMna at hs
    repeat' split at hs
    all_goals first
      | (cases hs; done)
      | (cases mx_go_eq hs; exact hn)
  · rename_i hi
    have hn := (hT (by unfold mx_trm; rw [hi])).2
    unfold mx_sVirt at hs
    repeat' split at hs
    all_goals first
      | exact (mx_call_no hs).elim
      | (cases hs; done)
      | (cases mx_go_eq hs; exact hn)
  · rename_i hi
    have hn := (hT (by unfold mx_trm; rw [hi])).2
    unfold mx_sSpec at hs
    repeat' split at hs
    all_goals first
      | exact (mx_call_no hs).elim
      | (cases hs; done)
      | (cases mx_go_eq hs; exact hn)
  · rename_i hi
    have hn := (hT (by unfold mx_trm; rw [hi])).2
    unfold mx_sStat at hs
    repeat' split at hs
    all_goals first
      | exact (mx_call_no hs).elim
      | (cases hs; done)
      | (cases mx_go_eq hs; exact hn)
  · unfold mx_sIret mx_ret at hs
    repeat' split at hs
    all_goals cases hs
  · unfold mx_sAret mx_ret at hs
    repeat' split at hs
    all_goals cases hs
  · unfold mx_sVret mx_ret at hs
    repeat' split at hs
    all_goals cases hs
  · cases hs
theorem mx_one (J : mx_Jdk l D B ρ cs) (C : mx_Cx p s m args meth c R D B ρ cs M sc) (ho : mx_okL M (i :: r) = true) (hB : mx_okB M = true) (hs : mx_step1 M sc i r loc st h k z = some (.inl c')) (K : mx_Sim p l e R s m args below meth c Q D B ρ cs M c') : mx_Sim p l e R s m args below meth c Q D B ρ cs M (i :: r, loc, st, h, k, z) := by
  obtain ⟨hI, hT⟩ := mx_okL_of ho
  unfold mx_step1 at hs
  split at hs
  · rename_i hi
    have hn := (hT (by unfold mx_trm; rw [hi])).1
    have hok := mx_okI_of hI (by rw [hi]; exact fun q => by cases q)
    exact mx_s_iconst C hi hok.1 hok.2 hn hs K
  · rename_i hi
    have hn := (hT (by unfold mx_trm; rw [hi])).1
    have hok := mx_okI_of hI (by rw [hi]; exact fun q => by cases q)
    exact mx_s_bipush C hi hok.1 hok.2 hn hs K
  · rename_i hi
    have hn := (hT (by unfold mx_trm; rw [hi])).1
    have hok := mx_okI_of hI (by rw [hi]; exact fun q => by cases q)
    exact mx_s_sipush C hi hok.1 hok.2 hn hs K
  · rename_i hi
    have hn := (hT (by unfold mx_trm; rw [hi])).1
    have hok := mx_okI_of hI (by rw [hi]; exact fun q => by cases q)
    exact mx_s_lconst C hi hok.1 hok.2 hn hs K
  · rename_i hi
    have hn := (hT (by unfold mx_trm; rw [hi])).1
    have hok := mx_okI_of hI (by rw [hi]; exact fun q => by cases q)
    exact mx_s_ldc2 C hi hok.1 hok.2 hn hs K
  · rename_i hi
    have hn := (hT (by unfold mx_trm; rw [hi])).1
    have hok := mx_okI_of hI (by rw [hi]; exact fun q => by cases q)
    exact mx_s_null C hi hok.1 hok.2 hn hs K
  · rename_i hi
    have hn := (hT (by unfold mx_trm; rw [hi])).1
    have hok := mx_okI_of hI (by rw [hi]; exact fun q => by cases q)
    exact mx_s_ldc C hi hok.1 hok.2 hn hs K
  · rename_i hi
    have hn := (hT (by unfold mx_trm; rw [hi])).1
    have hok := mx_okI_of hI (by rw [hi]; exact fun q => by cases q)
    exact mx_s_iload_n C hi hok.1 hok.2 hn hs K
  · rename_i hi
    have hn := (hT (by unfold mx_trm; rw [hi])).1
    have hok := mx_okI_of hI (by rw [hi]; exact fun q => by cases q)
    exact mx_s_iload C hi hok.1 hok.2 hn hs K
  · rename_i hi
    have hn := (hT (by unfold mx_trm; rw [hi])).1
    have hok := mx_okI_of hI (by rw [hi]; exact fun q => by cases q)
    exact mx_s_lload_n C hi hok.1 hok.2 hn hs K
  · rename_i hi
    have hn := (hT (by unfold mx_trm; rw [hi])).1
    have hok := mx_okI_of hI (by rw [hi]; exact fun q => by cases q)
    exact mx_s_lload C hi hok.1 hok.2 hn hs K
  · rename_i hi
    have hn := (hT (by unfold mx_trm; rw [hi])).1
    have hok := mx_okI_of hI (by rw [hi]; exact fun q => by cases q)
    exact mx_s_aload_n C hi hok.1 hok.2 hn hs K
  · rename_i hi
    have hn := (hT (by unfold mx_trm; rw [hi])).1
    have hok := mx_okI_of hI (by rw [hi]; exact fun q => by cases q)
    exact mx_s_aload C hi hok.1 hok.2 hn hs K
  · rename_i hi
    have hn := (hT (by unfold mx_trm; rw [hi])).1
    have hok := mx_okI_of hI (by rw [hi]; exact fun q => by cases q)
    exact mx_s_istore_n C hi hok.1 hok.2 hn hs K
  · rename_i hi
    have hn := (hT (by unfold mx_trm; rw [hi])).1
    have hok := mx_okI_of hI (by rw [hi]; exact fun q => by cases q)
    exact mx_s_istore C hi hok.1 hok.2 hn hs K
  · rename_i hi
    have hn := (hT (by unfold mx_trm; rw [hi])).1
    have hok := mx_okI_of hI (by rw [hi]; exact fun q => by cases q)
    exact mx_s_astore_n C hi hok.1 hok.2 hn hs K
  · rename_i hi
    have hn := (hT (by unfold mx_trm; rw [hi])).1
    have hok := mx_okI_of hI (by rw [hi]; exact fun q => by cases q)
    exact mx_s_astore C hi hok.1 hok.2 hn hs K
  · rename_i hi
    have hn := (hT (by unfold mx_trm; rw [hi])).1
    have hok := mx_okI_of hI (by rw [hi]; exact fun q => by cases q)
    exact mx_s_lstore_n C hi hok.1 hok.2 hn hs K
  · rename_i hi
    have hn := (hT (by unfold mx_trm; rw [hi])).1
    have hok := mx_okI_of hI (by rw [hi]; exact fun q => by cases q)
    exact mx_s_lstore C hi hok.1 hok.2 hn hs K
  · rename_i hi
    have hn := (hT (by unfold mx_trm; rw [hi])).1
    have hok := mx_okI_of hI (by rw [hi]; exact fun q => by cases q)
    exact mx_s_iinc C hi hok.1 hok.2 hn hs K
  · rename_i hi
    have hn := (hT (by unfold mx_trm; rw [hi])).1
    have hok := mx_okI_of hI (by rw [hi]; exact fun q => by cases q)
    exact mx_s_iadd C hi hok.1 hok.2 hn hs K
  · rename_i hi
    have hn := (hT (by unfold mx_trm; rw [hi])).1
    have hok := mx_okI_of hI (by rw [hi]; exact fun q => by cases q)
    exact mx_s_isub C hi hok.1 hok.2 hn hs K
  · rename_i hi
    have hn := (hT (by unfold mx_trm; rw [hi])).1
    have hok := mx_okI_of hI (by rw [hi]; exact fun q => by cases q)
    exact mx_s_imul C hi hok.1 hok.2 hn hs K
  · rename_i hi
    have hn := (hT (by unfold mx_trm; rw [hi])).1
    have hok := mx_okI_of hI (by rw [hi]; exact fun q => by cases q)
    exact mx_s_iand C hi hok.1 hok.2 hn hs K
  · rename_i hi
    have hn := (hT (by unfold mx_trm; rw [hi])).1
    have hok := mx_okI_of hI (by rw [hi]; exact fun q => by cases q)
    exact mx_s_ior C hi hok.1 hok.2 hn hs K
  · rename_i hi
    have hn := (hT (by unfold mx_trm; rw [hi])).1
    have hok := mx_okI_of hI (by rw [hi]; exact fun q => by cases q)
    exact mx_s_ixor C hi hok.1 hok.2 hn hs K
  · rename_i hi
    have hn := (hT (by unfold mx_trm; rw [hi])).1
    have hok := mx_okI_of hI (by rw [hi]; exact fun q => by cases q)
    exact mx_s_ishl C hi hok.1 hok.2 hn hs K
  · rename_i hi
    have hn := (hT (by unfold mx_trm; rw [hi])).1
    have hok := mx_okI_of hI (by rw [hi]; exact fun q => by cases q)
    exact mx_s_ishr C hi hok.1 hok.2 hn hs K
  · rename_i hi
    have hn := (hT (by unfold mx_trm; rw [hi])).1
    have hok := mx_okI_of hI (by rw [hi]; exact fun q => by cases q)
    exact mx_s_idiv C hi hok.1 hok.2 hn hs K
  · rename_i hi
    have hn := (hT (by unfold mx_trm; rw [hi])).1
    have hok := mx_okI_of hI (by rw [hi]; exact fun q => by cases q)
    exact mx_s_irem C hi hok.1 hok.2 hn hs K
  · rename_i hi
    have hn := (hT (by unfold mx_trm; rw [hi])).1
    have hok := mx_okI_of hI (by rw [hi]; exact fun q => by cases q)
    exact mx_s_ladd C hi hok.1 hok.2 hn hs K
  · rename_i hi
    have hn := (hT (by unfold mx_trm; rw [hi])).1
    have hok := mx_okI_of hI (by rw [hi]; exact fun q => by cases q)
    exact mx_s_lmul C hi hok.1 hok.2 hn hs K
  · rename_i hi
    have hn := (hT (by unfold mx_trm; rw [hi])).1
    have hok := mx_okI_of hI (by rw [hi]; exact fun q => by cases q)
    exact mx_s_ldiv C hi hok.1 hok.2 hn hs K
  · rename_i hi
    have hn := (hT (by unfold mx_trm; rw [hi])).1
    have hok := mx_okI_of hI (by rw [hi]; exact fun q => by cases q)
    exact mx_s_lrem C hi hok.1 hok.2 hn hs K
  · rename_i hi
    have hn := (hT (by unfold mx_trm; rw [hi])).1
    have hok := mx_okI_of hI (by rw [hi]; exact fun q => by cases q)
    exact mx_s_i2l C hi hok.1 hok.2 hn hs K
  · rename_i hi
    have hn := (hT (by unfold mx_trm; rw [hi])).1
    have hok := mx_okI_of hI (by rw [hi]; exact fun q => by cases q)
    exact mx_s_l2i C hi hok.1 hok.2 hn hs K
  · rename_i hi
    have hn := (hT (by unfold mx_trm; rw [hi])).1
    have hok := mx_okI_of hI (by rw [hi]; exact fun q => by cases q)
    exact mx_s_icmp C hB hi hok.1 hok.2 hn hs K
  · rename_i hi
    have hn := (hT (by unfold mx_trm; rw [hi])).1
    have hok := mx_okI_of hI (by rw [hi]; exact fun q => by cases q)
    exact mx_s_ifc C hB hi hok.1 hok.2 hn hs K
  · rename_i hi
    have hok := mx_okI_of hI (by rw [hi]; exact fun q => by cases q)
    exact mx_s_goto C hB hi hok.1 hok.2 hs K
  · rename_i hi
    unfold mx_okI at hI
    rw [hi] at hI
    simp only [Bool.and_eq_true, decide_eq_true_eq] at hI
    cases mx_jp_eq hs
    refine fun H locs ls hR hS hL => ?_
    have hw := mx_jx hB hI.2 K hR hS hL
    rw [← hI.1.2] at hw
    exact hw
  · rename_i hi
    have hok := mx_okI_of hI (by rw [hi]; exact fun q => by cases q)
    exact mx_s_table C hB hi hok.1 hok.2 hs K
  · rename_i hi
    have hok := mx_okI_of hI (by rw [hi]; exact fun q => by cases q)
    exact mx_s_lookup C hB hi hok.1 hok.2 hs K
  · rename_i hi
    have hn := (hT (by unfold mx_trm; rw [hi])).1
    have hok := mx_okI_of hI (by rw [hi]; exact fun q => by cases q)
    exact mx_s_ifnull C hB hi hok.1 hok.2 hn hs K
  · rename_i hi
    have hn := (hT (by unfold mx_trm; rw [hi])).1
    have hok := mx_okI_of hI (by rw [hi]; exact fun q => by cases q)
    exact mx_s_ifnonnull C hB hi hok.1 hok.2 hn hs K
  · rename_i hi
    have hn := (hT (by unfold mx_trm; rw [hi])).1
    have hok := mx_okI_of hI (by rw [hi]; exact fun q => by cases q)
    exact mx_s_dup C hi hok.1 hok.2 hn hs K
  · rename_i hi
    have hn := (hT (by unfold mx_trm; rw [hi])).1
    have hok := mx_okI_of hI (by rw [hi]; exact fun q => by cases q)
    exact mx_s_dup2 C hi hok.1 hok.2 hn hs K
  · rename_i hi
    have hn := (hT (by unfold mx_trm; rw [hi])).1
    have hok := mx_okI_of hI (by rw [hi]; exact fun q => by cases q)
    exact mx_s_pop C hi hok.1 hok.2 hn hs K
  · rename_i hi
    have hn := (hT (by unfold mx_trm; rw [hi])).1
    have hok := mx_okI_of hI (by rw [hi]; exact fun q => by cases q)
    exact mx_s_get C hi hok.1 hok.2 hn hs K
  · rename_i hi
    have hn := (hT (by unfold mx_trm; rw [hi])).1
    have hok := mx_okI_of hI (by rw [hi]; exact fun q => by cases q)
    exact mx_s_put C hi hok.1 hok.2 hn hs K
  · rename_i hi
    have hn := (hT (by unfold mx_trm; rw [hi])).1
    have hok := mx_okI_of hI (by rw [hi]; exact fun q => by cases q)
    exact mx_s_iald C hi hok.1 hok.2 hn hs K
  · rename_i hi
    have hn := (hT (by unfold mx_trm; rw [hi])).1
    have hok := mx_okI_of hI (by rw [hi]; exact fun q => by cases q)
    exact mx_s_iast C hi hok.1 hok.2 hn hs K
  · rename_i hi
    have hn := (hT (by unfold mx_trm; rw [hi])).1
    have hok := mx_okI_of hI (by rw [hi]; exact fun q => by cases q)
    exact mx_s_aald C hi hok.1 hok.2 hn hs K
  · rename_i hi
    have hn := (hT (by unfold mx_trm; rw [hi])).1
    have hok := mx_okI_of hI (by rw [hi]; exact fun q => by cases q)
    exact mx_s_aast C hi hok.1 hok.2 hn hs K
  · rename_i hi
    have hn := (hT (by unfold mx_trm; rw [hi])).1
    have hok := mx_okI_of hI (by rw [hi]; exact fun q => by cases q)
    exact mx_s_alen C hi hok.1 hok.2 hn hs K
  · rename_i hi
    have hn := (hT (by unfold mx_trm; rw [hi])).1
    have hok := mx_okI_of hI (by rw [hi]; exact fun q => by cases q)
    exact mx_s_new C hi hok.1 hok.2 hn hs K
  · rename_i hi
    have hn := (hT (by unfold mx_trm; rw [hi])).1
    have hok := mx_okI_of hI (by rw [hi]; exact fun q => by cases q)
    exact mx_s_newa C hi hok.1 hok.2 hn hs K
  · rename_i hi
    have hn := (hT (by unfold mx_trm; rw [hi])).1
    have hok := mx_okI_of hI (by rw [hi]; exact fun q => by cases q)
    exact mx_s_newq C hi hok.1 hok.2 hn hs K
  · rename_i hi
    have hn := (hT (by unfold mx_trm; rw [hi])).1
    have hok := mx_okI_of hI (by rw [hi]; exact fun q => by cases q)
    exact mx_s_mna C hi hok.1 hok.2 hn hs K
  · rename_i hi
    have hn := (hT (by unfold mx_trm; rw [hi])).1
    have hok := mx_okI_of hI (by rw [hi]; exact fun q => by cases q)
    by_cases hk : i.2.2.2.1 = 1002 ∨ i.2.2.2.1 = 1003
    · exact J C hi hk hok.1 hok.2 hn hs K
    · unfold mx_sVirt at hs
      rw [if_neg (fun q => hk (Or.inl q)), if_neg (fun q => hk (Or.inr q))] at hs
      exact (mx_call_no hs).elim
  · rename_i hi
    have hn := (hT (by unfold mx_trm; rw [hi])).1
    have hok := mx_okI_of hI (by rw [hi]; exact fun q => by cases q)
    by_cases hk : i.2.2.2.1 = 1000
    · exact mx_s_oinit C hi hk hok.1 hok.2 hn hs K
    · unfold mx_sSpec at hs
      rw [if_neg hk] at hs
      exact (mx_call_no hs).elim
  · rename_i hi
    have hn := (hT (by unfold mx_trm; rw [hi])).1
    have hok := mx_okI_of hI (by rw [hi]; exact fun q => by cases q)
    by_cases hk : i.2.2.2.1 = 1001
    · exact mx_s_mmax C hi hk hok.1 hok.2 hn hs K
    · unfold mx_sStat at hs
      rw [if_neg hk] at hs
      exact (mx_call_no hs).elim
  · unfold mx_sIret mx_ret at hs
    repeat' split at hs
    all_goals cases hs
  · unfold mx_sAret mx_ret at hs
    repeat' split at hs
    all_goals cases hs
  · unfold mx_sVret mx_ret at hs
    repeat' split at hs
    all_goals cases hs
  · cases hs
end Sim
end
section
/-! the whole run of a method, by its fuel -/
section Sim
variable {p : Program} {l : Launch} {e : Env} {R : Room} {s : State} {m : MethodId} {args : Array Value} {below : List Frame} {meth : Method} {c : Code} {Q : State → Prop} {D : va_G} {B : Nat} {ρ : Nat → Nat} {cs : mx_Cs} {M : mx_Mt} {sc : mx_Sc}
variable {i : mx_In} {r : List mx_In} {loc : mx_Lc} {st : List Value} {h : mx_Hp} {k z : Nat} {c' : mx_Cf}
theorem mx_cone (hok : ∀ y, y < mx_law → mx_okM (mx_tab y) = true ∧ mx_okW (mx_tab y) = true) (C : mx_Cx p s m args meth c R D B ρ cs M sc) (ho : mx_okL M (i :: r) = true) {y : Nat} {as : List Value} (hs : mx_step1 M sc i r loc st h k z = some (.inr (.inl (y, as, c')))) {q : mx_Rs} (hM : mx_Met l D B ρ cs (mx_tab y) as c'.2.2.2.1 q) (K : mx_Sim p l e R s m args below meth c Q D B ρ cs M (mx_beh c' q)) : mx_Sim p l e R s m args below meth c Q D B ρ cs M (i :: r, loc, st, h, k, z) := by
  obtain ⟨hI, hT⟩ := mx_okL_of ho
  have hcls : ∀ y, y < mx_law → (mx_tab y).2.1.cls ≠ "" := by
    intro y hy
    have h1 := (hok y hy).1
    unfold mx_okM at h1
    simp only [Bool.and_eq_true, decide_eq_true_eq] at h1
    exact h1.2
  unfold mx_step1 at hs
  split at hs
  · cases hs
  · cases hs
  · cases hs
  · cases hs
  · cases hs
  · cases hs
  · cases hs
  · unfold mx_sIload at hs
    repeat' split at hs
    all_goals cases hs
  · unfold mx_sIload at hs
    repeat' split at hs
    all_goals cases hs
  · unfold mx_sLload at hs
    repeat' split at hs
    all_goals cases hs
  · unfold mx_sLload at hs
    repeat' split at hs
    all_goals cases hs
  · unfold mx_sAload at hs
    repeat' split at hs
    all_goals cases hs
  · unfold mx_sAload at hs
    repeat' split at hs
    all_goals cases hs
  · unfold mx_sIstore at hs
    repeat' split at hs
    all_goals cases hs
  · unfold mx_sIstore at hs
    repeat' split at hs
    all_goals cases hs
  · unfold mx_sAstore at hs
    repeat' split at hs
    all_goals cases hs
  · unfold mx_sAstore at hs
    repeat' split at hs
    all_goals cases hs
  · unfold mx_sLstore at hs
    repeat' split at hs
    all_goals cases hs
  · unfold mx_sLstore at hs
    repeat' split at hs
    all_goals cases hs
  · unfold mx_sIinc at hs
    repeat' split at hs
    all_goals cases hs
  · unfold mx_sB at hs
    repeat' split at hs
    all_goals cases hs
  · unfold mx_sB at hs
    repeat' split at hs
    all_goals cases hs
  · unfold mx_sB at hs
    repeat' split at hs
    all_goals cases hs
  · unfold mx_sB at hs
    repeat' split at hs
    all_goals cases hs
  · unfold mx_sB at hs
    repeat' split at hs
    all_goals cases hs
  · unfold mx_sB at hs
    repeat' split at hs
    all_goals cases hs
  · unfold mx_sB at hs
    repeat' split at hs
    all_goals cases hs
  · unfold mx_sB at hs
    repeat' split at hs
    all_goals cases hs
  · unfold mx_sBd at hs
    repeat' split at hs
    all_goals cases hs
  · unfold mx_sBd at hs
    repeat' split at hs
    all_goals cases hs
  · unfold mx_sL at hs
    repeat' split at hs
    all_goals cases hs
  · unfold mx_sL at hs
    repeat' split at hs
    all_goals cases hs
  · unfold mx_sLd at hs
    repeat' split at hs
    all_goals cases hs
  · unfold mx_sLd at hs
    repeat' split at hs
    all_goals cases hs
  · unfold mx_sI2l at hs
    repeat' split at hs
    all_goals cases hs
  · unfold mx_sL2i at hs
    repeat' split at hs
    all_goals cases hs
  · unfold mx_sIcmp at hs
    repeat' split at hs
    all_goals cases hs
  · unfold mx_sIf at hs
    repeat' split at hs
    all_goals cases hs
  · cases hs
  · cases hs
  · unfold mx_sSw at hs
    repeat' split at hs
    all_goals cases hs
  · unfold mx_sSw at hs
    repeat' split at hs
    all_goals cases hs
  · unfold mx_sIfnull at hs
    repeat' split at hs
    all_goals cases hs
  · unfold mx_sIfnn at hs
    repeat' split at hs
    all_goals cases hs
  · unfold mx_sDup at hs
    repeat' split at hs
    all_goals cases hs
  · unfold mx_sDup2 at hs
    repeat' split at hs
    all_goals cases hs
  · unfold mx_sPop at hs
    repeat' split at hs
    all_goals cases hs
  · unfold mx_sGet at hs
    repeat' split at hs
    all_goals cases hs
  · unfold mx_sPut at hs
    repeat' split at hs
    all_goals cases hs
  · unfold mx_sIald at hs
    repeat' split at hs
    all_goals cases hs
  · unfold mx_sIast at hs
    repeat' split at hs
    all_goals cases hs
  · unfold mx_sAald at hs
    repeat' split at hs
    all_goals cases hs
  · unfold mx_sAast at hs
    repeat' split at hs
    all_goals cases hs
  · unfold mx_sAlen at hs
    repeat' split at hs
    all_goals cases hs
  · unfold mx_sNew at hs
    repeat' split at hs
    all_goals cases hs
  · unfold mx_sNewa at hs
    repeat' split at hs
    all_goals cases hs
  · unfold mx_sNewq at hs
    repeat' split at hs
    all_goals cases hs
  · unfold mx_sMna at hs
    repeat' split at hs
    all_goals cases hs
  · rename_i hi
    have hn := (hT (by unfold mx_trm; rw [hi])).1
    have hok2 := mx_okI_of hI (by rw [hi]; exact fun q => by cases q)
    unfold mx_sVirt at hs
    split at hs
    · repeat' split at hs
      all_goals cases hs
    · rename_i hk1
      split at hs
      · repeat' split at hs
        all_goals cases hs
      · rename_i hk2
        obtain ⟨hd, ok⟩ := hok2
        unfold mx_okO at ok
        rw [hi] at ok hd
        simp only [Bool.and_eq_true, decide_eq_true_eq] at ok
        rw [if_neg (fun q => q.elim hk1 hk2)] at ok
        simp only [Bool.and_eq_true, decide_eq_true_eq] at ok
        rw [ok.1] at hd hn
        have hlt := (mx_okC_of ok.2.1).1
        exact mx_c_virt C hd ok.2.1 ok.2.2 hn (hcls _ hlt) (hok _ hlt).2 hs hM K
  · rename_i hi
    have hn := (hT (by unfold mx_trm; rw [hi])).1
    have hok2 := mx_okI_of hI (by rw [hi]; exact fun q => by cases q)
    unfold mx_sSpec at hs
    split at hs
    · repeat' split at hs
      all_goals cases hs
    · rename_i hk1
      obtain ⟨hd, ok⟩ := hok2
      unfold mx_okO at ok
      rw [hi] at ok hd
      simp only [Bool.and_eq_true, decide_eq_true_eq] at ok
      rw [if_neg hk1] at ok
      simp only [Bool.and_eq_true, decide_eq_true_eq] at ok
      rw [ok.1] at hd hn
      have hlt := (mx_okC_of ok.2.1).1
      exact mx_c_spec C hd ok.2.1 ok.2.2 hn (hcls _ hlt) (hok _ hlt).2 hs hM K
  · rename_i hi
    have hn := (hT (by unfold mx_trm; rw [hi])).1
    have hok2 := mx_okI_of hI (by rw [hi]; exact fun q => by cases q)
    unfold mx_sStat at hs
    split at hs
    · repeat' split at hs
      all_goals cases hs
    · rename_i hk1
      obtain ⟨hd, ok⟩ := hok2
      unfold mx_okO at ok
      rw [hi] at ok hd
      simp only [Bool.and_eq_true, decide_eq_true_eq] at ok
      rw [if_neg hk1] at ok
      rw [ok.1] at hd hn
      have hlt := (mx_okC_of ok.2).1
      exact mx_c_stat C hd ok.2 hn (hcls _ hlt) (hok _ hlt).2 hs hM K
  · unfold mx_sIret mx_ret at hs
    repeat' split at hs
    all_goals cases hs
  · unfold mx_sAret mx_ret at hs
    repeat' split at hs
    all_goals cases hs
  · unfold mx_sVret mx_ret at hs
    repeat' split at hs
    all_goals cases hs
  · cases hs
/-- which method a call names, and that its arguments fit -/
theorem mx_cfit (ho : mx_okL M (i :: r) = true) {y : Nat} {as : List Value} (hs : mx_step1 M sc i r loc st h k z = some (.inr (.inl (y, as, c')))) : y < mx_law ∧ as.all mx_c1 = true ∧ as.length ≤ (mx_tab y).2.2.2.1 ∧ mx_trm i = false ∧ c'.1 = r := by
  obtain ⟨hI, hT⟩ := mx_okL_of ho
  have key : ∀ v, mx_call M i r loc st h k z v = some (.inr (.inl (y, as, c'))) → i.2.2.2.1 < mx_law → y < mx_law ∧ as.all mx_c1 = true ∧ as.length ≤ (mx_tab y).2.2.2.1 ∧ c'.1 = r := by
    intro v hv hlt
    obtain ⟨rfl, rfl, rfl, b1, b2, b3, -⟩ := mx_call_of hv
    refine ⟨hlt, by rw [List.all_reverse]; exact b2, ?_, rfl⟩
    simp
    omega
  unfold mx_step1 at hs
  split at hs
  · cases hs
  · cases hs
  · cases hs
  · cases hs
  · cases hs
  · cases hs
  · cases hs
  · unfold mx_sIload at hs
    repeat' split at hs
    all_goals cases hs
  · unfold mx_sIload at hs
    repeat' split at hs
    all_goals cases hs
  · unfold mx_sLload at hs
    repeat' split at hs
    all_goals cases hs
  · unfold mx_sLload at hs
    repeat' split at hs
    all_goals cases hs
  · unfold mx_sAload at hs
    repeat' split at hs
    all_goals cases hs
  · unfold mx_sAload at hs
    repeat' split at hs
    all_goals cases hs
  · unfold mx_sIstore at hs
    repeat' split at hs
    all_goals cases hs
  · unfold mx_sIstore at hs
    repeat' split at hs
    all_goals cases hs
  · unfold mx_sAstore at hs
    repeat' split at hs
    all_goals cases hs
  · unfold mx_sAstore at hs
    repeat' split at hs
    all_goals cases hs
  · unfold mx_sLstore at hs
    repeat' split at hs
    all_goals cases hs
  · unfold mx_sLstore at hs
    repeat' split at hs
    all_goals cases hs
  · unfold mx_sIinc at hs
    repeat' split at hs
    all_goals cases hs
  · unfold mx_sB at hs
    repeat' split at hs
    all_goals cases hs
  · unfold mx_sB at hs
    repeat' split at hs
    all_goals cases hs
  · unfold mx_sB at hs
    repeat' split at hs
    all_goals cases hs
  · unfold mx_sB at hs
    repeat' split at hs
    all_goals cases hs
  · unfold mx_sB at hs
    repeat' split at hs
    all_goals cases hs
  · unfold mx_sB at hs
    repeat' split at hs
    all_goals cases hs
  · unfold mx_sB at hs
    repeat' split at hs
    all_goals cases hs
  · unfold mx_sB at hs
    repeat' split at hs
    all_goals cases hs
  · unfold mx_sBd at hs
    repeat' split at hs
    all_goals cases hs
  · unfold mx_sBd at hs
    repeat' split at hs
    all_goals cases hs
  · unfold mx_sL at hs
    repeat' split at hs
    all_goals cases hs
  · unfold mx_sL at hs
    repeat' split at hs
    all_goals cases hs
  · unfold mx_sLd at hs
    repeat' split at hs
    all_goals cases hs
  · unfold mx_sLd at hs
    repeat' split at hs
    all_goals cases hs
  · unfold mx_sI2l at hs
    repeat' split at hs
    all_goals cases hs
  · unfold mx_sL2i at hs
    repeat' split at hs
    all_goals cases hs
  · unfold mx_sIcmp at hs
    repeat' split at hs
    all_goals cases hs
  · unfold mx_sIf at hs
    repeat' split at hs
    all_goals cases hs
  · cases hs
  · cases hs
  · unfold mx_sSw at hs
    repeat' split at hs
    all_goals cases hs
  · unfold mx_sSw at hs
    repeat' split at hs
    all_goals cases hs
  · unfold mx_sIfnull at hs
    repeat' split at hs
    all_goals cases hs
  · unfold mx_sIfnn at hs
    repeat' split at hs
    all_goals cases hs
  · unfold mx_sDup at hs
    repeat' split at hs
    all_goals cases hs
  · unfold mx_sDup2 at hs
    repeat' split at hs
    all_goals cases hs
  · unfold mx_sPop at hs
    repeat' split at hs
    all_goals cases hs
  · unfold mx_sGet at hs
    repeat' split at hs
    all_goals cases hs
  · unfold mx_sPut at hs
    repeat' split at hs
    all_goals cases hs
  · unfold mx_sIald at hs
    repeat' split at hs
    all_goals cases hs
  · unfold mx_sIast at hs
    repeat' split at hs
    all_goals cases hs
  · unfold mx_sAald at hs
    repeat' split at hs
    all_goals cases hs
  · unfold mx_sAast at hs
    repeat' split at hs
    all_goals cases hs
  · unfold mx_sAlen at hs
    repeat' split at hs
    all_goals cases hs
  · unfold mx_sNew at hs
    repeat' split at hs
    all_goals cases hs
  · unfold mx_sNewa at hs
    repeat' split at hs
    all_goals cases hs
  · unfold mx_sNewq at hs
    repeat' split at hs
    all_goals cases hs
  · unfold mx_sMna at hs
    repeat' split at hs
    all_goals cases hs
  · rename_i hi
    have hok2 := mx_okI_of hI (by rw [hi]; exact fun q => by cases q)
    unfold mx_sVirt at hs
    split at hs
    · repeat' split at hs
      all_goals cases hs
    · rename_i hk1
      split at hs
      · repeat' split at hs
        all_goals cases hs
      · rename_i hk2
        obtain ⟨hd, ok⟩ := hok2
        unfold mx_okO at ok
        rw [hi] at ok
        simp only [Bool.and_eq_true, decide_eq_true_eq] at ok
        rw [if_neg (fun q => q.elim hk1 hk2)] at ok
        simp only [Bool.and_eq_true, decide_eq_true_eq] at ok
        have hlt := (mx_okC_of ok.2.1).1
        obtain ⟨a1, a2, a3, a4⟩ := key _ hs hlt
        exact ⟨a1, a2, a3, by unfold mx_trm; rw [hi], a4⟩
  · rename_i hi
    have hok2 := mx_okI_of hI (by rw [hi]; exact fun q => by cases q)
    unfold mx_sSpec at hs
    split at hs
    · repeat' split at hs
      all_goals cases hs
    · rename_i hk1
      obtain ⟨hd, ok⟩ := hok2
      unfold mx_okO at ok
      rw [hi] at ok
      simp only [Bool.and_eq_true, decide_eq_true_eq] at ok
      rw [if_neg hk1] at ok
      simp only [Bool.and_eq_true, decide_eq_true_eq] at ok
      have hlt := (mx_okC_of ok.2.1).1
      obtain ⟨a1, a2, a3, a4⟩ := key _ hs hlt
      exact ⟨a1, a2, a3, by unfold mx_trm; rw [hi], a4⟩
  · rename_i hi
    have hok2 := mx_okI_of hI (by rw [hi]; exact fun q => by cases q)
    unfold mx_sStat at hs
    split at hs
    · repeat' split at hs
      all_goals cases hs
    · rename_i hk1
      obtain ⟨hd, ok⟩ := hok2
      unfold mx_okO at ok
      rw [hi] at ok
      simp only [Bool.and_eq_true, decide_eq_true_eq] at ok
      rw [if_neg hk1] at ok
      have hlt := (mx_okC_of ok.2).1
      obtain ⟨a1, a2, a3, a4⟩ := key _ hs hlt
      exact ⟨a1, a2, a3, by unfold mx_trm; rw [hi], a4⟩
  · unfold mx_sIret mx_ret at hs
    repeat' split at hs
    all_goals cases hs
  · unfold mx_sAret mx_ret at hs
    repeat' split at hs
    all_goals cases hs
  · unfold mx_sVret mx_ret at hs
    repeat' split at hs
    all_goals cases hs
  · cases hs
/-- a return -/
theorem mx_rone (C : mx_Cx p s m args meth c R D B ρ cs M sc) (hr : meth.sig.returnType = M.2.2.2.2.1) (hlk : meth.locks = false) (hI : mx_okI M i = true) {q : mx_Rs} (hs : mx_step1 M sc i r loc st h k z = some (.inr (.inr q))) : mx_Sim p l e R s m args below meth c (MQ below (mx_Post D B ρ cs q) args s (mx_rm M).cells (mx_rm M).slots (mx_A B)) D B ρ cs M (i :: r, loc, st, h, k, z) := by
  obtain ⟨hx, hb, hml, hown, hts, hK, hnm, hRm, hρ, hBs, hsc, hsx⟩ := C
  have hret : ∀ v, mx_ret M h k z v = some (.inr (.inr q)) → q = (v, h) ∧ k ≤ (mx_rm M).cells ∧ z ≤ (mx_rm M).slots := by
    intro v hv
    unfold mx_ret at hv
    split at hv
    · rename_i hc
      exact ⟨(Sum.inr.inj (Sum.inr.inj (Option.some.inj hv))).symm, hc⟩
    · cases hv
  unfold mx_step1 at hs
  split at hs
  · cases hs
  · cases hs
  · cases hs
  · cases hs
  · cases hs
  · cases hs
  · cases hs
  · unfold mx_sIload at hs
    repeat' split at hs
    all_goals cases hs
  · unfold mx_sIload at hs
    repeat' split at hs
    all_goals cases hs
  · unfold mx_sLload at hs
    repeat' split at hs
    all_goals cases hs
  · unfold mx_sLload at hs
    repeat' split at hs
    all_goals cases hs
  · unfold mx_sAload at hs
    repeat' split at hs
    all_goals cases hs
  · unfold mx_sAload at hs
    repeat' split at hs
    all_goals cases hs
  · unfold mx_sIstore at hs
    repeat' split at hs
    all_goals cases hs
  · unfold mx_sIstore at hs
    repeat' split at hs
    all_goals cases hs
  · unfold mx_sAstore at hs
    repeat' split at hs
    all_goals cases hs
  · unfold mx_sAstore at hs
    repeat' split at hs
    all_goals cases hs
  · unfold mx_sLstore at hs
    repeat' split at hs
    all_goals cases hs
  · unfold mx_sLstore at hs
    repeat' split at hs
    all_goals cases hs
  · unfold mx_sIinc at hs
    repeat' split at hs
    all_goals cases hs
  · unfold mx_sB at hs
    repeat' split at hs
    all_goals cases hs
  · unfold mx_sB at hs
    repeat' split at hs
    all_goals cases hs
  · unfold mx_sB at hs
    repeat' split at hs
    all_goals cases hs
  · unfold mx_sB at hs
    repeat' split at hs
    all_goals cases hs
  · unfold mx_sB at hs
    repeat' split at hs
    all_goals cases hs
  · unfold mx_sB at hs
    repeat' split at hs
    all_goals cases hs
  · unfold mx_sB at hs
    repeat' split at hs
    all_goals cases hs
  · unfold mx_sB at hs
    repeat' split at hs
    all_goals cases hs
  · unfold mx_sBd at hs
    repeat' split at hs
    all_goals cases hs
  · unfold mx_sBd at hs
    repeat' split at hs
    all_goals cases hs
  · unfold mx_sL at hs
    repeat' split at hs
    all_goals cases hs
  · unfold mx_sL at hs
    repeat' split at hs
    all_goals cases hs
  · unfold mx_sLd at hs
    repeat' split at hs
    all_goals cases hs
  · unfold mx_sLd at hs
    repeat' split at hs
    all_goals cases hs
  · unfold mx_sI2l at hs
    repeat' split at hs
    all_goals cases hs
  · unfold mx_sL2i at hs
    repeat' split at hs
    all_goals cases hs
  · unfold mx_sIcmp at hs
    repeat' split at hs
    all_goals cases hs
  · unfold mx_sIf at hs
    repeat' split at hs
    all_goals cases hs
  · cases hs
  · cases hs
  · unfold mx_sSw at hs
    repeat' split at hs
    all_goals cases hs
  · unfold mx_sSw at hs
    repeat' split at hs
    all_goals cases hs
  · unfold mx_sIfnull at hs
    repeat' split at hs
    all_goals cases hs
  · unfold mx_sIfnn at hs
    repeat' split at hs
    all_goals cases hs
  · unfold mx_sDup at hs
    repeat' split at hs
    all_goals cases hs
  · unfold mx_sDup2 at hs
    repeat' split at hs
    all_goals cases hs
  · unfold mx_sPop at hs
    repeat' split at hs
    all_goals cases hs
  · unfold mx_sGet at hs
    repeat' split at hs
    all_goals cases hs
  · unfold mx_sPut at hs
    repeat' split at hs
    all_goals cases hs
  · unfold mx_sIald at hs
    repeat' split at hs
    all_goals cases hs
  · unfold mx_sIast at hs
    repeat' split at hs
    all_goals cases hs
  · unfold mx_sAald at hs
    repeat' split at hs
    all_goals cases hs
  · unfold mx_sAast at hs
    repeat' split at hs
    all_goals cases hs
  · unfold mx_sAlen at hs
    repeat' split at hs
    all_goals cases hs
  · unfold mx_sNew at hs
    repeat' split at hs
    all_goals cases hs
  · unfold mx_sNewa at hs
    repeat' split at hs
    all_goals cases hs
  · unfold mx_sNewq at hs
    repeat' split at hs
    all_goals cases hs
  · unfold mx_sMna at hs
    repeat' split at hs
    all_goals cases hs
  · unfold mx_sVirt at hs
    repeat' split at hs
    all_goals first
      | exact (mx_call_nor hs).elim
      | (cases hs; done)
  · unfold mx_sSpec at hs
    repeat' split at hs
    all_goals first
      | exact (mx_call_nor hs).elim
      | (cases hs; done)
  · unfold mx_sStat at hs
    repeat' split at hs
    all_goals first
      | exact (mx_call_nor hs).elim
      | (cases hs; done)
  · rename_i hi
    obtain ⟨hd, ok⟩ := mx_okI_of hI (by rw [hi]; exact fun q => by cases q)
    unfold mx_okO at ok
    rw [hi] at ok hd
    simp only [decide_eq_true_eq] at ok
    rw [ok] at hd
    unfold mx_sIret at hs
    split at hs
    · rename_i v
      split at hs
      · rename_i hc
        obtain ⟨rfl, hk, hz⟩ := hret _ hs
        refine fun H locs ls hR hS hL => W.widen hk hz ?_
        rcases hc with hc | ⟨hc, hv⟩
        · exact W.zret (ty := .int) hx hb (by rw [hr]; exact hc) rfl (fun t ht hw => ⟨rfl, by rw [ht]; exact hR, hS.F ht⟩) hS.2.2 hd
        · exact W.zret (ty := .boolean) hx hb (by rw [hr]; exact hc) (by rcases hv with rfl | rfl <;> rfl) (fun t ht hw => ⟨rfl, by rw [ht]; exact hR, hS.F ht⟩) hS.2.2 hd
      · cases hs
    · cases hs
  · rename_i hi
    obtain ⟨hd, ok⟩ := mx_okI_of hI (by rw [hi]; exact fun q => by cases q)
    unfold mx_okO at ok
    rw [hi] at ok hd
    simp only [Bool.and_eq_true, decide_eq_true_eq] at ok
    rw [ok.1] at hd
    have hrt : ∃ n, M.2.2.2.2.1 = some (.object n) := by
      have h2 := ok.2
      split at h2
      · rename_i n hn
        exact ⟨n, hn⟩
      · cases h2
    obtain ⟨n, hn⟩ := hrt
    unfold mx_sAret at hs
    split at hs
    · obtain ⟨rfl, hk, hz⟩ := hret _ hs
      exact fun H locs ls hR hS hL => W.widen hk hz (W.aret (rt := .object n) hx hb (by rw [hr]; exact hn) (Or.inl ⟨n, rfl⟩) (Or.inr ⟨_, rfl⟩) (fun t ht hw => ⟨rfl, by rw [ht]; exact hR, hS.F ht⟩) hS.2.2 hd)
    · obtain ⟨rfl, hk, hz⟩ := hret _ hs
      exact fun H locs ls hR hS hL => W.widen hk hz (W.aret (rt := .object n) hx hb (by rw [hr]; exact hn) (Or.inl ⟨n, rfl⟩) (Or.inl rfl) (fun t ht hw => ⟨rfl, by rw [ht]; exact hR, hS.F ht⟩) hS.2.2 hd)
    · cases hs
  · rename_i hi
    obtain ⟨hd, ok⟩ := mx_okI_of hI (by rw [hi]; exact fun q => by cases q)
    unfold mx_okO at ok
    rw [hi] at ok hd
    simp only [Bool.and_eq_true, decide_eq_true_eq] at ok
    rw [ok.1] at hd
    unfold mx_sVret at hs
    split at hs
    · obtain ⟨rfl, hk, hz⟩ := hret _ hs
      exact fun H locs ls hR hS hL => W.widen hk hz (W.vret hx hb (by rw [hr]; exact ok.2) (fun t ht hw => ⟨rfl, by rw [ht]; exact hR, hS.F ht⟩) hS.2.2 hd)
    · cases hs
  · cases hs
end Sim
/-- a method's entry: its arguments are its first locals -/
theorem mx_sl {ρ : Nat → Nat} : ∀ as : List Value, as.all mx_c1 = true → (lg_sl (as.map (mx_rv ρ))).length = as.length ∧ ∀ (b j : Nat) (v : Value), as[j]? = some v → (b + j, mx_rv ρ v) ∈ lv_args b (as.map (mx_rv ρ)) := by
  intro as
  induction as with
  | nil => exact fun _ => ⟨rfl, fun b j v hj => by simp at hj⟩
  | cons a as ih =>
    intro ha
    simp only [List.all_cons, Bool.and_eq_true] at ha
    have hcat : (mx_rv ρ a).category = 1 := mx_c1_cat ha.1
    obtain ⟨h1, h2⟩ := ih ha.2
    refine ⟨?_, fun b j v hj => ?_⟩
    · have e : lg_sl ((a :: as).map (mx_rv ρ)) = [.val (mx_rv ρ a)] ++ lg_sl (as.map (mx_rv ρ)) := by simp [lg_sl, hcat]
      rw [e, List.length_append, h1, List.length_cons]
      simp
      omega
    · cases j with
      | zero =>
        simp at hj
        subst hj
        simp [lv_args]
      | succ j =>
        simp at hj
        have := h2 (b + 1) j v hj
        simp only [List.map_cons, lv_args, hcat]
        rw [show b + (j + 1) = b + 1 + j by omega]
        exact List.mem_cons_of_mem _ this
theorem mx_HL_entry {ρ : Nat → Nat} {as : List Value} {n : Nat} (hc : as.all mx_c1 = true) (hn : as.length ≤ n) (m : MethodId) : ∃ ls : Array Slot, entryFrame m (as.map (mx_rv ρ)).toArray n = F0 m 0 ls [] ∧ mx_HL ρ ls n (as.map some ++ List.replicate (n - as.length) none) := by
  obtain ⟨h1, h2⟩ := mx_sl (ρ := ρ) as hc
  have hl := lv_entry (as.map (mx_rv ρ)) (n := n) (by omega)
  rw [lg_entry_eq]
  refine ⟨_, rfl, hl.1, by simp; omega, hl.2.1, fun j v hj => ?_⟩
  have hj' : as[j]? = some v := by
    unfold mx_ld at hj
    split at hj
    · rename_i w hw
      cases hj
      by_cases hlt : j < as.length
      · rw [List.getElem?_append_left (by simpa using hlt), List.getElem?_map] at hw
        cases ha : as[j]? with
        | none => rw [ha] at hw; cases hw
        | some u => rw [ha] at hw; simp at hw; rw [hw]
      · rw [List.getElem?_append_right (by simp; omega), List.getElem?_replicate] at hw
        split at hw <;> simp at hw
    · cases hj
  have := h2 0 j v hj'
  rw [Nat.zero_add] at this
  exact hl.2.2 _ this
theorem mx_okM_of {M : mx_Mt} (h : mx_okM M = true) : mx_okB M = true ∧ 0 ∈ mx_tg M ∧ plainName M.2.1.cls = true ∧ mx_own M = M.2.1.cls := by
  unfold mx_okM at h
  simp only [Bool.and_eq_true, decide_eq_true_eq] at h
  exact ⟨h.1.1.1.1, h.1.1.1.2, h.1.1.2, h.1.2⟩
/-- THE WHOLE RUN: what the light machine comes to, the machine comes to -/
theorem mx_main {l : Launch} {D : va_G} {B : Nat} {ρ : Nat → Nat} {cs : mx_Cs} (hρ : ∀ i, i < 1000 → ρ i = B + i) (J : mx_Jdk l D B ρ cs) (hok : ∀ y, y < mx_law → mx_okM (mx_tab y) = true ∧ mx_okW (mx_tab y) = true) :
    ∀ (n : Nat) {p : Program} {e : Env} {R : Room} {s : State} {m : MethodId} {args : Array Value} {below : List Frame} {meth : Method} {c : Code} {Q : State → Prop} {M : mx_Mt} {sc : mx_Sc} {cf : mx_Cf} {q : mx_Rs}, mx_run n M sc cf = some q → mx_okB M = true → mx_okL M cf.1 = true → mx_Cx p s m args meth c R D B ρ cs M sc →
      (∀ (i : mx_In) (r : List mx_In) (loc : mx_Lc) (st : List Value) (h : mx_Hp) (k z : Nat), mx_okI M i = true → mx_step1 M sc i r loc st h k z = some (.inr (.inr q)) → mx_Sim p l e R s m args below meth c Q D B ρ cs M (i :: r, loc, st, h, k, z)) → mx_Sim p l e R s m args below meth c Q D B ρ cs M cf := by
  intro n
  induction n with
  | zero =>
    intro p e R s m args below meth c Q M sc cf q hrun
    cases hrun
  | succ n ih =>
    intro p e R s m args below meth c Q M sc cf q hrun hB hL C HR
    obtain ⟨is, loc, st, h, k, z⟩ := cf
    cases is with
    | nil => cases hL
    | cons i r =>
      unfold mx_run at hrun
      cases hst : mx_step M sc (i :: r, loc, st, h, k, z) with
      | none => rw [hst] at hrun; cases hrun
      | some act =>
        rw [hst] at hrun
        have hst1 : mx_step1 M sc i r loc st h k z = some act := hst
        cases act with
        | inl c' => exact mx_one J C hL hB hst1 (ih hrun hB (mx_next hL hB hst1) C HR)
        | inr act =>
          cases act with
          | inr q' =>
            have : q' = q := Option.some.inj hrun
            subst this
            exact HR i r loc st h k z (mx_okL_of hL).1 hst1
          | inl call =>
            obtain ⟨y, as, c'⟩ := call
            obtain ⟨hy, ha, hal, htr, hc'⟩ := mx_cfit hL hst1
            dsimp only at hrun
            cases hcal : mx_run n (mx_tab y) mx_noS (mx_ent (mx_tab y) as c'.2.2.2.1) with
            | none => rw [hcal] at hrun; cases hrun
            | some q2 =>
              rw [hcal] at hrun
              dsimp only at hrun
              obtain ⟨m1, m2⟩ := hok y hy
              obtain ⟨b1, b2, b3, b4⟩ := mx_okM_of m1
              have hM : mx_Met l D B ρ cs (mx_tab y) as c'.2.2.2.1 q2 := by
                refine Met.ofW (cc := (mx_tab y).2.2.1) (maxL := (mx_tab y).2.2.2.1) (ret := (mx_tab y).2.2.2.2.1) b3 rfl ?_
                intro p e s m args below meth c s₁ Bd hml hv
                obtain ⟨rfl, v1, v2, v3, v4⟩ := hv
                obtain ⟨ls, he, hHL⟩ := mx_HL_entry (ρ := ρ) ha hal m
                rw [he]
                have hCx : mx_Cx p s m (as.map (mx_rv ρ)).toArray meth c (headSpec [mx_cd (mx_tab y)] (mx_rm (mx_tab y))).room D B ρ cs (mx_tab y) mx_noS := by
                  refine ⟨Bd.exec, Bd.bytes, hml, by rw [b4]; exact findClass_of_methodNamed Bd.named, fun w hw => mx_wride (State.WarmedH.refl s) hw (v3 w hw), v2, (name_of_methodNamed Bd.named Bd.method).1, rfl, hρ, by rw [v1.2.1]; exact Nat.le_add_right _ _, (fun q => by cases q), v4⟩
                have hS0 := ih (e := e) (Q := MQ below (mx_Post D B ρ cs q2) (as.map (mx_rv ρ)).toArray s (mx_rm (mx_tab y)).cells (mx_rm (mx_tab y)).slots (mx_A B)) (below := below) hcal b1 (mx_tgt b1 b2).1 hCx (fun i r loc st h k z hI hs => mx_rone hCx Bd.returns Bd.notSynchronized hI hs)
                have hw := hS0 s.heap [] ls v1 va_S.rf hHL
                dsimp only [mx_ent] at hw
                rw [(mx_tgt b1 b2).2] at hw
                exact hw
              exact mx_cone hok C hL hst1 hM (ih hrun hB (by show mx_okL M c'.1 = true; rw [hc']; exact ((mx_okL_of hL).2 htr).2) C HR)
end
section
/-! RUNS: what a configuration comes to, whatever the fuel; locals that are forgotten -/
def mx_le (a b : mx_Lc) : Prop := a.length = b.length ∧ ∀ (i : Nat) (v : Value), mx_ld a i = some v → mx_ld b i = some v
theorem mx_le.rf (a : mx_Lc) : mx_le a a := ⟨rfl, fun _ _ h => h⟩
theorem mx_le.cl {a b : mx_Lc} (h : mx_le a b) {i : Nat} (hi : i < a.length) : mx_le (mx_cl1 a i) (mx_cl1 b i) := by
  refine ⟨by rw [mx_cl1_len, mx_cl1_len]; exact h.1, fun j v hj => ?_⟩
  have hj0 := hj
  obtain ⟨h1, h2⟩ := mx_cl1_ld hi hj
  have h3 := h.2 j v h1
  unfold mx_cl1
  split
  · rename_i hc
    rw [mx_ld_set (by have := h.1; omega)]
    by_cases he : j = i - 1
    · exfalso
      rw [← he, mx_ld_some.mp h3] at hc
      by_cases h0 : i = 0
      · subst h0
        unfold mx_cl1 at hj0
        have he : j = 0 := by omega
        subst he
        rw [show (0 - 1 : Nat) = 0 from rfl, mx_ld_some.mp h1, if_pos hc, mx_ld_set hi] at hj0
        simp at hj0
      · have := h2 (by omega)
        cases v <;> first | cases hc; done | (cases this; done)
    · rw [if_neg he]
      exact h3
  · exact h3
theorem mx_le.set {a b : mx_Lc} (h : mx_le a b) {i : Nat} (hi : i < a.length) (x : Option Value) : mx_le (a.set i x) (b.set i x) := by
  refine ⟨by rw [List.length_set, List.length_set]; exact h.1, fun j v hj => ?_⟩
  rw [mx_ld_set hi] at hj
  rw [mx_ld_set (by rw [← h.1]; exact hi)]
  split at hj
  · rename_i he
    rw [if_pos he]
    exact hj
  · rename_i he
    rw [if_neg he]
    exact h.2 j v hj
def mx_rC (c c' : mx_Cf) : Prop := c'.1 = c.1 ∧ mx_le c.2.1 c'.2.1 ∧ c'.2.2 = c.2.2
def mx_rA (a b : Option mx_Ac) : Prop := (∀ c, a = some (.inl c) → ∃ c', b = some (.inl c') ∧ mx_rC c c') ∧ (∀ y as c, a = some (.inr (.inl (y, as, c))) → ∃ c', b = some (.inr (.inl (y, as, c'))) ∧ mx_rC c c') ∧ (∀ q, a = some (.inr (.inr q)) → b = some (.inr (.inr q)))
theorem mx_rA_none {b : Option mx_Ac} : mx_rA none b := ⟨fun _ h => (by cases h), fun _ _ _ h => (by cases h), fun _ h => (by cases h)⟩
section Sim
variable {p : Program} {l : Launch} {e : Env} {R : Room} {s : State} {m : MethodId} {args : Array Value} {below : List Frame} {meth : Method} {c : Code} {Q : State → Prop} {D : va_G} {B : Nat} {ρ : Nat → Nat} {cs : mx_Cs} {M : mx_Mt} {sc : mx_Sc}
variable {i : mx_In} {r : List mx_In} {loc : mx_Lc} {st : List Value} {h : mx_Hp} {k z : Nat} {c' : mx_Cf}
variable {loc' : mx_Lc}
theorem mx_rA_go (hl : mx_le loc loc') : mx_rA (mx_go r loc st h k z) (mx_go r loc' st h k z) := by
  refine ⟨fun c hc => ?_, fun _ _ _ h => (by cases h), fun _ h => (by cases h)⟩
  cases mx_go_eq hc
  exact ⟨_, rfl, rfl, hl, rfl⟩
theorem mx_rA_jp (hl : mx_le loc loc') {t : Nat} : mx_rA (mx_jp M loc st h k z t) (mx_jp M loc' st h k z t) := by
  refine ⟨fun c hc => ?_, fun _ _ _ h => (by cases h), fun _ h => (by cases h)⟩
  cases mx_jp_eq hc
  exact ⟨_, rfl, rfl, hl, rfl⟩
theorem mx_rA_ret {v : Option Value} : mx_rA (mx_ret M h k z v) (mx_ret M h k z v) := by
  unfold mx_ret
  split
  · exact ⟨fun _ h => (by cases h), fun _ _ _ h => (by cases h), fun _ h => h⟩
  · exact mx_rA_none
theorem mx_rA_call (hl : mx_le loc loc') {v : Bool} : mx_rA (mx_call M i r loc st h k z v) (mx_call M i r loc' st h k z v) := by
  unfold mx_call
  split
  · split
    · split
      · refine ⟨fun _ h => (by cases h), fun y as c hc => ?_, fun _ h => (by cases h)⟩
        cases hc
        exact ⟨_, rfl, rfl, hl, rfl⟩
      · exact mx_rA_none
    · exact mx_rA_none
    · refine ⟨fun _ h => (by cases h), fun y as c hc => ?_, fun _ h => (by cases h)⟩
      cases hc
      exact ⟨_, rfl, rfl, hl, rfl⟩
  · exact mx_rA_none
theorem mx_rA_sv (hl : mx_le loc loc') {n : Nat} {v : Value} {s' : List Value} : mx_rA (match mx_sv loc n v with | some l => mx_go r l s' h k z | none => none) (match mx_sv loc' n v with | some l => mx_go r l s' h k z | none => none) := by
  unfold mx_sv
  by_cases hn : n < loc.length
  · rw [if_pos hn, if_pos (by rw [← hl.1]; exact hn)]
    exact mx_rA_go ((hl.cl hn).set (by rw [mx_cl1_len]; exact hn) _)
  · rw [if_neg hn]
    exact mx_rA_none
theorem mx_rA_sv2 (hl : mx_le loc loc') {n : Nat} {v : Value} {s' : List Value} : mx_rA (match mx_sv2 loc n v with | some l => mx_go r l s' h k z | none => none) (match mx_sv2 loc' n v with | some l => mx_go r l s' h k z | none => none) := by
  unfold mx_sv2
  by_cases hn : n + 1 < loc.length
  · rw [if_pos hn, if_pos (by rw [← hl.1]; exact hn)]
    exact mx_rA_go (((hl.cl (by omega)).set (by rw [mx_cl1_len]; omega) _).set (by rw [List.length_set, mx_cl1_len]; exact hn) _)
  · rw [if_neg hn]
    exact mx_rA_none
theorem mx_weak1 (hl : mx_le loc loc') : mx_rA (mx_step1 M sc i r loc st h k z) (mx_step1 M sc i r loc' st h k z) := by
  unfold mx_step1
  split
  · exact mx_rA_go hl
  · exact mx_rA_go hl
  · exact mx_rA_go hl
  · exact mx_rA_go hl
  · exact mx_rA_go hl
  · exact mx_rA_go hl
  · exact mx_rA_go hl
  · unfold mx_sIload
    cases hv : mx_ld loc i.2.2.2.1 with
    | none => exact mx_rA_none
    | some v =>
      rw [hl.2 _ _ hv]
      split
      all_goals first
        | exact mx_rA_go hl
        | exact mx_rA_none
  · unfold mx_sIload
    cases hv : mx_ld loc i.2.2.2.1 with
    | none => exact mx_rA_none
    | some v =>
      rw [hl.2 _ _ hv]
      split
      all_goals first
        | exact mx_rA_go hl
        | exact mx_rA_none
  · unfold mx_sLload
    cases hv : mx_ld loc i.2.2.2.1 with
    | none => exact mx_rA_none
    | some v =>
      rw [hl.2 _ _ hv]
      split
      all_goals first
        | exact mx_rA_go hl
        | exact mx_rA_none
  · unfold mx_sLload
    cases hv : mx_ld loc i.2.2.2.1 with
    | none => exact mx_rA_none
    | some v =>
      rw [hl.2 _ _ hv]
      split
      all_goals first
        | exact mx_rA_go hl
        | exact mx_rA_none
  · unfold mx_sAload
    cases hv : mx_ld loc i.2.2.2.1 with
    | none => exact mx_rA_none
    | some v =>
      rw [hl.2 _ _ hv]
      split
      all_goals first
        | exact mx_rA_go hl
        | exact mx_rA_none
  · unfold mx_sAload
    cases hv : mx_ld loc i.2.2.2.1 with
    | none => exact mx_rA_none
    | some v =>
      rw [hl.2 _ _ hv]
      split
      all_goals first
        | exact mx_rA_go hl
        | exact mx_rA_none
  · unfold mx_sIstore
    split
    all_goals first
      | exact mx_rA_none
      | exact mx_rA_sv hl
  · unfold mx_sIstore
    split
    all_goals first
      | exact mx_rA_none
      | exact mx_rA_sv hl
  · unfold mx_sAstore
    split
    all_goals first
      | exact mx_rA_none
      | exact mx_rA_sv hl
  · unfold mx_sAstore
    split
    all_goals first
      | exact mx_rA_none
      | exact mx_rA_sv hl
  · unfold mx_sLstore
    split
    all_goals first
      | exact mx_rA_none
      | exact mx_rA_sv2 hl
  · unfold mx_sLstore
    split
    all_goals first
      | exact mx_rA_none
      | exact mx_rA_sv2 hl
  · unfold mx_sIinc
    cases hv : mx_ld loc i.2.2.2.1 with
    | none => exact mx_rA_none
    | some v =>
      rw [hl.2 _ _ hv]
      split
      · exact mx_rA_sv hl
      · exact mx_rA_none
  · unfold mx_sB
    repeat' split
    all_goals first
      | exact mx_rA_none
      | exact mx_rA_go hl
      | exact mx_rA_jp hl
  · unfold mx_sB
    repeat' split
    all_goals first
      | exact mx_rA_none
      | exact mx_rA_go hl
      | exact mx_rA_jp hl
  · unfold mx_sB
    repeat' split
    all_goals first
      | exact mx_rA_none
      | exact mx_rA_go hl
      | exact mx_rA_jp hl
  · unfold mx_sB
    repeat' split
    all_goals first
      | exact mx_rA_none
      | exact mx_rA_go hl
      | exact mx_rA_jp hl
  · unfold mx_sB
    repeat' split
    all_goals first
      | exact mx_rA_none
      | exact mx_rA_go hl
      | exact mx_rA_jp hl
  · unfold mx_sB
    repeat' split
    all_goals first
      | exact mx_rA_none
      | exact mx_rA_go hl
      | exact mx_rA_jp hl
  · unfold mx_sB
    repeat' split
    all_goals first
      | exact mx_rA_none
      | exact mx_rA_go hl
      | exact mx_rA_jp hl
  · unfold mx_sB
    repeat' split
    all_goals first
      | exact mx_rA_none
      | exact mx_rA_go hl
      | exact mx_rA_jp hl
  · unfold mx_sBd
    repeat' split
    all_goals first
      | exact mx_rA_none
      | exact mx_rA_go hl
      | exact mx_rA_jp hl
  · unfold mx_sBd
    repeat' split
    all_goals first
      | exact mx_rA_none
      | exact mx_rA_go hl
      | exact mx_rA_jp hl
  · unfold mx_sL
    repeat' split
    all_goals first
      | exact mx_rA_none
      | exact mx_rA_go hl
      | exact mx_rA_jp hl
  · unfold mx_sL
    repeat' split
    all_goals first
      | exact mx_rA_none
      | exact mx_rA_go hl
      | exact mx_rA_jp hl
  · unfold mx_sLd
    repeat' split
    all_goals first
      | exact mx_rA_none
      | exact mx_rA_go hl
      | exact mx_rA_jp hl
  · unfold mx_sLd
    repeat' split
    all_goals first
      | exact mx_rA_none
      | exact mx_rA_go hl
      | exact mx_rA_jp hl
  · unfold mx_sI2l
    repeat' split
    all_goals first
      | exact mx_rA_none
      | exact mx_rA_go hl
      | exact mx_rA_jp hl
  · unfold mx_sL2i
    repeat' split
    all_goals first
      | exact mx_rA_none
      | exact mx_rA_go hl
      | exact mx_rA_jp hl
  · unfold mx_sIcmp
    repeat' split
    all_goals first
      | exact mx_rA_none
      | exact mx_rA_go hl
      | exact mx_rA_jp hl
  · unfold mx_sIf
    repeat' split
    all_goals first
      | exact mx_rA_none
      | exact mx_rA_go hl
      | exact mx_rA_jp hl
  · exact mx_rA_jp hl
  · exact mx_rA_jp hl
  · unfold mx_sSw
    split
    · exact mx_rA_jp hl
    · exact mx_rA_none
  · unfold mx_sSw
    split
    · exact mx_rA_jp hl
    · exact mx_rA_none
  · unfold mx_sIfnull
    repeat' split
    all_goals first
      | exact mx_rA_none
      | exact mx_rA_go hl
      | exact mx_rA_jp hl
  · unfold mx_sIfnn
    repeat' split
    all_goals first
      | exact mx_rA_none
      | exact mx_rA_go hl
      | exact mx_rA_jp hl
  · unfold mx_sDup
    repeat' split
    all_goals first
      | exact mx_rA_none
      | exact mx_rA_go hl
      | exact mx_rA_jp hl
  · unfold mx_sDup2
    repeat' split
    all_goals first
      | exact mx_rA_none
      | exact mx_rA_go hl
      | exact mx_rA_jp hl
  · unfold mx_sPop
    repeat' split
    all_goals first
      | exact mx_rA_none
      | exact mx_rA_go hl
      | exact mx_rA_jp hl
  · unfold mx_sGet
    repeat' split
    all_goals first
      | exact mx_rA_none
      | exact mx_rA_go hl
      | exact mx_rA_jp hl
  · unfold mx_sPut
    repeat' split
    all_goals first
      | exact mx_rA_none
      | exact mx_rA_go hl
      | exact mx_rA_jp hl
  · unfold mx_sIald
    repeat' split
    all_goals first
      | exact mx_rA_none
      | exact mx_rA_go hl
      | exact mx_rA_jp hl
  · unfold mx_sIast
    repeat' split
    all_goals first
      | exact mx_rA_none
      | exact mx_rA_go hl
      | exact mx_rA_jp hl
  · unfold mx_sAald
    repeat' split
    all_goals first
      | exact mx_rA_none
      | exact mx_rA_go hl
      | exact mx_rA_jp hl
  · unfold mx_sAast
    repeat' split
    all_goals first
      | exact mx_rA_none
      | exact mx_rA_go hl
      | exact mx_rA_jp hl
  · unfold mx_sAlen
    repeat' split
    all_goals first
      | exact mx_rA_none
      | exact mx_rA_go hl
      | exact mx_rA_jp hl
  · unfold mx_sNew
    repeat' split
    all_goals first
      | exact mx_rA_none
      | exact mx_rA_go hl
      | exact mx_rA_jp hl
  · unfold mx_sNewa
    repeat' split
    all_goals first
      | exact mx_rA_none
      | exact mx_rA_go hl
      | exact mx_rA_jp hl
  · unfold mx_sNewq
    repeat' split
    all_goals first
      | exact mx_rA_none
      | exact mx_rA_go hl
      | exact mx_rA_jp hl
  · unfold mx_sMna
    repeat' split
    all_goals first
      | exact mx_rA_none
      | exact mx_rA_go hl
      | exact mx_rA_jp hl
  · unfold mx_sVirt
    repeat' split
    all_goals first
      | exact mx_rA_none
      | exact mx_rA_go hl
      | exact mx_rA_call hl
  · unfold mx_sSpec
    repeat' split
    all_goals first
      | exact mx_rA_none
      | exact mx_rA_go hl
      | exact mx_rA_call hl
  · unfold mx_sStat
    repeat' split
    all_goals first
      | exact mx_rA_none
      | exact mx_rA_go hl
      | exact mx_rA_call hl
  · unfold mx_sIret
    repeat' split
    all_goals first
      | exact mx_rA_none
      | exact mx_rA_ret
  · unfold mx_sAret
    repeat' split
    all_goals first
      | exact mx_rA_none
      | exact mx_rA_ret
  · unfold mx_sVret
    repeat' split
    all_goals first
      | exact mx_rA_none
      | exact mx_rA_ret
  · exact mx_rA_none
end Sim
theorem mx_weakN : ∀ (n : Nat) {M : mx_Mt} {sc : mx_Sc} {c c' : mx_Cf} {q : mx_Rs}, mx_rC c c' → mx_run n M sc c = some q → mx_run n M sc c' = some q := by
  intro n
  induction n with
  | zero => intro M sc c c' q _ h; cases h
  | succ n ih =>
    intro M sc c c' q hc hr
    obtain ⟨is, loc, st, h, k, z⟩ := c
    obtain ⟨is', loc', rest'⟩ := c'
    obtain ⟨e1, hl, e2⟩ := hc
    dsimp only at e1 hl e2
    subst e1
    subst e2
    cases is' with
    | nil => cases hr
    | cons i r =>
      unfold mx_run at hr ⊢
      have hw := mx_weak1 (M := M) (sc := sc) (i := i) (r := r) (st := st) (h := h) (k := k) (z := z) hl
      have e3 : mx_step M sc (i :: r, loc, st, h, k, z) = mx_step1 M sc i r loc st h k z := rfl
      have e4 : mx_step M sc (i :: r, loc', st, h, k, z) = mx_step1 M sc i r loc' st h k z := rfl
      rw [e3] at hr
      rw [e4]
      cases hst : mx_step1 M sc i r loc st h k z with
      | none => rw [hst] at hr; cases hr
      | some act =>
        rw [hst] at hr
        cases act with
        | inl d =>
          obtain ⟨d', h1, h2⟩ := hw.1 d hst
          rw [h1]
          exact ih h2 hr
        | inr act =>
          cases act with
          | inr q' =>
            rw [hw.2.2 q' hst]
            exact hr
          | inl call =>
            obtain ⟨y, as, d⟩ := call
            obtain ⟨d', h1, h2⟩ := hw.2.1 y as d hst
            rw [h1]
            obtain ⟨g1, g2, g3⟩ := h2
            dsimp only at hr ⊢
            rw [show d'.2.2.2.1 = d.2.2.2.1 by rw [g3]]
            cases hcal : mx_run n (mx_tab y) mx_noS (mx_ent (mx_tab y) as d.2.2.2.1) with
            | none => rw [hcal] at hr; cases hr
            | some q2 =>
              rw [hcal] at hr
              have hr : mx_run n M sc (mx_beh d q2) = some q := hr
              have hrc : mx_rC (mx_beh d q2) (mx_beh d' q2) := ⟨g1, g2, by unfold mx_beh; rw [g3]⟩
              exact ih hrc hr
theorem mx_more : ∀ (n : Nat) {M : mx_Mt} {sc : mx_Sc} {c : mx_Cf} {q : mx_Rs}, mx_run n M sc c = some q → ∀ d, mx_run (n + d) M sc c = some q := by
  intro n
  induction n with
  | zero => intro M sc c q h; cases h
  | succ n ih =>
    intro M sc c q hr d
    rw [show n + 1 + d = (n + d) + 1 by omega]
    unfold mx_run at hr ⊢
    cases hst : mx_step M sc c with
    | none => rw [hst] at hr; cases hr
    | some act =>
      rw [hst] at hr
      cases act with
      | inl c' => exact ih hr d
      | inr act =>
        cases act with
        | inr q' => exact hr
        | inl call =>
          obtain ⟨y, as, c'⟩ := call
          dsimp only at hr ⊢
          cases hcal : mx_run n (mx_tab y) mx_noS (mx_ent (mx_tab y) as c'.2.2.2.1) with
          | none => rw [hcal] at hr; cases hr
          | some q2 =>
            rw [hcal] at hr
            rw [ih hcal d]
            exact ih hr d
/-- the configuration comes to q -/
def mx_Ev (M : mx_Mt) (sc : mx_Sc) (c : mx_Cf) (q : mx_Rs) : Prop := ∃ n, mx_run n M sc c = some q
theorem mx_Ev.go {M : mx_Mt} {sc : mx_Sc} {c c' : mx_Cf} {q : mx_Rs} (hs : mx_step M sc c = some (.inl c')) (K : mx_Ev M sc c' q) : mx_Ev M sc c q := by
  obtain ⟨n, hn⟩ := K
  refine ⟨n + 1, ?_⟩
  unfold mx_run
  rw [hs]
  exact hn
theorem mx_Ev.ret {M : mx_Mt} {sc : mx_Sc} {c : mx_Cf} {q : mx_Rs} (hs : mx_step M sc c = some (.inr (.inr q))) : mx_Ev M sc c q := by
  refine ⟨1, ?_⟩
  unfold mx_run
  rw [hs]
theorem mx_Ev.call {M : mx_Mt} {sc : mx_Sc} {c c' : mx_Cf} {y : Nat} {as : List Value} {q q2 : mx_Rs} (hs : mx_step M sc c = some (.inr (.inl (y, as, c')))) (hc : mx_Ev (mx_tab y) mx_noS (mx_ent (mx_tab y) as c'.2.2.2.1) q2) (K : mx_Ev M sc (mx_beh c' q2) q) : mx_Ev M sc c q := by
  obtain ⟨n, hn⟩ := K
  obtain ⟨n2, hn2⟩ := hc
  refine ⟨(n2 + n) + 1, ?_⟩
  unfold mx_run
  rw [hs]
  dsimp only
  rw [mx_more n2 hn2 n]
  dsimp only
  rw [Nat.add_comm]
  exact mx_more n hn n2
theorem mx_Ev.weak {M : mx_Mt} {sc : mx_Sc} {is : List mx_In} {loc loc' : mx_Lc} {rest : List Value × mx_Hp × Nat × Nat} {q : mx_Rs} (hl : mx_le loc loc') (K : mx_Ev M sc (is, loc, rest) q) : mx_Ev M sc (is, loc', rest) q := by
  obtain ⟨n, hn⟩ := K
  exact ⟨n, mx_weakN n (c := (is, loc, rest)) (c' := (is, loc', rest)) ⟨rfl, hl, rfl⟩ hn⟩
/-- a method's whole run -/
def mx_Ms (M : mx_Mt) (as : List Value) (h : mx_Hp) (q : mx_Rs) : Prop := mx_Ev M mx_noS (mx_ent M as h) q
theorem mx_le.nil : mx_le [] [] := mx_le.rf []
theorem mx_le.same {a b : mx_Lc} (x : Option Value) (h : mx_le a b) : mx_le (x :: a) (x :: b) := by
  refine ⟨by simp [h.1], fun i v hv => ?_⟩
  cases i with
  | zero => exact hv
  | succ i => exact h.2 i v hv
theorem mx_le.drop {a b : mx_Lc} (x : Option Value) (h : mx_le a b) : mx_le (none :: a) (x :: b) := by
  refine ⟨by simp [h.1], fun i v hv => ?_⟩
  cases i with
  | zero => cases hv
  | succ i => exact h.2 i v hv
/-! the rules by which a run is laid: reads, writes, branches -/
theorem mx_bS {α β : Type} {x : Option α} {f : α → Option β} {q : β} (h : x.bind f = some q) : ∃ v, x = some v ∧ f v = some q := by
  cases x with
  | none => cases h
  | some v => exact ⟨v, rfl, h⟩
section Rules
variable {M : mx_Mt} {sc : mx_Sc} {r : List mx_In} {loc : mx_Lc} {st : List Value} {h h' : mx_Hp} {k z pc idx len a b : Nat} {cc : Int32} {lw : List (Int32 × Nat)} {q : mx_Rs}
theorem mx_e_gr {o v : Nat} (hv : mx_gr h o a b = some v) (hk : mx_fk a b = 1) (K : mx_Ev M sc (r, loc, .ref v :: st, h, k, z) q) : mx_Ev M sc ((pc, .getfield idx, len, a, b, cc, lw) :: r, loc, .ref o :: st, h, k, z) q := by
  refine mx_Ev.go ?_ K
  unfold mx_step
  dsimp only
  unfold mx_step1
  dsimp only
  unfold mx_sGet
  dsimp only
  rw [if_pos hk, hv]
  rfl
theorem mx_e_gi {o : Nat} {v : Int32} (hv : mx_gi h o a b = some v) (hk : ¬ mx_fk a b = 1) (K : mx_Ev M sc (r, loc, .int v :: st, h, k, z) q) : mx_Ev M sc ((pc, .getfield idx, len, a, b, cc, lw) :: r, loc, .ref o :: st, h, k, z) q := by
  refine mx_Ev.go ?_ K
  unfold mx_step
  dsimp only
  unfold mx_step1
  dsimp only
  unfold mx_sGet
  dsimp only
  rw [if_neg hk, hv]
  rfl
theorem mx_e_pi {o : Nat} {v : Int32} (hv : mx_pi h o a b v = some h') (K : mx_Ev M sc (r, loc, st, h', k, z) q) : mx_Ev M sc ((pc, .putfield idx, len, a, b, cc, lw) :: r, loc, .int v :: .ref o :: st, h, k, z) q := by
  refine mx_Ev.go ?_ K
  unfold mx_step
  dsimp only
  unfold mx_step1
  dsimp only
  unfold mx_sPut
  dsimp only
  rw [hv]
  rfl
theorem mx_e_pr {o v : Nat} (hv : mx_pr h o a b v = some h') (K : mx_Ev M sc (r, loc, st, h', k, z) q) : mx_Ev M sc ((pc, .putfield idx, len, a, b, cc, lw) :: r, loc, .ref v :: .ref o :: st, h, k, z) q := by
  refine mx_Ev.go ?_ K
  unfold mx_step
  dsimp only
  unfold mx_step1
  dsimp only
  unfold mx_sPut
  dsimp only
  rw [hv]
  rfl
theorem mx_al_scr {o : Nat} {j v : Int32} (hv : mx_al h o j = some v) : ¬ o = mx_SCR := by
  unfold mx_al at hv
  split at hv
  · rename_i hc
    have := mx_lay_lt (o := o) (by rw [hc.2.1]; decide)
    unfold mx_SCR
    omega
  · cases hv
theorem mx_ln_scr {o : Nat} {v : Int32} (hv : mx_ln h o = some v) : ¬ o = mx_SCR := by
  unfold mx_ln at hv
  split at hv
  · rename_i hc
    have := mx_lay_lt (o := o) (by rcases hc.2 with q | q | q <;> rw [q] <;> decide)
    unfold mx_SCR
    omega
  · cases hv
theorem mx_e_al {o : Nat} {j v : Int32} (hv : mx_al h o j = some v) (K : mx_Ev M sc (r, loc, .int v :: st, h, k, z) q) : mx_Ev M sc ((pc, .iaload, len, a, b, cc, lw) :: r, loc, .int j :: .ref o :: st, h, k, z) q := by
  refine mx_Ev.go ?_ K
  unfold mx_step
  dsimp only
  unfold mx_step1
  dsimp only
  unfold mx_sIald
  dsimp only
  rw [if_neg (mx_al_scr hv), hv]
  rfl
theorem mx_e_as {o : Nat} {j v : Int32} (hv : mx_as h o j v = some h') (K : mx_Ev M sc (r, loc, st, h', k, z) q) : mx_Ev M sc ((pc, .iastore, len, a, b, cc, lw) :: r, loc, .int v :: .int j :: .ref o :: st, h, k, z) q := by
  refine mx_Ev.go ?_ K
  unfold mx_step
  dsimp only
  unfold mx_step1
  dsimp only
  unfold mx_sIast
  dsimp only
  rw [hv]
  rfl
theorem mx_e_rl {o v : Nat} {j : Int32} (hv : mx_rl h o j = some v) (K : mx_Ev M sc (r, loc, .ref v :: st, h, k, z) q) : mx_Ev M sc ((pc, .aaload, len, a, b, cc, lw) :: r, loc, .int j :: .ref o :: st, h, k, z) q := by
  refine mx_Ev.go ?_ K
  unfold mx_step
  dsimp only
  unfold mx_step1
  dsimp only
  unfold mx_sAald
  dsimp only
  rw [hv]
  rfl
theorem mx_e_rs {o v : Nat} {j : Int32} (hv : mx_rs h o j v = some h') (K : mx_Ev M sc (r, loc, st, h', k, z) q) : mx_Ev M sc ((pc, .aastore, len, a, b, cc, lw) :: r, loc, .ref v :: .int j :: .ref o :: st, h, k, z) q := by
  refine mx_Ev.go ?_ K
  unfold mx_step
  dsimp only
  unfold mx_step1
  dsimp only
  unfold mx_sAast
  dsimp only
  rw [hv]
  rfl
theorem mx_e_ln {o : Nat} {v : Int32} (hv : mx_ln h o = some v) (K : mx_Ev M sc (r, loc, .int v :: st, h, k, z) q) : mx_Ev M sc ((pc, .arraylength, len, a, b, cc, lw) :: r, loc, .ref o :: st, h, k, z) q := by
  refine mx_Ev.go ?_ K
  unfold mx_step
  dsimp only
  unfold mx_step1
  dsimp only
  unfold mx_sAlen
  dsimp only
  rw [if_neg (mx_ln_scr hv), hv]
  rfl
theorem mx_e_it {x y : Int32} {cd : ClassFile.Cond} {off : Int} (hc : mx_cond cd x y = true) (K : mx_Ev M sc (M.1 a, loc, st, h, k, z) q) : mx_Ev M sc ((pc, .if_icmp cd off, len, a, b, cc, lw) :: r, loc, .int y :: .int x :: st, h, k, z) q := by
  refine mx_Ev.go ?_ K
  unfold mx_step
  dsimp only
  unfold mx_step1
  dsimp only
  unfold mx_sIcmp
  dsimp only
  rw [if_pos hc]
  rfl
theorem mx_e_if {x y : Int32} {cd : ClassFile.Cond} {off : Int} (hc : ¬ mx_cond cd x y = true) (K : mx_Ev M sc (r, loc, st, h, k, z) q) : mx_Ev M sc ((pc, .if_icmp cd off, len, a, b, cc, lw) :: r, loc, .int y :: .int x :: st, h, k, z) q := by
  refine mx_Ev.go ?_ K
  unfold mx_step
  dsimp only
  unfold mx_step1
  dsimp only
  unfold mx_sIcmp
  dsimp only
  rw [if_neg hc]
  rfl
theorem mx_e_zt {x : Int32} {cd : ClassFile.Cond} {off : Int} (hc : mx_cond cd x 0 = true) (K : mx_Ev M sc (M.1 a, loc, st, h, k, z) q) : mx_Ev M sc ((pc, .ifCond cd off, len, a, b, cc, lw) :: r, loc, .int x :: st, h, k, z) q := by
  refine mx_Ev.go ?_ K
  unfold mx_step
  dsimp only
  unfold mx_step1
  dsimp only
  unfold mx_sIf
  dsimp only
  rw [if_pos hc]
  rfl
theorem mx_e_zf {x : Int32} {cd : ClassFile.Cond} {off : Int} (hc : ¬ mx_cond cd x 0 = true) (K : mx_Ev M sc (r, loc, st, h, k, z) q) : mx_Ev M sc ((pc, .ifCond cd off, len, a, b, cc, lw) :: r, loc, .int x :: st, h, k, z) q := by
  refine mx_Ev.go ?_ K
  unfold mx_step
  dsimp only
  unfold mx_step1
  dsimp only
  unfold mx_sIf
  dsimp only
  rw [if_neg hc]
  rfl
theorem mx_e_sw {x : Int32} {d lo hi : Int} {offs : Array Int} {t : Nat} (ht : mx_sw lw x a = t) (K : mx_Ev M sc (M.1 t, loc, st, h, k, z) q) : mx_Ev M sc ((pc, .tableswitch d lo hi offs, len, a, b, cc, lw) :: r, loc, .int x :: st, h, k, z) q := by
  subst ht
  exact mx_Ev.go rfl K
theorem mx_e_lk {x : Int32} {d : Int} {ps : Array (Int × Int)} {t : Nat} (ht : mx_sw lw x a = t) (K : mx_Ev M sc (M.1 t, loc, st, h, k, z) q) : mx_Ev M sc ((pc, .lookupswitch d ps, len, a, b, cc, lw) :: r, loc, .int x :: st, h, k, z) q := by
  subst ht
  exact mx_Ev.go rfl K
theorem mx_sw_t {x c0 : Int32} {t d : Nat} {l : List (Int32 × Nat)} (hx : x = c0) : mx_sw ((c0, t) :: l) x d = t := by simp [mx_sw, hx]
theorem mx_sw_f {x c0 : Int32} {t d t' : Nat} {l : List (Int32 × Nat)} (hx : ¬ x = c0) (h : mx_sw l x d = t') : mx_sw ((c0, t) :: l) x d = t' := by simp [mx_sw, hx, h]
theorem mx_e_dv {x y : Int32} (hy : ¬ y = 0) (K : mx_Ev M sc (r, loc, .int (x / y) :: st, h, k, z) q) : mx_Ev M sc ((pc, .idiv, len, a, b, cc, lw) :: r, loc, .int y :: .int x :: st, h, k, z) q := by
  refine mx_Ev.go ?_ K
  unfold mx_step
  dsimp only
  unfold mx_step1
  dsimp only
  unfold mx_sBd
  dsimp only
  rw [if_neg hy]
  rfl
theorem mx_e_rm {x y : Int32} (hy : ¬ y = 0) (K : mx_Ev M sc (r, loc, .int (x - x / y * y) :: st, h, k, z) q) : mx_Ev M sc ((pc, .irem, len, a, b, cc, lw) :: r, loc, .int y :: .int x :: st, h, k, z) q := by
  refine mx_Ev.go ?_ K
  unfold mx_step
  dsimp only
  unfold mx_step1
  dsimp only
  unfold mx_sBd
  dsimp only
  rw [if_neg hy]
  rfl
theorem mx_e_ldv {x y : Int64} (hy : ¬ y = 0) (K : mx_Ev M sc (r, loc, .long (x / y) :: st, h, k, z) q) : mx_Ev M sc ((pc, .ldiv, len, a, b, cc, lw) :: r, loc, .long y :: .long x :: st, h, k, z) q := by
  refine mx_Ev.go ?_ K
  unfold mx_step
  dsimp only
  unfold mx_step1
  dsimp only
  unfold mx_sLd
  dsimp only
  rw [if_neg hy]
  rfl
theorem mx_e_lrm {x y : Int64} (hy : ¬ y = 0) (K : mx_Ev M sc (r, loc, .long (x - x / y * y) :: st, h, k, z) q) : mx_Ev M sc ((pc, .lrem, len, a, b, cc, lw) :: r, loc, .long y :: .long x :: st, h, k, z) q := by
  refine mx_Ev.go ?_ K
  unfold mx_step
  dsimp only
  unfold mx_step1
  dsimp only
  unfold mx_sLd
  dsimp only
  rw [if_neg hy]
  rfl
theorem mx_e_rb {x : Int32} (hr : M.2.2.2.2.1 = some .boolean) (hx : x = 0 ∨ x = 1) : mx_Ev M sc ((pc, .ireturn, len, a, b, cc, lw) :: r, loc, [.int x], h, 0, 0) (some (.int x), h) := by
  refine mx_Ev.ret ?_
  unfold mx_step
  dsimp only
  unfold mx_step1
  dsimp only
  unfold mx_sIret mx_ret
  dsimp only
  rw [if_pos (Or.inr ⟨hr, hx⟩), if_pos ⟨Nat.zero_le _, Nat.zero_le _⟩]
theorem mx_e_ri {x : Int32} (hr : M.2.2.2.2.1 = some .int) : mx_Ev M sc ((pc, .ireturn, len, a, b, cc, lw) :: r, loc, [.int x], h, 0, 0) (some (.int x), h) := by
  refine mx_Ev.ret ?_
  unfold mx_step
  dsimp only
  unfold mx_step1
  dsimp only
  unfold mx_sIret mx_ret
  dsimp only
  rw [if_pos (Or.inl hr), if_pos ⟨Nat.zero_le _, Nat.zero_le _⟩]
end Rules
/-- a reference that may be null -/
def mx_nv (v : Option Nat) : Value := match v with
  | none => .null
  | some a => .ref a
section Plain
variable {M : mx_Mt} {sc : mx_Sc} {r : List mx_In} {loc : mx_Lc} {st : List Value} {h : mx_Hp} {k z pc len a b : Nat} {cc : Int32} {lw : List (Int32 × Nat)} {q : mx_Rs}
theorem mx_p_ic {j : Int}  (K : mx_Ev M sc (r, loc, .int cc :: st, h, k, z) q) : mx_Ev M sc ((pc, .iconst j, len, a, b, cc, lw) :: r, loc, st, h, k, z) q := by
  refine mx_Ev.go ?_ K
  unfold mx_step
  dsimp only
  unfold mx_step1
  dsimp only
  rfl
theorem mx_p_bp {j : Int}  (K : mx_Ev M sc (r, loc, .int cc :: st, h, k, z) q) : mx_Ev M sc ((pc, .bipush j, len, a, b, cc, lw) :: r, loc, st, h, k, z) q := by
  refine mx_Ev.go ?_ K
  unfold mx_step
  dsimp only
  unfold mx_step1
  dsimp only
  rfl
theorem mx_p_sp {j : Int}  (K : mx_Ev M sc (r, loc, .int cc :: st, h, k, z) q) : mx_Ev M sc ((pc, .sipush j, len, a, b, cc, lw) :: r, loc, st, h, k, z) q := by
  refine mx_Ev.go ?_ K
  unfold mx_step
  dsimp only
  unfold mx_step1
  dsimp only
  rfl
theorem mx_p_lc {j : Fin 2}  (K : mx_Ev M sc (r, loc, .long cc.toInt64 :: st, h, k, z) q) : mx_Ev M sc ((pc, .lconst j, len, a, b, cc, lw) :: r, loc, st, h, k, z) q := by
  refine mx_Ev.go ?_ K
  unfold mx_step
  dsimp only
  unfold mx_step1
  dsimp only
  rfl
theorem mx_p_l2 {j : Nat}  (K : mx_Ev M sc (r, loc, .long cc.toInt64 :: st, h, k, z) q) : mx_Ev M sc ((pc, .ldc2_w j, len, a, b, cc, lw) :: r, loc, st, h, k, z) q := by
  refine mx_Ev.go ?_ K
  unfold mx_step
  dsimp only
  unfold mx_step1
  dsimp only
  rfl
theorem mx_p_nl   (K : mx_Ev M sc (r, loc, .null :: st, h, k, z) q) : mx_Ev M sc ((pc, .aconst_null, len, a, b, cc, lw) :: r, loc, st, h, k, z) q := by
  refine mx_Ev.go ?_ K
  unfold mx_step
  dsimp only
  unfold mx_step1
  dsimp only
  rfl
theorem mx_p_iln {j : Fin 4} {x : Int32} (hv : mx_ld loc a = some (.int x)) (K : mx_Ev M sc (r, loc, .int x :: st, h, k, z) q) : mx_Ev M sc ((pc, .iload_n j, len, a, b, cc, lw) :: r, loc, st, h, k, z) q := by
  refine mx_Ev.go ?_ K
  unfold mx_step
  dsimp only
  unfold mx_step1
  dsimp only
  unfold mx_sIload
  dsimp only
  rw [hv]
  rfl
theorem mx_p_il {j : Nat} {x : Int32} (hv : mx_ld loc a = some (.int x)) (K : mx_Ev M sc (r, loc, .int x :: st, h, k, z) q) : mx_Ev M sc ((pc, .iload j, len, a, b, cc, lw) :: r, loc, st, h, k, z) q := by
  refine mx_Ev.go ?_ K
  unfold mx_step
  dsimp only
  unfold mx_step1
  dsimp only
  unfold mx_sIload
  dsimp only
  rw [hv]
  rfl
theorem mx_p_lln {j : Fin 4} {x : Int64} (hv : mx_ld loc a = some (.long x)) (K : mx_Ev M sc (r, loc, .long x :: st, h, k, z) q) : mx_Ev M sc ((pc, .lload_n j, len, a, b, cc, lw) :: r, loc, st, h, k, z) q := by
  refine mx_Ev.go ?_ K
  unfold mx_step
  dsimp only
  unfold mx_step1
  dsimp only
  unfold mx_sLload
  dsimp only
  rw [hv]
  rfl
theorem mx_p_ll {j : Nat} {x : Int64} (hv : mx_ld loc a = some (.long x)) (K : mx_Ev M sc (r, loc, .long x :: st, h, k, z) q) : mx_Ev M sc ((pc, .lload j, len, a, b, cc, lw) :: r, loc, st, h, k, z) q := by
  refine mx_Ev.go ?_ K
  unfold mx_step
  dsimp only
  unfold mx_step1
  dsimp only
  unfold mx_sLload
  dsimp only
  rw [hv]
  rfl
theorem mx_p_aln {j : Fin 4} {x : Nat} (hv : mx_ld loc a = some (.ref x)) (K : mx_Ev M sc (r, loc, .ref x :: st, h, k, z) q) : mx_Ev M sc ((pc, .aload_n j, len, a, b, cc, lw) :: r, loc, st, h, k, z) q := by
  refine mx_Ev.go ?_ K
  unfold mx_step
  dsimp only
  unfold mx_step1
  dsimp only
  unfold mx_sAload
  dsimp only
  rw [hv]
  rfl
theorem mx_p_al {j : Nat} {x : Nat} (hv : mx_ld loc a = some (.ref x)) (K : mx_Ev M sc (r, loc, .ref x :: st, h, k, z) q) : mx_Ev M sc ((pc, .aload j, len, a, b, cc, lw) :: r, loc, st, h, k, z) q := by
  refine mx_Ev.go ?_ K
  unfold mx_step
  dsimp only
  unfold mx_step1
  dsimp only
  unfold mx_sAload
  dsimp only
  rw [hv]
  rfl
theorem mx_p_anN {j : Fin 4} {x : Option Nat} (hv : mx_ld loc a = some (mx_nv x)) (K : mx_Ev M sc (r, loc, mx_nv x :: st, h, k, z) q) : mx_Ev M sc ((pc, .aload_n j, len, a, b, cc, lw) :: r, loc, st, h, k, z) q := by
  refine mx_Ev.go ?_ K
  unfold mx_step
  dsimp only
  unfold mx_step1
  dsimp only
  unfold mx_sAload
  dsimp only
  rw [hv]
  unfold mx_nv
  cases x <;> rfl
theorem mx_p_aN {j : Nat} {x : Option Nat} (hv : mx_ld loc a = some (mx_nv x)) (K : mx_Ev M sc (r, loc, mx_nv x :: st, h, k, z) q) : mx_Ev M sc ((pc, .aload j, len, a, b, cc, lw) :: r, loc, st, h, k, z) q := by
  refine mx_Ev.go ?_ K
  unfold mx_step
  dsimp only
  unfold mx_step1
  dsimp only
  unfold mx_sAload
  dsimp only
  rw [hv]
  unfold mx_nv
  cases x <;> rfl
theorem mx_p_isn {j : Fin 4} {x : Int32} {loc' : mx_Lc} (hv : mx_sv loc a (.int x) = some loc') (K : mx_Ev M sc (r, loc', st, h, k, z) q) : mx_Ev M sc ((pc, .istore_n j, len, a, b, cc, lw) :: r, loc, .int x :: st, h, k, z) q := by
  refine mx_Ev.go ?_ K
  unfold mx_step
  dsimp only
  unfold mx_step1
  dsimp only
  unfold mx_sIstore
  dsimp only
  rw [hv]
  rfl
theorem mx_p_is {j : Nat} {x : Int32} {loc' : mx_Lc} (hv : mx_sv loc a (.int x) = some loc') (K : mx_Ev M sc (r, loc', st, h, k, z) q) : mx_Ev M sc ((pc, .istore j, len, a, b, cc, lw) :: r, loc, .int x :: st, h, k, z) q := by
  refine mx_Ev.go ?_ K
  unfold mx_step
  dsimp only
  unfold mx_step1
  dsimp only
  unfold mx_sIstore
  dsimp only
  rw [hv]
  rfl
theorem mx_p_asn {j : Fin 4} {x : Nat} {loc' : mx_Lc} (hv : mx_sv loc a (.ref x) = some loc') (K : mx_Ev M sc (r, loc', st, h, k, z) q) : mx_Ev M sc ((pc, .astore_n j, len, a, b, cc, lw) :: r, loc, .ref x :: st, h, k, z) q := by
  refine mx_Ev.go ?_ K
  unfold mx_step
  dsimp only
  unfold mx_step1
  dsimp only
  unfold mx_sAstore
  dsimp only
  rw [hv]
  rfl
theorem mx_p_as {j : Nat} {x : Nat} {loc' : mx_Lc} (hv : mx_sv loc a (.ref x) = some loc') (K : mx_Ev M sc (r, loc', st, h, k, z) q) : mx_Ev M sc ((pc, .astore j, len, a, b, cc, lw) :: r, loc, .ref x :: st, h, k, z) q := by
  refine mx_Ev.go ?_ K
  unfold mx_step
  dsimp only
  unfold mx_step1
  dsimp only
  unfold mx_sAstore
  dsimp only
  rw [hv]
  rfl
theorem mx_p_asnN {j : Fin 4} {x : Option Nat} {loc' : mx_Lc} (hv : mx_sv loc a (mx_nv x) = some loc') (K : mx_Ev M sc (r, loc', st, h, k, z) q) : mx_Ev M sc ((pc, .astore_n j, len, a, b, cc, lw) :: r, loc, mx_nv x :: st, h, k, z) q := by
  refine mx_Ev.go ?_ K
  unfold mx_step
  dsimp only
  unfold mx_step1
  dsimp only
  unfold mx_sAstore
  unfold mx_nv at hv ⊢
  cases x <;> (dsimp only at hv ⊢; rw [hv]; rfl)
theorem mx_p_asN {j : Nat} {x : Option Nat} {loc' : mx_Lc} (hv : mx_sv loc a (mx_nv x) = some loc') (K : mx_Ev M sc (r, loc', st, h, k, z) q) : mx_Ev M sc ((pc, .astore j, len, a, b, cc, lw) :: r, loc, mx_nv x :: st, h, k, z) q := by
  refine mx_Ev.go ?_ K
  unfold mx_step
  dsimp only
  unfold mx_step1
  dsimp only
  unfold mx_sAstore
  unfold mx_nv at hv ⊢
  cases x <;> (dsimp only at hv ⊢; rw [hv]; rfl)
theorem mx_p_lsn {j : Fin 4} {x : Int64} {loc' : mx_Lc} (hv : mx_sv2 loc a (.long x) = some loc') (K : mx_Ev M sc (r, loc', st, h, k, z) q) : mx_Ev M sc ((pc, .lstore_n j, len, a, b, cc, lw) :: r, loc, .long x :: st, h, k, z) q := by
  refine mx_Ev.go ?_ K
  unfold mx_step
  dsimp only
  unfold mx_step1
  dsimp only
  unfold mx_sLstore
  dsimp only
  rw [hv]
  rfl
theorem mx_p_ls {j : Nat} {x : Int64} {loc' : mx_Lc} (hv : mx_sv2 loc a (.long x) = some loc') (K : mx_Ev M sc (r, loc', st, h, k, z) q) : mx_Ev M sc ((pc, .lstore j, len, a, b, cc, lw) :: r, loc, .long x :: st, h, k, z) q := by
  refine mx_Ev.go ?_ K
  unfold mx_step
  dsimp only
  unfold mx_step1
  dsimp only
  unfold mx_sLstore
  dsimp only
  rw [hv]
  rfl
theorem mx_p_inc {j : Nat} {d : Int} {x : Int32} {loc' : mx_Lc} (hv : mx_ld loc a = some (.int x)) (hv2 : mx_sv loc a (.int (x + cc)) = some loc') (K : mx_Ev M sc (r, loc', st, h, k, z) q) : mx_Ev M sc ((pc, .iinc j d, len, a, b, cc, lw) :: r, loc, st, h, k, z) q := by
  refine mx_Ev.go ?_ K
  unfold mx_step
  dsimp only
  unfold mx_step1
  dsimp only
  unfold mx_sIinc
  dsimp only
  rw [hv]
  dsimp only
  rw [hv2]
  rfl
theorem mx_p_iadd {x y : Int32}  (K : mx_Ev M sc (r, loc, .int (x + y) :: st, h, k, z) q) : mx_Ev M sc ((pc, .iadd, len, a, b, cc, lw) :: r, loc, .int y :: .int x :: st, h, k, z) q := by
  refine mx_Ev.go ?_ K
  unfold mx_step
  dsimp only
  unfold mx_step1
  dsimp only
  rfl
theorem mx_p_isub {x y : Int32}  (K : mx_Ev M sc (r, loc, .int (x - y) :: st, h, k, z) q) : mx_Ev M sc ((pc, .isub, len, a, b, cc, lw) :: r, loc, .int y :: .int x :: st, h, k, z) q := by
  refine mx_Ev.go ?_ K
  unfold mx_step
  dsimp only
  unfold mx_step1
  dsimp only
  rfl
theorem mx_p_imul {x y : Int32}  (K : mx_Ev M sc (r, loc, .int (x * y) :: st, h, k, z) q) : mx_Ev M sc ((pc, .imul, len, a, b, cc, lw) :: r, loc, .int y :: .int x :: st, h, k, z) q := by
  refine mx_Ev.go ?_ K
  unfold mx_step
  dsimp only
  unfold mx_step1
  dsimp only
  rfl
theorem mx_p_iand {x y : Int32}  (K : mx_Ev M sc (r, loc, .int (x &&& y) :: st, h, k, z) q) : mx_Ev M sc ((pc, .iand, len, a, b, cc, lw) :: r, loc, .int y :: .int x :: st, h, k, z) q := by
  refine mx_Ev.go ?_ K
  unfold mx_step
  dsimp only
  unfold mx_step1
  dsimp only
  rfl
theorem mx_p_ior {x y : Int32}  (K : mx_Ev M sc (r, loc, .int (x ||| y) :: st, h, k, z) q) : mx_Ev M sc ((pc, .ior, len, a, b, cc, lw) :: r, loc, .int y :: .int x :: st, h, k, z) q := by
  refine mx_Ev.go ?_ K
  unfold mx_step
  dsimp only
  unfold mx_step1
  dsimp only
  rfl
theorem mx_p_ixor {x y : Int32}  (K : mx_Ev M sc (r, loc, .int (x ^^^ y) :: st, h, k, z) q) : mx_Ev M sc ((pc, .ixor, len, a, b, cc, lw) :: r, loc, .int y :: .int x :: st, h, k, z) q := by
  refine mx_Ev.go ?_ K
  unfold mx_step
  dsimp only
  unfold mx_step1
  dsimp only
  rfl
theorem mx_p_ishl {x y : Int32}  (K : mx_Ev M sc (r, loc, .int (x <<< (y &&& 31)) :: st, h, k, z) q) : mx_Ev M sc ((pc, .ishl, len, a, b, cc, lw) :: r, loc, .int y :: .int x :: st, h, k, z) q := by
  refine mx_Ev.go ?_ K
  unfold mx_step
  dsimp only
  unfold mx_step1
  dsimp only
  rfl
theorem mx_p_ishr {x y : Int32}  (K : mx_Ev M sc (r, loc, .int (x >>> (y &&& 31)) :: st, h, k, z) q) : mx_Ev M sc ((pc, .ishr, len, a, b, cc, lw) :: r, loc, .int y :: .int x :: st, h, k, z) q := by
  refine mx_Ev.go ?_ K
  unfold mx_step
  dsimp only
  unfold mx_step1
  dsimp only
  rfl
theorem mx_p_ladd {x y : Int64}  (K : mx_Ev M sc (r, loc, .long (x + y) :: st, h, k, z) q) : mx_Ev M sc ((pc, .ladd, len, a, b, cc, lw) :: r, loc, .long y :: .long x :: st, h, k, z) q := by
  refine mx_Ev.go ?_ K
  unfold mx_step
  dsimp only
  unfold mx_step1
  dsimp only
  rfl
theorem mx_p_lmul {x y : Int64}  (K : mx_Ev M sc (r, loc, .long (x * y) :: st, h, k, z) q) : mx_Ev M sc ((pc, .lmul, len, a, b, cc, lw) :: r, loc, .long y :: .long x :: st, h, k, z) q := by
  refine mx_Ev.go ?_ K
  unfold mx_step
  dsimp only
  unfold mx_step1
  dsimp only
  rfl
theorem mx_p_i2l {x : Int32}  (K : mx_Ev M sc (r, loc, .long x.toInt64 :: st, h, k, z) q) : mx_Ev M sc ((pc, .i2l, len, a, b, cc, lw) :: r, loc, .int x :: st, h, k, z) q := by
  refine mx_Ev.go ?_ K
  unfold mx_step
  dsimp only
  unfold mx_step1
  dsimp only
  rfl
theorem mx_p_l2i {x : Int64}  (K : mx_Ev M sc (r, loc, .int x.toInt32 :: st, h, k, z) q) : mx_Ev M sc ((pc, .l2i, len, a, b, cc, lw) :: r, loc, .long x :: st, h, k, z) q := by
  refine mx_Ev.go ?_ K
  unfold mx_step
  dsimp only
  unfold mx_step1
  dsimp only
  rfl
theorem mx_p_dup {x : Value} (hv : mx_c1 x = true) (K : mx_Ev M sc (r, loc, x :: x :: st, h, k, z) q) : mx_Ev M sc ((pc, .dup, len, a, b, cc, lw) :: r, loc, x :: st, h, k, z) q := by
  refine mx_Ev.go ?_ K
  unfold mx_step
  dsimp only
  unfold mx_step1
  dsimp only
  unfold mx_sDup
  dsimp only
  rw [if_pos hv]
  rfl
theorem mx_p_dup2 {x y : Value} (hv : mx_c1 x = true) (hv2 : mx_c1 y = true) (K : mx_Ev M sc (r, loc, x :: y :: x :: y :: st, h, k, z) q) : mx_Ev M sc ((pc, .dup2, len, a, b, cc, lw) :: r, loc, x :: y :: st, h, k, z) q := by
  refine mx_Ev.go ?_ K
  unfold mx_step
  dsimp only
  unfold mx_step1
  dsimp only
  unfold mx_sDup2
  dsimp only
  rw [if_pos ⟨hv, hv2⟩]
  rfl
theorem mx_p_pop {x : Value} (hv : mx_c1 x = true) (K : mx_Ev M sc (r, loc, st, h, k, z) q) : mx_Ev M sc ((pc, .pop, len, a, b, cc, lw) :: r, loc, x :: st, h, k, z) q := by
  refine mx_Ev.go ?_ K
  unfold mx_step
  dsimp only
  unfold mx_step1
  dsimp only
  unfold mx_sPop
  dsimp only
  rw [if_pos hv]
  rfl
theorem mx_p_gt {j : Int}  (K : mx_Ev M sc (M.1 a, loc, st, h, k, z) q) : mx_Ev M sc ((pc, .goto j, len, a, b, cc, lw) :: r, loc, st, h, k, z) q := by
  refine mx_Ev.go ?_ K
  unfold mx_step
  dsimp only
  unfold mx_step1
  dsimp only
  rfl
theorem mx_p_np   (K : mx_Ev M sc (M.1 a, loc, st, h, k, z) q) : mx_Ev M sc ((pc, .nop, len, a, b, cc, lw) :: r, loc, st, h, k, z) q := by
  refine mx_Ev.go ?_ K
  unfold mx_step
  dsimp only
  unfold mx_step1
  dsimp only
  rfl
theorem mx_p_mx {j : Nat} {x y : Int32} (ha : a = 1001) (hc : mx_cat st ≤ 8 ∧ k ≤ M.2.2.2.2.2.2.1.cells ∧ z ≤ M.2.2.2.2.2.2.1.slots) (K : mx_Ev M sc (r, loc, .int (if x < y then y else x) :: st, h, k, z) q) : mx_Ev M sc ((pc, .invokestatic j, len, a, b, cc, lw) :: r, loc, .int y :: .int x :: st, h, k, z) q := by
  refine mx_Ev.go ?_ K
  unfold mx_step
  dsimp only
  unfold mx_step1
  dsimp only
  unfold mx_sStat
  rw [if_pos ha]
  dsimp only
  rw [if_pos hc]
  rfl
theorem mx_p_nuN {j : Int}  (K : mx_Ev M sc (M.1 a, loc, st, h, k, z) q) : mx_Ev M sc ((pc, .ifnull j, len, a, b, cc, lw) :: r, loc, .null :: st, h, k, z) q := by
  refine mx_Ev.go ?_ K
  unfold mx_step
  dsimp only
  unfold mx_step1
  dsimp only
  rfl
theorem mx_p_nuR {j : Int} {x : Nat}  (K : mx_Ev M sc (r, loc, st, h, k, z) q) : mx_Ev M sc ((pc, .ifnull j, len, a, b, cc, lw) :: r, loc, .ref x :: st, h, k, z) q := by
  refine mx_Ev.go ?_ K
  unfold mx_step
  dsimp only
  unfold mx_step1
  dsimp only
  rfl
theorem mx_p_nnR {j : Int} {x : Nat}  (K : mx_Ev M sc (M.1 a, loc, st, h, k, z) q) : mx_Ev M sc ((pc, .ifnonnull j, len, a, b, cc, lw) :: r, loc, .ref x :: st, h, k, z) q := by
  refine mx_Ev.go ?_ K
  unfold mx_step
  dsimp only
  unfold mx_step1
  dsimp only
  rfl
theorem mx_p_nnN {j : Int}  (K : mx_Ev M sc (r, loc, st, h, k, z) q) : mx_Ev M sc ((pc, .ifnonnull j, len, a, b, cc, lw) :: r, loc, .null :: st, h, k, z) q := by
  refine mx_Ev.go ?_ K
  unfold mx_step
  dsimp only
  unfold mx_step1
  dsimp only
  rfl
theorem mx_p_rv : mx_Ev M sc ((pc, .return_, len, a, b, cc, lw) :: r, loc, [], h, 0, 0) (none, h) := mx_Ev.ret (by
  unfold mx_step
  dsimp only
  unfold mx_step1
  dsimp only
  unfold mx_sVret mx_ret
  dsimp only
  rw [if_pos ⟨Nat.zero_le _, Nat.zero_le _⟩])
theorem mx_p_ra {x : Nat} : mx_Ev M sc ((pc, .areturn, len, a, b, cc, lw) :: r, loc, [.ref x], h, 0, 0) (some (.ref x), h) := mx_Ev.ret (by
  unfold mx_step
  dsimp only
  unfold mx_step1
  dsimp only
  unfold mx_sAret mx_ret
  dsimp only
  rw [if_pos ⟨Nat.zero_le _, Nat.zero_le _⟩])
theorem mx_p_rn {x : Option Nat} : mx_Ev M sc ((pc, .areturn, len, a, b, cc, lw) :: r, loc, [mx_nv x], h, 0, 0) (some (mx_nv x), h) := mx_Ev.ret (by
  unfold mx_step
  dsimp only
  unfold mx_step1
  dsimp only
  unfold mx_sAret mx_ret
  rw [if_pos ⟨Nat.zero_le _, Nat.zero_le _⟩]
  cases x <;> rfl)
end Plain
section Calls
variable {M M2 : mx_Mt} {sc : mx_Sc} {r : List mx_In} {loc : mx_Lc} {st rest : List Value} {h : mx_Hp} {k z pc idx len y b : Nat} {cc : Int32} {lw : List (Int32 × Nat)} {q q2 : mx_Rs}
theorem mx_e_cv {o ci : Nat} {as : List Value} (hT : mx_tab y = M2) (hon : o < h.1 ∧ (mx_lay o).1 = ci + 3) (ha : (st.take b).reverse = .ref o :: as) (hr : st.drop b = rest) (hall : (st.take b).all mx_c1 = true) (hb : b ≤ st.length ∧ b ≤ M2.2.2.2.1 ∧ y < 1000) (hcat : mx_cat rest ≤ 8) (hc0 : M2.2.2.2.2.2.2.1.cells = 0) (hs0 : M2.2.2.2.2.2.2.1.slots = 0) (hcn : mx_Cn ci = M2.2.1.cls) (hkz : k ≤ M.2.2.2.2.2.2.1.cells ∧ z ≤ M.2.2.2.2.2.2.1.slots) (hc : mx_Ms M2 (.ref o :: as) h q2) (K : mx_Ev M sc (r, loc, q2.1.toList ++ rest, q2.2, k, z) q) : mx_Ev M sc ((pc, .invokevirtual idx, len, y, b, cc, lw) :: r, loc, st, h, k, z) q := by
  subst hT
  refine mx_Ev.call (y := y) (as := .ref o :: as) (c' := (r, loc, rest, h, k, z)) ?_ hc K
  unfold mx_step
  dsimp only
  unfold mx_step1
  dsimp only
  unfold mx_sVirt
  dsimp only
  rw [if_neg (by omega), if_neg (by omega)]
  unfold mx_call
  dsimp only
  rw [hc0, hs0, hr, ha]
  rw [if_pos ⟨hb.1, hall, hb.2.1, hcat, hkz.1, hkz.2⟩]
  dsimp only
  rw [if_pos ⟨hon.1, by omega, by rw [hon.2]; exact hcn⟩]
  rfl
theorem mx_e_cs {as : List Value} (hT : mx_tab y = M2) (ha : (st.take b).reverse = as) (hr : st.drop b = rest) (hall : (st.take b).all mx_c1 = true) (hb : b ≤ st.length ∧ b ≤ M2.2.2.2.1 ∧ y < 1000) (hcat : mx_cat rest ≤ 8) (hc0 : M2.2.2.2.2.2.2.1.cells = 0) (hs0 : M2.2.2.2.2.2.2.1.slots = 0) (hkz : k ≤ M.2.2.2.2.2.2.1.cells ∧ z ≤ M.2.2.2.2.2.2.1.slots) (hc : mx_Ms M2 as h q2) (K : mx_Ev M sc (r, loc, q2.1.toList ++ rest, q2.2, k, z) q) : mx_Ev M sc ((pc, .invokestatic idx, len, y, b, cc, lw) :: r, loc, st, h, k, z) q := by
  subst hT
  refine mx_Ev.call (y := y) (as := as) (c' := (r, loc, rest, h, k, z)) ?_ hc K
  unfold mx_step
  dsimp only
  unfold mx_step1
  dsimp only
  unfold mx_sStat
  dsimp only
  rw [if_neg (by omega)]
  unfold mx_call
  dsimp only
  rw [hc0, hs0, hr, ha]
  rw [if_pos ⟨hb.1, hall, hb.2.1, hcat, hkz.1, hkz.2⟩]
  rfl
end Calls
/-- a loop, by its fuel -/
def mx_fix {σ ρ : Type} (body : (σ → Option ρ) → σ → Option ρ) : Nat → σ → Option ρ
  | 0, _ => none
  | n + 1, s => body (mx_fix body n) s
end
section
/-! the methods as functions: by wip/gen/dec.py -/
def f_X0_clear (a0 : Nat) (h : mx_Hp) : Option (mx_Hp) :=
  (mx_pi h a0 0 3 0).bind fun h1 =>
  (mx_pi h1 a0 0 4 0).bind fun h2 =>
  (mx_pi h2 a0 0 5 0).bind fun h3 =>
  (mx_pi h3 a0 0 6 0).bind fun h4 =>
  (mx_pi h4 a0 0 7 0).bind fun h5 =>
  (mx_pi h5 a0 0 8 0).bind fun h6 =>
  (mx_pi h6 a0 0 9 2).bind fun h7 =>
  (mx_pi h7 a0 0 10 0).bind fun h8 =>
  some h8
def f_X11_bit (a0 : Int32) (h : mx_Hp) : Option (Int32) :=
  (if a0 < 0 then
  some 0
  else
  if 10 ≤ a0 then
  some 0
  else
  some ((1 : Int32) <<< (a0 &&& 31)) : Option (Int32)).bind fun v3 =>
  some v3
def f_X0_addWord (a0 : Nat) (a1 : Int32) (a2 : Int32) (h : mx_Hp) : Option (Int32 × mx_Hp) :=
  if a1 < 0 then
  some (0, h)
  else
  if 3 < a1 then
  some (0, h)
  else
  if a2 < 0 then
  some (0, h)
  else
  if 9 < a2 then
  some (0, h)
  else
  (mx_gi h a0 0 3).bind fun x5 =>
  if x5 < 10 then
  (mx_gr h a0 0 0).bind fun x7 =>
  (mx_gi h a0 0 3).bind fun x8 =>
  (mx_as h x7 x8 a1).bind fun h9 =>
  (mx_gr h9 a0 0 1).bind fun x10 =>
  (mx_gi h9 a0 0 3).bind fun x11 =>
  (mx_as h9 x10 x11 a2).bind fun h12 =>
  (mx_gr h12 a0 0 2).bind fun x13 =>
  (mx_gi h12 a0 0 3).bind fun x14 =>
  (mx_as h12 x13 x14 0).bind fun h15 =>
  (mx_gi h15 a0 0 4).bind fun x16 =>
  (if ¬ a1 = 1 then
  some 0
  else
  (mx_gi h15 a0 0 3).bind fun x18 =>
  (f_X11_bit x18 h15).bind fun x19 =>
  some x19 : Option (Int32)).bind fun v20 =>
  (mx_pi h15 a0 0 4 (x16 ||| v20)).bind fun h21 =>
  (mx_gi h21 a0 0 5).bind fun x22 =>
  (if ¬ a1 = 2 then
  some 0
  else
  (mx_gi h21 a0 0 3).bind fun x24 =>
  (f_X11_bit x24 h21).bind fun x25 =>
  some x25 : Option (Int32)).bind fun v26 =>
  (mx_pi h21 a0 0 5 (x22 ||| v26)).bind fun h27 =>
  (mx_gi h27 a0 0 6).bind fun x28 =>
  (if ¬ a1 = 3 then
  some 0
  else
  (mx_gi h27 a0 0 3).bind fun x30 =>
  (f_X11_bit x30 h27).bind fun x31 =>
  some x31 : Option (Int32)).bind fun v32 =>
  (mx_pi h27 a0 0 6 (x28 ||| v32)).bind fun h33 =>
  (mx_gi h33 a0 0 3).bind fun x34 =>
  (mx_pi h33 a0 0 3 (x34 + 1)).bind fun h35 =>
  some (1, h35)
  else
  some (0, h)
def f_X0_has (a0 : Nat) (a1 : Int32) (h : mx_Hp) : Option (Int32) :=
  (if a1 < 0 then
  some 0
  else
  (mx_gi h a0 0 3).bind fun x2 =>
  if x2 ≤ a1 then
  some 0
  else
  if 10 ≤ a1 then
  some 0
  else
  some 1 : Option (Int32)).bind fun v5 =>
  if v5 = 0 ∨ v5 = 1 then some v5 else none
def f_X0_addBehind (a0 : Nat) (a1 : Int32) (a2 : Int32) (h : mx_Hp) : Option (Int32 × mx_Hp) :=
  if a0 < h.1 ∧ (mx_lay a0).1 = 3 then
  ((f_X0_has a0 a1 h).bind fun x1 =>
  if x1 = 0 then
  some (0, h)
  else
  if a0 < h.1 ∧ (mx_lay a0).1 = 3 then
  ((f_X0_has a0 a2 h).bind fun x4 =>
  if ¬ x4 = 0 then
  (mx_gr h a0 0 2).bind fun x7 =>
  (mx_al h x7 a1).bind fun x8 =>
  (f_X11_bit a2 h).bind fun x9 =>
  (mx_as h x7 a1 (x8 ||| x9)).bind fun h10 =>
  some (1, h10)
  else
  some (0, h))
  else none)
  else none
def f_X11_isMayor (a0 : Int32) (h : mx_Hp) : Option (Int32) :=
  (if a0 = 0 then
  some 1
  else
  if ¬ a0 = 1 then
  some 0
  else
  some 1 : Option (Int32)).bind fun v3 =>
  if v3 = 0 ∨ v3 = 1 then some v3 else none
def f_X0_addKnown (a0 : Nat) (a1 : Int32) (a2 : Int32) (h : mx_Hp) : Option (Int32 × mx_Hp) :=
  (f_X11_isMayor a1 h).bind fun x1 =>
  if x1 = 0 then
  some (0, h)
  else
  if a0 < h.1 ∧ (mx_lay a0).1 = 3 then
  ((f_X0_has a0 a2 h).bind fun x3 =>
  if ¬ x3 = 0 then
  (if ¬ a1 = 0 then
  (mx_gi h a0 0 8).bind fun x7 =>
  (f_X11_bit a2 h).bind fun x8 =>
  (mx_pi h a0 0 8 (x7 ||| x8)).bind fun h9 =>
  some h9
  else
  (mx_gi h a0 0 7).bind fun x10 =>
  (f_X11_bit a2 h).bind fun x11 =>
  (mx_pi h a0 0 7 (x10 ||| x11)).bind fun h12 =>
  some h12 : Option (mx_Hp)).bind fun v13 =>
  some (1, v13)
  else
  some (0, h))
  else none
def f_X0_takePair (a0 : Nat) (a1 : Int32) (a2 : Int32) (a3 : Int32) (h : mx_Hp) : Option (Int32 × mx_Hp) :=
  if a1 = 103 then
  if a0 < h.1 ∧ (mx_lay a0).1 = 3 then
  ((f_X0_addBehind a0 a2 a3 h).bind fun x2 =>
  if x2.1 = 0 ∨ x2.1 = 1 then some (x2.1, x2.2) else none)
  else none
  else
  if a1 = 107 then
  if a0 < h.1 ∧ (mx_lay a0).1 = 3 then
  ((f_X0_addKnown a0 a2 a3 h).bind fun x6 =>
  if x6.1 = 0 ∨ x6.1 = 1 then some (x6.1, x6.2) else none)
  else none
  else
  if a1 = 119 then
  if a0 < h.1 ∧ (mx_lay a0).1 = 3 then
  ((f_X0_addWord a0 a2 a3 h).bind fun x10 =>
  if x10.1 = 0 ∨ x10.1 = 1 then some (x10.1, x10.2) else none)
  else none
  else
  some (0, h)
def f_X0_setLongest (a0 : Nat) (a1 : Int32) (h : mx_Hp) : Option (Int32 × mx_Hp) :=
  if a1 < 1 then
  some (0, h)
  else
  if a1 ≤ 4 then
  (mx_pi h a0 0 9 a1).bind fun h3 =>
  some (1, h3)
  else
  some (0, h)
def f_X0_setChain (a0 : Nat) (a1 : Int32) (h : mx_Hp) : Option (Int32 × mx_Hp) :=
  (f_X11_isMayor a1 h).bind fun x1 =>
  if ¬ x1 = 0 then
  (mx_pi h a0 0 10 a1).bind fun h3 =>
  some (1, h3)
  else
  some (0, h)
def f_X0_takeSingle (a0 : Nat) (a1 : Int32) (a2 : Int32) (h : mx_Hp) : Option (Int32 × mx_Hp) :=
  if a1 = 99 then
  if a0 < h.1 ∧ (mx_lay a0).1 = 3 then
  ((f_X0_setChain a0 a2 h).bind fun x2 =>
  if x2.1 = 0 ∨ x2.1 = 1 then some (x2.1, x2.2) else none)
  else none
  else
  if a1 = 108 then
  if a0 < h.1 ∧ (mx_lay a0).1 = 3 then
  ((f_X0_setLongest a0 a2 h).bind fun x6 =>
  if x6.1 = 0 ∨ x6.1 = 1 then some (x6.1, x6.2) else none)
  else none
  else
  some (0, h)
def f_X0_kindOf (a0 : Nat) (a1 : Int32) (h : mx_Hp) : Option (Int32) :=
  if a0 < h.1 ∧ (mx_lay a0).1 = 3 then
  ((f_X0_has a0 a1 h).bind fun x1 =>
  (if x1 = 0 then
  some (-4)
  else
  (mx_gr h a0 0 0).bind fun x4 =>
  (mx_al h x4 a1).bind fun x5 =>
  some x5 : Option (Int32)).bind fun v6 =>
  some v6)
  else none
def f_X0_worthOf (a0 : Nat) (a1 : Int32) (h : mx_Hp) : Option (Int32) :=
  if a0 < h.1 ∧ (mx_lay a0).1 = 3 then
  ((f_X0_has a0 a1 h).bind fun x1 =>
  (if x1 = 0 then
  some 0
  else
  (mx_gr h a0 0 1).bind fun x4 =>
  (mx_al h x4 a1).bind fun x5 =>
  some x5 : Option (Int32)).bind fun v6 =>
  some v6)
  else none
def f_X0_behindOf (a0 : Nat) (a1 : Int32) (h : mx_Hp) : Option (Int32) :=
  if a0 < h.1 ∧ (mx_lay a0).1 = 3 then
  ((f_X0_has a0 a1 h).bind fun x1 =>
  (if x1 = 0 then
  some 0
  else
  (mx_gr h a0 0 2).bind fun x4 =>
  (mx_al h x4 a1).bind fun x5 =>
  some x5 : Option (Int32)).bind fun v6 =>
  some v6)
  else none
def f_X0_allWords (a0 : Nat) (h : mx_Hp) : Option (Int32) :=
  (mx_gi h a0 0 3).bind fun x1 =>
  some (((1 : Int32) <<< (x1 &&& 31)) - 1)
def f_X0_aheadOf_L4 (l0 : Nat) (l1 : Int32) (h : mx_Hp)  : (Int32 × Int32 → Option (Int32)) → Int32 × Int32 → Option (Int32) := fun self s =>
  (mx_gi h l0 0 3).bind fun x1 =>
  if x1 ≤ s.2 then
  some s.1
  else
  if 10 ≤ s.2 then
  some s.1
  else
  (mx_gr h l0 0 2).bind fun x4 =>
  (mx_al h x4 s.2).bind fun x5 =>
  (if (x5 &&& l1) = 0 then
  some s.1
  else
  some (s.1 ||| ((1 : Int32) <<< (s.2 &&& 31))) : Option (Int32)).bind fun v7 =>
  self (v7, (s.2 + 1))
def f_X0_aheadOf (a0 : Nat) (a1 : Int32) (h : mx_Hp) : Option (Int32) :=
  mx_fix (f_X0_aheadOf_L4 a0 a1 h) 2000 (0, 0)
def f_X0_firstOf_L2 (l0 : Nat) (l1 : Int32) (h : mx_Hp)  : (Int32 → Option (Int32)) → Int32 → Option (Int32) := fun self s =>
  (mx_gi h l0 0 3).bind fun x1 =>
  if x1 ≤ s then
  some (-4)
  else
  if ((l1 >>> (s &&& 31)) &&& 1) = 0 then
  self (s + 1)
  else
  some s
def f_X0_firstOf (a0 : Nat) (a1 : Int32) (h : mx_Hp) : Option (Int32) :=
  mx_fix (f_X0_firstOf_L2 a0 a1 h) 2000 0
def f_X7_clear (a0 : Nat) (h : mx_Hp) : Option (mx_Hp) :=
  (mx_pi h a0 7 1 0).bind fun h1 =>
  some h1
def f_X7_at (a0 : Nat) (a1 : Int32) (h : mx_Hp) : Option (Int32) :=
  (if a1 < 0 then
  some (-4)
  else
  (mx_gi h a0 7 1).bind fun x2 =>
  if x2 ≤ a1 then
  some (-4)
  else
  (mx_gr h a0 7 0).bind fun x4 =>
  (mx_ln h x4).bind fun x5 =>
  if x5 ≤ a1 then
  some (-4)
  else
  (mx_gr h a0 7 0).bind fun x7 =>
  (mx_al h x7 a1).bind fun x8 =>
  some x8 : Option (Int32)).bind fun v9 =>
  some v9
def f_X7_add (a0 : Nat) (a1 : Int32) (h : mx_Hp) : Option (mx_Hp) :=
  (mx_gi h a0 7 1).bind fun x1 =>
  (if x1 < 0 then
  some h
  else
  (mx_gi h a0 7 1).bind fun x3 =>
  (mx_gr h a0 7 0).bind fun x4 =>
  (mx_ln h x4).bind fun x5 =>
  if x5 ≤ x3 then
  some h
  else
  (mx_gr h a0 7 0).bind fun x7 =>
  (mx_gi h a0 7 1).bind fun x8 =>
  (mx_as h x7 x8 a1).bind fun h9 =>
  (mx_gi h9 a0 7 1).bind fun x10 =>
  (mx_pi h9 a0 7 1 (x10 + 1)).bind fun h11 =>
  some h11 : Option (mx_Hp)).bind fun v12 =>
  some v12
def f_X7_copyFrom_L6 (l0 : Nat) (l1 : Nat)  : (Int32 × mx_Hp → Option (mx_Hp)) → Int32 × mx_Hp → Option (mx_Hp) := fun self s =>
  (mx_gi s.2 l1 7 1).bind fun x3 =>
  if x3 ≤ s.1 then
  some s.2
  else
  if l1 < s.2.1 ∧ (mx_lay l1).1 = 10 then
  ((f_X7_at l1 s.1 s.2).bind fun x5 =>
  if l0 < s.2.1 ∧ (mx_lay l0).1 = 10 then
  ((f_X7_add l0 x5 s.2).bind fun x7 =>
  self ((s.1 + 1), x7))
  else none)
  else none
def f_X7_copyFrom (a0 : Nat) (a1 : Nat) (h : mx_Hp) : Option (mx_Hp) :=
  if a0 < h.1 ∧ (mx_lay a0).1 = 10 then
  ((f_X7_clear a0 h).bind fun x1 =>
  mx_fix (f_X7_copyFrom_L6 a0 a1) 2000 (0, x1))
  else none
def f_X4_copyFrom (a0 : Nat) (a1 : Nat) (h : mx_Hp) : Option (mx_Hp) :=
  (mx_gi h a1 4 0).bind fun x1 =>
  (mx_pi h a0 4 0 x1).bind fun h2 =>
  (mx_gi h2 a1 4 1).bind fun x3 =>
  (mx_pi h2 a0 4 1 x3).bind fun h4 =>
  (mx_gi h4 a1 4 2).bind fun x5 =>
  (mx_pi h4 a0 4 2 x5).bind fun h6 =>
  some h6
def f_X9_copyFrom (a0 : Nat) (a1 : Nat) (h : mx_Hp) : Option (mx_Hp) :=
  (mx_gr h a0 9 0).bind fun x1 =>
  (mx_gr h a1 9 0).bind fun x2 =>
  if x1 < h.1 ∧ (mx_lay x1).1 = 10 then
  ((f_X7_copyFrom x1 x2 h).bind fun x3 =>
  (mx_gr x3 a0 9 1).bind fun x5 =>
  (mx_gr x3 a1 9 1).bind fun x6 =>
  if x5 < x3.1 ∧ (mx_lay x5).1 = 7 then
  ((f_X4_copyFrom x5 x6 x3).bind fun x7 =>
  (mx_gr x7 a0 9 2).bind fun x9 =>
  (mx_gr x7 a1 9 2).bind fun x10 =>
  if x9 < x7.1 ∧ (mx_lay x9).1 = 7 then
  ((f_X4_copyFrom x9 x10 x7).bind fun x11 =>
  (mx_gi x11 a1 9 3).bind fun x13 =>
  (mx_pi x11 a0 9 3 x13).bind fun h14 =>
  (mx_gi h14 a1 9 4).bind fun x15 =>
  (mx_pi h14 a0 9 4 x15).bind fun h16 =>
  (mx_gi h16 a1 9 5).bind fun x17 =>
  (mx_pi h16 a0 9 5 x17).bind fun h18 =>
  some h18)
  else none)
  else none)
  else none
def f_X1_drawOf (a0 : Int32) (a1 : Int32) (h : mx_Hp) : Option (Int32) :=
  if ((65521 : Int32).toInt64 : Int64) = 0 then none else
  if ((2 : Int32).toInt64 : Int64) = 0 then none else
  some (((((((((7919 : Int32).toInt64 * (a0).toInt64) + ((6151 : Int32).toInt64 * (a1).toInt64)) + (1 : Int32).toInt64) * ((((7919 : Int32).toInt64 * (a0).toInt64) + ((6151 : Int32).toInt64 * (a1).toInt64)) + (1 : Int32).toInt64)) - (((((7919 : Int32).toInt64 * (a0).toInt64) + ((6151 : Int32).toInt64 * (a1).toInt64)) + (1 : Int32).toInt64) * ((((7919 : Int32).toInt64 * (a0).toInt64) + ((6151 : Int32).toInt64 * (a1).toInt64)) + (1 : Int32).toInt64)) / (65521 : Int32).toInt64 * (65521 : Int32).toInt64) / (2 : Int32).toInt64)).toInt32)
def f_X9_lastWord (a0 : Nat) (h : mx_Hp) : Option (Int32) :=
  (mx_gr h a0 9 0).bind fun x1 =>
  (mx_gr h a0 9 0).bind fun x2 =>
  (mx_gi h x2 7 1).bind fun x3 =>
  if x1 < h.1 ∧ (mx_lay x1).1 = 10 then
  ((f_X7_at x1 (x3 - 1) h).bind fun x4 =>
  some x4)
  else none
def f_X9_mayorOf (a0 : Nat) (a1 : Int32) (h : mx_Hp) : Option (Nat) :=
  (if ¬ a1 = 0 then
  (mx_gr h a0 9 2).bind fun x2 =>
  some x2
  else
  (mx_gr h a0 9 1).bind fun x3 =>
  some x3 : Option (Nat)).bind fun v4 =>
  some v4
def f_X9_otherMayor (a0 : Nat) (h : mx_Hp) : Option (Nat) :=
  (mx_gi h a0 9 3).bind fun x1 =>
  if a0 < h.1 ∧ (mx_lay a0).1 = 12 then
  ((f_X9_mayorOf a0 (1 - x1) h).bind fun x2 =>
  some x2)
  else none
def f_X9_sayableByOther (a0 : Nat) (a1 : Nat) (h : mx_Hp) : Option (Int32) :=
  (mx_gr h a0 9 0).bind fun x1 =>
  if x1 < h.1 ∧ (mx_lay x1).1 = 10 then
  ((f_X7_at x1 0 h).bind fun x2 =>
  if a1 < h.1 ∧ (mx_lay a1).1 = 3 then
  ((f_X0_kindOf a1 x2 h).bind fun x4 =>
  (if ¬ x4 = 3 then
  if a0 < h.1 ∧ (mx_lay a0).1 = 12 then
  ((f_X9_otherMayor a0 h).bind fun x7 =>
  (mx_gi h x7 4 2).bind fun x9 =>
  some x9)
  else none
  else
  if a1 < h.1 ∧ (mx_lay a1).1 = 3 then
  ((f_X0_allWords a1 h).bind fun x10 =>
  some x10)
  else none : Option (Int32)).bind fun v12 =>
  some v12)
  else none)
  else none
def f_X2_fillStarts_L10 (l0 : Nat) (l1 : Nat) (l2 : Int32)  : (Int32 × Int32 × mx_Hp → Option (mx_Hp)) → Int32 × Int32 × mx_Hp → Option (mx_Hp) := fun self s =>
  (mx_gr s.2.2 l0 2 1).bind fun x2 =>
  (mx_ln s.2.2 x2).bind fun x3 =>
  if x3 ≤ s.2.1 then
  some s.2.2
  else
  (mx_gr s.2.2 l0 2 1).bind fun x5 =>
  (mx_gi s.2.2 l1 0 9).bind fun x6 =>
  (if x6 ≤ s.2.1 then
  some 0
  else
  some s.1 : Option (Int32)).bind fun v8 =>
  (mx_as s.2.2 x5 s.2.1 v8).bind fun h9 =>
  if l1 < h9.1 ∧ (mx_lay l1).1 = 3 then
  ((f_X0_aheadOf l1 s.1 h9).bind fun x10 =>
  self ((x10 &&& l2), (s.2.1 + 1), h9))
  else none
def f_X2_fillStarts (a0 : Nat) (a1 : Nat) (a2 : Int32) (h : mx_Hp) : Option (mx_Hp) :=
  (mx_gi h a1 0 5).bind fun x1 =>
  mx_fix (f_X2_fillStarts_L10 a0 a1 a2) 2000 ((x1 &&& a2), 0, h)
def f_X2_fewestMore_L2 (l0 : Nat) (l1 : Int32) (h : mx_Hp)  : (Int32 → Option (Int32)) → Int32 → Option (Int32) := fun self s =>
  (mx_gr h l0 2 1).bind fun x1 =>
  (mx_ln h x1).bind fun x2 =>
  if x2 ≤ s then
  some (-1)
  else
  (mx_gr h l0 2 1).bind fun x4 =>
  (mx_al h x4 s).bind fun x5 =>
  if (l1 &&& x5) = 0 then
  self (s + 1)
  else
  some s
def f_X2_fewestMore (a0 : Nat) (a1 : Int32) (h : mx_Hp) : Option (Int32) :=
  mx_fix (f_X2_fewestMore_L2 a0 a1 h) 2000 0
def f_X2_find_L45 (l0 : Nat) (l1 : Nat)  : (Int32 × Int32 × mx_Hp → Option (mx_Hp)) → Int32 × Int32 × mx_Hp → Option (mx_Hp) := fun self s =>
  if s.2.1 < 0 then
  some s.2.2
  else
  (mx_gr s.2.2 l0 2 1).bind fun x17 =>
  (mx_ln s.2.2 x17).bind fun x18 =>
  if x18 ≤ s.2.1 then
  some s.2.2
  else
  if l1 < s.2.2.1 ∧ (mx_lay l1).1 = 3 then
  ((f_X0_behindOf l1 s.1 s.2.2).bind fun x20 =>
  (mx_gr s.2.2 l0 2 1).bind fun x22 =>
  (mx_al s.2.2 x22 s.2.1).bind fun x23 =>
  if l1 < s.2.2.1 ∧ (mx_lay l1).1 = 3 then
  ((f_X0_firstOf l1 (x20 &&& x23) s.2.2).bind fun x24 =>
  (mx_gr s.2.2 l0 2 0).bind fun x26 =>
  if x26 < s.2.2.1 ∧ (mx_lay x26).1 = 10 then
  ((f_X7_add x26 x24 s.2.2).bind fun x27 =>
  self (x24, (s.2.1 + (-1)), x27))
  else none)
  else none)
  else none
def f_X2_find (a0 : Nat) (a1 : Nat) (a2 : Int32) (a3 : Int32) (h : mx_Hp) : Option (mx_Hp) :=
  (mx_gr h a0 2 0).bind fun x1 =>
  if x1 < h.1 ∧ (mx_lay x1).1 = 10 then
  ((f_X7_clear x1 h).bind fun x2 =>
  if a1 < x2.1 ∧ (mx_lay a1).1 = 3 then
  ((f_X0_has a1 a2 x2).bind fun x4 =>
  if x4 = 0 then
  some x2
  else
  if a1 < x2.1 ∧ (mx_lay a1).1 = 3 then
  ((f_X0_kindOf a1 a2 x2).bind fun x7 =>
  if ¬ x7 = 1 then
  if a0 < x2.1 ∧ (mx_lay a0).1 = 5 then
  ((f_X2_fillStarts a0 a1 a3 x2).bind fun x10 =>
  if a1 < x10.1 ∧ (mx_lay a1).1 = 3 then
  ((f_X0_behindOf a1 a2 x10).bind fun x12 =>
  if a0 < x10.1 ∧ (mx_lay a0).1 = 5 then
  ((f_X2_fewestMore a0 x12 x10).bind fun x14 =>
  mx_fix (f_X2_find_L45 a0 a1) 2000 (a2, x14, x10))
  else none)
  else none)
  else none
  else
  some x2)
  else none)
  else none)
  else none
def f_X7_worthIn_L4 (l0 : Nat) (l1 : Nat) (h : mx_Hp)  : (Int32 × Int32 → Option (Int32)) → Int32 × Int32 → Option (Int32) := fun self s =>
  (mx_gi h l0 7 1).bind fun x1 =>
  if x1 ≤ s.2 then
  some s.1
  else
  (mx_gr h l0 7 0).bind fun x3 =>
  (mx_ln h x3).bind fun x4 =>
  if x4 ≤ s.2 then
  some s.1
  else
  (mx_gr h l0 7 0).bind fun x6 =>
  (mx_al h x6 s.2).bind fun x7 =>
  if l1 < h.1 ∧ (mx_lay l1).1 = 3 then
  ((f_X0_worthOf l1 x7 h).bind fun x8 =>
  self ((s.1 + x8), (s.2 + 1)))
  else none
def f_X7_worthIn (a0 : Nat) (a1 : Nat) (h : mx_Hp) : Option (Int32) :=
  mx_fix (f_X7_worthIn_L4 a0 a1 h) 2000 (0, 0)
def f_X9_gain (a0 : Nat) (a1 : Nat) (a2 : Int32) (h : mx_Hp) : Option (Int32 × mx_Hp) :=
  (mx_gi h a1 4 0).bind fun x1 =>
  (mx_pi h a1 4 0 (x1 + 1)).bind fun h2 =>
  (mx_gi h2 a1 4 1).bind fun x3 =>
  (mx_pi h2 a1 4 1 (x3 + a2)).bind fun h4 =>
  (mx_gr h4 a0 9 0).bind fun x5 =>
  if x5 < h4.1 ∧ (mx_lay x5).1 = 10 then
  ((f_X7_clear x5 h4).bind fun x6 =>
  some (a2, x6))
  else none
def f_X9_passOver (a0 : Nat) (a1 : Nat) (a2 : Nat) (h : mx_Hp) : Option (Int32 × mx_Hp) :=
  (mx_gr h a0 9 0).bind fun x1 =>
  if x1 < h.1 ∧ (mx_lay x1).1 = 10 then
  ((f_X7_worthIn x1 a1 h).bind fun x2 =>
  if a2 < h.1 ∧ (mx_lay a2).1 = 10 then
  ((f_X7_worthIn a2 a1 h).bind fun x4 =>
  (mx_gi h a0 9 4).bind fun x6 =>
  (mx_gi h a2 7 1).bind fun x7 =>
  (mx_pi h a0 9 4 (x6 + x7)).bind fun h8 =>
  (mx_gi h8 a0 9 3).bind fun x9 =>
  (mx_pi h8 a0 9 3 (1 - x9)).bind fun h10 =>
  (mx_gi h10 a0 9 5).bind fun x11 =>
  (mx_pi h10 a0 9 5 (x11 + 1)).bind fun h12 =>
  (mx_gi h12 a0 9 3).bind fun x13 =>
  if a0 < h12.1 ∧ (mx_lay a0).1 = 12 then
  ((f_X9_mayorOf a0 x13 h12).bind fun x14 =>
  if a0 < h12.1 ∧ (mx_lay a0).1 = 12 then
  ((f_X9_gain a0 x14 (x2 + x4) h12).bind fun x16 =>
  some (x16.1, x16.2))
  else none)
  else none)
  else none)
  else none
def f_X1_finishes (a0 : Nat) (a1 : Nat) (h : mx_Hp) : Option (Int32 × mx_Hp) :=
  (mx_gr h a0 1 1).bind fun x1 =>
  (mx_gr h a0 1 0).bind fun x2 =>
  if x2 < h.1 ∧ (mx_lay x2).1 = 12 then
  ((f_X9_lastWord x2 h).bind fun x3 =>
  (mx_gr h a0 1 0).bind fun x5 =>
  if x5 < h.1 ∧ (mx_lay x5).1 = 12 then
  ((f_X9_sayableByOther x5 a1 h).bind fun x6 =>
  if x1 < h.1 ∧ (mx_lay x1).1 = 5 then
  ((f_X2_find x1 a1 x3 x6 h).bind fun x8 =>
  (mx_gr x8 a0 1 1).bind fun x10 =>
  (mx_gr x8 x10 2 0).bind fun x11 =>
  (mx_gi x8 x11 7 1).bind fun x12 =>
  if ¬ x12 = 0 then
  (mx_gr x8 a0 1 0).bind fun x14 =>
  (mx_gr x8 a0 1 1).bind fun x15 =>
  (mx_gr x8 x15 2 0).bind fun x16 =>
  if x14 < x8.1 ∧ (mx_lay x14).1 = 12 then
  ((f_X9_passOver x14 a1 x16 x8).bind fun x17 =>
  some (1, x17.2))
  else none
  else
  some (0, x8))
  else none)
  else none)
  else none
def f_X9_isEndable (a0 : Nat) (a1 : Nat) (h : mx_Hp) : Option (Int32) :=
  if a0 < h.1 ∧ (mx_lay a0).1 = 12 then
  ((f_X9_lastWord a0 h).bind fun x1 =>
  if a1 < h.1 ∧ (mx_lay a1).1 = 3 then
  ((f_X0_kindOf a1 x1 h).bind fun x3 =>
  (if ¬ x3 = 2 then
  some 0
  else
  some 1 : Option (Int32)).bind fun v6 =>
  if v6 = 0 ∨ v6 = 1 then some v6 else none)
  else none)
  else none
def f_X9_decree (a0 : Nat) (a1 : Nat) (h : mx_Hp) : Option (Int32 × mx_Hp) :=
  (mx_gi h a0 9 3).bind fun x1 =>
  if a0 < h.1 ∧ (mx_lay a0).1 = 12 then
  ((f_X9_mayorOf a0 x1 h).bind fun x2 =>
  (mx_gr h a0 9 0).bind fun x4 =>
  if x4 < h.1 ∧ (mx_lay x4).1 = 10 then
  ((f_X7_worthIn x4 a1 h).bind fun x5 =>
  if a0 < h.1 ∧ (mx_lay a0).1 = 12 then
  ((f_X9_gain a0 x2 x5 h).bind fun x7 =>
  some (x7.1, x7.2))
  else none)
  else none)
  else none
def f_X9_fits (a0 : Nat) (a1 : Nat) (a2 : Int32) (h : mx_Hp) : Option (Int32) :=
  (mx_gr h a0 9 0).bind fun x1 =>
  (mx_gi h x1 7 1).bind fun x2 =>
  (if x2 = 0 then
  some 1
  else
  if a0 < h.1 ∧ (mx_lay a0).1 = 12 then
  ((f_X9_lastWord a0 h).bind fun x4 =>
  if a1 < h.1 ∧ (mx_lay a1).1 = 3 then
  ((f_X0_behindOf a1 x4 h).bind fun x6 =>
  (f_X11_bit a2 h).bind fun x8 =>
  if (x6 &&& x8) = 0 then
  some 0
  else
  some 1)
  else none)
  else none : Option (Int32)).bind fun v10 =>
  if v10 = 0 ∨ v10 = 1 then some v10 else none
def f_X9_speak (a0 : Nat) (a1 : Int32) (h : mx_Hp) : Option (mx_Hp) :=
  (mx_gr h a0 9 0).bind fun x1 =>
  if x1 < h.1 ∧ (mx_lay x1).1 = 10 then
  ((f_X7_add x1 a1 h).bind fun x2 =>
  (mx_gi x2 a0 9 4).bind fun x4 =>
  (mx_pi x2 a0 9 4 (x4 + 1)).bind fun h5 =>
  some h5)
  else none
def f_X9_letFall (a0 : Nat) (h : mx_Hp) : Option (mx_Hp) :=
  (mx_gr h a0 9 0).bind fun x1 =>
  if x1 < h.1 ∧ (mx_lay x1).1 = 10 then
  ((f_X7_clear x1 h).bind fun x2 =>
  (mx_gi x2 a0 9 4).bind fun x4 =>
  (mx_pi x2 a0 9 4 (x4 + 1)).bind fun h5 =>
  some h5)
  else none
def f_X1_step (a0 : Nat) (a1 : Nat) (a2 : Int32) (h : mx_Hp) : Option (mx_Hp) :=
  if (64 : Int32) = 0 then none else
  if (3 : Int32) = 0 then none else
  if ¬ ((a2 / 64) - (a2 / 64) / 3 * 3) = 0 then
  if ¬ ((a2 / 64) - (a2 / 64) / 3 * 3) = 1 then
  (mx_gi h a1 0 3).bind fun x5 =>
  (if x5 ≤ 0 then
  some (-4)
  else
  (mx_gi h a1 0 3).bind fun x7 =>
  if (x7 : Int32) = 0 then none else
  some (a2 - a2 / x7 * x7) : Option (Int32)).bind fun v9 =>
  if a1 < h.1 ∧ (mx_lay a1).1 = 3 then
  ((f_X0_has a1 v9 h).bind fun x10 =>
  (if x10 = 0 then
  (mx_gr h a0 1 0).bind fun x13 =>
  (mx_gr h x13 9 0).bind fun x14 =>
  (mx_gi h x14 7 1).bind fun x15 =>
  if x15 ≤ 0 then
  some h
  else
  (mx_gr h a0 1 0).bind fun x17 =>
  if x17 < h.1 ∧ (mx_lay x17).1 = 12 then
  ((f_X9_letFall x17 h).bind fun x18 =>
  some x18)
  else none
  else
  (mx_gr h a0 1 0).bind fun x20 =>
  if x20 < h.1 ∧ (mx_lay x20).1 = 12 then
  ((f_X9_fits x20 a1 v9 h).bind fun x21 =>
  if x21 = 0 then
  (mx_gr h a0 1 0).bind fun x24 =>
  (mx_gr h x24 9 0).bind fun x25 =>
  (mx_gi h x25 7 1).bind fun x26 =>
  if x26 ≤ 0 then
  some h
  else
  (mx_gr h a0 1 0).bind fun x28 =>
  if x28 < h.1 ∧ (mx_lay x28).1 = 12 then
  ((f_X9_letFall x28 h).bind fun x29 =>
  some x29)
  else none
  else
  (mx_gr h a0 1 0).bind fun x31 =>
  (mx_gr h x31 9 0).bind fun x32 =>
  (mx_gi h x32 7 1).bind fun x33 =>
  if 12 ≤ x33 then
  (mx_gr h a0 1 0).bind fun x35 =>
  (mx_gr h x35 9 0).bind fun x36 =>
  (mx_gi h x36 7 1).bind fun x37 =>
  if x37 ≤ 0 then
  some h
  else
  (mx_gr h a0 1 0).bind fun x39 =>
  if x39 < h.1 ∧ (mx_lay x39).1 = 12 then
  ((f_X9_letFall x39 h).bind fun x40 =>
  some x40)
  else none
  else
  (mx_gr h a0 1 0).bind fun x42 =>
  if x42 < h.1 ∧ (mx_lay x42).1 = 12 then
  ((f_X9_speak x42 v9 h).bind fun x43 =>
  some x43)
  else none)
  else none : Option (mx_Hp)).bind fun v45 =>
  some v45)
  else none
  else
  (mx_gr h a0 1 0).bind fun x46 =>
  if x46 < h.1 ∧ (mx_lay x46).1 = 12 then
  ((f_X9_isEndable x46 a1 h).bind fun x47 =>
  if x47 = 0 then
  (mx_gi h a1 0 3).bind fun x50 =>
  (if x50 ≤ 0 then
  some (-4)
  else
  (mx_gi h a1 0 3).bind fun x52 =>
  if (x52 : Int32) = 0 then none else
  some (a2 - a2 / x52 * x52) : Option (Int32)).bind fun v54 =>
  if a1 < h.1 ∧ (mx_lay a1).1 = 3 then
  ((f_X0_has a1 v54 h).bind fun x55 =>
  (if x55 = 0 then
  (mx_gr h a0 1 0).bind fun x58 =>
  (mx_gr h x58 9 0).bind fun x59 =>
  (mx_gi h x59 7 1).bind fun x60 =>
  if x60 ≤ 0 then
  some h
  else
  (mx_gr h a0 1 0).bind fun x62 =>
  if x62 < h.1 ∧ (mx_lay x62).1 = 12 then
  ((f_X9_letFall x62 h).bind fun x63 =>
  some x63)
  else none
  else
  (mx_gr h a0 1 0).bind fun x65 =>
  if x65 < h.1 ∧ (mx_lay x65).1 = 12 then
  ((f_X9_fits x65 a1 v54 h).bind fun x66 =>
  if x66 = 0 then
  (mx_gr h a0 1 0).bind fun x69 =>
  (mx_gr h x69 9 0).bind fun x70 =>
  (mx_gi h x70 7 1).bind fun x71 =>
  if x71 ≤ 0 then
  some h
  else
  (mx_gr h a0 1 0).bind fun x73 =>
  if x73 < h.1 ∧ (mx_lay x73).1 = 12 then
  ((f_X9_letFall x73 h).bind fun x74 =>
  some x74)
  else none
  else
  (mx_gr h a0 1 0).bind fun x76 =>
  (mx_gr h x76 9 0).bind fun x77 =>
  (mx_gi h x77 7 1).bind fun x78 =>
  if 12 ≤ x78 then
  (mx_gr h a0 1 0).bind fun x80 =>
  (mx_gr h x80 9 0).bind fun x81 =>
  (mx_gi h x81 7 1).bind fun x82 =>
  if x82 ≤ 0 then
  some h
  else
  (mx_gr h a0 1 0).bind fun x84 =>
  if x84 < h.1 ∧ (mx_lay x84).1 = 12 then
  ((f_X9_letFall x84 h).bind fun x85 =>
  some x85)
  else none
  else
  (mx_gr h a0 1 0).bind fun x87 =>
  if x87 < h.1 ∧ (mx_lay x87).1 = 12 then
  ((f_X9_speak x87 v54 h).bind fun x88 =>
  some x88)
  else none)
  else none : Option (mx_Hp)).bind fun v90 =>
  some v90)
  else none
  else
  (mx_gr h a0 1 0).bind fun x91 =>
  if x91 < h.1 ∧ (mx_lay x91).1 = 12 then
  ((f_X9_decree x91 a1 h).bind fun x92 =>
  some x92.2)
  else none)
  else none
  else
  if a0 < h.1 ∧ (mx_lay a0).1 = 4 then
  ((f_X1_finishes a0 a1 h).bind fun x94 =>
  if x94.1 = 0 then
  if ¬ ((a2 / 64) - (a2 / 64) / 3 * 3) = 1 then
  (mx_gi x94.2 a1 0 3).bind fun x98 =>
  (if x98 ≤ 0 then
  some (-4)
  else
  (mx_gi x94.2 a1 0 3).bind fun x100 =>
  if (x100 : Int32) = 0 then none else
  some (a2 - a2 / x100 * x100) : Option (Int32)).bind fun v102 =>
  if a1 < x94.2.1 ∧ (mx_lay a1).1 = 3 then
  ((f_X0_has a1 v102 x94.2).bind fun x103 =>
  (if x103 = 0 then
  (mx_gr x94.2 a0 1 0).bind fun x106 =>
  (mx_gr x94.2 x106 9 0).bind fun x107 =>
  (mx_gi x94.2 x107 7 1).bind fun x108 =>
  if x108 ≤ 0 then
  some x94.2
  else
  (mx_gr x94.2 a0 1 0).bind fun x110 =>
  if x110 < x94.2.1 ∧ (mx_lay x110).1 = 12 then
  ((f_X9_letFall x110 x94.2).bind fun x111 =>
  some x111)
  else none
  else
  (mx_gr x94.2 a0 1 0).bind fun x113 =>
  if x113 < x94.2.1 ∧ (mx_lay x113).1 = 12 then
  ((f_X9_fits x113 a1 v102 x94.2).bind fun x114 =>
  if x114 = 0 then
  (mx_gr x94.2 a0 1 0).bind fun x117 =>
  (mx_gr x94.2 x117 9 0).bind fun x118 =>
  (mx_gi x94.2 x118 7 1).bind fun x119 =>
  if x119 ≤ 0 then
  some x94.2
  else
  (mx_gr x94.2 a0 1 0).bind fun x121 =>
  if x121 < x94.2.1 ∧ (mx_lay x121).1 = 12 then
  ((f_X9_letFall x121 x94.2).bind fun x122 =>
  some x122)
  else none
  else
  (mx_gr x94.2 a0 1 0).bind fun x124 =>
  (mx_gr x94.2 x124 9 0).bind fun x125 =>
  (mx_gi x94.2 x125 7 1).bind fun x126 =>
  if 12 ≤ x126 then
  (mx_gr x94.2 a0 1 0).bind fun x128 =>
  (mx_gr x94.2 x128 9 0).bind fun x129 =>
  (mx_gi x94.2 x129 7 1).bind fun x130 =>
  if x130 ≤ 0 then
  some x94.2
  else
  (mx_gr x94.2 a0 1 0).bind fun x132 =>
  if x132 < x94.2.1 ∧ (mx_lay x132).1 = 12 then
  ((f_X9_letFall x132 x94.2).bind fun x133 =>
  some x133)
  else none
  else
  (mx_gr x94.2 a0 1 0).bind fun x135 =>
  if x135 < x94.2.1 ∧ (mx_lay x135).1 = 12 then
  ((f_X9_speak x135 v102 x94.2).bind fun x136 =>
  some x136)
  else none)
  else none : Option (mx_Hp)).bind fun v138 =>
  some v138)
  else none
  else
  (mx_gr x94.2 a0 1 0).bind fun x139 =>
  if x139 < x94.2.1 ∧ (mx_lay x139).1 = 12 then
  ((f_X9_isEndable x139 a1 x94.2).bind fun x140 =>
  if x140 = 0 then
  (mx_gi x94.2 a1 0 3).bind fun x143 =>
  (if x143 ≤ 0 then
  some (-4)
  else
  (mx_gi x94.2 a1 0 3).bind fun x145 =>
  if (x145 : Int32) = 0 then none else
  some (a2 - a2 / x145 * x145) : Option (Int32)).bind fun v147 =>
  if a1 < x94.2.1 ∧ (mx_lay a1).1 = 3 then
  ((f_X0_has a1 v147 x94.2).bind fun x148 =>
  (if x148 = 0 then
  (mx_gr x94.2 a0 1 0).bind fun x151 =>
  (mx_gr x94.2 x151 9 0).bind fun x152 =>
  (mx_gi x94.2 x152 7 1).bind fun x153 =>
  if x153 ≤ 0 then
  some x94.2
  else
  (mx_gr x94.2 a0 1 0).bind fun x155 =>
  if x155 < x94.2.1 ∧ (mx_lay x155).1 = 12 then
  ((f_X9_letFall x155 x94.2).bind fun x156 =>
  some x156)
  else none
  else
  (mx_gr x94.2 a0 1 0).bind fun x158 =>
  if x158 < x94.2.1 ∧ (mx_lay x158).1 = 12 then
  ((f_X9_fits x158 a1 v147 x94.2).bind fun x159 =>
  if x159 = 0 then
  (mx_gr x94.2 a0 1 0).bind fun x162 =>
  (mx_gr x94.2 x162 9 0).bind fun x163 =>
  (mx_gi x94.2 x163 7 1).bind fun x164 =>
  if x164 ≤ 0 then
  some x94.2
  else
  (mx_gr x94.2 a0 1 0).bind fun x166 =>
  if x166 < x94.2.1 ∧ (mx_lay x166).1 = 12 then
  ((f_X9_letFall x166 x94.2).bind fun x167 =>
  some x167)
  else none
  else
  (mx_gr x94.2 a0 1 0).bind fun x169 =>
  (mx_gr x94.2 x169 9 0).bind fun x170 =>
  (mx_gi x94.2 x170 7 1).bind fun x171 =>
  if 12 ≤ x171 then
  (mx_gr x94.2 a0 1 0).bind fun x173 =>
  (mx_gr x94.2 x173 9 0).bind fun x174 =>
  (mx_gi x94.2 x174 7 1).bind fun x175 =>
  if x175 ≤ 0 then
  some x94.2
  else
  (mx_gr x94.2 a0 1 0).bind fun x177 =>
  if x177 < x94.2.1 ∧ (mx_lay x177).1 = 12 then
  ((f_X9_letFall x177 x94.2).bind fun x178 =>
  some x178)
  else none
  else
  (mx_gr x94.2 a0 1 0).bind fun x180 =>
  if x180 < x94.2.1 ∧ (mx_lay x180).1 = 12 then
  ((f_X9_speak x180 v147 x94.2).bind fun x181 =>
  some x181)
  else none)
  else none : Option (mx_Hp)).bind fun v183 =>
  some v183)
  else none
  else
  (mx_gr x94.2 a0 1 0).bind fun x184 =>
  if x184 < x94.2.1 ∧ (mx_lay x184).1 = 12 then
  ((f_X9_decree x184 a1 x94.2).bind fun x185 =>
  some x185.2)
  else none)
  else none
  else
  some x94.2)
  else none
def f_X1_outcome_L11 (l0 : Nat) (l1 : Nat) (l3 : Int32) (l4 : Int32)  : (Int32 × mx_Hp → Option (Nat × mx_Hp)) → Int32 × mx_Hp → Option (Nat × mx_Hp) := fun self s =>
  if l4 ≤ s.1 then
  (mx_gr s.2 l0 1 0).bind fun x5 =>
  some (x5, s.2)
  else
  (f_X1_drawOf l3 s.1 s.2).bind fun x6 =>
  if l0 < s.2.1 ∧ (mx_lay l0).1 = 4 then
  ((f_X1_step l0 l1 x6 s.2).bind fun x7 =>
  self ((s.1 + 1), x7))
  else none
def f_X1_outcome (a0 : Nat) (a1 : Nat) (a2 : Nat) (a3 : Int32) (a4 : Int32) (h : mx_Hp) : Option (Nat × mx_Hp) :=
  (mx_gr h a0 1 0).bind fun x1 =>
  if x1 < h.1 ∧ (mx_lay x1).1 = 12 then
  ((f_X9_copyFrom x1 a2 h).bind fun x2 =>
  mx_fix (f_X1_outcome_L11 a0 a1 a3 a4) 2000 (0, x2))
  else none
def f_X2_couldBehind_L13 (l1 : Nat) (l2 : Int32) (h : mx_Hp) (k51 : Int32 × Int32 × Int32 → Option (Int32)) : (Int32 × Int32 × Int32 → Option (Int32)) → Int32 × Int32 × Int32 → Option (Int32) := fun self s =>
  (mx_gi h l1 0 9).bind fun x2 =>
  if x2 ≤ s.2.2 then
  k51 (s.1, s.2.1, s.2.2)
  else
  if s.1 = 0 then
  k51 (s.1, s.2.1, s.2.2)
  else
  if l1 < h.1 ∧ (mx_lay l1).1 = 3 then
  ((f_X0_aheadOf l1 s.1 h).bind fun x5 =>
  self ((x5 &&& l2), (s.2.1 ||| x5), (s.2.2 + 1)))
  else none
def f_X2_couldBehind (a0 : Nat) (a1 : Nat) (a2 : Int32) (h : mx_Hp) : Option (Int32) :=
  (mx_gi h a1 0 5).bind fun x1 =>
  mx_fix (f_X2_couldBehind_L13 a1 a2 h (fun s12 => (mx_gi h a1 0 4).bind fun x13 =>
  some (s12.2.1 &&& (x13 ^^^ (-1))))) 2000 ((x1 &&& a2), 0, 0)
def f_X3_clear (a0 : Nat) (h : mx_Hp) : Option (mx_Hp) :=
  (mx_pi h a0 3 2 0).bind fun h1 =>
  (mx_pi h1 a0 3 3 0).bind fun h2 =>
  (mx_pi h2 a0 3 4 0).bind fun h3 =>
  some h3
def f_X3_startAnew (a0 : Nat) (h : mx_Hp) : Option (mx_Hp) :=
  (mx_pi h a0 3 1 0).bind fun h1 =>
  if a0 < h1.1 ∧ (mx_lay a0).1 = 6 then
  ((f_X3_clear a0 h1).bind fun x2 =>
  some x2)
  else none
def f_X3_note (a0 : Nat) (a1 : Int32) (a2 : Int32) (h : mx_Hp) : Option (Int32 × mx_Hp) :=
  (mx_gi h a0 3 2).bind fun x1 =>
  if x1 < 8 then
  (mx_gi h a0 3 3).bind fun x3 =>
  (if a2 = 0 then
  some 0
  else
  (f_X11_bit a1 h).bind fun x5 =>
  some x5 : Option (Int32)).bind fun v6 =>
  (mx_pi h a0 3 3 (x3 ||| v6)).bind fun h7 =>
  (mx_gi h7 a0 3 4).bind fun x8 =>
  (if a2 = 0 then
  (f_X11_bit a1 h7).bind fun x10 =>
  some x10
  else
  some 0 : Option (Int32)).bind fun v11 =>
  (mx_pi h7 a0 3 4 (x8 ||| v11)).bind fun h12 =>
  (mx_gi h12 a0 3 2).bind fun x13 =>
  (mx_pi h12 a0 3 2 (x13 + 1)).bind fun h14 =>
  some (1, h14)
  else
  some (0, h)
def f_X3_tableOnce_L10 (l0 : Nat) (l1 : Nat) (l2 : Nat)  : (Int32 × mx_Hp → Option (mx_Hp)) → Int32 × mx_Hp → Option (mx_Hp) := fun self s =>
  if l1 < s.2.1 ∧ (mx_lay l1).1 = 3 then
  ((f_X0_allWords l1 s.2).bind fun x3 =>
  if x3 < s.1 then
  (mx_pi s.2 l0 3 1 1).bind fun h6 =>
  some h6
  else
  if 1024 ≤ s.1 then
  (mx_pi s.2 l0 3 1 1).bind fun h8 =>
  some h8
  else
  (mx_gr s.2 l0 3 0).bind fun x9 =>
  if l2 < s.2.1 ∧ (mx_lay l2).1 = 5 then
  ((f_X2_couldBehind l2 l1 s.1 s.2).bind fun x10 =>
  (mx_as s.2 x9 s.1 x10).bind fun h12 =>
  self ((s.1 + 1), h12))
  else none)
  else none
def f_X3_tableOnce (a0 : Nat) (a1 : Nat) (a2 : Nat) (h : mx_Hp) : Option (mx_Hp) :=
  (mx_gi h a0 3 1).bind fun x1 =>
  if x1 = 0 then
  mx_fix (f_X3_tableOnce_L10 a0 a1 a2) 2000 (0, h)
  else
  some h
def f_X3_weigh_L26 (l0 : Nat) (l1 : Nat)  : (Int32 × mx_Hp → Option (mx_Hp)) → Int32 × mx_Hp → Option (mx_Hp) := fun self s =>
  if l1 < s.2.1 ∧ (mx_lay l1).1 = 3 then
  ((f_X0_allWords l1 s.2).bind fun x8 =>
  if x8 < s.1 then
  some s.2
  else
  if 1024 ≤ s.1 then
  some s.2
  else
  (mx_gr s.2 l0 3 0).bind fun x12 =>
  (mx_al s.2 x12 s.1).bind fun x13 =>
  (mx_gi s.2 l0 3 3).bind fun x14 =>
  (mx_gi s.2 l0 3 4).bind fun x15 =>
  (mx_gi s.2 l0 3 3).bind fun x16 =>
  (if ¬ (x13 &&& (x14 ||| x15)) = x16 then
  some s.2
  else
  (mx_gi s.2 l0 3 3).bind fun x18 =>
  (mx_gi s.2 l0 3 4).bind fun x19 =>
  if ¬ (x18 &&& x19) = 0 then
  some s.2
  else
  (mx_gi s.2 l0 3 5).bind fun x21 =>
  (mx_pi s.2 l0 3 5 (x21 + 1)).bind fun h22 =>
  (mx_gi h22 l0 3 6).bind fun x23 =>
  (mx_pi h22 l0 3 6 (x23 &&& s.1)).bind fun h24 =>
  (mx_gi h24 l0 3 7).bind fun x25 =>
  (mx_pi h24 l0 3 7 (x25 ||| s.1)).bind fun h26 =>
  some h26 : Option (mx_Hp)).bind fun v27 =>
  self ((s.1 + 1), v27))
  else none
def f_X3_weigh (a0 : Nat) (a1 : Nat) (a2 : Nat) (h : mx_Hp) : Option (mx_Hp) :=
  if a0 < h.1 ∧ (mx_lay a0).1 = 6 then
  ((f_X3_tableOnce a0 a1 a2 h).bind fun x1 =>
  (mx_pi x1 a0 3 5 0).bind fun h3 =>
  if a1 < h3.1 ∧ (mx_lay a1).1 = 3 then
  ((f_X0_allWords a1 h3).bind fun x4 =>
  (mx_pi h3 a0 3 6 x4).bind fun h6 =>
  (mx_pi h6 a0 3 7 0).bind fun h7 =>
  mx_fix (f_X3_weigh_L26 a0 a1) 2000 (0, h7))
  else none)
  else none
def f_X4_startWith (a0 : Nat) (a1 : Int32) (h : mx_Hp) : Option (mx_Hp) :=
  (mx_pi h a0 4 0 0).bind fun h1 =>
  (mx_pi h1 a0 4 1 0).bind fun h2 =>
  (mx_pi h2 a0 4 2 a1).bind fun h3 =>
  some h3
def f_X5_prepare (a0 : Nat) (a1 : Nat) (a2 : Nat) (a3 : Int32) (a4 : Int32) (h : mx_Hp) : Option (mx_Hp) :=
  (mx_pi h a0 5 0 a3).bind fun h1 =>
  (mx_pi h1 a0 5 1 a4).bind fun h2 =>
  if a2 < h2.1 ∧ (mx_lay a2).1 = 5 then
  ((f_X2_couldBehind a2 a1 a4 h2).bind fun x3 =>
  (mx_pi h2 a0 5 2 x3).bind fun h5 =>
  some h5)
  else none
def f_X5_leadingWith (a0 : Nat) (a1 : Int32) (a2 : Int32) (h : mx_Hp) : Option (Int32) :=
  if a1 < 0 then
  some 0
  else
  if a1 < 10 then
  (if a2 = 0 then
  (mx_gr h a0 5 3).bind fun x4 =>
  (mx_al h x4 a1).bind fun x5 =>
  some x5
  else
  (mx_gr h a0 5 4).bind fun x6 =>
  (mx_al h x6 a1).bind fun x7 =>
  some x7 : Option (Int32)).bind fun v8 =>
  some v8
  else
  some 0
def f_X5_firstsWith (a0 : Nat) (a1 : Int32) (h : mx_Hp) : Option (Int32) :=
  if a0 < h.1 ∧ (mx_lay a0).1 = 8 then
  ((f_X5_leadingWith a0 a1 0 h).bind fun x1 =>
  (mx_gi h a0 5 0).bind fun x3 =>
  some (x1 &&& x3))
  else none
def f_X5_tableAt (a0 : Nat) (a1 : Int32) (a2 : Int32) (h : mx_Hp) : Option (Int32) :=
  (if a1 < 0 then
  some (-1)
  else
  if 10 ≤ a1 then
  some (-1)
  else
  if a2 < 0 then
  some (-1)
  else
  if 10 ≤ a2 then
  some (-1)
  else
  (mx_gr h a0 5 5).bind fun x5 =>
  (mx_rl h x5 a1).bind fun x6 =>
  (mx_al h x6 a2).bind fun x7 =>
  some x7 : Option (Int32)).bind fun v8 =>
  some v8
def f_X5_seekSafe_L27 (l0 : Nat) (l1 : Nat) (l2 : Int32)  : (Int32 × mx_Hp → Option (mx_Hp)) → Int32 × mx_Hp → Option (mx_Hp) := fun self s =>
  if 10 ≤ s.1 then
  some s.2
  else
  (mx_gr s.2 l0 5 4).bind fun x9 =>
  (mx_gr s.2 l0 5 4).bind fun x10 =>
  (mx_al s.2 x10 (s.1 - 1)).bind fun x11 =>
  if l1 < s.2.1 ∧ (mx_lay l1).1 = 3 then
  ((f_X0_aheadOf l1 x11 s.2).bind fun x12 =>
  (mx_gi s.2 l0 5 2).bind fun x14 =>
  (mx_as s.2 x9 s.1 (x12 &&& (x14 ^^^ (-1)))).bind fun h15 =>
  (mx_gr h15 l0 5 3).bind fun x16 =>
  (mx_al h15 x16 (s.1 - 1)).bind fun x17 =>
  if l1 < h15.1 ∧ (mx_lay l1).1 = 3 then
  ((f_X0_aheadOf l1 x17 h15).bind fun x18 =>
  (mx_gi h15 l0 5 2).bind fun x20 =>
  (f_X11_bit l2 h15).bind fun x21 =>
  (mx_gr h15 l0 5 3).bind fun x22 =>
  (mx_gr h15 l0 5 4).bind fun x23 =>
  (mx_al h15 x23 s.1).bind fun x24 =>
  (f_X11_bit l2 h15).bind fun x25 =>
  (mx_as h15 x22 s.1 ((x24 &&& x25) ||| ((x18 &&& (x20 ^^^ (-1))) &&& (x21 ^^^ (-1))))).bind fun h26 =>
  self ((s.1 + 1), h26))
  else none)
  else none
def f_X5_seekSafe (a0 : Nat) (a1 : Nat) (a2 : Int32) (h : mx_Hp) : Option (mx_Hp) :=
  (mx_gr h a0 5 4).bind fun x1 =>
  (mx_gi h a1 0 5).bind fun x2 =>
  (mx_as h x1 0 x2).bind fun h3 =>
  (mx_gr h3 a0 5 3).bind fun x4 =>
  (mx_gi h3 a1 0 5).bind fun x5 =>
  (f_X11_bit a2 h3).bind fun x6 =>
  (mx_as h3 x4 0 (x5 &&& x6)).bind fun h7 =>
  mx_fix (f_X5_seekSafe_L27 a0 a1 a2) 2000 (1, h7)
def f_X7_holds_L2 (l0 : Nat) (l1 : Int32) (h : mx_Hp)  : (Int32 → Option (Int32)) → Int32 → Option (Int32) := fun self s =>
  (mx_gi h l0 7 1).bind fun x1 =>
  if x1 ≤ s then
  some 0
  else
  (mx_gr h l0 7 0).bind fun x3 =>
  (mx_ln h x3).bind fun x4 =>
  if x4 ≤ s then
  some 0
  else
  (mx_gr h l0 7 0).bind fun x6 =>
  (mx_al h x6 s).bind fun x7 =>
  if ¬ x7 = l1 then
  self (s + 1)
  else
  some 1
def f_X7_holds (a0 : Nat) (a1 : Int32) (h : mx_Hp) : Option (Int32) :=
  mx_fix (f_X7_holds_L2 a0 a1 h) 2000 0
def f_X5_luresTo_L6 (l0 : Nat) (l1 : Nat) (l2 : Nat) (l3 : Int32)  : (Int32 × Int32 × mx_Hp → Option (Int32 × mx_Hp)) → Int32 × Int32 × mx_Hp → Option (Int32 × mx_Hp) := fun self s =>
  (mx_gi s.2.2 l1 0 3).bind fun x1 =>
  if x1 ≤ s.2.1 then
  some (s.1, s.2.2)
  else
  (mx_gi s.2.2 l0 5 2).bind fun x3 =>
  (f_X11_bit s.2.1 s.2.2).bind fun x4 =>
  (if (x3 &&& x4) = 0 then
  some (s.1, s.2.2)
  else
  (mx_gi s.2.2 l0 5 1).bind fun x6 =>
  if l2 < s.2.2.1 ∧ (mx_lay l2).1 = 5 then
  ((f_X2_find l2 l1 s.2.1 x6 s.2.2).bind fun x7 =>
  (mx_gr x7 l2 2 0).bind fun x9 =>
  if x9 < x7.1 ∧ (mx_lay x9).1 = 10 then
  ((f_X7_holds x9 l3 x7).bind fun x10 =>
  (if x10 = 0 then
  some 0
  else
  (f_X11_bit s.2.1 x7).bind fun x13 =>
  some x13 : Option (Int32)).bind fun v14 =>
  some ((s.1 ||| v14), x7))
  else none)
  else none : Option (Int32 × mx_Hp)).bind fun v15 =>
  self (v15.1, (s.2.1 + 1), v15.2)
def f_X5_luresTo (a0 : Nat) (a1 : Nat) (a2 : Nat) (a3 : Int32) (h : mx_Hp) : Option (Int32 × mx_Hp) :=
  mx_fix (f_X5_luresTo_L6 a0 a1 a2 a3) 2000 (0, 0, h)
def f_X5_seekLure_L16 (l0 : Nat) (l1 : Nat)  : (Int32 × mx_Hp → Option (mx_Hp)) → Int32 × mx_Hp → Option (mx_Hp) := fun self s =>
  if 10 ≤ s.1 then
  some s.2
  else
  (mx_gr s.2 l0 5 3).bind fun x6 =>
  (mx_gr s.2 l0 5 3).bind fun x7 =>
  (mx_al s.2 x7 (s.1 - 1)).bind fun x8 =>
  if l1 < s.2.1 ∧ (mx_lay l1).1 = 3 then
  ((f_X0_aheadOf l1 x8 s.2).bind fun x9 =>
  (mx_gi s.2 l0 5 2).bind fun x11 =>
  (mx_as s.2 x6 s.1 (x9 &&& (x11 ^^^ (-1)))).bind fun h12 =>
  self ((s.1 + 1), h12))
  else none
def f_X5_seekLure (a0 : Nat) (a1 : Nat) (a2 : Nat) (a3 : Int32) (h : mx_Hp) : Option (mx_Hp) :=
  (mx_gr h a0 5 3).bind fun x1 =>
  if a0 < h.1 ∧ (mx_lay a0).1 = 8 then
  ((f_X5_luresTo a0 a1 a2 a3 h).bind fun x2 =>
  (mx_as x2.2 x1 0 x2.1).bind fun h4 =>
  mx_fix (f_X5_seekLure_L16 a0 a1) 2000 (1, h4))
  else none
def f_X5_mostBehind_L13 (l0 : Nat) (l1 : Nat) (l3 : Int32) (l4 : Int32) (h : mx_Hp)  : (Int32 × Int32 → Option (Int32)) → Int32 × Int32 → Option (Int32) := fun self s =>
  (mx_gi h l1 0 3).bind fun x3 =>
  if x3 ≤ s.2 then
  some s.1
  else
  (f_X11_bit s.2 h).bind fun x5 =>
  (if (l4 &&& x5) = 0 then
  some s.1
  else
  if l0 < h.1 ∧ (mx_lay l0).1 = 8 then
  ((f_X5_tableAt l0 l3 s.2 h).bind fun x7 =>
  some (if s.1 < x7 then x7 else s.1))
  else none : Option (Int32)).bind fun v9 =>
  self (v9, (s.2 + 1))
def f_X5_mostBehind (a0 : Nat) (a1 : Nat) (a2 : Int32) (a3 : Int32) (h : mx_Hp) : Option (Int32) :=
  if a1 < h.1 ∧ (mx_lay a1).1 = 3 then
  ((f_X0_behindOf a1 a2 h).bind fun x1 =>
  mx_fix (f_X5_mostBehind_L13 a0 a1 a3 x1 h) 2000 ((-1), 0))
  else none
def f_X5_tableWorths_L2 (l0 : Nat) (l1 : Nat) (l2 : Int32) (k48 : Int32 × mx_Hp → Option (mx_Hp)) : (Int32 × mx_Hp → Option (mx_Hp)) → Int32 × mx_Hp → Option (mx_Hp) := fun self s =>
  (mx_gi s.2 l1 0 3).bind fun x1 =>
  if x1 ≤ s.1 then
  k48 (s.1, s.2)
  else
  if 10 ≤ s.1 then
  k48 (s.1, s.2)
  else
  (mx_gr s.2 l0 5 5).bind fun x4 =>
  (mx_rl s.2 x4 0).bind fun x5 =>
  if l1 < s.2.1 ∧ (mx_lay l1).1 = 3 then
  ((f_X0_kindOf l1 s.1 s.2).bind fun x6 =>
  (if ¬ x6 = 2 then
  some (-1)
  else
  if l1 < s.2.1 ∧ (mx_lay l1).1 = 3 then
  ((f_X0_worthOf l1 s.1 s.2).bind fun x9 =>
  some x9)
  else none : Option (Int32)).bind fun v11 =>
  (mx_as s.2 x5 s.1 v11).bind fun h12 =>
  self ((s.1 + 1), h12))
  else none
def f_X5_tableWorths_L64 (l0 : Nat) (l1 : Nat) (l2 : Int32) (l3 : Int32) (k143 : Int32 × mx_Hp → Option (mx_Hp)) : (Int32 × mx_Hp → Option (mx_Hp)) → Int32 × mx_Hp → Option (mx_Hp) := fun self s =>
  (mx_gi s.2 l1 0 3).bind fun x28 =>
  if x28 ≤ s.1 then
  k143 (s.1, s.2)
  else
  if 10 ≤ s.1 then
  k143 (s.1, s.2)
  else
  (mx_gi s.2 l0 5 2).bind fun x31 =>
  (f_X11_bit s.1 s.2).bind fun x32 =>
  (if (x31 &&& x32) = 0 then
  if l0 < s.2.1 ∧ (mx_lay l0).1 = 8 then
  ((f_X5_mostBehind l0 l1 s.1 (l3 - 1) s.2).bind fun x34 =>
  some x34)
  else none
  else
  some (-1) : Option (Int32)).bind fun v36 =>
  (mx_gr s.2 l0 5 5).bind fun x37 =>
  (mx_rl s.2 x37 l3).bind fun x38 =>
  (if ¬ v36 = (-1) then
  if l1 < s.2.1 ∧ (mx_lay l1).1 = 3 then
  ((f_X0_worthOf l1 s.1 s.2).bind fun x40 =>
  some (v36 + x40))
  else none
  else
  some (-1) : Option (Int32)).bind fun v42 =>
  (mx_as s.2 x38 s.1 v42).bind fun h43 =>
  self ((s.1 + 1), h43)
def f_X5_tableWorths_L50 (l0 : Nat) (l1 : Nat) (l2 : Int32)  : (Int32 × mx_Hp → Option (mx_Hp)) → Int32 × mx_Hp → Option (mx_Hp) := fun self s =>
  if l2 ≤ s.1 then
  some s.2
  else
  if 10 ≤ s.1 then
  some s.2
  else
  mx_fix (f_X5_tableWorths_L64 l0 l1 l2 s.1 (fun s60 => self ((s.1 + 1), s60.2))) 2000 (0, s.2)
def f_X5_tableWorths (a0 : Nat) (a1 : Nat) (a2 : Int32) (h : mx_Hp) : Option (mx_Hp) :=
  mx_fix (f_X5_tableWorths_L2 a0 a1 a2 (fun s25 => mx_fix (f_X5_tableWorths_L50 a0 a1 a2) 2000 (1, s25.2))) 2000 (0, h)
def f_X5_sumBehind_L13 (l0 : Nat) (l1 : Nat) (l3 : Int32) (l4 : Int32) (h : mx_Hp)  : (Int32 × Int32 → Option (Int32)) → Int32 × Int32 → Option (Int32) := fun self s =>
  (mx_gi h l1 0 3).bind fun x3 =>
  if x3 ≤ s.2 then
  some s.1
  else
  (f_X11_bit s.2 h).bind fun x5 =>
  (if (l4 &&& x5) = 0 then
  some s.1
  else
  if l0 < h.1 ∧ (mx_lay l0).1 = 8 then
  ((f_X5_tableAt l0 l3 s.2 h).bind fun x7 =>
  some (s.1 + x7))
  else none : Option (Int32)).bind fun v9 =>
  self (v9, (s.2 + 1))
def f_X5_sumBehind (a0 : Nat) (a1 : Nat) (a2 : Int32) (a3 : Int32) (h : mx_Hp) : Option (Int32) :=
  if a1 < h.1 ∧ (mx_lay a1).1 = 3 then
  ((f_X0_behindOf a1 a2 h).bind fun x1 =>
  mx_fix (f_X5_sumBehind_L13 a0 a1 a3 x1 h) 2000 (0, 0))
  else none
def f_X5_tableWays_L17 (l0 : Nat) (l1 : Nat) (l2 : Int32) (l4 : Int32) (k63 : Int32 × mx_Hp → Option (mx_Hp)) : (Int32 × mx_Hp → Option (mx_Hp)) → Int32 × mx_Hp → Option (mx_Hp) := fun self s =>
  (mx_gi s.2 l1 0 3).bind fun x4 =>
  if x4 ≤ s.1 then
  k63 (s.1, s.2)
  else
  if 10 ≤ s.1 then
  k63 (s.1, s.2)
  else
  (mx_gr s.2 l0 5 5).bind fun x7 =>
  (mx_rl s.2 x7 0).bind fun x8 =>
  if l1 < s.2.1 ∧ (mx_lay l1).1 = 3 then
  ((f_X0_kindOf l1 s.1 s.2).bind fun x9 =>
  (if ¬ x9 = 2 then
  some 0
  else
  some 1 : Option (Int32)).bind fun v12 =>
  (mx_as s.2 x8 s.1 v12).bind fun h13 =>
  self ((s.1 + 1), h13))
  else none
def f_X5_tableWays_L82 (l0 : Nat) (l1 : Nat) (l2 : Int32) (l4 : Int32) (l5 : Int32) (k140 : Int32 × mx_Hp → Option (mx_Hp)) : (Int32 × mx_Hp → Option (mx_Hp)) → Int32 × mx_Hp → Option (mx_Hp) := fun self s =>
  (mx_gi s.2 l1 0 3).bind fun x27 =>
  if x27 ≤ s.1 then
  k140 (s.1, s.2)
  else
  if 10 ≤ s.1 then
  k140 (s.1, s.2)
  else
  (mx_gr s.2 l0 5 5).bind fun x30 =>
  (mx_rl s.2 x30 l5).bind fun x31 =>
  (f_X11_bit s.1 s.2).bind fun x32 =>
  (if (l4 &&& x32) = 0 then
  if l0 < s.2.1 ∧ (mx_lay l0).1 = 8 then
  ((f_X5_sumBehind l0 l1 s.1 (l5 - 1) s.2).bind fun x34 =>
  some x34)
  else none
  else
  some 0 : Option (Int32)).bind fun v36 =>
  (mx_as s.2 x31 s.1 v36).bind fun h37 =>
  self ((s.1 + 1), h37)
def f_X5_tableWays_L66 (l0 : Nat) (l1 : Nat) (l2 : Int32) (l4 : Int32)  : (Int32 × mx_Hp → Option (mx_Hp)) → Int32 × mx_Hp → Option (mx_Hp) := fun self s =>
  if l2 ≤ s.1 then
  some s.2
  else
  if 10 ≤ s.1 then
  some s.2
  else
  mx_fix (f_X5_tableWays_L82 l0 l1 l2 l4 s.1 (fun s49 => self ((s.1 + 1), s49.2))) 2000 (0, s.2)
def f_X5_tableWays (a0 : Nat) (a1 : Nat) (a2 : Int32) (a3 : Int32) (h : mx_Hp) : Option (mx_Hp) :=
  (if a3 = 0 then
  some 0
  else
  (mx_gi h a0 5 2).bind fun x2 =>
  some x2 : Option (Int32)).bind fun v3 =>
  mx_fix (f_X5_tableWays_L17 a0 a1 a2 v3 (fun s24 => mx_fix (f_X5_tableWays_L66 a0 a1 a2 v3) 2000 (1, s24.2))) 2000 (0, h)
def f_X6_clear (a0 : Nat) (h : mx_Hp) : Option (mx_Hp) :=
  (mx_pi h a0 6 1 0).bind fun h1 =>
  some h1
def f_X6_placeAt (a0 : Nat) (a1 : Int32) (h : mx_Hp) : Option (Option Nat) :=
  (if a1 < 0 then
  some none
  else
  (mx_gr h a0 6 0).bind fun x2 =>
  (mx_ln h x2).bind fun x3 =>
  if x3 ≤ a1 then
  some none
  else
  (mx_gr h a0 6 0).bind fun x5 =>
  (mx_rl h x5 a1).bind fun x6 =>
  some (some x6) : Option (Option Nat)).bind fun v7 =>
  some v7
def f_X6_giveOldestToNewest_L8 (l0 : Nat) (l1 : Option Nat) (k37 : Int32 × mx_Hp → Option (mx_Hp)) : (Int32 × mx_Hp → Option (mx_Hp)) → Int32 × mx_Hp → Option (mx_Hp) := fun self s =>
  (mx_gr s.2 l0 6 0).bind fun x3 =>
  (mx_ln s.2 x3).bind fun x4 =>
  if x4 ≤ s.1 then
  k37 (s.1, s.2)
  else
  (mx_gr s.2 l0 6 0).bind fun x6 =>
  (mx_gr s.2 l0 6 0).bind fun x7 =>
  (mx_rl s.2 x7 s.1).bind fun x8 =>
  (mx_rs s.2 x6 (s.1 - 1) x8).bind fun h9 =>
  self ((s.1 + 1), h9)
def f_X6_giveOldestToNewest (a0 : Nat) (h : mx_Hp) : Option (mx_Hp) :=
  if a0 < h.1 ∧ (mx_lay a0).1 = 9 then
  ((f_X6_placeAt a0 0 h).bind fun x1 =>
  mx_fix (f_X6_giveOldestToNewest_L8 a0 x1 (fun s17 => (mx_gr s17.2 a0 6 0).bind fun x18 =>
  (mx_ln s17.2 x18).bind fun x19 =>
  (mx_pi s17.2 a0 6 1 (x19 - 1)).bind fun h20 =>
  (mx_gi h20 a0 6 1).bind fun x21 =>
  (if x21 < 0 then
  some h20
  else
  (match x1 with
  | none => some h20
  | some y23 => (mx_gr h20 a0 6 0).bind fun x24 =>
  (mx_gi h20 a0 6 1).bind fun x25 =>
  (mx_rs h20 x24 x25 y23).bind fun h26 =>
  some h26) : Option (mx_Hp)).bind fun v27 =>
  some v27)) 2000 (1, h))
  else none
def f_X6_put (a0 : Nat) (a1 : Nat) (h : mx_Hp) : Option (mx_Hp) :=
  (mx_gi h a0 6 1).bind fun x1 =>
  (mx_gr h a0 6 0).bind fun x2 =>
  (mx_ln h x2).bind fun x3 =>
  (if x1 < x3 then
  some h
  else
  if a0 < h.1 ∧ (mx_lay a0).1 = 9 then
  ((f_X6_giveOldestToNewest a0 h).bind fun x5 =>
  some x5)
  else none : Option (mx_Hp)).bind fun v7 =>
  (mx_gi v7 a0 6 1).bind fun x8 =>
  if a0 < v7.1 ∧ (mx_lay a0).1 = 9 then
  ((f_X6_placeAt a0 x8 v7).bind fun x9 =>
  (match x9 with
  | none => some v7
  | some y11 => if y11 < v7.1 ∧ (mx_lay y11).1 = 12 then
  ((f_X9_copyFrom y11 a1 v7).bind fun x12 =>
  (mx_gi x12 a0 6 1).bind fun x14 =>
  (mx_pi x12 a0 6 1 (x14 + 1)).bind fun h15 =>
  some h15)
  else none))
  else none
def f_X6_takeInto (a0 : Nat) (a1 : Nat) (h : mx_Hp) : Option (Int32 × mx_Hp) :=
  (mx_gi h a0 6 1).bind fun x1 =>
  if a0 < h.1 ∧ (mx_lay a0).1 = 9 then
  ((f_X6_placeAt a0 (x1 - 1) h).bind fun x2 =>
  (match x2 with
  | none => some (0, h)
  | some y4 => if a1 < h.1 ∧ (mx_lay a1).1 = 12 then
  ((f_X9_copyFrom a1 y4 h).bind fun x5 =>
  (mx_gi x5 a0 6 1).bind fun x7 =>
  (mx_pi x5 a0 6 1 (x7 - 1)).bind fun h8 =>
  some (1, h8))
  else none))
  else none
def f_X8_prepare (a0 : Nat) (a1 : Nat) (a2 : Nat) (h : mx_Hp) : Option (mx_Hp) :=
  (mx_gr h a0 8 0).bind fun x1 =>
  if x1 < h.1 ∧ (mx_lay x1).1 = 10 then
  ((f_X7_clear x1 h).bind fun x2 =>
  (mx_gr x2 a0 8 1).bind fun x4 =>
  (mx_gr x2 a0 8 3).bind fun x5 =>
  (mx_gi x2 a1 0 6).bind fun x6 =>
  if a1 < x2.1 ∧ (mx_lay a1).1 = 3 then
  ((f_X0_allWords a1 x2).bind fun x7 =>
  if x4 < x2.1 ∧ (mx_lay x4).1 = 8 then
  ((f_X5_prepare x4 a1 x5 x6 x7 x2).bind fun x9 =>
  (mx_gr x9 a0 8 2).bind fun x11 =>
  (mx_gr x9 a0 8 3).bind fun x12 =>
  if a1 < x9.1 ∧ (mx_lay a1).1 = 3 then
  ((f_X0_allWords a1 x9).bind fun x13 =>
  (mx_gi x9 a1 0 6).bind fun x15 =>
  if a2 < x9.1 ∧ (mx_lay a2).1 = 12 then
  ((f_X9_otherMayor a2 x9).bind fun x16 =>
  (mx_gi x9 x16 4 2).bind fun x18 =>
  if x11 < x9.1 ∧ (mx_lay x11).1 = 8 then
  ((f_X5_prepare x11 a1 x12 (x13 &&& (x15 ^^^ (-1))) x18 x9).bind fun x19 =>
  some x19)
  else none)
  else none)
  else none)
  else none)
  else none)
  else none
def f_X8_openingBy (a0 : Nat) (a1 : Nat) (a2 : Int32) (h : mx_Hp) : Option (Nat) :=
  if a1 < h.1 ∧ (mx_lay a1).1 = 3 then
  ((f_X0_kindOf a1 a2 h).bind fun x1 =>
  (if ¬ x1 = 3 then
  (mx_gr h a0 8 2).bind fun x4 =>
  some x4
  else
  (mx_gr h a0 8 1).bind fun x5 =>
  some x5 : Option (Nat)).bind fun v6 =>
  some v6)
  else none
def f_X8_follow_L39 (l0 : Nat) (l1 : Nat) (l4 : Int32) (l5 : Nat)  : (Int32 × Int32 × Int32 × mx_Hp → Option (mx_Hp)) → Int32 × Int32 × Int32 × mx_Hp → Option (mx_Hp) := fun self s =>
  if s.2.2.1 < 0 then
  some s.2.2.2
  else
  if l1 < s.2.2.2.1 ∧ (mx_lay l1).1 = 3 then
  ((f_X0_behindOf l1 s.1 s.2.2.2).bind fun x9 =>
  if l5 < s.2.2.2.1 ∧ (mx_lay l5).1 = 8 then
  ((f_X5_leadingWith l5 s.2.2.1 s.2.1 s.2.2.2).bind fun x11 =>
  if l1 < s.2.2.2.1 ∧ (mx_lay l1).1 = 3 then
  ((f_X0_firstOf l1 (x9 &&& x11) s.2.2.2).bind fun x13 =>
  (mx_gr s.2.2.2 l0 8 0).bind fun x15 =>
  if x15 < s.2.2.2.1 ∧ (mx_lay x15).1 = 10 then
  ((f_X7_add x15 x13 s.2.2.2).bind fun x16 =>
  (if ¬ s.2.1 = 0 then
  some 1
  else
  if ¬ x13 = l4 then
  some 0
  else
  some 1 : Option (Int32)).bind fun v20 =>
  self (x13, v20, (s.2.2.1 + (-1)), x16))
  else none)
  else none)
  else none)
  else none
def f_X8_follow (a0 : Nat) (a1 : Nat) (a2 : Int32) (a3 : Int32) (a4 : Int32) (h : mx_Hp) : Option (mx_Hp) :=
  if a0 < h.1 ∧ (mx_lay a0).1 = 11 then
  ((f_X8_openingBy a0 a1 a2 h).bind fun x1 =>
  (mx_gr h a0 8 0).bind fun x3 =>
  if x3 < h.1 ∧ (mx_lay x3).1 = 10 then
  ((f_X7_add x3 a2 h).bind fun x4 =>
  (if ¬ a2 = a4 then
  some 0
  else
  some 1 : Option (Int32)).bind fun v7 =>
  mx_fix (f_X8_follow_L39 a0 a1 a4 x1) 2000 (a2, v7, (a3 - 1), x4))
  else none)
  else none
def f_X8_followShortest_L2 (l0 : Nat) (l1 : Nat) (l2 : Int32)  : (Int32 × mx_Hp → Option (mx_Hp)) → Int32 × mx_Hp → Option (mx_Hp) := fun self s =>
  if 10 ≤ s.1 then
  some s.2
  else
  (mx_gr s.2 l0 8 1).bind fun x2 =>
  if x2 < s.2.1 ∧ (mx_lay x2).1 = 8 then
  ((f_X5_firstsWith x2 s.1 s.2).bind fun x3 =>
  (mx_gr s.2 l0 8 2).bind fun x5 =>
  if x5 < s.2.1 ∧ (mx_lay x5).1 = 8 then
  ((f_X5_firstsWith x5 s.1 s.2).bind fun x6 =>
  if l1 < s.2.1 ∧ (mx_lay l1).1 = 3 then
  ((f_X0_firstOf l1 (x3 ||| x6) s.2).bind fun x8 =>
  if x8 = (-4) then
  self ((s.1 + 1), s.2)
  else
  if l0 < s.2.1 ∧ (mx_lay l0).1 = 11 then
  ((f_X8_follow l0 l1 x8 s.1 l2 s.2).bind fun x11 =>
  some x11)
  else none)
  else none)
  else none)
  else none
def f_X8_followShortest (a0 : Nat) (a1 : Nat) (a2 : Int32) (h : mx_Hp) : Option (mx_Hp) :=
  mx_fix (f_X8_followShortest_L2 a0 a1 a2) 2000 (0, h)
def f_X8_findSafe (a0 : Nat) (a1 : Nat) (a2 : Nat) (a3 : Int32) (h : mx_Hp) : Option (mx_Hp) :=
  if a0 < h.1 ∧ (mx_lay a0).1 = 11 then
  ((f_X8_prepare a0 a1 a2 h).bind fun x1 =>
  (mx_gr x1 a0 8 1).bind fun x3 =>
  if x3 < x1.1 ∧ (mx_lay x3).1 = 8 then
  ((f_X5_seekSafe x3 a1 a3 x1).bind fun x4 =>
  (mx_gr x4 a0 8 2).bind fun x6 =>
  if x6 < x4.1 ∧ (mx_lay x6).1 = 8 then
  ((f_X5_seekSafe x6 a1 a3 x4).bind fun x7 =>
  if a0 < x7.1 ∧ (mx_lay a0).1 = 11 then
  ((f_X8_followShortest a0 a1 a3 x7).bind fun x9 =>
  some x9)
  else none)
  else none)
  else none)
  else none
def f_X8_findLure (a0 : Nat) (a1 : Nat) (a2 : Nat) (a3 : Int32) (h : mx_Hp) : Option (mx_Hp) :=
  if a0 < h.1 ∧ (mx_lay a0).1 = 11 then
  ((f_X8_prepare a0 a1 a2 h).bind fun x1 =>
  (mx_gr x1 a0 8 1).bind fun x3 =>
  (mx_gr x1 a0 8 3).bind fun x4 =>
  if x3 < x1.1 ∧ (mx_lay x3).1 = 8 then
  ((f_X5_seekLure x3 a1 x4 a3 x1).bind fun x5 =>
  (mx_gr x5 a0 8 2).bind fun x7 =>
  (mx_gr x5 a0 8 3).bind fun x8 =>
  if x7 < x5.1 ∧ (mx_lay x7).1 = 8 then
  ((f_X5_seekLure x7 a1 x8 a3 x5).bind fun x9 =>
  if a0 < x9.1 ∧ (mx_lay a0).1 = 11 then
  ((f_X8_followShortest a0 a1 (-4) x9).bind fun x11 =>
  some x11)
  else none)
  else none)
  else none)
  else none
def f_X8_firstBehindWith_L3 (l1 : Nat) (l2 : Nat) (l3 : Int32) (l4 : Int32) (l5 : Int32) (h : mx_Hp)  : (Int32 → Option (Int32)) → Int32 → Option (Int32) := fun self s =>
  (mx_gi h l1 0 3).bind fun x1 =>
  if x1 ≤ s then
  some (-4)
  else
  if l1 < h.1 ∧ (mx_lay l1).1 = 3 then
  ((f_X0_behindOf l1 l3 h).bind fun x3 =>
  (f_X11_bit s h).bind fun x5 =>
  if (x3 &&& x5) = 0 then
  self (s + 1)
  else
  if l2 < h.1 ∧ (mx_lay l2).1 = 8 then
  ((f_X5_tableAt l2 l4 s h).bind fun x7 =>
  if ¬ x7 = l5 then
  self (s + 1)
  else
  some s)
  else none)
  else none
def f_X8_firstBehindWith (a0 : Nat) (a1 : Nat) (a2 : Nat) (a3 : Int32) (a4 : Int32) (a5 : Int32) (h : mx_Hp) : Option (Int32) :=
  mx_fix (f_X8_firstBehindWith_L3 a1 a2 a3 a4 a5 h) 2000 0
def f_X8_followWorth_L34 (l0 : Nat) (l1 : Nat) (l4 : Nat)  : (Int32 × Int32 × mx_Hp → Option (mx_Hp)) → Int32 × Int32 × mx_Hp → Option (mx_Hp) := fun self s =>
  if s.2.1 < 0 then
  some s.2.2
  else
  if l4 < s.2.2.1 ∧ (mx_lay l4).1 = 8 then
  ((f_X5_tableAt l4 (s.2.1 + 1) s.1 s.2.2).bind fun x10 =>
  if l1 < s.2.2.1 ∧ (mx_lay l1).1 = 3 then
  ((f_X0_worthOf l1 s.1 s.2.2).bind fun x12 =>
  if l0 < s.2.2.1 ∧ (mx_lay l0).1 = 11 then
  ((f_X8_firstBehindWith l0 l1 l4 s.1 s.2.1 (x10 - x12) s.2.2).bind fun x14 =>
  (mx_gr s.2.2 l0 8 0).bind fun x16 =>
  if x16 < s.2.2.1 ∧ (mx_lay x16).1 = 10 then
  ((f_X7_add x16 x14 s.2.2).bind fun x17 =>
  self (x14, (s.2.1 + (-1)), x17))
  else none)
  else none)
  else none)
  else none
def f_X8_followWorth (a0 : Nat) (a1 : Nat) (a2 : Int32) (a3 : Int32) (h : mx_Hp) : Option (mx_Hp) :=
  if a1 < h.1 ∧ (mx_lay a1).1 = 3 then
  ((f_X0_has a1 a2 h).bind fun x1 =>
  if ¬ x1 = 0 then
  if a0 < h.1 ∧ (mx_lay a0).1 = 11 then
  ((f_X8_openingBy a0 a1 a2 h).bind fun x4 =>
  (mx_gr h a0 8 0).bind fun x6 =>
  if x6 < h.1 ∧ (mx_lay x6).1 = 10 then
  ((f_X7_add x6 a2 h).bind fun x7 =>
  mx_fix (f_X8_followWorth_L34 a0 a1 x4) 2000 (a2, (a3 - 1), x7))
  else none)
  else none
  else
  some h)
  else none
def f_X8_findBest_L46 (l0 : Nat) (l1 : Nat) (l3 : Int32) (l7 : Int32) (h : mx_Hp) (k96 : Int32 × Int32 × Int32 × Int32 → Option (Int32 × mx_Hp)) : (Int32 × Int32 × Int32 × Int32 → Option (Int32 × mx_Hp)) → Int32 × Int32 × Int32 × Int32 → Option (Int32 × mx_Hp) := fun self s =>
  (mx_gi h l1 0 3).bind fun x10 =>
  if x10 ≤ s.2.2.2 then
  k96 (s.1, s.2.1, s.2.2.1, s.2.2.2)
  else
  if l0 < h.1 ∧ (mx_lay l0).1 = 11 then
  ((f_X8_openingBy l0 l1 s.2.2.2 h).bind fun x12 =>
  if x12 < h.1 ∧ (mx_lay x12).1 = 8 then
  ((f_X5_tableAt x12 l7 s.2.2.2 h).bind fun x14 =>
  (if x14 ≤ s.1 then
  some (s.1, s.2.1, s.2.2.1)
  else
  some (x14, s.2.2.2, l7) : Option (Int32 × Int32 × Int32)).bind fun v17 =>
  self (v17.1, v17.2.1, v17.2.2, (s.2.2.2 + 1)))
  else none)
  else none
def f_X8_findBest_L37 (l0 : Nat) (l1 : Nat) (l3 : Int32) (h : mx_Hp) (k102 : Int32 × Int32 × Int32 × Int32 → Option (Int32 × mx_Hp)) : (Int32 × Int32 × Int32 × Int32 → Option (Int32 × mx_Hp)) → Int32 × Int32 × Int32 × Int32 → Option (Int32 × mx_Hp) := fun self s =>
  if l3 ≤ s.2.2.2 then
  k102 (s.1, s.2.1, s.2.2.1, s.2.2.2)
  else
  mx_fix (f_X8_findBest_L46 l0 l1 l3 s.2.2.2 h (fun s26 => self (s26.1, s26.2.1, s26.2.2.1, (s.2.2.2 + 1)))) 2000 (s.1, s.2.1, s.2.2.1, 0)
def f_X8_findBest (a0 : Nat) (a1 : Nat) (a2 : Nat) (a3 : Int32) (h : mx_Hp) : Option (Int32 × mx_Hp) :=
  if a0 < h.1 ∧ (mx_lay a0).1 = 11 then
  ((f_X8_prepare a0 a1 a2 h).bind fun x1 =>
  (mx_gr x1 a0 8 1).bind fun x3 =>
  if x3 < x1.1 ∧ (mx_lay x3).1 = 8 then
  ((f_X5_tableWorths x3 a1 a3 x1).bind fun x4 =>
  (mx_gr x4 a0 8 2).bind fun x6 =>
  if x6 < x4.1 ∧ (mx_lay x6).1 = 8 then
  ((f_X5_tableWorths x6 a1 a3 x4).bind fun x7 =>
  mx_fix (f_X8_findBest_L37 a0 a1 a3 x7 (fun s32 => if a0 < x7.1 ∧ (mx_lay a0).1 = 11 then
  ((f_X8_followWorth a0 a1 s32.2.1 s32.2.2.1 x7).bind fun x33 =>
  some (s32.1, x33))
  else none)) 2000 ((-1), (-4), 0, 0))
  else none)
  else none)
  else none
def f_X8_countWays_L34 (l0 : Nat) (l1 : Nat) (l3 : Int32) (h : mx_Hp)  : (Int32 × Int32 → Option (Int32 × mx_Hp)) → Int32 × Int32 → Option (Int32 × mx_Hp) := fun self s =>
  (mx_gi h l1 0 3).bind fun x9 =>
  if x9 ≤ s.2 then
  some (s.1, h)
  else
  if l0 < h.1 ∧ (mx_lay l0).1 = 11 then
  ((f_X8_openingBy l0 l1 s.2 h).bind fun x11 =>
  if x11 < h.1 ∧ (mx_lay x11).1 = 8 then
  ((f_X5_tableAt x11 (l3 - 1) s.2 h).bind fun x13 =>
  self ((s.1 + x13), (s.2 + 1)))
  else none)
  else none
def f_X8_countWays (a0 : Nat) (a1 : Nat) (a2 : Nat) (a3 : Int32) (a4 : Int32) (h : mx_Hp) : Option (Int32 × mx_Hp) :=
  if a0 < h.1 ∧ (mx_lay a0).1 = 11 then
  ((f_X8_prepare a0 a1 a2 h).bind fun x1 =>
  (mx_gr x1 a0 8 1).bind fun x3 =>
  if x3 < x1.1 ∧ (mx_lay x3).1 = 8 then
  ((f_X5_tableWays x3 a1 a3 a4 x1).bind fun x4 =>
  (mx_gr x4 a0 8 2).bind fun x6 =>
  if x6 < x4.1 ∧ (mx_lay x6).1 = 8 then
  ((f_X5_tableWays x6 a1 a3 a4 x4).bind fun x7 =>
  mx_fix (f_X8_countWays_L34 a0 a1 a3 x7) 2000 (0, 0))
  else none)
  else none)
  else none
def f_X8_winnerBehind_L15 (l1 : Nat) (l2 : Int32) (h : mx_Hp) (k62 : Int32 × Int32 × Int32 → Option (Int32)) : (Int32 × Int32 × Int32 → Option (Int32)) → Int32 × Int32 × Int32 → Option (Int32) := fun self s =>
  if 10 ≤ s.2.2 then
  k62 (s.1, s.2.1, s.2.2)
  else
  if l1 < h.1 ∧ (mx_lay l1).1 = 3 then
  ((f_X0_allWords l1 h).bind fun x5 =>
  if l1 < h.1 ∧ (mx_lay l1).1 = 3 then
  ((f_X0_allWords l1 h).bind fun x7 =>
  if l1 < h.1 ∧ (mx_lay l1).1 = 3 then
  ((f_X0_aheadOf l1 (x7 &&& (s.1 ^^^ (-1))) h).bind fun x9 =>
  if l1 < h.1 ∧ (mx_lay l1).1 = 3 then
  ((f_X0_aheadOf l1 ((x5 &&& (s.1 ^^^ (-1))) &&& (x9 ^^^ (-1))) h).bind fun x11 =>
  self ((s.1 ||| x11), ((x5 &&& (s.1 ^^^ (-1))) &&& (x9 ^^^ (-1))), (s.2.2 + 1)))
  else none)
  else none)
  else none)
  else none
def f_X8_winnerBehind (a0 : Nat) (a1 : Nat) (a2 : Int32) (h : mx_Hp) : Option (Int32) :=
  (mx_gi h a1 0 5).bind fun x1 =>
  if a1 < h.1 ∧ (mx_lay a1).1 = 3 then
  ((f_X0_aheadOf a1 x1 h).bind fun x2 =>
  mx_fix (f_X8_winnerBehind_L15 a1 a2 h (fun s22 => (f_X11_bit a2 h).bind fun x23 =>
  if (s22.1 &&& x23) = 0 then
  (f_X11_bit a2 h).bind fun x25 =>
  (if (s22.2.1 &&& x25) = 0 then
  some 0
  else
  some 2 : Option (Int32)).bind fun v27 =>
  some v27
  else
  some 1)) 2000 (x2, 0, 0))
  else none
def f_X9_startIn (a0 : Nat) (a1 : Nat) (h : mx_Hp) : Option (mx_Hp) :=
  (mx_gr h a0 9 0).bind fun x1 =>
  if x1 < h.1 ∧ (mx_lay x1).1 = 10 then
  ((f_X7_clear x1 h).bind fun x2 =>
  (mx_gr x2 a0 9 1).bind fun x4 =>
  (mx_gi x2 a1 0 7).bind fun x5 =>
  if x4 < x2.1 ∧ (mx_lay x4).1 = 7 then
  ((f_X4_startWith x4 x5 x2).bind fun x6 =>
  (mx_gr x6 a0 9 2).bind fun x8 =>
  (mx_gi x6 a1 0 8).bind fun x9 =>
  if x8 < x6.1 ∧ (mx_lay x8).1 = 7 then
  ((f_X4_startWith x8 x9 x6).bind fun x10 =>
  (mx_gi x10 a1 0 10).bind fun x12 =>
  (mx_pi x10 a0 9 3 x12).bind fun h13 =>
  (mx_pi h13 a0 9 4 0).bind fun h14 =>
  (mx_pi h14 a0 9 5 0).bind fun h15 =>
  some h15)
  else none)
  else none)
  else none
def f_X9_knowersOf (a0 : Nat) (a1 : Int32) (h : mx_Hp) : Option (Int32) :=
  (mx_gr h a0 9 1).bind fun x1 =>
  (mx_gi h x1 4 2).bind fun x2 =>
  (f_X11_bit a1 h).bind fun x3 =>
  (if (x2 &&& x3) = 0 then
  some 0
  else
  some 1 : Option (Int32)).bind fun v5 =>
  (mx_gr h a0 9 2).bind fun x6 =>
  (mx_gi h x6 4 2).bind fun x7 =>
  (f_X11_bit a1 h).bind fun x8 =>
  (if (x7 &&& x8) = 0 then
  some 0
  else
  some 2 : Option (Int32)).bind fun v10 =>
  some (v5 + v10)
def f_X9_decreesOfBoth (a0 : Nat) (h : mx_Hp) : Option (Int32) :=
  (mx_gr h a0 9 1).bind fun x1 =>
  (mx_gi h x1 4 0).bind fun x2 =>
  (mx_gr h a0 9 2).bind fun x3 =>
  (mx_gi h x3 4 0).bind fun x4 =>
  some (x2 + x4)
def f_X10_add (a0 : Nat) (a1 : Int32) (h : mx_Hp) : Option (Int32 × mx_Hp) :=
  (mx_gi h a0 10 2).bind fun x1 =>
  if x1 < 0 then
  some (0, h)
  else
  (mx_gi h a0 10 2).bind fun x3 =>
  (mx_gr h a0 10 0).bind fun x4 =>
  (mx_ln h x4).bind fun x5 =>
  if x3 < x5 then
  (mx_gr h a0 10 0).bind fun x7 =>
  (mx_gi h a0 10 2).bind fun x8 =>
  (mx_as h x7 x8 a1).bind fun h9 =>
  (mx_gi h9 a0 10 2).bind fun x10 =>
  (mx_pi h9 a0 10 2 (x10 + 1)).bind fun h11 =>
  some (1, h11)
  else
  some (0, h)
def f_X10_clear (a0 : Nat) (h : mx_Hp) : Option (mx_Hp) :=
  (mx_pi h a0 10 2 0).bind fun h1 =>
  some h1
def f_X10_letterAt (a0 : Nat) (a1 : Int32) (h : mx_Hp) : Option (Int32) :=
  (if a1 < 0 then
  some (-4)
  else
  (mx_gi h a0 10 2).bind fun x2 =>
  if x2 ≤ a1 then
  some (-4)
  else
  (mx_gr h a0 10 0).bind fun x4 =>
  (mx_ln h x4).bind fun x5 =>
  if x5 ≤ a1 then
  some (-4)
  else
  (mx_gr h a0 10 0).bind fun x7 =>
  (mx_al h x7 a1).bind fun x8 =>
  some x8 : Option (Int32)).bind fun v9 =>
  some v9
def f_X10_isFigure (a0 : Int32) (h : mx_Hp) : Option (Int32) :=
  (if a0 < 48 then
  some 0
  else
  if 57 < a0 then
  some 0
  else
  some 1 : Option (Int32)).bind fun v3 =>
  if v3 = 0 ∨ v3 = 1 then some v3 else none
def f_X10_figuresAt (a0 : Nat) (a1 : Int32) (h : mx_Hp) : Option (Int32) :=
  if a0 < h.1 ∧ (mx_lay a0).1 = 13 then
  ((f_X10_letterAt a0 a1 h).bind fun x1 =>
  (f_X10_isFigure x1 h).bind fun x3 =>
  if ¬ x3 = 0 then
  if a0 < h.1 ∧ (mx_lay a0).1 = 13 then
  ((f_X10_letterAt a0 (a1 + 1) h).bind fun x5 =>
  (f_X10_isFigure x5 h).bind fun x7 =>
  (if x7 = 0 then
  some 1
  else
  some 2 : Option (Int32)).bind fun v9 =>
  some v9)
  else none
  else
  some 0)
  else none
def f_X10_valueAt (a0 : Nat) (a1 : Int32) (a2 : Int32) (h : mx_Hp) : Option (Int32) :=
  if a0 < h.1 ∧ (mx_lay a0).1 = 13 then
  ((f_X10_letterAt a0 a1 h).bind fun x1 =>
  (if ¬ a2 = 2 then
  some (x1 - 48)
  else
  if a0 < h.1 ∧ (mx_lay a0).1 = 13 then
  ((f_X10_letterAt a0 (a1 + 1) h).bind fun x4 =>
  some ((((x1 - 48) * 10) + x4) - 48))
  else none : Option (Int32)).bind fun v6 =>
  some v6)
  else none
def f_X10_readItem_L11 (l0 : Nat)  : (Int32 × Int32 × mx_Hp → Option (Int32 × mx_Hp)) → Int32 × Int32 × mx_Hp → Option (Int32 × mx_Hp) := fun self s =>
  (mx_gr s.2.2 l0 10 1).bind fun x2 =>
  (mx_ln s.2.2 x2).bind fun x3 =>
  if x3 ≤ s.2.1 then
  some ((-1), s.2.2)
  else
  if l0 < s.2.2.1 ∧ (mx_lay l0).1 = 13 then
  ((f_X10_figuresAt l0 s.1 s.2.2).bind fun x5 =>
  if ¬ x5 = 0 then
  (mx_gr s.2.2 l0 10 1).bind fun x8 =>
  if l0 < s.2.2.1 ∧ (mx_lay l0).1 = 13 then
  ((f_X10_valueAt l0 s.1 x5 s.2.2).bind fun x9 =>
  (mx_as s.2.2 x8 s.2.1 x9).bind fun h11 =>
  (mx_pi h11 l0 10 3 (s.2.1 + 1)).bind fun h12 =>
  if l0 < h12.1 ∧ (mx_lay l0).1 = 13 then
  ((f_X10_letterAt l0 (s.1 + x5) h12).bind fun x13 =>
  if ¬ x13 = 59 then
  if l0 < h12.1 ∧ (mx_lay l0).1 = 13 then
  ((f_X10_letterAt l0 (s.1 + x5) h12).bind fun x16 =>
  if x16 = 44 then
  self (((s.1 + x5) + 1), (s.2.1 + 1), h12)
  else
  some ((-1), h12))
  else none
  else
  some (((s.1 + x5) + 1), h12))
  else none)
  else none
  else
  some ((-1), s.2.2))
  else none
def f_X10_readItem (a0 : Nat) (a1 : Int32) (h : mx_Hp) : Option (Int32 × mx_Hp) :=
  (mx_pi h a0 10 3 0).bind fun h1 =>
  mx_fix (f_X10_readItem_L11 a0) 2000 ((a1 + 1), 0, h1)
def f_X10_takeItem (a0 : Nat) (a1 : Nat) (a2 : Int32) (h : mx_Hp) : Option (Int32 × mx_Hp) :=
  (mx_gi h a0 10 3).bind fun x1 =>
  if ¬ x1 = 2 then
  (mx_gr h a0 10 1).bind fun x3 =>
  (mx_al h x3 0).bind fun x4 =>
  if a1 < h.1 ∧ (mx_lay a1).1 = 3 then
  ((f_X0_takeSingle a1 a2 x4 h).bind fun x5 =>
  if x5.1 = 0 ∨ x5.1 = 1 then some (x5.1, x5.2) else none)
  else none
  else
  (mx_gr h a0 10 1).bind fun x8 =>
  (mx_al h x8 0).bind fun x9 =>
  (mx_gr h a0 10 1).bind fun x10 =>
  (mx_al h x10 1).bind fun x11 =>
  if a1 < h.1 ∧ (mx_lay a1).1 = 3 then
  ((f_X0_takePair a1 a2 x9 x11 h).bind fun x12 =>
  if x12.1 = 0 ∨ x12.1 = 1 then some (x12.1, x12.2) else none)
  else none
def f_X10_readInto_L8 (l0 : Nat) (l1 : Nat)  : (Int32 × Int32 × mx_Hp → Option (Int32 × mx_Hp)) → Int32 × Int32 × mx_Hp → Option (Int32 × mx_Hp) := fun self s =>
  if 66 < s.2.1 then
  some ((-4), s.2.2)
  else
  (mx_gi s.2.2 l0 10 2).bind fun x4 =>
  if x4 ≤ s.1 then
  some ((-4), s.2.2)
  else
  if l0 < s.2.2.1 ∧ (mx_lay l0).1 = 13 then
  ((f_X10_readItem l0 s.1 s.2.2).bind fun x6 =>
  if x6.1 = (-1) then
  some (s.1, x6.2)
  else
  if l0 < x6.2.1 ∧ (mx_lay l0).1 = 13 then
  ((f_X10_letterAt l0 s.1 x6.2).bind fun x9 =>
  if l0 < x6.2.1 ∧ (mx_lay l0).1 = 13 then
  ((f_X10_takeItem l0 l1 x9 x6.2).bind fun x11 =>
  if ¬ x11.1 = 0 then
  self (x6.1, (s.2.1 + 1), x11.2)
  else
  some (s.1, x11.2))
  else none)
  else none)
  else none
def f_X10_readInto (a0 : Nat) (a1 : Nat) (h : mx_Hp) : Option (Int32 × mx_Hp) :=
  if a1 < h.1 ∧ (mx_lay a1).1 = 3 then
  ((f_X0_clear a1 h).bind fun x1 =>
  mx_fix (f_X10_readInto_L8 a0 a1) 2000 (0, 0, x1))
  else none
def f_X11_layText (a0 : Nat) (h : mx_Hp) : Option (Int32 × mx_Hp) :=
  (mx_gr h a0 11 0).bind fun x1 =>
  (mx_gr h a0 11 2).bind fun x2 =>
  if x1 < h.1 ∧ (mx_lay x1).1 = 13 then
  ((f_X10_readInto x1 x2 h).bind fun x3 =>
  if ¬ x3.1 = (-4) then
  some ((-2), x3.2)
  else
  (mx_gr x3.2 a0 11 2).bind fun x6 =>
  (mx_gi x3.2 x6 0 3).bind fun x7 =>
  if ¬ x7 = 0 then
  (mx_gr x3.2 a0 11 1).bind fun x9 =>
  (mx_gr x3.2 a0 11 2).bind fun x10 =>
  (mx_pr x3.2 a0 11 1 x10).bind fun h11 =>
  (mx_pr h11 a0 11 2 x9).bind fun h12 =>
  (mx_gr h12 a0 11 3).bind fun x13 =>
  (mx_gr h12 a0 11 1).bind fun x14 =>
  if x13 < h12.1 ∧ (mx_lay x13).1 = 12 then
  ((f_X9_startIn x13 x14 h12).bind fun x15 =>
  (mx_gr x15 a0 11 4).bind fun x17 =>
  if x17 < x15.1 ∧ (mx_lay x17).1 = 9 then
  ((f_X6_clear x17 x15).bind fun x18 =>
  (mx_gr x18 a0 11 5).bind fun x20 =>
  if x20 < x18.1 ∧ (mx_lay x20).1 = 9 then
  ((f_X6_clear x20 x18).bind fun x21 =>
  (mx_gr x21 a0 11 8).bind fun x23 =>
  if x23 < x21.1 ∧ (mx_lay x23).1 = 6 then
  ((f_X3_startAnew x23 x21).bind fun x24 =>
  (mx_gr x24 a0 11 1).bind fun x26 =>
  (mx_gi x24 x26 0 3).bind fun x27 =>
  some (x27, x24))
  else none)
  else none)
  else none)
  else none
  else
  some ((-2), x3.2))
  else none
def f_X11_write (a0 : Nat) (a1 : Int32) (h : mx_Hp) : Option (Int32 × mx_Hp) :=
  if a1 < 32 then
  some ((-1), h)
  else
  if a1 ≤ 126 then
  (mx_gr h a0 11 0).bind fun x3 =>
  if x3 < h.1 ∧ (mx_lay x3).1 = 13 then
  ((f_X10_add x3 a1 h).bind fun x4 =>
  (if x4.1 = 0 then
  some (-3)
  else
  (mx_gr x4.2 a0 11 0).bind fun x7 =>
  (mx_gi x4.2 x7 10 2).bind fun x8 =>
  some x8 : Option (Int32)).bind fun v9 =>
  some (v9, x4.2))
  else none
  else
  some ((-1), h)
def f_X11_wipe (a0 : Nat) (h : mx_Hp) : Option (Int32 × mx_Hp) :=
  (mx_gr h a0 11 0).bind fun x1 =>
  (mx_gi h x1 10 2).bind fun x2 =>
  (mx_gr h a0 11 0).bind fun x3 =>
  if x3 < h.1 ∧ (mx_lay x3).1 = 13 then
  ((f_X10_clear x3 h).bind fun x4 =>
  some (x2, x4))
  else none
def f_X11_fault (a0 : Nat) (h : mx_Hp) : Option (Int32 × mx_Hp) :=
  (mx_gr h a0 11 0).bind fun x1 =>
  (mx_gr h a0 11 2).bind fun x2 =>
  if x1 < h.1 ∧ (mx_lay x1).1 = 13 then
  ((f_X10_readInto x1 x2 h).bind fun x3 =>
  some (x3.1, x3.2))
  else none
def f_X11_lay (a0 : Nat) (h : mx_Hp) : Option (Int32 × mx_Hp) :=
  if a0 < h.1 ∧ (mx_lay a0).1 = 14 then
  ((f_X11_layText a0 h).bind fun x1 =>
  some (x1.1, x1.2))
  else none
def f_X11_word (a0 : Nat) (a1 : Int32) (a2 : Int32) (h : mx_Hp) : Option (Int32) :=
  (mx_gr h a0 11 1).bind fun x1 =>
  if x1 < h.1 ∧ (mx_lay x1).1 = 3 then
  ((f_X0_has x1 a1 h).bind fun x2 =>
  if ¬ x2 = 0 then
  if a2 = 0 then
  (mx_gr h a0 11 1).bind fun x6 =>
  if x6 < h.1 ∧ (mx_lay x6).1 = 3 then
  ((f_X0_kindOf x6 a1 h).bind fun x7 =>
  some x7)
  else none
  else
  if a2 = 1 then
  (mx_gr h a0 11 1).bind fun x10 =>
  if x10 < h.1 ∧ (mx_lay x10).1 = 3 then
  ((f_X0_worthOf x10 a1 h).bind fun x11 =>
  some x11)
  else none
  else
  if a2 = 2 then
  (mx_gr h a0 11 1).bind fun x14 =>
  if x14 < h.1 ∧ (mx_lay x14).1 = 3 then
  ((f_X0_behindOf x14 a1 h).bind fun x15 =>
  some x15)
  else none
  else
  if a2 = 3 then
  (mx_gr h a0 11 3).bind fun x18 =>
  if x18 < h.1 ∧ (mx_lay x18).1 = 12 then
  ((f_X9_knowersOf x18 a1 h).bind fun x19 =>
  some x19)
  else none
  else
  some (-1)
  else
  some (-1))
  else none
def f_X11_mayor (a0 : Nat) (a1 : Int32) (a2 : Int32) (h : mx_Hp) : Option (Int32) :=
  (f_X11_isMayor a1 h).bind fun x1 =>
  if ¬ x1 = 0 then
  (mx_gr h a0 11 3).bind fun x3 =>
  if x3 < h.1 ∧ (mx_lay x3).1 = 12 then
  ((f_X9_mayorOf x3 a1 h).bind fun x4 =>
  if a2 = 0 then
  (mx_gr h a0 11 3).bind fun x7 =>
  (mx_gi h x7 9 3).bind fun x8 =>
  (if ¬ x8 = a1 then
  some 0
  else
  some 1 : Option (Int32)).bind fun v10 =>
  some v10
  else
  if a2 = 1 then
  (mx_gi h x4 4 0).bind fun x12 =>
  some x12
  else
  if a2 = 2 then
  (mx_gi h x4 4 1).bind fun x14 =>
  some x14
  else
  if a2 = 3 then
  (mx_gi h x4 4 2).bind fun x16 =>
  some x16
  else
  some (-1))
  else none
  else
  some (-1)
def f_X11_said (a0 : Nat) (a1 : Int32) (h : mx_Hp) : Option (Int32) :=
  (if 0 ≤ a1 then
  (mx_gr h a0 11 3).bind fun x2 =>
  (mx_gr h x2 9 0).bind fun x3 =>
  if x3 < h.1 ∧ (mx_lay x3).1 = 10 then
  ((f_X7_at x3 a1 h).bind fun x4 =>
  some x4)
  else none
  else
  some (-1) : Option (Int32)).bind fun v6 =>
  some v6
def f_X11_say (a0 : Nat) (a1 : Int32) (h : mx_Hp) : Option (Int32 × mx_Hp) :=
  (mx_gr h a0 11 1).bind fun x1 =>
  if x1 < h.1 ∧ (mx_lay x1).1 = 3 then
  ((f_X0_has x1 a1 h).bind fun x2 =>
  if ¬ x2 = 0 then
  (mx_gr h a0 11 3).bind fun x5 =>
  (mx_gr h a0 11 1).bind fun x6 =>
  if x5 < h.1 ∧ (mx_lay x5).1 = 12 then
  ((f_X9_fits x5 x6 a1 h).bind fun x7 =>
  if ¬ x7 = 0 then
  (mx_gr h a0 11 3).bind fun x10 =>
  (mx_gr h x10 9 0).bind fun x11 =>
  (mx_gi h x11 7 1).bind fun x12 =>
  if x12 < 12 then
  (mx_gr h a0 11 4).bind fun x14 =>
  (mx_gr h a0 11 3).bind fun x15 =>
  if x14 < h.1 ∧ (mx_lay x14).1 = 9 then
  ((f_X6_put x14 x15 h).bind fun x16 =>
  (mx_gr x16 a0 11 3).bind fun x18 =>
  if x18 < x16.1 ∧ (mx_lay x18).1 = 12 then
  ((f_X9_speak x18 a1 x16).bind fun x19 =>
  (mx_gr x19 a0 11 3).bind fun x21 =>
  (mx_gr x19 x21 9 0).bind fun x22 =>
  (mx_gi x19 x22 7 1).bind fun x23 =>
  some (x23, x19))
  else none)
  else none
  else
  some ((-3), h)
  else
  some ((-2), h))
  else none
  else
  some ((-1), h))
  else none
def f_X11_end (a0 : Nat) (h : mx_Hp) : Option (Int32 × mx_Hp) :=
  (mx_gr h a0 11 3).bind fun x1 =>
  (mx_gr h a0 11 1).bind fun x2 =>
  if x1 < h.1 ∧ (mx_lay x1).1 = 12 then
  ((f_X9_isEndable x1 x2 h).bind fun x3 =>
  if ¬ x3 = 0 then
  (mx_gr h a0 11 4).bind fun x6 =>
  (mx_gr h a0 11 3).bind fun x7 =>
  if x6 < h.1 ∧ (mx_lay x6).1 = 9 then
  ((f_X6_put x6 x7 h).bind fun x8 =>
  (mx_gr x8 a0 11 3).bind fun x10 =>
  (mx_gr x8 a0 11 1).bind fun x11 =>
  if x10 < x8.1 ∧ (mx_lay x10).1 = 12 then
  ((f_X9_decree x10 x11 x8).bind fun x12 =>
  some (x12.1, x12.2))
  else none)
  else none
  else
  some ((-2), h))
  else none
def f_X11_findFinishing (a0 : Nat) (h : mx_Hp) : Option (mx_Hp) :=
  (mx_gr h a0 11 6).bind fun x1 =>
  (mx_gr h a0 11 1).bind fun x2 =>
  (mx_gr h a0 11 3).bind fun x3 =>
  if x3 < h.1 ∧ (mx_lay x3).1 = 12 then
  ((f_X9_lastWord x3 h).bind fun x4 =>
  (mx_gr h a0 11 3).bind fun x6 =>
  (mx_gr h a0 11 1).bind fun x7 =>
  if x6 < h.1 ∧ (mx_lay x6).1 = 12 then
  ((f_X9_sayableByOther x6 x7 h).bind fun x8 =>
  if x1 < h.1 ∧ (mx_lay x1).1 = 5 then
  ((f_X2_find x1 x2 x4 x8 h).bind fun x10 =>
  some x10)
  else none)
  else none)
  else none
def f_X11_finish (a0 : Nat) (h : mx_Hp) : Option (Int32 × mx_Hp) :=
  if a0 < h.1 ∧ (mx_lay a0).1 = 14 then
  ((f_X11_findFinishing a0 h).bind fun x1 =>
  (mx_gr x1 a0 11 6).bind fun x3 =>
  (mx_gr x1 x3 2 0).bind fun x4 =>
  (mx_gi x1 x4 7 1).bind fun x5 =>
  if ¬ x5 = 0 then
  (mx_gr x1 a0 11 4).bind fun x7 =>
  (mx_gr x1 a0 11 3).bind fun x8 =>
  if x7 < x1.1 ∧ (mx_lay x7).1 = 9 then
  ((f_X6_put x7 x8 x1).bind fun x9 =>
  (mx_gr x9 a0 11 3).bind fun x11 =>
  (mx_gr x9 a0 11 1).bind fun x12 =>
  (mx_gr x9 a0 11 6).bind fun x13 =>
  (mx_gr x9 x13 2 0).bind fun x14 =>
  if x11 < x9.1 ∧ (mx_lay x11).1 = 12 then
  ((f_X9_passOver x11 x12 x14 x9).bind fun x15 =>
  some (x15.1, x15.2))
  else none)
  else none
  else
  some ((-2), x1))
  else none
def f_X11_drop (a0 : Nat) (h : mx_Hp) : Option (Int32 × mx_Hp) :=
  (mx_gr h a0 11 3).bind fun x1 =>
  (mx_gr h x1 9 0).bind fun x2 =>
  (mx_gi h x2 7 1).bind fun x3 =>
  if ¬ x3 = 0 then
  (mx_gr h a0 11 4).bind fun x5 =>
  (mx_gr h a0 11 3).bind fun x6 =>
  if x5 < h.1 ∧ (mx_lay x5).1 = 9 then
  ((f_X6_put x5 x6 h).bind fun x7 =>
  (mx_gr x7 a0 11 3).bind fun x9 =>
  if x9 < x7.1 ∧ (mx_lay x9).1 = 12 then
  ((f_X9_letFall x9 x7).bind fun x10 =>
  some (x3, x10))
  else none)
  else none
  else
  some ((-2), h)
def f_X11_learn (a0 : Nat) (a1 : Int32) (a2 : Int32) (h : mx_Hp) : Option (Int32 × mx_Hp) :=
  (f_X11_isMayor a1 h).bind fun x1 =>
  if x1 = 0 then
  some ((-1), h)
  else
  (mx_gr h a0 11 1).bind fun x3 =>
  if x3 < h.1 ∧ (mx_lay x3).1 = 3 then
  ((f_X0_has x3 a2 h).bind fun x4 =>
  if ¬ x4 = 0 then
  (mx_gr h a0 11 4).bind fun x7 =>
  (mx_gr h a0 11 3).bind fun x8 =>
  if x7 < h.1 ∧ (mx_lay x7).1 = 9 then
  ((f_X6_put x7 x8 h).bind fun x9 =>
  (mx_gr x9 a0 11 3).bind fun x11 =>
  if x11 < x9.1 ∧ (mx_lay x11).1 = 12 then
  ((f_X9_mayorOf x11 a1 x9).bind fun x12 =>
  (mx_gi x9 x12 4 2).bind fun x14 =>
  (f_X11_bit a2 x9).bind fun x15 =>
  (mx_pi x9 x12 4 2 (x14 ^^^ x15)).bind fun h16 =>
  (mx_gi h16 x12 4 2).bind fun x17 =>
  (f_X11_bit a2 h16).bind fun x18 =>
  (if (x17 &&& x18) = 0 then
  some 0
  else
  some 1 : Option (Int32)).bind fun v20 =>
  some (v20, h16))
  else none)
  else none
  else
  some ((-1), h))
  else none
def f_X11_undo (a0 : Nat) (h : mx_Hp) : Option (Int32 × mx_Hp) :=
  (mx_gr h a0 11 4).bind fun x1 =>
  (mx_gr h a0 11 3).bind fun x2 =>
  if x1 < h.1 ∧ (mx_lay x1).1 = 9 then
  ((f_X6_takeInto x1 x2 h).bind fun x3 =>
  (if x3.1 = 0 then
  some (-2)
  else
  (mx_gr x3.2 a0 11 4).bind fun x6 =>
  (mx_gi x3.2 x6 6 1).bind fun x7 =>
  some x7 : Option (Int32)).bind fun v8 =>
  some (v8, x3.2))
  else none
def f_X11_told (a0 : Nat) (a1 : Int32) (h : mx_Hp) : Option (Int32) :=
  (mx_gi h a0 7 1).bind fun x1 =>
  if ¬ x1 = 0 then
  (if ¬ a1 = (-1) then
  if a0 < h.1 ∧ (mx_lay a0).1 = 10 then
  ((f_X7_at a0 a1 h).bind fun x4 =>
  some x4)
  else none
  else
  (mx_gi h a0 7 1).bind fun x6 =>
  some x6 : Option (Int32)).bind fun v7 =>
  some v7
  else
  some (-4)
def f_X11_finishing (a0 : Nat) (a1 : Int32) (h : mx_Hp) : Option (Int32 × mx_Hp) :=
  if a1 < (-1) then
  some ((-1), h)
  else
  if a1 < 4 then
  if a0 < h.1 ∧ (mx_lay a0).1 = 14 then
  ((f_X11_findFinishing a0 h).bind fun x3 =>
  (mx_gr x3 a0 11 6).bind fun x5 =>
  (mx_gr x3 x5 2 0).bind fun x6 =>
  (f_X11_told x6 a1 x3).bind fun x7 =>
  some (x7, x3))
  else none
  else
  some ((-1), h)
def f_X11_safe (a0 : Nat) (a1 : Int32) (a2 : Int32) (h : mx_Hp) : Option (Int32 × mx_Hp) :=
  (mx_gr h a0 11 1).bind fun x1 =>
  if x1 < h.1 ∧ (mx_lay x1).1 = 3 then
  ((f_X0_has x1 a1 h).bind fun x2 =>
  if x2 = 0 then
  some ((-1), h)
  else
  if a2 < (-1) then
  some ((-1), h)
  else
  if a2 < 10 then
  (mx_gr h a0 11 7).bind fun x7 =>
  (mx_gr h a0 11 1).bind fun x8 =>
  (mx_gr h a0 11 3).bind fun x9 =>
  if x7 < h.1 ∧ (mx_lay x7).1 = 11 then
  ((f_X8_findSafe x7 x8 x9 a1 h).bind fun x10 =>
  (mx_gr x10 a0 11 7).bind fun x12 =>
  (mx_gr x10 x12 8 0).bind fun x13 =>
  (f_X11_told x13 a2 x10).bind fun x14 =>
  some (x14, x10))
  else none
  else
  some ((-1), h))
  else none
def f_X11_best (a0 : Nat) (a1 : Int32) (a2 : Int32) (h : mx_Hp) : Option (Int32 × mx_Hp) :=
  if a1 < 1 then
  some ((-1), h)
  else
  if 10 < a1 then
  some ((-1), h)
  else
  if a2 < (-2) then
  some ((-1), h)
  else
  if a2 < 10 then
  (mx_gr h a0 11 7).bind fun x5 =>
  (mx_gr h a0 11 1).bind fun x6 =>
  (mx_gr h a0 11 3).bind fun x7 =>
  if x5 < h.1 ∧ (mx_lay x5).1 = 11 then
  ((f_X8_findBest x5 x6 x7 a1 h).bind fun x8 =>
  (mx_gr x8.2 a0 11 7).bind fun x10 =>
  (mx_gr x8.2 x10 8 0).bind fun x11 =>
  (mx_gi x8.2 x11 7 1).bind fun x12 =>
  if ¬ x12 = 0 then
  if ¬ a2 = (-2) then
  (if ¬ a2 = (-1) then
  (mx_gr x8.2 a0 11 7).bind fun x16 =>
  (mx_gr x8.2 x16 8 0).bind fun x17 =>
  if x17 < x8.2.1 ∧ (mx_lay x17).1 = 10 then
  ((f_X7_at x17 a2 x8.2).bind fun x18 =>
  some x18)
  else none
  else
  some x8.1 : Option (Int32)).bind fun v20 =>
  some (v20, x8.2)
  else
  (mx_gr x8.2 a0 11 7).bind fun x21 =>
  (mx_gr x8.2 x21 8 0).bind fun x22 =>
  (mx_gi x8.2 x22 7 1).bind fun x23 =>
  some (x23, x8.2)
  else
  some ((-4), x8.2))
  else none
  else
  some ((-1), h)
def f_X11_lure (a0 : Nat) (a1 : Int32) (a2 : Int32) (h : mx_Hp) : Option (Int32 × mx_Hp) :=
  (mx_gr h a0 11 1).bind fun x1 =>
  if x1 < h.1 ∧ (mx_lay x1).1 = 3 then
  ((f_X0_has x1 a1 h).bind fun x2 =>
  if x2 = 0 then
  some ((-1), h)
  else
  if a2 < (-1) then
  some ((-1), h)
  else
  if a2 < 10 then
  (mx_gr h a0 11 7).bind fun x7 =>
  (mx_gr h a0 11 1).bind fun x8 =>
  (mx_gr h a0 11 3).bind fun x9 =>
  if x7 < h.1 ∧ (mx_lay x7).1 = 11 then
  ((f_X8_findLure x7 x8 x9 a1 h).bind fun x10 =>
  (mx_gr x10 a0 11 7).bind fun x12 =>
  (mx_gr x10 x12 8 0).bind fun x13 =>
  (f_X11_told x13 a2 x10).bind fun x14 =>
  some (x14, x10))
  else none
  else
  some ((-1), h))
  else none
def f_X11_sitting (a0 : Nat) (a1 : Int32) (h : mx_Hp) : Option (Int32) :=
  (mx_gr h a0 11 1).bind fun x1 =>
  if x1 < h.1 ∧ (mx_lay x1).1 = 3 then
  ((f_X0_has x1 a1 h).bind fun x2 =>
  (if x2 = 0 then
  some (-1)
  else
  (mx_gr h a0 11 7).bind fun x5 =>
  (mx_gr h a0 11 1).bind fun x6 =>
  if x5 < h.1 ∧ (mx_lay x5).1 = 11 then
  ((f_X8_winnerBehind x5 x6 a1 h).bind fun x7 =>
  some x7)
  else none : Option (Int32)).bind fun v9 =>
  some v9)
  else none
def f_X11_ways (a0 : Nat) (a1 : Int32) (a2 : Int32) (h : mx_Hp) : Option (Int32 × mx_Hp) :=
  if a1 < 1 then
  some ((-1), h)
  else
  if 8 < a1 then
  some ((-1), h)
  else
  if a2 < 0 then
  some ((-1), h)
  else
  if a2 ≤ 1 then
  (mx_gr h a0 11 7).bind fun x5 =>
  (mx_gr h a0 11 1).bind fun x6 =>
  (mx_gr h a0 11 3).bind fun x7 =>
  (if ¬ a2 = 1 then
  some 0
  else
  some 1 : Option (Int32)).bind fun v9 =>
  if x5 < h.1 ∧ (mx_lay x5).1 = 11 then
  ((f_X8_countWays x5 x6 x7 a1 v9 h).bind fun x10 =>
  some (x10.1, x10.2))
  else none
  else
  some ((-1), h)
def f_X11_seen (a0 : Nat) (a1 : Int32) (a2 : Int32) (h : mx_Hp) : Option (Int32 × mx_Hp) :=
  (mx_gr h a0 11 1).bind fun x1 =>
  if x1 < h.1 ∧ (mx_lay x1).1 = 3 then
  ((f_X0_has x1 a1 h).bind fun x2 =>
  if x2 = 0 then
  some ((-1), h)
  else
  if a2 < 0 then
  some ((-1), h)
  else
  if a2 ≤ 1 then
  (mx_gr h a0 11 8).bind fun x7 =>
  (if ¬ a2 = 1 then
  some 0
  else
  some 1 : Option (Int32)).bind fun v9 =>
  if x7 < h.1 ∧ (mx_lay x7).1 = 6 then
  ((f_X3_note x7 a1 v9 h).bind fun x10 =>
  (if x10.1 = 0 then
  some (-3)
  else
  (mx_gr x10.2 a0 11 8).bind fun x13 =>
  (mx_gi x10.2 x13 3 2).bind fun x14 =>
  some x14 : Option (Int32)).bind fun v15 =>
  some (v15, x10.2))
  else none
  else
  some ((-1), h))
  else none
def f_X11_forget (a0 : Nat) (h : mx_Hp) : Option (Int32 × mx_Hp) :=
  (mx_gr h a0 11 8).bind fun x1 =>
  (mx_gi h x1 3 2).bind fun x2 =>
  (mx_gr h a0 11 8).bind fun x3 =>
  if x3 < h.1 ∧ (mx_lay x3).1 = 6 then
  ((f_X3_clear x3 h).bind fun x4 =>
  some (x2, x4))
  else none
def f_X11_guessed (a0 : Nat) (a1 : Int32) (h : mx_Hp) : Option (Int32 × mx_Hp) :=
  if a1 < 0 then
  some ((-1), h)
  else
  if a1 ≤ 2 then
  (mx_gr h a0 11 8).bind fun x3 =>
  (mx_gr h a0 11 1).bind fun x4 =>
  (mx_gr h a0 11 6).bind fun x5 =>
  if x3 < h.1 ∧ (mx_lay x3).1 = 6 then
  ((f_X3_weigh x3 x4 x5 h).bind fun x6 =>
  if ¬ a1 = 0 then
  (mx_gr x6 a0 11 8).bind fun x9 =>
  (mx_gi x6 x9 3 5).bind fun x10 =>
  if ¬ x10 = 0 then
  (if ¬ a1 = 1 then
  (mx_gr x6 a0 11 8).bind fun x13 =>
  (mx_gi x6 x13 3 7).bind fun x14 =>
  some x14
  else
  (mx_gr x6 a0 11 8).bind fun x15 =>
  (mx_gi x6 x15 3 6).bind fun x16 =>
  some x16 : Option (Int32)).bind fun v17 =>
  some (v17, x6)
  else
  some ((-4), x6)
  else
  (mx_gr x6 a0 11 8).bind fun x18 =>
  (mx_gi x6 x18 3 5).bind fun x19 =>
  some (x19, x6))
  else none
  else
  some ((-1), h)
def f_X11_council (a0 : Nat) (a1 : Int32) (a2 : Int32) (a3 : Int32) (h : mx_Hp) : Option (Int32 × mx_Hp) :=
  if a1 < 0 then
  some ((-1), h)
  else
  if 9999 < a1 then
  some ((-1), h)
  else
  if a2 < 1 then
  some ((-1), h)
  else
  if 60 < a2 then
  some ((-1), h)
  else
  if a3 < 0 then
  some ((-1), h)
  else
  if a3 ≤ 2 then
  (mx_gr h a0 11 9).bind fun x7 =>
  (mx_gr h a0 11 1).bind fun x8 =>
  (mx_gr h a0 11 3).bind fun x9 =>
  if x7 < h.1 ∧ (mx_lay x7).1 = 4 then
  ((f_X1_outcome x7 x8 x9 a1 a2 h).bind fun x10 =>
  if a3 = 0 then
  (mx_gi x10.2 x10.1 9 3).bind fun x13 =>
  some (x13, x10.2)
  else
  if a3 = 1 then
  if x10.1 < x10.2.1 ∧ (mx_lay x10.1).1 = 12 then
  ((f_X9_decreesOfBoth x10.1 x10.2).bind fun x15 =>
  some (x15, x10.2))
  else none
  else
  (mx_gr x10.2 x10.1 9 1).bind fun x17 =>
  (mx_gi x10.2 x17 4 1).bind fun x18 =>
  (mx_gr x10.2 x10.1 9 2).bind fun x19 =>
  (mx_gi x10.2 x19 4 1).bind fun x20 =>
  some (((x18 - x20) + 500), x10.2))
  else none
  else
  some ((-1), h)
def f_X11_keep (a0 : Nat) (h : mx_Hp) : Option (Int32 × mx_Hp) :=
  (mx_gr h a0 11 5).bind fun x1 =>
  (mx_gi h x1 6 1).bind fun x2 =>
  if x2 < 2 then
  (mx_gr h a0 11 5).bind fun x4 =>
  (mx_gr h a0 11 3).bind fun x5 =>
  if x4 < h.1 ∧ (mx_lay x4).1 = 9 then
  ((f_X6_put x4 x5 h).bind fun x6 =>
  (mx_gr x6 a0 11 5).bind fun x8 =>
  (mx_gi x6 x8 6 1).bind fun x9 =>
  some (x9, x6))
  else none
  else
  some ((-3), h)
def f_X11_back (a0 : Nat) (h : mx_Hp) : Option (Int32 × mx_Hp) :=
  (mx_gr h a0 11 5).bind fun x1 =>
  (mx_gr h a0 11 3).bind fun x2 =>
  if x1 < h.1 ∧ (mx_lay x1).1 = 9 then
  ((f_X6_takeInto x1 x2 h).bind fun x3 =>
  if ¬ x3.1 = 0 then
  (mx_gr x3.2 a0 11 4).bind fun x6 =>
  if x6 < x3.2.1 ∧ (mx_lay x6).1 = 9 then
  ((f_X6_clear x6 x3.2).bind fun x7 =>
  (mx_gr x7 a0 11 5).bind fun x9 =>
  (mx_gi x7 x9 6 1).bind fun x10 =>
  some (x10, x7))
  else none
  else
  some ((-2), x3.2))
  else none
def f_X11_count (a0 : Nat) (a1 : Int32) (h : mx_Hp) : Option (Int32) :=
  if a1 = 0 then
  (mx_gr h a0 11 1).bind fun x2 =>
  (mx_gi h x2 0 3).bind fun x3 =>
  some x3
  else
  if a1 = 1 then
  (mx_gr h a0 11 3).bind fun x5 =>
  (mx_gi h x5 9 4).bind fun x6 =>
  some x6
  else
  if a1 = 2 then
  (mx_gr h a0 11 3).bind fun x8 =>
  (mx_gr h x8 9 0).bind fun x9 =>
  (mx_gi h x9 7 1).bind fun x10 =>
  some x10
  else
  if a1 = 3 then
  (mx_gr h a0 11 3).bind fun x12 =>
  if x12 < h.1 ∧ (mx_lay x12).1 = 12 then
  ((f_X9_decreesOfBoth x12 h).bind fun x13 =>
  some x13)
  else none
  else
  if a1 = 4 then
  (mx_gr h a0 11 3).bind fun x16 =>
  (mx_gi h x16 9 5).bind fun x17 =>
  some x17
  else
  if a1 = 5 then
  (mx_gr h a0 11 1).bind fun x19 =>
  (mx_gi h x19 0 9).bind fun x20 =>
  some x20
  else
  if a1 = 6 then
  (mx_gr h a0 11 8).bind fun x22 =>
  (mx_gi h x22 3 2).bind fun x23 =>
  some x23
  else
  if a1 = 7 then
  (mx_gr h a0 11 4).bind fun x25 =>
  (mx_gi h x25 6 1).bind fun x26 =>
  some x26
  else
  if a1 = 8 then
  (mx_gr h a0 11 5).bind fun x28 =>
  (mx_gi h x28 6 1).bind fun x29 =>
  some x29
  else
  if a1 = 9 then
  (mx_gr h a0 11 0).bind fun x31 =>
  (mx_gi h x31 10 2).bind fun x32 =>
  some x32
  else
  some (-1)
def f_X12_begins_L2 (l0 : Nat)  : (Int32 × mx_Hp → Option (mx_Hp)) → Int32 × mx_Hp → Option (mx_Hp) := fun self s =>
  if 35 ≤ s.1 then
  (mx_gr s.2 l0 12 3).bind fun x2 =>
  (mx_as s.2 x2 1 2).bind fun h3 =>
  some h3
  else
  (mx_gr s.2 l0 12 3).bind fun x4 =>
  (mx_as s.2 x4 s.1 0).bind fun h5 =>
  self ((s.1 + 1), h5)
def f_X12_begins (a0 : Nat) (h : mx_Hp) : Option (mx_Hp) :=
  mx_fix (f_X12_begins_L2 a0) 2000 (0, h)
def f_X12_wordOf (a0 : Nat) (a1 : Int32) (a2 : Int32) (h : mx_Hp) : Option (mx_Hp) :=
  (mx_gr h a0 12 3).bind fun x1 =>
  (mx_gr h a0 12 3).bind fun x2 =>
  (mx_al h x2 0).bind fun x3 =>
  (mx_as h x1 (3 + x3) a1).bind fun h4 =>
  (mx_gr h4 a0 12 3).bind fun x5 =>
  (mx_gr h4 a0 12 3).bind fun x6 =>
  (mx_al h4 x6 0).bind fun x7 =>
  (mx_as h4 x5 (13 + x7) a2).bind fun h8 =>
  (mx_gr h8 a0 12 3).bind fun x9 =>
  (mx_al h8 x9 0).bind fun x10 =>
  (mx_as h8 x9 0 (x10 + 1)).bind fun h11 =>
  some h11
def f_X12_lays_L2 (l0 : Nat) (k26 : Int32 × mx_Hp → Option (mx_Hp)) : (Int32 × mx_Hp → Option (mx_Hp)) → Int32 × mx_Hp → Option (mx_Hp) := fun self s =>
  if 35 ≤ s.1 then
  k26 (s.1, s.2)
  else
  (mx_gr s.2 l0 12 2).bind fun x2 =>
  (mx_gr s.2 l0 12 3).bind fun x3 =>
  (mx_al s.2 x3 s.1).bind fun x4 =>
  (mx_as s.2 x2 s.1 x4).bind fun h5 =>
  self ((s.1 + 1), h5)
def f_X12_lays_L28 (l0 : Nat) (k47 : Int32 × mx_Hp → Option (mx_Hp)) : (Int32 × mx_Hp → Option (mx_Hp)) → Int32 × mx_Hp → Option (mx_Hp) := fun self s =>
  if 22 ≤ s.1 then
  k47 (s.1, s.2)
  else
  (mx_gr s.2 l0 12 4).bind fun x13 =>
  (mx_as s.2 x13 s.1 0).bind fun h14 =>
  self ((s.1 + 1), h14)
def f_X12_lays (a0 : Nat) (h : mx_Hp) : Option (mx_Hp) :=
  mx_fix (f_X12_lays_L2 a0 (fun s11 => mx_fix (f_X12_lays_L28 a0 (fun s18 => (mx_gr s18.2 a0 12 4).bind fun x19 =>
  (mx_gr s18.2 a0 12 2).bind fun x20 =>
  (mx_al s18.2 x20 2).bind fun x21 =>
  (mx_as s18.2 x19 13 x21).bind fun h22 =>
  (mx_gr h22 a0 12 4).bind fun x23 =>
  (mx_gr h22 a0 12 2).bind fun x24 =>
  (mx_al h22 x24 33).bind fun x25 =>
  (mx_as h22 x23 19 x25).bind fun h26 =>
  (mx_gr h26 a0 12 4).bind fun x27 =>
  (mx_gr h26 a0 12 2).bind fun x28 =>
  (mx_al h26 x28 34).bind fun x29 =>
  (mx_as h26 x27 20 x29).bind fun h30 =>
  (mx_pi h30 a0 12 6 0).bind fun h31 =>
  (mx_pi h31 a0 12 8 0).bind fun h32 =>
  (mx_pi h32 a0 12 10 0).bind fun h33 =>
  some h33)) 2000 (0, s11.2))) 2000 (0, h)
def f_X12_in (a0 : Int32) (a1 : Int32) (a2 : Int32) (h : mx_Hp) : Option (Int32) :=
  (if a0 < a1 then
  some 0
  else
  if a2 < a0 then
  some 0
  else
  some 1 : Option (Int32)).bind fun v3 =>
  if v3 = 0 ∨ v3 = 1 then some v3 else none
def f_X12_isWord (a0 : Nat) (a1 : Int32) (h : mx_Hp) : Option (Int32) :=
  (mx_gr h a0 12 2).bind fun x1 =>
  (mx_al h x1 0).bind fun x2 =>
  (f_X12_in a1 0 (x2 - 1) h).bind fun x3 =>
  if x3 = 0 ∨ x3 = 1 then some x3 else none
def f_X12_has (a0 : Int32) (a1 : Int32) (h : mx_Hp) : Option (Int32) :=
  (if ¬ ((a0 >>> (a1 &&& 31)) &&& 1) = 1 then
  some 0
  else
  some 1 : Option (Int32)).bind fun v2 =>
  if v2 = 0 ∨ v2 = 1 then some v2 else none
def f_X12_write (a0 : Nat) (a1 : Int32) (h : mx_Hp) : Option (Int32 × mx_Hp) :=
  (f_X12_in a1 32 126 h).bind fun x1 =>
  if ¬ x1 = 0 then
  (mx_gi h a0 12 1).bind fun x3 =>
  if ¬ x3 = 200 then
  (mx_gr h a0 12 0).bind fun x5 =>
  (mx_gi h a0 12 1).bind fun x6 =>
  (mx_as h x5 x6 a1).bind fun h7 =>
  (mx_gi h7 a0 12 1).bind fun x8 =>
  (mx_pi h7 a0 12 1 (x8 + 1)).bind fun h9 =>
  (mx_gi h9 a0 12 1).bind fun x10 =>
  some (x10, h9)
  else
  some ((-3), h)
  else
  some ((-1), h)
def f_X12_wipe (a0 : Nat) (h : mx_Hp) : Option (Int32 × mx_Hp) :=
  (mx_gi h a0 12 1).bind fun x1 =>
  (mx_pi h a0 12 1 0).bind fun h2 =>
  some (x1, h2)
def f_X12_letterAt (a0 : Nat) (a1 : Int32) (h : mx_Hp) : Option (Int32) :=
  (mx_gi h a0 12 1).bind fun x1 =>
  (if x1 ≤ a1 then
  some (-1)
  else
  (mx_gr h a0 12 0).bind fun x3 =>
  (mx_al h x3 a1).bind fun x4 =>
  some x4 : Option (Int32)).bind fun v5 =>
  some v5
def f_X12_isFigure (a0 : Int32) (h : mx_Hp) : Option (Int32) :=
  (f_X12_in a0 48 57 h).bind fun x1 =>
  if x1 = 0 ∨ x1 = 1 then some x1 else none
def f_X12_number (a0 : Nat) (a1 : Int32) (a2 : Int32) (a3 : Int32) (h : mx_Hp) : Option (Int32 × mx_Hp) :=
  (mx_gi h a0 12 11).bind fun x1 =>
  if a0 < h.1 ∧ (mx_lay a0).1 = 15 then
  ((f_X12_letterAt a0 x1 h).bind fun x2 =>
  (f_X12_isFigure x2 h).bind fun x4 =>
  if ¬ x4 = 0 then
  (mx_gi h a0 12 11).bind fun x6 =>
  if a0 < h.1 ∧ (mx_lay a0).1 = 15 then
  ((f_X12_letterAt a0 x6 h).bind fun x7 =>
  (mx_gi h a0 12 11).bind fun x9 =>
  (mx_pi h a0 12 11 (x9 + 1)).bind fun h10 =>
  (mx_gi h10 a0 12 11).bind fun x11 =>
  if a0 < h10.1 ∧ (mx_lay a0).1 = 15 then
  ((f_X12_letterAt a0 x11 h10).bind fun x12 =>
  (f_X12_isFigure x12 h10).bind fun x14 =>
  (if x14 = 0 then
  some ((x7 - 48), h10)
  else
  (mx_gi h10 a0 12 11).bind fun x16 =>
  if a0 < h10.1 ∧ (mx_lay a0).1 = 15 then
  ((f_X12_letterAt a0 x16 h10).bind fun x17 =>
  (mx_gi h10 a0 12 11).bind fun x19 =>
  (mx_pi h10 a0 12 11 (x19 + 1)).bind fun h20 =>
  some ((((10 * (x7 - 48)) + x17) - 48), h20))
  else none : Option (Int32 × mx_Hp)).bind fun v21 =>
  (mx_gi v21.2 a0 12 11).bind fun x22 =>
  if a0 < v21.2.1 ∧ (mx_lay a0).1 = 15 then
  ((f_X12_letterAt a0 x22 v21.2).bind fun x23 =>
  (if ¬ x23 = a3 then
  some 0
  else
  (f_X12_in v21.1 a1 a2 v21.2).bind fun x26 =>
  if x26 = 0 then
  some 0
  else
  some 1 : Option (Int32)).bind fun v28 =>
  (mx_gi v21.2 a0 12 11).bind fun x29 =>
  (mx_pi v21.2 a0 12 11 (x29 + 1)).bind fun h30 =>
  (if v28 = 0 then
  some (-1)
  else
  some v21.1 : Option (Int32)).bind fun v32 =>
  some (v32, h30))
  else none)
  else none)
  else none
  else
  some ((-1), h))
  else none
def f_X12_readsItem (a0 : Nat) (a1 : Int32) (h : mx_Hp) : Option (Int32 × mx_Hp) :=
  if a1 = 99 then
  (mx_gr h a0 12 3).bind fun x2 =>
  if a0 < h.1 ∧ (mx_lay a0).1 = 15 then
  ((f_X12_number a0 0 1 59 h).bind fun x3 =>
  (mx_as x3.2 x2 2 x3.1).bind fun h5 =>
  (mx_gr h5 a0 12 3).bind fun x6 =>
  (mx_al h5 x6 2).bind fun x7 =>
  (if x7 < 0 then
  some 0
  else
  some 1 : Option (Int32)).bind fun v9 =>
  if v9 = 0 ∨ v9 = 1 then some (v9, h5) else none)
  else none
  else
  if a1 = 103 then
  (mx_gr h a0 12 3).bind fun x12 =>
  (mx_al h x12 0).bind fun x13 =>
  if a0 < h.1 ∧ (mx_lay a0).1 = 15 then
  ((f_X12_number a0 0 (x13 - 1) 44 h).bind fun x14 =>
  (if 0 ≤ x14.1 then
  (mx_gr x14.2 a0 12 3).bind fun x17 =>
  (mx_al x14.2 x17 0).bind fun x18 =>
  if a0 < x14.2.1 ∧ (mx_lay a0).1 = 15 then
  ((f_X12_number a0 0 (x18 - 1) 59 x14.2).bind fun x19 =>
  some (x19.1, x19.2))
  else none
  else
  some ((-1), x14.2) : Option (Int32 × mx_Hp)).bind fun v21 =>
  if 0 ≤ v21.1 then
  (mx_gr v21.2 a0 12 3).bind fun x23 =>
  (mx_al v21.2 x23 (23 + x14.1)).bind fun x24 =>
  (mx_as v21.2 x23 (23 + x14.1) (x24 ||| ((1 : Int32) <<< (v21.1 &&& 31)))).bind fun h25 =>
  some (1, h25)
  else
  some (0, v21.2))
  else none
  else
  if a1 = 107 then
  if a0 < h.1 ∧ (mx_lay a0).1 = 15 then
  ((f_X12_number a0 0 1 44 h).bind fun x27 =>
  (if 0 ≤ x27.1 then
  (mx_gr x27.2 a0 12 3).bind fun x30 =>
  (mx_al x27.2 x30 0).bind fun x31 =>
  if a0 < x27.2.1 ∧ (mx_lay a0).1 = 15 then
  ((f_X12_number a0 0 (x31 - 1) 59 x27.2).bind fun x32 =>
  some (x32.1, x32.2))
  else none
  else
  some ((-1), x27.2) : Option (Int32 × mx_Hp)).bind fun v34 =>
  if 0 ≤ v34.1 then
  (mx_gr v34.2 a0 12 3).bind fun x36 =>
  (mx_al v34.2 x36 (33 + x27.1)).bind fun x37 =>
  (mx_as v34.2 x36 (33 + x27.1) (x37 ||| ((1 : Int32) <<< (v34.1 &&& 31)))).bind fun h38 =>
  some (1, h38)
  else
  some (0, v34.2))
  else none
  else
  if a1 = 108 then
  (mx_gr h a0 12 3).bind fun x40 =>
  if a0 < h.1 ∧ (mx_lay a0).1 = 15 then
  ((f_X12_number a0 1 4 59 h).bind fun x41 =>
  (mx_as x41.2 x40 1 x41.1).bind fun h43 =>
  (mx_gr h43 a0 12 3).bind fun x44 =>
  (mx_al h43 x44 1).bind fun x45 =>
  (if x45 ≤ 0 then
  some 0
  else
  some 1 : Option (Int32)).bind fun v47 =>
  if v47 = 0 ∨ v47 = 1 then some (v47, h43) else none)
  else none
  else
  if a1 = 119 then
  if a0 < h.1 ∧ (mx_lay a0).1 = 15 then
  ((f_X12_number a0 0 3 44 h).bind fun x50 =>
  (if 0 ≤ x50.1 then
  if a0 < x50.2.1 ∧ (mx_lay a0).1 = 15 then
  ((f_X12_number a0 0 9 59 x50.2).bind fun x53 =>
  some (x53.1, x53.2))
  else none
  else
  some ((-1), x50.2) : Option (Int32 × mx_Hp)).bind fun v55 =>
  if v55.1 < 0 then
  some (0, v55.2)
  else
  (mx_gr v55.2 a0 12 3).bind fun x57 =>
  (mx_al v55.2 x57 0).bind fun x58 =>
  if ¬ x58 = 10 then
  if a0 < v55.2.1 ∧ (mx_lay a0).1 = 15 then
  ((f_X12_wordOf a0 x50.1 v55.1 v55.2).bind fun x60 =>
  some (1, x60))
  else none
  else
  some (0, v55.2))
  else none
  else
  some (0, h)
def f_X12_readsAll_L9 (l0 : Nat)  : (mx_Hp → Option (Int32 × mx_Hp)) → mx_Hp → Option (Int32 × mx_Hp) := fun self s =>
  (mx_gi s l0 12 11).bind fun x4 =>
  (mx_gi s l0 12 1).bind fun x5 =>
  if x5 ≤ x4 then
  some ((-4), s)
  else
  (mx_gi s l0 12 11).bind fun x7 =>
  (mx_gi s l0 12 11).bind fun x8 =>
  (mx_pi s l0 12 11 (x8 + 1)).bind fun h9 =>
  (mx_gr h9 l0 12 0).bind fun x10 =>
  (mx_al h9 x10 x7).bind fun x11 =>
  if l0 < h9.1 ∧ (mx_lay l0).1 = 15 then
  ((f_X12_readsItem l0 x11 h9).bind fun x12 =>
  if ¬ x12.1 = 0 then
  self x12.2
  else
  some (x7, x12.2))
  else none
def f_X12_readsAll (a0 : Nat) (h : mx_Hp) : Option (Int32 × mx_Hp) :=
  if a0 < h.1 ∧ (mx_lay a0).1 = 15 then
  ((f_X12_begins a0 h).bind fun x1 =>
  (mx_pi x1 a0 12 11 0).bind fun h3 =>
  mx_fix (f_X12_readsAll_L9 a0) 2000 h3)
  else none
def f_X12_fault (a0 : Nat) (h : mx_Hp) : Option (Int32 × mx_Hp) :=
  if a0 < h.1 ∧ (mx_lay a0).1 = 15 then
  ((f_X12_readsAll a0 h).bind fun x1 =>
  some (x1.1, x1.2))
  else none
def f_X12_lay (a0 : Nat) (h : mx_Hp) : Option (Int32 × mx_Hp) :=
  if a0 < h.1 ∧ (mx_lay a0).1 = 15 then
  ((f_X12_readsAll a0 h).bind fun x1 =>
  if ¬ x1.1 = (-4) then
  some ((-2), x1.2)
  else
  (mx_gr x1.2 a0 12 3).bind fun x4 =>
  (mx_al x1.2 x4 0).bind fun x5 =>
  if ¬ x5 = 0 then
  if a0 < x1.2.1 ∧ (mx_lay a0).1 = 15 then
  ((f_X12_lays a0 x1.2).bind fun x7 =>
  (mx_gr x7 a0 12 2).bind fun x9 =>
  (mx_al x7 x9 0).bind fun x10 =>
  some (x10, x7))
  else none
  else
  some ((-2), x1.2))
  else none
def f_X12_word (a0 : Nat) (a1 : Int32) (a2 : Int32) (h : mx_Hp) : Option (Int32) :=
  if a0 < h.1 ∧ (mx_lay a0).1 = 15 then
  ((f_X12_isWord a0 a1 h).bind fun x1 =>
  if ¬ x1 = 0 then
  if a2 = 0 then
  (mx_gr h a0 12 2).bind fun x5 =>
  (mx_al h x5 (3 + a1)).bind fun x6 =>
  some x6
  else
  if a2 = 1 then
  (mx_gr h a0 12 2).bind fun x8 =>
  (mx_al h x8 (13 + a1)).bind fun x9 =>
  some x9
  else
  if a2 = 2 then
  (mx_gr h a0 12 2).bind fun x11 =>
  (mx_al h x11 (23 + a1)).bind fun x12 =>
  some x12
  else
  if a2 = 3 then
  (mx_gr h a0 12 4).bind fun x14 =>
  (mx_al h x14 19).bind fun x15 =>
  (f_X12_has x15 a1 h).bind fun x16 =>
  (if x16 = 0 then
  some 0
  else
  some 1 : Option (Int32)).bind fun v18 =>
  (mx_gr h a0 12 4).bind fun x19 =>
  (mx_al h x19 20).bind fun x20 =>
  (f_X12_has x20 a1 h).bind fun x21 =>
  (if x21 = 0 then
  some 0
  else
  some 2 : Option (Int32)).bind fun v23 =>
  some (v18 + v23)
  else
  some (-1)
  else
  some (-1))
  else none
def f_X12_mayor (a0 : Nat) (a1 : Int32) (a2 : Int32) (h : mx_Hp) : Option (Int32) :=
  (f_X12_in a1 0 1 h).bind fun x1 =>
  if ¬ x1 = 0 then
  if a2 = 0 then
  (mx_gr h a0 12 4).bind fun x4 =>
  (mx_al h x4 13).bind fun x5 =>
  (if ¬ x5 = a1 then
  some 0
  else
  some 1 : Option (Int32)).bind fun v7 =>
  some v7
  else
  if a2 = 1 then
  (mx_gr h a0 12 4).bind fun x9 =>
  (mx_al h x9 (15 + a1)).bind fun x10 =>
  some x10
  else
  if a2 = 2 then
  (mx_gr h a0 12 4).bind fun x12 =>
  (mx_al h x12 (17 + a1)).bind fun x13 =>
  some x13
  else
  if a2 = 3 then
  (mx_gr h a0 12 4).bind fun x15 =>
  (mx_al h x15 (19 + a1)).bind fun x16 =>
  some x16
  else
  some (-1)
  else
  some (-1)
def f_X12_said (a0 : Nat) (a1 : Int32) (h : mx_Hp) : Option (Int32) :=
  (if 0 ≤ a1 then
  (mx_gr h a0 12 4).bind fun x2 =>
  (mx_al h x2 12).bind fun x3 =>
  if x3 ≤ a1 then
  some (-4)
  else
  (mx_gr h a0 12 4).bind fun x5 =>
  (mx_al h x5 a1).bind fun x6 =>
  some x6
  else
  some (-1) : Option (Int32)).bind fun v7 =>
  some v7
def f_X12_keeps_L51 (l0 : Nat) (k83 : Int32 × mx_Hp → Option (mx_Hp)) : (Int32 × mx_Hp → Option (mx_Hp)) → Int32 × mx_Hp → Option (mx_Hp) := fun self s =>
  if 22 ≤ s.1 then
  k83 (s.1, s.2)
  else
  (mx_gr s.2 l0 12 5).bind fun x4 =>
  (mx_gi s.2 l0 12 6).bind fun x5 =>
  (mx_gr s.2 l0 12 4).bind fun x6 =>
  (mx_al s.2 x6 s.1).bind fun x7 =>
  (mx_as s.2 x4 ((22 * x5) + s.1) x7).bind fun h8 =>
  self ((s.1 + 1), h8)
def f_X12_keeps_L11 (l0 : Nat) (k39 : Int32 × mx_Hp → Option (mx_Hp)) : (Int32 × mx_Hp → Option (mx_Hp)) → Int32 × mx_Hp → Option (mx_Hp) := fun self s =>
  if 154 ≤ s.1 then
  k39 (s.1, s.2)
  else
  (mx_gr s.2 l0 12 5).bind fun x19 =>
  (mx_gr s.2 l0 12 5).bind fun x20 =>
  (mx_al s.2 x20 (s.1 + 22)).bind fun x21 =>
  (mx_as s.2 x19 s.1 x21).bind fun h22 =>
  self ((s.1 + 1), h22)
def f_X12_keeps (a0 : Nat) (h : mx_Hp) : Option (mx_Hp) :=
  (mx_gi h a0 12 6).bind fun x1 =>
  if ¬ x1 = 8 then
  mx_fix (f_X12_keeps_L51 a0 (fun s15 => (mx_gi s15.2 a0 12 6).bind fun x16 =>
  (mx_pi s15.2 a0 12 6 (x16 + 1)).bind fun h17 =>
  some h17)) 2000 (0, h)
  else
  mx_fix (f_X12_keeps_L11 a0 (fun s28 => (mx_gi s28.2 a0 12 6).bind fun x29 =>
  (mx_pi s28.2 a0 12 6 (x29 - 1)).bind fun h30 =>
  mx_fix (f_X12_keeps_L51 a0 (fun s31 => (mx_gi s31.2 a0 12 6).bind fun x32 =>
  (mx_pi s31.2 a0 12 6 (x32 + 1)).bind fun h33 =>
  some h33)) 2000 (0, h30))) 2000 (0, h)
def f_X12_last (a0 : Nat) (h : mx_Hp) : Option (Int32) :=
  (mx_gr h a0 12 4).bind fun x1 =>
  (mx_gr h a0 12 4).bind fun x2 =>
  (mx_al h x2 12).bind fun x3 =>
  (mx_al h x1 (x3 - 1)).bind fun x4 =>
  some x4
def f_X12_maySay (a0 : Nat) (a1 : Int32) (h : mx_Hp) : Option (Int32) :=
  (mx_gr h a0 12 4).bind fun x1 =>
  (mx_al h x1 12).bind fun x2 =>
  (if x2 = 0 then
  some 1
  else
  (mx_gr h a0 12 2).bind fun x4 =>
  if a0 < h.1 ∧ (mx_lay a0).1 = 15 then
  ((f_X12_last a0 h).bind fun x5 =>
  (mx_al h x4 (23 + x5)).bind fun x7 =>
  (f_X12_has x7 a1 h).bind fun x8 =>
  if x8 = 0 then
  some 0
  else
  some 1)
  else none : Option (Int32)).bind fun v10 =>
  if v10 = 0 ∨ v10 = 1 then some v10 else none
def f_X12_says (a0 : Nat) (a1 : Int32) (h : mx_Hp) : Option (mx_Hp) :=
  (mx_gr h a0 12 4).bind fun x1 =>
  (mx_gr h a0 12 4).bind fun x2 =>
  (mx_al h x2 12).bind fun x3 =>
  (mx_as h x1 x3 a1).bind fun h4 =>
  (mx_gr h4 a0 12 4).bind fun x5 =>
  (mx_al h4 x5 12).bind fun x6 =>
  (mx_as h4 x5 12 (x6 + 1)).bind fun h7 =>
  (mx_gr h7 a0 12 4).bind fun x8 =>
  (mx_al h7 x8 14).bind fun x9 =>
  (mx_as h7 x8 14 (x9 + 1)).bind fun h10 =>
  some h10
def f_X12_say (a0 : Nat) (a1 : Int32) (h : mx_Hp) : Option (Int32 × mx_Hp) :=
  if a0 < h.1 ∧ (mx_lay a0).1 = 15 then
  ((f_X12_isWord a0 a1 h).bind fun x1 =>
  if ¬ x1 = 0 then
  if a0 < h.1 ∧ (mx_lay a0).1 = 15 then
  ((f_X12_maySay a0 a1 h).bind fun x4 =>
  if ¬ x4 = 0 then
  (mx_gr h a0 12 4).bind fun x7 =>
  (mx_al h x7 12).bind fun x8 =>
  if ¬ x8 = 12 then
  if a0 < h.1 ∧ (mx_lay a0).1 = 15 then
  ((f_X12_keeps a0 h).bind fun x10 =>
  if a0 < x10.1 ∧ (mx_lay a0).1 = 15 then
  ((f_X12_says a0 a1 x10).bind fun x12 =>
  (mx_gr x12 a0 12 4).bind fun x14 =>
  (mx_al x12 x14 12).bind fun x15 =>
  some (x15, x12))
  else none)
  else none
  else
  some ((-3), h)
  else
  some ((-2), h))
  else none
  else
  some ((-1), h))
  else none
def f_X12_worthNow_L4 (l0 : Nat) (h : mx_Hp)  : (Int32 × Int32 → Option (Int32)) → Int32 × Int32 → Option (Int32) := fun self s =>
  (mx_gr h l0 12 4).bind fun x1 =>
  (mx_al h x1 12).bind fun x2 =>
  if x2 ≤ s.2 then
  some s.1
  else
  (mx_gr h l0 12 2).bind fun x4 =>
  (mx_gr h l0 12 4).bind fun x5 =>
  (mx_al h x5 s.2).bind fun x6 =>
  (mx_al h x4 (13 + x6)).bind fun x7 =>
  self ((s.1 + x7), (s.2 + 1))
def f_X12_worthNow (a0 : Nat) (h : mx_Hp) : Option (Int32) :=
  mx_fix (f_X12_worthNow_L4 a0 h) 2000 (0, 0)
def f_X12_decrees (a0 : Nat) (a1 : Int32) (a2 : Int32) (h : mx_Hp) : Option (mx_Hp) :=
  (mx_gr h a0 12 4).bind fun x1 =>
  (mx_al h x1 (15 + a1)).bind fun x2 =>
  (mx_as h x1 (15 + a1) (x2 + 1)).bind fun h3 =>
  (mx_gr h3 a0 12 4).bind fun x4 =>
  (mx_al h3 x4 (17 + a1)).bind fun x5 =>
  (mx_as h3 x4 (17 + a1) (x5 + a2)).bind fun h6 =>
  (mx_gr h6 a0 12 4).bind fun x7 =>
  (mx_as h6 x7 12 0).bind fun h8 =>
  some h8
def f_X12_mayEnd (a0 : Nat) (h : mx_Hp) : Option (Int32) :=
  (mx_gr h a0 12 4).bind fun x1 =>
  (mx_al h x1 12).bind fun x2 =>
  (if x2 ≤ 0 then
  some 0
  else
  (mx_gr h a0 12 2).bind fun x4 =>
  if a0 < h.1 ∧ (mx_lay a0).1 = 15 then
  ((f_X12_last a0 h).bind fun x5 =>
  (mx_al h x4 (3 + x5)).bind fun x7 =>
  if ¬ x7 = 2 then
  some 0
  else
  some 1)
  else none : Option (Int32)).bind fun v9 =>
  if v9 = 0 ∨ v9 = 1 then some v9 else none
def f_X12_end (a0 : Nat) (h : mx_Hp) : Option (Int32 × mx_Hp) :=
  if a0 < h.1 ∧ (mx_lay a0).1 = 15 then
  ((f_X12_mayEnd a0 h).bind fun x1 =>
  if ¬ x1 = 0 then
  if a0 < h.1 ∧ (mx_lay a0).1 = 15 then
  ((f_X12_keeps a0 h).bind fun x4 =>
  if a0 < x4.1 ∧ (mx_lay a0).1 = 15 then
  ((f_X12_worthNow a0 x4).bind fun x6 =>
  (mx_gr x4 a0 12 4).bind fun x8 =>
  (mx_al x4 x8 13).bind fun x9 =>
  if a0 < x4.1 ∧ (mx_lay a0).1 = 15 then
  ((f_X12_decrees a0 x9 x6 x4).bind fun x10 =>
  some (x6, x10))
  else none)
  else none)
  else none
  else
  some ((-2), h))
  else none
def f_X12_stops_L4 (l0 : Nat) (h : mx_Hp)  : (Int32 × Int32 → Option (Int32)) → Int32 × Int32 → Option (Int32) := fun self s =>
  (mx_gr h l0 12 2).bind fun x1 =>
  (mx_al h x1 0).bind fun x2 =>
  if x2 ≤ s.2 then
  some s.1
  else
  (mx_gr h l0 12 2).bind fun x4 =>
  (mx_al h x4 (3 + s.2)).bind fun x5 =>
  (if ¬ x5 = 2 then
  some 0
  else
  some ((1 : Int32) <<< (s.2 &&& 31)) : Option (Int32)).bind fun v7 =>
  self ((s.1 ||| v7), (s.2 + 1))
def f_X12_stops (a0 : Nat) (h : mx_Hp) : Option (Int32) :=
  mx_fix (f_X12_stops_L4 a0 h) 2000 (0, 0)
def f_X12_levelsOf_L26 (l0 : Nat) (l1 : Int32) (l2 : Int32) (k81 : Int32 × mx_Hp → Option (mx_Hp)) : (Int32 × mx_Hp → Option (mx_Hp)) → Int32 × mx_Hp → Option (mx_Hp) := fun self s =>
  (mx_gr s.2 l0 12 2).bind fun x8 =>
  (mx_al s.2 x8 0).bind fun x9 =>
  if x9 ≤ s.1 then
  k81 (s.1, s.2)
  else
  (mx_gr s.2 l0 12 12).bind fun x11 =>
  (mx_al s.2 x11 l2).bind fun x12 =>
  (mx_gr s.2 l0 12 2).bind fun x13 =>
  (mx_al s.2 x13 (23 + s.1)).bind fun x14 =>
  (mx_gr s.2 l0 12 12).bind fun x15 =>
  (mx_al s.2 x15 (l2 - 1)).bind fun x16 =>
  (if ((x14 &&& l1) &&& x16) = 0 then
  some 0
  else
  some ((1 : Int32) <<< (s.1 &&& 31)) : Option (Int32)).bind fun v18 =>
  (mx_as s.2 x11 l2 (x12 ||| v18)).bind fun h19 =>
  self ((s.1 + 1), h19)
def f_X12_levelsOf_L12 (l0 : Nat) (l1 : Int32)  : (Int32 × mx_Hp → Option (mx_Hp)) → Int32 × mx_Hp → Option (mx_Hp) := fun self s =>
  if 5 ≤ s.1 then
  some s.2
  else
  (mx_gr s.2 l0 12 12).bind fun x6 =>
  (mx_as s.2 x6 s.1 0).bind fun h7 =>
  mx_fix (f_X12_levelsOf_L26 l0 l1 s.1 (fun s32 => self ((s.1 + 1), s32.2))) 2000 (0, h7)
def f_X12_levelsOf (a0 : Nat) (a1 : Int32) (h : mx_Hp) : Option (mx_Hp) :=
  (mx_gr h a0 12 12).bind fun x1 =>
  if a0 < h.1 ∧ (mx_lay a0).1 = 15 then
  ((f_X12_stops a0 h).bind fun x2 =>
  (mx_as h x1 0 x2).bind fun h4 =>
  mx_fix (f_X12_levelsOf_L12 a0 a1) 2000 (1, h4))
  else none
def f_X12_finishes_L15 (l0 : Nat) (l1 : Int32) (l2 : Int32) (h : mx_Hp) (k47 : Int32 × Int32 → Option (Int32 × mx_Hp)) : (Int32 × Int32 → Option (Int32 × mx_Hp)) → Int32 × Int32 → Option (Int32 × mx_Hp) := fun self s =>
  if s.2 ≤ 0 then
  k47 (s.1, s.2)
  else
  (mx_gr h l0 12 12).bind fun x6 =>
  (mx_al h x6 s.2).bind fun x7 =>
  (f_X12_has x7 l1 h).bind fun x8 =>
  (if x8 = 0 then
  some s.1
  else
  some s.2 : Option (Int32)).bind fun v10 =>
  self (v10, (s.2 + (-1)))
def f_X12_finishes_L106 (l0 : Nat) (l2 : Int32) (l3 : Int32) (l5 : Int32) (l6 : Int32) (h : mx_Hp) (k122 : Int32 → Option (Int32 × mx_Hp)) : (Int32 → Option (Int32 × mx_Hp)) → Int32 → Option (Int32 × mx_Hp) := fun self s =>
  (f_X12_has l6 s h).bind fun x27 =>
  if ¬ x27 = 0 then
  k122 s
  else
  self (s + 1)
def f_X12_finishes_L71 (l0 : Nat) (l2 : Int32) (l3 : Int32)  : (Int32 × Int32 × mx_Hp → Option (Int32 × mx_Hp)) → Int32 × Int32 × mx_Hp → Option (Int32 × mx_Hp) := fun self s =>
  if l3 ≤ s.2.1 then
  some (l3, s.2.2)
  else
  (mx_gr s.2.2 l0 12 2).bind fun x23 =>
  (mx_al s.2.2 x23 (23 + s.1)).bind fun x24 =>
  (mx_gr s.2.2 l0 12 12).bind fun x25 =>
  (mx_al s.2.2 x25 ((l3 - 1) - s.2.1)).bind fun x26 =>
  mx_fix (f_X12_finishes_L106 l0 l2 l3 s.2.1 ((x24 &&& l2) &&& x26) s.2.2 (fun s31 => (mx_gr s.2.2 l0 12 13).bind fun x32 =>
  (mx_as s.2.2 x32 s.2.1 s31).bind fun h33 =>
  self (s31, (s.2.1 + 1), h33))) 2000 0
def f_X12_finishes (a0 : Nat) (a1 : Int32) (a2 : Int32) (h : mx_Hp) : Option (Int32 × mx_Hp) :=
  if a0 < h.1 ∧ (mx_lay a0).1 = 15 then
  ((f_X12_levelsOf a0 a2 h).bind fun x1 =>
  (mx_gr x1 a0 12 2).bind fun x3 =>
  (mx_al x1 x3 1).bind fun x4 =>
  mx_fix (f_X12_finishes_L15 a0 a1 a2 x1 (fun s17 => (mx_gr x1 a0 12 2).bind fun x18 =>
  (mx_al x1 x18 (3 + a1)).bind fun x19 =>
  (if ¬ x19 = 1 then
  some s17.1
  else
  some 0 : Option (Int32)).bind fun v21 =>
  mx_fix (f_X12_finishes_L71 a0 a2 v21) 2000 (a1, 0, x1))) 2000 (0, x4))
  else none
def f_X12_all (a0 : Nat) (h : mx_Hp) : Option (Int32) :=
  (mx_gr h a0 12 2).bind fun x1 =>
  (mx_al h x1 0).bind fun x2 =>
  some (((1 : Int32) <<< (x2 &&& 31)) - 1)
def f_X12_knowsFor (a0 : Nat) (a1 : Int32) (h : mx_Hp) : Option (Int32) :=
  (mx_gr h a0 12 2).bind fun x1 =>
  (mx_al h x1 (3 + a1)).bind fun x2 =>
  (if ¬ x2 = 3 then
  (mx_gr h a0 12 4).bind fun x4 =>
  (mx_gr h a0 12 4).bind fun x5 =>
  (mx_al h x5 13).bind fun x6 =>
  (mx_al h x4 (20 - x6)).bind fun x7 =>
  some x7
  else
  if a0 < h.1 ∧ (mx_lay a0).1 = 15 then
  ((f_X12_all a0 h).bind fun x8 =>
  some x8)
  else none : Option (Int32)).bind fun v10 =>
  some v10
def f_X12_finishesNow (a0 : Nat) (h : mx_Hp) : Option (Int32 × mx_Hp) :=
  (mx_gr h a0 12 4).bind fun x1 =>
  (mx_al h x1 12).bind fun x2 =>
  (if ¬ x2 = 0 then
  if a0 < h.1 ∧ (mx_lay a0).1 = 15 then
  ((f_X12_last a0 h).bind fun x4 =>
  (mx_gr h a0 12 4).bind fun x6 =>
  (mx_al h x6 0).bind fun x7 =>
  if a0 < h.1 ∧ (mx_lay a0).1 = 15 then
  ((f_X12_knowsFor a0 x7 h).bind fun x8 =>
  if a0 < h.1 ∧ (mx_lay a0).1 = 15 then
  ((f_X12_finishes a0 x4 x8 h).bind fun x10 =>
  some (x10.1, x10.2))
  else none)
  else none)
  else none
  else
  some (0, h) : Option (Int32 × mx_Hp)).bind fun v12 =>
  some (v12.1, v12.2)
def f_X12_ends_L12 (l0 : Nat) (l1 : Int32) (h : mx_Hp) (k40 : Int32 × Int32 → Option (Int32 × mx_Hp)) : (Int32 × Int32 → Option (Int32 × mx_Hp)) → Int32 × Int32 → Option (Int32 × mx_Hp) := fun self s =>
  if l1 ≤ s.2 then
  k40 (s.1, s.2)
  else
  (mx_gr h l0 12 2).bind fun x6 =>
  (mx_gr h l0 12 13).bind fun x7 =>
  (mx_al h x7 s.2).bind fun x8 =>
  (mx_al h x6 (13 + x8)).bind fun x9 =>
  self ((s.1 + x9), (s.2 + 1))
def f_X12_ends (a0 : Nat) (h : mx_Hp) : Option (Int32 × mx_Hp) :=
  if a0 < h.1 ∧ (mx_lay a0).1 = 15 then
  ((f_X12_finishesNow a0 h).bind fun x1 =>
  if a0 < x1.2.1 ∧ (mx_lay a0).1 = 15 then
  ((f_X12_worthNow a0 x1.2).bind fun x3 =>
  mx_fix (f_X12_ends_L12 a0 x1.1 x1.2 (fun s15 => (mx_gr x1.2 a0 12 4).bind fun x16 =>
  (mx_al x1.2 x16 14).bind fun x17 =>
  (mx_as x1.2 x16 14 (x17 + x1.1)).bind fun h18 =>
  (mx_gr h18 a0 12 4).bind fun x19 =>
  (mx_gr h18 a0 12 4).bind fun x20 =>
  (mx_al h18 x20 13).bind fun x21 =>
  (mx_as h18 x19 13 (1 - x21)).bind fun h22 =>
  (mx_gr h22 a0 12 4).bind fun x23 =>
  (mx_al h22 x23 21).bind fun x24 =>
  (mx_as h22 x23 21 (x24 + 1)).bind fun h25 =>
  (mx_gr h25 a0 12 4).bind fun x26 =>
  (mx_al h25 x26 13).bind fun x27 =>
  if a0 < h25.1 ∧ (mx_lay a0).1 = 15 then
  ((f_X12_decrees a0 x27 s15.1 h25).bind fun x28 =>
  some (s15.1, x28))
  else none)) 2000 (x3, 0))
  else none)
  else none
def f_X12_finish (a0 : Nat) (h : mx_Hp) : Option (Int32 × mx_Hp) :=
  if a0 < h.1 ∧ (mx_lay a0).1 = 15 then
  ((f_X12_finishesNow a0 h).bind fun x1 =>
  if ¬ x1.1 = 0 then
  if a0 < x1.2.1 ∧ (mx_lay a0).1 = 15 then
  ((f_X12_keeps a0 x1.2).bind fun x4 =>
  if a0 < x4.1 ∧ (mx_lay a0).1 = 15 then
  ((f_X12_ends a0 x4).bind fun x6 =>
  some (x6.1, x6.2))
  else none)
  else none
  else
  some ((-2), x1.2))
  else none
def f_X12_drops (a0 : Nat) (h : mx_Hp) : Option (mx_Hp) :=
  (mx_gr h a0 12 4).bind fun x1 =>
  (mx_as h x1 12 0).bind fun h2 =>
  (mx_gr h2 a0 12 4).bind fun x3 =>
  (mx_al h2 x3 14).bind fun x4 =>
  (mx_as h2 x3 14 (x4 + 1)).bind fun h5 =>
  some h5
def f_X12_drop (a0 : Nat) (h : mx_Hp) : Option (Int32 × mx_Hp) :=
  (mx_gr h a0 12 4).bind fun x1 =>
  (mx_al h x1 12).bind fun x2 =>
  if ¬ x2 = 0 then
  if a0 < h.1 ∧ (mx_lay a0).1 = 15 then
  ((f_X12_keeps a0 h).bind fun x4 =>
  (mx_gr x4 a0 12 4).bind fun x6 =>
  (mx_al x4 x6 12).bind fun x7 =>
  if a0 < x4.1 ∧ (mx_lay a0).1 = 15 then
  ((f_X12_drops a0 x4).bind fun x8 =>
  some (x7, x8))
  else none)
  else none
  else
  some ((-2), h)
def f_X12_learn (a0 : Nat) (a1 : Int32) (a2 : Int32) (h : mx_Hp) : Option (Int32 × mx_Hp) :=
  (f_X12_in a1 0 1 h).bind fun x1 =>
  if x1 = 0 then
  some ((-1), h)
  else
  if a0 < h.1 ∧ (mx_lay a0).1 = 15 then
  ((f_X12_isWord a0 a2 h).bind fun x3 =>
  if ¬ x3 = 0 then
  if a0 < h.1 ∧ (mx_lay a0).1 = 15 then
  ((f_X12_keeps a0 h).bind fun x6 =>
  (mx_gr x6 a0 12 4).bind fun x8 =>
  (mx_al x6 x8 (19 + a1)).bind fun x9 =>
  (mx_as x6 x8 (19 + a1) (x9 ^^^ ((1 : Int32) <<< (a2 &&& 31)))).bind fun h10 =>
  (mx_gr h10 a0 12 4).bind fun x11 =>
  (mx_al h10 x11 (19 + a1)).bind fun x12 =>
  (f_X12_has x12 a2 h10).bind fun x13 =>
  (if x13 = 0 then
  some 0
  else
  some 1 : Option (Int32)).bind fun v15 =>
  some (v15, h10))
  else none
  else
  some ((-1), h))
  else none
def f_X12_undo_L22 (l0 : Nat)  : (Int32 × mx_Hp → Option (Int32 × mx_Hp)) → Int32 × mx_Hp → Option (Int32 × mx_Hp) := fun self s =>
  if 22 ≤ s.1 then
  (mx_gi s.2 l0 12 6).bind fun x6 =>
  some (x6, s.2)
  else
  (mx_gr s.2 l0 12 4).bind fun x7 =>
  (mx_gr s.2 l0 12 5).bind fun x8 =>
  (mx_gi s.2 l0 12 6).bind fun x9 =>
  (mx_al s.2 x8 ((22 * x9) + s.1)).bind fun x10 =>
  (mx_as s.2 x7 s.1 x10).bind fun h11 =>
  self ((s.1 + 1), h11)
def f_X12_undo (a0 : Nat) (h : mx_Hp) : Option (Int32 × mx_Hp) :=
  (mx_gi h a0 12 6).bind fun x1 =>
  if ¬ x1 = 0 then
  (mx_gi h a0 12 6).bind fun x3 =>
  (mx_pi h a0 12 6 (x3 - 1)).bind fun h4 =>
  mx_fix (f_X12_undo_L22 a0) 2000 (0, h4)
  else
  some ((-2), h)
def f_X12_finishing (a0 : Nat) (a1 : Int32) (h : mx_Hp) : Option (Int32 × mx_Hp) :=
  (f_X12_in a1 (-1) 3 h).bind fun x1 =>
  if ¬ x1 = 0 then
  if a0 < h.1 ∧ (mx_lay a0).1 = 15 then
  ((f_X12_finishesNow a0 h).bind fun x3 =>
  (if ¬ x3.1 = 0 then
  if ¬ a1 = (-1) then
  if x3.1 ≤ a1 then
  some (-4)
  else
  (mx_gr x3.2 a0 12 13).bind fun x8 =>
  (mx_al x3.2 x8 a1).bind fun x9 =>
  some x9
  else
  some x3.1
  else
  some (-4) : Option (Int32)).bind fun v10 =>
  some (v10, x3.2))
  else none
  else
  some ((-1), h)
def f_X12_lost_L11 (l0 : Nat) (l2 : Int32)  : (Int32 × Int32 × mx_Hp → Option (Int32 × mx_Hp)) → Int32 × Int32 × mx_Hp → Option (Int32 × mx_Hp) := fun self s =>
  (mx_gr s.2.2 l0 12 2).bind fun x3 =>
  (mx_al s.2.2 x3 0).bind fun x4 =>
  if x4 ≤ s.2.1 then
  some (s.1, s.2.2)
  else
  if l0 < s.2.2.1 ∧ (mx_lay l0).1 = 15 then
  ((f_X12_finishes l0 s.2.1 l2 s.2.2).bind fun x6 =>
  (if x6.1 ≤ 0 then
  some 0
  else
  some ((1 : Int32) <<< (s.2.1 &&& 31)) : Option (Int32)).bind fun v9 =>
  self ((s.1 ||| v9), (s.2.1 + 1), x6.2))
  else none
def f_X12_lost (a0 : Nat) (a1 : Int32) (h : mx_Hp) : Option (Int32 × mx_Hp) :=
  if a0 < h.1 ∧ (mx_lay a0).1 = 15 then
  ((f_X12_knowsFor a0 a1 h).bind fun x1 =>
  mx_fix (f_X12_lost_L11 a0 x1) 2000 (0, 0, h))
  else none
def f_X12_reckons_L46 (l0 : Nat) (l1 : Int32) (l2 : Int32) (l3 : Int32) (k199 : Int32 × mx_Hp → Option (mx_Hp)) : (Int32 × mx_Hp → Option (mx_Hp)) → Int32 × mx_Hp → Option (mx_Hp) := fun self s =>
  (mx_gr s.2 l0 12 2).bind fun x12 =>
  (mx_al s.2 x12 0).bind fun x13 =>
  if x13 ≤ s.1 then
  k199 (s.1, s.2)
  else
  (f_X12_has l2 s.1 s.2).bind fun x15 =>
  (if x15 = 0 then
  (mx_gr s.2 l0 12 2).bind fun x17 =>
  (mx_al s.2 x17 (23 + s.1)).bind fun x18 =>
  some x18
  else
  some 0 : Option (Int32)).bind fun v19 =>
  (mx_gr s.2 l0 12 14).bind fun x20 =>
  (mx_al s.2 x20 ((10 + l3) - 1)).bind fun x21 =>
  (if (v19 &&& x21) = 0 then
  some 0
  else
  some 1 : Option (Int32)).bind fun v23 =>
  (mx_gr s.2 l0 12 14).bind fun x24 =>
  (mx_al s.2 x24 ((10 + l3) - 1)).bind fun x25 =>
  (f_X12_has (v19 &&& x25) l1 s.2).bind fun x26 =>
  (mx_gr s.2 l0 12 14).bind fun x27 =>
  (mx_al s.2 x27 (10 + l3)).bind fun x28 =>
  (if v23 = 0 then
  some 0
  else
  some ((1 : Int32) <<< (s.1 &&& 31)) : Option (Int32)).bind fun v30 =>
  (mx_as s.2 x27 (10 + l3) (x28 ||| v30)).bind fun h31 =>
  (mx_gr h31 l0 12 14).bind fun x32 =>
  (mx_al h31 x32 l3).bind fun x33 =>
  (if ¬ x26 = 0 then
  some ((1 : Int32) <<< (s.1 &&& 31))
  else
  (mx_gr h31 l0 12 14).bind fun x35 =>
  (mx_al h31 x35 (l3 - 1)).bind fun x36 =>
  if ((v19 &&& (((1 : Int32) <<< (l1 &&& 31)) ^^^ (-1))) &&& x36) = 0 then
  some 0
  else
  some ((1 : Int32) <<< (s.1 &&& 31)) : Option (Int32)).bind fun v38 =>
  (mx_as h31 x32 l3 (x33 ||| v38)).bind fun h39 =>
  self ((s.1 + 1), h39)
def f_X12_reckons_L20 (l0 : Nat) (l1 : Int32) (l2 : Int32)  : (Int32 × mx_Hp → Option (mx_Hp)) → Int32 × mx_Hp → Option (mx_Hp) := fun self s =>
  if 10 ≤ s.1 then
  some s.2
  else
  (mx_gr s.2 l0 12 14).bind fun x8 =>
  (mx_as s.2 x8 s.1 0).bind fun h9 =>
  (mx_gr h9 l0 12 14).bind fun x10 =>
  (mx_as h9 x10 (10 + s.1) 0).bind fun h11 =>
  mx_fix (f_X12_reckons_L46 l0 l1 l2 s.1 (fun s68 => self ((s.1 + 1), s68.2))) 2000 (0, h11)
def f_X12_reckons (a0 : Nat) (a1 : Int32) (a2 : Int32) (h : mx_Hp) : Option (mx_Hp) :=
  (mx_gr h a0 12 14).bind fun x1 =>
  (mx_as h x1 0 0).bind fun h2 =>
  (mx_gr h2 a0 12 14).bind fun x3 =>
  if a0 < h2.1 ∧ (mx_lay a0).1 = 15 then
  ((f_X12_stops a0 h2).bind fun x4 =>
  (mx_as h2 x3 10 x4).bind fun h6 =>
  mx_fix (f_X12_reckons_L20 a0 a1 a2) 2000 (1, h6))
  else none
def f_X12_lowest_L2 (l0 : Int32) (h : mx_Hp)  : (Int32 → Option (Int32)) → Int32 → Option (Int32) := fun self s =>
  (f_X12_has l0 s h).bind fun x1 =>
  if ¬ x1 = 0 then
  some s
  else
  self (s + 1)
def f_X12_lowest (a0 : Int32) (h : mx_Hp) : Option (Int32) :=
  mx_fix (f_X12_lowest_L2 a0 h) 2000 0
def f_X12_isSafe_L53 (l0 : Nat) (l1 : Int32) (l3 : Int32) (l5 : Int32)  : (Int32 × Int32 × Int32 × mx_Hp → Option (Int32 × mx_Hp)) → Int32 × Int32 × Int32 × mx_Hp → Option (Int32 × mx_Hp) := fun self s =>
  if l3 ≤ s.2.2.1 then
  if l5 = 0 ∨ l5 = 1 then some (l5, s.2.2.2) else none
  else
  if l5 = 0 then
  if l5 = 0 ∨ l5 = 1 then some (l5, s.2.2.2) else none
  else
  (mx_gr s.2.2.2 l0 12 2).bind fun x16 =>
  (mx_al s.2.2.2 x16 (23 + s.2.1)).bind fun x17 =>
  (if s.1 ≤ 0 then
  (mx_gr s.2.2.2 l0 12 14).bind fun x19 =>
  (mx_al s.2.2.2 x19 ((l3 - 1) - s.2.2.1)).bind fun x20 =>
  (mx_gr s.2.2.2 l0 12 14).bind fun x21 =>
  (mx_al s.2.2.2 x21 (10 + ((l3 - 1) - s.2.2.1))).bind fun x22 =>
  some (x17 &&& ((x20 &&& (((1 : Int32) <<< (l1 &&& 31)) ^^^ (-1))) ||| (x22 &&& ((1 : Int32) <<< (l1 &&& 31)))))
  else
  (mx_gr s.2.2.2 l0 12 14).bind fun x23 =>
  (mx_al s.2.2.2 x23 (10 + ((l3 - 1) - s.2.2.1))).bind fun x24 =>
  some (x17 &&& x24) : Option (Int32)).bind fun v25 =>
  (f_X12_lowest v25 s.2.2.2).bind fun x26 =>
  (if ¬ x26 = l1 then
  some s.1
  else
  some 10 : Option (Int32)).bind fun v28 =>
  (mx_gr s.2.2.2 l0 12 13).bind fun x29 =>
  (mx_as s.2.2.2 x29 s.2.2.1 x26).bind fun h30 =>
  self (v28, x26, (s.2.2.1 + 1), h30)
def f_X12_isSafe (a0 : Nat) (a1 : Int32) (a2 : Int32) (a3 : Int32) (h : mx_Hp) : Option (Int32 × mx_Hp) :=
  if a0 < h.1 ∧ (mx_lay a0).1 = 15 then
  ((f_X12_lost a0 a2 h).bind fun x1 =>
  if a0 < x1.2.1 ∧ (mx_lay a0).1 = 15 then
  ((f_X12_reckons a0 a1 x1.1 x1.2).bind fun x3 =>
  (if ¬ a2 = a1 then
  some 0
  else
  some 10 : Option (Int32)).bind fun v6 =>
  (mx_gr x3 a0 12 14).bind fun x7 =>
  (mx_al x3 x7 ((v6 + a3) - 1)).bind fun x8 =>
  (f_X12_has x8 a2 x3).bind fun x9 =>
  (mx_gr x3 a0 12 13).bind fun x10 =>
  (mx_as x3 x10 0 a2).bind fun h11 =>
  mx_fix (f_X12_isSafe_L53 a0 a1 a3 x9) 2000 (v6, a2, 1, h11))
  else none)
  else none
def f_X12_safe_L31 (l0 : Nat) (l1 : Int32) (l2 : Int32) (l3 : Int32) (k85 : Int32 × mx_Hp → Option (Int32 × mx_Hp)) (k62 : Int32 × mx_Hp → Option (Int32 × mx_Hp)) : (Int32 × mx_Hp → Option (Int32 × mx_Hp)) → Int32 × mx_Hp → Option (Int32 × mx_Hp) := fun self s =>
  (mx_gr s.2 l0 12 2).bind fun x7 =>
  (mx_al s.2 x7 0).bind fun x8 =>
  if x8 ≤ s.1 then
  k85 (s.1, s.2)
  else
  if l0 < s.2.1 ∧ (mx_lay l0).1 = 15 then
  ((f_X12_isSafe l0 l1 s.1 l3 s.2).bind fun x10 =>
  if x10.1 = 0 then
  self ((s.1 + 1), x10.2)
  else
  if ¬ l2 = (-1) then
  k62 (s.1, x10.2)
  else
  some (l3, x10.2))
  else none
def f_X12_safe_L22 (l0 : Nat) (l1 : Int32) (l2 : Int32) (k62 : Int32 × mx_Hp → Option (Int32 × mx_Hp)) : (Int32 × mx_Hp → Option (Int32 × mx_Hp)) → Int32 × mx_Hp → Option (Int32 × mx_Hp) := fun self s =>
  if 10 < s.1 then
  some ((-4), s.2)
  else
  mx_fix (f_X12_safe_L31 l0 l1 l2 s.1 (fun s21 => self ((s.1 + 1), s21.2)) (fun s22 => k62 (s.1, s22.2))) 2000 (0, s.2)
def f_X12_safe (a0 : Nat) (a1 : Int32) (a2 : Int32) (h : mx_Hp) : Option (Int32 × mx_Hp) :=
  if a0 < h.1 ∧ (mx_lay a0).1 = 15 then
  ((f_X12_isWord a0 a1 h).bind fun x1 =>
  if x1 = 0 then
  some ((-1), h)
  else
  (f_X12_in a2 (-1) 9 h).bind fun x4 =>
  if ¬ x4 = 0 then
  mx_fix (f_X12_safe_L22 a0 a1 a2 (fun s28 => (if s28.1 ≤ a2 then
  some (-4)
  else
  (mx_gr s28.2 a0 12 13).bind fun x30 =>
  (mx_al s28.2 x30 a2).bind fun x31 =>
  some x31 : Option (Int32)).bind fun v32 =>
  some (v32, s28.2))) 2000 (1, h)
  else
  some ((-1), h))
  else none
def f_X12_gainsFor_L48 (l0 : Nat) (l1 : Int32) (l2 : Int32) (l3 : Int32) (h : mx_Hp) (k155 : Int32 × Int32 → Option (mx_Hp)) : (Int32 × Int32 → Option (mx_Hp)) → Int32 × Int32 → Option (mx_Hp) := fun self s =>
  (mx_gr h l0 12 2).bind fun x10 =>
  (mx_al h x10 0).bind fun x11 =>
  if x11 ≤ s.2 then
  k155 (s.1, s.2)
  else
  (if l2 ≤ 0 then
  some 0
  else
  (f_X12_has l1 l3 h).bind fun x14 =>
  if ¬ x14 = 0 then
  some 0
  else
  (mx_gr h l0 12 2).bind fun x16 =>
  (mx_al h x16 (23 + l3)).bind fun x17 =>
  (f_X12_has x17 s.2 h).bind fun x18 =>
  if x18 = 0 then
  some 0
  else
  some 1 : Option (Int32)).bind fun v20 =>
  (if v20 = 0 then
  some (-9999)
  else
  (mx_gr h l0 12 15).bind fun x22 =>
  (mx_al h x22 ((10 * (l2 - 1)) + s.2)).bind fun x23 =>
  (mx_gr h l0 12 2).bind fun x24 =>
  (mx_al h x24 (13 + s.2)).bind fun x25 =>
  some (x23 + x25) : Option (Int32)).bind fun v26 =>
  (if v26 ≤ s.1 then
  some s.1
  else
  some v26 : Option (Int32)).bind fun v28 =>
  self (v28, (s.2 + 1))
def f_X12_gainsFor_L10 (l0 : Nat) (l1 : Int32) (l2 : Int32) (k174 : Int32 × mx_Hp → Option (mx_Hp)) : (Int32 × mx_Hp → Option (mx_Hp)) → Int32 × mx_Hp → Option (mx_Hp) := fun self s =>
  (mx_gr s.2 l0 12 2).bind fun x2 =>
  (mx_al s.2 x2 0).bind fun x3 =>
  if x3 ≤ s.1 then
  k174 (s.1, s.2)
  else
  (if ¬ l2 = 0 then
  some (-9999)
  else
  (mx_gr s.2 l0 12 2).bind fun x6 =>
  (mx_al s.2 x6 (3 + s.1)).bind fun x7 =>
  if ¬ x7 = 2 then
  some (-9999)
  else
  some 0 : Option (Int32)).bind fun v9 =>
  mx_fix (f_X12_gainsFor_L48 l0 l1 l2 s.1 s.2 (fun s48 => (mx_gr s.2 l0 12 15).bind fun x49 =>
  (mx_as s.2 x49 ((10 * l2) + s.1) s48.1).bind fun h50 =>
  self ((s.1 + 1), h50))) 2000 (v9, 0)
def f_X12_gainsFor_L2 (l0 : Nat) (l1 : Int32)  : (Int32 × mx_Hp → Option (mx_Hp)) → Int32 × mx_Hp → Option (mx_Hp) := fun self s =>
  if 10 ≤ s.1 then
  some s.2
  else
  mx_fix (f_X12_gainsFor_L10 l0 l1 s.1 (fun s63 => self ((s.1 + 1), s63.2))) 2000 (0, s.2)
def f_X12_gainsFor (a0 : Nat) (a1 : Int32) (h : mx_Hp) : Option (mx_Hp) :=
  mx_fix (f_X12_gainsFor_L2 a0 a1) 2000 (0, h)
def f_X12_best_L51 (l0 : Nat) (l2 : Int32) (l6 : Int32) (k122 : Int32 × Int32 × Int32 × Int32 × mx_Hp → Option (Int32 × mx_Hp)) : (Int32 × Int32 × Int32 × Int32 × mx_Hp → Option (Int32 × mx_Hp)) → Int32 × Int32 × Int32 × Int32 × mx_Hp → Option (Int32 × mx_Hp) := fun self s =>
  if s.2.2.2.1 < 0 then
  k122 (s.1, s.2.1, s.2.2.1, s.2.2.2.1, s.2.2.2.2)
  else
  if l0 < s.2.2.2.2.1 ∧ (mx_lay l0).1 = 15 then
  ((f_X12_lost l0 s.2.2.2.1 s.2.2.2.2).bind fun x9 =>
  if l0 < x9.2.1 ∧ (mx_lay l0).1 = 15 then
  ((f_X12_gainsFor l0 x9.1 x9.2).bind fun x11 =>
  (mx_gr x11 l0 12 15).bind fun x13 =>
  (mx_al x11 x13 ((10 * l6) + s.2.2.2.1)).bind fun x14 =>
  (mx_gr x11 l0 12 2).bind fun x15 =>
  (mx_al x11 x15 (13 + s.2.2.2.1)).bind fun x16 =>
  (if (x14 + x16) < 0 then
  some (s.1, s.2.1, s.2.2.1)
  else
  if (x14 + x16) < s.1 then
  some (s.1, s.2.1, s.2.2.1)
  else
  some ((x14 + x16), (l6 + 1), s.2.2.2.1) : Option (Int32 × Int32 × Int32)).bind fun v19 =>
  self (v19.1, v19.2.1, v19.2.2, (s.2.2.2.1 + (-1)), x11))
  else none)
  else none
def f_X12_best_L36 (l0 : Nat) (l2 : Int32) (k128 : Int32 × Int32 × Int32 × Int32 × mx_Hp → Option (Int32 × mx_Hp)) : (Int32 × Int32 × Int32 × Int32 × mx_Hp → Option (Int32 × mx_Hp)) → Int32 × Int32 × Int32 × Int32 × mx_Hp → Option (Int32 × mx_Hp) := fun self s =>
  if s.2.2.2.1 < 0 then
  k128 (s.1, s.2.1, s.2.2.1, s.2.2.2.1, s.2.2.2.2)
  else
  (mx_gr s.2.2.2.2 l0 12 2).bind fun x6 =>
  (mx_al s.2.2.2.2 x6 0).bind fun x7 =>
  mx_fix (f_X12_best_L51 l0 l2 s.2.2.2.1 (fun s32 => self (s32.1, s32.2.1, s32.2.2.1, (s.2.2.2.1 + (-1)), s32.2.2.2.2))) 2000 (s.1, s.2.1, s.2.2.1, (x7 - 1), s.2.2.2.2)
def f_X12_best_L216 (l0 : Nat) (l2 : Int32) (l4 : Int32) (l6 : Int32) (l7 : Int32) (l8 : Int32) (l9 : Int32) (h : mx_Hp) (k269 : Int32 → Option (Int32 × mx_Hp)) : (Int32 → Option (Int32 × mx_Hp)) → Int32 → Option (Int32 × mx_Hp) := fun self s =>
  (mx_gr h l0 12 2).bind fun x55 =>
  (mx_al h x55 (23 + l6)).bind fun x56 =>
  (f_X12_has x56 s h).bind fun x57 =>
  if x57 = 0 then
  self (s + 1)
  else
  (mx_gr h l0 12 15).bind fun x59 =>
  (mx_al h x59 ((10 * l8) + s)).bind fun x60 =>
  (mx_gr h l0 12 2).bind fun x61 =>
  (mx_al h x61 (13 + s)).bind fun x62 =>
  if (x60 + x62) = l9 then
  k269 s
  else
  self (s + 1)
def f_X12_best_L174 (l0 : Nat) (l2 : Int32) (l4 : Int32) (h : mx_Hp) (k279 : Int32 × Int32 → Option (Int32 × mx_Hp)) : (Int32 × Int32 → Option (Int32 × mx_Hp)) → Int32 × Int32 → Option (Int32 × mx_Hp) := fun self s =>
  if l2 < s.2 then
  k279 (s.1, s.2)
  else
  if l4 ≤ s.2 then
  k279 (s.1, s.2)
  else
  (mx_gr h l0 12 15).bind fun x53 =>
  (mx_al h x53 ((10 * (((l4 - 1) - s.2) + 1)) + s.1)).bind fun x54 =>
  mx_fix (f_X12_best_L216 l0 l2 l4 s.1 s.2 ((l4 - 1) - s.2) x54 h (fun s73 => self (s73, (s.2 + 1)))) 2000 0
def f_X12_best (a0 : Nat) (a1 : Int32) (a2 : Int32) (h : mx_Hp) : Option (Int32 × mx_Hp) :=
  (f_X12_in a1 1 10 h).bind fun x1 =>
  if x1 = 0 then
  some ((-1), h)
  else
  (f_X12_in a2 (-2) 9 h).bind fun x3 =>
  if ¬ x3 = 0 then
  mx_fix (f_X12_best_L36 a0 a2 (fun s41 => if s41.1 < 0 then
  (if 0 ≤ s41.1 then
  if ¬ a2 = (-1) then
  some s41.2.1
  else
  some s41.1
  else
  some (-4) : Option (Int32)).bind fun v45 =>
  some (v45, s41.2.2.2.2)
  else
  if 0 ≤ a2 then
  if a0 < s41.2.2.2.2.1 ∧ (mx_lay a0).1 = 15 then
  ((f_X12_lost a0 s41.2.2.1 s41.2.2.2.2).bind fun x47 =>
  if a0 < x47.2.1 ∧ (mx_lay a0).1 = 15 then
  ((f_X12_gainsFor a0 x47.1 x47.2).bind fun x49 =>
  mx_fix (f_X12_best_L174 a0 a2 s41.2.1 x49 (fun s79 => (if s41.2.1 ≤ a2 then
  some (-4)
  else
  some s79.1 : Option (Int32)).bind fun v81 =>
  some (v81, x49))) 2000 (s41.2.2.1, 1))
  else none)
  else none
  else
  (if 0 ≤ s41.1 then
  if ¬ a2 = (-1) then
  some s41.2.1
  else
  some s41.1
  else
  some (-4) : Option (Int32)).bind fun v84 =>
  some (v84, s41.2.2.2.2))) 2000 ((-1), 0, 0, (a1 - 1), h)
  else
  some ((-1), h)
def f_X12_isLure_L51 (l0 : Nat) (l1 : Int32) (l2 : Int32) (l3 : Int32) (l4 : Int32) (l5 : Int32) (l6 : Int32) (l7 : Int32) (h : mx_Hp) (k87 : Int32 × Int32 → Option (Int32 × mx_Hp)) : (Int32 × Int32 → Option (Int32 × mx_Hp)) → Int32 × Int32 → Option (Int32 × mx_Hp) := fun self s =>
  if l7 ≤ s.2 then
  k87 (s.1, s.2)
  else
  (if ¬ s.1 = 0 then
  some 1
  else
  (mx_gr h l0 12 13).bind fun x14 =>
  (mx_al h x14 s.2).bind fun x15 =>
  if ¬ x15 = l1 then
  some 0
  else
  some 1 : Option (Int32)).bind fun v17 =>
  self (v17, (s.2 + 1))
def f_X12_isLure_L24 (l0 : Nat) (l1 : Int32) (l2 : Int32) (l3 : Int32) (l4 : Int32) (l5 : Int32) (k115 : Int32 × mx_Hp → Option (Int32 × mx_Hp)) : (Int32 × mx_Hp → Option (Int32 × mx_Hp)) → Int32 × mx_Hp → Option (Int32 × mx_Hp) := fun self s =>
  (mx_gr s.2 l0 12 2).bind fun x7 =>
  (mx_al s.2 x7 0).bind fun x8 =>
  if x8 ≤ s.1 then
  k115 (s.1, s.2)
  else
  if l0 < s.2.1 ∧ (mx_lay l0).1 = 15 then
  ((f_X12_finishes l0 s.1 l5 s.2).bind fun x10 =>
  mx_fix (f_X12_isLure_L51 l0 l1 l2 l3 l4 l5 s.1 x10.1 x10.2 (fun s24 => (mx_gr x10.2 l0 12 14).bind fun x25 =>
  (mx_al x10.2 x25 0).bind fun x26 =>
  (if s24.1 = 0 then
  some 0
  else
  some ((1 : Int32) <<< (s.1 &&& 31)) : Option (Int32)).bind fun v28 =>
  (mx_as x10.2 x25 0 (x26 ||| v28)).bind fun h29 =>
  self ((s.1 + 1), h29))) 2000 (0, 0))
  else none
def f_X12_isLure_L135 (l0 : Nat) (l2 : Int32) (l3 : Int32) (l4 : Int32) (l6 : Int32) (k203 : Int32 × mx_Hp → Option (Int32 × mx_Hp)) : (Int32 × mx_Hp → Option (Int32 × mx_Hp)) → Int32 × mx_Hp → Option (Int32 × mx_Hp) := fun self s =>
  (mx_gr s.2 l0 12 2).bind fun x46 =>
  (mx_al s.2 x46 0).bind fun x47 =>
  if x47 ≤ s.1 then
  k203 (s.1, s.2)
  else
  (mx_gr s.2 l0 12 14).bind fun x49 =>
  (mx_al s.2 x49 l6).bind fun x50 =>
  (f_X12_has l4 s.1 s.2).bind fun x51 =>
  (if ¬ x51 = 0 then
  some 0
  else
  (mx_gr s.2 l0 12 2).bind fun x53 =>
  (mx_al s.2 x53 (23 + s.1)).bind fun x54 =>
  (mx_gr s.2 l0 12 14).bind fun x55 =>
  (mx_al s.2 x55 (l6 - 1)).bind fun x56 =>
  if (x54 &&& x56) = 0 then
  some 0
  else
  some ((1 : Int32) <<< (s.1 &&& 31)) : Option (Int32)).bind fun v58 =>
  (mx_as s.2 x49 l6 (x50 ||| v58)).bind fun h59 =>
  self ((s.1 + 1), h59)
def f_X12_isLure_L118 (l0 : Nat) (l2 : Int32) (l3 : Int32) (l4 : Int32) (k209 : Int32 × mx_Hp → Option (Int32 × mx_Hp)) : (Int32 × mx_Hp → Option (Int32 × mx_Hp)) → Int32 × mx_Hp → Option (Int32 × mx_Hp) := fun self s =>
  if l3 ≤ s.1 then
  k209 (s.1, s.2)
  else
  (mx_gr s.2 l0 12 14).bind fun x44 =>
  (mx_as s.2 x44 s.1 0).bind fun h45 =>
  mx_fix (f_X12_isLure_L135 l0 l2 l3 l4 s.1 (fun s74 => self ((s.1 + 1), s74.2))) 2000 (0, h45)
def f_X12_isLure_L233 (l0 : Nat) (l3 : Int32) (l6 : Int32)  : (Int32 × mx_Hp → Option (Int32 × mx_Hp)) → Int32 × mx_Hp → Option (Int32 × mx_Hp) := fun self s =>
  if l3 ≤ s.1 then
  if l6 = 0 ∨ l6 = 1 then some (l6, s.2) else none
  else
  if l6 = 0 then
  if l6 = 0 ∨ l6 = 1 then some (l6, s.2) else none
  else
  (mx_gr s.2 l0 12 16).bind fun x90 =>
  (mx_gr s.2 l0 12 2).bind fun x91 =>
  (mx_gr s.2 l0 12 16).bind fun x92 =>
  (mx_al s.2 x92 (s.1 - 1)).bind fun x93 =>
  (mx_al s.2 x91 (23 + x93)).bind fun x94 =>
  (mx_gr s.2 l0 12 14).bind fun x95 =>
  (mx_al s.2 x95 ((l3 - 1) - s.1)).bind fun x96 =>
  (f_X12_lowest (x94 &&& x96) s.2).bind fun x97 =>
  (mx_as s.2 x90 s.1 x97).bind fun h98 =>
  self ((s.1 + 1), h98)
def f_X12_isLure (a0 : Nat) (a1 : Int32) (a2 : Int32) (a3 : Int32) (h : mx_Hp) : Option (Int32 × mx_Hp) :=
  if a0 < h.1 ∧ (mx_lay a0).1 = 15 then
  ((f_X12_lost a0 a2 h).bind fun x1 =>
  if a0 < x1.2.1 ∧ (mx_lay a0).1 = 15 then
  ((f_X12_knowsFor a0 a2 x1.2).bind fun x3 =>
  (mx_gr x1.2 a0 12 14).bind fun x5 =>
  (mx_as x1.2 x5 0 0).bind fun h6 =>
  mx_fix (f_X12_isLure_L24 a0 a1 a2 a3 x1.1 x3 (fun s42 => mx_fix (f_X12_isLure_L118 a0 a2 a3 x1.1 (fun s80 => (mx_gr s80.2 a0 12 14).bind fun x81 =>
  (mx_al s80.2 x81 (a3 - 1)).bind fun x82 =>
  (f_X12_has x82 a2 s80.2).bind fun x83 =>
  (mx_gr s80.2 a0 12 16).bind fun x84 =>
  (mx_as s80.2 x84 0 a2).bind fun h85 =>
  mx_fix (f_X12_isLure_L233 a0 a3 x83) 2000 (1, h85))) 2000 (1, s42.2))) 2000 (0, h6))
  else none)
  else none
def f_X12_lure_L31 (l0 : Nat) (l1 : Int32) (l2 : Int32) (l3 : Int32) (k85 : Int32 × mx_Hp → Option (Int32 × mx_Hp)) (k62 : Int32 × mx_Hp → Option (Int32 × mx_Hp)) : (Int32 × mx_Hp → Option (Int32 × mx_Hp)) → Int32 × mx_Hp → Option (Int32 × mx_Hp) := fun self s =>
  (mx_gr s.2 l0 12 2).bind fun x7 =>
  (mx_al s.2 x7 0).bind fun x8 =>
  if x8 ≤ s.1 then
  k85 (s.1, s.2)
  else
  if l0 < s.2.1 ∧ (mx_lay l0).1 = 15 then
  ((f_X12_isLure l0 l1 s.1 l3 s.2).bind fun x10 =>
  if x10.1 = 0 then
  self ((s.1 + 1), x10.2)
  else
  if ¬ l2 = (-1) then
  k62 (s.1, x10.2)
  else
  some (l3, x10.2))
  else none
def f_X12_lure_L22 (l0 : Nat) (l1 : Int32) (l2 : Int32) (k62 : Int32 × mx_Hp → Option (Int32 × mx_Hp)) : (Int32 × mx_Hp → Option (Int32 × mx_Hp)) → Int32 × mx_Hp → Option (Int32 × mx_Hp) := fun self s =>
  if 10 < s.1 then
  some ((-4), s.2)
  else
  mx_fix (f_X12_lure_L31 l0 l1 l2 s.1 (fun s21 => self ((s.1 + 1), s21.2)) (fun s22 => k62 (s.1, s22.2))) 2000 (0, s.2)
def f_X12_lure (a0 : Nat) (a1 : Int32) (a2 : Int32) (h : mx_Hp) : Option (Int32 × mx_Hp) :=
  if a0 < h.1 ∧ (mx_lay a0).1 = 15 then
  ((f_X12_isWord a0 a1 h).bind fun x1 =>
  if x1 = 0 then
  some ((-1), h)
  else
  (f_X12_in a2 (-1) 9 h).bind fun x4 =>
  if ¬ x4 = 0 then
  mx_fix (f_X12_lure_L22 a0 a1 a2 (fun s28 => (if s28.1 ≤ a2 then
  some (-4)
  else
  (mx_gr s28.2 a0 12 16).bind fun x30 =>
  (mx_al s28.2 x30 a2).bind fun x31 =>
  some x31 : Option (Int32)).bind fun v32 =>
  some (v32, s28.2))) 2000 (1, h)
  else
  some ((-1), h))
  else none
def f_X12_sitting_L33 (l0 : Nat) (l1 : Int32) (l2 : Int32) (l3 : Int32) (l4 : Int32) (h : mx_Hp) (k114 : Int32 × Int32 × Int32 → Option (Int32)) : (Int32 × Int32 × Int32 → Option (Int32)) → Int32 × Int32 × Int32 → Option (Int32) := fun self s =>
  (mx_gr h l0 12 2).bind fun x5 =>
  (mx_al h x5 0).bind fun x6 =>
  if x6 ≤ s.2.2 then
  k114 (s.1, s.2.1, s.2.2)
  else
  (mx_gr h l0 12 2).bind fun x8 =>
  (mx_al h x8 (23 + s.2.2)).bind fun x9 =>
  if l0 < h.1 ∧ (mx_lay l0).1 = 15 then
  ((f_X12_stops l0 h).bind fun x10 =>
  (if (x9 &&& (x10 ||| l3)) = 0 then
  some 0
  else
  some ((1 : Int32) <<< (s.2.2 &&& 31)) : Option (Int32)).bind fun v13 =>
  if l0 < h.1 ∧ (mx_lay l0).1 = 15 then
  ((f_X12_stops l0 h).bind fun x14 =>
  (if ¬ (x9 &&& (x14 ||| (l2 ^^^ (-1)))) = 0 then
  some 0
  else
  some ((1 : Int32) <<< (s.2.2 &&& 31)) : Option (Int32)).bind fun v17 =>
  self ((s.1 ||| v13), (s.2.1 ||| v17), (s.2.2 + 1)))
  else none)
  else none
def f_X12_sitting_L17 (l0 : Nat) (l1 : Int32) (h : mx_Hp) (k126 : Int32 × Int32 × Int32 → Option (Int32)) : (Int32 × Int32 × Int32 → Option (Int32)) → Int32 × Int32 × Int32 → Option (Int32) := fun self s =>
  if 20 ≤ s.2.2 then
  k126 (s.1, s.2.1, s.2.2)
  else
  mx_fix (f_X12_sitting_L33 l0 l1 s.1 s.2.1 s.2.2 h (fun s31 => self (s31.1, s31.2.1, (s.2.2 + 1)))) 2000 (s.1, s.2.1, 0)
def f_X12_sitting (a0 : Nat) (a1 : Int32) (h : mx_Hp) : Option (Int32) :=
  if a0 < h.1 ∧ (mx_lay a0).1 = 15 then
  ((f_X12_isWord a0 a1 h).bind fun x1 =>
  if ¬ x1 = 0 then
  mx_fix (f_X12_sitting_L17 a0 a1 h (fun s36 => (f_X12_has s36.1 a1 h).bind fun x37 =>
  (if x37 = 0 then
  (f_X12_has s36.2.1 a1 h).bind fun x39 =>
  if x39 = 0 then
  some 0
  else
  some 2
  else
  some 1 : Option (Int32)).bind fun v41 =>
  some v41)) 2000 (0, 0, 0)
  else
  some (-1))
  else none
def f_X12_ways_L56 (l0 : Nat) (l1 : Int32) (l2 : Int32) (l3 : Int32) (l4 : Int32) (l5 : Int32) (k92 : Int32 × mx_Hp → Option (Int32 × mx_Hp)) : (Int32 × mx_Hp → Option (Int32 × mx_Hp)) → Int32 × mx_Hp → Option (Int32 × mx_Hp) := fun self s =>
  (mx_gr s.2 l0 12 2).bind fun x12 =>
  (mx_al s.2 x12 0).bind fun x13 =>
  if x13 ≤ s.1 then
  k92 (s.1, s.2)
  else
  (mx_gr s.2 l0 12 17).bind fun x15 =>
  (if ¬ s.1 = l4 then
  some 0
  else
  some 1 : Option (Int32)).bind fun v17 =>
  (mx_as s.2 x15 s.1 v17).bind fun h18 =>
  self ((s.1 + 1), h18)
def f_X12_ways_L126 (l0 : Nat) (l1 : Int32) (l2 : Int32) (l3 : Int32) (l4 : Int32) (l5 : Int32) (l6 : Int32) (l7 : Int32) (k192 : Int32 × mx_Hp → Option (Int32 × mx_Hp)) : (Int32 × mx_Hp → Option (Int32 × mx_Hp)) → Int32 × mx_Hp → Option (Int32 × mx_Hp) := fun self s =>
  (mx_gr s.2 l0 12 2).bind fun x33 =>
  (mx_al s.2 x33 0).bind fun x34 =>
  if x34 ≤ s.1 then
  k192 (s.1, s.2)
  else
  (mx_gr s.2 l0 12 18).bind fun x36 =>
  (mx_al s.2 x36 l7).bind fun x37 =>
  (mx_gr s.2 l0 12 2).bind fun x38 =>
  (mx_al s.2 x38 (23 + s.1)).bind fun x39 =>
  (f_X12_has x39 l7 s.2).bind fun x40 =>
  (if x40 = 0 then
  some 0
  else
  (f_X12_has l5 s.1 s.2).bind fun x42 =>
  if ¬ x42 = 0 then
  some 0
  else
  (mx_gr s.2 l0 12 17).bind fun x44 =>
  (mx_al s.2 x44 s.1).bind fun x45 =>
  some x45 : Option (Int32)).bind fun v46 =>
  (mx_as s.2 x36 l7 (x37 + v46)).bind fun h47 =>
  self ((s.1 + 1), h47)
def f_X12_ways_L104 (l0 : Nat) (l1 : Int32) (l2 : Int32) (l3 : Int32) (l4 : Int32) (l5 : Int32) (l6 : Int32) (k198 : Int32 × mx_Hp → Option (Int32 × mx_Hp)) : (Int32 × mx_Hp → Option (Int32 × mx_Hp)) → Int32 × mx_Hp → Option (Int32 × mx_Hp) := fun self s =>
  (mx_gr s.2 l0 12 2).bind fun x28 =>
  (mx_al s.2 x28 0).bind fun x29 =>
  if x29 ≤ s.1 then
  k198 (s.1, s.2)
  else
  (mx_gr s.2 l0 12 18).bind fun x31 =>
  (mx_as s.2 x31 s.1 0).bind fun h32 =>
  mx_fix (f_X12_ways_L126 l0 l1 l2 l3 l4 l5 l6 s.1 (fun s63 => self ((s.1 + 1), s63.2))) 2000 (0, h32)
def f_X12_ways_L201 (l0 : Nat) (l1 : Int32) (l2 : Int32) (l3 : Int32) (l4 : Int32) (l5 : Int32) (l6 : Int32) (k232 : Int32 × mx_Hp → Option (Int32 × mx_Hp)) : (Int32 × mx_Hp → Option (Int32 × mx_Hp)) → Int32 × mx_Hp → Option (Int32 × mx_Hp) := fun self s =>
  (mx_gr s.2 l0 12 2).bind fun x72 =>
  (mx_al s.2 x72 0).bind fun x73 =>
  if x73 ≤ s.1 then
  k232 (s.1, s.2)
  else
  (mx_gr s.2 l0 12 17).bind fun x75 =>
  (mx_gr s.2 l0 12 18).bind fun x76 =>
  (mx_al s.2 x76 s.1).bind fun x77 =>
  (mx_as s.2 x75 s.1 x77).bind fun h78 =>
  self ((s.1 + 1), h78)
def f_X12_ways_L95 (l0 : Nat) (l1 : Int32) (l2 : Int32) (l3 : Int32) (l4 : Int32) (l5 : Int32) (k238 : Int32 × mx_Hp → Option (Int32 × mx_Hp)) : (Int32 × mx_Hp → Option (Int32 × mx_Hp)) → Int32 × mx_Hp → Option (Int32 × mx_Hp) := fun self s =>
  if l1 ≤ s.1 then
  k238 (s.1, s.2)
  else
  mx_fix (f_X12_ways_L104 l0 l1 l2 l3 l4 l5 s.1 (fun s71 => mx_fix (f_X12_ways_L201 l0 l1 l2 l3 l4 l5 s.1 (fun s86 => self ((s.1 + 1), s86.2))) 2000 (0, s71.2))) 2000 (0, s.2)
def f_X12_ways_L241 (l0 : Nat) (l1 : Int32) (l2 : Int32) (l4 : Int32) (h : mx_Hp) (k285 : Int32 × Int32 → Option (Int32 × mx_Hp)) : (Int32 × Int32 → Option (Int32 × mx_Hp)) → Int32 × Int32 → Option (Int32 × mx_Hp) := fun self s =>
  (mx_gr h l0 12 2).bind fun x93 =>
  (mx_al h x93 0).bind fun x94 =>
  if x94 ≤ s.2 then
  k285 (s.1, s.2)
  else
  (mx_gr h l0 12 2).bind fun x96 =>
  (mx_al h x96 (3 + s.2)).bind fun x97 =>
  (if ¬ x97 = 2 then
  some 0
  else
  (mx_gr h l0 12 17).bind fun x99 =>
  (mx_al h x99 s.2).bind fun x100 =>
  some x100 : Option (Int32)).bind fun v101 =>
  self ((s.1 + v101), (s.2 + 1))
def f_X12_ways_L26 (l0 : Nat) (l1 : Int32) (l2 : Int32)  : (Int32 × Int32 × mx_Hp → Option (Int32 × mx_Hp)) → Int32 × Int32 × mx_Hp → Option (Int32 × mx_Hp) := fun self s =>
  (mx_gr s.2.2 l0 12 2).bind fun x5 =>
  (mx_al s.2.2 x5 0).bind fun x6 =>
  if x6 ≤ s.2.1 then
  some (s.1, s.2.2)
  else
  (if ¬ l2 = 0 then
  if l0 < s.2.2.1 ∧ (mx_lay l0).1 = 15 then
  ((f_X12_lost l0 s.2.1 s.2.2).bind fun x9 =>
  some (x9.1, x9.2))
  else none
  else
  some (0, s.2.2) : Option (Int32 × mx_Hp)).bind fun v11 =>
  mx_fix (f_X12_ways_L56 l0 l1 l2 s.1 s.2.1 v11.1 (fun s26 => mx_fix (f_X12_ways_L95 l0 l1 l2 s.1 s.2.1 v11.1 (fun s92 => mx_fix (f_X12_ways_L241 l0 l1 l2 s.2.1 s92.2 (fun s111 => self (s111.1, (s.2.1 + 1), s92.2))) 2000 (s.1, 0))) 2000 (1, s26.2))) 2000 (0, v11.2)
def f_X12_ways (a0 : Nat) (a1 : Int32) (a2 : Int32) (h : mx_Hp) : Option (Int32 × mx_Hp) :=
  (f_X12_in a1 1 8 h).bind fun x1 =>
  if x1 = 0 then
  some ((-1), h)
  else
  (f_X12_in a2 0 1 h).bind fun x3 =>
  if ¬ x3 = 0 then
  mx_fix (f_X12_ways_L26 a0 a1 a2) 2000 (0, 0, h)
  else
  some ((-1), h)
def f_X12_seen (a0 : Nat) (a1 : Int32) (a2 : Int32) (h : mx_Hp) : Option (Int32 × mx_Hp) :=
  if a0 < h.1 ∧ (mx_lay a0).1 = 15 then
  ((f_X12_isWord a0 a1 h).bind fun x1 =>
  if x1 = 0 then
  some ((-1), h)
  else
  (f_X12_in a2 0 1 h).bind fun x4 =>
  if ¬ x4 = 0 then
  (mx_gi h a0 12 10).bind fun x6 =>
  if ¬ x6 = 8 then
  (mx_gr h a0 12 9).bind fun x8 =>
  (mx_gi h a0 12 10).bind fun x9 =>
  (mx_as h x8 x9 ((2 * a1) + a2)).bind fun h10 =>
  (mx_gi h10 a0 12 10).bind fun x11 =>
  (mx_pi h10 a0 12 10 (x11 + 1)).bind fun h12 =>
  (mx_gi h12 a0 12 10).bind fun x13 =>
  some (x13, h12)
  else
  some ((-3), h)
  else
  some ((-1), h))
  else none
def f_X12_forget (a0 : Nat) (h : mx_Hp) : Option (Int32 × mx_Hp) :=
  (mx_gi h a0 12 10).bind fun x1 =>
  (mx_pi h a0 12 10 0).bind fun h2 =>
  some (x1, h2)
def f_X12_guessed_L39 (l0 : Nat) (l1 : Int32) (l2 : Int32) (l3 : Int32) (l4 : Int32) (l5 : Int32) (k110 : Int32 × Int32 × mx_Hp → Option (Int32 × mx_Hp)) : (Int32 × Int32 × mx_Hp → Option (Int32 × mx_Hp)) → Int32 × Int32 × mx_Hp → Option (Int32 × mx_Hp) := fun self s =>
  (mx_gi s.2.2 l0 12 10).bind fun x8 =>
  if x8 ≤ s.2.1 then
  k110 (s.1, s.2.1, s.2.2)
  else
  if s.1 = 0 then
  k110 (s.1, s.2.1, s.2.2)
  else
  (mx_gr s.2.2 l0 12 9).bind fun x11 =>
  (mx_al s.2.2 x11 s.2.1).bind fun x12 =>
  if (2 : Int32) = 0 then none else
  if l0 < s.2.2.1 ∧ (mx_lay l0).1 = 15 then
  ((f_X12_finishes l0 (x12 / 2) l5 s.2.2).bind fun x14 =>
  (if x14.1 ≤ 0 then
  some 0
  else
  some 1 : Option (Int32)).bind fun v17 =>
  (mx_gr x14.2 l0 12 9).bind fun x18 =>
  (mx_al x14.2 x18 s.2.1).bind fun x19 =>
  if (2 : Int32) = 0 then none else
  (if ¬ (x19 - x19 / 2 * 2) = 1 then
  some 0
  else
  some 1 : Option (Int32)).bind fun v22 =>
  (if ¬ v17 = v22 then
  some 0
  else
  some 1 : Option (Int32)).bind fun v24 =>
  self (v24, (s.2.1 + 1), x14.2))
  else none
def f_X12_guessed_L24 (l0 : Nat) (l1 : Int32) (k159 : Int32 × Int32 × Int32 × Int32 × mx_Hp → Option (Int32 × mx_Hp)) : (Int32 × Int32 × Int32 × Int32 × mx_Hp → Option (Int32 × mx_Hp)) → Int32 × Int32 × Int32 × Int32 × mx_Hp → Option (Int32 × mx_Hp) := fun self s =>
  if l0 < s.2.2.2.2.1 ∧ (mx_lay l0).1 = 15 then
  ((f_X12_all l0 s.2.2.2.2).bind fun x5 =>
  if x5 < s.2.2.2.1 then
  k159 (s.1, s.2.1, s.2.2.1, s.2.2.2.1, s.2.2.2.2)
  else
  mx_fix (f_X12_guessed_L39 l0 l1 s.1 s.2.1 s.2.2.1 s.2.2.2.1 (fun s42 => (if s42.1 = 0 then
  some 0
  else
  some 1 : Option (Int32)).bind fun v44 =>
  (if s42.1 = 0 then
  some (-1)
  else
  some s.2.2.2.1 : Option (Int32)).bind fun v46 =>
  (if s42.1 = 0 then
  some 0
  else
  some s.2.2.2.1 : Option (Int32)).bind fun v48 =>
  self ((s.1 + v44), (s.2.1 &&& v46), (s.2.2.1 ||| v48), (s.2.2.2.1 + 1), s42.2.2))) 2000 (1, 0, s.2.2.2.2))
  else none
def f_X12_guessed (a0 : Nat) (a1 : Int32) (h : mx_Hp) : Option (Int32 × mx_Hp) :=
  (f_X12_in a1 0 2 h).bind fun x1 =>
  if ¬ x1 = 0 then
  if a0 < h.1 ∧ (mx_lay a0).1 = 15 then
  ((f_X12_all a0 h).bind fun x3 =>
  mx_fix (f_X12_guessed_L24 a0 a1 (fun s61 => (if ¬ a1 = 0 then
  if ¬ s61.1 = 0 then
  if ¬ a1 = 1 then
  some s61.2.2.1
  else
  some s61.2.1
  else
  some (-4)
  else
  some s61.1 : Option (Int32)).bind fun v65 =>
  some (v65, s61.2.2.2.2))) 2000 (0, x3, 0, 0, h))
  else none
  else
  some ((-1), h)
def f_X12_turn (a0 : Nat) (a1 : Int32) (h : mx_Hp) : Option (mx_Hp) :=
  (mx_gr h a0 12 2).bind fun x1 =>
  (mx_al h x1 0).bind fun x2 =>
  if (x2 : Int32) = 0 then none else
  if (64 : Int32) = 0 then none else
  if (3 : Int32) = 0 then none else
  (if ¬ ((a1 / 64) - (a1 / 64) / 3 * 3) = 0 then
  if ¬ ((a1 / 64) - (a1 / 64) / 3 * 3) = 1 then
  if a0 < h.1 ∧ (mx_lay a0).1 = 15 then
  ((f_X12_maySay a0 (a1 - a1 / x2 * x2) h).bind fun x8 =>
  if x8 = 0 then
  (mx_gr h a0 12 4).bind fun x11 =>
  (mx_al h x11 12).bind fun x12 =>
  if x12 ≤ 0 then
  some h
  else
  if a0 < h.1 ∧ (mx_lay a0).1 = 15 then
  ((f_X12_drops a0 h).bind fun x14 =>
  some x14)
  else none
  else
  (mx_gr h a0 12 4).bind fun x16 =>
  (mx_al h x16 12).bind fun x17 =>
  if 12 ≤ x17 then
  (mx_gr h a0 12 4).bind fun x19 =>
  (mx_al h x19 12).bind fun x20 =>
  if x20 ≤ 0 then
  some h
  else
  if a0 < h.1 ∧ (mx_lay a0).1 = 15 then
  ((f_X12_drops a0 h).bind fun x22 =>
  some x22)
  else none
  else
  if a0 < h.1 ∧ (mx_lay a0).1 = 15 then
  ((f_X12_says a0 (a1 - a1 / x2 * x2) h).bind fun x24 =>
  some x24)
  else none)
  else none
  else
  if a0 < h.1 ∧ (mx_lay a0).1 = 15 then
  ((f_X12_mayEnd a0 h).bind fun x26 =>
  if x26 = 0 then
  if a0 < h.1 ∧ (mx_lay a0).1 = 15 then
  ((f_X12_maySay a0 (a1 - a1 / x2 * x2) h).bind fun x29 =>
  if x29 = 0 then
  (mx_gr h a0 12 4).bind fun x32 =>
  (mx_al h x32 12).bind fun x33 =>
  if x33 ≤ 0 then
  some h
  else
  if a0 < h.1 ∧ (mx_lay a0).1 = 15 then
  ((f_X12_drops a0 h).bind fun x35 =>
  some x35)
  else none
  else
  (mx_gr h a0 12 4).bind fun x37 =>
  (mx_al h x37 12).bind fun x38 =>
  if 12 ≤ x38 then
  (mx_gr h a0 12 4).bind fun x40 =>
  (mx_al h x40 12).bind fun x41 =>
  if x41 ≤ 0 then
  some h
  else
  if a0 < h.1 ∧ (mx_lay a0).1 = 15 then
  ((f_X12_drops a0 h).bind fun x43 =>
  some x43)
  else none
  else
  if a0 < h.1 ∧ (mx_lay a0).1 = 15 then
  ((f_X12_says a0 (a1 - a1 / x2 * x2) h).bind fun x45 =>
  some x45)
  else none)
  else none
  else
  (mx_gr h a0 12 4).bind fun x47 =>
  (mx_al h x47 13).bind fun x48 =>
  if a0 < h.1 ∧ (mx_lay a0).1 = 15 then
  ((f_X12_worthNow a0 h).bind fun x49 =>
  if a0 < h.1 ∧ (mx_lay a0).1 = 15 then
  ((f_X12_decrees a0 x48 x49 h).bind fun x51 =>
  some x51)
  else none)
  else none)
  else none
  else
  if a0 < h.1 ∧ (mx_lay a0).1 = 15 then
  ((f_X12_finishesNow a0 h).bind fun x53 =>
  if x53.1 ≤ 0 then
  if ¬ ((a1 / 64) - (a1 / 64) / 3 * 3) = 1 then
  if a0 < x53.2.1 ∧ (mx_lay a0).1 = 15 then
  ((f_X12_maySay a0 (a1 - a1 / x2 * x2) x53.2).bind fun x57 =>
  if x57 = 0 then
  (mx_gr x53.2 a0 12 4).bind fun x60 =>
  (mx_al x53.2 x60 12).bind fun x61 =>
  if x61 ≤ 0 then
  some x53.2
  else
  if a0 < x53.2.1 ∧ (mx_lay a0).1 = 15 then
  ((f_X12_drops a0 x53.2).bind fun x63 =>
  some x63)
  else none
  else
  (mx_gr x53.2 a0 12 4).bind fun x65 =>
  (mx_al x53.2 x65 12).bind fun x66 =>
  if 12 ≤ x66 then
  (mx_gr x53.2 a0 12 4).bind fun x68 =>
  (mx_al x53.2 x68 12).bind fun x69 =>
  if x69 ≤ 0 then
  some x53.2
  else
  if a0 < x53.2.1 ∧ (mx_lay a0).1 = 15 then
  ((f_X12_drops a0 x53.2).bind fun x71 =>
  some x71)
  else none
  else
  if a0 < x53.2.1 ∧ (mx_lay a0).1 = 15 then
  ((f_X12_says a0 (a1 - a1 / x2 * x2) x53.2).bind fun x73 =>
  some x73)
  else none)
  else none
  else
  if a0 < x53.2.1 ∧ (mx_lay a0).1 = 15 then
  ((f_X12_mayEnd a0 x53.2).bind fun x75 =>
  if x75 = 0 then
  if a0 < x53.2.1 ∧ (mx_lay a0).1 = 15 then
  ((f_X12_maySay a0 (a1 - a1 / x2 * x2) x53.2).bind fun x78 =>
  if x78 = 0 then
  (mx_gr x53.2 a0 12 4).bind fun x81 =>
  (mx_al x53.2 x81 12).bind fun x82 =>
  if x82 ≤ 0 then
  some x53.2
  else
  if a0 < x53.2.1 ∧ (mx_lay a0).1 = 15 then
  ((f_X12_drops a0 x53.2).bind fun x84 =>
  some x84)
  else none
  else
  (mx_gr x53.2 a0 12 4).bind fun x86 =>
  (mx_al x53.2 x86 12).bind fun x87 =>
  if 12 ≤ x87 then
  (mx_gr x53.2 a0 12 4).bind fun x89 =>
  (mx_al x53.2 x89 12).bind fun x90 =>
  if x90 ≤ 0 then
  some x53.2
  else
  if a0 < x53.2.1 ∧ (mx_lay a0).1 = 15 then
  ((f_X12_drops a0 x53.2).bind fun x92 =>
  some x92)
  else none
  else
  if a0 < x53.2.1 ∧ (mx_lay a0).1 = 15 then
  ((f_X12_says a0 (a1 - a1 / x2 * x2) x53.2).bind fun x94 =>
  some x94)
  else none)
  else none
  else
  (mx_gr x53.2 a0 12 4).bind fun x96 =>
  (mx_al x53.2 x96 13).bind fun x97 =>
  if a0 < x53.2.1 ∧ (mx_lay a0).1 = 15 then
  ((f_X12_worthNow a0 x53.2).bind fun x98 =>
  if a0 < x53.2.1 ∧ (mx_lay a0).1 = 15 then
  ((f_X12_decrees a0 x97 x98 x53.2).bind fun x100 =>
  some x100)
  else none)
  else none)
  else none
  else
  if a0 < x53.2.1 ∧ (mx_lay a0).1 = 15 then
  ((f_X12_ends a0 x53.2).bind fun x102 =>
  some x102.2)
  else none)
  else none : Option (mx_Hp)).bind fun v104 =>
  some v104
def f_X12_council_L35 (l0 : Nat) (l1 : Int32) (l2 : Int32) (l3 : Int32) (k62 : Int32 × mx_Hp → Option (Int32 × mx_Hp)) : (Int32 × mx_Hp → Option (Int32 × mx_Hp)) → Int32 × mx_Hp → Option (Int32 × mx_Hp) := fun self s =>
  if 22 ≤ s.1 then
  k62 (s.1, s.2)
  else
  (mx_gr s.2 l0 12 19).bind fun x8 =>
  (mx_gr s.2 l0 12 4).bind fun x9 =>
  (mx_al s.2 x9 s.1).bind fun x10 =>
  (mx_as s.2 x8 s.1 x10).bind fun h11 =>
  self ((s.1 + 1), h11)
def f_X12_council_L65 (l0 : Nat) (l1 : Int32) (l2 : Int32) (l3 : Int32) (k111 : Int32 × mx_Hp → Option (Int32 × mx_Hp)) : (Int32 × mx_Hp → Option (Int32 × mx_Hp)) → Int32 × mx_Hp → Option (Int32 × mx_Hp) := fun self s =>
  if l2 ≤ s.1 then
  k111 (s.1, s.2)
  else
  if ((65521 : Int32).toInt64 : Int64) = 0 then none else
  if (2 : Int32) = 0 then none else
  if l0 < s.2.1 ∧ (mx_lay l0).1 = 15 then
  ((f_X12_turn l0 ((((((((7919 : Int32).toInt64 * (l1).toInt64) + ((6151 : Int32).toInt64 * (s.1).toInt64)) + (1 : Int32).toInt64) * ((((7919 : Int32).toInt64 * (l1).toInt64) + ((6151 : Int32).toInt64 * (s.1).toInt64)) + (1 : Int32).toInt64)) - (((((7919 : Int32).toInt64 * (l1).toInt64) + ((6151 : Int32).toInt64 * (s.1).toInt64)) + (1 : Int32).toInt64) * ((((7919 : Int32).toInt64 * (l1).toInt64) + ((6151 : Int32).toInt64 * (s.1).toInt64)) + (1 : Int32).toInt64)) / (65521 : Int32).toInt64 * (65521 : Int32).toInt64)).toInt32 / 2) s.2).bind fun x21 =>
  self ((s.1 + 1), x21))
  else none
def f_X12_council_L172 (l0 : Nat) (l4 : Int32)  : (Int32 × mx_Hp → Option (Int32 × mx_Hp)) → Int32 × mx_Hp → Option (Int32 × mx_Hp) := fun self s =>
  if 22 ≤ s.1 then
  some (l4, s.2)
  else
  (mx_gr s.2 l0 12 4).bind fun x43 =>
  (mx_gr s.2 l0 12 19).bind fun x44 =>
  (mx_al s.2 x44 s.1).bind fun x45 =>
  (mx_as s.2 x43 s.1 x45).bind fun h46 =>
  self ((s.1 + 1), h46)
def f_X12_council (a0 : Nat) (a1 : Int32) (a2 : Int32) (a3 : Int32) (h : mx_Hp) : Option (Int32 × mx_Hp) :=
  (f_X12_in a1 0 9999 h).bind fun x1 =>
  if x1 = 0 then
  some ((-1), h)
  else
  (f_X12_in a2 1 60 h).bind fun x3 =>
  if x3 = 0 then
  some ((-1), h)
  else
  (f_X12_in a3 0 2 h).bind fun x5 =>
  if ¬ x5 = 0 then
  mx_fix (f_X12_council_L35 a0 a1 a2 a3 (fun s17 => mx_fix (f_X12_council_L65 a0 a1 a2 a3 (fun s28 => (if ¬ a3 = 0 then
  if ¬ a3 = 1 then
  (mx_gr s28.2 a0 12 4).bind fun x31 =>
  (mx_al s28.2 x31 17).bind fun x32 =>
  (mx_gr s28.2 a0 12 4).bind fun x33 =>
  (mx_al s28.2 x33 18).bind fun x34 =>
  some ((500 + x32) - x34)
  else
  (mx_gr s28.2 a0 12 4).bind fun x35 =>
  (mx_al s28.2 x35 15).bind fun x36 =>
  (mx_gr s28.2 a0 12 4).bind fun x37 =>
  (mx_al s28.2 x37 16).bind fun x38 =>
  some (x36 + x38)
  else
  (mx_gr s28.2 a0 12 4).bind fun x39 =>
  (mx_al s28.2 x39 13).bind fun x40 =>
  some x40 : Option (Int32)).bind fun v41 =>
  mx_fix (f_X12_council_L172 a0 v41) 2000 (0, s28.2))) 2000 (0, s17.2))) 2000 (0, h)
  else
  some ((-1), h)
def f_X12_keep_L13 (l0 : Nat) (k45 : Int32 × mx_Hp → Option (Int32 × mx_Hp)) : (Int32 × mx_Hp → Option (Int32 × mx_Hp)) → Int32 × mx_Hp → Option (Int32 × mx_Hp) := fun self s =>
  if 22 ≤ s.1 then
  k45 (s.1, s.2)
  else
  (mx_gr s.2 l0 12 7).bind fun x4 =>
  (mx_gi s.2 l0 12 8).bind fun x5 =>
  (mx_gr s.2 l0 12 4).bind fun x6 =>
  (mx_al s.2 x6 s.1).bind fun x7 =>
  (mx_as s.2 x4 ((22 * x5) + s.1) x7).bind fun h8 =>
  self ((s.1 + 1), h8)
def f_X12_keep (a0 : Nat) (h : mx_Hp) : Option (Int32 × mx_Hp) :=
  (mx_gi h a0 12 8).bind fun x1 =>
  if ¬ x1 = 2 then
  mx_fix (f_X12_keep_L13 a0 (fun s15 => (mx_gi s15.2 a0 12 8).bind fun x16 =>
  (mx_pi s15.2 a0 12 8 (x16 + 1)).bind fun h17 =>
  (mx_gi h17 a0 12 8).bind fun x18 =>
  some (x18, h17))) 2000 (0, h)
  else
  some ((-3), h)
def f_X12_back_L22 (l0 : Nat)  : (Int32 × mx_Hp → Option (Int32 × mx_Hp)) → Int32 × mx_Hp → Option (Int32 × mx_Hp) := fun self s =>
  if 22 ≤ s.1 then
  (mx_pi s.2 l0 12 6 0).bind fun h6 =>
  (mx_gi h6 l0 12 8).bind fun x7 =>
  some (x7, h6)
  else
  (mx_gr s.2 l0 12 4).bind fun x8 =>
  (mx_gr s.2 l0 12 7).bind fun x9 =>
  (mx_gi s.2 l0 12 8).bind fun x10 =>
  (mx_al s.2 x9 ((22 * x10) + s.1)).bind fun x11 =>
  (mx_as s.2 x8 s.1 x11).bind fun h12 =>
  self ((s.1 + 1), h12)
def f_X12_back (a0 : Nat) (h : mx_Hp) : Option (Int32 × mx_Hp) :=
  (mx_gi h a0 12 8).bind fun x1 =>
  if ¬ x1 = 0 then
  (mx_gi h a0 12 8).bind fun x3 =>
  (mx_pi h a0 12 8 (x3 - 1)).bind fun h4 =>
  mx_fix (f_X12_back_L22 a0) 2000 (0, h4)
  else
  some ((-2), h)
def f_X12_count (a0 : Nat) (a1 : Int32) (h : mx_Hp) : Option (Int32) :=
  if a1 = 0 then
  (mx_gr h a0 12 2).bind fun x2 =>
  (mx_al h x2 0).bind fun x3 =>
  some x3
  else
  if a1 = 1 then
  (mx_gr h a0 12 4).bind fun x5 =>
  (mx_al h x5 14).bind fun x6 =>
  some x6
  else
  if a1 = 2 then
  (mx_gr h a0 12 4).bind fun x8 =>
  (mx_al h x8 12).bind fun x9 =>
  some x9
  else
  if a1 = 3 then
  (mx_gr h a0 12 4).bind fun x11 =>
  (mx_al h x11 15).bind fun x12 =>
  (mx_gr h a0 12 4).bind fun x13 =>
  (mx_al h x13 16).bind fun x14 =>
  some (x12 + x14)
  else
  if a1 = 4 then
  (mx_gr h a0 12 4).bind fun x16 =>
  (mx_al h x16 21).bind fun x17 =>
  some x17
  else
  if a1 = 5 then
  (mx_gr h a0 12 2).bind fun x19 =>
  (mx_al h x19 1).bind fun x20 =>
  some x20
  else
  if a1 = 6 then
  (mx_gi h a0 12 10).bind fun x22 =>
  some x22
  else
  if a1 = 7 then
  (mx_gi h a0 12 6).bind fun x24 =>
  some x24
  else
  if a1 = 8 then
  (mx_gi h a0 12 8).bind fun x26 =>
  some x26
  else
  if a1 = 9 then
  (mx_gi h a0 12 1).bind fun x28 =>
  some x28
  else
  some (-1)
end
section
/-! each method looked up: by wip/gen/gen3.py -/
set_option maxRecDepth 100000 in
theorem mx_o_X0_init : mx_okM mx_k_X0_init = true := by decide +kernel
set_option maxRecDepth 100000 in
theorem mx_v_X0_init : mx_okW mx_k_X0_init = true := by decide +kernel
set_option maxRecDepth 100000 in
theorem mx_o_X0_clear : mx_okM mx_k_X0_clear = true := by decide +kernel
set_option maxRecDepth 100000 in
theorem mx_v_X0_clear : mx_okW mx_k_X0_clear = true := by decide +kernel
set_option maxRecDepth 100000 in
theorem mx_o_X0_takePair : mx_okM mx_k_X0_takePair = true := by decide +kernel
set_option maxRecDepth 100000 in
theorem mx_v_X0_takePair : mx_okW mx_k_X0_takePair = true := by decide +kernel
set_option maxRecDepth 100000 in
theorem mx_o_X0_takeSingle : mx_okM mx_k_X0_takeSingle = true := by decide +kernel
set_option maxRecDepth 100000 in
theorem mx_v_X0_takeSingle : mx_okW mx_k_X0_takeSingle = true := by decide +kernel
set_option maxRecDepth 100000 in
theorem mx_o_X0_addWord : mx_okM mx_k_X0_addWord = true := by decide +kernel
set_option maxRecDepth 100000 in
theorem mx_v_X0_addWord : mx_okW mx_k_X0_addWord = true := by decide +kernel
set_option maxRecDepth 100000 in
theorem mx_o_X0_addBehind : mx_okM mx_k_X0_addBehind = true := by decide +kernel
set_option maxRecDepth 100000 in
theorem mx_v_X0_addBehind : mx_okW mx_k_X0_addBehind = true := by decide +kernel
set_option maxRecDepth 100000 in
theorem mx_o_X0_addKnown : mx_okM mx_k_X0_addKnown = true := by decide +kernel
set_option maxRecDepth 100000 in
theorem mx_v_X0_addKnown : mx_okW mx_k_X0_addKnown = true := by decide +kernel
set_option maxRecDepth 100000 in
theorem mx_o_X0_setLongest : mx_okM mx_k_X0_setLongest = true := by decide +kernel
set_option maxRecDepth 100000 in
theorem mx_v_X0_setLongest : mx_okW mx_k_X0_setLongest = true := by decide +kernel
set_option maxRecDepth 100000 in
theorem mx_o_X0_setChain : mx_okM mx_k_X0_setChain = true := by decide +kernel
set_option maxRecDepth 100000 in
theorem mx_v_X0_setChain : mx_okW mx_k_X0_setChain = true := by decide +kernel
set_option maxRecDepth 100000 in
theorem mx_o_X0_has : mx_okM mx_k_X0_has = true := by decide +kernel
set_option maxRecDepth 100000 in
theorem mx_v_X0_has : mx_okW mx_k_X0_has = true := by decide +kernel
set_option maxRecDepth 100000 in
theorem mx_o_X0_kindOf : mx_okM mx_k_X0_kindOf = true := by decide +kernel
set_option maxRecDepth 100000 in
theorem mx_v_X0_kindOf : mx_okW mx_k_X0_kindOf = true := by decide +kernel
set_option maxRecDepth 100000 in
theorem mx_o_X0_worthOf : mx_okM mx_k_X0_worthOf = true := by decide +kernel
set_option maxRecDepth 100000 in
theorem mx_v_X0_worthOf : mx_okW mx_k_X0_worthOf = true := by decide +kernel
set_option maxRecDepth 100000 in
theorem mx_o_X0_behindOf : mx_okM mx_k_X0_behindOf = true := by decide +kernel
set_option maxRecDepth 100000 in
theorem mx_v_X0_behindOf : mx_okW mx_k_X0_behindOf = true := by decide +kernel
set_option maxRecDepth 100000 in
theorem mx_o_X0_allWords : mx_okM mx_k_X0_allWords = true := by decide +kernel
set_option maxRecDepth 100000 in
theorem mx_v_X0_allWords : mx_okW mx_k_X0_allWords = true := by decide +kernel
set_option maxRecDepth 100000 in
theorem mx_o_X0_aheadOf : mx_okM mx_k_X0_aheadOf = true := by decide +kernel
set_option maxRecDepth 100000 in
theorem mx_v_X0_aheadOf : mx_okW mx_k_X0_aheadOf = true := by decide +kernel
set_option maxRecDepth 100000 in
theorem mx_o_X0_firstOf : mx_okM mx_k_X0_firstOf = true := by decide +kernel
set_option maxRecDepth 100000 in
theorem mx_v_X0_firstOf : mx_okW mx_k_X0_firstOf = true := by decide +kernel
set_option maxRecDepth 100000 in
theorem mx_o_X1_init : mx_okM mx_k_X1_init = true := by decide +kernel
set_option maxRecDepth 100000 in
theorem mx_v_X1_init : mx_okW mx_k_X1_init = true := by decide +kernel
set_option maxRecDepth 100000 in
theorem mx_o_X1_outcome : mx_okM mx_k_X1_outcome = true := by decide +kernel
set_option maxRecDepth 100000 in
theorem mx_v_X1_outcome : mx_okW mx_k_X1_outcome = true := by decide +kernel
set_option maxRecDepth 100000 in
theorem mx_o_X1_drawOf : mx_okM mx_k_X1_drawOf = true := by decide +kernel
set_option maxRecDepth 100000 in
theorem mx_v_X1_drawOf : mx_okW mx_k_X1_drawOf = true := by decide +kernel
set_option maxRecDepth 100000 in
theorem mx_o_X1_step : mx_okM mx_k_X1_step = true := by decide +kernel
set_option maxRecDepth 100000 in
theorem mx_v_X1_step : mx_okW mx_k_X1_step = true := by decide +kernel
set_option maxRecDepth 100000 in
theorem mx_o_X1_finishes : mx_okM mx_k_X1_finishes = true := by decide +kernel
set_option maxRecDepth 100000 in
theorem mx_v_X1_finishes : mx_okW mx_k_X1_finishes = true := by decide +kernel
set_option maxRecDepth 100000 in
theorem mx_o_X2_init : mx_okM mx_k_X2_init = true := by decide +kernel
set_option maxRecDepth 100000 in
theorem mx_v_X2_init : mx_okW mx_k_X2_init = true := by decide +kernel
set_option maxRecDepth 100000 in
theorem mx_o_X2_fillStarts : mx_okM mx_k_X2_fillStarts = true := by decide +kernel
set_option maxRecDepth 100000 in
theorem mx_v_X2_fillStarts : mx_okW mx_k_X2_fillStarts = true := by decide +kernel
set_option maxRecDepth 100000 in
theorem mx_o_X2_couldBehind : mx_okM mx_k_X2_couldBehind = true := by decide +kernel
set_option maxRecDepth 100000 in
theorem mx_v_X2_couldBehind : mx_okW mx_k_X2_couldBehind = true := by decide +kernel
set_option maxRecDepth 100000 in
theorem mx_o_X2_find : mx_okM mx_k_X2_find = true := by decide +kernel
set_option maxRecDepth 100000 in
theorem mx_v_X2_find : mx_okW mx_k_X2_find = true := by decide +kernel
set_option maxRecDepth 100000 in
theorem mx_o_X2_fewestMore : mx_okM mx_k_X2_fewestMore = true := by decide +kernel
set_option maxRecDepth 100000 in
theorem mx_v_X2_fewestMore : mx_okW mx_k_X2_fewestMore = true := by decide +kernel
set_option maxRecDepth 100000 in
theorem mx_o_X3_init : mx_okM mx_k_X3_init = true := by decide +kernel
set_option maxRecDepth 100000 in
theorem mx_v_X3_init : mx_okW mx_k_X3_init = true := by decide +kernel
set_option maxRecDepth 100000 in
theorem mx_o_X3_startAnew : mx_okM mx_k_X3_startAnew = true := by decide +kernel
set_option maxRecDepth 100000 in
theorem mx_v_X3_startAnew : mx_okW mx_k_X3_startAnew = true := by decide +kernel
set_option maxRecDepth 100000 in
theorem mx_o_X3_clear : mx_okM mx_k_X3_clear = true := by decide +kernel
set_option maxRecDepth 100000 in
theorem mx_v_X3_clear : mx_okW mx_k_X3_clear = true := by decide +kernel
set_option maxRecDepth 100000 in
theorem mx_o_X3_note : mx_okM mx_k_X3_note = true := by decide +kernel
set_option maxRecDepth 100000 in
theorem mx_v_X3_note : mx_okW mx_k_X3_note = true := by decide +kernel
set_option maxRecDepth 100000 in
theorem mx_o_X3_weigh : mx_okM mx_k_X3_weigh = true := by decide +kernel
set_option maxRecDepth 100000 in
theorem mx_v_X3_weigh : mx_okW mx_k_X3_weigh = true := by decide +kernel
set_option maxRecDepth 100000 in
theorem mx_o_X3_tableOnce : mx_okM mx_k_X3_tableOnce = true := by decide +kernel
set_option maxRecDepth 100000 in
theorem mx_v_X3_tableOnce : mx_okW mx_k_X3_tableOnce = true := by decide +kernel
set_option maxRecDepth 100000 in
theorem mx_o_X4_init : mx_okM mx_k_X4_init = true := by decide +kernel
set_option maxRecDepth 100000 in
theorem mx_v_X4_init : mx_okW mx_k_X4_init = true := by decide +kernel
set_option maxRecDepth 100000 in
theorem mx_o_X4_startWith : mx_okM mx_k_X4_startWith = true := by decide +kernel
set_option maxRecDepth 100000 in
theorem mx_v_X4_startWith : mx_okW mx_k_X4_startWith = true := by decide +kernel
set_option maxRecDepth 100000 in
theorem mx_o_X4_copyFrom : mx_okM mx_k_X4_copyFrom = true := by decide +kernel
set_option maxRecDepth 100000 in
theorem mx_v_X4_copyFrom : mx_okW mx_k_X4_copyFrom = true := by decide +kernel
set_option maxRecDepth 100000 in
theorem mx_o_X5_init : mx_okM mx_k_X5_init = true := by decide +kernel
set_option maxRecDepth 100000 in
theorem mx_v_X5_init : mx_okW mx_k_X5_init = true := by decide +kernel
set_option maxRecDepth 100000 in
theorem mx_o_X5_prepare : mx_okM mx_k_X5_prepare = true := by decide +kernel
set_option maxRecDepth 100000 in
theorem mx_v_X5_prepare : mx_okW mx_k_X5_prepare = true := by decide +kernel
set_option maxRecDepth 100000 in
theorem mx_o_X5_firstsWith : mx_okM mx_k_X5_firstsWith = true := by decide +kernel
set_option maxRecDepth 100000 in
theorem mx_v_X5_firstsWith : mx_okW mx_k_X5_firstsWith = true := by decide +kernel
set_option maxRecDepth 100000 in
theorem mx_o_X5_leadingWith : mx_okM mx_k_X5_leadingWith = true := by decide +kernel
set_option maxRecDepth 100000 in
theorem mx_v_X5_leadingWith : mx_okW mx_k_X5_leadingWith = true := by decide +kernel
set_option maxRecDepth 100000 in
theorem mx_o_X5_tableAt : mx_okM mx_k_X5_tableAt = true := by decide +kernel
set_option maxRecDepth 100000 in
theorem mx_v_X5_tableAt : mx_okW mx_k_X5_tableAt = true := by decide +kernel
set_option maxRecDepth 100000 in
theorem mx_o_X5_seekSafe : mx_okM mx_k_X5_seekSafe = true := by decide +kernel
set_option maxRecDepth 100000 in
theorem mx_v_X5_seekSafe : mx_okW mx_k_X5_seekSafe = true := by decide +kernel
set_option maxRecDepth 100000 in
theorem mx_o_X5_seekLure : mx_okM mx_k_X5_seekLure = true := by decide +kernel
set_option maxRecDepth 100000 in
theorem mx_v_X5_seekLure : mx_okW mx_k_X5_seekLure = true := by decide +kernel
set_option maxRecDepth 100000 in
theorem mx_o_X5_luresTo : mx_okM mx_k_X5_luresTo = true := by decide +kernel
set_option maxRecDepth 100000 in
theorem mx_v_X5_luresTo : mx_okW mx_k_X5_luresTo = true := by decide +kernel
set_option maxRecDepth 100000 in
theorem mx_o_X5_tableWorths : mx_okM mx_k_X5_tableWorths = true := by decide +kernel
set_option maxRecDepth 100000 in
theorem mx_v_X5_tableWorths : mx_okW mx_k_X5_tableWorths = true := by decide +kernel
set_option maxRecDepth 100000 in
theorem mx_o_X5_mostBehind : mx_okM mx_k_X5_mostBehind = true := by decide +kernel
set_option maxRecDepth 100000 in
theorem mx_v_X5_mostBehind : mx_okW mx_k_X5_mostBehind = true := by decide +kernel
set_option maxRecDepth 100000 in
theorem mx_o_X5_tableWays : mx_okM mx_k_X5_tableWays = true := by decide +kernel
set_option maxRecDepth 100000 in
theorem mx_v_X5_tableWays : mx_okW mx_k_X5_tableWays = true := by decide +kernel
set_option maxRecDepth 100000 in
theorem mx_o_X5_sumBehind : mx_okM mx_k_X5_sumBehind = true := by decide +kernel
set_option maxRecDepth 100000 in
theorem mx_v_X5_sumBehind : mx_okW mx_k_X5_sumBehind = true := by decide +kernel
end
section
/-! each method looked up: by wip/gen/gen3.py -/
set_option maxRecDepth 100000 in
theorem mx_o_X6_init : mx_okM mx_k_X6_init = true := by decide +kernel
set_option maxRecDepth 100000 in
theorem mx_v_X6_init : mx_okW mx_k_X6_init = true := by decide +kernel
set_option maxRecDepth 100000 in
theorem mx_o_X6_clear : mx_okM mx_k_X6_clear = true := by decide +kernel
set_option maxRecDepth 100000 in
theorem mx_v_X6_clear : mx_okW mx_k_X6_clear = true := by decide +kernel
set_option maxRecDepth 100000 in
theorem mx_o_X6_put : mx_okM mx_k_X6_put = true := by decide +kernel
set_option maxRecDepth 100000 in
theorem mx_v_X6_put : mx_okW mx_k_X6_put = true := by decide +kernel
set_option maxRecDepth 100000 in
theorem mx_o_X6_takeInto : mx_okM mx_k_X6_takeInto = true := by decide +kernel
set_option maxRecDepth 100000 in
theorem mx_v_X6_takeInto : mx_okW mx_k_X6_takeInto = true := by decide +kernel
set_option maxRecDepth 100000 in
theorem mx_o_X6_placeAt : mx_okM mx_k_X6_placeAt = true := by decide +kernel
set_option maxRecDepth 100000 in
theorem mx_v_X6_placeAt : mx_okW mx_k_X6_placeAt = true := by decide +kernel
set_option maxRecDepth 100000 in
theorem mx_o_X6_giveOldestToNewest : mx_okM mx_k_X6_giveOldestToNewest = true := by decide +kernel
set_option maxRecDepth 100000 in
theorem mx_v_X6_giveOldestToNewest : mx_okW mx_k_X6_giveOldestToNewest = true := by decide +kernel
set_option maxRecDepth 100000 in
theorem mx_o_X7_init : mx_okM mx_k_X7_init = true := by decide +kernel
set_option maxRecDepth 100000 in
theorem mx_v_X7_init : mx_okW mx_k_X7_init = true := by decide +kernel
set_option maxRecDepth 100000 in
theorem mx_o_X7_clear : mx_okM mx_k_X7_clear = true := by decide +kernel
set_option maxRecDepth 100000 in
theorem mx_v_X7_clear : mx_okW mx_k_X7_clear = true := by decide +kernel
set_option maxRecDepth 100000 in
theorem mx_o_X7_add : mx_okM mx_k_X7_add = true := by decide +kernel
set_option maxRecDepth 100000 in
theorem mx_v_X7_add : mx_okW mx_k_X7_add = true := by decide +kernel
set_option maxRecDepth 100000 in
theorem mx_o_X7_at : mx_okM mx_k_X7_at = true := by decide +kernel
set_option maxRecDepth 100000 in
theorem mx_v_X7_at : mx_okW mx_k_X7_at = true := by decide +kernel
set_option maxRecDepth 100000 in
theorem mx_o_X7_holds : mx_okM mx_k_X7_holds = true := by decide +kernel
set_option maxRecDepth 100000 in
theorem mx_v_X7_holds : mx_okW mx_k_X7_holds = true := by decide +kernel
set_option maxRecDepth 100000 in
theorem mx_o_X7_worthIn : mx_okM mx_k_X7_worthIn = true := by decide +kernel
set_option maxRecDepth 100000 in
theorem mx_v_X7_worthIn : mx_okW mx_k_X7_worthIn = true := by decide +kernel
set_option maxRecDepth 100000 in
theorem mx_o_X7_copyFrom : mx_okM mx_k_X7_copyFrom = true := by decide +kernel
set_option maxRecDepth 100000 in
theorem mx_v_X7_copyFrom : mx_okW mx_k_X7_copyFrom = true := by decide +kernel
set_option maxRecDepth 100000 in
theorem mx_o_X8_init : mx_okM mx_k_X8_init = true := by decide +kernel
set_option maxRecDepth 100000 in
theorem mx_v_X8_init : mx_okW mx_k_X8_init = true := by decide +kernel
set_option maxRecDepth 100000 in
theorem mx_o_X8_prepare : mx_okM mx_k_X8_prepare = true := by decide +kernel
set_option maxRecDepth 100000 in
theorem mx_v_X8_prepare : mx_okW mx_k_X8_prepare = true := by decide +kernel
set_option maxRecDepth 100000 in
theorem mx_o_X8_openingBy : mx_okM mx_k_X8_openingBy = true := by decide +kernel
set_option maxRecDepth 100000 in
theorem mx_v_X8_openingBy : mx_okW mx_k_X8_openingBy = true := by decide +kernel
set_option maxRecDepth 100000 in
theorem mx_o_X8_findSafe : mx_okM mx_k_X8_findSafe = true := by decide +kernel
set_option maxRecDepth 100000 in
theorem mx_v_X8_findSafe : mx_okW mx_k_X8_findSafe = true := by decide +kernel
set_option maxRecDepth 100000 in
theorem mx_o_X8_findLure : mx_okM mx_k_X8_findLure = true := by decide +kernel
set_option maxRecDepth 100000 in
theorem mx_v_X8_findLure : mx_okW mx_k_X8_findLure = true := by decide +kernel
set_option maxRecDepth 100000 in
theorem mx_o_X8_followShortest : mx_okM mx_k_X8_followShortest = true := by decide +kernel
set_option maxRecDepth 100000 in
theorem mx_v_X8_followShortest : mx_okW mx_k_X8_followShortest = true := by decide +kernel
set_option maxRecDepth 100000 in
theorem mx_o_X8_follow : mx_okM mx_k_X8_follow = true := by decide +kernel
set_option maxRecDepth 100000 in
theorem mx_v_X8_follow : mx_okW mx_k_X8_follow = true := by decide +kernel
set_option maxRecDepth 100000 in
theorem mx_o_X8_findBest : mx_okM mx_k_X8_findBest = true := by decide +kernel
set_option maxRecDepth 100000 in
theorem mx_v_X8_findBest : mx_okW mx_k_X8_findBest = true := by decide +kernel
set_option maxRecDepth 100000 in
theorem mx_o_X8_followWorth : mx_okM mx_k_X8_followWorth = true := by decide +kernel
set_option maxRecDepth 100000 in
theorem mx_v_X8_followWorth : mx_okW mx_k_X8_followWorth = true := by decide +kernel
set_option maxRecDepth 100000 in
theorem mx_o_X8_firstBehindWith : mx_okM mx_k_X8_firstBehindWith = true := by decide +kernel
set_option maxRecDepth 100000 in
theorem mx_v_X8_firstBehindWith : mx_okW mx_k_X8_firstBehindWith = true := by decide +kernel
set_option maxRecDepth 100000 in
theorem mx_o_X8_countWays : mx_okM mx_k_X8_countWays = true := by decide +kernel
set_option maxRecDepth 100000 in
theorem mx_v_X8_countWays : mx_okW mx_k_X8_countWays = true := by decide +kernel
set_option maxRecDepth 100000 in
theorem mx_o_X8_winnerBehind : mx_okM mx_k_X8_winnerBehind = true := by decide +kernel
set_option maxRecDepth 100000 in
theorem mx_v_X8_winnerBehind : mx_okW mx_k_X8_winnerBehind = true := by decide +kernel
set_option maxRecDepth 100000 in
theorem mx_o_X9_init : mx_okM mx_k_X9_init = true := by decide +kernel
set_option maxRecDepth 100000 in
theorem mx_v_X9_init : mx_okW mx_k_X9_init = true := by decide +kernel
set_option maxRecDepth 100000 in
theorem mx_o_X9_startIn : mx_okM mx_k_X9_startIn = true := by decide +kernel
set_option maxRecDepth 100000 in
theorem mx_v_X9_startIn : mx_okW mx_k_X9_startIn = true := by decide +kernel
set_option maxRecDepth 100000 in
theorem mx_o_X9_copyFrom : mx_okM mx_k_X9_copyFrom = true := by decide +kernel
set_option maxRecDepth 100000 in
theorem mx_v_X9_copyFrom : mx_okW mx_k_X9_copyFrom = true := by decide +kernel
set_option maxRecDepth 100000 in
theorem mx_o_X9_mayorOf : mx_okM mx_k_X9_mayorOf = true := by decide +kernel
set_option maxRecDepth 100000 in
theorem mx_v_X9_mayorOf : mx_okW mx_k_X9_mayorOf = true := by decide +kernel
set_option maxRecDepth 100000 in
theorem mx_o_X9_otherMayor : mx_okM mx_k_X9_otherMayor = true := by decide +kernel
set_option maxRecDepth 100000 in
theorem mx_v_X9_otherMayor : mx_okW mx_k_X9_otherMayor = true := by decide +kernel
set_option maxRecDepth 100000 in
theorem mx_o_X9_knowersOf : mx_okM mx_k_X9_knowersOf = true := by decide +kernel
set_option maxRecDepth 100000 in
theorem mx_v_X9_knowersOf : mx_okW mx_k_X9_knowersOf = true := by decide +kernel
set_option maxRecDepth 100000 in
theorem mx_o_X9_decreesOfBoth : mx_okM mx_k_X9_decreesOfBoth = true := by decide +kernel
set_option maxRecDepth 100000 in
theorem mx_v_X9_decreesOfBoth : mx_okW mx_k_X9_decreesOfBoth = true := by decide +kernel
set_option maxRecDepth 100000 in
theorem mx_o_X9_lastWord : mx_okM mx_k_X9_lastWord = true := by decide +kernel
set_option maxRecDepth 100000 in
theorem mx_v_X9_lastWord : mx_okW mx_k_X9_lastWord = true := by decide +kernel
set_option maxRecDepth 100000 in
theorem mx_o_X9_fits : mx_okM mx_k_X9_fits = true := by decide +kernel
set_option maxRecDepth 100000 in
theorem mx_v_X9_fits : mx_okW mx_k_X9_fits = true := by decide +kernel
set_option maxRecDepth 100000 in
theorem mx_o_X9_isEndable : mx_okM mx_k_X9_isEndable = true := by decide +kernel
set_option maxRecDepth 100000 in
theorem mx_v_X9_isEndable : mx_okW mx_k_X9_isEndable = true := by decide +kernel
set_option maxRecDepth 100000 in
theorem mx_o_X9_sayableByOther : mx_okM mx_k_X9_sayableByOther = true := by decide +kernel
set_option maxRecDepth 100000 in
theorem mx_v_X9_sayableByOther : mx_okW mx_k_X9_sayableByOther = true := by decide +kernel
set_option maxRecDepth 100000 in
theorem mx_o_X9_speak : mx_okM mx_k_X9_speak = true := by decide +kernel
set_option maxRecDepth 100000 in
theorem mx_v_X9_speak : mx_okW mx_k_X9_speak = true := by decide +kernel
set_option maxRecDepth 100000 in
theorem mx_o_X9_letFall : mx_okM mx_k_X9_letFall = true := by decide +kernel
set_option maxRecDepth 100000 in
theorem mx_v_X9_letFall : mx_okW mx_k_X9_letFall = true := by decide +kernel
set_option maxRecDepth 100000 in
theorem mx_o_X9_decree : mx_okM mx_k_X9_decree = true := by decide +kernel
set_option maxRecDepth 100000 in
theorem mx_v_X9_decree : mx_okW mx_k_X9_decree = true := by decide +kernel
set_option maxRecDepth 100000 in
theorem mx_o_X9_passOver : mx_okM mx_k_X9_passOver = true := by decide +kernel
set_option maxRecDepth 100000 in
theorem mx_v_X9_passOver : mx_okW mx_k_X9_passOver = true := by decide +kernel
set_option maxRecDepth 100000 in
theorem mx_o_X9_gain : mx_okM mx_k_X9_gain = true := by decide +kernel
set_option maxRecDepth 100000 in
theorem mx_v_X9_gain : mx_okW mx_k_X9_gain = true := by decide +kernel
set_option maxRecDepth 100000 in
theorem mx_o_X10_init : mx_okM mx_k_X10_init = true := by decide +kernel
set_option maxRecDepth 100000 in
theorem mx_v_X10_init : mx_okW mx_k_X10_init = true := by decide +kernel
set_option maxRecDepth 100000 in
theorem mx_o_X10_add : mx_okM mx_k_X10_add = true := by decide +kernel
set_option maxRecDepth 100000 in
theorem mx_v_X10_add : mx_okW mx_k_X10_add = true := by decide +kernel
set_option maxRecDepth 100000 in
theorem mx_o_X10_clear : mx_okM mx_k_X10_clear = true := by decide +kernel
set_option maxRecDepth 100000 in
theorem mx_v_X10_clear : mx_okW mx_k_X10_clear = true := by decide +kernel
set_option maxRecDepth 100000 in
theorem mx_o_X10_readInto : mx_okM mx_k_X10_readInto = true := by decide +kernel
set_option maxRecDepth 100000 in
theorem mx_v_X10_readInto : mx_okW mx_k_X10_readInto = true := by decide +kernel
set_option maxRecDepth 100000 in
theorem mx_o_X10_readItem : mx_okM mx_k_X10_readItem = true := by decide +kernel
set_option maxRecDepth 100000 in
theorem mx_v_X10_readItem : mx_okW mx_k_X10_readItem = true := by decide +kernel
set_option maxRecDepth 100000 in
theorem mx_o_X10_takeItem : mx_okM mx_k_X10_takeItem = true := by decide +kernel
set_option maxRecDepth 100000 in
theorem mx_v_X10_takeItem : mx_okW mx_k_X10_takeItem = true := by decide +kernel
set_option maxRecDepth 100000 in
theorem mx_o_X10_figuresAt : mx_okM mx_k_X10_figuresAt = true := by decide +kernel
set_option maxRecDepth 100000 in
theorem mx_v_X10_figuresAt : mx_okW mx_k_X10_figuresAt = true := by decide +kernel
set_option maxRecDepth 100000 in
theorem mx_o_X10_valueAt : mx_okM mx_k_X10_valueAt = true := by decide +kernel
set_option maxRecDepth 100000 in
theorem mx_v_X10_valueAt : mx_okW mx_k_X10_valueAt = true := by decide +kernel
set_option maxRecDepth 100000 in
theorem mx_o_X10_isFigure : mx_okM mx_k_X10_isFigure = true := by decide +kernel
set_option maxRecDepth 100000 in
theorem mx_v_X10_isFigure : mx_okW mx_k_X10_isFigure = true := by decide +kernel
set_option maxRecDepth 100000 in
theorem mx_o_X10_letterAt : mx_okM mx_k_X10_letterAt = true := by decide +kernel
set_option maxRecDepth 100000 in
theorem mx_v_X10_letterAt : mx_okW mx_k_X10_letterAt = true := by decide +kernel
end
section
/-! each method looked up: by wip/gen/gen3.py -/
set_option maxRecDepth 100000 in
theorem mx_o_X11_init : mx_okM mx_k_X11_init = true := by decide +kernel
set_option maxRecDepth 100000 in
theorem mx_v_X11_init : mx_okW mx_k_X11_init = true := by decide +kernel
set_option maxRecDepth 100000 in
theorem mx_o_X11_write : mx_okM mx_k_X11_write = true := by decide +kernel
set_option maxRecDepth 100000 in
theorem mx_v_X11_write : mx_okW mx_k_X11_write = true := by decide +kernel
set_option maxRecDepth 100000 in
theorem mx_o_X11_wipe : mx_okM mx_k_X11_wipe = true := by decide +kernel
set_option maxRecDepth 100000 in
theorem mx_v_X11_wipe : mx_okW mx_k_X11_wipe = true := by decide +kernel
set_option maxRecDepth 100000 in
theorem mx_o_X11_fault : mx_okM mx_k_X11_fault = true := by decide +kernel
set_option maxRecDepth 100000 in
theorem mx_v_X11_fault : mx_okW mx_k_X11_fault = true := by decide +kernel
set_option maxRecDepth 100000 in
theorem mx_o_X11_lay : mx_okM mx_k_X11_lay = true := by decide +kernel
set_option maxRecDepth 100000 in
theorem mx_v_X11_lay : mx_okW mx_k_X11_lay = true := by decide +kernel
set_option maxRecDepth 100000 in
theorem mx_o_X11_word : mx_okM mx_k_X11_word = true := by decide +kernel
set_option maxRecDepth 100000 in
theorem mx_v_X11_word : mx_okW mx_k_X11_word = true := by decide +kernel
set_option maxRecDepth 100000 in
theorem mx_o_X11_mayor : mx_okM mx_k_X11_mayor = true := by decide +kernel
set_option maxRecDepth 100000 in
theorem mx_v_X11_mayor : mx_okW mx_k_X11_mayor = true := by decide +kernel
set_option maxRecDepth 100000 in
theorem mx_o_X11_said : mx_okM mx_k_X11_said = true := by decide +kernel
set_option maxRecDepth 100000 in
theorem mx_v_X11_said : mx_okW mx_k_X11_said = true := by decide +kernel
set_option maxRecDepth 100000 in
theorem mx_o_X11_say : mx_okM mx_k_X11_say = true := by decide +kernel
set_option maxRecDepth 100000 in
theorem mx_v_X11_say : mx_okW mx_k_X11_say = true := by decide +kernel
set_option maxRecDepth 100000 in
theorem mx_o_X11_end : mx_okM mx_k_X11_end = true := by decide +kernel
set_option maxRecDepth 100000 in
theorem mx_v_X11_end : mx_okW mx_k_X11_end = true := by decide +kernel
set_option maxRecDepth 100000 in
theorem mx_o_X11_finish : mx_okM mx_k_X11_finish = true := by decide +kernel
set_option maxRecDepth 100000 in
theorem mx_v_X11_finish : mx_okW mx_k_X11_finish = true := by decide +kernel
set_option maxRecDepth 100000 in
theorem mx_o_X11_drop : mx_okM mx_k_X11_drop = true := by decide +kernel
set_option maxRecDepth 100000 in
theorem mx_v_X11_drop : mx_okW mx_k_X11_drop = true := by decide +kernel
set_option maxRecDepth 100000 in
theorem mx_o_X11_learn : mx_okM mx_k_X11_learn = true := by decide +kernel
set_option maxRecDepth 100000 in
theorem mx_v_X11_learn : mx_okW mx_k_X11_learn = true := by decide +kernel
set_option maxRecDepth 100000 in
theorem mx_o_X11_undo : mx_okM mx_k_X11_undo = true := by decide +kernel
set_option maxRecDepth 100000 in
theorem mx_v_X11_undo : mx_okW mx_k_X11_undo = true := by decide +kernel
set_option maxRecDepth 100000 in
theorem mx_o_X11_finishing : mx_okM mx_k_X11_finishing = true := by decide +kernel
set_option maxRecDepth 100000 in
theorem mx_v_X11_finishing : mx_okW mx_k_X11_finishing = true := by decide +kernel
set_option maxRecDepth 100000 in
theorem mx_o_X11_safe : mx_okM mx_k_X11_safe = true := by decide +kernel
set_option maxRecDepth 100000 in
theorem mx_v_X11_safe : mx_okW mx_k_X11_safe = true := by decide +kernel
set_option maxRecDepth 100000 in
theorem mx_o_X11_best : mx_okM mx_k_X11_best = true := by decide +kernel
set_option maxRecDepth 100000 in
theorem mx_v_X11_best : mx_okW mx_k_X11_best = true := by decide +kernel
set_option maxRecDepth 100000 in
theorem mx_o_X11_lure : mx_okM mx_k_X11_lure = true := by decide +kernel
set_option maxRecDepth 100000 in
theorem mx_v_X11_lure : mx_okW mx_k_X11_lure = true := by decide +kernel
set_option maxRecDepth 100000 in
theorem mx_o_X11_sitting : mx_okM mx_k_X11_sitting = true := by decide +kernel
set_option maxRecDepth 100000 in
theorem mx_v_X11_sitting : mx_okW mx_k_X11_sitting = true := by decide +kernel
set_option maxRecDepth 100000 in
theorem mx_o_X11_ways : mx_okM mx_k_X11_ways = true := by decide +kernel
set_option maxRecDepth 100000 in
theorem mx_v_X11_ways : mx_okW mx_k_X11_ways = true := by decide +kernel
set_option maxRecDepth 100000 in
theorem mx_o_X11_seen : mx_okM mx_k_X11_seen = true := by decide +kernel
set_option maxRecDepth 100000 in
theorem mx_v_X11_seen : mx_okW mx_k_X11_seen = true := by decide +kernel
set_option maxRecDepth 100000 in
theorem mx_o_X11_forget : mx_okM mx_k_X11_forget = true := by decide +kernel
set_option maxRecDepth 100000 in
theorem mx_v_X11_forget : mx_okW mx_k_X11_forget = true := by decide +kernel
set_option maxRecDepth 100000 in
theorem mx_o_X11_guessed : mx_okM mx_k_X11_guessed = true := by decide +kernel
set_option maxRecDepth 100000 in
theorem mx_v_X11_guessed : mx_okW mx_k_X11_guessed = true := by decide +kernel
set_option maxRecDepth 100000 in
theorem mx_o_X11_council : mx_okM mx_k_X11_council = true := by decide +kernel
set_option maxRecDepth 100000 in
theorem mx_v_X11_council : mx_okW mx_k_X11_council = true := by decide +kernel
set_option maxRecDepth 100000 in
theorem mx_o_X11_keep : mx_okM mx_k_X11_keep = true := by decide +kernel
set_option maxRecDepth 100000 in
theorem mx_v_X11_keep : mx_okW mx_k_X11_keep = true := by decide +kernel
set_option maxRecDepth 100000 in
theorem mx_o_X11_back : mx_okM mx_k_X11_back = true := by decide +kernel
set_option maxRecDepth 100000 in
theorem mx_v_X11_back : mx_okW mx_k_X11_back = true := by decide +kernel
set_option maxRecDepth 100000 in
theorem mx_o_X11_count : mx_okM mx_k_X11_count = true := by decide +kernel
set_option maxRecDepth 100000 in
theorem mx_v_X11_count : mx_okW mx_k_X11_count = true := by decide +kernel
set_option maxRecDepth 100000 in
theorem mx_o_X11_layText : mx_okM mx_k_X11_layText = true := by decide +kernel
set_option maxRecDepth 100000 in
theorem mx_v_X11_layText : mx_okW mx_k_X11_layText = true := by decide +kernel
set_option maxRecDepth 100000 in
theorem mx_o_X11_findFinishing : mx_okM mx_k_X11_findFinishing = true := by decide +kernel
set_option maxRecDepth 100000 in
theorem mx_v_X11_findFinishing : mx_okW mx_k_X11_findFinishing = true := by decide +kernel
set_option maxRecDepth 100000 in
theorem mx_o_X11_told : mx_okM mx_k_X11_told = true := by decide +kernel
set_option maxRecDepth 100000 in
theorem mx_v_X11_told : mx_okW mx_k_X11_told = true := by decide +kernel
set_option maxRecDepth 100000 in
theorem mx_o_X11_isMayor : mx_okM mx_k_X11_isMayor = true := by decide +kernel
set_option maxRecDepth 100000 in
theorem mx_v_X11_isMayor : mx_okW mx_k_X11_isMayor = true := by decide +kernel
set_option maxRecDepth 100000 in
theorem mx_o_X11_bit : mx_okM mx_k_X11_bit = true := by decide +kernel
set_option maxRecDepth 100000 in
theorem mx_v_X11_bit : mx_okW mx_k_X11_bit = true := by decide +kernel
end
section
/-! each method looked up: by wip/gen/gen3.py -/
set_option maxRecDepth 100000 in
theorem mx_o_X12_init : mx_okM mx_k_X12_init = true := by decide +kernel
set_option maxRecDepth 100000 in
theorem mx_v_X12_init : mx_okW mx_k_X12_init = true := by decide +kernel
set_option maxRecDepth 100000 in
theorem mx_o_X12_in : mx_okM mx_k_X12_in = true := by decide +kernel
set_option maxRecDepth 100000 in
theorem mx_v_X12_in : mx_okW mx_k_X12_in = true := by decide +kernel
set_option maxRecDepth 100000 in
theorem mx_o_X12_isWord : mx_okM mx_k_X12_isWord = true := by decide +kernel
set_option maxRecDepth 100000 in
theorem mx_v_X12_isWord : mx_okW mx_k_X12_isWord = true := by decide +kernel
set_option maxRecDepth 100000 in
theorem mx_o_X12_has : mx_okM mx_k_X12_has = true := by decide +kernel
set_option maxRecDepth 100000 in
theorem mx_v_X12_has : mx_okW mx_k_X12_has = true := by decide +kernel
set_option maxRecDepth 100000 in
theorem mx_o_X12_write : mx_okM mx_k_X12_write = true := by decide +kernel
set_option maxRecDepth 100000 in
theorem mx_v_X12_write : mx_okW mx_k_X12_write = true := by decide +kernel
set_option maxRecDepth 100000 in
theorem mx_o_X12_wipe : mx_okM mx_k_X12_wipe = true := by decide +kernel
set_option maxRecDepth 100000 in
theorem mx_v_X12_wipe : mx_okW mx_k_X12_wipe = true := by decide +kernel
set_option maxRecDepth 100000 in
theorem mx_o_X12_letterAt : mx_okM mx_k_X12_letterAt = true := by decide +kernel
set_option maxRecDepth 100000 in
theorem mx_v_X12_letterAt : mx_okW mx_k_X12_letterAt = true := by decide +kernel
set_option maxRecDepth 100000 in
theorem mx_o_X12_isFigure : mx_okM mx_k_X12_isFigure = true := by decide +kernel
set_option maxRecDepth 100000 in
theorem mx_v_X12_isFigure : mx_okW mx_k_X12_isFigure = true := by decide +kernel
set_option maxRecDepth 100000 in
theorem mx_o_X12_number : mx_okM mx_k_X12_number = true := by decide +kernel
set_option maxRecDepth 100000 in
theorem mx_v_X12_number : mx_okW mx_k_X12_number = true := by decide +kernel
set_option maxRecDepth 100000 in
theorem mx_o_X12_begins : mx_okM mx_k_X12_begins = true := by decide +kernel
set_option maxRecDepth 100000 in
theorem mx_v_X12_begins : mx_okW mx_k_X12_begins = true := by decide +kernel
set_option maxRecDepth 100000 in
theorem mx_o_X12_wordOf : mx_okM mx_k_X12_wordOf = true := by decide +kernel
set_option maxRecDepth 100000 in
theorem mx_v_X12_wordOf : mx_okW mx_k_X12_wordOf = true := by decide +kernel
set_option maxRecDepth 100000 in
theorem mx_o_X12_readsItem : mx_okM mx_k_X12_readsItem = true := by decide +kernel
set_option maxRecDepth 100000 in
theorem mx_v_X12_readsItem : mx_okW mx_k_X12_readsItem = true := by decide +kernel
set_option maxRecDepth 100000 in
theorem mx_o_X12_readsAll : mx_okM mx_k_X12_readsAll = true := by decide +kernel
set_option maxRecDepth 100000 in
theorem mx_v_X12_readsAll : mx_okW mx_k_X12_readsAll = true := by decide +kernel
set_option maxRecDepth 100000 in
theorem mx_o_X12_fault : mx_okM mx_k_X12_fault = true := by decide +kernel
set_option maxRecDepth 100000 in
theorem mx_v_X12_fault : mx_okW mx_k_X12_fault = true := by decide +kernel
set_option maxRecDepth 100000 in
theorem mx_o_X12_lays : mx_okM mx_k_X12_lays = true := by decide +kernel
set_option maxRecDepth 100000 in
theorem mx_v_X12_lays : mx_okW mx_k_X12_lays = true := by decide +kernel
set_option maxRecDepth 100000 in
theorem mx_o_X12_lay : mx_okM mx_k_X12_lay = true := by decide +kernel
set_option maxRecDepth 100000 in
theorem mx_v_X12_lay : mx_okW mx_k_X12_lay = true := by decide +kernel
set_option maxRecDepth 100000 in
theorem mx_o_X12_word : mx_okM mx_k_X12_word = true := by decide +kernel
set_option maxRecDepth 100000 in
theorem mx_v_X12_word : mx_okW mx_k_X12_word = true := by decide +kernel
set_option maxRecDepth 100000 in
theorem mx_o_X12_mayor : mx_okM mx_k_X12_mayor = true := by decide +kernel
set_option maxRecDepth 100000 in
theorem mx_v_X12_mayor : mx_okW mx_k_X12_mayor = true := by decide +kernel
set_option maxRecDepth 100000 in
theorem mx_o_X12_said : mx_okM mx_k_X12_said = true := by decide +kernel
set_option maxRecDepth 100000 in
theorem mx_v_X12_said : mx_okW mx_k_X12_said = true := by decide +kernel
set_option maxRecDepth 100000 in
theorem mx_o_X12_keeps : mx_okM mx_k_X12_keeps = true := by decide +kernel
set_option maxRecDepth 100000 in
theorem mx_v_X12_keeps : mx_okW mx_k_X12_keeps = true := by decide +kernel
set_option maxRecDepth 100000 in
theorem mx_o_X12_last : mx_okM mx_k_X12_last = true := by decide +kernel
set_option maxRecDepth 100000 in
theorem mx_v_X12_last : mx_okW mx_k_X12_last = true := by decide +kernel
set_option maxRecDepth 100000 in
theorem mx_o_X12_maySay : mx_okM mx_k_X12_maySay = true := by decide +kernel
set_option maxRecDepth 100000 in
theorem mx_v_X12_maySay : mx_okW mx_k_X12_maySay = true := by decide +kernel
set_option maxRecDepth 100000 in
theorem mx_o_X12_says : mx_okM mx_k_X12_says = true := by decide +kernel
set_option maxRecDepth 100000 in
theorem mx_v_X12_says : mx_okW mx_k_X12_says = true := by decide +kernel
set_option maxRecDepth 100000 in
theorem mx_o_X12_say : mx_okM mx_k_X12_say = true := by decide +kernel
set_option maxRecDepth 100000 in
theorem mx_v_X12_say : mx_okW mx_k_X12_say = true := by decide +kernel
set_option maxRecDepth 100000 in
theorem mx_o_X12_worthNow : mx_okM mx_k_X12_worthNow = true := by decide +kernel
set_option maxRecDepth 100000 in
theorem mx_v_X12_worthNow : mx_okW mx_k_X12_worthNow = true := by decide +kernel
set_option maxRecDepth 100000 in
theorem mx_o_X12_decrees : mx_okM mx_k_X12_decrees = true := by decide +kernel
set_option maxRecDepth 100000 in
theorem mx_v_X12_decrees : mx_okW mx_k_X12_decrees = true := by decide +kernel
set_option maxRecDepth 100000 in
theorem mx_o_X12_mayEnd : mx_okM mx_k_X12_mayEnd = true := by decide +kernel
set_option maxRecDepth 100000 in
theorem mx_v_X12_mayEnd : mx_okW mx_k_X12_mayEnd = true := by decide +kernel
set_option maxRecDepth 100000 in
theorem mx_o_X12_end : mx_okM mx_k_X12_end = true := by decide +kernel
set_option maxRecDepth 100000 in
theorem mx_v_X12_end : mx_okW mx_k_X12_end = true := by decide +kernel
set_option maxRecDepth 100000 in
theorem mx_o_X12_stops : mx_okM mx_k_X12_stops = true := by decide +kernel
set_option maxRecDepth 100000 in
theorem mx_v_X12_stops : mx_okW mx_k_X12_stops = true := by decide +kernel
set_option maxRecDepth 100000 in
theorem mx_o_X12_levelsOf : mx_okM mx_k_X12_levelsOf = true := by decide +kernel
set_option maxRecDepth 100000 in
theorem mx_v_X12_levelsOf : mx_okW mx_k_X12_levelsOf = true := by decide +kernel
set_option maxRecDepth 100000 in
theorem mx_o_X12_finishes : mx_okM mx_k_X12_finishes = true := by decide +kernel
set_option maxRecDepth 100000 in
theorem mx_v_X12_finishes : mx_okW mx_k_X12_finishes = true := by decide +kernel
set_option maxRecDepth 100000 in
theorem mx_o_X12_all : mx_okM mx_k_X12_all = true := by decide +kernel
set_option maxRecDepth 100000 in
theorem mx_v_X12_all : mx_okW mx_k_X12_all = true := by decide +kernel
set_option maxRecDepth 100000 in
theorem mx_o_X12_knowsFor : mx_okM mx_k_X12_knowsFor = true := by decide +kernel
set_option maxRecDepth 100000 in
theorem mx_v_X12_knowsFor : mx_okW mx_k_X12_knowsFor = true := by decide +kernel
set_option maxRecDepth 100000 in
theorem mx_o_X12_finishesNow : mx_okM mx_k_X12_finishesNow = true := by decide +kernel
set_option maxRecDepth 100000 in
theorem mx_v_X12_finishesNow : mx_okW mx_k_X12_finishesNow = true := by decide +kernel
set_option maxRecDepth 100000 in
theorem mx_o_X12_ends : mx_okM mx_k_X12_ends = true := by decide +kernel
set_option maxRecDepth 100000 in
theorem mx_v_X12_ends : mx_okW mx_k_X12_ends = true := by decide +kernel
end
section
/-! each method looked up: by wip/gen/gen3.py -/
set_option maxRecDepth 100000 in
theorem mx_o_X12_finish : mx_okM mx_k_X12_finish = true := by decide +kernel
set_option maxRecDepth 100000 in
theorem mx_v_X12_finish : mx_okW mx_k_X12_finish = true := by decide +kernel
set_option maxRecDepth 100000 in
theorem mx_o_X12_drops : mx_okM mx_k_X12_drops = true := by decide +kernel
set_option maxRecDepth 100000 in
theorem mx_v_X12_drops : mx_okW mx_k_X12_drops = true := by decide +kernel
set_option maxRecDepth 100000 in
theorem mx_o_X12_drop : mx_okM mx_k_X12_drop = true := by decide +kernel
set_option maxRecDepth 100000 in
theorem mx_v_X12_drop : mx_okW mx_k_X12_drop = true := by decide +kernel
set_option maxRecDepth 100000 in
theorem mx_o_X12_learn : mx_okM mx_k_X12_learn = true := by decide +kernel
set_option maxRecDepth 100000 in
theorem mx_v_X12_learn : mx_okW mx_k_X12_learn = true := by decide +kernel
set_option maxRecDepth 100000 in
theorem mx_o_X12_undo : mx_okM mx_k_X12_undo = true := by decide +kernel
set_option maxRecDepth 100000 in
theorem mx_v_X12_undo : mx_okW mx_k_X12_undo = true := by decide +kernel
set_option maxRecDepth 100000 in
theorem mx_o_X12_finishing : mx_okM mx_k_X12_finishing = true := by decide +kernel
set_option maxRecDepth 100000 in
theorem mx_v_X12_finishing : mx_okW mx_k_X12_finishing = true := by decide +kernel
set_option maxRecDepth 100000 in
theorem mx_o_X12_lost : mx_okM mx_k_X12_lost = true := by decide +kernel
set_option maxRecDepth 100000 in
theorem mx_v_X12_lost : mx_okW mx_k_X12_lost = true := by decide +kernel
set_option maxRecDepth 100000 in
theorem mx_o_X12_reckons : mx_okM mx_k_X12_reckons = true := by decide +kernel
set_option maxRecDepth 100000 in
theorem mx_v_X12_reckons : mx_okW mx_k_X12_reckons = true := by decide +kernel
set_option maxRecDepth 100000 in
theorem mx_o_X12_lowest : mx_okM mx_k_X12_lowest = true := by decide +kernel
set_option maxRecDepth 100000 in
theorem mx_v_X12_lowest : mx_okW mx_k_X12_lowest = true := by decide +kernel
set_option maxRecDepth 100000 in
theorem mx_o_X12_isSafe : mx_okM mx_k_X12_isSafe = true := by decide +kernel
set_option maxRecDepth 100000 in
theorem mx_v_X12_isSafe : mx_okW mx_k_X12_isSafe = true := by decide +kernel
set_option maxRecDepth 100000 in
theorem mx_o_X12_safe : mx_okM mx_k_X12_safe = true := by decide +kernel
set_option maxRecDepth 100000 in
theorem mx_v_X12_safe : mx_okW mx_k_X12_safe = true := by decide +kernel
set_option maxRecDepth 100000 in
theorem mx_o_X12_gainsFor : mx_okM mx_k_X12_gainsFor = true := by decide +kernel
set_option maxRecDepth 100000 in
theorem mx_v_X12_gainsFor : mx_okW mx_k_X12_gainsFor = true := by decide +kernel
set_option maxRecDepth 100000 in
theorem mx_o_X12_best : mx_okM mx_k_X12_best = true := by decide +kernel
set_option maxRecDepth 100000 in
theorem mx_v_X12_best : mx_okW mx_k_X12_best = true := by decide +kernel
set_option maxRecDepth 100000 in
theorem mx_o_X12_isLure : mx_okM mx_k_X12_isLure = true := by decide +kernel
set_option maxRecDepth 100000 in
theorem mx_v_X12_isLure : mx_okW mx_k_X12_isLure = true := by decide +kernel
set_option maxRecDepth 100000 in
theorem mx_o_X12_lure : mx_okM mx_k_X12_lure = true := by decide +kernel
set_option maxRecDepth 100000 in
theorem mx_v_X12_lure : mx_okW mx_k_X12_lure = true := by decide +kernel
set_option maxRecDepth 100000 in
theorem mx_o_X12_sitting : mx_okM mx_k_X12_sitting = true := by decide +kernel
set_option maxRecDepth 100000 in
theorem mx_v_X12_sitting : mx_okW mx_k_X12_sitting = true := by decide +kernel
set_option maxRecDepth 100000 in
theorem mx_o_X12_ways : mx_okM mx_k_X12_ways = true := by decide +kernel
set_option maxRecDepth 100000 in
theorem mx_v_X12_ways : mx_okW mx_k_X12_ways = true := by decide +kernel
set_option maxRecDepth 100000 in
theorem mx_o_X12_seen : mx_okM mx_k_X12_seen = true := by decide +kernel
set_option maxRecDepth 100000 in
theorem mx_v_X12_seen : mx_okW mx_k_X12_seen = true := by decide +kernel
set_option maxRecDepth 100000 in
theorem mx_o_X12_forget : mx_okM mx_k_X12_forget = true := by decide +kernel
set_option maxRecDepth 100000 in
theorem mx_v_X12_forget : mx_okW mx_k_X12_forget = true := by decide +kernel
set_option maxRecDepth 100000 in
theorem mx_o_X12_guessed : mx_okM mx_k_X12_guessed = true := by decide +kernel
set_option maxRecDepth 100000 in
theorem mx_v_X12_guessed : mx_okW mx_k_X12_guessed = true := by decide +kernel
set_option maxRecDepth 100000 in
theorem mx_o_X12_turn : mx_okM mx_k_X12_turn = true := by decide +kernel
set_option maxRecDepth 100000 in
theorem mx_v_X12_turn : mx_okW mx_k_X12_turn = true := by decide +kernel
set_option maxRecDepth 100000 in
theorem mx_o_X12_council : mx_okM mx_k_X12_council = true := by decide +kernel
set_option maxRecDepth 100000 in
theorem mx_v_X12_council : mx_okW mx_k_X12_council = true := by decide +kernel
set_option maxRecDepth 100000 in
theorem mx_o_X12_keep : mx_okM mx_k_X12_keep = true := by decide +kernel
set_option maxRecDepth 100000 in
theorem mx_v_X12_keep : mx_okW mx_k_X12_keep = true := by decide +kernel
set_option maxRecDepth 100000 in
theorem mx_o_X12_back : mx_okM mx_k_X12_back = true := by decide +kernel
set_option maxRecDepth 100000 in
theorem mx_v_X12_back : mx_okW mx_k_X12_back = true := by decide +kernel
set_option maxRecDepth 100000 in
theorem mx_o_X12_count : mx_okM mx_k_X12_count = true := by decide +kernel
set_option maxRecDepth 100000 in
theorem mx_v_X12_count : mx_okW mx_k_X12_count = true := by decide +kernel
end
section
/-! each method looked up: by wip/gen/gen3.py -/
set_option maxRecDepth 100000 in
theorem mx_o_L_law : mx_okM mx_k_L_law = true := by decide +kernel
theorem mx_oks : ∀ y, y < mx_law → mx_okM (mx_tab y) = true ∧ mx_okW (mx_tab y) = true := by
  intro y hy
  match y, hy with
  | 0, _ => exact ⟨mx_o_X0_init, mx_v_X0_init⟩
  | 1, _ => exact ⟨mx_o_X0_clear, mx_v_X0_clear⟩
  | 2, _ => exact ⟨mx_o_X0_takePair, mx_v_X0_takePair⟩
  | 3, _ => exact ⟨mx_o_X0_takeSingle, mx_v_X0_takeSingle⟩
  | 4, _ => exact ⟨mx_o_X0_addWord, mx_v_X0_addWord⟩
  | 5, _ => exact ⟨mx_o_X0_addBehind, mx_v_X0_addBehind⟩
  | 6, _ => exact ⟨mx_o_X0_addKnown, mx_v_X0_addKnown⟩
  | 7, _ => exact ⟨mx_o_X0_setLongest, mx_v_X0_setLongest⟩
  | 8, _ => exact ⟨mx_o_X0_setChain, mx_v_X0_setChain⟩
  | 9, _ => exact ⟨mx_o_X0_has, mx_v_X0_has⟩
  | 10, _ => exact ⟨mx_o_X0_kindOf, mx_v_X0_kindOf⟩
  | 11, _ => exact ⟨mx_o_X0_worthOf, mx_v_X0_worthOf⟩
  | 12, _ => exact ⟨mx_o_X0_behindOf, mx_v_X0_behindOf⟩
  | 13, _ => exact ⟨mx_o_X0_allWords, mx_v_X0_allWords⟩
  | 14, _ => exact ⟨mx_o_X0_aheadOf, mx_v_X0_aheadOf⟩
  | 15, _ => exact ⟨mx_o_X0_firstOf, mx_v_X0_firstOf⟩
  | 16, _ => exact ⟨mx_o_X1_init, mx_v_X1_init⟩
  | 17, _ => exact ⟨mx_o_X1_outcome, mx_v_X1_outcome⟩
  | 18, _ => exact ⟨mx_o_X1_drawOf, mx_v_X1_drawOf⟩
  | 19, _ => exact ⟨mx_o_X1_step, mx_v_X1_step⟩
  | 20, _ => exact ⟨mx_o_X1_finishes, mx_v_X1_finishes⟩
  | 21, _ => exact ⟨mx_o_X2_init, mx_v_X2_init⟩
  | 22, _ => exact ⟨mx_o_X2_fillStarts, mx_v_X2_fillStarts⟩
  | 23, _ => exact ⟨mx_o_X2_couldBehind, mx_v_X2_couldBehind⟩
  | 24, _ => exact ⟨mx_o_X2_find, mx_v_X2_find⟩
  | 25, _ => exact ⟨mx_o_X2_fewestMore, mx_v_X2_fewestMore⟩
  | 26, _ => exact ⟨mx_o_X3_init, mx_v_X3_init⟩
  | 27, _ => exact ⟨mx_o_X3_startAnew, mx_v_X3_startAnew⟩
  | 28, _ => exact ⟨mx_o_X3_clear, mx_v_X3_clear⟩
  | 29, _ => exact ⟨mx_o_X3_note, mx_v_X3_note⟩
  | 30, _ => exact ⟨mx_o_X3_weigh, mx_v_X3_weigh⟩
  | 31, _ => exact ⟨mx_o_X3_tableOnce, mx_v_X3_tableOnce⟩
  | 32, _ => exact ⟨mx_o_X4_init, mx_v_X4_init⟩
  | 33, _ => exact ⟨mx_o_X4_startWith, mx_v_X4_startWith⟩
  | 34, _ => exact ⟨mx_o_X4_copyFrom, mx_v_X4_copyFrom⟩
  | 35, _ => exact ⟨mx_o_X5_init, mx_v_X5_init⟩
  | 36, _ => exact ⟨mx_o_X5_prepare, mx_v_X5_prepare⟩
  | 37, _ => exact ⟨mx_o_X5_firstsWith, mx_v_X5_firstsWith⟩
  | 38, _ => exact ⟨mx_o_X5_leadingWith, mx_v_X5_leadingWith⟩
  | 39, _ => exact ⟨mx_o_X5_tableAt, mx_v_X5_tableAt⟩
  | 40, _ => exact ⟨mx_o_X5_seekSafe, mx_v_X5_seekSafe⟩
  | 41, _ => exact ⟨mx_o_X5_seekLure, mx_v_X5_seekLure⟩
  | 42, _ => exact ⟨mx_o_X5_luresTo, mx_v_X5_luresTo⟩
  | 43, _ => exact ⟨mx_o_X5_tableWorths, mx_v_X5_tableWorths⟩
  | 44, _ => exact ⟨mx_o_X5_mostBehind, mx_v_X5_mostBehind⟩
  | 45, _ => exact ⟨mx_o_X5_tableWays, mx_v_X5_tableWays⟩
  | 46, _ => exact ⟨mx_o_X5_sumBehind, mx_v_X5_sumBehind⟩
  | 47, _ => exact ⟨mx_o_X6_init, mx_v_X6_init⟩
  | 48, _ => exact ⟨mx_o_X6_clear, mx_v_X6_clear⟩
  | 49, _ => exact ⟨mx_o_X6_put, mx_v_X6_put⟩
  | 50, _ => exact ⟨mx_o_X6_takeInto, mx_v_X6_takeInto⟩
  | 51, _ => exact ⟨mx_o_X6_placeAt, mx_v_X6_placeAt⟩
  | 52, _ => exact ⟨mx_o_X6_giveOldestToNewest, mx_v_X6_giveOldestToNewest⟩
  | 53, _ => exact ⟨mx_o_X7_init, mx_v_X7_init⟩
  | 54, _ => exact ⟨mx_o_X7_clear, mx_v_X7_clear⟩
  | 55, _ => exact ⟨mx_o_X7_add, mx_v_X7_add⟩
  | 56, _ => exact ⟨mx_o_X7_at, mx_v_X7_at⟩
  | 57, _ => exact ⟨mx_o_X7_holds, mx_v_X7_holds⟩
  | 58, _ => exact ⟨mx_o_X7_worthIn, mx_v_X7_worthIn⟩
  | 59, _ => exact ⟨mx_o_X7_copyFrom, mx_v_X7_copyFrom⟩
  | 60, _ => exact ⟨mx_o_X8_init, mx_v_X8_init⟩
  | 61, _ => exact ⟨mx_o_X8_prepare, mx_v_X8_prepare⟩
  | 62, _ => exact ⟨mx_o_X8_openingBy, mx_v_X8_openingBy⟩
  | 63, _ => exact ⟨mx_o_X8_findSafe, mx_v_X8_findSafe⟩
  | 64, _ => exact ⟨mx_o_X8_findLure, mx_v_X8_findLure⟩
  | 65, _ => exact ⟨mx_o_X8_followShortest, mx_v_X8_followShortest⟩
  | 66, _ => exact ⟨mx_o_X8_follow, mx_v_X8_follow⟩
  | 67, _ => exact ⟨mx_o_X8_findBest, mx_v_X8_findBest⟩
  | 68, _ => exact ⟨mx_o_X8_followWorth, mx_v_X8_followWorth⟩
  | 69, _ => exact ⟨mx_o_X8_firstBehindWith, mx_v_X8_firstBehindWith⟩
  | 70, _ => exact ⟨mx_o_X8_countWays, mx_v_X8_countWays⟩
  | 71, _ => exact ⟨mx_o_X8_winnerBehind, mx_v_X8_winnerBehind⟩
  | 72, _ => exact ⟨mx_o_X9_init, mx_v_X9_init⟩
  | 73, _ => exact ⟨mx_o_X9_startIn, mx_v_X9_startIn⟩
  | 74, _ => exact ⟨mx_o_X9_copyFrom, mx_v_X9_copyFrom⟩
  | 75, _ => exact ⟨mx_o_X9_mayorOf, mx_v_X9_mayorOf⟩
  | 76, _ => exact ⟨mx_o_X9_otherMayor, mx_v_X9_otherMayor⟩
  | 77, _ => exact ⟨mx_o_X9_knowersOf, mx_v_X9_knowersOf⟩
  | 78, _ => exact ⟨mx_o_X9_decreesOfBoth, mx_v_X9_decreesOfBoth⟩
  | 79, _ => exact ⟨mx_o_X9_lastWord, mx_v_X9_lastWord⟩
  | 80, _ => exact ⟨mx_o_X9_fits, mx_v_X9_fits⟩
  | 81, _ => exact ⟨mx_o_X9_isEndable, mx_v_X9_isEndable⟩
  | 82, _ => exact ⟨mx_o_X9_sayableByOther, mx_v_X9_sayableByOther⟩
  | 83, _ => exact ⟨mx_o_X9_speak, mx_v_X9_speak⟩
  | 84, _ => exact ⟨mx_o_X9_letFall, mx_v_X9_letFall⟩
  | 85, _ => exact ⟨mx_o_X9_decree, mx_v_X9_decree⟩
  | 86, _ => exact ⟨mx_o_X9_passOver, mx_v_X9_passOver⟩
  | 87, _ => exact ⟨mx_o_X9_gain, mx_v_X9_gain⟩
  | 88, _ => exact ⟨mx_o_X10_init, mx_v_X10_init⟩
  | 89, _ => exact ⟨mx_o_X10_add, mx_v_X10_add⟩
  | 90, _ => exact ⟨mx_o_X10_clear, mx_v_X10_clear⟩
  | 91, _ => exact ⟨mx_o_X10_readInto, mx_v_X10_readInto⟩
  | 92, _ => exact ⟨mx_o_X10_readItem, mx_v_X10_readItem⟩
  | 93, _ => exact ⟨mx_o_X10_takeItem, mx_v_X10_takeItem⟩
  | 94, _ => exact ⟨mx_o_X10_figuresAt, mx_v_X10_figuresAt⟩
  | 95, _ => exact ⟨mx_o_X10_valueAt, mx_v_X10_valueAt⟩
  | 96, _ => exact ⟨mx_o_X10_isFigure, mx_v_X10_isFigure⟩
  | 97, _ => exact ⟨mx_o_X10_letterAt, mx_v_X10_letterAt⟩
  | 98, _ => exact ⟨mx_o_X11_init, mx_v_X11_init⟩
  | 99, _ => exact ⟨mx_o_X11_write, mx_v_X11_write⟩
  | 100, _ => exact ⟨mx_o_X11_wipe, mx_v_X11_wipe⟩
  | 101, _ => exact ⟨mx_o_X11_fault, mx_v_X11_fault⟩
  | 102, _ => exact ⟨mx_o_X11_lay, mx_v_X11_lay⟩
  | 103, _ => exact ⟨mx_o_X11_word, mx_v_X11_word⟩
  | 104, _ => exact ⟨mx_o_X11_mayor, mx_v_X11_mayor⟩
  | 105, _ => exact ⟨mx_o_X11_said, mx_v_X11_said⟩
  | 106, _ => exact ⟨mx_o_X11_say, mx_v_X11_say⟩
  | 107, _ => exact ⟨mx_o_X11_end, mx_v_X11_end⟩
  | 108, _ => exact ⟨mx_o_X11_finish, mx_v_X11_finish⟩
  | 109, _ => exact ⟨mx_o_X11_drop, mx_v_X11_drop⟩
  | 110, _ => exact ⟨mx_o_X11_learn, mx_v_X11_learn⟩
  | 111, _ => exact ⟨mx_o_X11_undo, mx_v_X11_undo⟩
  | 112, _ => exact ⟨mx_o_X11_finishing, mx_v_X11_finishing⟩
  | 113, _ => exact ⟨mx_o_X11_safe, mx_v_X11_safe⟩
  | 114, _ => exact ⟨mx_o_X11_best, mx_v_X11_best⟩
  | 115, _ => exact ⟨mx_o_X11_lure, mx_v_X11_lure⟩
  | 116, _ => exact ⟨mx_o_X11_sitting, mx_v_X11_sitting⟩
  | 117, _ => exact ⟨mx_o_X11_ways, mx_v_X11_ways⟩
  | 118, _ => exact ⟨mx_o_X11_seen, mx_v_X11_seen⟩
  | 119, _ => exact ⟨mx_o_X11_forget, mx_v_X11_forget⟩
  | 120, _ => exact ⟨mx_o_X11_guessed, mx_v_X11_guessed⟩
  | 121, _ => exact ⟨mx_o_X11_council, mx_v_X11_council⟩
  | 122, _ => exact ⟨mx_o_X11_keep, mx_v_X11_keep⟩
  | 123, _ => exact ⟨mx_o_X11_back, mx_v_X11_back⟩
  | 124, _ => exact ⟨mx_o_X11_count, mx_v_X11_count⟩
  | 125, _ => exact ⟨mx_o_X11_layText, mx_v_X11_layText⟩
  | 126, _ => exact ⟨mx_o_X11_findFinishing, mx_v_X11_findFinishing⟩
  | 127, _ => exact ⟨mx_o_X11_told, mx_v_X11_told⟩
  | 128, _ => exact ⟨mx_o_X11_isMayor, mx_v_X11_isMayor⟩
  | 129, _ => exact ⟨mx_o_X11_bit, mx_v_X11_bit⟩
  | 130, _ => exact ⟨mx_o_X12_init, mx_v_X12_init⟩
  | 131, _ => exact ⟨mx_o_X12_in, mx_v_X12_in⟩
  | 132, _ => exact ⟨mx_o_X12_isWord, mx_v_X12_isWord⟩
  | 133, _ => exact ⟨mx_o_X12_has, mx_v_X12_has⟩
  | 134, _ => exact ⟨mx_o_X12_write, mx_v_X12_write⟩
  | 135, _ => exact ⟨mx_o_X12_wipe, mx_v_X12_wipe⟩
  | 136, _ => exact ⟨mx_o_X12_letterAt, mx_v_X12_letterAt⟩
  | 137, _ => exact ⟨mx_o_X12_isFigure, mx_v_X12_isFigure⟩
  | 138, _ => exact ⟨mx_o_X12_number, mx_v_X12_number⟩
  | 139, _ => exact ⟨mx_o_X12_begins, mx_v_X12_begins⟩
  | 140, _ => exact ⟨mx_o_X12_wordOf, mx_v_X12_wordOf⟩
  | 141, _ => exact ⟨mx_o_X12_readsItem, mx_v_X12_readsItem⟩
  | 142, _ => exact ⟨mx_o_X12_readsAll, mx_v_X12_readsAll⟩
  | 143, _ => exact ⟨mx_o_X12_fault, mx_v_X12_fault⟩
  | 144, _ => exact ⟨mx_o_X12_lays, mx_v_X12_lays⟩
  | 145, _ => exact ⟨mx_o_X12_lay, mx_v_X12_lay⟩
  | 146, _ => exact ⟨mx_o_X12_word, mx_v_X12_word⟩
  | 147, _ => exact ⟨mx_o_X12_mayor, mx_v_X12_mayor⟩
  | 148, _ => exact ⟨mx_o_X12_said, mx_v_X12_said⟩
  | 149, _ => exact ⟨mx_o_X12_keeps, mx_v_X12_keeps⟩
  | 150, _ => exact ⟨mx_o_X12_last, mx_v_X12_last⟩
  | 151, _ => exact ⟨mx_o_X12_maySay, mx_v_X12_maySay⟩
  | 152, _ => exact ⟨mx_o_X12_says, mx_v_X12_says⟩
  | 153, _ => exact ⟨mx_o_X12_say, mx_v_X12_say⟩
  | 154, _ => exact ⟨mx_o_X12_worthNow, mx_v_X12_worthNow⟩
  | 155, _ => exact ⟨mx_o_X12_decrees, mx_v_X12_decrees⟩
  | 156, _ => exact ⟨mx_o_X12_mayEnd, mx_v_X12_mayEnd⟩
  | 157, _ => exact ⟨mx_o_X12_end, mx_v_X12_end⟩
  | 158, _ => exact ⟨mx_o_X12_stops, mx_v_X12_stops⟩
  | 159, _ => exact ⟨mx_o_X12_levelsOf, mx_v_X12_levelsOf⟩
  | 160, _ => exact ⟨mx_o_X12_finishes, mx_v_X12_finishes⟩
  | 161, _ => exact ⟨mx_o_X12_all, mx_v_X12_all⟩
  | 162, _ => exact ⟨mx_o_X12_knowsFor, mx_v_X12_knowsFor⟩
  | 163, _ => exact ⟨mx_o_X12_finishesNow, mx_v_X12_finishesNow⟩
  | 164, _ => exact ⟨mx_o_X12_ends, mx_v_X12_ends⟩
  | 165, _ => exact ⟨mx_o_X12_finish, mx_v_X12_finish⟩
  | 166, _ => exact ⟨mx_o_X12_drops, mx_v_X12_drops⟩
  | 167, _ => exact ⟨mx_o_X12_drop, mx_v_X12_drop⟩
  | 168, _ => exact ⟨mx_o_X12_learn, mx_v_X12_learn⟩
  | 169, _ => exact ⟨mx_o_X12_undo, mx_v_X12_undo⟩
  | 170, _ => exact ⟨mx_o_X12_finishing, mx_v_X12_finishing⟩
  | 171, _ => exact ⟨mx_o_X12_lost, mx_v_X12_lost⟩
  | 172, _ => exact ⟨mx_o_X12_reckons, mx_v_X12_reckons⟩
  | 173, _ => exact ⟨mx_o_X12_lowest, mx_v_X12_lowest⟩
  | 174, _ => exact ⟨mx_o_X12_isSafe, mx_v_X12_isSafe⟩
  | 175, _ => exact ⟨mx_o_X12_safe, mx_v_X12_safe⟩
  | 176, _ => exact ⟨mx_o_X12_gainsFor, mx_v_X12_gainsFor⟩
  | 177, _ => exact ⟨mx_o_X12_best, mx_v_X12_best⟩
  | 178, _ => exact ⟨mx_o_X12_isLure, mx_v_X12_isLure⟩
  | 179, _ => exact ⟨mx_o_X12_lure, mx_v_X12_lure⟩
  | 180, _ => exact ⟨mx_o_X12_sitting, mx_v_X12_sitting⟩
  | 181, _ => exact ⟨mx_o_X12_ways, mx_v_X12_ways⟩
  | 182, _ => exact ⟨mx_o_X12_seen, mx_v_X12_seen⟩
  | 183, _ => exact ⟨mx_o_X12_forget, mx_v_X12_forget⟩
  | 184, _ => exact ⟨mx_o_X12_guessed, mx_v_X12_guessed⟩
  | 185, _ => exact ⟨mx_o_X12_turn, mx_v_X12_turn⟩
  | 186, _ => exact ⟨mx_o_X12_council, mx_v_X12_council⟩
  | 187, _ => exact ⟨mx_o_X12_keep, mx_v_X12_keep⟩
  | 188, _ => exact ⟨mx_o_X12_back, mx_v_X12_back⟩
  | 189, _ => exact ⟨mx_o_X12_count, mx_v_X12_count⟩
  | n + 190, h => exact absurd h (by unfold mx_law; omega)
end
