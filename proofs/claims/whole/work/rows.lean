section
-- ===== PART A: goes FIRST, ahead of the names: the tables' words, and 'selects' of the private methods out of them =====
/-- a private method of a class that the tables say can be made, by its rows of tables_1 -/
def lw_okq (q : MethodName × Nat) : Prop := (q.1.cls ≠ "java/lang/invoke/MethodHandle" ∧ q.1.cls ≠ "java/lang/invoke/VarHandle") ∧ Cond.instantiable q.1.cls q.2 ∈ tables_1 ∧ Cond.privateMethod q.1 ∈ tables_1 ∧ Cond.instanceMethod q.1 ∈ tables_1
theorem lw_p0 : lw_okq (⟨"BellOfLies$Scribe", "step", "()V"⟩, 7) := ⟨⟨by decide +kernel, by decide +kernel⟩, List.mem_of_getElem? (i := 28) (by decide +kernel), List.mem_of_getElem? (i := 236) (by decide +kernel), List.mem_of_getElem? (i := 237) (by decide +kernel)⟩
theorem lw_p1 : lw_okq (⟨"BellOfLies$Scribe", "byteAt", "(I)I"⟩, 7) := ⟨⟨by decide +kernel, by decide +kernel⟩, List.mem_of_getElem? (i := 28) (by decide +kernel), List.mem_of_getElem? (i := 240) (by decide +kernel), List.mem_of_getElem? (i := 241) (by decide +kernel)⟩
theorem lw_p2 : lw_okq (⟨"BellOfLies$Scribe", "takeWord", "()V"⟩, 7) := ⟨⟨by decide +kernel, by decide +kernel⟩, List.mem_of_getElem? (i := 28) (by decide +kernel), List.mem_of_getElem? (i := 247) (by decide +kernel), List.mem_of_getElem? (i := 248) (by decide +kernel)⟩
theorem lw_p3 : lw_okq (⟨"BellOfLies$Scribe", "isWord", "(Ljava/lang/String;)Z"⟩, 7) := ⟨⟨by decide +kernel, by decide +kernel⟩, List.mem_of_getElem? (i := 28) (by decide +kernel), List.mem_of_getElem? (i := 266) (by decide +kernel), List.mem_of_getElem? (i := 267) (by decide +kernel)⟩
theorem lw_p4 : lw_okq (⟨"BellOfLies$Scribe", "takeNumber", "()V"⟩, 7) := ⟨⟨by decide +kernel, by decide +kernel⟩, List.mem_of_getElem? (i := 28) (by decide +kernel), List.mem_of_getElem? (i := 321) (by decide +kernel), List.mem_of_getElem? (i := 322) (by decide +kernel)⟩
theorem lw_p5 : lw_okq (⟨"BellOfLies$Scribe", "expect", "(I)V"⟩, 7) := ⟨⟨by decide +kernel, by decide +kernel⟩, List.mem_of_getElem? (i := 28) (by decide +kernel), List.mem_of_getElem? (i := 328) (by decide +kernel), List.mem_of_getElem? (i := 329) (by decide +kernel)⟩
theorem lw_p6 : lw_okq (⟨"BellOfLies$Scribe", "fail", "()V"⟩, 7) := ⟨⟨by decide +kernel, by decide +kernel⟩, List.mem_of_getElem? (i := 28) (by decide +kernel), List.mem_of_getElem? (i := 332) (by decide +kernel), List.mem_of_getElem? (i := 333) (by decide +kernel)⟩
theorem lw_p7 : lw_okq (⟨"BellOfLies$Scribe", "readEither", "(LBellOfLies$Text;I)V"⟩, 7) := ⟨⟨by decide +kernel, by decide +kernel⟩, List.mem_of_getElem? (i := 28) (by decide +kernel), List.mem_of_getElem? (i := 336) (by decide +kernel), List.mem_of_getElem? (i := 337) (by decide +kernel)⟩
theorem lw_p8 : lw_okq (⟨"BellOfLies$Scribe", "readBoth", "(LBellOfLies$Text;I)V"⟩, 7) := ⟨⟨by decide +kernel, by decide +kernel⟩, List.mem_of_getElem? (i := 28) (by decide +kernel), List.mem_of_getElem? (i := 340) (by decide +kernel), List.mem_of_getElem? (i := 341) (by decide +kernel)⟩
theorem lw_p9 : lw_okq (⟨"BellOfLies$Scribe", "readNot", "(LBellOfLies$Text;I)V"⟩, 7) := ⟨⟨by decide +kernel, by decide +kernel⟩, List.mem_of_getElem? (i := 28) (by decide +kernel), List.mem_of_getElem? (i := 344) (by decide +kernel), List.mem_of_getElem? (i := 345) (by decide +kernel)⟩
theorem lw_p10 : lw_okq (⟨"BellOfLies$Scribe", "mayOpen", "(I)Z"⟩, 7) := ⟨⟨by decide +kernel, by decide +kernel⟩, List.mem_of_getElem? (i := 28) (by decide +kernel), List.mem_of_getElem? (i := 348) (by decide +kernel), List.mem_of_getElem? (i := 349) (by decide +kernel)⟩
theorem lw_p11 : lw_okq (⟨"BellOfLies$Scribe", "readSum", "(LBellOfLies$Text;I)V"⟩, 7) := ⟨⟨by decide +kernel, by decide +kernel⟩, List.mem_of_getElem? (i := 28) (by decide +kernel), List.mem_of_getElem? (i := 353) (by decide +kernel), List.mem_of_getElem? (i := 354) (by decide +kernel)⟩
theorem lw_p12 : lw_okq (⟨"BellOfLies$Scribe", "readTerm", "(LBellOfLies$Text;I)V"⟩, 7) := ⟨⟨by decide +kernel, by decide +kernel⟩, List.mem_of_getElem? (i := 28) (by decide +kernel), List.mem_of_getElem? (i := 357) (by decide +kernel), List.mem_of_getElem? (i := 358) (by decide +kernel)⟩
theorem lw_p13 : lw_okq (⟨"BellOfLies$Scribe", "readOne", "(LBellOfLies$Text;I)V"⟩, 7) := ⟨⟨by decide +kernel, by decide +kernel⟩, List.mem_of_getElem? (i := 28) (by decide +kernel), List.mem_of_getElem? (i := 361) (by decide +kernel), List.mem_of_getElem? (i := 362) (by decide +kernel)⟩
theorem lw_p14 : lw_okq (⟨"BellOfLies", "startThought", "()LBellOfLies$Town;"⟩, 9) := ⟨⟨by decide +kernel, by decide +kernel⟩, List.mem_of_getElem? (i := 16) (by decide +kernel), List.mem_of_getElem? (i := 492) (by decide +kernel), List.mem_of_getElem? (i := 493) (by decide +kernel)⟩
theorem lw_p15 : lw_okq (⟨"BellOfLies", "refusalOfTold", "(I)I"⟩, 9) := ⟨⟨by decide +kernel, by decide +kernel⟩, List.mem_of_getElem? (i := 16) (by decide +kernel), List.mem_of_getElem? (i := 590) (by decide +kernel), List.mem_of_getElem? (i := 591) (by decide +kernel)⟩
def lw_privs_1 : List (MethodName × Nat) := [(⟨"BellOfLies$Scribe", "step", "()V"⟩, 7), (⟨"BellOfLies$Scribe", "byteAt", "(I)I"⟩, 7), (⟨"BellOfLies$Scribe", "takeWord", "()V"⟩, 7), (⟨"BellOfLies$Scribe", "isWord", "(Ljava/lang/String;)Z"⟩, 7), (⟨"BellOfLies$Scribe", "takeNumber", "()V"⟩, 7), (⟨"BellOfLies$Scribe", "expect", "(I)V"⟩, 7), (⟨"BellOfLies$Scribe", "fail", "()V"⟩, 7), (⟨"BellOfLies$Scribe", "readEither", "(LBellOfLies$Text;I)V"⟩, 7), (⟨"BellOfLies$Scribe", "readBoth", "(LBellOfLies$Text;I)V"⟩, 7), (⟨"BellOfLies$Scribe", "readNot", "(LBellOfLies$Text;I)V"⟩, 7), (⟨"BellOfLies$Scribe", "mayOpen", "(I)Z"⟩, 7), (⟨"BellOfLies$Scribe", "readSum", "(LBellOfLies$Text;I)V"⟩, 7), (⟨"BellOfLies$Scribe", "readTerm", "(LBellOfLies$Text;I)V"⟩, 7), (⟨"BellOfLies$Scribe", "readOne", "(LBellOfLies$Text;I)V"⟩, 7), (⟨"BellOfLies", "startThought", "()LBellOfLies$Town;"⟩, 9), (⟨"BellOfLies", "refusalOfTold", "(I)I"⟩, 9)]
theorem lw_r1 : ∀ q ∈ lw_privs_1, lw_okq q := List.forall_mem_cons.mpr ⟨lw_p0, List.forall_mem_cons.mpr ⟨lw_p1, List.forall_mem_cons.mpr ⟨lw_p2, List.forall_mem_cons.mpr ⟨lw_p3, List.forall_mem_cons.mpr ⟨lw_p4, List.forall_mem_cons.mpr ⟨lw_p5, List.forall_mem_cons.mpr ⟨lw_p6, List.forall_mem_cons.mpr ⟨lw_p7, List.forall_mem_cons.mpr ⟨lw_p8, List.forall_mem_cons.mpr ⟨lw_p9, List.forall_mem_cons.mpr ⟨lw_p10, List.forall_mem_cons.mpr ⟨lw_p11, List.forall_mem_cons.mpr ⟨lw_p12, List.forall_mem_cons.mpr ⟨lw_p13, List.forall_mem_cons.mpr ⟨lw_p14, List.forall_mem_cons.mpr ⟨lw_p15, fun _ h => absurd h List.not_mem_nil⟩⟩⟩⟩⟩⟩⟩⟩⟩⟩⟩⟩⟩⟩⟩⟩
theorem lw_p16 : lw_okq (⟨"BellOfLies", "firstOtherwise", "(ILBellOfLies$Town;)I"⟩, 9) := ⟨⟨by decide +kernel, by decide +kernel⟩, List.mem_of_getElem? (i := 16) (by decide +kernel), List.mem_of_getElem? (i := 601) (by decide +kernel), List.mem_of_getElem? (i := 602) (by decide +kernel)⟩
theorem lw_p17 : lw_okq (⟨"BellOfLies", "refusalOfToldAbout", "(III)I"⟩, 9) := ⟨⟨by decide +kernel, by decide +kernel⟩, List.mem_of_getElem? (i := 16) (by decide +kernel), List.mem_of_getElem? (i := 609) (by decide +kernel), List.mem_of_getElem? (i := 610) (by decide +kernel)⟩
theorem lw_p18 : lw_okq (⟨"BellOfLies", "inCrowd", "(III)I"⟩, 9) := ⟨⟨by decide +kernel, by decide +kernel⟩, List.mem_of_getElem? (i := 16) (by decide +kernel), List.mem_of_getElem? (i := 646) (by decide +kernel), List.mem_of_getElem? (i := 647) (by decide +kernel)⟩
theorem lw_p19 : lw_okq (⟨"BellOfLiesModel", "next", "()V"⟩, 34) := ⟨⟨by decide +kernel, by decide +kernel⟩, List.mem_of_getElem? (i := 695) (by decide +kernel), List.mem_of_getElem? (i := 705) (by decide +kernel), List.mem_of_getElem? (i := 706) (by decide +kernel)⟩
theorem lw_p20 : lw_okq (⟨"BellOfLiesModel", "wordFrom", "(II)I"⟩, 34) := ⟨⟨by decide +kernel, by decide +kernel⟩, List.mem_of_getElem? (i := 695) (by decide +kernel), List.mem_of_getElem? (i := 712) (by decide +kernel), List.mem_of_getElem? (i := 713) (by decide +kernel)⟩
theorem lw_p21 : lw_okq (⟨"BellOfLiesModel", "eRead", "()Z"⟩, 34) := ⟨⟨by decide +kernel, by decide +kernel⟩, List.mem_of_getElem? (i := 695) (by decide +kernel), List.mem_of_getElem? (i := 716) (by decide +kernel), List.mem_of_getElem? (i := 717) (by decide +kernel)⟩
theorem lw_p22 : lw_okq (⟨"BellOfLiesModel", "puts", "(I)V"⟩, 34) := ⟨⟨by decide +kernel, by decide +kernel⟩, List.mem_of_getElem? (i := 695) (by decide +kernel), List.mem_of_getElem? (i := 721) (by decide +kernel), List.mem_of_getElem? (i := 722) (by decide +kernel)⟩
theorem lw_p23 : lw_okq (⟨"BellOfLiesModel", "unwinds", "(I)V"⟩, 34) := ⟨⟨by decide +kernel, by decide +kernel⟩, List.mem_of_getElem? (i := 695) (by decide +kernel), List.mem_of_getElem? (i := 725) (by decide +kernel), List.mem_of_getElem? (i := 726) (by decide +kernel)⟩
theorem lw_p24 : lw_okq (⟨"BellOfLiesModel", "opensOne", "(I)Z"⟩, 34) := ⟨⟨by decide +kernel, by decide +kernel⟩, List.mem_of_getElem? (i := 695) (by decide +kernel), List.mem_of_getElem? (i := 732) (by decide +kernel), List.mem_of_getElem? (i := 733) (by decide +kernel)⟩
theorem lw_p25 : lw_okq (⟨"BellOfLiesModel", "holds", "(I)V"⟩, 34) := ⟨⟨by decide +kernel, by decide +kernel⟩, List.mem_of_getElem? (i := 695) (by decide +kernel), List.mem_of_getElem? (i := 736) (by decide +kernel), List.mem_of_getElem? (i := 737) (by decide +kernel)⟩
theorem lw_p26 : lw_okq (⟨"BellOfLiesModel", "signOf", "()I"⟩, 34) := ⟨⟨by decide +kernel, by decide +kernel⟩, List.mem_of_getElem? (i := 695) (by decide +kernel), List.mem_of_getElem? (i := 740) (by decide +kernel), List.mem_of_getElem? (i := 741) (by decide +kernel)⟩
theorem lw_p27 : lw_okq (⟨"BellOfLiesModel", "between", "(I)Z"⟩, 34) := ⟨⟨by decide +kernel, by decide +kernel⟩, List.mem_of_getElem? (i := 695) (by decide +kernel), List.mem_of_getElem? (i := 744) (by decide +kernel), List.mem_of_getElem? (i := 745) (by decide +kernel)⟩
theorem lw_p28 : lw_okq (⟨"BellOfLiesModel", "isOne", "(I)Z"⟩, 34) := ⟨⟨by decide +kernel, by decide +kernel⟩, List.mem_of_getElem? (i := 695) (by decide +kernel), List.mem_of_getElem? (i := 875) (by decide +kernel), List.mem_of_getElem? (i := 876) (by decide +kernel)⟩
theorem lw_p29 : lw_okq (⟨"BellOfLiesModel", "asksOf", "(II)I"⟩, 34) := ⟨⟨by decide +kernel, by decide +kernel⟩, List.mem_of_getElem? (i := 695) (by decide +kernel), List.mem_of_getElem? (i := 879) (by decide +kernel), List.mem_of_getElem? (i := 880) (by decide +kernel)⟩
theorem lw_p30 : lw_okq (⟨"BellOfLiesModel", "ofDay", "()I"⟩, 34) := ⟨⟨by decide +kernel, by decide +kernel⟩, List.mem_of_getElem? (i := 695) (by decide +kernel), List.mem_of_getElem? (i := 886) (by decide +kernel), List.mem_of_getElem? (i := 887) (by decide +kernel)⟩
theorem lw_p31 : lw_okq (⟨"BellOfLiesModel", "says", "(I)I"⟩, 34) := ⟨⟨by decide +kernel, by decide +kernel⟩, List.mem_of_getElem? (i := 695) (by decide +kernel), List.mem_of_getElem? (i := 890) (by decide +kernel), List.mem_of_getElem? (i := 891) (by decide +kernel)⟩
def lw_privs_2 : List (MethodName × Nat) := [(⟨"BellOfLies", "firstOtherwise", "(ILBellOfLies$Town;)I"⟩, 9), (⟨"BellOfLies", "refusalOfToldAbout", "(III)I"⟩, 9), (⟨"BellOfLies", "inCrowd", "(III)I"⟩, 9), (⟨"BellOfLiesModel", "next", "()V"⟩, 34), (⟨"BellOfLiesModel", "wordFrom", "(II)I"⟩, 34), (⟨"BellOfLiesModel", "eRead", "()Z"⟩, 34), (⟨"BellOfLiesModel", "puts", "(I)V"⟩, 34), (⟨"BellOfLiesModel", "unwinds", "(I)V"⟩, 34), (⟨"BellOfLiesModel", "opensOne", "(I)Z"⟩, 34), (⟨"BellOfLiesModel", "holds", "(I)V"⟩, 34), (⟨"BellOfLiesModel", "signOf", "()I"⟩, 34), (⟨"BellOfLiesModel", "between", "(I)Z"⟩, 34), (⟨"BellOfLiesModel", "isOne", "(I)Z"⟩, 34), (⟨"BellOfLiesModel", "asksOf", "(II)I"⟩, 34), (⟨"BellOfLiesModel", "ofDay", "()I"⟩, 34), (⟨"BellOfLiesModel", "says", "(I)I"⟩, 34)]
theorem lw_r2 : ∀ q ∈ lw_privs_2, lw_okq q := List.forall_mem_cons.mpr ⟨lw_p16, List.forall_mem_cons.mpr ⟨lw_p17, List.forall_mem_cons.mpr ⟨lw_p18, List.forall_mem_cons.mpr ⟨lw_p19, List.forall_mem_cons.mpr ⟨lw_p20, List.forall_mem_cons.mpr ⟨lw_p21, List.forall_mem_cons.mpr ⟨lw_p22, List.forall_mem_cons.mpr ⟨lw_p23, List.forall_mem_cons.mpr ⟨lw_p24, List.forall_mem_cons.mpr ⟨lw_p25, List.forall_mem_cons.mpr ⟨lw_p26, List.forall_mem_cons.mpr ⟨lw_p27, List.forall_mem_cons.mpr ⟨lw_p28, List.forall_mem_cons.mpr ⟨lw_p29, List.forall_mem_cons.mpr ⟨lw_p30, List.forall_mem_cons.mpr ⟨lw_p31, fun _ h => absurd h List.not_mem_nil⟩⟩⟩⟩⟩⟩⟩⟩⟩⟩⟩⟩⟩⟩⟩⟩
theorem lw_p32 : lw_okq (⟨"BellOfLiesModel", "lies", "(I)Z"⟩, 34) := ⟨⟨by decide +kernel, by decide +kernel⟩, List.mem_of_getElem? (i := 695) (by decide +kernel), List.mem_of_getElem? (i := 913) (by decide +kernel), List.mem_of_getElem? (i := 914) (by decide +kernel)⟩
theorem lw_p33 : lw_okq (⟨"BellOfLiesModel", "costsOf", "(I)I"⟩, 34) := ⟨⟨by decide +kernel, by decide +kernel⟩, List.mem_of_getElem? (i := 695) (by decide +kernel), List.mem_of_getElem? (i := 917) (by decide +kernel), List.mem_of_getElem? (i := 918) (by decide +kernel)⟩
theorem lw_p34 : lw_okq (⟨"BellOfLiesModel", "strokesOf", "(I)I"⟩, 34) := ⟨⟨by decide +kernel, by decide +kernel⟩, List.mem_of_getElem? (i := 695) (by decide +kernel), List.mem_of_getElem? (i := 921) (by decide +kernel), List.mem_of_getElem? (i := 922) (by decide +kernel)⟩
theorem lw_p35 : lw_okq (⟨"BellOfLiesModel", "liars", "()I"⟩, 34) := ⟨⟨by decide +kernel, by decide +kernel⟩, List.mem_of_getElem? (i := 695) (by decide +kernel), List.mem_of_getElem? (i := 929) (by decide +kernel), List.mem_of_getElem? (i := 930) (by decide +kernel)⟩
theorem lw_p36 : lw_okq (⟨"BellOfLiesModel", "strikesBy", "(I)I"⟩, 34) := ⟨⟨by decide +kernel, by decide +kernel⟩, List.mem_of_getElem? (i := 695) (by decide +kernel), List.mem_of_getElem? (i := 933) (by decide +kernel), List.mem_of_getElem? (i := 934) (by decide +kernel)⟩
theorem lw_p37 : lw_okq (⟨"BellOfLiesModel", "vows", "()I"⟩, 34) := ⟨⟨by decide +kernel, by decide +kernel⟩, List.mem_of_getElem? (i := 695) (by decide +kernel), List.mem_of_getElem? (i := 937) (by decide +kernel), List.mem_of_getElem? (i := 938) (by decide +kernel)⟩
theorem lw_p38 : lw_okq (⟨"BellOfLiesModel", "hourOf", "()I"⟩, 34) := ⟨⟨by decide +kernel, by decide +kernel⟩, List.mem_of_getElem? (i := 695) (by decide +kernel), List.mem_of_getElem? (i := 945) (by decide +kernel), List.mem_of_getElem? (i := 946) (by decide +kernel)⟩
theorem lw_p39 : lw_okq (⟨"BellOfLiesModel", "keeps", "()V"⟩, 34) := ⟨⟨by decide +kernel, by decide +kernel⟩, List.mem_of_getElem? (i := 695) (by decide +kernel), List.mem_of_getElem? (i := 954) (by decide +kernel), List.mem_of_getElem? (i := 955) (by decide +kernel)⟩
theorem lw_p40 : lw_okq (⟨"BellOfLiesModel", "goes", "(I)I"⟩, 34) := ⟨⟨by decide +kernel, by decide +kernel⟩, List.mem_of_getElem? (i := 695) (by decide +kernel), List.mem_of_getElem? (i := 958) (by decide +kernel), List.mem_of_getElem? (i := 959) (by decide +kernel)⟩
theorem lw_p41 : lw_okq (⟨"BellOfLiesModel", "lays", "()V"⟩, 34) := ⟨⟨by decide +kernel, by decide +kernel⟩, List.mem_of_getElem? (i := 695) (by decide +kernel), List.mem_of_getElem? (i := 962) (by decide +kernel), List.mem_of_getElem? (i := 963) (by decide +kernel)⟩
theorem lw_p42 : lw_okq (⟨"BellOfLiesModel", "tellsDay", "()V"⟩, 34) := ⟨⟨by decide +kernel, by decide +kernel⟩, List.mem_of_getElem? (i := 695) (by decide +kernel), List.mem_of_getElem? (i := 974) (by decide +kernel), List.mem_of_getElem? (i := 975) (by decide +kernel)⟩
theorem lw_p43 : lw_okq (⟨"BellOfLiesModel", "alone", "()I"⟩, 34) := ⟨⟨by decide +kernel, by decide +kernel⟩, List.mem_of_getElem? (i := 695) (by decide +kernel), List.mem_of_getElem? (i := 978) (by decide +kernel), List.mem_of_getElem? (i := 979) (by decide +kernel)⟩
theorem lw_p44 : lw_okq (⟨"BellOfLiesModel", "alikeWith", "(I)I"⟩, 34) := ⟨⟨by decide +kernel, by decide +kernel⟩, List.mem_of_getElem? (i := 695) (by decide +kernel), List.mem_of_getElem? (i := 982) (by decide +kernel), List.mem_of_getElem? (i := 983) (by decide +kernel)⟩
theorem lw_p45 : lw_okq (⟨"BellOfLiesModel", "longestRow", "()I"⟩, 34) := ⟨⟨by decide +kernel, by decide +kernel⟩, List.mem_of_getElem? (i := 695) (by decide +kernel), List.mem_of_getElem? (i := 986) (by decide +kernel), List.mem_of_getElem? (i := 987) (by decide +kernel)⟩
theorem lw_p46 : lw_okq (⟨"BellOfLiesModel", "silent", "()I"⟩, 34) := ⟨⟨by decide +kernel, by decide +kernel⟩, List.mem_of_getElem? (i := 695) (by decide +kernel), List.mem_of_getElem? (i := 990) (by decide +kernel), List.mem_of_getElem? (i := 991) (by decide +kernel)⟩
theorem lw_p47 : lw_okq (⟨"BellOfLiesModel", "mostHour", "()I"⟩, 34) := ⟨⟨by decide +kernel, by decide +kernel⟩, List.mem_of_getElem? (i := 695) (by decide +kernel), List.mem_of_getElem? (i := 994) (by decide +kernel), List.mem_of_getElem? (i := 995) (by decide +kernel)⟩
def lw_privs_3 : List (MethodName × Nat) := [(⟨"BellOfLiesModel", "lies", "(I)Z"⟩, 34), (⟨"BellOfLiesModel", "costsOf", "(I)I"⟩, 34), (⟨"BellOfLiesModel", "strokesOf", "(I)I"⟩, 34), (⟨"BellOfLiesModel", "liars", "()I"⟩, 34), (⟨"BellOfLiesModel", "strikesBy", "(I)I"⟩, 34), (⟨"BellOfLiesModel", "vows", "()I"⟩, 34), (⟨"BellOfLiesModel", "hourOf", "()I"⟩, 34), (⟨"BellOfLiesModel", "keeps", "()V"⟩, 34), (⟨"BellOfLiesModel", "goes", "(I)I"⟩, 34), (⟨"BellOfLiesModel", "lays", "()V"⟩, 34), (⟨"BellOfLiesModel", "tellsDay", "()V"⟩, 34), (⟨"BellOfLiesModel", "alone", "()I"⟩, 34), (⟨"BellOfLiesModel", "alikeWith", "(I)I"⟩, 34), (⟨"BellOfLiesModel", "longestRow", "()I"⟩, 34), (⟨"BellOfLiesModel", "silent", "()I"⟩, 34), (⟨"BellOfLiesModel", "mostHour", "()I"⟩, 34)]
theorem lw_r3 : ∀ q ∈ lw_privs_3, lw_okq q := List.forall_mem_cons.mpr ⟨lw_p32, List.forall_mem_cons.mpr ⟨lw_p33, List.forall_mem_cons.mpr ⟨lw_p34, List.forall_mem_cons.mpr ⟨lw_p35, List.forall_mem_cons.mpr ⟨lw_p36, List.forall_mem_cons.mpr ⟨lw_p37, List.forall_mem_cons.mpr ⟨lw_p38, List.forall_mem_cons.mpr ⟨lw_p39, List.forall_mem_cons.mpr ⟨lw_p40, List.forall_mem_cons.mpr ⟨lw_p41, List.forall_mem_cons.mpr ⟨lw_p42, List.forall_mem_cons.mpr ⟨lw_p43, List.forall_mem_cons.mpr ⟨lw_p44, List.forall_mem_cons.mpr ⟨lw_p45, List.forall_mem_cons.mpr ⟨lw_p46, List.forall_mem_cons.mpr ⟨lw_p47, fun _ h => absurd h List.not_mem_nil⟩⟩⟩⟩⟩⟩⟩⟩⟩⟩⟩⟩⟩⟩⟩⟩
theorem lw_p48 : lw_okq (⟨"BellOfLiesModel", "sheetWrong", "(I)I"⟩, 34) := ⟨⟨by decide +kernel, by decide +kernel⟩, List.mem_of_getElem? (i := 695) (by decide +kernel), List.mem_of_getElem? (i := 1033) (by decide +kernel), List.mem_of_getElem? (i := 1034) (by decide +kernel)⟩
theorem lw_p49 : lw_okq (⟨"BellOfLiesModel", "unlike", "(I)I"⟩, 34) := ⟨⟨by decide +kernel, by decide +kernel⟩, List.mem_of_getElem? (i := 695) (by decide +kernel), List.mem_of_getElem? (i := 1037) (by decide +kernel), List.mem_of_getElem? (i := 1038) (by decide +kernel)⟩
theorem lw_p50 : lw_okq (⟨"BellOfLiesModel", "crowds", "(II)I"⟩, 34) := ⟨⟨by decide +kernel, by decide +kernel⟩, List.mem_of_getElem? (i := 695) (by decide +kernel), List.mem_of_getElem? (i := 1070) (by decide +kernel), List.mem_of_getElem? (i := 1071) (by decide +kernel)⟩
def lw_privs_4 : List (MethodName × Nat) := [(⟨"BellOfLiesModel", "sheetWrong", "(I)I"⟩, 34), (⟨"BellOfLiesModel", "unlike", "(I)I"⟩, 34), (⟨"BellOfLiesModel", "crowds", "(II)I"⟩, 34)]
theorem lw_r4 : ∀ q ∈ lw_privs_4, lw_okq q := List.forall_mem_cons.mpr ⟨lw_p48, List.forall_mem_cons.mpr ⟨lw_p49, List.forall_mem_cons.mpr ⟨lw_p50, fun _ h => absurd h List.not_mem_nil⟩⟩⟩
def lw_privs : List (MethodName × Nat) := lw_privs_1 ++ (lw_privs_2 ++ (lw_privs_3 ++ (lw_privs_4)))
def lw_tbl : List Cond := k2_sels lw_privs ++ tables_1
theorem lw_privs_ok : ∀ q ∈ lw_privs, lw_okq q := by
  show ∀ q ∈ lw_privs_1 ++ (lw_privs_2 ++ (lw_privs_3 ++ (lw_privs_4))), lw_okq q
  exact List.forall_mem_append.mpr ⟨lw_r1, List.forall_mem_append.mpr ⟨lw_r2, List.forall_mem_append.mpr ⟨lw_r3, lw_r4⟩⟩⟩
-- ===== end of PART A; then your names; then what follows =====
end
section

/-! ===== BEGIN printed: names, fields, word lists, decode rows ===== -/
def RX0 : String := "BellOfLies$Day"
def TX0 : u_T := fun k => match k with
  | 0 => ("BellOfLies$Day", "strikes", "[I", true)
  | _ => ("BellOfLies$Day", "liars", "[I", true)
def tyX0 : Nat → FieldType := fun k => match k with
  | 0 => .array .int
  | _ => .array .int
abbrev wsX00 : List Cond := u_ws RX0 TX0 2
theorem nmX0 : ∀ a, a < 2 → ∀ b, b < 2 → a ≠ b → (TX0 a).2.1 ≠ (TX0 b).2.1 := by decide +kernel
theorem tyX0_ok : ∀ k, k < 2 → parseFieldDescriptor (TX0 k).2.2.1 = some (tyX0 k) := by decide +kernel
abbrev cX0_init : ByteArray := prog_2_method_1_code
def yX0_init : MethodName := ⟨RX0, "<init>", "()V"⟩
abbrev cX0_live : ByteArray := prog_2_method_2_code
def yX0_live : MethodName := ⟨RX0, "live", "(LBellOfLies$Town;)V"⟩
abbrev cX0_hoursOf : ByteArray := prog_2_method_3_code
def yX0_hoursOf : MethodName := ⟨RX0, "hoursOf", "(I)I"⟩
abbrev cX0_hoursAlone : ByteArray := prog_2_method_4_code
def yX0_hoursAlone : MethodName := ⟨RX0, "hoursAlone", "()I"⟩
abbrev cX0_longestRow : ByteArray := prog_2_method_5_code
def yX0_longestRow : MethodName := ⟨RX0, "longestRow", "()I"⟩
abbrev cX0_mostStrikes : ByteArray := prog_2_method_6_code
def yX0_mostStrikes : MethodName := ⟨RX0, "mostStrikes", "()I"⟩
abbrev cX0_firstOf : ByteArray := prog_2_method_7_code
def yX0_firstOf : MethodName := ⟨RX0, "firstOf", "(I)I"⟩
abbrev cX0_hoursOfBoth : ByteArray := prog_2_method_8_code
def yX0_hoursOfBoth : MethodName := ⟨RX0, "hoursOfBoth", "(II)I"⟩
def RX1 : String := "BellOfLies$Row"
def TX1 : u_T := fun k => match k with
  | 0 => ("BellOfLies$Row", "cells", "[I", true)
  | 1 => ("BellOfLies$Row", "sort", "I", false)
  | _ => ("BellOfLies$Row", "size", "I", false)
def tyX1 : Nat → FieldType := fun k => match k with
  | 0 => .array .int
  | 1 => .int
  | _ => .int
abbrev wsX10 : List Cond := u_ws RX1 TX1 3
theorem nmX1 : ∀ a, a < 3 → ∀ b, b < 3 → a ≠ b → (TX1 a).2.1 ≠ (TX1 b).2.1 := by decide +kernel
theorem tyX1_ok : ∀ k, k < 3 → parseFieldDescriptor (TX1 k).2.2.1 = some (tyX1 k) := by decide +kernel
abbrev cX1_init : ByteArray := prog_3_method_1_code
def yX1_init : MethodName := ⟨RX1, "<init>", "()V"⟩
abbrev cX1_become : ByteArray := prog_3_method_2_code
def yX1_become : MethodName := ⟨RX1, "become", "(II)V"⟩
abbrev cX1_isMissing : ByteArray := prog_3_method_3_code
def yX1_isMissing : MethodName := ⟨RX1, "isMissing", "()Z"⟩
abbrev cX1_has : ByteArray := prog_3_method_4_code
def yX1_has : MethodName := ⟨RX1, "has", "(II)Z"⟩
abbrev cX1_write : ByteArray := prog_3_method_5_code
def yX1_write : MethodName := ⟨RX1, "write", "(II)V"⟩
def RX2 : String := "BellOfLies$Scribe"
def TX2 : u_T := fun k => match k with
  | 0 => ("BellOfLies$Scribe", "tape", "[I", true)
  | 1 => ("BellOfLies$Scribe", "size", "I", false)
  | 2 => ("BellOfLies$Scribe", "at", "I", false)
  | 3 => ("BellOfLies$Scribe", "start", "I", false)
  | 4 => ("BellOfLies$Scribe", "token", "I", false)
  | 5 => ("BellOfLies$Scribe", "number", "I", false)
  | _ => ("BellOfLies$Scribe", "fault", "I", false)
def tyX2 : Nat → FieldType := fun k => match k with
  | 0 => .array .int
  | 1 => .int
  | 2 => .int
  | 3 => .int
  | 4 => .int
  | 5 => .int
  | _ => .int
abbrev wsX20 : List Cond := u_ws RX2 TX2 7
theorem nmX2 : ∀ a, a < 7 → ∀ b, b < 7 → a ≠ b → (TX2 a).2.1 ≠ (TX2 b).2.1 := by decide +kernel
theorem tyX2_ok : ∀ k, k < 7 → parseFieldDescriptor (TX2 k).2.2.1 = some (tyX2 k) := by decide +kernel
abbrev cX2_init : ByteArray := prog_4_method_1_code
def yX2_init : MethodName := ⟨RX2, "<init>", "()V"⟩
abbrev cX2_add : ByteArray := prog_4_method_2_code
def yX2_add : MethodName := ⟨RX2, "add", "(I)V"⟩
abbrev cX2_readInto : ByteArray := prog_4_method_3_code
def yX2_readInto : MethodName := ⟨RX2, "readInto", "(LBellOfLies$Text;)I"⟩
abbrev cX2_expect : ByteArray := prog_4_method_4_code
def yX2_expect : MethodName := ⟨RX2, "expect", "(I)V"⟩
abbrev cX2_fail : ByteArray := prog_4_method_5_code
def yX2_fail : MethodName := ⟨RX2, "fail", "()V"⟩
abbrev cX2_readEither : ByteArray := prog_4_method_6_code
def yX2_readEither : MethodName := ⟨RX2, "readEither", "(LBellOfLies$Text;I)V"⟩
abbrev cX2_readBoth : ByteArray := prog_4_method_7_code
def yX2_readBoth : MethodName := ⟨RX2, "readBoth", "(LBellOfLies$Text;I)V"⟩
abbrev cX2_readNot : ByteArray := prog_4_method_8_code
def yX2_readNot : MethodName := ⟨RX2, "readNot", "(LBellOfLies$Text;I)V"⟩
abbrev cX2_readSum : ByteArray := prog_4_method_9_code
def yX2_readSum : MethodName := ⟨RX2, "readSum", "(LBellOfLies$Text;I)V"⟩
abbrev cX2_readTerm : ByteArray := prog_4_method_10_code
def yX2_readTerm : MethodName := ⟨RX2, "readTerm", "(LBellOfLies$Text;I)V"⟩
abbrev cX2_readOne : ByteArray := prog_4_method_11_code
def yX2_readOne : MethodName := ⟨RX2, "readOne", "(LBellOfLies$Text;I)V"⟩
abbrev cX2_mayOpen : ByteArray := prog_4_method_12_code
def yX2_mayOpen : MethodName := ⟨RX2, "mayOpen", "(I)Z"⟩
abbrev cX2_byteAt : ByteArray := prog_4_method_13_code
def yX2_byteAt : MethodName := ⟨RX2, "byteAt", "(I)I"⟩
abbrev cX2_step : ByteArray := prog_4_method_14_code
def yX2_step : MethodName := ⟨RX2, "step", "()V"⟩
abbrev cX2_takeWord : ByteArray := prog_4_method_15_code
def yX2_takeWord : MethodName := ⟨RX2, "takeWord", "()V"⟩
abbrev cX2_takeNumber : ByteArray := prog_4_method_16_code
def yX2_takeNumber : MethodName := ⟨RX2, "takeNumber", "()V"⟩
abbrev cX2_isWord : ByteArray := prog_4_method_17_code
def yX2_isWord : MethodName := ⟨RX2, "isWord", "(Ljava/lang/String;)Z"⟩
abbrev cX2_wordOf : ByteArray := prog_4_method_18_code
def yX2_wordOf : MethodName := ⟨RX2, "wordOf", "(I)Ljava/lang/String;"⟩
abbrev cX2_isLetter : ByteArray := prog_4_method_19_code
def yX2_isLetter : MethodName := ⟨RX2, "isLetter", "(I)Z"⟩
abbrev cX2_isDigit : ByteArray := prog_4_method_20_code
def yX2_isDigit : MethodName := ⟨RX2, "isDigit", "(I)Z"⟩
abbrev cX2_isSign : ByteArray := prog_4_method_21_code
def yX2_isSign : MethodName := ⟨RX2, "isSign", "(I)Z"⟩
def RX3 : String := "BellOfLies$Text"
def TX3 : u_T := fun k => match k with
  | 0 => ("BellOfLies$Text", "steps", "[I", true)
  | 1 => ("BellOfLies$Text", "stack", "[I", true)
  | 2 => ("BellOfLies$Text", "ends", "[I", true)
  | _ => ("BellOfLies$Text", "size", "I", false)
def tyX3 : Nat → FieldType := fun k => match k with
  | 0 => .array .int
  | 1 => .array .int
  | 2 => .array .int
  | _ => .int
abbrev wsX30 : List Cond := u_ws RX3 TX3 4
theorem nmX3 : ∀ a, a < 4 → ∀ b, b < 4 → a ≠ b → (TX3 a).2.1 ≠ (TX3 b).2.1 := by decide +kernel
theorem tyX3_ok : ∀ k, k < 4 → parseFieldDescriptor (TX3 k).2.2.1 = some (tyX3 k) := by decide +kernel
abbrev cX3_init : ByteArray := prog_5_method_1_code
def yX3_init : MethodName := ⟨RX3, "<init>", "()V"⟩
abbrev cX3_becomeFirstLaw : ByteArray := prog_5_method_2_code
def yX3_becomeFirstLaw : MethodName := ⟨RX3, "becomeFirstLaw", "()V"⟩
abbrev cX3_empty : ByteArray := prog_5_method_3_code
def yX3_empty : MethodName := ⟨RX3, "empty", "()V"⟩
abbrev cX3_add : ByteArray := prog_5_method_4_code
def yX3_add : MethodName := ⟨RX3, "add", "(I)V"⟩
abbrev cX3_endPart : ByteArray := prog_5_method_5_code
def yX3_endPart : MethodName := ⟨RX3, "endPart", "(I)V"⟩
abbrev cX3_says : ByteArray := prog_5_method_6_code
def yX3_says : MethodName := ⟨RX3, "says", "(ILBellOfLies$Town;I)I"⟩
abbrev cX3_joined : ByteArray := prog_5_method_7_code
def yX3_joined : MethodName := ⟨RX3, "joined", "(III)I"⟩
def RX4 : String := "BellOfLies$Town"
def TX4 : u_T := fun k => match k with
  | 0 => ("BellOfLies$Town", "kind", "[I", true)
  | 1 => ("BellOfLies$Town", "more", "[I", true)
  | 2 => ("BellOfLies$Town", "nerve", "[I", true)
  | 3 => ("BellOfLies$Town", "told", "[I", true)
  | 4 => ("BellOfLies$Town", "own", "[I", true)
  | 5 => ("BellOfLies$Town", "vows", "I", false)
  | 6 => ("BellOfLies$Town", "people", "I", false)
  | 7 => ("BellOfLies$Town", "hour", "I", false)
  | 8 => ("BellOfLies$Town", "toll", "I", false)
  | 9 => ("BellOfLies$Town", "last", "I", false)
  | 10 => ("BellOfLies$Town", "lawNumber", "I", false)
  | _ => ("BellOfLies$Town", "law", "LBellOfLies$Text;", false)
def tyX4 : Nat → FieldType := fun k => match k with
  | 0 => .array .int
  | 1 => .array .int
  | 2 => .array .int
  | 3 => .array .int
  | 4 => .array .int
  | 5 => .int
  | 6 => .int
  | 7 => .int
  | 8 => .int
  | 9 => .int
  | 10 => .int
  | _ => .object "BellOfLies$Text"
abbrev wsX40 : List Cond := u_ws RX4 TX4 12
theorem nmX4 : ∀ a, a < 12 → ∀ b, b < 12 → a ≠ b → (TX4 a).2.1 ≠ (TX4 b).2.1 := by decide +kernel
theorem tyX4_ok : ∀ k, k < 12 → parseFieldDescriptor (TX4 k).2.2.1 = some (tyX4 k) := by decide +kernel
abbrev cX4_init : ByteArray := prog_6_method_1_code
def yX4_init : MethodName := ⟨RX4, "<init>", "(LBellOfLies$Text;)V"⟩
abbrev cX4_become : ByteArray := prog_6_method_2_code
def yX4_become : MethodName := ⟨RX4, "become", "(LBellOfLies$Town;)V"⟩
abbrev cX4_obey : ByteArray := prog_6_method_3_code
def yX4_obey : MethodName := ⟨RX4, "obey", "(LBellOfLies$Text;I)V"⟩
abbrev cX4_has : ByteArray := prog_6_method_4_code
def yX4_has : MethodName := ⟨RX4, "has", "(I)Z"⟩
abbrev cX4_join : ByteArray := prog_6_method_5_code
def yX4_join : MethodName := ⟨RX4, "join", "(III)I"⟩
abbrev cX4_isVowed : ByteArray := prog_6_method_6_code
def yX4_isVowed : MethodName := ⟨RX4, "isVowed", "(I)Z"⟩
abbrev cX4_turnVow : ByteArray := prog_6_method_7_code
def yX4_turnVow : MethodName := ⟨RX4, "turnVow", "(I)V"⟩
abbrev cX4_turnHour : ByteArray := prog_6_method_8_code
def yX4_turnHour : MethodName := ⟨RX4, "turnHour", "(II)V"⟩
abbrev cX4_known : ByteArray := prog_6_method_9_code
def yX4_known : MethodName := ⟨RX4, "known", "(II)I"⟩
abbrev cX4_change : ByteArray := prog_6_method_10_code
def yX4_change : MethodName := ⟨RX4, "change", "(III)V"⟩
abbrev cX4_named : ByteArray := prog_6_method_11_code
def yX4_named : MethodName := ⟨RX4, "named", "(II)I"⟩
abbrev cX4_isOwnHour : ByteArray := prog_6_method_12_code
def yX4_isOwnHour : MethodName := ⟨RX4, "isOwnHour", "(I)Z"⟩
abbrev cX4_isLoversHour : ByteArray := prog_6_method_13_code
def yX4_isLoversHour : MethodName := ⟨RX4, "isLoversHour", "(I)Z"⟩
abbrev cX4_isLying : ByteArray := prog_6_method_14_code
def yX4_isLying : MethodName := ⟨RX4, "isLying", "(I)Z"⟩
abbrev cX4_costOf : ByteArray := prog_6_method_15_code
def yX4_costOf : MethodName := ⟨RX4, "costOf", "(I)I"⟩
abbrev cX4_strokesOf : ByteArray := prog_6_method_16_code
def yX4_strokesOf : MethodName := ⟨RX4, "strokesOf", "(I)I"⟩
abbrev cX4_liars : ByteArray := prog_6_method_17_code
def yX4_liars : MethodName := ⟨RX4, "liars", "()I"⟩
abbrev cX4_strikesOf : ByteArray := prog_6_method_18_code
def yX4_strikesOf : MethodName := ⟨RX4, "strikesOf", "(I)I"⟩
abbrev cX4_passHour : ByteArray := prog_6_method_19_code
def yX4_passHour : MethodName := ⟨RX4, "passHour", "(I)I"⟩
abbrev cX4_passHours : ByteArray := prog_6_method_20_code
def yX4_passHours : MethodName := ⟨RX4, "passHours", "(I)I"⟩
def RX5 : String := "BellOfLies"
def TX5 : u_T := fun k => match k with
  | 0 => ("BellOfLies", "texts", "[LBellOfLies$Text;", true)
  | 1 => ("BellOfLies", "rows", "[LBellOfLies$Row;", true)
  | 2 => ("BellOfLies", "scribe", "LBellOfLies$Scribe;", true)
  | 3 => ("BellOfLies", "day", "LBellOfLies$Day;", true)
  | 4 => ("BellOfLies", "now", "LBellOfLies$Town;", true)
  | 5 => ("BellOfLies", "thought", "LBellOfLies$Town;", true)
  | 6 => ("BellOfLies", "kept", "LBellOfLies$Town;", true)
  | 7 => ("BellOfLies", "textsRead", "I", false)
  | _ => ("BellOfLies", "hasImage", "Z", false)
def tyX5 : Nat → FieldType := fun k => match k with
  | 0 => .array (.object "BellOfLies$Text")
  | 1 => .array (.object "BellOfLies$Row")
  | 2 => .object "BellOfLies$Scribe"
  | 3 => .object "BellOfLies$Day"
  | 4 => .object "BellOfLies$Town"
  | 5 => .object "BellOfLies$Town"
  | 6 => .object "BellOfLies$Town"
  | 7 => .int
  | _ => .boolean
abbrev wsX50 : List Cond := u_ws RX5 TX5 9
theorem nmX5 : ∀ a, a < 9 → ∀ b, b < 9 → a ≠ b → (TX5 a).2.1 ≠ (TX5 b).2.1 := by decide +kernel
theorem tyX5_ok : ∀ k, k < 9 → parseFieldDescriptor (TX5 k).2.2.1 = some (tyX5 k) := by decide +kernel
abbrev cX5_init : ByteArray := prog_1_method_1_code
def yX5_init : MethodName := ⟨RX5, "<init>", "()V"⟩
abbrev cX5_count : ByteArray := prog_1_method_2_code
def yX5_count : MethodName := ⟨RX5, "count", "(I)I"⟩
abbrev cX5_clock : ByteArray := prog_1_method_3_code
def yX5_clock : MethodName := ⟨RX5, "clock", "(I)I"⟩
abbrev cX5_feed : ByteArray := prog_1_method_4_code
def yX5_feed : MethodName := ⟨RX5, "feed", "(IIIIII)I"⟩
abbrev cX5_text : ByteArray := prog_1_method_5_code
def yX5_text : MethodName := ⟨RX5, "text", "()I"⟩
abbrev cX5_force : ByteArray := prog_1_method_6_code
def yX5_force : MethodName := ⟨RX5, "force", "(I)I"⟩
abbrev cX5_asks : ByteArray := prog_1_method_7_code
def yX5_asks : MethodName := ⟨RX5, "asks", "(II)I"⟩
abbrev cX5_person : ByteArray := prog_1_method_8_code
def yX5_person : MethodName := ⟨RX5, "person", "(III)I"⟩
abbrev cX5_put : ByteArray := prog_1_method_9_code
def yX5_put : MethodName := ⟨RX5, "put", "(III)I"⟩
abbrev cX5_tells : ByteArray := prog_1_method_10_code
def yX5_tells : MethodName := ⟨RX5, "tells", "(II)I"⟩
abbrev cX5_bell : ByteArray := prog_1_method_11_code
def yX5_bell : MethodName := ⟨RX5, "bell", "(I)I"⟩
abbrev cX5_strike : ByteArray := prog_1_method_12_code
def yX5_strike : MethodName := ⟨RX5, "strike", "()I"⟩
abbrev cX5_run : ByteArray := prog_1_method_13_code
def yX5_run : MethodName := ⟨RX5, "run", "(II)I"⟩
abbrev cX5_when : ByteArray := prog_1_method_14_code
def yX5_when : MethodName := ⟨RX5, "when", "(I)I"⟩
abbrev cX5_dial : ByteArray := prog_1_method_15_code
def yX5_dial : MethodName := ⟨RX5, "dial", "(I)I"⟩
abbrev cX5_hush : ByteArray := prog_1_method_16_code
def yX5_hush : MethodName := ⟨RX5, "hush", "(I)I"⟩
abbrev cX5_council : ByteArray := prog_1_method_17_code
def yX5_council : MethodName := ⟨RX5, "council", "(III)I"⟩
abbrev cX5_lesson : ByteArray := prog_1_method_18_code
def yX5_lesson : MethodName := ⟨RX5, "lesson", "(II)I"⟩
abbrev cX5_pair : ByteArray := prog_1_method_19_code
def yX5_pair : MethodName := ⟨RX5, "pair", "(I)I"⟩
abbrev cX5_mean : ByteArray := prog_1_method_20_code
def yX5_mean : MethodName := ⟨RX5, "mean", "(II)J"⟩
abbrev cX5_share : ByteArray := prog_1_method_21_code
def yX5_share : MethodName := ⟨RX5, "share", "(II)J"⟩
abbrev cX5_judge : ByteArray := prog_1_method_22_code
def yX5_judge : MethodName := ⟨RX5, "judge", "(I)I"⟩
abbrev cX5_kinds : ByteArray := prog_1_method_23_code
def yX5_kinds : MethodName := ⟨RX5, "kinds", "(III)I"⟩
abbrev cX5_nerves : ByteArray := prog_1_method_24_code
def yX5_nerves : MethodName := ⟨RX5, "nerves", "(III)I"⟩
abbrev cX5_turned : ByteArray := prog_1_method_25_code
def yX5_turned : MethodName := ⟨RX5, "turned", "(I)I"⟩
abbrev cX5_hours : ByteArray := prog_1_method_26_code
def yX5_hours : MethodName := ⟨RX5, "hours", "(I)I"⟩
abbrev cX5_laws : ByteArray := prog_1_method_27_code
def yX5_laws : MethodName := ⟨RX5, "laws", "(I)I"⟩
abbrev cX5_film : ByteArray := prog_1_method_28_code
def yX5_film : MethodName := ⟨RX5, "film", "(II)I"⟩
abbrev cX5_drawn : ByteArray := prog_1_method_29_code
def yX5_drawn : MethodName := ⟨RX5, "drawn", "(III)I"⟩
abbrev cX5_odds : ByteArray := prog_1_method_30_code
def yX5_odds : MethodName := ⟨RX5, "odds", "(IIII)J"⟩
abbrev cX5_image : ByteArray := prog_1_method_31_code
def yX5_image : MethodName := ⟨RX5, "image", "()I"⟩
abbrev cX5_back : ByteArray := prog_1_method_32_code
def yX5_back : MethodName := ⟨RX5, "back", "()I"⟩
abbrev cX5_sheet : ByteArray := prog_1_method_33_code
def yX5_sheet : MethodName := ⟨RX5, "sheet", "(III)I"⟩
abbrev cX5_cell : ByteArray := prog_1_method_34_code
def yX5_cell : MethodName := ⟨RX5, "cell", "(III)I"⟩
abbrev cX5_copy : ByteArray := prog_1_method_35_code
def yX5_copy : MethodName := ⟨RX5, "copy", "(IIIII)I"⟩
abbrev cX5_townBy : ByteArray := prog_1_method_36_code
def yX5_townBy : MethodName := ⟨RX5, "townBy", "(IIII)I"⟩
abbrev cX5_taken : ByteArray := prog_1_method_37_code
def yX5_taken : MethodName := ⟨RX5, "taken", "(II)I"⟩
abbrev cX5_isWithin : ByteArray := prog_1_method_38_code
def yX5_isWithin : MethodName := ⟨RX5, "isWithin", "(III)Z"⟩
abbrev cX5_isByte : ByteArray := prog_1_method_39_code
def yX5_isByte : MethodName := ⟨RX5, "isByte", "(I)Z"⟩
abbrev cX5_isSheet : ByteArray := prog_1_method_40_code
def yX5_isSheet : MethodName := ⟨RX5, "isSheet", "(I)Z"⟩
abbrev cX5_isKindOf : ByteArray := prog_1_method_41_code
def yX5_isKindOf : MethodName := ⟨RX5, "isKindOf", "(II)Z"⟩
abbrev cX5_mostOf : ByteArray := prog_1_method_42_code
def yX5_mostOf : MethodName := ⟨RX5, "mostOf", "(I)I"⟩
abbrev cX5_lowestTerms : ByteArray := prog_1_method_43_code
def yX5_lowestTerms : MethodName := ⟨RX5, "lowestTerms", "(JJI)J"⟩
abbrev cX5_startThought : ByteArray := prog_1_method_44_code
def yX5_startThought : MethodName := ⟨RX5, "startThought", "()LBellOfLies$Town;"⟩
abbrev cX5_refusalOfTold : ByteArray := prog_1_method_45_code
def yX5_refusalOfTold : MethodName := ⟨RX5, "refusalOfTold", "(I)I"⟩
abbrev cX5_refusalOfToldAbout : ByteArray := prog_1_method_46_code
def yX5_refusalOfToldAbout : MethodName := ⟨RX5, "refusalOfToldAbout", "(III)I"⟩
abbrev cX5_firstOtherwise : ByteArray := prog_1_method_47_code
def yX5_firstOtherwise : MethodName := ⟨RX5, "firstOtherwise", "(ILBellOfLies$Town;)I"⟩
abbrev cX5_inCrowd : ByteArray := prog_1_method_48_code
def yX5_inCrowd : MethodName := ⟨RX5, "inCrowd", "(III)I"⟩
def RX6 : String := "BellOfLiesModel"
def TX6 : u_T := fun k => match k with
  | 0 => ("BellOfLiesModel", "people", "I", false)
  | 1 => ("BellOfLiesModel", "kind", "[I", true)
  | 2 => ("BellOfLiesModel", "moreOf", "[I", true)
  | 3 => ("BellOfLiesModel", "rows", "[I", true)
  | 4 => ("BellOfLiesModel", "bells", "[I", true)
  | 5 => ("BellOfLiesModel", "tape", "[I", true)
  | 6 => ("BellOfLiesModel", "taped", "I", false)
  | 7 => ("BellOfLiesModel", "codes", "[I", true)
  | 8 => ("BellOfLiesModel", "starts", "[I", true)
  | 9 => ("BellOfLiesModel", "texts", "I", false)
  | 10 => ("BellOfLiesModel", "rule", "I", false)
  | 11 => ("BellOfLiesModel", "hasImage", "Z", false)
  | 12 => ("BellOfLiesModel", "imageRows", "[I", true)
  | 13 => ("BellOfLiesModel", "imageHeld", "[I", true)
  | 14 => ("BellOfLiesModel", "sheetSort", "[I", true)
  | 15 => ("BellOfLiesModel", "sheetSize", "[I", true)
  | 16 => ("BellOfLiesModel", "cells", "[I", true)
  | 17 => ("BellOfLiesModel", "law", "[I", true)
  | 18 => ("BellOfLiesModel", "at", "I", false)
  | 19 => ("BellOfLiesModel", "begun", "I", false)
  | 20 => ("BellOfLiesModel", "token", "I", false)
  | 21 => ("BellOfLiesModel", "value", "I", false)
  | 22 => ("BellOfLiesModel", "words", "[I", true)
  | 23 => ("BellOfLiesModel", "held", "[I", true)
  | 24 => ("BellOfLiesModel", "heldMany", "I", false)
  | 25 => ("BellOfLiesModel", "opens", "I", false)
  | 26 => ("BellOfLiesModel", "out", "I", false)
  | 27 => ("BellOfLiesModel", "stack", "[I", true)
  | 28 => ("BellOfLiesModel", "named", "[I", true)
  | 29 => ("BellOfLiesModel", "liarsThen", "I", false)
  | 30 => ("BellOfLiesModel", "kept", "[I", true)
  | 31 => ("BellOfLiesModel", "dayStrikes", "[I", true)
  | 32 => ("BellOfLiesModel", "dayLiars", "[I", true)
  | _ => ("BellOfLiesModel", "toldThen", "I", false)
def tyX6 : Nat → FieldType := fun k => match k with
  | 0 => .int
  | 1 => .array .int
  | 2 => .array .int
  | 3 => .array .int
  | 4 => .array .int
  | 5 => .array .int
  | 6 => .int
  | 7 => .array .int
  | 8 => .array .int
  | 9 => .int
  | 10 => .int
  | 11 => .boolean
  | 12 => .array .int
  | 13 => .array .int
  | 14 => .array .int
  | 15 => .array .int
  | 16 => .array .int
  | 17 => .array .int
  | 18 => .int
  | 19 => .int
  | 20 => .int
  | 21 => .int
  | 22 => .array .int
  | 23 => .array .int
  | 24 => .int
  | 25 => .int
  | 26 => .int
  | 27 => .array .int
  | 28 => .array .int
  | 29 => .int
  | 30 => .array .int
  | 31 => .array .int
  | 32 => .array .int
  | _ => .int
abbrev wsX60 : List Cond := u_ws RX6 TX6 34
theorem nmX6 : ∀ a, a < 34 → ∀ b, b < 34 → a ≠ b → (TX6 a).2.1 ≠ (TX6 b).2.1 := by decide +kernel
theorem tyX6_ok : ∀ k, k < 34 → parseFieldDescriptor (TX6 k).2.2.1 = some (tyX6 k) := by decide +kernel
abbrev cX6_init : ByteArray := prog_8_method_1_code
def yX6_init : MethodName := ⟨RX6, "<init>", "()V"⟩
abbrev cX6_in : ByteArray := prog_8_method_3_code
def yX6_in : MethodName := ⟨RX6, "in", "(III)Z"⟩
abbrev cX6_within : ByteArray := prog_8_method_4_code
def yX6_within : MethodName := ⟨RX6, "within", "(III)I"⟩
abbrev cX6_onesOf : ByteArray := prog_8_method_5_code
def yX6_onesOf : MethodName := ⟨RX6, "onesOf", "(I)I"⟩
abbrev cX6_isOne : ByteArray := prog_8_method_6_code
def yX6_isOne : MethodName := ⟨RX6, "isOne", "(I)Z"⟩
abbrev cX6_ofDay : ByteArray := prog_8_method_7_code
def yX6_ofDay : MethodName := ⟨RX6, "ofDay", "()I"⟩
abbrev cX6_count : ByteArray := prog_8_method_8_code
def yX6_count : MethodName := ⟨RX6, "count", "(I)I"⟩
abbrev cX6_clock : ByteArray := prog_8_method_9_code
def yX6_clock : MethodName := ⟨RX6, "clock", "(I)I"⟩
abbrev cX6_isByte : ByteArray := prog_8_method_10_code
def yX6_isByte : MethodName := ⟨RX6, "isByte", "(I)Z"⟩
abbrev cX6_feed : ByteArray := prog_8_method_11_code
def yX6_feed : MethodName := ⟨RX6, "feed", "(IIIIII)I"⟩
abbrev cX6_wordFrom : ByteArray := prog_8_method_12_code
def yX6_wordFrom : MethodName := ⟨RX6, "wordFrom", "(II)I"⟩
abbrev cX6_next : ByteArray := prog_8_method_13_code
def yX6_next : MethodName := ⟨RX6, "next", "()V"⟩
abbrev cX6_rank : ByteArray := prog_8_method_14_code
def yX6_rank : MethodName := ⟨RX6, "rank", "(I)I"⟩
abbrev cX6_puts : ByteArray := prog_8_method_15_code
def yX6_puts : MethodName := ⟨RX6, "puts", "(I)V"⟩
abbrev cX6_unwinds : ByteArray := prog_8_method_16_code
def yX6_unwinds : MethodName := ⟨RX6, "unwinds", "(I)V"⟩
abbrev cX6_holds : ByteArray := prog_8_method_17_code
def yX6_holds : MethodName := ⟨RX6, "holds", "(I)V"⟩
abbrev cX6_opensOne : ByteArray := prog_8_method_18_code
def yX6_opensOne : MethodName := ⟨RX6, "opensOne", "(I)Z"⟩
abbrev cX6_between : ByteArray := prog_8_method_19_code
def yX6_between : MethodName := ⟨RX6, "between", "(I)Z"⟩
abbrev cX6_signOf : ByteArray := prog_8_method_20_code
def yX6_signOf : MethodName := ⟨RX6, "signOf", "()I"⟩
abbrev cX6_eRead : ByteArray := prog_8_method_21_code
def yX6_eRead : MethodName := ⟨RX6, "eRead", "()Z"⟩
abbrev cX6_text : ByteArray := prog_8_method_22_code
def yX6_text : MethodName := ⟨RX6, "text", "()I"⟩
abbrev cX6_two : ByteArray := prog_8_method_23_code
def yX6_two : MethodName := ⟨RX6, "two", "(III)I"⟩
abbrev cX6_says : ByteArray := prog_8_method_24_code
def yX6_says : MethodName := ⟨RX6, "says", "(I)I"⟩
abbrev cX6_force : ByteArray := prog_8_method_25_code
def yX6_force : MethodName := ⟨RX6, "force", "(I)I"⟩
abbrev cX6_asksOf : ByteArray := prog_8_method_26_code
def yX6_asksOf : MethodName := ⟨RX6, "asksOf", "(II)I"⟩
abbrev cX6_asks : ByteArray := prog_8_method_27_code
def yX6_asks : MethodName := ⟨RX6, "asks", "(II)I"⟩
abbrev cX6_person : ByteArray := prog_8_method_28_code
def yX6_person : MethodName := ⟨RX6, "person", "(III)I"⟩
abbrev cX6_mostOf : ByteArray := prog_8_method_29_code
def yX6_mostOf : MethodName := ⟨RX6, "mostOf", "(I)I"⟩
abbrev cX6_put : ByteArray := prog_8_method_30_code
def yX6_put : MethodName := ⟨RX6, "put", "(III)I"⟩
abbrev cX6_lies : ByteArray := prog_8_method_31_code
def yX6_lies : MethodName := ⟨RX6, "lies", "(I)Z"⟩
abbrev cX6_costsOf : ByteArray := prog_8_method_32_code
def yX6_costsOf : MethodName := ⟨RX6, "costsOf", "(I)I"⟩
abbrev cX6_strokesOf : ByteArray := prog_8_method_33_code
def yX6_strokesOf : MethodName := ⟨RX6, "strokesOf", "(I)I"⟩
abbrev cX6_liars : ByteArray := prog_8_method_34_code
def yX6_liars : MethodName := ⟨RX6, "liars", "()I"⟩
abbrev cX6_strikesBy : ByteArray := prog_8_method_35_code
def yX6_strikesBy : MethodName := ⟨RX6, "strikesBy", "(I)I"⟩
abbrev cX6_vows : ByteArray := prog_8_method_36_code
def yX6_vows : MethodName := ⟨RX6, "vows", "()I"⟩
abbrev cX6_tells : ByteArray := prog_8_method_37_code
def yX6_tells : MethodName := ⟨RX6, "tells", "(II)I"⟩
abbrev cX6_bell : ByteArray := prog_8_method_38_code
def yX6_bell : MethodName := ⟨RX6, "bell", "(I)I"⟩
abbrev cX6_hourOf : ByteArray := prog_8_method_39_code
def yX6_hourOf : MethodName := ⟨RX6, "hourOf", "()I"⟩
abbrev cX6_strike : ByteArray := prog_8_method_40_code
def yX6_strike : MethodName := ⟨RX6, "strike", "()I"⟩
abbrev cX6_keeps : ByteArray := prog_8_method_41_code
def yX6_keeps : MethodName := ⟨RX6, "keeps", "()V"⟩
abbrev cX6_lays : ByteArray := prog_8_method_42_code
def yX6_lays : MethodName := ⟨RX6, "lays", "()V"⟩
abbrev cX6_goes : ByteArray := prog_8_method_43_code
def yX6_goes : MethodName := ⟨RX6, "goes", "(I)I"⟩
abbrev cX6_run : ByteArray := prog_8_method_44_code
def yX6_run : MethodName := ⟨RX6, "run", "(II)I"⟩
abbrev cX6_when : ByteArray := prog_8_method_45_code
def yX6_when : MethodName := ⟨RX6, "when", "(I)I"⟩
abbrev cX6_tellsDay : ByteArray := prog_8_method_46_code
def yX6_tellsDay : MethodName := ⟨RX6, "tellsDay", "()V"⟩
abbrev cX6_alikeWith : ByteArray := prog_8_method_47_code
def yX6_alikeWith : MethodName := ⟨RX6, "alikeWith", "(I)I"⟩
abbrev cX6_alone : ByteArray := prog_8_method_48_code
def yX6_alone : MethodName := ⟨RX6, "alone", "()I"⟩
abbrev cX6_longestRow : ByteArray := prog_8_method_49_code
def yX6_longestRow : MethodName := ⟨RX6, "longestRow", "()I"⟩
abbrev cX6_mostHour : ByteArray := prog_8_method_50_code
def yX6_mostHour : MethodName := ⟨RX6, "mostHour", "()I"⟩
abbrev cX6_silent : ByteArray := prog_8_method_51_code
def yX6_silent : MethodName := ⟨RX6, "silent", "()I"⟩
abbrev cX6_dial : ByteArray := prog_8_method_52_code
def yX6_dial : MethodName := ⟨RX6, "dial", "(I)I"⟩
abbrev cX6_hush : ByteArray := prog_8_method_53_code
def yX6_hush : MethodName := ⟨RX6, "hush", "(I)I"⟩
abbrev cX6_council : ByteArray := prog_8_method_54_code
def yX6_council : MethodName := ⟨RX6, "council", "(III)I"⟩
abbrev cX6_lesson : ByteArray := prog_8_method_55_code
def yX6_lesson : MethodName := ⟨RX6, "lesson", "(II)I"⟩
abbrev cX6_pair : ByteArray := prog_8_method_56_code
def yX6_pair : MethodName := ⟨RX6, "pair", "(I)I"⟩
abbrev cX6_lowest : ByteArray := prog_8_method_57_code
def yX6_lowest : MethodName := ⟨RX6, "lowest", "(JJI)J"⟩
abbrev cX6_mean : ByteArray := prog_8_method_58_code
def yX6_mean : MethodName := ⟨RX6, "mean", "(II)J"⟩
abbrev cX6_share : ByteArray := prog_8_method_59_code
def yX6_share : MethodName := ⟨RX6, "share", "(II)J"⟩
abbrev cX6_sheetWrong : ByteArray := prog_8_method_60_code
def yX6_sheetWrong : MethodName := ⟨RX6, "sheetWrong", "(I)I"⟩
abbrev cX6_unlike : ByteArray := prog_8_method_61_code
def yX6_unlike : MethodName := ⟨RX6, "unlike", "(I)I"⟩
abbrev cX6_judge : ByteArray := prog_8_method_62_code
def yX6_judge : MethodName := ⟨RX6, "judge", "(I)I"⟩
abbrev cX6_kinds : ByteArray := prog_8_method_63_code
def yX6_kinds : MethodName := ⟨RX6, "kinds", "(III)I"⟩
abbrev cX6_nerves : ByteArray := prog_8_method_64_code
def yX6_nerves : MethodName := ⟨RX6, "nerves", "(III)I"⟩
abbrev cX6_turned : ByteArray := prog_8_method_65_code
def yX6_turned : MethodName := ⟨RX6, "turned", "(I)I"⟩
abbrev cX6_hours : ByteArray := prog_8_method_66_code
def yX6_hours : MethodName := ⟨RX6, "hours", "(I)I"⟩
abbrev cX6_laws : ByteArray := prog_8_method_67_code
def yX6_laws : MethodName := ⟨RX6, "laws", "(I)I"⟩
abbrev cX6_film : ByteArray := prog_8_method_68_code
def yX6_film : MethodName := ⟨RX6, "film", "(II)I"⟩
abbrev cX6_crowds : ByteArray := prog_8_method_69_code
def yX6_crowds : MethodName := ⟨RX6, "crowds", "(II)I"⟩
abbrev cX6_drawn : ByteArray := prog_8_method_70_code
def yX6_drawn : MethodName := ⟨RX6, "drawn", "(III)I"⟩
abbrev cX6_odds : ByteArray := prog_8_method_71_code
def yX6_odds : MethodName := ⟨RX6, "odds", "(IIII)J"⟩
abbrev cX6_image : ByteArray := prog_8_method_72_code
def yX6_image : MethodName := ⟨RX6, "image", "()I"⟩
abbrev cX6_back : ByteArray := prog_8_method_73_code
def yX6_back : MethodName := ⟨RX6, "back", "()I"⟩
abbrev cX6_sheet : ByteArray := prog_8_method_74_code
def yX6_sheet : MethodName := ⟨RX6, "sheet", "(III)I"⟩
abbrev cX6_cell : ByteArray := prog_8_method_75_code
def yX6_cell : MethodName := ⟨RX6, "cell", "(III)I"⟩
abbrev cX6_copy : ByteArray := prog_8_method_76_code
def yX6_copy : MethodName := ⟨RX6, "copy", "(IIIII)I"⟩
abbrev cX6_townBy : ByteArray := prog_8_method_77_code
def yX6_townBy : MethodName := ⟨RX6, "townBy", "(IIII)I"⟩
abbrev cX6_isUnder : ByteArray := prog_8_method_78_code
def yX6_isUnder : MethodName := ⟨RX6, "isUnder", "(II)Z"⟩
abbrev cX6_taken : ByteArray := prog_8_method_79_code
def yX6_taken : MethodName := ⟨RX6, "taken", "(II)I"⟩
def RJ6 : String := "java/lang/Integer"
def TJ6 : u_T := fun k => match k with
  | _ => ("", "", "", false)
def tyJ6 : Nat → FieldType := fun k => match k with
  | _ => .int
abbrev wsJ60 : List Cond := u_ws RJ6 TJ6 0
theorem nmJ6 : ∀ a, a < 0 → ∀ b, b < 0 → a ≠ b → (TJ6 a).2.1 ≠ (TJ6 b).2.1 := by decide +kernel
theorem tyJ6_ok : ∀ k, k < 0 → parseFieldDescriptor (TJ6 k).2.2.1 = some (tyJ6 k) := by decide +kernel
abbrev cJ6_bitCount_0f7a4 : ByteArray := prog_9_method_49_code
def yJ6_bitCount_0f7a4 : MethodName := ⟨RJ6, "bitCount", "(I)I"⟩
def RJ9 : String := "java/lang/Math"
def TJ9 : u_T := fun k => match k with
  | _ => ("", "", "", false)
def tyJ9 : Nat → FieldType := fun k => match k with
  | _ => .int
abbrev wsJ90 : List Cond := u_ws RJ9 TJ9 0
theorem nmJ9 : ∀ a, a < 0 → ∀ b, b < 0 → a ≠ b → (TJ9 a).2.1 ≠ (TJ9 b).2.1 := by decide +kernel
theorem tyJ9_ok : ∀ k, k < 0 → parseFieldDescriptor (TJ9 k).2.2.1 = some (tyJ9 k) := by decide +kernel
abbrev cJ9_max_7cf53 : ByteArray := prog_10_method_65_code
def yJ9_max_7cf53 : MethodName := ⟨RJ9, "max", "(II)I"⟩
abbrev cJ9_min_7cf53 : ByteArray := prog_10_method_69_code
def yJ9_min_7cf53 : MethodName := ⟨RJ9, "min", "(II)I"⟩
def RJ0 : String := "java/lang/String"
def TJ0 : u_T := fun k => match k with
  | _ => ("", "", "", false)
def tyJ0 : Nat → FieldType := fun k => match k with
  | _ => .int
abbrev wsJ00 : List Cond := u_ws RJ0 TJ0 0
theorem nmJ0 : ∀ a, a < 0 → ∀ b, b < 0 → a ≠ b → (TJ0 a).2.1 ≠ (TJ0 b).2.1 := by decide +kernel
theorem tyJ0_ok : ∀ k, k < 0 → parseFieldDescriptor (TJ0 k).2.2.1 = some (tyJ0 k) := by decide +kernel
abbrev cJ0_length_8abf5 : ByteArray := prog_11_method_54_code
def yJ0_length_8abf5 : MethodName := ⟨RJ0, "length", "()I"⟩
abbrev cJ0_charAt_5068e : ByteArray := prog_11_method_56_code
def yJ0_charAt_5068e : MethodName := ⟨RJ0, "charAt", "(I)C"⟩
abbrev cJ0_coder_7d493 : ByteArray := prog_11_method_152_code
def yJ0_coder_7d493 : MethodName := ⟨RJ0, "coder", "()B"⟩
abbrev cJ0_isLatin1_aae02 : ByteArray := prog_11_method_154_code
def yJ0_isLatin1_aae02 : MethodName := ⟨RJ0, "isLatin1", "()Z"⟩
abbrev cJ0_checkIndex_df160 : ByteArray := prog_11_method_155_code
def yJ0_checkIndex_df160 : MethodName := ⟨RJ0, "checkIndex", "(II)V"⟩
def RJ1 : String := "java/lang/StringLatin1"
def TJ1 : u_T := fun k => match k with
  | _ => ("", "", "", false)
def tyJ1 : Nat → FieldType := fun k => match k with
  | _ => .int
abbrev wsJ10 : List Cond := u_ws RJ1 TJ1 0
theorem nmJ1 : ∀ a, a < 0 → ∀ b, b < 0 → a ≠ b → (TJ1 a).2.1 ≠ (TJ1 b).2.1 := by decide +kernel
theorem tyJ1_ok : ∀ k, k < 0 → parseFieldDescriptor (TJ1 k).2.2.1 = some (tyJ1 k) := by decide +kernel
abbrev cJ1_charAt_3b067 : ByteArray := prog_12_method_2_code
def yJ1_charAt_3b067 : MethodName := ⟨RJ1, "charAt", "([BI)C"⟩
def RJ2 : String := "java/lang/StringUTF16"
def TJ2 : u_T := fun k => match k with
  | _ => ("", "", "", false)
def tyJ2 : Nat → FieldType := fun k => match k with
  | _ => .int
abbrev wsJ20 : List Cond := u_ws RJ2 TJ2 0
theorem nmJ2 : ∀ a, a < 0 → ∀ b, b < 0 → a ≠ b → (TJ2 a).2.1 ≠ (TJ2 b).2.1 := by decide +kernel
theorem tyJ2_ok : ∀ k, k < 0 → parseFieldDescriptor (TJ2 k).2.2.1 = some (tyJ2 k) := by decide +kernel
abbrev cJ2_getChar_3b067 : ByteArray := prog_13_method_5_code
def yJ2_getChar_3b067 : MethodName := ⟨RJ2, "getChar", "([BI)C"⟩
abbrev cJ2_length_9d52b : ByteArray := prog_13_method_6_code
def yJ2_length_9d52b : MethodName := ⟨RJ2, "length", "([B)I"⟩
abbrev cJ2_charAt_3b067 : ByteArray := prog_13_method_83_code
def yJ2_charAt_3b067 : MethodName := ⟨RJ2, "charAt", "([BI)C"⟩
abbrev cJ2_checkIndex_2214a : ByteArray := prog_13_method_91_code
def yJ2_checkIndex_2214a : MethodName := ⟨RJ2, "checkIndex", "(I[B)V"⟩
def RJ10 : String := "java/lang/System"
def TJ10 : u_T := fun k => match k with
  | _ => ("", "", "", false)
def tyJ10 : Nat → FieldType := fun k => match k with
  | _ => .int
abbrev wsJ100 : List Cond := u_ws RJ10 TJ10 0
theorem nmJ10 : ∀ a, a < 0 → ∀ b, b < 0 → a ≠ b → (TJ10 a).2.1 ≠ (TJ10 b).2.1 := by decide +kernel
theorem tyJ10_ok : ∀ k, k < 0 → parseFieldDescriptor (TJ10 k).2.2.1 = some (tyJ10 k) := by decide +kernel
def RJ3 : String := "jdk/internal/util/Preconditions"
def TJ3 : u_T := fun k => match k with
  | _ => ("", "", "", false)
def tyJ3 : Nat → FieldType := fun k => match k with
  | _ => .int
abbrev wsJ30 : List Cond := u_ws RJ3 TJ3 0
theorem nmJ3 : ∀ a, a < 0 → ∀ b, b < 0 → a ≠ b → (TJ3 a).2.1 ≠ (TJ3 b).2.1 := by decide +kernel
theorem tyJ3_ok : ∀ k, k < 0 → parseFieldDescriptor (TJ3 k).2.2.1 = some (tyJ3 k) := by decide +kernel
abbrev cJ3_checkIndex_8e157 : ByteArray := prog_15_method_11_code
def yJ3_checkIndex_8e157 : MethodName := ⟨RJ3, "checkIndex", "(IILjava/util/function/BiFunction;)I"⟩
def RL : String := "BellOfLiesLaw"
abbrev cL_law : ByteArray := code
def yL_law : MethodName := ⟨RL, "law", "([I)Z"⟩
abbrev vwCl : List vw_C := [(RX0, TX0, 2), (RX1, TX1, 3), (RX2, TX2, 7), (RX3, TX3, 4), (RX4, TX4, 12), (RX5, TX5, 9), (RX6, TX6, 34)]
end
section
theorem tb_1 {w : Cond} (h : w ∈ tables_1_1) : w ∈ lw_tbl := List.mem_append_right _ (List.mem_append_left _ h)
theorem tb_2 {w : Cond} (h : w ∈ tables_1_2) : w ∈ lw_tbl := List.mem_append_right _ (List.mem_append_right _ (List.mem_append_left _ h))
theorem tb_3 {w : Cond} (h : w ∈ tables_1_3) : w ∈ lw_tbl := List.mem_append_right _ (List.mem_append_right _ (List.mem_append_right _ (List.mem_append_left _ h)))
theorem tb_4 {w : Cond} (h : w ∈ tables_1_4) : w ∈ lw_tbl := List.mem_append_right _ (List.mem_append_right _ (List.mem_append_right _ (List.mem_append_right _ (List.mem_append_left _ h))))
theorem tb_5 {w : Cond} (h : w ∈ tables_1_5) : w ∈ lw_tbl := List.mem_append_right _ (List.mem_append_right _ (List.mem_append_right _ (List.mem_append_right _ (List.mem_append_right _ h))))
theorem tb_0 {w : Cond} (h : w ∈ k2_sels lw_privs) : w ∈ lw_tbl := List.mem_append_left _ h
/-- the words that stay when a class warms up -/
def TT : List Cond := lw_tbl.filter goodWord
theorem tm {w : Cond} (h : w ∈ lw_tbl) (g : goodWord w = true) : w ∈ TT := List.mem_filter.mpr ⟨h, g⟩
theorem TT_in : ∀ w ∈ TT, w ∈ lw_tbl := fun _ h => (List.mem_filter.mp h).1
theorem TT_good {big ws : List Cond} (h : ∀ w ∈ ws, w ∈ TT) (hb : ∀ w ∈ TT, w ∈ big) : GoodIn big ws := fun w hw => ⟨hb w (h w hw), good_of_word (List.mem_filter.mp (h w hw)).2⟩
theorem tw_in_RL : Cond.initialized RL ∈ TT := tm (tb_1 (List.mem_of_getElem? (i := 0) rfl)) rfl
theorem tw_in_RX5 : Cond.initialized RX5 ∈ TT := tm (tb_1 (List.mem_of_getElem? (i := 1) rfl)) rfl
theorem tw_in_RX2 : Cond.initialized RX2 ∈ TT := tm (tb_1 (List.mem_of_getElem? (i := 2) rfl)) rfl
theorem tw_in_RX0 : Cond.initialized RX0 ∈ TT := tm (tb_1 (List.mem_of_getElem? (i := 3) rfl)) rfl
theorem tw_in_RX3 : Cond.initialized RX3 ∈ TT := tm (tb_1 (List.mem_of_getElem? (i := 4) rfl)) rfl
theorem tw_in_RX1 : Cond.initialized RX1 ∈ TT := tm (tb_1 (List.mem_of_getElem? (i := 5) rfl)) rfl
theorem tw_in_RX4 : Cond.initialized RX4 ∈ TT := tm (tb_1 (List.mem_of_getElem? (i := 6) rfl)) rfl
theorem tw_in_RX6 : Cond.initialized RX6 ∈ TT := tm (tb_1 (List.mem_of_getElem? (i := 7) rfl)) rfl
theorem tw_in_RJ0 : Cond.initialized RJ0 ∈ TT := tm (tb_1 (List.mem_of_getElem? (i := 8) rfl)) rfl
theorem tw_in_RJ1 : Cond.initialized RJ1 ∈ TT := tm (tb_1 (List.mem_of_getElem? (i := 9) rfl)) rfl
theorem tw_in_RJ3 : Cond.initialized RJ3 ∈ TT := tm (tb_1 (List.mem_of_getElem? (i := 10) rfl)) rfl
theorem tw_in_RJ2 : Cond.initialized RJ2 ∈ TT := tm (tb_1 (List.mem_of_getElem? (i := 11) rfl)) rfl
theorem tw_in_RJ9 : Cond.initialized RJ9 ∈ TT := tm (tb_1 (List.mem_of_getElem? (i := 12) rfl)) rfl
theorem tw_in_RJ6 : Cond.initialized RJ6 ∈ TT := tm (tb_1 (List.mem_of_getElem? (i := 13) rfl)) rfl
theorem tw_in_RJ10 : Cond.initialized RJ10 ∈ TT := tm (tb_1 (List.mem_of_getElem? (i := 14) rfl)) rfl
theorem tw_cl_RL_7 : Cond.classLink RL 7 RX5 ∈ TT := tm (tb_1 (List.mem_of_getElem? (i := 15) rfl)) rfl
theorem tw_ia_RX5 : Cond.instantiable RX5 9 ∈ TT := tm (tb_1 (List.mem_of_getElem? (i := 16) rfl)) rfl
theorem tw_ml_RL_9 : Cond.methodLink RL 9 yX5_init ∈ TT := tm (tb_1 (List.mem_of_getElem? (i := 17) rfl)) rfl
theorem tw_im_X5_init : Cond.instanceMethod yX5_init ∈ TT := tm (tb_1 (List.mem_of_getElem? (i := 18) rfl)) rfl
theorem tw_cd_X5_init : Cond.code yX5_init cX5_init 3 none ∈ TT := tm (tb_1 (List.mem_of_getElem? (i := 19) rfl)) rfl
theorem tw_ml_RX5_1 : Cond.methodLink RX5 1 objectInit ∈ TT := tm (tb_1 (List.mem_of_getElem? (i := 20) rfl)) rfl
theorem tw_im_objectInit : Cond.instanceMethod objectInit ∈ TT := tm (tb_1 (List.mem_of_getElem? (i := 21) rfl)) rfl
theorem tw_cd_objectInit : Cond.code objectInit ⟨#[0xb1]⟩ 1 none ∈ TT := tm (tb_1 (List.mem_of_getElem? (i := 22) rfl)) rfl
theorem tw_cl_RX5_9 : Cond.classLink RX5 9 RX3 ∈ TT := tm (tb_1 (List.mem_of_getElem? (i := 23) rfl)) rfl
theorem tw_cl_RX5_15 : Cond.classLink RX5 15 RX1 ∈ TT := tm (tb_1 (List.mem_of_getElem? (i := 25) rfl)) rfl
theorem tw_cl_RX5_21 : Cond.classLink RX5 21 RX2 ∈ TT := tm (tb_1 (List.mem_of_getElem? (i := 27) rfl)) rfl
theorem tw_ia_RX2 : Cond.instantiable RX2 7 ∈ TT := tm (tb_1 (List.mem_of_getElem? (i := 28) rfl)) rfl
theorem tw_im_X2_init : Cond.instanceMethod yX2_init ∈ TT := tm (tb_1 (List.mem_of_getElem? (i := 30) rfl)) rfl
theorem tw_cd_X2_init : Cond.code yX2_init cX2_init 1 none ∈ TT := tm (tb_1 (List.mem_of_getElem? (i := 31) rfl)) rfl
theorem tw_ml_RX2_3 : Cond.methodLink RX2 3 objectInit ∈ TT := tm (tb_1 (List.mem_of_getElem? (i := 32) rfl)) rfl
theorem tw_fl_RX2_9 : Cond.fieldLink RX2 9 "BellOfLies$Scribe" "tape" "[I" ∈ TT := tm (tb_1 (List.mem_of_getElem? (i := 33) rfl)) rfl
theorem tw_fl_RX2_15 : Cond.fieldLink RX2 15 "BellOfLies$Scribe" "size" "I" ∈ TT := tm (tb_1 (List.mem_of_getElem? (i := 34) rfl)) rfl
theorem tw_fl_RX5_75 : Cond.fieldLink RX5 75 "BellOfLies$Scribe" "size" "I" ∈ TT := tm (tb_1 (List.mem_of_getElem? (i := 35) rfl)) rfl
theorem tw_fl_RX2_19 : Cond.fieldLink RX2 19 "BellOfLies$Scribe" "at" "I" ∈ TT := tm (tb_1 (List.mem_of_getElem? (i := 36) rfl)) rfl
theorem tw_fl_RX2_50 : Cond.fieldLink RX2 50 "BellOfLies$Scribe" "start" "I" ∈ TT := tm (tb_1 (List.mem_of_getElem? (i := 37) rfl)) rfl
theorem tw_fl_RX2_44 : Cond.fieldLink RX2 44 "BellOfLies$Scribe" "token" "I" ∈ TT := tm (tb_1 (List.mem_of_getElem? (i := 38) rfl)) rfl
theorem tw_fl_RX2_75 : Cond.fieldLink RX2 75 "BellOfLies$Scribe" "number" "I" ∈ TT := tm (tb_1 (List.mem_of_getElem? (i := 39) rfl)) rfl
theorem tw_fl_RX2_22 : Cond.fieldLink RX2 22 "BellOfLies$Scribe" "fault" "I" ∈ TT := tm (tb_1 (List.mem_of_getElem? (i := 40) rfl)) rfl
theorem tw_ac_1_56 : ((Jvm.Cond.arrayClass Jvm.ClassFile.FieldType.int)) ∈ TT := tm (tb_1 (List.mem_of_getElem? (i := 56) rfl)) rfl
theorem tw_cl_RX5_28 : Cond.classLink RX5 28 RX0 ∈ TT := tm (tb_1 (List.mem_of_getElem? (i := 57) rfl)) rfl
theorem tw_ia_RX0 : Cond.instantiable RX0 2 ∈ TT := tm (tb_1 (List.mem_of_getElem? (i := 58) rfl)) rfl
theorem tw_im_X0_init : Cond.instanceMethod yX0_init ∈ TT := tm (tb_1 (List.mem_of_getElem? (i := 60) rfl)) rfl
theorem tw_cd_X0_init : Cond.code yX0_init cX0_init 1 none ∈ TT := tm (tb_1 (List.mem_of_getElem? (i := 61) rfl)) rfl
theorem tw_ml_RX0_3 : Cond.methodLink RX0 3 objectInit ∈ TT := tm (tb_1 (List.mem_of_getElem? (i := 62) rfl)) rfl
theorem tw_fl_RX0_9 : Cond.fieldLink RX0 9 "BellOfLies$Day" "strikes" "[I" ∈ TT := tm (tb_1 (List.mem_of_getElem? (i := 63) rfl)) rfl
theorem tw_fl_RX0_15 : Cond.fieldLink RX0 15 "BellOfLies$Day" "liars" "[I" ∈ TT := tm (tb_1 (List.mem_of_getElem? (i := 64) rfl)) rfl
theorem tw_ia_RX3 : Cond.instantiable RX3 4 ∈ TT := tm (tb_1 (List.mem_of_getElem? (i := 70) rfl)) rfl
theorem tw_im_X3_init : Cond.instanceMethod yX3_init ∈ TT := tm (tb_1 (List.mem_of_getElem? (i := 72) rfl)) rfl
theorem tw_cd_X3_init : Cond.code yX3_init cX3_init 1 none ∈ TT := tm (tb_1 (List.mem_of_getElem? (i := 73) rfl)) rfl
theorem tw_ml_RX3_3 : Cond.methodLink RX3 3 objectInit ∈ TT := tm (tb_1 (List.mem_of_getElem? (i := 74) rfl)) rfl
theorem tw_fl_RX3_9 : Cond.fieldLink RX3 9 "BellOfLies$Text" "steps" "[I" ∈ TT := tm (tb_1 (List.mem_of_getElem? (i := 75) rfl)) rfl
theorem tw_fl_RX3_15 : Cond.fieldLink RX3 15 "BellOfLies$Text" "stack" "[I" ∈ TT := tm (tb_1 (List.mem_of_getElem? (i := 76) rfl)) rfl
theorem tw_fl_RX3_18 : Cond.fieldLink RX3 18 "BellOfLies$Text" "ends" "[I" ∈ TT := tm (tb_1 (List.mem_of_getElem? (i := 77) rfl)) rfl
theorem tw_fl_RX3_21 : Cond.fieldLink RX3 21 "BellOfLies$Text" "size" "I" ∈ TT := tm (tb_1 (List.mem_of_getElem? (i := 78) rfl)) rfl
theorem tw_ml_RX5_44 : Cond.methodLink RX5 44 yX3_becomeFirstLaw ∈ TT := tm (tb_1 (List.mem_of_getElem? (i := 88) rfl)) rfl
theorem tw_im_X3_becomeFirstLaw : Cond.instanceMethod yX3_becomeFirstLaw ∈ TT := tm (tb_1 (List.mem_of_getElem? (i := 89) rfl)) rfl
theorem tw_se_X3_becomeFirstLaw : Cond.selects RX3 yX3_becomeFirstLaw yX3_becomeFirstLaw ∈ TT := tm (tb_1 (List.mem_of_getElem? (i := 90) rfl)) rfl
theorem tw_cd_X3_becomeFirstLaw : Cond.code yX3_becomeFirstLaw cX3_becomeFirstLaw 1 none ∈ TT := tm (tb_1 (List.mem_of_getElem? (i := 91) rfl)) rfl
theorem tw_ml_RX3_25 : Cond.methodLink RX3 25 yX3_empty ∈ TT := tm (tb_1 (List.mem_of_getElem? (i := 92) rfl)) rfl
theorem tw_im_X3_empty : Cond.instanceMethod yX3_empty ∈ TT := tm (tb_1 (List.mem_of_getElem? (i := 93) rfl)) rfl
theorem tw_se_X3_empty : Cond.selects RX3 yX3_empty yX3_empty ∈ TT := tm (tb_1 (List.mem_of_getElem? (i := 94) rfl)) rfl
theorem tw_cd_X3_empty : Cond.code yX3_empty cX3_empty 1 none ∈ TT := tm (tb_1 (List.mem_of_getElem? (i := 95) rfl)) rfl
theorem tw_ml_RX3_28 : Cond.methodLink RX3 28 yX3_add ∈ TT := tm (tb_1 (List.mem_of_getElem? (i := 96) rfl)) rfl
theorem tw_im_X3_add : Cond.instanceMethod yX3_add ∈ TT := tm (tb_1 (List.mem_of_getElem? (i := 97) rfl)) rfl
theorem tw_se_X3_add : Cond.selects RX3 yX3_add yX3_add ∈ TT := tm (tb_1 (List.mem_of_getElem? (i := 98) rfl)) rfl
theorem tw_cd_X3_add : Cond.code yX3_add cX3_add 2 none ∈ TT := tm (tb_1 (List.mem_of_getElem? (i := 99) rfl)) rfl
theorem tw_ml_RX3_32 : Cond.methodLink RX3 32 yX3_endPart ∈ TT := tm (tb_1 (List.mem_of_getElem? (i := 100) rfl)) rfl
theorem tw_im_X3_endPart : Cond.instanceMethod yX3_endPart ∈ TT := tm (tb_1 (List.mem_of_getElem? (i := 101) rfl)) rfl
theorem tw_se_X3_endPart : Cond.selects RX3 yX3_endPart yX3_endPart ∈ TT := tm (tb_1 (List.mem_of_getElem? (i := 102) rfl)) rfl
theorem tw_cd_X3_endPart : Cond.code yX3_endPart cX3_endPart 2 none ∈ TT := tm (tb_1 (List.mem_of_getElem? (i := 103) rfl)) rfl
theorem tw_ia_RX1 : Cond.instantiable RX1 3 ∈ TT := tm (tb_1 (List.mem_of_getElem? (i := 104) rfl)) rfl
theorem tw_im_X1_init : Cond.instanceMethod yX1_init ∈ TT := tm (tb_1 (List.mem_of_getElem? (i := 106) rfl)) rfl
theorem tw_cd_X1_init : Cond.code yX1_init cX1_init 1 none ∈ TT := tm (tb_1 (List.mem_of_getElem? (i := 107) rfl)) rfl
theorem tw_ml_RX1_3 : Cond.methodLink RX1 3 objectInit ∈ TT := tm (tb_1 (List.mem_of_getElem? (i := 108) rfl)) rfl
theorem tw_fl_RX1_9 : Cond.fieldLink RX1 9 "BellOfLies$Row" "cells" "[I" ∈ TT := tm (tb_1 (List.mem_of_getElem? (i := 109) rfl)) rfl
theorem tw_fl_RX5_242 : Cond.fieldLink RX5 242 "BellOfLies$Row" "cells" "[I" ∈ TT := tm (tb_1 (List.mem_of_getElem? (i := 110) rfl)) rfl
theorem tw_fl_RX1_15 : Cond.fieldLink RX1 15 "BellOfLies$Row" "sort" "I" ∈ TT := tm (tb_1 (List.mem_of_getElem? (i := 111) rfl)) rfl
theorem tw_fl_RX5_239 : Cond.fieldLink RX5 239 "BellOfLies$Row" "sort" "I" ∈ TT := tm (tb_1 (List.mem_of_getElem? (i := 112) rfl)) rfl
theorem tw_fl_RX1_19 : Cond.fieldLink RX1 19 "BellOfLies$Row" "size" "I" ∈ TT := tm (tb_1 (List.mem_of_getElem? (i := 113) rfl)) rfl
theorem tw_fl_RX5_258 : Cond.fieldLink RX5 258 "BellOfLies$Row" "size" "I" ∈ TT := tm (tb_1 (List.mem_of_getElem? (i := 114) rfl)) rfl
theorem tw_cl_RX5_48 : Cond.classLink RX5 48 RX4 ∈ TT := tm (tb_1 (List.mem_of_getElem? (i := 122) rfl)) rfl
theorem tw_ia_RX4 : Cond.instantiable RX4 12 ∈ TT := tm (tb_1 (List.mem_of_getElem? (i := 123) rfl)) rfl
theorem tw_ml_RX5_50 : Cond.methodLink RX5 50 yX4_init ∈ TT := tm (tb_1 (List.mem_of_getElem? (i := 124) rfl)) rfl
theorem tw_im_X4_init : Cond.instanceMethod yX4_init ∈ TT := tm (tb_1 (List.mem_of_getElem? (i := 125) rfl)) rfl
theorem tw_cd_X4_init : Cond.code yX4_init cX4_init 2 none ∈ TT := tm (tb_1 (List.mem_of_getElem? (i := 126) rfl)) rfl
theorem tw_ml_RX4_3 : Cond.methodLink RX4 3 objectInit ∈ TT := tm (tb_1 (List.mem_of_getElem? (i := 127) rfl)) rfl
theorem tw_fl_RX4_9 : Cond.fieldLink RX4 9 "BellOfLies$Town" "kind" "[I" ∈ TT := tm (tb_1 (List.mem_of_getElem? (i := 128) rfl)) rfl
theorem tw_fl_RX5_128 : Cond.fieldLink RX5 128 "BellOfLies$Town" "kind" "[I" ∈ TT := tm (tb_1 (List.mem_of_getElem? (i := 129) rfl)) rfl
theorem tw_fl_RX4_15 : Cond.fieldLink RX4 15 "BellOfLies$Town" "more" "[I" ∈ TT := tm (tb_1 (List.mem_of_getElem? (i := 130) rfl)) rfl
theorem tw_fl_RX5_132 : Cond.fieldLink RX5 132 "BellOfLies$Town" "more" "[I" ∈ TT := tm (tb_1 (List.mem_of_getElem? (i := 131) rfl)) rfl
theorem tw_fl_RX4_18 : Cond.fieldLink RX4 18 "BellOfLies$Town" "nerve" "[I" ∈ TT := tm (tb_1 (List.mem_of_getElem? (i := 132) rfl)) rfl
theorem tw_fl_RX5_214 : Cond.fieldLink RX5 214 "BellOfLies$Town" "nerve" "[I" ∈ TT := tm (tb_1 (List.mem_of_getElem? (i := 133) rfl)) rfl
theorem tw_fl_RX4_21 : Cond.fieldLink RX4 21 "BellOfLies$Town" "told" "[I" ∈ TT := tm (tb_1 (List.mem_of_getElem? (i := 134) rfl)) rfl
theorem tw_fl_RX4_24 : Cond.fieldLink RX4 24 "BellOfLies$Town" "own" "[I" ∈ TT := tm (tb_1 (List.mem_of_getElem? (i := 135) rfl)) rfl
theorem tw_fl_RX5_251 : Cond.fieldLink RX5 251 "BellOfLies$Town" "own" "[I" ∈ TT := tm (tb_1 (List.mem_of_getElem? (i := 136) rfl)) rfl
theorem tw_fl_RX4_27 : Cond.fieldLink RX4 27 "BellOfLies$Town" "vows" "I" ∈ TT := tm (tb_1 (List.mem_of_getElem? (i := 137) rfl)) rfl
theorem tw_fl_RX5_151 : Cond.fieldLink RX5 151 "BellOfLies$Town" "vows" "I" ∈ TT := tm (tb_1 (List.mem_of_getElem? (i := 138) rfl)) rfl
theorem tw_fl_RX4_31 : Cond.fieldLink RX4 31 "BellOfLies$Town" "people" "I" ∈ TT := tm (tb_1 (List.mem_of_getElem? (i := 139) rfl)) rfl
theorem tw_fl_RX5_63 : Cond.fieldLink RX5 63 "BellOfLies$Town" "people" "I" ∈ TT := tm (tb_1 (List.mem_of_getElem? (i := 140) rfl)) rfl
theorem tw_fl_RX4_34 : Cond.fieldLink RX4 34 "BellOfLies$Town" "hour" "I" ∈ TT := tm (tb_1 (List.mem_of_getElem? (i := 141) rfl)) rfl
theorem tw_fl_RX5_66 : Cond.fieldLink RX5 66 "BellOfLies$Town" "hour" "I" ∈ TT := tm (tb_1 (List.mem_of_getElem? (i := 142) rfl)) rfl
theorem tw_fl_RX4_37 : Cond.fieldLink RX4 37 "BellOfLies$Town" "toll" "I" ∈ TT := tm (tb_1 (List.mem_of_getElem? (i := 143) rfl)) rfl
theorem tw_fl_RX5_69 : Cond.fieldLink RX5 69 "BellOfLies$Town" "toll" "I" ∈ TT := tm (tb_1 (List.mem_of_getElem? (i := 144) rfl)) rfl
theorem tw_fl_RX4_40 : Cond.fieldLink RX4 40 "BellOfLies$Town" "last" "I" ∈ TT := tm (tb_1 (List.mem_of_getElem? (i := 145) rfl)) rfl
theorem tw_fl_RX5_78 : Cond.fieldLink RX5 78 "BellOfLies$Town" "last" "I" ∈ TT := tm (tb_1 (List.mem_of_getElem? (i := 146) rfl)) rfl
theorem tw_fl_RX4_43 : Cond.fieldLink RX4 43 "BellOfLies$Town" "lawNumber" "I" ∈ TT := tm (tb_1 (List.mem_of_getElem? (i := 147) rfl)) rfl
theorem tw_fl_RX5_72 : Cond.fieldLink RX5 72 "BellOfLies$Town" "lawNumber" "I" ∈ TT := tm (tb_1 (List.mem_of_getElem? (i := 148) rfl)) rfl
theorem tw_fl_RX4_46 : Cond.fieldLink RX4 46 "BellOfLies$Town" "law" "LBellOfLies$Text;" ∈ TT := tm (tb_1 (List.mem_of_getElem? (i := 149) rfl)) rfl
theorem tw_fl_RX5_104 : Cond.fieldLink RX5 104 "BellOfLies$Town" "law" "LBellOfLies$Text;" ∈ TT := tm (tb_1 (List.mem_of_getElem? (i := 150) rfl)) rfl
theorem tw_fl_RX5_11 : Cond.fieldLink RX5 11 "BellOfLies" "texts" "[LBellOfLies$Text;" ∈ TT := tm (tb_1 (List.mem_of_getElem? (i := 176) rfl)) rfl
theorem tw_fl_RX5_17 : Cond.fieldLink RX5 17 "BellOfLies" "rows" "[LBellOfLies$Row;" ∈ TT := tm (tb_1 (List.mem_of_getElem? (i := 177) rfl)) rfl
theorem tw_fl_RX5_24 : Cond.fieldLink RX5 24 "BellOfLies" "scribe" "LBellOfLies$Scribe;" ∈ TT := tm (tb_1 (List.mem_of_getElem? (i := 178) rfl)) rfl
theorem tw_fl_RX5_31 : Cond.fieldLink RX5 31 "BellOfLies" "day" "LBellOfLies$Day;" ∈ TT := tm (tb_1 (List.mem_of_getElem? (i := 179) rfl)) rfl
theorem tw_fl_RX5_53 : Cond.fieldLink RX5 53 "BellOfLies" "now" "LBellOfLies$Town;" ∈ TT := tm (tb_1 (List.mem_of_getElem? (i := 180) rfl)) rfl
theorem tw_fl_RX5_57 : Cond.fieldLink RX5 57 "BellOfLies" "thought" "LBellOfLies$Town;" ∈ TT := tm (tb_1 (List.mem_of_getElem? (i := 181) rfl)) rfl
theorem tw_fl_RX5_60 : Cond.fieldLink RX5 60 "BellOfLies" "kept" "LBellOfLies$Town;" ∈ TT := tm (tb_1 (List.mem_of_getElem? (i := 182) rfl)) rfl
theorem tw_fl_RX5_35 : Cond.fieldLink RX5 35 "BellOfLies" "textsRead" "I" ∈ TT := tm (tb_1 (List.mem_of_getElem? (i := 183) rfl)) rfl
theorem tw_fl_RX5_39 : Cond.fieldLink RX5 39 "BellOfLies" "hasImage" "Z" ∈ TT := tm (tb_1 (List.mem_of_getElem? (i := 184) rfl)) rfl
theorem tw_ml_RL_13 : Cond.methodLink RL 13 yX5_count ∈ TT := tm (tb_1 (List.mem_of_getElem? (i := 204) rfl)) rfl
theorem tw_im_X5_count : Cond.instanceMethod yX5_count ∈ TT := tm (tb_1 (List.mem_of_getElem? (i := 205) rfl)) rfl
theorem tw_se_X5_count : Cond.selects RX5 yX5_count yX5_count ∈ TT := tm (tb_1 (List.mem_of_getElem? (i := 206) rfl)) rfl
theorem tw_cd_X5_count : Cond.code yX5_count cX5_count 2 (Option.some Jvm.ClassFile.FieldType.int) ∈ TT := tm (tb_1 (List.mem_of_getElem? (i := 207) rfl)) rfl
theorem tw_ml_RL_18 : Cond.methodLink RL 18 yX5_clock ∈ TT := tm (tb_1 (List.mem_of_getElem? (i := 208) rfl)) rfl
theorem tw_im_X5_clock : Cond.instanceMethod yX5_clock ∈ TT := tm (tb_1 (List.mem_of_getElem? (i := 209) rfl)) rfl
theorem tw_se_X5_clock : Cond.selects RX5 yX5_clock yX5_clock ∈ TT := tm (tb_1 (List.mem_of_getElem? (i := 210) rfl)) rfl
theorem tw_cd_X5_clock : Cond.code yX5_clock cX5_clock 3 (Option.some Jvm.ClassFile.FieldType.int) ∈ TT := tm (tb_1 (List.mem_of_getElem? (i := 211) rfl)) rfl
theorem tw_ml_RX5_81 : Cond.methodLink RX5 81 yX5_isWithin ∈ TT := tm (tb_1 (List.mem_of_getElem? (i := 212) rfl)) rfl
theorem tw_st_X5_isWithin : Cond.static yX5_isWithin ∈ TT := tm (tb_1 (List.mem_of_getElem? (i := 213) rfl)) rfl
theorem tw_cd_X5_isWithin : Cond.code yX5_isWithin cX5_isWithin 3 (Option.some Jvm.ClassFile.FieldType.boolean) ∈ TT := tm (tb_1 (List.mem_of_getElem? (i := 214) rfl)) rfl
theorem tw_ml_RL_22 : Cond.methodLink RL 22 yX5_feed ∈ TT := tm (tb_1 (List.mem_of_getElem? (i := 215) rfl)) rfl
theorem tw_im_X5_feed : Cond.instanceMethod yX5_feed ∈ TT := tm (tb_1 (List.mem_of_getElem? (i := 216) rfl)) rfl
theorem tw_se_X5_feed : Cond.selects RX5 yX5_feed yX5_feed ∈ TT := tm (tb_1 (List.mem_of_getElem? (i := 217) rfl)) rfl
theorem tw_cd_X5_feed : Cond.code yX5_feed cX5_feed 8 (Option.some Jvm.ClassFile.FieldType.int) ∈ TT := tm (tb_1 (List.mem_of_getElem? (i := 218) rfl)) rfl
theorem tw_ml_RX5_85 : Cond.methodLink RX5 85 yX5_isByte ∈ TT := tm (tb_1 (List.mem_of_getElem? (i := 219) rfl)) rfl
theorem tw_st_X5_isByte : Cond.static yX5_isByte ∈ TT := tm (tb_1 (List.mem_of_getElem? (i := 220) rfl)) rfl
theorem tw_cd_X5_isByte : Cond.code yX5_isByte cX5_isByte 1 (Option.some Jvm.ClassFile.FieldType.boolean) ∈ TT := tm (tb_1 (List.mem_of_getElem? (i := 221) rfl)) rfl
theorem tw_ml_RX5_89 : Cond.methodLink RX5 89 yX2_add ∈ TT := tm (tb_1 (List.mem_of_getElem? (i := 222) rfl)) rfl
theorem tw_im_X2_add : Cond.instanceMethod yX2_add ∈ TT := tm (tb_1 (List.mem_of_getElem? (i := 223) rfl)) rfl
theorem tw_se_X2_add : Cond.selects RX2 yX2_add yX2_add ∈ TT := tm (tb_1 (List.mem_of_getElem? (i := 224) rfl)) rfl
theorem tw_cd_X2_add : Cond.code yX2_add cX2_add 2 none ∈ TT := tm (tb_1 (List.mem_of_getElem? (i := 225) rfl)) rfl
theorem tw_ml_RL_27 : Cond.methodLink RL 27 yX5_text ∈ TT := tm (tb_1 (List.mem_of_getElem? (i := 226) rfl)) rfl
theorem tw_im_X5_text : Cond.instanceMethod yX5_text ∈ TT := tm (tb_1 (List.mem_of_getElem? (i := 227) rfl)) rfl
theorem tw_se_X5_text : Cond.selects RX5 yX5_text yX5_text ∈ TT := tm (tb_1 (List.mem_of_getElem? (i := 228) rfl)) rfl
theorem tw_cd_X5_text : Cond.code yX5_text cX5_text 2 (Option.some Jvm.ClassFile.FieldType.int) ∈ TT := tm (tb_1 (List.mem_of_getElem? (i := 229) rfl)) rfl
theorem tw_ml_RX5_93 : Cond.methodLink RX5 93 yX2_readInto ∈ TT := tm (tb_1 (List.mem_of_getElem? (i := 230) rfl)) rfl
theorem tw_im_X2_readInto : Cond.instanceMethod yX2_readInto ∈ TT := tm (tb_1 (List.mem_of_getElem? (i := 231) rfl)) rfl
theorem tw_se_X2_readInto : Cond.selects RX2 yX2_readInto yX2_readInto ∈ TT := tm (tb_1 (List.mem_of_getElem? (i := 232) rfl)) rfl
theorem tw_cd_X2_readInto : Cond.code yX2_readInto cX2_readInto 3 (Option.some Jvm.ClassFile.FieldType.int) ∈ TT := tm (tb_1 (List.mem_of_getElem? (i := 233) rfl)) rfl
theorem tw_ml_RX2_25 : Cond.methodLink RX2 25 yX3_empty ∈ TT := tm (tb_1 (List.mem_of_getElem? (i := 234) rfl)) rfl
theorem tw_ml_RX2_30 : Cond.methodLink RX2 30 yX2_step ∈ TT := tm (tb_1 (List.mem_of_getElem? (i := 235) rfl)) rfl
theorem tw_im_X2_step : Cond.instanceMethod yX2_step ∈ TT := tm (tb_1 (List.mem_of_getElem? (i := 237) rfl)) rfl
theorem tw_cd_X2_step : Cond.code yX2_step cX2_step 2 none ∈ TT := tm (tb_1 (List.mem_of_getElem? (i := 238) rfl)) rfl
theorem tw_ml_RX2_78 : Cond.methodLink RX2 78 yX2_byteAt ∈ TT := tm (tb_1 (List.mem_of_getElem? (i := 239) rfl)) rfl
theorem tw_im_X2_byteAt : Cond.instanceMethod yX2_byteAt ∈ TT := tm (tb_2 (List.mem_of_getElem? (i := 1) rfl)) rfl
theorem tw_cd_X2_byteAt : Cond.code yX2_byteAt cX2_byteAt 2 (Option.some Jvm.ClassFile.FieldType.int) ∈ TT := tm (tb_2 (List.mem_of_getElem? (i := 2) rfl)) rfl
theorem tw_ml_RX2_82 : Cond.methodLink RX2 82 yX2_isLetter ∈ TT := tm (tb_2 (List.mem_of_getElem? (i := 3) rfl)) rfl
theorem tw_st_X2_isLetter : Cond.static yX2_isLetter ∈ TT := tm (tb_2 (List.mem_of_getElem? (i := 4) rfl)) rfl
theorem tw_cd_X2_isLetter : Cond.code yX2_isLetter cX2_isLetter 1 (Option.some Jvm.ClassFile.FieldType.boolean) ∈ TT := tm (tb_2 (List.mem_of_getElem? (i := 5) rfl)) rfl
theorem tw_ml_RX2_85 : Cond.methodLink RX2 85 yX2_takeWord ∈ TT := tm (tb_2 (List.mem_of_getElem? (i := 6) rfl)) rfl
theorem tw_im_X2_takeWord : Cond.instanceMethod yX2_takeWord ∈ TT := tm (tb_2 (List.mem_of_getElem? (i := 8) rfl)) rfl
theorem tw_cd_X2_takeWord : Cond.code yX2_takeWord cX2_takeWord 2 none ∈ TT := tm (tb_2 (List.mem_of_getElem? (i := 9) rfl)) rfl
theorem tw_ml_RX2_97 : Cond.methodLink RX2 97 yX2_wordOf ∈ TT := tm (tb_2 (List.mem_of_getElem? (i := 10) rfl)) rfl
theorem tw_st_X2_wordOf : Cond.static yX2_wordOf ∈ TT := tm (tb_2 (List.mem_of_getElem? (i := 11) rfl)) rfl
theorem tw_cd_X2_wordOf : Cond.code yX2_wordOf cX2_wordOf 1 (Option.some (Jvm.ClassFile.FieldType.object "java/lang/String")) ∈ TT := tm (tb_2 (List.mem_of_getElem? (i := 12) rfl)) rfl
theorem tw_ml_RX2_101 : Cond.methodLink RX2 101 yX2_isWord ∈ TT := tm (tb_2 (List.mem_of_getElem? (i := 25) rfl)) rfl
theorem tw_im_X2_isWord : Cond.instanceMethod yX2_isWord ∈ TT := tm (tb_2 (List.mem_of_getElem? (i := 27) rfl)) rfl
theorem tw_cd_X2_isWord : Cond.code yX2_isWord cX2_isWord 3 (Option.some Jvm.ClassFile.FieldType.boolean) ∈ TT := tm (tb_2 (List.mem_of_getElem? (i := 28) rfl)) rfl
theorem tw_ml_RX2_105 : Cond.methodLink RX2 105 yJ0_length_8abf5 ∈ TT := tm (tb_2 (List.mem_of_getElem? (i := 29) rfl)) rfl
theorem tw_im_J0_length_8abf5 : Cond.instanceMethod yJ0_length_8abf5 ∈ TT := tm (tb_2 (List.mem_of_getElem? (i := 30) rfl)) rfl
theorem tw_se_J0_length_8abf5 : Cond.selects RJ0 yJ0_length_8abf5 yJ0_length_8abf5 ∈ TT := tm (tb_2 (List.mem_of_getElem? (i := 31) rfl)) rfl
theorem tw_cd_J0_length_8abf5 : Cond.code yJ0_length_8abf5 cJ0_length_8abf5 1 (Option.some Jvm.ClassFile.FieldType.int) ∈ TT := tm (tb_2 (List.mem_of_getElem? (i := 32) rfl)) rfl
theorem tw_ml_RJ0_335 : Cond.methodLink RJ0 335 yJ0_coder_7d493 ∈ TT := tm (tb_2 (List.mem_of_getElem? (i := 33) rfl)) rfl
theorem tw_im_J0_coder_7d493 : Cond.instanceMethod yJ0_coder_7d493 ∈ TT := tm (tb_2 (List.mem_of_getElem? (i := 34) rfl)) rfl
theorem tw_se_J0_coder_7d493 : Cond.selects RJ0 yJ0_coder_7d493 yJ0_coder_7d493 ∈ TT := tm (tb_2 (List.mem_of_getElem? (i := 35) rfl)) rfl
theorem tw_cd_J0_coder_7d493 : Cond.code yJ0_coder_7d493 cJ0_coder_7d493 1 (Option.some Jvm.ClassFile.FieldType.byte) ∈ TT := tm (tb_2 (List.mem_of_getElem? (i := 36) rfl)) rfl
theorem tw_fl_RJ0_38 : Cond.fieldLink RJ0 38 "java/lang/String" "COMPACT_STRINGS" "Z" ∈ TT := tm (tb_2 (List.mem_of_getElem? (i := 37) rfl)) rfl
theorem tw_ml_RX2_111 : Cond.methodLink RX2 111 yJ0_charAt_5068e ∈ TT := tm (tb_2 (List.mem_of_getElem? (i := 39) rfl)) rfl
theorem tw_im_J0_charAt_5068e : Cond.instanceMethod yJ0_charAt_5068e ∈ TT := tm (tb_2 (List.mem_of_getElem? (i := 40) rfl)) rfl
theorem tw_se_J0_charAt_5068e : Cond.selects RJ0 yJ0_charAt_5068e yJ0_charAt_5068e ∈ TT := tm (tb_2 (List.mem_of_getElem? (i := 41) rfl)) rfl
theorem tw_cd_J0_charAt_5068e : Cond.code yJ0_charAt_5068e cJ0_charAt_5068e 2 (Option.some Jvm.ClassFile.FieldType.char) ∈ TT := tm (tb_2 (List.mem_of_getElem? (i := 42) rfl)) rfl
theorem tw_ml_RJ0_492 : Cond.methodLink RJ0 492 yJ0_isLatin1_aae02 ∈ TT := tm (tb_2 (List.mem_of_getElem? (i := 43) rfl)) rfl
theorem tw_im_J0_isLatin1_aae02 : Cond.instanceMethod yJ0_isLatin1_aae02 ∈ TT := tm (tb_2 (List.mem_of_getElem? (i := 44) rfl)) rfl
theorem tw_se_J0_isLatin1_aae02 : Cond.selects RJ0 yJ0_isLatin1_aae02 yJ0_isLatin1_aae02 ∈ TT := tm (tb_2 (List.mem_of_getElem? (i := 45) rfl)) rfl
theorem tw_cd_J0_isLatin1_aae02 : Cond.code yJ0_isLatin1_aae02 cJ0_isLatin1_aae02 1 (Option.some Jvm.ClassFile.FieldType.boolean) ∈ TT := tm (tb_2 (List.mem_of_getElem? (i := 46) rfl)) rfl
theorem tw_ml_RJ0_495 : Cond.methodLink RJ0 495 yJ1_charAt_3b067 ∈ TT := tm (tb_2 (List.mem_of_getElem? (i := 47) rfl)) rfl
theorem tw_st_J1_charAt_3b067 : Cond.static yJ1_charAt_3b067 ∈ TT := tm (tb_2 (List.mem_of_getElem? (i := 48) rfl)) rfl
theorem tw_cd_J1_charAt_3b067 : Cond.code yJ1_charAt_3b067 cJ1_charAt_3b067 2 (Option.some Jvm.ClassFile.FieldType.char) ∈ TT := tm (tb_2 (List.mem_of_getElem? (i := 49) rfl)) rfl
theorem tw_ml_RJ1_9 : Cond.methodLink RJ1 9 yJ0_checkIndex_df160 ∈ TT := tm (tb_2 (List.mem_of_getElem? (i := 50) rfl)) rfl
theorem tw_st_J0_checkIndex_df160 : Cond.static yJ0_checkIndex_df160 ∈ TT := tm (tb_2 (List.mem_of_getElem? (i := 51) rfl)) rfl
theorem tw_cd_J0_checkIndex_df160 : Cond.code yJ0_checkIndex_df160 cJ0_checkIndex_df160 2 none ∈ TT := tm (tb_2 (List.mem_of_getElem? (i := 52) rfl)) rfl
theorem tw_fl_RJ0_1053 : Cond.fieldLink RJ0 1053 "jdk/internal/util/Preconditions" "SIOOBE_FORMATTER" "Ljava/util/function/BiFunction;" ∈ TT := tm (tb_2 (List.mem_of_getElem? (i := 53) rfl)) rfl
theorem tw_ml_RJ0_1059 : Cond.methodLink RJ0 1059 yJ3_checkIndex_8e157 ∈ TT := tm (tb_2 (List.mem_of_getElem? (i := 55) rfl)) rfl
theorem tw_st_J3_checkIndex_8e157 : Cond.static yJ3_checkIndex_8e157 ∈ TT := tm (tb_2 (List.mem_of_getElem? (i := 56) rfl)) rfl
theorem tw_cd_J3_checkIndex_8e157 : Cond.code yJ3_checkIndex_8e157 cJ3_checkIndex_8e157 3 (Option.some Jvm.ClassFile.FieldType.int) ∈ TT := tm (tb_2 (List.mem_of_getElem? (i := 57) rfl)) rfl
theorem tw_ml_RJ0_498 : Cond.methodLink RJ0 498 yJ2_charAt_3b067 ∈ TT := tm (tb_2 (List.mem_of_getElem? (i := 58) rfl)) rfl
theorem tw_st_J2_charAt_3b067 : Cond.static yJ2_charAt_3b067 ∈ TT := tm (tb_2 (List.mem_of_getElem? (i := 59) rfl)) rfl
theorem tw_cd_J2_charAt_3b067 : Cond.code yJ2_charAt_3b067 cJ2_charAt_3b067 2 (Option.some Jvm.ClassFile.FieldType.char) ∈ TT := tm (tb_2 (List.mem_of_getElem? (i := 60) rfl)) rfl
theorem tw_ml_RJ2_67 : Cond.methodLink RJ2 67 yJ2_checkIndex_2214a ∈ TT := tm (tb_2 (List.mem_of_getElem? (i := 61) rfl)) rfl
theorem tw_st_J2_checkIndex_2214a : Cond.static yJ2_checkIndex_2214a ∈ TT := tm (tb_2 (List.mem_of_getElem? (i := 62) rfl)) rfl
theorem tw_cd_J2_checkIndex_2214a : Cond.code yJ2_checkIndex_2214a cJ2_checkIndex_2214a 2 none ∈ TT := tm (tb_2 (List.mem_of_getElem? (i := 63) rfl)) rfl
theorem tw_ml_RJ2_48 : Cond.methodLink RJ2 48 yJ2_length_9d52b ∈ TT := tm (tb_2 (List.mem_of_getElem? (i := 64) rfl)) rfl
theorem tw_st_J2_length_9d52b : Cond.static yJ2_length_9d52b ∈ TT := tm (tb_2 (List.mem_of_getElem? (i := 65) rfl)) rfl
theorem tw_cd_J2_length_9d52b : Cond.code yJ2_length_9d52b cJ2_length_9d52b 1 (Option.some Jvm.ClassFile.FieldType.int) ∈ TT := tm (tb_2 (List.mem_of_getElem? (i := 66) rfl)) rfl
theorem tw_ml_RJ2_414 : Cond.methodLink RJ2 414 yJ0_checkIndex_df160 ∈ TT := tm (tb_2 (List.mem_of_getElem? (i := 67) rfl)) rfl
theorem tw_ml_RJ2_71 : Cond.methodLink RJ2 71 yJ2_getChar_3b067 ∈ TT := tm (tb_2 (List.mem_of_getElem? (i := 68) rfl)) rfl
theorem tw_st_J2_getChar_3b067 : Cond.static yJ2_getChar_3b067 ∈ TT := tm (tb_2 (List.mem_of_getElem? (i := 69) rfl)) rfl
theorem tw_cd_J2_getChar_3b067 : Cond.code yJ2_getChar_3b067 cJ2_getChar_3b067 2 (Option.some Jvm.ClassFile.FieldType.char) ∈ TT := tm (tb_2 (List.mem_of_getElem? (i := 70) rfl)) rfl
theorem tw_fl_RJ2_44 : Cond.fieldLink RJ2 44 "java/lang/StringUTF16" "$assertionsDisabled" "Z" ∈ TT := tm (tb_2 (List.mem_of_getElem? (i := 71) rfl)) rfl
theorem tw_fl_RJ2_59 : Cond.fieldLink RJ2 59 "java/lang/StringUTF16" "HI_BYTE_SHIFT" "I" ∈ TT := tm (tb_2 (List.mem_of_getElem? (i := 73) rfl)) rfl
theorem tw_fl_RJ2_63 : Cond.fieldLink RJ2 63 "java/lang/StringUTF16" "LO_BYTE_SHIFT" "I" ∈ TT := tm (tb_2 (List.mem_of_getElem? (i := 75) rfl)) rfl
theorem tw_ml_RX2_88 : Cond.methodLink RX2 88 yX2_isDigit ∈ TT := tm (tb_2 (List.mem_of_getElem? (i := 77) rfl)) rfl
theorem tw_st_X2_isDigit : Cond.static yX2_isDigit ∈ TT := tm (tb_2 (List.mem_of_getElem? (i := 78) rfl)) rfl
theorem tw_cd_X2_isDigit : Cond.code yX2_isDigit cX2_isDigit 1 (Option.some Jvm.ClassFile.FieldType.boolean) ∈ TT := tm (tb_2 (List.mem_of_getElem? (i := 79) rfl)) rfl
theorem tw_ml_RX2_91 : Cond.methodLink RX2 91 yX2_takeNumber ∈ TT := tm (tb_2 (List.mem_of_getElem? (i := 80) rfl)) rfl
theorem tw_im_X2_takeNumber : Cond.instanceMethod yX2_takeNumber ∈ TT := tm (tb_2 (List.mem_of_getElem? (i := 82) rfl)) rfl
theorem tw_cd_X2_takeNumber : Cond.code yX2_takeNumber cX2_takeNumber 1 none ∈ TT := tm (tb_2 (List.mem_of_getElem? (i := 83) rfl)) rfl
theorem tw_ml_RX2_94 : Cond.methodLink RX2 94 yX2_isSign ∈ TT := tm (tb_2 (List.mem_of_getElem? (i := 84) rfl)) rfl
theorem tw_st_X2_isSign : Cond.static yX2_isSign ∈ TT := tm (tb_2 (List.mem_of_getElem? (i := 85) rfl)) rfl
theorem tw_cd_X2_isSign : Cond.code yX2_isSign cX2_isSign 1 (Option.some Jvm.ClassFile.FieldType.boolean) ∈ TT := tm (tb_2 (List.mem_of_getElem? (i := 86) rfl)) rfl
theorem tw_ml_RX2_33 : Cond.methodLink RX2 33 yX2_expect ∈ TT := tm (tb_2 (List.mem_of_getElem? (i := 87) rfl)) rfl
theorem tw_im_X2_expect : Cond.instanceMethod yX2_expect ∈ TT := tm (tb_2 (List.mem_of_getElem? (i := 89) rfl)) rfl
theorem tw_cd_X2_expect : Cond.code yX2_expect cX2_expect 2 none ∈ TT := tm (tb_2 (List.mem_of_getElem? (i := 90) rfl)) rfl
theorem tw_ml_RX2_47 : Cond.methodLink RX2 47 yX2_fail ∈ TT := tm (tb_2 (List.mem_of_getElem? (i := 91) rfl)) rfl
theorem tw_im_X2_fail : Cond.instanceMethod yX2_fail ∈ TT := tm (tb_2 (List.mem_of_getElem? (i := 93) rfl)) rfl
theorem tw_cd_X2_fail : Cond.code yX2_fail cX2_fail 1 none ∈ TT := tm (tb_2 (List.mem_of_getElem? (i := 94) rfl)) rfl
theorem tw_ml_RX2_37 : Cond.methodLink RX2 37 yX2_readEither ∈ TT := tm (tb_2 (List.mem_of_getElem? (i := 95) rfl)) rfl
theorem tw_im_X2_readEither : Cond.instanceMethod yX2_readEither ∈ TT := tm (tb_2 (List.mem_of_getElem? (i := 97) rfl)) rfl
theorem tw_cd_X2_readEither : Cond.code yX2_readEither cX2_readEither 4 none ∈ TT := tm (tb_2 (List.mem_of_getElem? (i := 98) rfl)) rfl
theorem tw_ml_RX2_53 : Cond.methodLink RX2 53 yX2_readBoth ∈ TT := tm (tb_2 (List.mem_of_getElem? (i := 99) rfl)) rfl
theorem tw_im_X2_readBoth : Cond.instanceMethod yX2_readBoth ∈ TT := tm (tb_2 (List.mem_of_getElem? (i := 101) rfl)) rfl
theorem tw_cd_X2_readBoth : Cond.code yX2_readBoth cX2_readBoth 4 none ∈ TT := tm (tb_2 (List.mem_of_getElem? (i := 102) rfl)) rfl
theorem tw_ml_RX2_59 : Cond.methodLink RX2 59 yX2_readNot ∈ TT := tm (tb_2 (List.mem_of_getElem? (i := 103) rfl)) rfl
theorem tw_im_X2_readNot : Cond.instanceMethod yX2_readNot ∈ TT := tm (tb_2 (List.mem_of_getElem? (i := 105) rfl)) rfl
theorem tw_cd_X2_readNot : Cond.code yX2_readNot cX2_readNot 4 none ∈ TT := tm (tb_2 (List.mem_of_getElem? (i := 106) rfl)) rfl
theorem tw_ml_RX2_62 : Cond.methodLink RX2 62 yX2_mayOpen ∈ TT := tm (tb_2 (List.mem_of_getElem? (i := 107) rfl)) rfl
theorem tw_im_X2_mayOpen : Cond.instanceMethod yX2_mayOpen ∈ TT := tm (tb_2 (List.mem_of_getElem? (i := 109) rfl)) rfl
theorem tw_cd_X2_mayOpen : Cond.code yX2_mayOpen cX2_mayOpen 2 (Option.some Jvm.ClassFile.FieldType.boolean) ∈ TT := tm (tb_2 (List.mem_of_getElem? (i := 110) rfl)) rfl
theorem tw_ml_RX2_56 : Cond.methodLink RX2 56 yX3_add ∈ TT := tm (tb_2 (List.mem_of_getElem? (i := 111) rfl)) rfl
theorem tw_ml_RX2_66 : Cond.methodLink RX2 66 yX2_readSum ∈ TT := tm (tb_2 (List.mem_of_getElem? (i := 112) rfl)) rfl
theorem tw_im_X2_readSum : Cond.instanceMethod yX2_readSum ∈ TT := tm (tb_2 (List.mem_of_getElem? (i := 114) rfl)) rfl
theorem tw_cd_X2_readSum : Cond.code yX2_readSum cX2_readSum 5 none ∈ TT := tm (tb_2 (List.mem_of_getElem? (i := 115) rfl)) rfl
theorem tw_ml_RX2_69 : Cond.methodLink RX2 69 yX2_readTerm ∈ TT := tm (tb_2 (List.mem_of_getElem? (i := 116) rfl)) rfl
theorem tw_im_X2_readTerm : Cond.instanceMethod yX2_readTerm ∈ TT := tm (tb_2 (List.mem_of_getElem? (i := 118) rfl)) rfl
theorem tw_cd_X2_readTerm : Cond.code yX2_readTerm cX2_readTerm 4 none ∈ TT := tm (tb_2 (List.mem_of_getElem? (i := 119) rfl)) rfl
theorem tw_ml_RX2_72 : Cond.methodLink RX2 72 yX2_readOne ∈ TT := tm (tb_2 (List.mem_of_getElem? (i := 120) rfl)) rfl
theorem tw_im_X2_readOne : Cond.instanceMethod yX2_readOne ∈ TT := tm (tb_2 (List.mem_of_getElem? (i := 122) rfl)) rfl
theorem tw_cd_X2_readOne : Cond.code yX2_readOne cX2_readOne 3 none ∈ TT := tm (tb_2 (List.mem_of_getElem? (i := 123) rfl)) rfl
theorem tw_ml_RX2_41 : Cond.methodLink RX2 41 yX3_endPart ∈ TT := tm (tb_2 (List.mem_of_getElem? (i := 124) rfl)) rfl
theorem tw_ac_2_125 : ((Jvm.Cond.arrayClass Jvm.ClassFile.FieldType.byte)) ∈ TT := tm (tb_2 (List.mem_of_getElem? (i := 125) rfl)) rfl
theorem tw_ml_RL_32 : Cond.methodLink RL 32 yX5_force ∈ TT := tm (tb_2 (List.mem_of_getElem? (i := 126) rfl)) rfl
theorem tw_im_X5_force : Cond.instanceMethod yX5_force ∈ TT := tm (tb_2 (List.mem_of_getElem? (i := 127) rfl)) rfl
theorem tw_se_X5_force : Cond.selects RX5 yX5_force yX5_force ∈ TT := tm (tb_2 (List.mem_of_getElem? (i := 128) rfl)) rfl
theorem tw_cd_X5_force : Cond.code yX5_force cX5_force 3 (Option.some Jvm.ClassFile.FieldType.int) ∈ TT := tm (tb_2 (List.mem_of_getElem? (i := 129) rfl)) rfl
theorem tw_ml_RX5_97 : Cond.methodLink RX5 97 yX4_obey ∈ TT := tm (tb_2 (List.mem_of_getElem? (i := 130) rfl)) rfl
theorem tw_im_X4_obey : Cond.instanceMethod yX4_obey ∈ TT := tm (tb_2 (List.mem_of_getElem? (i := 131) rfl)) rfl
theorem tw_se_X4_obey : Cond.selects RX4 yX4_obey yX4_obey ∈ TT := tm (tb_2 (List.mem_of_getElem? (i := 132) rfl)) rfl
theorem tw_cd_X4_obey : Cond.code yX4_obey cX4_obey 3 none ∈ TT := tm (tb_2 (List.mem_of_getElem? (i := 133) rfl)) rfl
theorem tw_ml_RL_36 : Cond.methodLink RL 36 yX5_asks ∈ TT := tm (tb_2 (List.mem_of_getElem? (i := 134) rfl)) rfl
theorem tw_im_X5_asks : Cond.instanceMethod yX5_asks ∈ TT := tm (tb_2 (List.mem_of_getElem? (i := 135) rfl)) rfl
theorem tw_se_X5_asks : Cond.selects RX5 yX5_asks yX5_asks ∈ TT := tm (tb_2 (List.mem_of_getElem? (i := 136) rfl)) rfl
theorem tw_cd_X5_asks : Cond.code yX5_asks cX5_asks 3 (Option.some Jvm.ClassFile.FieldType.int) ∈ TT := tm (tb_2 (List.mem_of_getElem? (i := 137) rfl)) rfl
theorem tw_ml_RX5_101 : Cond.methodLink RX5 101 yX4_has ∈ TT := tm (tb_2 (List.mem_of_getElem? (i := 138) rfl)) rfl
theorem tw_im_X4_has : Cond.instanceMethod yX4_has ∈ TT := tm (tb_2 (List.mem_of_getElem? (i := 139) rfl)) rfl
theorem tw_se_X4_has : Cond.selects RX4 yX4_has yX4_has ∈ TT := tm (tb_2 (List.mem_of_getElem? (i := 140) rfl)) rfl
theorem tw_cd_X4_has : Cond.code yX4_has cX4_has 2 (Option.some Jvm.ClassFile.FieldType.boolean) ∈ TT := tm (tb_2 (List.mem_of_getElem? (i := 141) rfl)) rfl
theorem tw_ml_RX5_108 : Cond.methodLink RX5 108 yX3_says ∈ TT := tm (tb_2 (List.mem_of_getElem? (i := 142) rfl)) rfl
theorem tw_im_X3_says : Cond.instanceMethod yX3_says ∈ TT := tm (tb_2 (List.mem_of_getElem? (i := 143) rfl)) rfl
theorem tw_se_X3_says : Cond.selects RX3 yX3_says yX3_says ∈ TT := tm (tb_2 (List.mem_of_getElem? (i := 144) rfl)) rfl
theorem tw_cd_X3_says : Cond.code yX3_says cX3_says 8 (Option.some Jvm.ClassFile.FieldType.int) ∈ TT := tm (tb_2 (List.mem_of_getElem? (i := 145) rfl)) rfl
theorem tw_ml_RX3_35 : Cond.methodLink RX3 35 yX4_has ∈ TT := tm (tb_2 (List.mem_of_getElem? (i := 146) rfl)) rfl
theorem tw_ml_RX3_41 : Cond.methodLink RX3 41 yX4_named ∈ TT := tm (tb_2 (List.mem_of_getElem? (i := 147) rfl)) rfl
theorem tw_im_X4_named : Cond.instanceMethod yX4_named ∈ TT := tm (tb_2 (List.mem_of_getElem? (i := 148) rfl)) rfl
theorem tw_se_X4_named : Cond.selects RX4 yX4_named yX4_named ∈ TT := tm (tb_2 (List.mem_of_getElem? (i := 149) rfl)) rfl
theorem tw_cd_X4_named : Cond.code yX4_named cX4_named 3 (Option.some Jvm.ClassFile.FieldType.int) ∈ TT := tm (tb_2 (List.mem_of_getElem? (i := 150) rfl)) rfl
theorem tw_ml_RX4_59 : Cond.methodLink RX4 59 yX4_has ∈ TT := tm (tb_2 (List.mem_of_getElem? (i := 151) rfl)) rfl
theorem tw_ml_RX4_70 : Cond.methodLink RX4 70 Lib.Math.min.name ∈ TT := tm (tb_2 (List.mem_of_getElem? (i := 152) rfl)) rfl
theorem tw_st_Mmin : Cond.static Lib.Math.min.name ∈ TT := tm (tb_2 (List.mem_of_getElem? (i := 153) rfl)) rfl
theorem tw_cd_Mmin : Cond.code Lib.Math.min.name Lib.Math.min.code 2 (some .int) ∈ TT := tm (tb_2 (List.mem_of_getElem? (i := 154) rfl)) rfl
theorem tw_ml_RX3_45 : Cond.methodLink RX3 45 yX3_joined ∈ TT := tm (tb_2 (List.mem_of_getElem? (i := 155) rfl)) rfl
theorem tw_st_X3_joined : Cond.static yX3_joined ∈ TT := tm (tb_2 (List.mem_of_getElem? (i := 156) rfl)) rfl
theorem tw_cd_X3_joined : Cond.code yX3_joined cX3_joined 3 (Option.some Jvm.ClassFile.FieldType.int) ∈ TT := tm (tb_2 (List.mem_of_getElem? (i := 157) rfl)) rfl
theorem tw_ml_RX3_49 : Cond.methodLink RX3 49 Lib.Math.min.name ∈ TT := tm (tb_2 (List.mem_of_getElem? (i := 158) rfl)) rfl
theorem tw_ml_RX3_54 : Cond.methodLink RX3 54 Lib.Math.max.name ∈ TT := tm (tb_2 (List.mem_of_getElem? (i := 159) rfl)) rfl
theorem tw_st_Mmax : Cond.static Lib.Math.max.name ∈ TT := tm (tb_2 (List.mem_of_getElem? (i := 160) rfl)) rfl
theorem tw_cd_Mmax : Cond.code Lib.Math.max.name Lib.Math.max.code 2 (some .int) ∈ TT := tm (tb_2 (List.mem_of_getElem? (i := 161) rfl)) rfl
theorem tw_ml_RL_41 : Cond.methodLink RL 41 yX5_person ∈ TT := tm (tb_2 (List.mem_of_getElem? (i := 162) rfl)) rfl
theorem tw_im_X5_person : Cond.instanceMethod yX5_person ∈ TT := tm (tb_2 (List.mem_of_getElem? (i := 163) rfl)) rfl
theorem tw_se_X5_person : Cond.selects RX5 yX5_person yX5_person ∈ TT := tm (tb_2 (List.mem_of_getElem? (i := 164) rfl)) rfl
theorem tw_cd_X5_person : Cond.code yX5_person cX5_person 4 (Option.some Jvm.ClassFile.FieldType.int) ∈ TT := tm (tb_2 (List.mem_of_getElem? (i := 165) rfl)) rfl
theorem tw_ml_RX5_112 : Cond.methodLink RX5 112 yX4_join ∈ TT := tm (tb_2 (List.mem_of_getElem? (i := 166) rfl)) rfl
theorem tw_im_X4_join : Cond.instanceMethod yX4_join ∈ TT := tm (tb_2 (List.mem_of_getElem? (i := 167) rfl)) rfl
theorem tw_se_X4_join : Cond.selects RX4 yX4_join yX4_join ∈ TT := tm (tb_2 (List.mem_of_getElem? (i := 168) rfl)) rfl
theorem tw_cd_X4_join : Cond.code yX4_join cX4_join 5 (Option.some Jvm.ClassFile.FieldType.int) ∈ TT := tm (tb_2 (List.mem_of_getElem? (i := 169) rfl)) rfl
theorem tw_co_RX4_58 : Cond.constant RX4 58 (16777215) ∈ TT := tm (tb_2 (List.mem_of_getElem? (i := 171) rfl)) rfl
theorem tw_ml_RL_46 : Cond.methodLink RL 46 yX5_put ∈ TT := tm (tb_2 (List.mem_of_getElem? (i := 172) rfl)) rfl
theorem tw_im_X5_put : Cond.instanceMethod yX5_put ∈ TT := tm (tb_2 (List.mem_of_getElem? (i := 173) rfl)) rfl
theorem tw_se_X5_put : Cond.selects RX5 yX5_put yX5_put ∈ TT := tm (tb_2 (List.mem_of_getElem? (i := 174) rfl)) rfl
theorem tw_cd_X5_put : Cond.code yX5_put cX5_put 6 (Option.some Jvm.ClassFile.FieldType.int) ∈ TT := tm (tb_2 (List.mem_of_getElem? (i := 175) rfl)) rfl
theorem tw_ml_RX5_116 : Cond.methodLink RX5 116 yX5_mostOf ∈ TT := tm (tb_2 (List.mem_of_getElem? (i := 176) rfl)) rfl
theorem tw_st_X5_mostOf : Cond.static yX5_mostOf ∈ TT := tm (tb_2 (List.mem_of_getElem? (i := 177) rfl)) rfl
theorem tw_cd_X5_mostOf : Cond.code yX5_mostOf cX5_mostOf 1 (Option.some Jvm.ClassFile.FieldType.int) ∈ TT := tm (tb_2 (List.mem_of_getElem? (i := 178) rfl)) rfl
theorem tw_co_RX5_257 : Cond.constant RX5 257 (16777215) ∈ TT := tm (tb_2 (List.mem_of_getElem? (i := 179) rfl)) rfl
theorem tw_ml_RX5_120 : Cond.methodLink RX5 120 yX4_known ∈ TT := tm (tb_2 (List.mem_of_getElem? (i := 180) rfl)) rfl
theorem tw_im_X4_known : Cond.instanceMethod yX4_known ∈ TT := tm (tb_2 (List.mem_of_getElem? (i := 181) rfl)) rfl
theorem tw_se_X4_known : Cond.selects RX4 yX4_known yX4_known ∈ TT := tm (tb_2 (List.mem_of_getElem? (i := 182) rfl)) rfl
theorem tw_cd_X4_known : Cond.code yX4_known cX4_known 3 (Option.some Jvm.ClassFile.FieldType.int) ∈ TT := tm (tb_2 (List.mem_of_getElem? (i := 183) rfl)) rfl
theorem tw_ml_RX4_63 : Cond.methodLink RX4 63 yX4_isVowed ∈ TT := tm (tb_2 (List.mem_of_getElem? (i := 184) rfl)) rfl
theorem tw_im_X4_isVowed : Cond.instanceMethod yX4_isVowed ∈ TT := tm (tb_2 (List.mem_of_getElem? (i := 185) rfl)) rfl
theorem tw_se_X4_isVowed : Cond.selects RX4 yX4_isVowed yX4_isVowed ∈ TT := tm (tb_2 (List.mem_of_getElem? (i := 186) rfl)) rfl
theorem tw_cd_X4_isVowed : Cond.code yX4_isVowed cX4_isVowed 2 (Option.some Jvm.ClassFile.FieldType.boolean) ∈ TT := tm (tb_2 (List.mem_of_getElem? (i := 187) rfl)) rfl
theorem tw_ml_RX5_124 : Cond.methodLink RX5 124 yX4_change ∈ TT := tm (tb_2 (List.mem_of_getElem? (i := 188) rfl)) rfl
theorem tw_im_X4_change : Cond.instanceMethod yX4_change ∈ TT := tm (tb_2 (List.mem_of_getElem? (i := 189) rfl)) rfl
theorem tw_se_X4_change : Cond.selects RX4 yX4_change yX4_change ∈ TT := tm (tb_2 (List.mem_of_getElem? (i := 190) rfl)) rfl
theorem tw_cd_X4_change : Cond.code yX4_change cX4_change 4 none ∈ TT := tm (tb_2 (List.mem_of_getElem? (i := 191) rfl)) rfl
theorem tw_ml_RX4_66 : Cond.methodLink RX4 66 yX4_turnVow ∈ TT := tm (tb_2 (List.mem_of_getElem? (i := 192) rfl)) rfl
theorem tw_im_X4_turnVow : Cond.instanceMethod yX4_turnVow ∈ TT := tm (tb_2 (List.mem_of_getElem? (i := 193) rfl)) rfl
theorem tw_se_X4_turnVow : Cond.selects RX4 yX4_turnVow yX4_turnVow ∈ TT := tm (tb_2 (List.mem_of_getElem? (i := 194) rfl)) rfl
theorem tw_cd_X4_turnVow : Cond.code yX4_turnVow cX4_turnVow 2 none ∈ TT := tm (tb_2 (List.mem_of_getElem? (i := 195) rfl)) rfl
theorem tw_ml_RL_50 : Cond.methodLink RL 50 yX5_tells ∈ TT := tm (tb_2 (List.mem_of_getElem? (i := 196) rfl)) rfl
theorem tw_im_X5_tells : Cond.instanceMethod yX5_tells ∈ TT := tm (tb_2 (List.mem_of_getElem? (i := 197) rfl)) rfl
theorem tw_se_X5_tells : Cond.selects RX5 yX5_tells yX5_tells ∈ TT := tm (tb_2 (List.mem_of_getElem? (i := 198) rfl)) rfl
theorem tw_cd_X5_tells : Cond.code yX5_tells cX5_tells 3 (Option.some Jvm.ClassFile.FieldType.int) ∈ TT := tm (tb_2 (List.mem_of_getElem? (i := 199) rfl)) rfl
theorem tw_ml_RX5_135 : Cond.methodLink RX5 135 yX4_isLying ∈ TT := tm (tb_2 (List.mem_of_getElem? (i := 200) rfl)) rfl
theorem tw_im_X4_isLying : Cond.instanceMethod yX4_isLying ∈ TT := tm (tb_2 (List.mem_of_getElem? (i := 201) rfl)) rfl
theorem tw_se_X4_isLying : Cond.selects RX4 yX4_isLying yX4_isLying ∈ TT := tm (tb_2 (List.mem_of_getElem? (i := 202) rfl)) rfl
theorem tw_cd_X4_isLying : Cond.code yX4_isLying cX4_isLying 2 (Option.some Jvm.ClassFile.FieldType.boolean) ∈ TT := tm (tb_2 (List.mem_of_getElem? (i := 203) rfl)) rfl
theorem tw_ml_RX4_79 : Cond.methodLink RX4 79 yX4_isLoversHour ∈ TT := tm (tb_2 (List.mem_of_getElem? (i := 204) rfl)) rfl
theorem tw_im_X4_isLoversHour : Cond.instanceMethod yX4_isLoversHour ∈ TT := tm (tb_2 (List.mem_of_getElem? (i := 205) rfl)) rfl
theorem tw_se_X4_isLoversHour : Cond.selects RX4 yX4_isLoversHour yX4_isLoversHour ∈ TT := tm (tb_2 (List.mem_of_getElem? (i := 206) rfl)) rfl
theorem tw_cd_X4_isLoversHour : Cond.code yX4_isLoversHour cX4_isLoversHour 2 (Option.some Jvm.ClassFile.FieldType.boolean) ∈ TT := tm (tb_2 (List.mem_of_getElem? (i := 207) rfl)) rfl
theorem tw_ml_RX4_76 : Cond.methodLink RX4 76 yX4_isOwnHour ∈ TT := tm (tb_2 (List.mem_of_getElem? (i := 208) rfl)) rfl
theorem tw_im_X4_isOwnHour : Cond.instanceMethod yX4_isOwnHour ∈ TT := tm (tb_2 (List.mem_of_getElem? (i := 209) rfl)) rfl
theorem tw_se_X4_isOwnHour : Cond.selects RX4 yX4_isOwnHour yX4_isOwnHour ∈ TT := tm (tb_2 (List.mem_of_getElem? (i := 210) rfl)) rfl
theorem tw_cd_X4_isOwnHour : Cond.code yX4_isOwnHour cX4_isOwnHour 2 (Option.some Jvm.ClassFile.FieldType.boolean) ∈ TT := tm (tb_2 (List.mem_of_getElem? (i := 211) rfl)) rfl
theorem tw_ml_RX4_82 : Cond.methodLink RX4 82 yX3_says ∈ TT := tm (tb_2 (List.mem_of_getElem? (i := 212) rfl)) rfl
theorem tw_ml_RX5_138 : Cond.methodLink RX5 138 yX4_costOf ∈ TT := tm (tb_2 (List.mem_of_getElem? (i := 213) rfl)) rfl
theorem tw_im_X4_costOf : Cond.instanceMethod yX4_costOf ∈ TT := tm (tb_2 (List.mem_of_getElem? (i := 214) rfl)) rfl
theorem tw_se_X4_costOf : Cond.selects RX4 yX4_costOf yX4_costOf ∈ TT := tm (tb_2 (List.mem_of_getElem? (i := 215) rfl)) rfl
theorem tw_cd_X4_costOf : Cond.code yX4_costOf cX4_costOf 2 (Option.some Jvm.ClassFile.FieldType.int) ∈ TT := tm (tb_2 (List.mem_of_getElem? (i := 216) rfl)) rfl
theorem tw_ml_RX5_141 : Cond.methodLink RX5 141 yX4_strokesOf ∈ TT := tm (tb_2 (List.mem_of_getElem? (i := 217) rfl)) rfl
theorem tw_im_X4_strokesOf : Cond.instanceMethod yX4_strokesOf ∈ TT := tm (tb_2 (List.mem_of_getElem? (i := 218) rfl)) rfl
theorem tw_se_X4_strokesOf : Cond.selects RX4 yX4_strokesOf yX4_strokesOf ∈ TT := tm (tb_2 (List.mem_of_getElem? (i := 219) rfl)) rfl
theorem tw_cd_X4_strokesOf : Cond.code yX4_strokesOf cX4_strokesOf 2 (Option.some Jvm.ClassFile.FieldType.int) ∈ TT := tm (tb_2 (List.mem_of_getElem? (i := 220) rfl)) rfl
theorem tw_ml_RL_54 : Cond.methodLink RL 54 yX5_bell ∈ TT := tm (tb_2 (List.mem_of_getElem? (i := 221) rfl)) rfl
theorem tw_im_X5_bell : Cond.instanceMethod yX5_bell ∈ TT := tm (tb_2 (List.mem_of_getElem? (i := 222) rfl)) rfl
theorem tw_se_X5_bell : Cond.selects RX5 yX5_bell yX5_bell ∈ TT := tm (tb_2 (List.mem_of_getElem? (i := 223) rfl)) rfl
theorem tw_cd_X5_bell : Cond.code yX5_bell cX5_bell 2 (Option.some Jvm.ClassFile.FieldType.int) ∈ TT := tm (tb_2 (List.mem_of_getElem? (i := 224) rfl)) rfl
theorem tw_ml_RX5_144 : Cond.methodLink RX5 144 yX4_liars ∈ TT := tm (tb_2 (List.mem_of_getElem? (i := 225) rfl)) rfl
theorem tw_im_X4_liars : Cond.instanceMethod yX4_liars ∈ TT := tm (tb_2 (List.mem_of_getElem? (i := 226) rfl)) rfl
theorem tw_se_X4_liars : Cond.selects RX4 yX4_liars yX4_liars ∈ TT := tm (tb_2 (List.mem_of_getElem? (i := 227) rfl)) rfl
theorem tw_cd_X4_liars : Cond.code yX4_liars cX4_liars 3 (Option.some Jvm.ClassFile.FieldType.int) ∈ TT := tm (tb_2 (List.mem_of_getElem? (i := 228) rfl)) rfl
theorem tw_ml_RX4_88 : Cond.methodLink RX4 88 yX4_isLying ∈ TT := tm (tb_2 (List.mem_of_getElem? (i := 229) rfl)) rfl
theorem tw_ml_RX5_148 : Cond.methodLink RX5 148 yX4_strikesOf ∈ TT := tm (tb_2 (List.mem_of_getElem? (i := 230) rfl)) rfl
theorem tw_im_X4_strikesOf : Cond.instanceMethod yX4_strikesOf ∈ TT := tm (tb_2 (List.mem_of_getElem? (i := 231) rfl)) rfl
theorem tw_se_X4_strikesOf : Cond.selects RX4 yX4_strikesOf yX4_strikesOf ∈ TT := tm (tb_2 (List.mem_of_getElem? (i := 232) rfl)) rfl
theorem tw_cd_X4_strikesOf : Cond.code yX4_strikesOf cX4_strikesOf 4 (Option.some Jvm.ClassFile.FieldType.int) ∈ TT := tm (tb_2 (List.mem_of_getElem? (i := 233) rfl)) rfl
theorem tw_ml_RX4_91 : Cond.methodLink RX4 91 yX4_strokesOf ∈ TT := tm (tb_2 (List.mem_of_getElem? (i := 234) rfl)) rfl
theorem tw_ml_RL_58 : Cond.methodLink RL 58 yX5_strike ∈ TT := tm (tb_2 (List.mem_of_getElem? (i := 235) rfl)) rfl
theorem tw_im_X5_strike : Cond.instanceMethod yX5_strike ∈ TT := tm (tb_2 (List.mem_of_getElem? (i := 236) rfl)) rfl
theorem tw_se_X5_strike : Cond.selects RX5 yX5_strike yX5_strike ∈ TT := tm (tb_2 (List.mem_of_getElem? (i := 237) rfl)) rfl
theorem tw_cd_X5_strike : Cond.code yX5_strike cX5_strike 1 (Option.some Jvm.ClassFile.FieldType.int) ∈ TT := tm (tb_2 (List.mem_of_getElem? (i := 238) rfl)) rfl
theorem tw_ml_RX5_154 : Cond.methodLink RX5 154 yX4_passHour ∈ TT := tm (tb_2 (List.mem_of_getElem? (i := 239) rfl)) rfl
theorem tw_im_X4_passHour : Cond.instanceMethod yX4_passHour ∈ TT := tm (tb_3 (List.mem_of_getElem? (i := 0) rfl)) rfl
theorem tw_se_X4_passHour : Cond.selects RX4 yX4_passHour yX4_passHour ∈ TT := tm (tb_3 (List.mem_of_getElem? (i := 1) rfl)) rfl
theorem tw_cd_X4_passHour : Cond.code yX4_passHour cX4_passHour 4 (Option.some Jvm.ClassFile.FieldType.int) ∈ TT := tm (tb_3 (List.mem_of_getElem? (i := 2) rfl)) rfl
theorem tw_ml_RX4_95 : Cond.methodLink RX4 95 yX4_strikesOf ∈ TT := tm (tb_3 (List.mem_of_getElem? (i := 3) rfl)) rfl
theorem tw_ml_RX4_98 : Cond.methodLink RX4 98 yX4_costOf ∈ TT := tm (tb_3 (List.mem_of_getElem? (i := 4) rfl)) rfl
theorem tw_ml_RX4_101 : Cond.methodLink RX4 101 Lib.Math.max.name ∈ TT := tm (tb_3 (List.mem_of_getElem? (i := 5) rfl)) rfl
theorem tw_co_RX4_104 : Cond.constant RX4 104 (999999) ∈ TT := tm (tb_3 (List.mem_of_getElem? (i := 6) rfl)) rfl
theorem tw_ml_RL_62 : Cond.methodLink RL 62 yX5_run ∈ TT := tm (tb_3 (List.mem_of_getElem? (i := 7) rfl)) rfl
theorem tw_im_X5_run : Cond.instanceMethod yX5_run ∈ TT := tm (tb_3 (List.mem_of_getElem? (i := 8) rfl)) rfl
theorem tw_se_X5_run : Cond.selects RX5 yX5_run yX5_run ∈ TT := tm (tb_3 (List.mem_of_getElem? (i := 9) rfl)) rfl
theorem tw_cd_X5_run : Cond.code yX5_run cX5_run 7 (Option.some Jvm.ClassFile.FieldType.int) ∈ TT := tm (tb_3 (List.mem_of_getElem? (i := 10) rfl)) rfl
theorem tw_ml_RX5_157 : Cond.methodLink RX5 157 yX5_startThought ∈ TT := tm (tb_3 (List.mem_of_getElem? (i := 11) rfl)) rfl
theorem tw_im_X5_startThought : Cond.instanceMethod yX5_startThought ∈ TT := tm (tb_3 (List.mem_of_getElem? (i := 13) rfl)) rfl
theorem tw_cd_X5_startThought : Cond.code yX5_startThought cX5_startThought 1 (Option.some (Jvm.ClassFile.FieldType.object "BellOfLies$Town")) ∈ TT := tm (tb_3 (List.mem_of_getElem? (i := 14) rfl)) rfl
theorem tw_ml_RX5_230 : Cond.methodLink RX5 230 yX4_become ∈ TT := tm (tb_3 (List.mem_of_getElem? (i := 15) rfl)) rfl
theorem tw_im_X4_become : Cond.instanceMethod yX4_become ∈ TT := tm (tb_3 (List.mem_of_getElem? (i := 16) rfl)) rfl
theorem tw_se_X4_become : Cond.selects RX4 yX4_become yX4_become ∈ TT := tm (tb_3 (List.mem_of_getElem? (i := 17) rfl)) rfl
theorem tw_cd_X4_become : Cond.code yX4_become cX4_become 3 none ∈ TT := tm (tb_3 (List.mem_of_getElem? (i := 18) rfl)) rfl
theorem tw_ml_RX4_50 : Cond.methodLink RX4 50 yX4_obey ∈ TT := tm (tb_3 (List.mem_of_getElem? (i := 19) rfl)) rfl
theorem tw_ml_RX5_161 : Cond.methodLink RX5 161 yX4_passHours ∈ TT := tm (tb_3 (List.mem_of_getElem? (i := 20) rfl)) rfl
theorem tw_im_X4_passHours : Cond.instanceMethod yX4_passHours ∈ TT := tm (tb_3 (List.mem_of_getElem? (i := 21) rfl)) rfl
theorem tw_se_X4_passHours : Cond.selects RX4 yX4_passHours yX4_passHours ∈ TT := tm (tb_3 (List.mem_of_getElem? (i := 22) rfl)) rfl
theorem tw_cd_X4_passHours : Cond.code yX4_passHours cX4_passHours 4 (Option.some Jvm.ClassFile.FieldType.int) ∈ TT := tm (tb_3 (List.mem_of_getElem? (i := 23) rfl)) rfl
theorem tw_ml_RX4_105 : Cond.methodLink RX4 105 yX4_liars ∈ TT := tm (tb_3 (List.mem_of_getElem? (i := 24) rfl)) rfl
theorem tw_ml_RX4_109 : Cond.methodLink RX4 109 yX4_passHour ∈ TT := tm (tb_3 (List.mem_of_getElem? (i := 25) rfl)) rfl
theorem tw_ml_RL_66 : Cond.methodLink RL 66 yX5_when ∈ TT := tm (tb_3 (List.mem_of_getElem? (i := 26) rfl)) rfl
theorem tw_im_X5_when : Cond.instanceMethod yX5_when ∈ TT := tm (tb_3 (List.mem_of_getElem? (i := 27) rfl)) rfl
theorem tw_se_X5_when : Cond.selects RX5 yX5_when yX5_when ∈ TT := tm (tb_3 (List.mem_of_getElem? (i := 28) rfl)) rfl
theorem tw_cd_X5_when : Cond.code yX5_when cX5_when 4 (Option.some Jvm.ClassFile.FieldType.int) ∈ TT := tm (tb_3 (List.mem_of_getElem? (i := 29) rfl)) rfl
theorem tw_ml_RL_70 : Cond.methodLink RL 70 yX5_dial ∈ TT := tm (tb_3 (List.mem_of_getElem? (i := 30) rfl)) rfl
theorem tw_im_X5_dial : Cond.instanceMethod yX5_dial ∈ TT := tm (tb_3 (List.mem_of_getElem? (i := 31) rfl)) rfl
theorem tw_se_X5_dial : Cond.selects RX5 yX5_dial yX5_dial ∈ TT := tm (tb_3 (List.mem_of_getElem? (i := 32) rfl)) rfl
theorem tw_cd_X5_dial : Cond.code yX5_dial cX5_dial 2 (Option.some Jvm.ClassFile.FieldType.int) ∈ TT := tm (tb_3 (List.mem_of_getElem? (i := 33) rfl)) rfl
theorem tw_ml_RX5_164 : Cond.methodLink RX5 164 yX0_live ∈ TT := tm (tb_3 (List.mem_of_getElem? (i := 34) rfl)) rfl
theorem tw_im_X0_live : Cond.instanceMethod yX0_live ∈ TT := tm (tb_3 (List.mem_of_getElem? (i := 35) rfl)) rfl
theorem tw_se_X0_live : Cond.selects RX0 yX0_live yX0_live ∈ TT := tm (tb_3 (List.mem_of_getElem? (i := 36) rfl)) rfl
theorem tw_cd_X0_live : Cond.code yX0_live cX0_live 3 none ∈ TT := tm (tb_3 (List.mem_of_getElem? (i := 37) rfl)) rfl
theorem tw_ml_RX0_18 : Cond.methodLink RX0 18 yX4_liars ∈ TT := tm (tb_3 (List.mem_of_getElem? (i := 38) rfl)) rfl
theorem tw_ml_RX0_23 : Cond.methodLink RX0 23 yX4_passHour ∈ TT := tm (tb_3 (List.mem_of_getElem? (i := 39) rfl)) rfl
theorem tw_ml_RX5_168 : Cond.methodLink RX5 168 yX0_hoursAlone ∈ TT := tm (tb_3 (List.mem_of_getElem? (i := 40) rfl)) rfl
theorem tw_im_X0_hoursAlone : Cond.instanceMethod yX0_hoursAlone ∈ TT := tm (tb_3 (List.mem_of_getElem? (i := 41) rfl)) rfl
theorem tw_se_X0_hoursAlone : Cond.selects RX0 yX0_hoursAlone yX0_hoursAlone ∈ TT := tm (tb_3 (List.mem_of_getElem? (i := 42) rfl)) rfl
theorem tw_cd_X0_hoursAlone : Cond.code yX0_hoursAlone cX0_hoursAlone 3 (Option.some Jvm.ClassFile.FieldType.int) ∈ TT := tm (tb_3 (List.mem_of_getElem? (i := 43) rfl)) rfl
theorem tw_ml_RX0_27 : Cond.methodLink RX0 27 yX0_hoursOf ∈ TT := tm (tb_3 (List.mem_of_getElem? (i := 44) rfl)) rfl
theorem tw_im_X0_hoursOf : Cond.instanceMethod yX0_hoursOf ∈ TT := tm (tb_3 (List.mem_of_getElem? (i := 45) rfl)) rfl
theorem tw_se_X0_hoursOf : Cond.selects RX0 yX0_hoursOf yX0_hoursOf ∈ TT := tm (tb_3 (List.mem_of_getElem? (i := 46) rfl)) rfl
theorem tw_cd_X0_hoursOf : Cond.code yX0_hoursOf cX0_hoursOf 4 (Option.some Jvm.ClassFile.FieldType.int) ∈ TT := tm (tb_3 (List.mem_of_getElem? (i := 47) rfl)) rfl
theorem tw_ml_RX5_171 : Cond.methodLink RX5 171 yX0_longestRow ∈ TT := tm (tb_3 (List.mem_of_getElem? (i := 48) rfl)) rfl
theorem tw_im_X0_longestRow : Cond.instanceMethod yX0_longestRow ∈ TT := tm (tb_3 (List.mem_of_getElem? (i := 49) rfl)) rfl
theorem tw_se_X0_longestRow : Cond.selects RX0 yX0_longestRow yX0_longestRow ∈ TT := tm (tb_3 (List.mem_of_getElem? (i := 50) rfl)) rfl
theorem tw_cd_X0_longestRow : Cond.code yX0_longestRow cX0_longestRow 4 (Option.some Jvm.ClassFile.FieldType.int) ∈ TT := tm (tb_3 (List.mem_of_getElem? (i := 51) rfl)) rfl
theorem tw_ml_RX0_30 : Cond.methodLink RX0 30 Lib.Math.max.name ∈ TT := tm (tb_3 (List.mem_of_getElem? (i := 52) rfl)) rfl
theorem tw_ml_RX5_174 : Cond.methodLink RX5 174 yX0_hoursOf ∈ TT := tm (tb_3 (List.mem_of_getElem? (i := 53) rfl)) rfl
theorem tw_ml_RX5_177 : Cond.methodLink RX5 177 yX0_mostStrikes ∈ TT := tm (tb_3 (List.mem_of_getElem? (i := 54) rfl)) rfl
theorem tw_im_X0_mostStrikes : Cond.instanceMethod yX0_mostStrikes ∈ TT := tm (tb_3 (List.mem_of_getElem? (i := 55) rfl)) rfl
theorem tw_se_X0_mostStrikes : Cond.selects RX0 yX0_mostStrikes yX0_mostStrikes ∈ TT := tm (tb_3 (List.mem_of_getElem? (i := 56) rfl)) rfl
theorem tw_cd_X0_mostStrikes : Cond.code yX0_mostStrikes cX0_mostStrikes 3 (Option.some Jvm.ClassFile.FieldType.int) ∈ TT := tm (tb_3 (List.mem_of_getElem? (i := 57) rfl)) rfl
theorem tw_ml_RX5_180 : Cond.methodLink RX5 180 yX0_firstOf ∈ TT := tm (tb_3 (List.mem_of_getElem? (i := 58) rfl)) rfl
theorem tw_im_X0_firstOf : Cond.instanceMethod yX0_firstOf ∈ TT := tm (tb_3 (List.mem_of_getElem? (i := 59) rfl)) rfl
theorem tw_se_X0_firstOf : Cond.selects RX0 yX0_firstOf yX0_firstOf ∈ TT := tm (tb_3 (List.mem_of_getElem? (i := 60) rfl)) rfl
theorem tw_cd_X0_firstOf : Cond.code yX0_firstOf cX0_firstOf 3 (Option.some Jvm.ClassFile.FieldType.int) ∈ TT := tm (tb_3 (List.mem_of_getElem? (i := 61) rfl)) rfl
theorem tw_ml_RL_74 : Cond.methodLink RL 74 yX5_hush ∈ TT := tm (tb_3 (List.mem_of_getElem? (i := 62) rfl)) rfl
theorem tw_im_X5_hush : Cond.instanceMethod yX5_hush ∈ TT := tm (tb_3 (List.mem_of_getElem? (i := 63) rfl)) rfl
theorem tw_se_X5_hush : Cond.selects RX5 yX5_hush yX5_hush ∈ TT := tm (tb_3 (List.mem_of_getElem? (i := 64) rfl)) rfl
theorem tw_cd_X5_hush : Cond.code yX5_hush cX5_hush 7 (Option.some Jvm.ClassFile.FieldType.int) ∈ TT := tm (tb_3 (List.mem_of_getElem? (i := 65) rfl)) rfl
theorem tw_ml_RX5_183 : Cond.methodLink RX5 183 yX4_turnVow ∈ TT := tm (tb_3 (List.mem_of_getElem? (i := 66) rfl)) rfl
theorem tw_ml_RL_78 : Cond.methodLink RL 78 yX5_council ∈ TT := tm (tb_3 (List.mem_of_getElem? (i := 67) rfl)) rfl
theorem tw_im_X5_council : Cond.instanceMethod yX5_council ∈ TT := tm (tb_3 (List.mem_of_getElem? (i := 68) rfl)) rfl
theorem tw_se_X5_council : Cond.selects RX5 yX5_council yX5_council ∈ TT := tm (tb_3 (List.mem_of_getElem? (i := 69) rfl)) rfl
theorem tw_cd_X5_council : Cond.code yX5_council cX5_council 9 (Option.some Jvm.ClassFile.FieldType.int) ∈ TT := tm (tb_3 (List.mem_of_getElem? (i := 70) rfl)) rfl
theorem tw_ml_RX5_186 : Cond.methodLink RX5 186 yJ6_bitCount_0f7a4 ∈ TT := tm (tb_3 (List.mem_of_getElem? (i := 71) rfl)) rfl
theorem tw_st_J6_bitCount_0f7a4 : Cond.static yJ6_bitCount_0f7a4 ∈ TT := tm (tb_3 (List.mem_of_getElem? (i := 72) rfl)) rfl
theorem tw_cd_J6_bitCount_0f7a4 : Cond.code yJ6_bitCount_0f7a4 cJ6_bitCount_0f7a4 1 (Option.some Jvm.ClassFile.FieldType.int) ∈ TT := tm (tb_3 (List.mem_of_getElem? (i := 73) rfl)) rfl
theorem tw_co_RJ6_265 : Cond.constant RJ6 265 (1431655765) ∈ TT := tm (tb_3 (List.mem_of_getElem? (i := 74) rfl)) rfl
theorem tw_co_RJ6_266 : Cond.constant RJ6 266 (858993459) ∈ TT := tm (tb_3 (List.mem_of_getElem? (i := 75) rfl)) rfl
theorem tw_co_RJ6_267 : Cond.constant RJ6 267 (252645135) ∈ TT := tm (tb_3 (List.mem_of_getElem? (i := 76) rfl)) rfl
theorem tw_ml_RL_82 : Cond.methodLink RL 82 yX5_lesson ∈ TT := tm (tb_3 (List.mem_of_getElem? (i := 77) rfl)) rfl
theorem tw_im_X5_lesson : Cond.instanceMethod yX5_lesson ∈ TT := tm (tb_3 (List.mem_of_getElem? (i := 78) rfl)) rfl
theorem tw_se_X5_lesson : Cond.selects RX5 yX5_lesson yX5_lesson ∈ TT := tm (tb_3 (List.mem_of_getElem? (i := 79) rfl)) rfl
theorem tw_cd_X5_lesson : Cond.code yX5_lesson cX5_lesson 8 (Option.some Jvm.ClassFile.FieldType.int) ∈ TT := tm (tb_3 (List.mem_of_getElem? (i := 80) rfl)) rfl
theorem tw_ml_RX5_191 : Cond.methodLink RX5 191 yX4_turnHour ∈ TT := tm (tb_3 (List.mem_of_getElem? (i := 81) rfl)) rfl
theorem tw_im_X4_turnHour : Cond.instanceMethod yX4_turnHour ∈ TT := tm (tb_3 (List.mem_of_getElem? (i := 82) rfl)) rfl
theorem tw_se_X4_turnHour : Cond.selects RX4 yX4_turnHour yX4_turnHour ∈ TT := tm (tb_3 (List.mem_of_getElem? (i := 83) rfl)) rfl
theorem tw_cd_X4_turnHour : Cond.code yX4_turnHour cX4_turnHour 3 none ∈ TT := tm (tb_3 (List.mem_of_getElem? (i := 84) rfl)) rfl
theorem tw_ml_RL_86 : Cond.methodLink RL 86 yX5_pair ∈ TT := tm (tb_3 (List.mem_of_getElem? (i := 85) rfl)) rfl
theorem tw_im_X5_pair : Cond.instanceMethod yX5_pair ∈ TT := tm (tb_3 (List.mem_of_getElem? (i := 86) rfl)) rfl
theorem tw_se_X5_pair : Cond.selects RX5 yX5_pair yX5_pair ∈ TT := tm (tb_3 (List.mem_of_getElem? (i := 87) rfl)) rfl
theorem tw_cd_X5_pair : Cond.code yX5_pair cX5_pair 7 (Option.some Jvm.ClassFile.FieldType.int) ∈ TT := tm (tb_3 (List.mem_of_getElem? (i := 88) rfl)) rfl
theorem tw_ml_RX5_195 : Cond.methodLink RX5 195 yX0_hoursOfBoth ∈ TT := tm (tb_3 (List.mem_of_getElem? (i := 89) rfl)) rfl
theorem tw_im_X0_hoursOfBoth : Cond.instanceMethod yX0_hoursOfBoth ∈ TT := tm (tb_3 (List.mem_of_getElem? (i := 90) rfl)) rfl
theorem tw_se_X0_hoursOfBoth : Cond.selects RX0 yX0_hoursOfBoth yX0_hoursOfBoth ∈ TT := tm (tb_3 (List.mem_of_getElem? (i := 91) rfl)) rfl
theorem tw_cd_X0_hoursOfBoth : Cond.code yX0_hoursOfBoth cX0_hoursOfBoth 5 (Option.some Jvm.ClassFile.FieldType.int) ∈ TT := tm (tb_3 (List.mem_of_getElem? (i := 92) rfl)) rfl
theorem tw_ml_RL_90 : Cond.methodLink RL 90 yX5_mean ∈ TT := tm (tb_3 (List.mem_of_getElem? (i := 93) rfl)) rfl
theorem tw_im_X5_mean : Cond.instanceMethod yX5_mean ∈ TT := tm (tb_3 (List.mem_of_getElem? (i := 94) rfl)) rfl
theorem tw_se_X5_mean : Cond.selects RX5 yX5_mean yX5_mean ∈ TT := tm (tb_3 (List.mem_of_getElem? (i := 95) rfl)) rfl
theorem tw_cd_X5_mean : Cond.code yX5_mean cX5_mean 3 (Option.some Jvm.ClassFile.FieldType.long) ∈ TT := tm (tb_3 (List.mem_of_getElem? (i := 96) rfl)) rfl
theorem tw_cg_RX5_198 : Cond.constantLong RX5 198 (-4611686018427387904) ∈ TT := tm (tb_3 (List.mem_of_getElem? (i := 97) rfl)) rfl
theorem tw_ml_RX5_200 : Cond.methodLink RX5 200 yX5_lowestTerms ∈ TT := tm (tb_3 (List.mem_of_getElem? (i := 98) rfl)) rfl
theorem tw_st_X5_lowestTerms : Cond.static yX5_lowestTerms ∈ TT := tm (tb_3 (List.mem_of_getElem? (i := 99) rfl)) rfl
theorem tw_cd_X5_lowestTerms : Cond.code yX5_lowestTerms cX5_lowestTerms 12 (Option.some Jvm.ClassFile.FieldType.long) ∈ TT := tm (tb_3 (List.mem_of_getElem? (i := 100) rfl)) rfl
theorem tw_ml_RL_95 : Cond.methodLink RL 95 yX5_share ∈ TT := tm (tb_3 (List.mem_of_getElem? (i := 101) rfl)) rfl
theorem tw_im_X5_share : Cond.instanceMethod yX5_share ∈ TT := tm (tb_3 (List.mem_of_getElem? (i := 102) rfl)) rfl
theorem tw_se_X5_share : Cond.selects RX5 yX5_share yX5_share ∈ TT := tm (tb_3 (List.mem_of_getElem? (i := 103) rfl)) rfl
theorem tw_cd_X5_share : Cond.code yX5_share cX5_share 5 (Option.some Jvm.ClassFile.FieldType.long) ∈ TT := tm (tb_3 (List.mem_of_getElem? (i := 104) rfl)) rfl
theorem tw_ml_RL_99 : Cond.methodLink RL 99 yX5_judge ∈ TT := tm (tb_3 (List.mem_of_getElem? (i := 105) rfl)) rfl
theorem tw_im_X5_judge : Cond.instanceMethod yX5_judge ∈ TT := tm (tb_3 (List.mem_of_getElem? (i := 106) rfl)) rfl
theorem tw_se_X5_judge : Cond.selects RX5 yX5_judge yX5_judge ∈ TT := tm (tb_3 (List.mem_of_getElem? (i := 107) rfl)) rfl
theorem tw_cd_X5_judge : Cond.code yX5_judge cX5_judge 3 (Option.some Jvm.ClassFile.FieldType.int) ∈ TT := tm (tb_3 (List.mem_of_getElem? (i := 108) rfl)) rfl
theorem tw_ml_RX5_204 : Cond.methodLink RX5 204 yX5_refusalOfTold ∈ TT := tm (tb_3 (List.mem_of_getElem? (i := 109) rfl)) rfl
theorem tw_im_X5_refusalOfTold : Cond.instanceMethod yX5_refusalOfTold ∈ TT := tm (tb_3 (List.mem_of_getElem? (i := 111) rfl)) rfl
theorem tw_cd_X5_refusalOfTold : Cond.code yX5_refusalOfTold cX5_refusalOfTold 2 (Option.some Jvm.ClassFile.FieldType.int) ∈ TT := tm (tb_3 (List.mem_of_getElem? (i := 112) rfl)) rfl
theorem tw_ml_RX5_217 : Cond.methodLink RX5 217 yX5_isSheet ∈ TT := tm (tb_3 (List.mem_of_getElem? (i := 113) rfl)) rfl
theorem tw_st_X5_isSheet : Cond.static yX5_isSheet ∈ TT := tm (tb_3 (List.mem_of_getElem? (i := 114) rfl)) rfl
theorem tw_cd_X5_isSheet : Cond.code yX5_isSheet cX5_isSheet 1 (Option.some Jvm.ClassFile.FieldType.boolean) ∈ TT := tm (tb_3 (List.mem_of_getElem? (i := 115) rfl)) rfl
theorem tw_ml_RX5_232 : Cond.methodLink RX5 232 yX1_isMissing ∈ TT := tm (tb_3 (List.mem_of_getElem? (i := 116) rfl)) rfl
theorem tw_im_X1_isMissing : Cond.instanceMethod yX1_isMissing ∈ TT := tm (tb_3 (List.mem_of_getElem? (i := 117) rfl)) rfl
theorem tw_se_X1_isMissing : Cond.selects RX1 yX1_isMissing yX1_isMissing ∈ TT := tm (tb_3 (List.mem_of_getElem? (i := 118) rfl)) rfl
theorem tw_cd_X1_isMissing : Cond.code yX1_isMissing cX1_isMissing 1 (Option.some Jvm.ClassFile.FieldType.boolean) ∈ TT := tm (tb_3 (List.mem_of_getElem? (i := 119) rfl)) rfl
theorem tw_ml_RX5_207 : Cond.methodLink RX5 207 yX5_firstOtherwise ∈ TT := tm (tb_3 (List.mem_of_getElem? (i := 120) rfl)) rfl
theorem tw_im_X5_firstOtherwise : Cond.instanceMethod yX5_firstOtherwise ∈ TT := tm (tb_3 (List.mem_of_getElem? (i := 122) rfl)) rfl
theorem tw_cd_X5_firstOtherwise : Cond.code yX5_firstOtherwise cX5_firstOtherwise 5 (Option.some Jvm.ClassFile.FieldType.int) ∈ TT := tm (tb_3 (List.mem_of_getElem? (i := 123) rfl)) rfl
theorem tw_ml_RL_103 : Cond.methodLink RL 103 yX5_kinds ∈ TT := tm (tb_3 (List.mem_of_getElem? (i := 124) rfl)) rfl
theorem tw_im_X5_kinds : Cond.instanceMethod yX5_kinds ∈ TT := tm (tb_3 (List.mem_of_getElem? (i := 125) rfl)) rfl
theorem tw_se_X5_kinds : Cond.selects RX5 yX5_kinds yX5_kinds ∈ TT := tm (tb_3 (List.mem_of_getElem? (i := 126) rfl)) rfl
theorem tw_cd_X5_kinds : Cond.code yX5_kinds cX5_kinds 9 (Option.some Jvm.ClassFile.FieldType.int) ∈ TT := tm (tb_3 (List.mem_of_getElem? (i := 127) rfl)) rfl
theorem tw_ml_RX5_211 : Cond.methodLink RX5 211 yX5_refusalOfToldAbout ∈ TT := tm (tb_3 (List.mem_of_getElem? (i := 128) rfl)) rfl
theorem tw_im_X5_refusalOfToldAbout : Cond.instanceMethod yX5_refusalOfToldAbout ∈ TT := tm (tb_3 (List.mem_of_getElem? (i := 130) rfl)) rfl
theorem tw_cd_X5_refusalOfToldAbout : Cond.code yX5_refusalOfToldAbout cX5_refusalOfToldAbout 5 (Option.some Jvm.ClassFile.FieldType.int) ∈ TT := tm (tb_3 (List.mem_of_getElem? (i := 131) rfl)) rfl
theorem tw_ml_RL_107 : Cond.methodLink RL 107 yX5_nerves ∈ TT := tm (tb_3 (List.mem_of_getElem? (i := 132) rfl)) rfl
theorem tw_im_X5_nerves : Cond.instanceMethod yX5_nerves ∈ TT := tm (tb_3 (List.mem_of_getElem? (i := 133) rfl)) rfl
theorem tw_se_X5_nerves : Cond.selects RX5 yX5_nerves yX5_nerves ∈ TT := tm (tb_3 (List.mem_of_getElem? (i := 134) rfl)) rfl
theorem tw_cd_X5_nerves : Cond.code yX5_nerves cX5_nerves 9 (Option.some Jvm.ClassFile.FieldType.int) ∈ TT := tm (tb_3 (List.mem_of_getElem? (i := 135) rfl)) rfl
theorem tw_ml_RL_111 : Cond.methodLink RL 111 yX5_turned ∈ TT := tm (tb_3 (List.mem_of_getElem? (i := 136) rfl)) rfl
theorem tw_im_X5_turned : Cond.instanceMethod yX5_turned ∈ TT := tm (tb_3 (List.mem_of_getElem? (i := 137) rfl)) rfl
theorem tw_se_X5_turned : Cond.selects RX5 yX5_turned yX5_turned ∈ TT := tm (tb_3 (List.mem_of_getElem? (i := 138) rfl)) rfl
theorem tw_cd_X5_turned : Cond.code yX5_turned cX5_turned 6 (Option.some Jvm.ClassFile.FieldType.int) ∈ TT := tm (tb_3 (List.mem_of_getElem? (i := 139) rfl)) rfl
theorem tw_ml_RL_115 : Cond.methodLink RL 115 yX5_hours ∈ TT := tm (tb_3 (List.mem_of_getElem? (i := 140) rfl)) rfl
theorem tw_im_X5_hours : Cond.instanceMethod yX5_hours ∈ TT := tm (tb_3 (List.mem_of_getElem? (i := 141) rfl)) rfl
theorem tw_se_X5_hours : Cond.selects RX5 yX5_hours yX5_hours ∈ TT := tm (tb_3 (List.mem_of_getElem? (i := 142) rfl)) rfl
theorem tw_cd_X5_hours : Cond.code yX5_hours cX5_hours 6 (Option.some Jvm.ClassFile.FieldType.int) ∈ TT := tm (tb_3 (List.mem_of_getElem? (i := 143) rfl)) rfl
theorem tw_ml_RL_119 : Cond.methodLink RL 119 yX5_laws ∈ TT := tm (tb_3 (List.mem_of_getElem? (i := 144) rfl)) rfl
theorem tw_im_X5_laws : Cond.instanceMethod yX5_laws ∈ TT := tm (tb_3 (List.mem_of_getElem? (i := 145) rfl)) rfl
theorem tw_se_X5_laws : Cond.selects RX5 yX5_laws yX5_laws ∈ TT := tm (tb_3 (List.mem_of_getElem? (i := 146) rfl)) rfl
theorem tw_cd_X5_laws : Cond.code yX5_laws cX5_laws 6 (Option.some Jvm.ClassFile.FieldType.int) ∈ TT := tm (tb_3 (List.mem_of_getElem? (i := 147) rfl)) rfl
theorem tw_ml_RL_123 : Cond.methodLink RL 123 yX5_film ∈ TT := tm (tb_3 (List.mem_of_getElem? (i := 148) rfl)) rfl
theorem tw_im_X5_film : Cond.instanceMethod yX5_film ∈ TT := tm (tb_3 (List.mem_of_getElem? (i := 149) rfl)) rfl
theorem tw_se_X5_film : Cond.selects RX5 yX5_film yX5_film ∈ TT := tm (tb_3 (List.mem_of_getElem? (i := 150) rfl)) rfl
theorem tw_cd_X5_film : Cond.code yX5_film cX5_film 6 (Option.some Jvm.ClassFile.FieldType.int) ∈ TT := tm (tb_3 (List.mem_of_getElem? (i := 151) rfl)) rfl
theorem tw_ml_RX5_220 : Cond.methodLink RX5 220 yX1_become ∈ TT := tm (tb_3 (List.mem_of_getElem? (i := 152) rfl)) rfl
theorem tw_im_X1_become : Cond.instanceMethod yX1_become ∈ TT := tm (tb_3 (List.mem_of_getElem? (i := 153) rfl)) rfl
theorem tw_se_X1_become : Cond.selects RX1 yX1_become yX1_become ∈ TT := tm (tb_3 (List.mem_of_getElem? (i := 154) rfl)) rfl
theorem tw_cd_X1_become : Cond.code yX1_become cX1_become 4 none ∈ TT := tm (tb_3 (List.mem_of_getElem? (i := 155) rfl)) rfl
theorem tw_ml_RX5_223 : Cond.methodLink RX5 223 yX1_write ∈ TT := tm (tb_3 (List.mem_of_getElem? (i := 156) rfl)) rfl
theorem tw_im_X1_write : Cond.instanceMethod yX1_write ∈ TT := tm (tb_3 (List.mem_of_getElem? (i := 157) rfl)) rfl
theorem tw_se_X1_write : Cond.selects RX1 yX1_write yX1_write ∈ TT := tm (tb_3 (List.mem_of_getElem? (i := 158) rfl)) rfl
theorem tw_cd_X1_write : Cond.code yX1_write cX1_write 3 none ∈ TT := tm (tb_3 (List.mem_of_getElem? (i := 159) rfl)) rfl
theorem tw_ml_RL_127 : Cond.methodLink RL 127 yX5_drawn ∈ TT := tm (tb_3 (List.mem_of_getElem? (i := 160) rfl)) rfl
theorem tw_im_X5_drawn : Cond.instanceMethod yX5_drawn ∈ TT := tm (tb_3 (List.mem_of_getElem? (i := 161) rfl)) rfl
theorem tw_se_X5_drawn : Cond.selects RX5 yX5_drawn yX5_drawn ∈ TT := tm (tb_3 (List.mem_of_getElem? (i := 162) rfl)) rfl
theorem tw_cd_X5_drawn : Cond.code yX5_drawn cX5_drawn 4 (Option.some Jvm.ClassFile.FieldType.int) ∈ TT := tm (tb_3 (List.mem_of_getElem? (i := 163) rfl)) rfl
theorem tw_co_RX5_226 : Cond.constant RX5 226 (99999) ∈ TT := tm (tb_3 (List.mem_of_getElem? (i := 164) rfl)) rfl
theorem tw_ml_RX5_227 : Cond.methodLink RX5 227 yX5_inCrowd ∈ TT := tm (tb_3 (List.mem_of_getElem? (i := 165) rfl)) rfl
theorem tw_im_X5_inCrowd : Cond.instanceMethod yX5_inCrowd ∈ TT := tm (tb_3 (List.mem_of_getElem? (i := 167) rfl)) rfl
theorem tw_cd_X5_inCrowd : Cond.code yX5_inCrowd cX5_inCrowd 11 (Option.some Jvm.ClassFile.FieldType.int) ∈ TT := tm (tb_3 (List.mem_of_getElem? (i := 168) rfl)) rfl
theorem tw_cg_RX5_259 : Cond.constantLong RX5 259 (48271) ∈ TT := tm (tb_3 (List.mem_of_getElem? (i := 169) rfl)) rfl
theorem tw_cg_RX5_261 : Cond.constantLong RX5 261 (2147483647) ∈ TT := tm (tb_3 (List.mem_of_getElem? (i := 170) rfl)) rfl
theorem tw_cg_RX5_263 : Cond.constantLong RX5 263 (8) ∈ TT := tm (tb_3 (List.mem_of_getElem? (i := 171) rfl)) rfl
theorem tw_ml_RL_131 : Cond.methodLink RL 131 yX5_odds ∈ TT := tm (tb_3 (List.mem_of_getElem? (i := 172) rfl)) rfl
theorem tw_im_X5_odds : Cond.instanceMethod yX5_odds ∈ TT := tm (tb_3 (List.mem_of_getElem? (i := 173) rfl)) rfl
theorem tw_se_X5_odds : Cond.selects RX5 yX5_odds yX5_odds ∈ TT := tm (tb_3 (List.mem_of_getElem? (i := 174) rfl)) rfl
theorem tw_cd_X5_odds : Cond.code yX5_odds cX5_odds 7 (Option.some Jvm.ClassFile.FieldType.long) ∈ TT := tm (tb_3 (List.mem_of_getElem? (i := 175) rfl)) rfl
theorem tw_ml_RL_136 : Cond.methodLink RL 136 yX5_image ∈ TT := tm (tb_3 (List.mem_of_getElem? (i := 176) rfl)) rfl
theorem tw_im_X5_image : Cond.instanceMethod yX5_image ∈ TT := tm (tb_3 (List.mem_of_getElem? (i := 177) rfl)) rfl
theorem tw_se_X5_image : Cond.selects RX5 yX5_image yX5_image ∈ TT := tm (tb_3 (List.mem_of_getElem? (i := 178) rfl)) rfl
theorem tw_cd_X5_image : Cond.code yX5_image cX5_image 1 (Option.some Jvm.ClassFile.FieldType.int) ∈ TT := tm (tb_3 (List.mem_of_getElem? (i := 179) rfl)) rfl
theorem tw_ml_RL_140 : Cond.methodLink RL 140 yX5_back ∈ TT := tm (tb_3 (List.mem_of_getElem? (i := 180) rfl)) rfl
theorem tw_im_X5_back : Cond.instanceMethod yX5_back ∈ TT := tm (tb_3 (List.mem_of_getElem? (i := 181) rfl)) rfl
theorem tw_se_X5_back : Cond.selects RX5 yX5_back yX5_back ∈ TT := tm (tb_3 (List.mem_of_getElem? (i := 182) rfl)) rfl
theorem tw_cd_X5_back : Cond.code yX5_back cX5_back 1 (Option.some Jvm.ClassFile.FieldType.int) ∈ TT := tm (tb_3 (List.mem_of_getElem? (i := 183) rfl)) rfl
theorem tw_ml_RL_144 : Cond.methodLink RL 144 yX5_sheet ∈ TT := tm (tb_3 (List.mem_of_getElem? (i := 184) rfl)) rfl
theorem tw_im_X5_sheet : Cond.instanceMethod yX5_sheet ∈ TT := tm (tb_3 (List.mem_of_getElem? (i := 185) rfl)) rfl
theorem tw_se_X5_sheet : Cond.selects RX5 yX5_sheet yX5_sheet ∈ TT := tm (tb_3 (List.mem_of_getElem? (i := 186) rfl)) rfl
theorem tw_cd_X5_sheet : Cond.code yX5_sheet cX5_sheet 4 (Option.some Jvm.ClassFile.FieldType.int) ∈ TT := tm (tb_3 (List.mem_of_getElem? (i := 187) rfl)) rfl
theorem tw_ml_RL_148 : Cond.methodLink RL 148 yX5_cell ∈ TT := tm (tb_3 (List.mem_of_getElem? (i := 188) rfl)) rfl
theorem tw_im_X5_cell : Cond.instanceMethod yX5_cell ∈ TT := tm (tb_3 (List.mem_of_getElem? (i := 189) rfl)) rfl
theorem tw_se_X5_cell : Cond.selects RX5 yX5_cell yX5_cell ∈ TT := tm (tb_3 (List.mem_of_getElem? (i := 190) rfl)) rfl
theorem tw_cd_X5_cell : Cond.code yX5_cell cX5_cell 5 (Option.some Jvm.ClassFile.FieldType.int) ∈ TT := tm (tb_3 (List.mem_of_getElem? (i := 191) rfl)) rfl
theorem tw_ml_RX5_236 : Cond.methodLink RX5 236 yX1_has ∈ TT := tm (tb_3 (List.mem_of_getElem? (i := 192) rfl)) rfl
theorem tw_im_X1_has : Cond.instanceMethod yX1_has ∈ TT := tm (tb_3 (List.mem_of_getElem? (i := 193) rfl)) rfl
theorem tw_se_X1_has : Cond.selects RX1 yX1_has yX1_has ∈ TT := tm (tb_3 (List.mem_of_getElem? (i := 194) rfl)) rfl
theorem tw_cd_X1_has : Cond.code yX1_has cX1_has 3 (Option.some Jvm.ClassFile.FieldType.boolean) ∈ TT := tm (tb_3 (List.mem_of_getElem? (i := 195) rfl)) rfl
theorem tw_ml_RL_152 : Cond.methodLink RL 152 yX5_copy ∈ TT := tm (tb_3 (List.mem_of_getElem? (i := 196) rfl)) rfl
theorem tw_im_X5_copy : Cond.instanceMethod yX5_copy ∈ TT := tm (tb_3 (List.mem_of_getElem? (i := 197) rfl)) rfl
theorem tw_se_X5_copy : Cond.selects RX5 yX5_copy yX5_copy ∈ TT := tm (tb_3 (List.mem_of_getElem? (i := 198) rfl)) rfl
theorem tw_cd_X5_copy : Cond.code yX5_copy cX5_copy 8 (Option.some Jvm.ClassFile.FieldType.int) ∈ TT := tm (tb_3 (List.mem_of_getElem? (i := 199) rfl)) rfl
theorem tw_ml_RL_157 : Cond.methodLink RL 157 yX5_townBy ∈ TT := tm (tb_3 (List.mem_of_getElem? (i := 203) rfl)) rfl
theorem tw_im_X5_townBy : Cond.instanceMethod yX5_townBy ∈ TT := tm (tb_3 (List.mem_of_getElem? (i := 204) rfl)) rfl
theorem tw_se_X5_townBy : Cond.selects RX5 yX5_townBy yX5_townBy ∈ TT := tm (tb_3 (List.mem_of_getElem? (i := 205) rfl)) rfl
theorem tw_cd_X5_townBy : Cond.code yX5_townBy cX5_townBy 9 (Option.some Jvm.ClassFile.FieldType.int) ∈ TT := tm (tb_3 (List.mem_of_getElem? (i := 206) rfl)) rfl
theorem tw_ml_RL_162 : Cond.methodLink RL 162 yX5_taken ∈ TT := tm (tb_3 (List.mem_of_getElem? (i := 207) rfl)) rfl
theorem tw_im_X5_taken : Cond.instanceMethod yX5_taken ∈ TT := tm (tb_3 (List.mem_of_getElem? (i := 208) rfl)) rfl
theorem tw_se_X5_taken : Cond.selects RX5 yX5_taken yX5_taken ∈ TT := tm (tb_3 (List.mem_of_getElem? (i := 209) rfl)) rfl
theorem tw_cd_X5_taken : Cond.code yX5_taken cX5_taken 5 (Option.some Jvm.ClassFile.FieldType.int) ∈ TT := tm (tb_3 (List.mem_of_getElem? (i := 210) rfl)) rfl
theorem tw_ml_RX5_254 : Cond.methodLink RX5 254 yX5_isKindOf ∈ TT := tm (tb_3 (List.mem_of_getElem? (i := 211) rfl)) rfl
theorem tw_st_X5_isKindOf : Cond.static yX5_isKindOf ∈ TT := tm (tb_3 (List.mem_of_getElem? (i := 212) rfl)) rfl
theorem tw_cd_X5_isKindOf : Cond.code yX5_isKindOf cX5_isKindOf 2 (Option.some Jvm.ClassFile.FieldType.boolean) ∈ TT := tm (tb_3 (List.mem_of_getElem? (i := 213) rfl)) rfl
theorem tw_cl_RL_10 : Cond.classLink RL 10 RX6 ∈ TT := tm (tb_3 (List.mem_of_getElem? (i := 214) rfl)) rfl
theorem tw_ia_RX6 : Cond.instantiable RX6 34 ∈ TT := tm (tb_3 (List.mem_of_getElem? (i := 215) rfl)) rfl
theorem tw_ml_RL_12 : Cond.methodLink RL 12 yX6_init ∈ TT := tm (tb_3 (List.mem_of_getElem? (i := 216) rfl)) rfl
theorem tw_im_X6_init : Cond.instanceMethod yX6_init ∈ TT := tm (tb_3 (List.mem_of_getElem? (i := 217) rfl)) rfl
theorem tw_cd_X6_init : Cond.code yX6_init cX6_init 2 none ∈ TT := tm (tb_3 (List.mem_of_getElem? (i := 218) rfl)) rfl
theorem tw_ml_RX6_1 : Cond.methodLink RX6 1 objectInit ∈ TT := tm (tb_3 (List.mem_of_getElem? (i := 219) rfl)) rfl
theorem tw_ml_RX6_74 : Cond.methodLink RX6 74 yX6_text ∈ TT := tm (tb_3 (List.mem_of_getElem? (i := 220) rfl)) rfl
theorem tw_im_X6_text : Cond.instanceMethod yX6_text ∈ TT := tm (tb_3 (List.mem_of_getElem? (i := 221) rfl)) rfl
theorem tw_se_X6_text : Cond.selects RX6 yX6_text yX6_text ∈ TT := tm (tb_3 (List.mem_of_getElem? (i := 222) rfl)) rfl
theorem tw_cd_X6_text : Cond.code yX6_text cX6_text 3 (Option.some Jvm.ClassFile.FieldType.int) ∈ TT := tm (tb_3 (List.mem_of_getElem? (i := 223) rfl)) rfl
theorem tw_ml_RX6_134 : Cond.methodLink RX6 134 yX6_next ∈ TT := tm (tb_3 (List.mem_of_getElem? (i := 224) rfl)) rfl
theorem tw_im_X6_next : Cond.instanceMethod yX6_next ∈ TT := tm (tb_3 (List.mem_of_getElem? (i := 226) rfl)) rfl
theorem tw_cd_X6_next : Cond.code yX6_next cX6_next 3 none ∈ TT := tm (tb_3 (List.mem_of_getElem? (i := 227) rfl)) rfl
theorem tw_ml_RX6_81 : Cond.methodLink RX6 81 yX6_in ∈ TT := tm (tb_3 (List.mem_of_getElem? (i := 228) rfl)) rfl
theorem tw_st_X6_in : Cond.static yX6_in ∈ TT := tm (tb_3 (List.mem_of_getElem? (i := 229) rfl)) rfl
theorem tw_cd_X6_in : Cond.code yX6_in cX6_in 3 (Option.some Jvm.ClassFile.FieldType.boolean) ∈ TT := tm (tb_3 (List.mem_of_getElem? (i := 230) rfl)) rfl
theorem tw_ml_RX6_107 : Cond.methodLink RX6 107 yX6_wordFrom ∈ TT := tm (tb_3 (List.mem_of_getElem? (i := 231) rfl)) rfl
theorem tw_im_X6_wordFrom : Cond.instanceMethod yX6_wordFrom ∈ TT := tm (tb_3 (List.mem_of_getElem? (i := 233) rfl)) rfl
theorem tw_cd_X6_wordFrom : Cond.code yX6_wordFrom cX6_wordFrom 6 (Option.some Jvm.ClassFile.FieldType.int) ∈ TT := tm (tb_3 (List.mem_of_getElem? (i := 234) rfl)) rfl
theorem tw_ml_RX6_147 : Cond.methodLink RX6 147 yX6_eRead ∈ TT := tm (tb_3 (List.mem_of_getElem? (i := 235) rfl)) rfl
theorem tw_im_X6_eRead : Cond.instanceMethod yX6_eRead ∈ TT := tm (tb_3 (List.mem_of_getElem? (i := 237) rfl)) rfl
theorem tw_cd_X6_eRead : Cond.code yX6_eRead cX6_eRead 4 (Option.some Jvm.ClassFile.FieldType.boolean) ∈ TT := tm (tb_3 (List.mem_of_getElem? (i := 238) rfl)) rfl
theorem tw_co_RX6_137 : Cond.constant RX6 137 (100000) ∈ TT := tm (tb_3 (List.mem_of_getElem? (i := 239) rfl)) rfl
theorem tw_ml_RX6_124 : Cond.methodLink RX6 124 yX6_puts ∈ TT := tm (tb_4 (List.mem_of_getElem? (i := 0) rfl)) rfl
theorem tw_im_X6_puts : Cond.instanceMethod yX6_puts ∈ TT := tm (tb_4 (List.mem_of_getElem? (i := 2) rfl)) rfl
theorem tw_cd_X6_puts : Cond.code yX6_puts cX6_puts 2 none ∈ TT := tm (tb_4 (List.mem_of_getElem? (i := 3) rfl)) rfl
theorem tw_ml_RX6_131 : Cond.methodLink RX6 131 yX6_unwinds ∈ TT := tm (tb_4 (List.mem_of_getElem? (i := 4) rfl)) rfl
theorem tw_im_X6_unwinds : Cond.instanceMethod yX6_unwinds ∈ TT := tm (tb_4 (List.mem_of_getElem? (i := 6) rfl)) rfl
theorem tw_cd_X6_unwinds : Cond.code yX6_unwinds cX6_unwinds 3 none ∈ TT := tm (tb_4 (List.mem_of_getElem? (i := 7) rfl)) rfl
theorem tw_ml_RX6_117 : Cond.methodLink RX6 117 yX6_rank ∈ TT := tm (tb_4 (List.mem_of_getElem? (i := 8) rfl)) rfl
theorem tw_st_X6_rank : Cond.static yX6_rank ∈ TT := tm (tb_4 (List.mem_of_getElem? (i := 9) rfl)) rfl
theorem tw_cd_X6_rank : Cond.code yX6_rank cX6_rank 1 (Option.some Jvm.ClassFile.FieldType.int) ∈ TT := tm (tb_4 (List.mem_of_getElem? (i := 10) rfl)) rfl
theorem tw_ml_RX6_138 : Cond.methodLink RX6 138 yX6_opensOne ∈ TT := tm (tb_4 (List.mem_of_getElem? (i := 11) rfl)) rfl
theorem tw_im_X6_opensOne : Cond.instanceMethod yX6_opensOne ∈ TT := tm (tb_4 (List.mem_of_getElem? (i := 13) rfl)) rfl
theorem tw_cd_X6_opensOne : Cond.code yX6_opensOne cX6_opensOne 2 (Option.some Jvm.ClassFile.FieldType.boolean) ∈ TT := tm (tb_4 (List.mem_of_getElem? (i := 14) rfl)) rfl
theorem tw_ml_RX6_128 : Cond.methodLink RX6 128 yX6_holds ∈ TT := tm (tb_4 (List.mem_of_getElem? (i := 15) rfl)) rfl
theorem tw_im_X6_holds : Cond.instanceMethod yX6_holds ∈ TT := tm (tb_4 (List.mem_of_getElem? (i := 17) rfl)) rfl
theorem tw_cd_X6_holds : Cond.code yX6_holds cX6_holds 2 none ∈ TT := tm (tb_4 (List.mem_of_getElem? (i := 18) rfl)) rfl
theorem tw_ml_RX6_141 : Cond.methodLink RX6 141 yX6_signOf ∈ TT := tm (tb_4 (List.mem_of_getElem? (i := 19) rfl)) rfl
theorem tw_im_X6_signOf : Cond.instanceMethod yX6_signOf ∈ TT := tm (tb_4 (List.mem_of_getElem? (i := 21) rfl)) rfl
theorem tw_cd_X6_signOf : Cond.code yX6_signOf cX6_signOf 1 (Option.some Jvm.ClassFile.FieldType.int) ∈ TT := tm (tb_4 (List.mem_of_getElem? (i := 22) rfl)) rfl
theorem tw_ml_RX6_144 : Cond.methodLink RX6 144 yX6_between ∈ TT := tm (tb_4 (List.mem_of_getElem? (i := 23) rfl)) rfl
theorem tw_im_X6_between : Cond.instanceMethod yX6_between ∈ TT := tm (tb_4 (List.mem_of_getElem? (i := 25) rfl)) rfl
theorem tw_cd_X6_between : Cond.code yX6_between cX6_between 2 (Option.some Jvm.ClassFile.FieldType.boolean) ∈ TT := tm (tb_4 (List.mem_of_getElem? (i := 26) rfl)) rfl
theorem tw_fl_RX6_78 : Cond.fieldLink RX6 78 "BellOfLiesModel" "people" "I" ∈ TT := tm (tb_4 (List.mem_of_getElem? (i := 27) rfl)) rfl
theorem tw_fl_RX6_7 : Cond.fieldLink RX6 7 "BellOfLiesModel" "kind" "[I" ∈ TT := tm (tb_4 (List.mem_of_getElem? (i := 28) rfl)) rfl
theorem tw_fl_RX6_13 : Cond.fieldLink RX6 13 "BellOfLiesModel" "moreOf" "[I" ∈ TT := tm (tb_4 (List.mem_of_getElem? (i := 29) rfl)) rfl
theorem tw_fl_RX6_16 : Cond.fieldLink RX6 16 "BellOfLiesModel" "rows" "[I" ∈ TT := tm (tb_4 (List.mem_of_getElem? (i := 30) rfl)) rfl
theorem tw_fl_RX6_19 : Cond.fieldLink RX6 19 "BellOfLiesModel" "bells" "[I" ∈ TT := tm (tb_4 (List.mem_of_getElem? (i := 31) rfl)) rfl
theorem tw_fl_RX6_22 : Cond.fieldLink RX6 22 "BellOfLiesModel" "tape" "[I" ∈ TT := tm (tb_4 (List.mem_of_getElem? (i := 32) rfl)) rfl
theorem tw_fl_RX6_70 : Cond.fieldLink RX6 70 "BellOfLiesModel" "taped" "I" ∈ TT := tm (tb_4 (List.mem_of_getElem? (i := 33) rfl)) rfl
theorem tw_fl_RX6_25 : Cond.fieldLink RX6 25 "BellOfLiesModel" "codes" "[I" ∈ TT := tm (tb_4 (List.mem_of_getElem? (i := 34) rfl)) rfl
theorem tw_fl_RX6_28 : Cond.fieldLink RX6 28 "BellOfLiesModel" "starts" "[I" ∈ TT := tm (tb_4 (List.mem_of_getElem? (i := 35) rfl)) rfl
theorem tw_fl_RX6_85 : Cond.fieldLink RX6 85 "BellOfLiesModel" "texts" "I" ∈ TT := tm (tb_4 (List.mem_of_getElem? (i := 36) rfl)) rfl
theorem tw_fl_RX6_88 : Cond.fieldLink RX6 88 "BellOfLiesModel" "rule" "I" ∈ TT := tm (tb_4 (List.mem_of_getElem? (i := 37) rfl)) rfl
theorem tw_fl_RX6_254 : Cond.fieldLink RX6 254 "BellOfLiesModel" "hasImage" "Z" ∈ TT := tm (tb_4 (List.mem_of_getElem? (i := 38) rfl)) rfl
theorem tw_fl_RX6_31 : Cond.fieldLink RX6 31 "BellOfLiesModel" "imageRows" "[I" ∈ TT := tm (tb_4 (List.mem_of_getElem? (i := 39) rfl)) rfl
theorem tw_fl_RX6_34 : Cond.fieldLink RX6 34 "BellOfLiesModel" "imageHeld" "[I" ∈ TT := tm (tb_4 (List.mem_of_getElem? (i := 40) rfl)) rfl
theorem tw_fl_RX6_37 : Cond.fieldLink RX6 37 "BellOfLiesModel" "sheetSort" "[I" ∈ TT := tm (tb_4 (List.mem_of_getElem? (i := 41) rfl)) rfl
theorem tw_fl_RX6_40 : Cond.fieldLink RX6 40 "BellOfLiesModel" "sheetSize" "[I" ∈ TT := tm (tb_4 (List.mem_of_getElem? (i := 42) rfl)) rfl
theorem tw_fl_RX6_43 : Cond.fieldLink RX6 43 "BellOfLiesModel" "cells" "[I" ∈ TT := tm (tb_4 (List.mem_of_getElem? (i := 43) rfl)) rfl
theorem tw_fl_RX6_46 : Cond.fieldLink RX6 46 "BellOfLiesModel" "law" "[I" ∈ TT := tm (tb_4 (List.mem_of_getElem? (i := 44) rfl)) rfl
theorem tw_fl_RX6_95 : Cond.fieldLink RX6 95 "BellOfLiesModel" "at" "I" ∈ TT := tm (tb_4 (List.mem_of_getElem? (i := 45) rfl)) rfl
theorem tw_fl_RX6_98 : Cond.fieldLink RX6 98 "BellOfLiesModel" "begun" "I" ∈ TT := tm (tb_4 (List.mem_of_getElem? (i := 46) rfl)) rfl
theorem tw_fl_RX6_101 : Cond.fieldLink RX6 101 "BellOfLiesModel" "token" "I" ∈ TT := tm (tb_4 (List.mem_of_getElem? (i := 47) rfl)) rfl
theorem tw_fl_RX6_104 : Cond.fieldLink RX6 104 "BellOfLiesModel" "value" "I" ∈ TT := tm (tb_4 (List.mem_of_getElem? (i := 48) rfl)) rfl
theorem tw_fl_RX6_49 : Cond.fieldLink RX6 49 "BellOfLiesModel" "words" "[I" ∈ TT := tm (tb_4 (List.mem_of_getElem? (i := 49) rfl)) rfl
theorem tw_fl_RX6_52 : Cond.fieldLink RX6 52 "BellOfLiesModel" "held" "[I" ∈ TT := tm (tb_4 (List.mem_of_getElem? (i := 50) rfl)) rfl
theorem tw_fl_RX6_114 : Cond.fieldLink RX6 114 "BellOfLiesModel" "heldMany" "I" ∈ TT := tm (tb_4 (List.mem_of_getElem? (i := 51) rfl)) rfl
theorem tw_fl_RX6_121 : Cond.fieldLink RX6 121 "BellOfLiesModel" "opens" "I" ∈ TT := tm (tb_4 (List.mem_of_getElem? (i := 52) rfl)) rfl
theorem tw_fl_RX6_111 : Cond.fieldLink RX6 111 "BellOfLiesModel" "out" "I" ∈ TT := tm (tb_4 (List.mem_of_getElem? (i := 53) rfl)) rfl
theorem tw_fl_RX6_55 : Cond.fieldLink RX6 55 "BellOfLiesModel" "stack" "[I" ∈ TT := tm (tb_4 (List.mem_of_getElem? (i := 54) rfl)) rfl
theorem tw_fl_RX6_58 : Cond.fieldLink RX6 58 "BellOfLiesModel" "named" "[I" ∈ TT := tm (tb_4 (List.mem_of_getElem? (i := 55) rfl)) rfl
theorem tw_fl_RX6_193 : Cond.fieldLink RX6 193 "BellOfLiesModel" "liarsThen" "I" ∈ TT := tm (tb_4 (List.mem_of_getElem? (i := 56) rfl)) rfl
theorem tw_fl_RX6_61 : Cond.fieldLink RX6 61 "BellOfLiesModel" "kept" "[I" ∈ TT := tm (tb_4 (List.mem_of_getElem? (i := 57) rfl)) rfl
theorem tw_fl_RX6_64 : Cond.fieldLink RX6 64 "BellOfLiesModel" "dayStrikes" "[I" ∈ TT := tm (tb_4 (List.mem_of_getElem? (i := 58) rfl)) rfl
theorem tw_fl_RX6_67 : Cond.fieldLink RX6 67 "BellOfLiesModel" "dayLiars" "[I" ∈ TT := tm (tb_4 (List.mem_of_getElem? (i := 59) rfl)) rfl
theorem tw_fl_RX6_241 : Cond.fieldLink RX6 241 "BellOfLiesModel" "toldThen" "I" ∈ TT := tm (tb_4 (List.mem_of_getElem? (i := 60) rfl)) rfl
theorem tw_ml_RL_17 : Cond.methodLink RL 17 yX6_count ∈ TT := tm (tb_4 (List.mem_of_getElem? (i := 130) rfl)) rfl
theorem tw_im_X6_count : Cond.instanceMethod yX6_count ∈ TT := tm (tb_4 (List.mem_of_getElem? (i := 131) rfl)) rfl
theorem tw_se_X6_count : Cond.selects RX6 yX6_count yX6_count ∈ TT := tm (tb_4 (List.mem_of_getElem? (i := 132) rfl)) rfl
theorem tw_cd_X6_count : Cond.code yX6_count cX6_count 2 (Option.some Jvm.ClassFile.FieldType.int) ∈ TT := tm (tb_4 (List.mem_of_getElem? (i := 133) rfl)) rfl
theorem tw_ml_RL_21 : Cond.methodLink RL 21 yX6_clock ∈ TT := tm (tb_4 (List.mem_of_getElem? (i := 134) rfl)) rfl
theorem tw_im_X6_clock : Cond.instanceMethod yX6_clock ∈ TT := tm (tb_4 (List.mem_of_getElem? (i := 135) rfl)) rfl
theorem tw_se_X6_clock : Cond.selects RX6 yX6_clock yX6_clock ∈ TT := tm (tb_4 (List.mem_of_getElem? (i := 136) rfl)) rfl
theorem tw_cd_X6_clock : Cond.code yX6_clock cX6_clock 3 (Option.some Jvm.ClassFile.FieldType.int) ∈ TT := tm (tb_4 (List.mem_of_getElem? (i := 137) rfl)) rfl
theorem tw_ml_RL_26 : Cond.methodLink RL 26 yX6_feed ∈ TT := tm (tb_4 (List.mem_of_getElem? (i := 138) rfl)) rfl
theorem tw_im_X6_feed : Cond.instanceMethod yX6_feed ∈ TT := tm (tb_4 (List.mem_of_getElem? (i := 139) rfl)) rfl
theorem tw_se_X6_feed : Cond.selects RX6 yX6_feed yX6_feed ∈ TT := tm (tb_4 (List.mem_of_getElem? (i := 140) rfl)) rfl
theorem tw_cd_X6_feed : Cond.code yX6_feed cX6_feed 8 (Option.some Jvm.ClassFile.FieldType.int) ∈ TT := tm (tb_4 (List.mem_of_getElem? (i := 141) rfl)) rfl
theorem tw_ml_RX6_91 : Cond.methodLink RX6 91 yX6_isByte ∈ TT := tm (tb_4 (List.mem_of_getElem? (i := 142) rfl)) rfl
theorem tw_st_X6_isByte : Cond.static yX6_isByte ∈ TT := tm (tb_4 (List.mem_of_getElem? (i := 143) rfl)) rfl
theorem tw_cd_X6_isByte : Cond.code yX6_isByte cX6_isByte 1 (Option.some Jvm.ClassFile.FieldType.boolean) ∈ TT := tm (tb_4 (List.mem_of_getElem? (i := 144) rfl)) rfl
theorem tw_ml_RL_31 : Cond.methodLink RL 31 yX6_text ∈ TT := tm (tb_4 (List.mem_of_getElem? (i := 145) rfl)) rfl
theorem tw_ml_RL_35 : Cond.methodLink RL 35 yX6_force ∈ TT := tm (tb_4 (List.mem_of_getElem? (i := 146) rfl)) rfl
theorem tw_im_X6_force : Cond.instanceMethod yX6_force ∈ TT := tm (tb_4 (List.mem_of_getElem? (i := 147) rfl)) rfl
theorem tw_se_X6_force : Cond.selects RX6 yX6_force yX6_force ∈ TT := tm (tb_4 (List.mem_of_getElem? (i := 148) rfl)) rfl
theorem tw_cd_X6_force : Cond.code yX6_force cX6_force 3 (Option.some Jvm.ClassFile.FieldType.int) ∈ TT := tm (tb_4 (List.mem_of_getElem? (i := 149) rfl)) rfl
theorem tw_ml_RL_40 : Cond.methodLink RL 40 yX6_asks ∈ TT := tm (tb_4 (List.mem_of_getElem? (i := 150) rfl)) rfl
theorem tw_im_X6_asks : Cond.instanceMethod yX6_asks ∈ TT := tm (tb_4 (List.mem_of_getElem? (i := 151) rfl)) rfl
theorem tw_se_X6_asks : Cond.selects RX6 yX6_asks yX6_asks ∈ TT := tm (tb_4 (List.mem_of_getElem? (i := 152) rfl)) rfl
theorem tw_cd_X6_asks : Cond.code yX6_asks cX6_asks 3 (Option.some Jvm.ClassFile.FieldType.int) ∈ TT := tm (tb_4 (List.mem_of_getElem? (i := 153) rfl)) rfl
theorem tw_ml_RX6_164 : Cond.methodLink RX6 164 yX6_isOne ∈ TT := tm (tb_4 (List.mem_of_getElem? (i := 154) rfl)) rfl
theorem tw_im_X6_isOne : Cond.instanceMethod yX6_isOne ∈ TT := tm (tb_4 (List.mem_of_getElem? (i := 156) rfl)) rfl
theorem tw_cd_X6_isOne : Cond.code yX6_isOne cX6_isOne 2 (Option.some Jvm.ClassFile.FieldType.boolean) ∈ TT := tm (tb_4 (List.mem_of_getElem? (i := 157) rfl)) rfl
theorem tw_ml_RX6_167 : Cond.methodLink RX6 167 yX6_asksOf ∈ TT := tm (tb_4 (List.mem_of_getElem? (i := 158) rfl)) rfl
theorem tw_im_X6_asksOf : Cond.instanceMethod yX6_asksOf ∈ TT := tm (tb_4 (List.mem_of_getElem? (i := 160) rfl)) rfl
theorem tw_cd_X6_asksOf : Cond.code yX6_asksOf cX6_asksOf 3 (Option.some Jvm.ClassFile.FieldType.int) ∈ TT := tm (tb_4 (List.mem_of_getElem? (i := 161) rfl)) rfl
theorem tw_ml_RX6_155 : Cond.methodLink RX6 155 yX6_within ∈ TT := tm (tb_4 (List.mem_of_getElem? (i := 162) rfl)) rfl
theorem tw_st_X6_within : Cond.static yX6_within ∈ TT := tm (tb_4 (List.mem_of_getElem? (i := 163) rfl)) rfl
theorem tw_cd_X6_within : Cond.code yX6_within cX6_within 3 (Option.some Jvm.ClassFile.FieldType.int) ∈ TT := tm (tb_4 (List.mem_of_getElem? (i := 164) rfl)) rfl
theorem tw_ml_RX6_158 : Cond.methodLink RX6 158 yX6_ofDay ∈ TT := tm (tb_4 (List.mem_of_getElem? (i := 165) rfl)) rfl
theorem tw_im_X6_ofDay : Cond.instanceMethod yX6_ofDay ∈ TT := tm (tb_4 (List.mem_of_getElem? (i := 167) rfl)) rfl
theorem tw_cd_X6_ofDay : Cond.code yX6_ofDay cX6_ofDay 1 (Option.some Jvm.ClassFile.FieldType.int) ∈ TT := tm (tb_4 (List.mem_of_getElem? (i := 168) rfl)) rfl
theorem tw_ml_RX6_161 : Cond.methodLink RX6 161 yX6_says ∈ TT := tm (tb_4 (List.mem_of_getElem? (i := 169) rfl)) rfl
theorem tw_im_X6_says : Cond.instanceMethod yX6_says ∈ TT := tm (tb_4 (List.mem_of_getElem? (i := 171) rfl)) rfl
theorem tw_cd_X6_says : Cond.code yX6_says cX6_says 5 (Option.some Jvm.ClassFile.FieldType.int) ∈ TT := tm (tb_4 (List.mem_of_getElem? (i := 172) rfl)) rfl
theorem tw_ml_RX6_151 : Cond.methodLink RX6 151 yX6_two ∈ TT := tm (tb_4 (List.mem_of_getElem? (i := 173) rfl)) rfl
theorem tw_st_X6_two : Cond.static yX6_two ∈ TT := tm (tb_4 (List.mem_of_getElem? (i := 174) rfl)) rfl
theorem tw_cd_X6_two : Cond.code yX6_two cX6_two 3 (Option.some Jvm.ClassFile.FieldType.int) ∈ TT := tm (tb_4 (List.mem_of_getElem? (i := 175) rfl)) rfl
theorem tw_ml_RL_45 : Cond.methodLink RL 45 yX6_person ∈ TT := tm (tb_4 (List.mem_of_getElem? (i := 176) rfl)) rfl
theorem tw_im_X6_person : Cond.instanceMethod yX6_person ∈ TT := tm (tb_4 (List.mem_of_getElem? (i := 177) rfl)) rfl
theorem tw_se_X6_person : Cond.selects RX6 yX6_person yX6_person ∈ TT := tm (tb_4 (List.mem_of_getElem? (i := 178) rfl)) rfl
theorem tw_cd_X6_person : Cond.code yX6_person cX6_person 4 (Option.some Jvm.ClassFile.FieldType.int) ∈ TT := tm (tb_4 (List.mem_of_getElem? (i := 179) rfl)) rfl
theorem tw_co_RX6_170 : Cond.constant RX6 170 (16777215) ∈ TT := tm (tb_4 (List.mem_of_getElem? (i := 180) rfl)) rfl
theorem tw_ml_RL_49 : Cond.methodLink RL 49 yX6_put ∈ TT := tm (tb_4 (List.mem_of_getElem? (i := 181) rfl)) rfl
theorem tw_im_X6_put : Cond.instanceMethod yX6_put ∈ TT := tm (tb_4 (List.mem_of_getElem? (i := 182) rfl)) rfl
theorem tw_se_X6_put : Cond.selects RX6 yX6_put yX6_put ∈ TT := tm (tb_4 (List.mem_of_getElem? (i := 183) rfl)) rfl
theorem tw_cd_X6_put : Cond.code yX6_put cX6_put 5 (Option.some Jvm.ClassFile.FieldType.int) ∈ TT := tm (tb_4 (List.mem_of_getElem? (i := 184) rfl)) rfl
theorem tw_ml_RX6_171 : Cond.methodLink RX6 171 yX6_mostOf ∈ TT := tm (tb_4 (List.mem_of_getElem? (i := 185) rfl)) rfl
theorem tw_st_X6_mostOf : Cond.static yX6_mostOf ∈ TT := tm (tb_4 (List.mem_of_getElem? (i := 186) rfl)) rfl
theorem tw_cd_X6_mostOf : Cond.code yX6_mostOf cX6_mostOf 1 (Option.some Jvm.ClassFile.FieldType.int) ∈ TT := tm (tb_4 (List.mem_of_getElem? (i := 187) rfl)) rfl
theorem tw_ml_RL_53 : Cond.methodLink RL 53 yX6_tells ∈ TT := tm (tb_4 (List.mem_of_getElem? (i := 188) rfl)) rfl
theorem tw_im_X6_tells : Cond.instanceMethod yX6_tells ∈ TT := tm (tb_4 (List.mem_of_getElem? (i := 189) rfl)) rfl
theorem tw_se_X6_tells : Cond.selects RX6 yX6_tells yX6_tells ∈ TT := tm (tb_4 (List.mem_of_getElem? (i := 190) rfl)) rfl
theorem tw_cd_X6_tells : Cond.code yX6_tells cX6_tells 3 (Option.some Jvm.ClassFile.FieldType.int) ∈ TT := tm (tb_4 (List.mem_of_getElem? (i := 191) rfl)) rfl
theorem tw_ml_RX6_174 : Cond.methodLink RX6 174 yX6_lies ∈ TT := tm (tb_4 (List.mem_of_getElem? (i := 192) rfl)) rfl
theorem tw_im_X6_lies : Cond.instanceMethod yX6_lies ∈ TT := tm (tb_4 (List.mem_of_getElem? (i := 194) rfl)) rfl
theorem tw_cd_X6_lies : Cond.code yX6_lies cX6_lies 5 (Option.some Jvm.ClassFile.FieldType.boolean) ∈ TT := tm (tb_4 (List.mem_of_getElem? (i := 195) rfl)) rfl
theorem tw_ml_RX6_180 : Cond.methodLink RX6 180 yX6_costsOf ∈ TT := tm (tb_4 (List.mem_of_getElem? (i := 196) rfl)) rfl
theorem tw_im_X6_costsOf : Cond.instanceMethod yX6_costsOf ∈ TT := tm (tb_4 (List.mem_of_getElem? (i := 198) rfl)) rfl
theorem tw_cd_X6_costsOf : Cond.code yX6_costsOf cX6_costsOf 3 (Option.some Jvm.ClassFile.FieldType.int) ∈ TT := tm (tb_4 (List.mem_of_getElem? (i := 199) rfl)) rfl
theorem tw_ml_RX6_177 : Cond.methodLink RX6 177 yX6_strokesOf ∈ TT := tm (tb_4 (List.mem_of_getElem? (i := 200) rfl)) rfl
theorem tw_im_X6_strokesOf : Cond.instanceMethod yX6_strokesOf ∈ TT := tm (tb_4 (List.mem_of_getElem? (i := 202) rfl)) rfl
theorem tw_cd_X6_strokesOf : Cond.code yX6_strokesOf cX6_strokesOf 3 (Option.some Jvm.ClassFile.FieldType.int) ∈ TT := tm (tb_4 (List.mem_of_getElem? (i := 203) rfl)) rfl
theorem tw_ml_RL_57 : Cond.methodLink RL 57 yX6_bell ∈ TT := tm (tb_4 (List.mem_of_getElem? (i := 204) rfl)) rfl
theorem tw_im_X6_bell : Cond.instanceMethod yX6_bell ∈ TT := tm (tb_4 (List.mem_of_getElem? (i := 205) rfl)) rfl
theorem tw_se_X6_bell : Cond.selects RX6 yX6_bell yX6_bell ∈ TT := tm (tb_4 (List.mem_of_getElem? (i := 206) rfl)) rfl
theorem tw_cd_X6_bell : Cond.code yX6_bell cX6_bell 2 (Option.some Jvm.ClassFile.FieldType.int) ∈ TT := tm (tb_4 (List.mem_of_getElem? (i := 207) rfl)) rfl
theorem tw_ml_RX6_183 : Cond.methodLink RX6 183 yX6_liars ∈ TT := tm (tb_4 (List.mem_of_getElem? (i := 208) rfl)) rfl
theorem tw_im_X6_liars : Cond.instanceMethod yX6_liars ∈ TT := tm (tb_4 (List.mem_of_getElem? (i := 210) rfl)) rfl
theorem tw_cd_X6_liars : Cond.code yX6_liars cX6_liars 3 (Option.some Jvm.ClassFile.FieldType.int) ∈ TT := tm (tb_4 (List.mem_of_getElem? (i := 211) rfl)) rfl
theorem tw_ml_RX6_186 : Cond.methodLink RX6 186 yX6_strikesBy ∈ TT := tm (tb_4 (List.mem_of_getElem? (i := 212) rfl)) rfl
theorem tw_im_X6_strikesBy : Cond.instanceMethod yX6_strikesBy ∈ TT := tm (tb_4 (List.mem_of_getElem? (i := 214) rfl)) rfl
theorem tw_cd_X6_strikesBy : Cond.code yX6_strikesBy cX6_strikesBy 4 (Option.some Jvm.ClassFile.FieldType.int) ∈ TT := tm (tb_4 (List.mem_of_getElem? (i := 215) rfl)) rfl
theorem tw_ml_RX6_189 : Cond.methodLink RX6 189 yX6_vows ∈ TT := tm (tb_4 (List.mem_of_getElem? (i := 216) rfl)) rfl
theorem tw_im_X6_vows : Cond.instanceMethod yX6_vows ∈ TT := tm (tb_4 (List.mem_of_getElem? (i := 218) rfl)) rfl
theorem tw_cd_X6_vows : Cond.code yX6_vows cX6_vows 3 (Option.some Jvm.ClassFile.FieldType.int) ∈ TT := tm (tb_4 (List.mem_of_getElem? (i := 219) rfl)) rfl
theorem tw_ml_RL_61 : Cond.methodLink RL 61 yX6_strike ∈ TT := tm (tb_4 (List.mem_of_getElem? (i := 220) rfl)) rfl
theorem tw_im_X6_strike : Cond.instanceMethod yX6_strike ∈ TT := tm (tb_4 (List.mem_of_getElem? (i := 221) rfl)) rfl
theorem tw_se_X6_strike : Cond.selects RX6 yX6_strike yX6_strike ∈ TT := tm (tb_4 (List.mem_of_getElem? (i := 222) rfl)) rfl
theorem tw_cd_X6_strike : Cond.code yX6_strike cX6_strike 1 (Option.some Jvm.ClassFile.FieldType.int) ∈ TT := tm (tb_4 (List.mem_of_getElem? (i := 223) rfl)) rfl
theorem tw_ml_RX6_196 : Cond.methodLink RX6 196 yX6_hourOf ∈ TT := tm (tb_4 (List.mem_of_getElem? (i := 224) rfl)) rfl
theorem tw_im_X6_hourOf : Cond.instanceMethod yX6_hourOf ∈ TT := tm (tb_4 (List.mem_of_getElem? (i := 226) rfl)) rfl
theorem tw_cd_X6_hourOf : Cond.code yX6_hourOf cX6_hourOf 4 (Option.some Jvm.ClassFile.FieldType.int) ∈ TT := tm (tb_4 (List.mem_of_getElem? (i := 227) rfl)) rfl
theorem tw_co_RX6_192 : Cond.constant RX6 192 (999999) ∈ TT := tm (tb_4 (List.mem_of_getElem? (i := 228) rfl)) rfl
theorem tw_ml_RL_65 : Cond.methodLink RL 65 yX6_run ∈ TT := tm (tb_4 (List.mem_of_getElem? (i := 229) rfl)) rfl
theorem tw_im_X6_run : Cond.instanceMethod yX6_run ∈ TT := tm (tb_4 (List.mem_of_getElem? (i := 230) rfl)) rfl
theorem tw_se_X6_run : Cond.selects RX6 yX6_run yX6_run ∈ TT := tm (tb_4 (List.mem_of_getElem? (i := 231) rfl)) rfl
theorem tw_cd_X6_run : Cond.code yX6_run cX6_run 5 (Option.some Jvm.ClassFile.FieldType.int) ∈ TT := tm (tb_4 (List.mem_of_getElem? (i := 232) rfl)) rfl
theorem tw_ml_RX6_199 : Cond.methodLink RX6 199 yX6_keeps ∈ TT := tm (tb_4 (List.mem_of_getElem? (i := 233) rfl)) rfl
theorem tw_im_X6_keeps : Cond.instanceMethod yX6_keeps ∈ TT := tm (tb_4 (List.mem_of_getElem? (i := 235) rfl)) rfl
theorem tw_cd_X6_keeps : Cond.code yX6_keeps cX6_keeps 2 none ∈ TT := tm (tb_4 (List.mem_of_getElem? (i := 236) rfl)) rfl
theorem tw_ml_RX6_202 : Cond.methodLink RX6 202 yX6_goes ∈ TT := tm (tb_4 (List.mem_of_getElem? (i := 237) rfl)) rfl
theorem tw_im_X6_goes : Cond.instanceMethod yX6_goes ∈ TT := tm (tb_4 (List.mem_of_getElem? (i := 239) rfl)) rfl
theorem tw_cd_X6_goes : Cond.code yX6_goes cX6_goes 4 (Option.some Jvm.ClassFile.FieldType.int) ∈ TT := tm (tb_5 (List.mem_of_getElem? (i := 0) rfl)) rfl
theorem tw_ml_RX6_205 : Cond.methodLink RX6 205 yX6_lays ∈ TT := tm (tb_5 (List.mem_of_getElem? (i := 1) rfl)) rfl
theorem tw_im_X6_lays : Cond.instanceMethod yX6_lays ∈ TT := tm (tb_5 (List.mem_of_getElem? (i := 3) rfl)) rfl
theorem tw_cd_X6_lays : Cond.code yX6_lays cX6_lays 2 none ∈ TT := tm (tb_5 (List.mem_of_getElem? (i := 4) rfl)) rfl
theorem tw_ml_RL_69 : Cond.methodLink RL 69 yX6_when ∈ TT := tm (tb_5 (List.mem_of_getElem? (i := 5) rfl)) rfl
theorem tw_im_X6_when : Cond.instanceMethod yX6_when ∈ TT := tm (tb_5 (List.mem_of_getElem? (i := 6) rfl)) rfl
theorem tw_se_X6_when : Cond.selects RX6 yX6_when yX6_when ∈ TT := tm (tb_5 (List.mem_of_getElem? (i := 7) rfl)) rfl
theorem tw_cd_X6_when : Cond.code yX6_when cX6_when 4 (Option.some Jvm.ClassFile.FieldType.int) ∈ TT := tm (tb_5 (List.mem_of_getElem? (i := 8) rfl)) rfl
theorem tw_ml_RL_73 : Cond.methodLink RL 73 yX6_dial ∈ TT := tm (tb_5 (List.mem_of_getElem? (i := 9) rfl)) rfl
theorem tw_im_X6_dial : Cond.instanceMethod yX6_dial ∈ TT := tm (tb_5 (List.mem_of_getElem? (i := 10) rfl)) rfl
theorem tw_se_X6_dial : Cond.selects RX6 yX6_dial yX6_dial ∈ TT := tm (tb_5 (List.mem_of_getElem? (i := 11) rfl)) rfl
theorem tw_cd_X6_dial : Cond.code yX6_dial cX6_dial 2 (Option.some Jvm.ClassFile.FieldType.int) ∈ TT := tm (tb_5 (List.mem_of_getElem? (i := 12) rfl)) rfl
theorem tw_ml_RX6_211 : Cond.methodLink RX6 211 yX6_tellsDay ∈ TT := tm (tb_5 (List.mem_of_getElem? (i := 13) rfl)) rfl
theorem tw_im_X6_tellsDay : Cond.instanceMethod yX6_tellsDay ∈ TT := tm (tb_5 (List.mem_of_getElem? (i := 15) rfl)) rfl
theorem tw_cd_X6_tellsDay : Cond.code yX6_tellsDay cX6_tellsDay 2 none ∈ TT := tm (tb_5 (List.mem_of_getElem? (i := 16) rfl)) rfl
theorem tw_ml_RX6_214 : Cond.methodLink RX6 214 yX6_alone ∈ TT := tm (tb_5 (List.mem_of_getElem? (i := 17) rfl)) rfl
theorem tw_im_X6_alone : Cond.instanceMethod yX6_alone ∈ TT := tm (tb_5 (List.mem_of_getElem? (i := 19) rfl)) rfl
theorem tw_cd_X6_alone : Cond.code yX6_alone cX6_alone 3 (Option.some Jvm.ClassFile.FieldType.int) ∈ TT := tm (tb_5 (List.mem_of_getElem? (i := 20) rfl)) rfl
theorem tw_ml_RX6_208 : Cond.methodLink RX6 208 yX6_alikeWith ∈ TT := tm (tb_5 (List.mem_of_getElem? (i := 21) rfl)) rfl
theorem tw_im_X6_alikeWith : Cond.instanceMethod yX6_alikeWith ∈ TT := tm (tb_5 (List.mem_of_getElem? (i := 23) rfl)) rfl
theorem tw_cd_X6_alikeWith : Cond.code yX6_alikeWith cX6_alikeWith 4 (Option.some Jvm.ClassFile.FieldType.int) ∈ TT := tm (tb_5 (List.mem_of_getElem? (i := 24) rfl)) rfl
theorem tw_ml_RX6_217 : Cond.methodLink RX6 217 yX6_longestRow ∈ TT := tm (tb_5 (List.mem_of_getElem? (i := 25) rfl)) rfl
theorem tw_im_X6_longestRow : Cond.instanceMethod yX6_longestRow ∈ TT := tm (tb_5 (List.mem_of_getElem? (i := 27) rfl)) rfl
theorem tw_cd_X6_longestRow : Cond.code yX6_longestRow cX6_longestRow 5 (Option.some Jvm.ClassFile.FieldType.int) ∈ TT := tm (tb_5 (List.mem_of_getElem? (i := 28) rfl)) rfl
theorem tw_ml_RX6_220 : Cond.methodLink RX6 220 yX6_silent ∈ TT := tm (tb_5 (List.mem_of_getElem? (i := 29) rfl)) rfl
theorem tw_im_X6_silent : Cond.instanceMethod yX6_silent ∈ TT := tm (tb_5 (List.mem_of_getElem? (i := 31) rfl)) rfl
theorem tw_cd_X6_silent : Cond.code yX6_silent cX6_silent 3 (Option.some Jvm.ClassFile.FieldType.int) ∈ TT := tm (tb_5 (List.mem_of_getElem? (i := 32) rfl)) rfl
theorem tw_ml_RX6_223 : Cond.methodLink RX6 223 yX6_mostHour ∈ TT := tm (tb_5 (List.mem_of_getElem? (i := 33) rfl)) rfl
theorem tw_im_X6_mostHour : Cond.instanceMethod yX6_mostHour ∈ TT := tm (tb_5 (List.mem_of_getElem? (i := 35) rfl)) rfl
theorem tw_cd_X6_mostHour : Cond.code yX6_mostHour cX6_mostHour 3 (Option.some Jvm.ClassFile.FieldType.int) ∈ TT := tm (tb_5 (List.mem_of_getElem? (i := 36) rfl)) rfl
theorem tw_ml_RL_77 : Cond.methodLink RL 77 yX6_hush ∈ TT := tm (tb_5 (List.mem_of_getElem? (i := 37) rfl)) rfl
theorem tw_im_X6_hush : Cond.instanceMethod yX6_hush ∈ TT := tm (tb_5 (List.mem_of_getElem? (i := 38) rfl)) rfl
theorem tw_se_X6_hush : Cond.selects RX6 yX6_hush yX6_hush ∈ TT := tm (tb_5 (List.mem_of_getElem? (i := 39) rfl)) rfl
theorem tw_cd_X6_hush : Cond.code yX6_hush cX6_hush 6 (Option.some Jvm.ClassFile.FieldType.int) ∈ TT := tm (tb_5 (List.mem_of_getElem? (i := 40) rfl)) rfl
theorem tw_ml_RL_81 : Cond.methodLink RL 81 yX6_council ∈ TT := tm (tb_5 (List.mem_of_getElem? (i := 41) rfl)) rfl
theorem tw_im_X6_council : Cond.instanceMethod yX6_council ∈ TT := tm (tb_5 (List.mem_of_getElem? (i := 42) rfl)) rfl
theorem tw_se_X6_council : Cond.selects RX6 yX6_council yX6_council ∈ TT := tm (tb_5 (List.mem_of_getElem? (i := 43) rfl)) rfl
theorem tw_cd_X6_council : Cond.code yX6_council cX6_council 10 (Option.some Jvm.ClassFile.FieldType.int) ∈ TT := tm (tb_5 (List.mem_of_getElem? (i := 44) rfl)) rfl
theorem tw_ml_RX6_226 : Cond.methodLink RX6 226 yX6_onesOf ∈ TT := tm (tb_5 (List.mem_of_getElem? (i := 45) rfl)) rfl
theorem tw_st_X6_onesOf : Cond.static yX6_onesOf ∈ TT := tm (tb_5 (List.mem_of_getElem? (i := 46) rfl)) rfl
theorem tw_cd_X6_onesOf : Cond.code yX6_onesOf cX6_onesOf 3 (Option.some Jvm.ClassFile.FieldType.int) ∈ TT := tm (tb_5 (List.mem_of_getElem? (i := 47) rfl)) rfl
theorem tw_ml_RL_85 : Cond.methodLink RL 85 yX6_lesson ∈ TT := tm (tb_5 (List.mem_of_getElem? (i := 48) rfl)) rfl
theorem tw_im_X6_lesson : Cond.instanceMethod yX6_lesson ∈ TT := tm (tb_5 (List.mem_of_getElem? (i := 49) rfl)) rfl
theorem tw_se_X6_lesson : Cond.selects RX6 yX6_lesson yX6_lesson ∈ TT := tm (tb_5 (List.mem_of_getElem? (i := 50) rfl)) rfl
theorem tw_cd_X6_lesson : Cond.code yX6_lesson cX6_lesson 7 (Option.some Jvm.ClassFile.FieldType.int) ∈ TT := tm (tb_5 (List.mem_of_getElem? (i := 51) rfl)) rfl
theorem tw_ml_RL_89 : Cond.methodLink RL 89 yX6_pair ∈ TT := tm (tb_5 (List.mem_of_getElem? (i := 52) rfl)) rfl
theorem tw_im_X6_pair : Cond.instanceMethod yX6_pair ∈ TT := tm (tb_5 (List.mem_of_getElem? (i := 53) rfl)) rfl
theorem tw_se_X6_pair : Cond.selects RX6 yX6_pair yX6_pair ∈ TT := tm (tb_5 (List.mem_of_getElem? (i := 54) rfl)) rfl
theorem tw_cd_X6_pair : Cond.code yX6_pair cX6_pair 8 (Option.some Jvm.ClassFile.FieldType.int) ∈ TT := tm (tb_5 (List.mem_of_getElem? (i := 55) rfl)) rfl
theorem tw_ml_RL_94 : Cond.methodLink RL 94 yX6_mean ∈ TT := tm (tb_5 (List.mem_of_getElem? (i := 56) rfl)) rfl
theorem tw_im_X6_mean : Cond.instanceMethod yX6_mean ∈ TT := tm (tb_5 (List.mem_of_getElem? (i := 57) rfl)) rfl
theorem tw_se_X6_mean : Cond.selects RX6 yX6_mean yX6_mean ∈ TT := tm (tb_5 (List.mem_of_getElem? (i := 58) rfl)) rfl
theorem tw_cd_X6_mean : Cond.code yX6_mean cX6_mean 4 (Option.some Jvm.ClassFile.FieldType.long) ∈ TT := tm (tb_5 (List.mem_of_getElem? (i := 59) rfl)) rfl
theorem tw_cg_RX6_229 : Cond.constantLong RX6 229 (-4611686018427387904) ∈ TT := tm (tb_5 (List.mem_of_getElem? (i := 60) rfl)) rfl
theorem tw_ml_RX6_231 : Cond.methodLink RX6 231 yX6_lowest ∈ TT := tm (tb_5 (List.mem_of_getElem? (i := 61) rfl)) rfl
theorem tw_st_X6_lowest : Cond.static yX6_lowest ∈ TT := tm (tb_5 (List.mem_of_getElem? (i := 62) rfl)) rfl
theorem tw_cd_X6_lowest : Cond.code yX6_lowest cX6_lowest 11 (Option.some Jvm.ClassFile.FieldType.long) ∈ TT := tm (tb_5 (List.mem_of_getElem? (i := 63) rfl)) rfl
theorem tw_ml_RL_98 : Cond.methodLink RL 98 yX6_share ∈ TT := tm (tb_5 (List.mem_of_getElem? (i := 64) rfl)) rfl
theorem tw_im_X6_share : Cond.instanceMethod yX6_share ∈ TT := tm (tb_5 (List.mem_of_getElem? (i := 65) rfl)) rfl
theorem tw_se_X6_share : Cond.selects RX6 yX6_share yX6_share ∈ TT := tm (tb_5 (List.mem_of_getElem? (i := 66) rfl)) rfl
theorem tw_cd_X6_share : Cond.code yX6_share cX6_share 5 (Option.some Jvm.ClassFile.FieldType.long) ∈ TT := tm (tb_5 (List.mem_of_getElem? (i := 67) rfl)) rfl
theorem tw_ml_RL_102 : Cond.methodLink RL 102 yX6_judge ∈ TT := tm (tb_5 (List.mem_of_getElem? (i := 68) rfl)) rfl
theorem tw_im_X6_judge : Cond.instanceMethod yX6_judge ∈ TT := tm (tb_5 (List.mem_of_getElem? (i := 69) rfl)) rfl
theorem tw_se_X6_judge : Cond.selects RX6 yX6_judge yX6_judge ∈ TT := tm (tb_5 (List.mem_of_getElem? (i := 70) rfl)) rfl
theorem tw_cd_X6_judge : Cond.code yX6_judge cX6_judge 3 (Option.some Jvm.ClassFile.FieldType.int) ∈ TT := tm (tb_5 (List.mem_of_getElem? (i := 71) rfl)) rfl
theorem tw_ml_RX6_235 : Cond.methodLink RX6 235 yX6_sheetWrong ∈ TT := tm (tb_5 (List.mem_of_getElem? (i := 72) rfl)) rfl
theorem tw_im_X6_sheetWrong : Cond.instanceMethod yX6_sheetWrong ∈ TT := tm (tb_5 (List.mem_of_getElem? (i := 74) rfl)) rfl
theorem tw_cd_X6_sheetWrong : Cond.code yX6_sheetWrong cX6_sheetWrong 2 (Option.some Jvm.ClassFile.FieldType.int) ∈ TT := tm (tb_5 (List.mem_of_getElem? (i := 75) rfl)) rfl
theorem tw_ml_RX6_238 : Cond.methodLink RX6 238 yX6_unlike ∈ TT := tm (tb_5 (List.mem_of_getElem? (i := 76) rfl)) rfl
theorem tw_im_X6_unlike : Cond.instanceMethod yX6_unlike ∈ TT := tm (tb_5 (List.mem_of_getElem? (i := 78) rfl)) rfl
theorem tw_cd_X6_unlike : Cond.code yX6_unlike cX6_unlike 4 (Option.some Jvm.ClassFile.FieldType.int) ∈ TT := tm (tb_5 (List.mem_of_getElem? (i := 79) rfl)) rfl
theorem tw_ml_RL_106 : Cond.methodLink RL 106 yX6_kinds ∈ TT := tm (tb_5 (List.mem_of_getElem? (i := 80) rfl)) rfl
theorem tw_im_X6_kinds : Cond.instanceMethod yX6_kinds ∈ TT := tm (tb_5 (List.mem_of_getElem? (i := 81) rfl)) rfl
theorem tw_se_X6_kinds : Cond.selects RX6 yX6_kinds yX6_kinds ∈ TT := tm (tb_5 (List.mem_of_getElem? (i := 82) rfl)) rfl
theorem tw_cd_X6_kinds : Cond.code yX6_kinds cX6_kinds 9 (Option.some Jvm.ClassFile.FieldType.int) ∈ TT := tm (tb_5 (List.mem_of_getElem? (i := 83) rfl)) rfl
theorem tw_ml_RL_110 : Cond.methodLink RL 110 yX6_nerves ∈ TT := tm (tb_5 (List.mem_of_getElem? (i := 84) rfl)) rfl
theorem tw_im_X6_nerves : Cond.instanceMethod yX6_nerves ∈ TT := tm (tb_5 (List.mem_of_getElem? (i := 85) rfl)) rfl
theorem tw_se_X6_nerves : Cond.selects RX6 yX6_nerves yX6_nerves ∈ TT := tm (tb_5 (List.mem_of_getElem? (i := 86) rfl)) rfl
theorem tw_cd_X6_nerves : Cond.code yX6_nerves cX6_nerves 10 (Option.some Jvm.ClassFile.FieldType.int) ∈ TT := tm (tb_5 (List.mem_of_getElem? (i := 87) rfl)) rfl
theorem tw_ml_RL_114 : Cond.methodLink RL 114 yX6_turned ∈ TT := tm (tb_5 (List.mem_of_getElem? (i := 88) rfl)) rfl
theorem tw_im_X6_turned : Cond.instanceMethod yX6_turned ∈ TT := tm (tb_5 (List.mem_of_getElem? (i := 89) rfl)) rfl
theorem tw_se_X6_turned : Cond.selects RX6 yX6_turned yX6_turned ∈ TT := tm (tb_5 (List.mem_of_getElem? (i := 90) rfl)) rfl
theorem tw_cd_X6_turned : Cond.code yX6_turned cX6_turned 5 (Option.some Jvm.ClassFile.FieldType.int) ∈ TT := tm (tb_5 (List.mem_of_getElem? (i := 91) rfl)) rfl
theorem tw_ml_RL_118 : Cond.methodLink RL 118 yX6_hours ∈ TT := tm (tb_5 (List.mem_of_getElem? (i := 92) rfl)) rfl
theorem tw_im_X6_hours : Cond.instanceMethod yX6_hours ∈ TT := tm (tb_5 (List.mem_of_getElem? (i := 93) rfl)) rfl
theorem tw_se_X6_hours : Cond.selects RX6 yX6_hours yX6_hours ∈ TT := tm (tb_5 (List.mem_of_getElem? (i := 94) rfl)) rfl
theorem tw_cd_X6_hours : Cond.code yX6_hours cX6_hours 6 (Option.some Jvm.ClassFile.FieldType.int) ∈ TT := tm (tb_5 (List.mem_of_getElem? (i := 95) rfl)) rfl
theorem tw_ml_RL_122 : Cond.methodLink RL 122 yX6_laws ∈ TT := tm (tb_5 (List.mem_of_getElem? (i := 96) rfl)) rfl
theorem tw_im_X6_laws : Cond.instanceMethod yX6_laws ∈ TT := tm (tb_5 (List.mem_of_getElem? (i := 97) rfl)) rfl
theorem tw_se_X6_laws : Cond.selects RX6 yX6_laws yX6_laws ∈ TT := tm (tb_5 (List.mem_of_getElem? (i := 98) rfl)) rfl
theorem tw_cd_X6_laws : Cond.code yX6_laws cX6_laws 6 (Option.some Jvm.ClassFile.FieldType.int) ∈ TT := tm (tb_5 (List.mem_of_getElem? (i := 99) rfl)) rfl
theorem tw_ml_RL_126 : Cond.methodLink RL 126 yX6_film ∈ TT := tm (tb_5 (List.mem_of_getElem? (i := 100) rfl)) rfl
theorem tw_im_X6_film : Cond.instanceMethod yX6_film ∈ TT := tm (tb_5 (List.mem_of_getElem? (i := 101) rfl)) rfl
theorem tw_se_X6_film : Cond.selects RX6 yX6_film yX6_film ∈ TT := tm (tb_5 (List.mem_of_getElem? (i := 102) rfl)) rfl
theorem tw_cd_X6_film : Cond.code yX6_film cX6_film 4 (Option.some Jvm.ClassFile.FieldType.int) ∈ TT := tm (tb_5 (List.mem_of_getElem? (i := 103) rfl)) rfl
theorem tw_ml_RL_130 : Cond.methodLink RL 130 yX6_drawn ∈ TT := tm (tb_5 (List.mem_of_getElem? (i := 104) rfl)) rfl
theorem tw_im_X6_drawn : Cond.instanceMethod yX6_drawn ∈ TT := tm (tb_5 (List.mem_of_getElem? (i := 105) rfl)) rfl
theorem tw_se_X6_drawn : Cond.selects RX6 yX6_drawn yX6_drawn ∈ TT := tm (tb_5 (List.mem_of_getElem? (i := 106) rfl)) rfl
theorem tw_cd_X6_drawn : Cond.code yX6_drawn cX6_drawn 5 (Option.some Jvm.ClassFile.FieldType.int) ∈ TT := tm (tb_5 (List.mem_of_getElem? (i := 107) rfl)) rfl
theorem tw_co_RX6_250 : Cond.constant RX6 250 (99999) ∈ TT := tm (tb_5 (List.mem_of_getElem? (i := 108) rfl)) rfl
theorem tw_ml_RX6_251 : Cond.methodLink RX6 251 yX6_crowds ∈ TT := tm (tb_5 (List.mem_of_getElem? (i := 109) rfl)) rfl
theorem tw_im_X6_crowds : Cond.instanceMethod yX6_crowds ∈ TT := tm (tb_5 (List.mem_of_getElem? (i := 111) rfl)) rfl
theorem tw_cd_X6_crowds : Cond.code yX6_crowds cX6_crowds 8 (Option.some Jvm.ClassFile.FieldType.int) ∈ TT := tm (tb_5 (List.mem_of_getElem? (i := 112) rfl)) rfl
theorem tw_cg_RX6_244 : Cond.constantLong RX6 244 (48271) ∈ TT := tm (tb_5 (List.mem_of_getElem? (i := 113) rfl)) rfl
theorem tw_cg_RX6_246 : Cond.constantLong RX6 246 (2147483647) ∈ TT := tm (tb_5 (List.mem_of_getElem? (i := 114) rfl)) rfl
theorem tw_cg_RX6_248 : Cond.constantLong RX6 248 (8) ∈ TT := tm (tb_5 (List.mem_of_getElem? (i := 115) rfl)) rfl
theorem tw_ml_RL_135 : Cond.methodLink RL 135 yX6_odds ∈ TT := tm (tb_5 (List.mem_of_getElem? (i := 116) rfl)) rfl
theorem tw_im_X6_odds : Cond.instanceMethod yX6_odds ∈ TT := tm (tb_5 (List.mem_of_getElem? (i := 117) rfl)) rfl
theorem tw_se_X6_odds : Cond.selects RX6 yX6_odds yX6_odds ∈ TT := tm (tb_5 (List.mem_of_getElem? (i := 118) rfl)) rfl
theorem tw_cd_X6_odds : Cond.code yX6_odds cX6_odds 8 (Option.some Jvm.ClassFile.FieldType.long) ∈ TT := tm (tb_5 (List.mem_of_getElem? (i := 119) rfl)) rfl
theorem tw_ml_RL_139 : Cond.methodLink RL 139 yX6_image ∈ TT := tm (tb_5 (List.mem_of_getElem? (i := 120) rfl)) rfl
theorem tw_im_X6_image : Cond.instanceMethod yX6_image ∈ TT := tm (tb_5 (List.mem_of_getElem? (i := 121) rfl)) rfl
theorem tw_se_X6_image : Cond.selects RX6 yX6_image yX6_image ∈ TT := tm (tb_5 (List.mem_of_getElem? (i := 122) rfl)) rfl
theorem tw_cd_X6_image : Cond.code yX6_image cX6_image 2 (Option.some Jvm.ClassFile.FieldType.int) ∈ TT := tm (tb_5 (List.mem_of_getElem? (i := 123) rfl)) rfl
theorem tw_ml_RL_143 : Cond.methodLink RL 143 yX6_back ∈ TT := tm (tb_5 (List.mem_of_getElem? (i := 124) rfl)) rfl
theorem tw_im_X6_back : Cond.instanceMethod yX6_back ∈ TT := tm (tb_5 (List.mem_of_getElem? (i := 125) rfl)) rfl
theorem tw_se_X6_back : Cond.selects RX6 yX6_back yX6_back ∈ TT := tm (tb_5 (List.mem_of_getElem? (i := 126) rfl)) rfl
theorem tw_cd_X6_back : Cond.code yX6_back cX6_back 2 (Option.some Jvm.ClassFile.FieldType.int) ∈ TT := tm (tb_5 (List.mem_of_getElem? (i := 127) rfl)) rfl
theorem tw_ml_RL_147 : Cond.methodLink RL 147 yX6_sheet ∈ TT := tm (tb_5 (List.mem_of_getElem? (i := 128) rfl)) rfl
theorem tw_im_X6_sheet : Cond.instanceMethod yX6_sheet ∈ TT := tm (tb_5 (List.mem_of_getElem? (i := 129) rfl)) rfl
theorem tw_se_X6_sheet : Cond.selects RX6 yX6_sheet yX6_sheet ∈ TT := tm (tb_5 (List.mem_of_getElem? (i := 130) rfl)) rfl
theorem tw_cd_X6_sheet : Cond.code yX6_sheet cX6_sheet 5 (Option.some Jvm.ClassFile.FieldType.int) ∈ TT := tm (tb_5 (List.mem_of_getElem? (i := 131) rfl)) rfl
theorem tw_ml_RL_151 : Cond.methodLink RL 151 yX6_cell ∈ TT := tm (tb_5 (List.mem_of_getElem? (i := 132) rfl)) rfl
theorem tw_im_X6_cell : Cond.instanceMethod yX6_cell ∈ TT := tm (tb_5 (List.mem_of_getElem? (i := 133) rfl)) rfl
theorem tw_se_X6_cell : Cond.selects RX6 yX6_cell yX6_cell ∈ TT := tm (tb_5 (List.mem_of_getElem? (i := 134) rfl)) rfl
theorem tw_cd_X6_cell : Cond.code yX6_cell cX6_cell 4 (Option.some Jvm.ClassFile.FieldType.int) ∈ TT := tm (tb_5 (List.mem_of_getElem? (i := 135) rfl)) rfl
theorem tw_ml_RL_156 : Cond.methodLink RL 156 yX6_copy ∈ TT := tm (tb_5 (List.mem_of_getElem? (i := 136) rfl)) rfl
theorem tw_im_X6_copy : Cond.instanceMethod yX6_copy ∈ TT := tm (tb_5 (List.mem_of_getElem? (i := 137) rfl)) rfl
theorem tw_se_X6_copy : Cond.selects RX6 yX6_copy yX6_copy ∈ TT := tm (tb_5 (List.mem_of_getElem? (i := 138) rfl)) rfl
theorem tw_cd_X6_copy : Cond.code yX6_copy cX6_copy 10 (Option.some Jvm.ClassFile.FieldType.int) ∈ TT := tm (tb_5 (List.mem_of_getElem? (i := 139) rfl)) rfl
theorem tw_ml_RL_161 : Cond.methodLink RL 161 yX6_townBy ∈ TT := tm (tb_5 (List.mem_of_getElem? (i := 140) rfl)) rfl
theorem tw_im_X6_townBy : Cond.instanceMethod yX6_townBy ∈ TT := tm (tb_5 (List.mem_of_getElem? (i := 141) rfl)) rfl
theorem tw_se_X6_townBy : Cond.selects RX6 yX6_townBy yX6_townBy ∈ TT := tm (tb_5 (List.mem_of_getElem? (i := 142) rfl)) rfl
theorem tw_cd_X6_townBy : Cond.code yX6_townBy cX6_townBy 9 (Option.some Jvm.ClassFile.FieldType.int) ∈ TT := tm (tb_5 (List.mem_of_getElem? (i := 143) rfl)) rfl
theorem tw_ml_RX6_258 : Cond.methodLink RX6 258 yX6_person ∈ TT := tm (tb_5 (List.mem_of_getElem? (i := 144) rfl)) rfl
theorem tw_ml_RL_165 : Cond.methodLink RL 165 yX6_taken ∈ TT := tm (tb_5 (List.mem_of_getElem? (i := 145) rfl)) rfl
theorem tw_im_X6_taken : Cond.instanceMethod yX6_taken ∈ TT := tm (tb_5 (List.mem_of_getElem? (i := 146) rfl)) rfl
theorem tw_se_X6_taken : Cond.selects RX6 yX6_taken yX6_taken ∈ TT := tm (tb_5 (List.mem_of_getElem? (i := 147) rfl)) rfl
theorem tw_cd_X6_taken : Cond.code yX6_taken cX6_taken 3 (Option.some Jvm.ClassFile.FieldType.int) ∈ TT := tm (tb_5 (List.mem_of_getElem? (i := 148) rfl)) rfl
theorem tw_ml_RX6_261 : Cond.methodLink RX6 261 yX6_isUnder ∈ TT := tm (tb_5 (List.mem_of_getElem? (i := 149) rfl)) rfl
theorem tw_st_X6_isUnder : Cond.static yX6_isUnder ∈ TT := tm (tb_5 (List.mem_of_getElem? (i := 150) rfl)) rfl
theorem tw_cd_X6_isUnder : Cond.code yX6_isUnder cX6_isUnder 2 (Option.some Jvm.ClassFile.FieldType.boolean) ∈ TT := tm (tb_5 (List.mem_of_getElem? (i := 151) rfl)) rfl
theorem tw_fl_RJ0_9 : Cond.fieldLink RJ0 9 "java/lang/String" "value" "[B" ∈ TT := tm (tb_5 (List.mem_of_getElem? (i := 152) rfl)) rfl
theorem tw_fl_RJ0_15 : Cond.fieldLink RJ0 15 "java/lang/String" "coder" "B" ∈ TT := tm (tb_5 (List.mem_of_getElem? (i := 153) rfl)) rfl
theorem tw_se_X2_step : Cond.selects RX2 yX2_step yX2_step ∈ TT := tm (tb_0 (List.mem_of_getElem? (i := 0) rfl)) rfl
theorem tw_se_X2_byteAt : Cond.selects RX2 yX2_byteAt yX2_byteAt ∈ TT := tm (tb_0 (List.mem_of_getElem? (i := 1) rfl)) rfl
theorem tw_se_X2_takeWord : Cond.selects RX2 yX2_takeWord yX2_takeWord ∈ TT := tm (tb_0 (List.mem_of_getElem? (i := 2) rfl)) rfl
theorem tw_se_X2_isWord : Cond.selects RX2 yX2_isWord yX2_isWord ∈ TT := tm (tb_0 (List.mem_of_getElem? (i := 3) rfl)) rfl
theorem tw_se_X2_takeNumber : Cond.selects RX2 yX2_takeNumber yX2_takeNumber ∈ TT := tm (tb_0 (List.mem_of_getElem? (i := 4) rfl)) rfl
theorem tw_se_X2_expect : Cond.selects RX2 yX2_expect yX2_expect ∈ TT := tm (tb_0 (List.mem_of_getElem? (i := 5) rfl)) rfl
theorem tw_se_X2_fail : Cond.selects RX2 yX2_fail yX2_fail ∈ TT := tm (tb_0 (List.mem_of_getElem? (i := 6) rfl)) rfl
theorem tw_se_X2_readEither : Cond.selects RX2 yX2_readEither yX2_readEither ∈ TT := tm (tb_0 (List.mem_of_getElem? (i := 7) rfl)) rfl
theorem tw_se_X2_readBoth : Cond.selects RX2 yX2_readBoth yX2_readBoth ∈ TT := tm (tb_0 (List.mem_of_getElem? (i := 8) rfl)) rfl
theorem tw_se_X2_readNot : Cond.selects RX2 yX2_readNot yX2_readNot ∈ TT := tm (tb_0 (List.mem_of_getElem? (i := 9) rfl)) rfl
theorem tw_se_X2_mayOpen : Cond.selects RX2 yX2_mayOpen yX2_mayOpen ∈ TT := tm (tb_0 (List.mem_of_getElem? (i := 10) rfl)) rfl
theorem tw_se_X2_readSum : Cond.selects RX2 yX2_readSum yX2_readSum ∈ TT := tm (tb_0 (List.mem_of_getElem? (i := 11) rfl)) rfl
theorem tw_se_X2_readTerm : Cond.selects RX2 yX2_readTerm yX2_readTerm ∈ TT := tm (tb_0 (List.mem_of_getElem? (i := 12) rfl)) rfl
theorem tw_se_X2_readOne : Cond.selects RX2 yX2_readOne yX2_readOne ∈ TT := tm (tb_0 (List.mem_of_getElem? (i := 13) rfl)) rfl
theorem tw_se_X5_startThought : Cond.selects RX5 yX5_startThought yX5_startThought ∈ TT := tm (tb_0 (List.mem_of_getElem? (i := 14) rfl)) rfl
theorem tw_se_X5_refusalOfTold : Cond.selects RX5 yX5_refusalOfTold yX5_refusalOfTold ∈ TT := tm (tb_0 (List.mem_of_getElem? (i := 15) rfl)) rfl
theorem tw_se_X5_firstOtherwise : Cond.selects RX5 yX5_firstOtherwise yX5_firstOtherwise ∈ TT := tm (tb_0 (List.mem_of_getElem? (i := 16) rfl)) rfl
theorem tw_se_X5_refusalOfToldAbout : Cond.selects RX5 yX5_refusalOfToldAbout yX5_refusalOfToldAbout ∈ TT := tm (tb_0 (List.mem_of_getElem? (i := 17) rfl)) rfl
theorem tw_se_X5_inCrowd : Cond.selects RX5 yX5_inCrowd yX5_inCrowd ∈ TT := tm (tb_0 (List.mem_of_getElem? (i := 18) rfl)) rfl
theorem tw_se_X6_next : Cond.selects RX6 yX6_next yX6_next ∈ TT := tm (tb_0 (List.mem_of_getElem? (i := 19) rfl)) rfl
theorem tw_se_X6_wordFrom : Cond.selects RX6 yX6_wordFrom yX6_wordFrom ∈ TT := tm (tb_0 (List.mem_of_getElem? (i := 20) rfl)) rfl
theorem tw_se_X6_eRead : Cond.selects RX6 yX6_eRead yX6_eRead ∈ TT := tm (tb_0 (List.mem_of_getElem? (i := 21) rfl)) rfl
theorem tw_se_X6_puts : Cond.selects RX6 yX6_puts yX6_puts ∈ TT := tm (tb_0 (List.mem_of_getElem? (i := 22) rfl)) rfl
theorem tw_se_X6_unwinds : Cond.selects RX6 yX6_unwinds yX6_unwinds ∈ TT := tm (tb_0 (List.mem_of_getElem? (i := 23) rfl)) rfl
theorem tw_se_X6_opensOne : Cond.selects RX6 yX6_opensOne yX6_opensOne ∈ TT := tm (tb_0 (List.mem_of_getElem? (i := 24) rfl)) rfl
theorem tw_se_X6_holds : Cond.selects RX6 yX6_holds yX6_holds ∈ TT := tm (tb_0 (List.mem_of_getElem? (i := 25) rfl)) rfl
theorem tw_se_X6_signOf : Cond.selects RX6 yX6_signOf yX6_signOf ∈ TT := tm (tb_0 (List.mem_of_getElem? (i := 26) rfl)) rfl
theorem tw_se_X6_between : Cond.selects RX6 yX6_between yX6_between ∈ TT := tm (tb_0 (List.mem_of_getElem? (i := 27) rfl)) rfl
theorem tw_se_X6_isOne : Cond.selects RX6 yX6_isOne yX6_isOne ∈ TT := tm (tb_0 (List.mem_of_getElem? (i := 28) rfl)) rfl
theorem tw_se_X6_asksOf : Cond.selects RX6 yX6_asksOf yX6_asksOf ∈ TT := tm (tb_0 (List.mem_of_getElem? (i := 29) rfl)) rfl
theorem tw_se_X6_ofDay : Cond.selects RX6 yX6_ofDay yX6_ofDay ∈ TT := tm (tb_0 (List.mem_of_getElem? (i := 30) rfl)) rfl
theorem tw_se_X6_says : Cond.selects RX6 yX6_says yX6_says ∈ TT := tm (tb_0 (List.mem_of_getElem? (i := 31) rfl)) rfl
theorem tw_se_X6_lies : Cond.selects RX6 yX6_lies yX6_lies ∈ TT := tm (tb_0 (List.mem_of_getElem? (i := 32) rfl)) rfl
theorem tw_se_X6_costsOf : Cond.selects RX6 yX6_costsOf yX6_costsOf ∈ TT := tm (tb_0 (List.mem_of_getElem? (i := 33) rfl)) rfl
theorem tw_se_X6_strokesOf : Cond.selects RX6 yX6_strokesOf yX6_strokesOf ∈ TT := tm (tb_0 (List.mem_of_getElem? (i := 34) rfl)) rfl
theorem tw_se_X6_liars : Cond.selects RX6 yX6_liars yX6_liars ∈ TT := tm (tb_0 (List.mem_of_getElem? (i := 35) rfl)) rfl
theorem tw_se_X6_strikesBy : Cond.selects RX6 yX6_strikesBy yX6_strikesBy ∈ TT := tm (tb_0 (List.mem_of_getElem? (i := 36) rfl)) rfl
theorem tw_se_X6_vows : Cond.selects RX6 yX6_vows yX6_vows ∈ TT := tm (tb_0 (List.mem_of_getElem? (i := 37) rfl)) rfl
theorem tw_se_X6_hourOf : Cond.selects RX6 yX6_hourOf yX6_hourOf ∈ TT := tm (tb_0 (List.mem_of_getElem? (i := 38) rfl)) rfl
theorem tw_se_X6_keeps : Cond.selects RX6 yX6_keeps yX6_keeps ∈ TT := tm (tb_0 (List.mem_of_getElem? (i := 39) rfl)) rfl
theorem tw_se_X6_goes : Cond.selects RX6 yX6_goes yX6_goes ∈ TT := tm (tb_0 (List.mem_of_getElem? (i := 40) rfl)) rfl
theorem tw_se_X6_lays : Cond.selects RX6 yX6_lays yX6_lays ∈ TT := tm (tb_0 (List.mem_of_getElem? (i := 41) rfl)) rfl
theorem tw_se_X6_tellsDay : Cond.selects RX6 yX6_tellsDay yX6_tellsDay ∈ TT := tm (tb_0 (List.mem_of_getElem? (i := 42) rfl)) rfl
theorem tw_se_X6_alone : Cond.selects RX6 yX6_alone yX6_alone ∈ TT := tm (tb_0 (List.mem_of_getElem? (i := 43) rfl)) rfl
theorem tw_se_X6_alikeWith : Cond.selects RX6 yX6_alikeWith yX6_alikeWith ∈ TT := tm (tb_0 (List.mem_of_getElem? (i := 44) rfl)) rfl
theorem tw_se_X6_longestRow : Cond.selects RX6 yX6_longestRow yX6_longestRow ∈ TT := tm (tb_0 (List.mem_of_getElem? (i := 45) rfl)) rfl
theorem tw_se_X6_silent : Cond.selects RX6 yX6_silent yX6_silent ∈ TT := tm (tb_0 (List.mem_of_getElem? (i := 46) rfl)) rfl
theorem tw_se_X6_mostHour : Cond.selects RX6 yX6_mostHour yX6_mostHour ∈ TT := tm (tb_0 (List.mem_of_getElem? (i := 47) rfl)) rfl
theorem tw_se_X6_sheetWrong : Cond.selects RX6 yX6_sheetWrong yX6_sheetWrong ∈ TT := tm (tb_0 (List.mem_of_getElem? (i := 48) rfl)) rfl
theorem tw_se_X6_unlike : Cond.selects RX6 yX6_unlike yX6_unlike ∈ TT := tm (tb_0 (List.mem_of_getElem? (i := 49) rfl)) rfl
theorem tw_se_X6_crowds : Cond.selects RX6 yX6_crowds yX6_crowds ∈ TT := tm (tb_0 (List.mem_of_getElem? (i := 50) rfl)) rfl
set_option maxRecDepth 20000 in
theorem hiX0 : ∀ w ∈ wsX00, w ∈ TT := by
  have h : ∀ w ∈ wsX00, w ∈ lw_tbl ∧ goodWord w = true := by decide +kernel
  exact fun w hw => tm (h w hw).1 (h w hw).2
set_option maxRecDepth 20000 in
theorem hiX1 : ∀ w ∈ wsX10, w ∈ TT := by
  have h : ∀ w ∈ wsX10, w ∈ lw_tbl ∧ goodWord w = true := by decide +kernel
  exact fun w hw => tm (h w hw).1 (h w hw).2
set_option maxRecDepth 20000 in
theorem hiX2 : ∀ w ∈ wsX20, w ∈ TT := by
  have h : ∀ w ∈ wsX20, w ∈ lw_tbl ∧ goodWord w = true := by decide +kernel
  exact fun w hw => tm (h w hw).1 (h w hw).2
set_option maxRecDepth 20000 in
theorem hiX3 : ∀ w ∈ wsX30, w ∈ TT := by
  have h : ∀ w ∈ wsX30, w ∈ lw_tbl ∧ goodWord w = true := by decide +kernel
  exact fun w hw => tm (h w hw).1 (h w hw).2
set_option maxRecDepth 20000 in
theorem hiX4 : ∀ w ∈ wsX40, w ∈ TT := by
  have h : ∀ w ∈ wsX40, w ∈ lw_tbl ∧ goodWord w = true := by decide +kernel
  exact fun w hw => tm (h w hw).1 (h w hw).2
set_option maxRecDepth 20000 in
theorem hiX5 : ∀ w ∈ wsX50, w ∈ TT := by
  have h : ∀ w ∈ wsX50, w ∈ lw_tbl ∧ goodWord w = true := by decide +kernel
  exact fun w hw => tm (h w hw).1 (h w hw).2
set_option maxRecDepth 20000 in
theorem hiX6 : ∀ w ∈ wsX60, w ∈ TT := by
  have h : ∀ w ∈ wsX60, w ∈ lw_tbl ∧ goodWord w = true := by decide +kernel
  exact fun w hw => tm (h w hw).1 (h w hw).2
end
section
-- STATE WORDS: an object is its numbers and its int rows, each by the number of its field
abbrev Ob : Type := (Nat → Int32) × (Nat → Nat → Int32)
abbrev GG : Type := va_G × ClassId × ClassId × ClassId × (Nat → Nat)
abbrev gA (g : GG) (k : Nat) : Nat := g.2.2.2.2 k
abbrev gTys (g : GG) : List (ClassId × FieldType) := [(g.2.1, .int), (g.2.2.1, .object RX1), (g.2.2.2.1, .object RX3)]
def setS (T : Ob) (k : Nat) (v : Int32) : Ob := (upd T.1 k v, T.2)
def setA (T : Ob) (k : Nat) (f : Nat → Int32) : Ob := (T.1, va_up T.2 k f)
def stA (T : Ob) (k : Nat) (i x : Int32) : Ob := (T.1, va_up T.2 k (upd (T.2 k) i.toNatClampNeg x))
abbrev oBell (g : GG) (O : Ob) : List Value := [.ref (gA g 1), .ref (gA g 2), .ref (gA g 35), .ref (gA g 37), .ref (gA g 40), .ref (gA g 46), .ref (gA g 52), .int (O.1 7), .int (O.1 8)]
abbrev oText (g : GG) (q : Nat) (O : Ob) : List Value := [.ref (gA g (q + 1)), .ref (gA g (q + 2)), .ref (gA g (q + 3)), .int (O.1 3)]
abbrev oRow (g : GG) (q : Nat) (O : Ob) : List Value := [.ref (gA g (q + 1)), .int (O.1 1), .int (O.1 2)]
abbrev oScribe (g : GG) (O : Ob) : List Value := [.ref (gA g 36), .int (O.1 1), .int (O.1 2), .int (O.1 3), .int (O.1 4), .int (O.1 5), .int (O.1 6)]
abbrev oDay (g : GG) : List Value := [.ref (gA g 38), .ref (gA g 39)]
abbrev oTown (g : GG) (q : Nat) (O : Ob) : List Value := [.ref (gA g (q + 1)), .ref (gA g (q + 2)), .ref (gA g (q + 3)), .ref (gA g (q + 4)), .ref (gA g (q + 5)), .int (O.1 5), .int (O.1 6), .int (O.1 7), .int (O.1 8), .int (O.1 9), .int (O.1 10), .ref (gA g (3 + 4 * (O.1 11).toNatClampNeg))]
abbrev oModel (g : GG) (O : Ob) : List Value := [.int (O.1 0), .ref (gA g 59), .ref (gA g 60), .ref (gA g 61), .ref (gA g 62), .ref (gA g 63), .int (O.1 6), .ref (gA g 64), .ref (gA g 65), .int (O.1 9), .int (O.1 10), .int (O.1 11), .ref (gA g 66), .ref (gA g 67), .ref (gA g 68), .ref (gA g 69), .ref (gA g 70), .ref (gA g 71), .int (O.1 18), .int (O.1 19), .int (O.1 20), .int (O.1 21), .ref (gA g 72), .ref (gA g 73), .int (O.1 24), .int (O.1 25), .int (O.1 26), .ref (gA g 74), .ref (gA g 75), .int (O.1 29), .ref (gA g 76), .ref (gA g 77), .ref (gA g 78), .int (O.1 33)]
/-- the whole world: the class (58 cells) and the reference (21) -/
def gW (g : GG) (bb : Ob) (tx rw : Nat → Ob) (sb dy : Ob) (tn : Nat → Ob) (mo : Ob) (jk : Nat → Nat → Int32) : va_W := [
  (gA g 0, .inr (5, oBell g bb)),
  (gA g 1, .inl (g.2.2.2.1, 6, .inr (.inr (.inr (.inr (fun i => some (gA g (3 + 4 * i)))))))),
  (gA g 2, .inl (g.2.2.1, 4, .inr (.inr (.inr (.inr (fun i => some (gA g (27 + 2 * i)))))))),
  (gA g 3, .inr (3, oText g 3 (tx 0))),
  (gA g 4, .inl (g.2.1, 160, .inl ((tx 0).2 0))),
  (gA g 5, .inl (g.2.1, 160, .inl (jk 0))),
  (gA g 6, .inl (g.2.1, 3, .inl ((tx 0).2 2))),
  (gA g 7, .inr (3, oText g 7 (tx 1))),
  (gA g 8, .inl (g.2.1, 160, .inl ((tx 1).2 0))),
  (gA g 9, .inl (g.2.1, 160, .inl (jk 1))),
  (gA g 10, .inl (g.2.1, 3, .inl ((tx 1).2 2))),
  (gA g 11, .inr (3, oText g 11 (tx 2))),
  (gA g 12, .inl (g.2.1, 160, .inl ((tx 2).2 0))),
  (gA g 13, .inl (g.2.1, 160, .inl (jk 2))),
  (gA g 14, .inl (g.2.1, 3, .inl ((tx 2).2 2))),
  (gA g 15, .inr (3, oText g 15 (tx 3))),
  (gA g 16, .inl (g.2.1, 160, .inl ((tx 3).2 0))),
  (gA g 17, .inl (g.2.1, 160, .inl (jk 3))),
  (gA g 18, .inl (g.2.1, 3, .inl ((tx 3).2 2))),
  (gA g 19, .inr (3, oText g 19 (tx 4))),
  (gA g 20, .inl (g.2.1, 160, .inl ((tx 4).2 0))),
  (gA g 21, .inl (g.2.1, 160, .inl (jk 4))),
  (gA g 22, .inl (g.2.1, 3, .inl ((tx 4).2 2))),
  (gA g 23, .inr (3, oText g 23 (tx 5))),
  (gA g 24, .inl (g.2.1, 160, .inl ((tx 5).2 0))),
  (gA g 25, .inl (g.2.1, 160, .inl (jk 5))),
  (gA g 26, .inl (g.2.1, 3, .inl ((tx 5).2 2))),
  (gA g 27, .inr (1, oRow g 27 (rw 0))),
  (gA g 28, .inl (g.2.1, 40, .inl ((rw 0).2 0))),
  (gA g 29, .inr (1, oRow g 29 (rw 1))),
  (gA g 30, .inl (g.2.1, 40, .inl ((rw 1).2 0))),
  (gA g 31, .inr (1, oRow g 31 (rw 2))),
  (gA g 32, .inl (g.2.1, 40, .inl ((rw 2).2 0))),
  (gA g 33, .inr (1, oRow g 33 (rw 3))),
  (gA g 34, .inl (g.2.1, 40, .inl ((rw 3).2 0))),
  (gA g 35, .inr (2, oScribe g sb)),
  (gA g 36, .inl (g.2.1, 160, .inl (sb.2 0))),
  (gA g 37, .inr (0, oDay g)),
  (gA g 38, .inl (g.2.1, 24, .inl (dy.2 0))),
  (gA g 39, .inl (g.2.1, 24, .inl (dy.2 1))),
  (gA g 40, .inr (4, oTown g 40 (tn 0))),
  (gA g 41, .inl (g.2.1, 6, .inl ((tn 0).2 0))),
  (gA g 42, .inl (g.2.1, 6, .inl ((tn 0).2 1))),
  (gA g 43, .inl (g.2.1, 6, .inl ((tn 0).2 2))),
  (gA g 44, .inl (g.2.1, 6, .inl ((tn 0).2 3))),
  (gA g 45, .inl (g.2.1, 6, .inl ((tn 0).2 4))),
  (gA g 46, .inr (4, oTown g 46 (tn 1))),
  (gA g 47, .inl (g.2.1, 6, .inl ((tn 1).2 0))),
  (gA g 48, .inl (g.2.1, 6, .inl ((tn 1).2 1))),
  (gA g 49, .inl (g.2.1, 6, .inl ((tn 1).2 2))),
  (gA g 50, .inl (g.2.1, 6, .inl ((tn 1).2 3))),
  (gA g 51, .inl (g.2.1, 6, .inl ((tn 1).2 4))),
  (gA g 52, .inr (4, oTown g 52 (tn 2))),
  (gA g 53, .inl (g.2.1, 6, .inl ((tn 2).2 0))),
  (gA g 54, .inl (g.2.1, 6, .inl ((tn 2).2 1))),
  (gA g 55, .inl (g.2.1, 6, .inl ((tn 2).2 2))),
  (gA g 56, .inl (g.2.1, 6, .inl ((tn 2).2 3))),
  (gA g 57, .inl (g.2.1, 6, .inl ((tn 2).2 4))),
  (gA g 58, .inr (6, oModel g mo)),
  (gA g 59, .inl (g.2.1, 6, .inl (mo.2 1))),
  (gA g 60, .inl (g.2.1, 6, .inl (mo.2 2))),
  (gA g 61, .inl (g.2.1, 24, .inl (mo.2 3))),
  (gA g 62, .inl (g.2.1, 3, .inl (mo.2 4))),
  (gA g 63, .inl (g.2.1, 160, .inl (mo.2 5))),
  (gA g 64, .inl (g.2.1, 1200, .inl (mo.2 7))),
  (gA g 65, .inl (g.2.1, 24, .inl (mo.2 8))),
  (gA g 66, .inl (g.2.1, 27, .inl (mo.2 12))),
  (gA g 67, .inl (g.2.1, 2, .inl (mo.2 13))),
  (gA g 68, .inl (g.2.1, 4, .inl (mo.2 14))),
  (gA g 69, .inl (g.2.1, 4, .inl (mo.2 15))),
  (gA g 70, .inl (g.2.1, 160, .inl (mo.2 16))),
  (gA g 71, .inl (g.2.1, 34, .inl (mo.2 17))),
  (gA g 72, .inl (g.2.1, 96, .inl (mo.2 22))),
  (gA g 73, .inl (g.2.1, 200, .inl (mo.2 23))),
  (gA g 74, .inl (g.2.1, 200, .inl (jk 6))),
  (gA g 75, .inl (g.2.1, 6, .inl (jk 7))),
  (gA g 76, .inl (g.2.1, 27, .inl (mo.2 30))),
  (gA g 77, .inl (g.2.1, 24, .inl (mo.2 31))),
  (gA g 78, .inl (g.2.1, 24, .inl (mo.2 32)))]
theorem gw_Bell {g : GG} {bb : Ob} {tx rw : Nat → Ob} {sb dy : Ob} {tn : Nat → Ob} {mo : Ob} {jk : Nat → Nat → Int32} : (gW g bb tx rw sb dy tn mo jk)[0]? = some (gA g 0, .inr (5, oBell g bb)) := rfl
theorem gw_Scribe {g : GG} {bb : Ob} {tx rw : Nat → Ob} {sb dy : Ob} {tn : Nat → Ob} {mo : Ob} {jk : Nat → Nat → Int32} : (gW g bb tx rw sb dy tn mo jk)[35]? = some (gA g 35, .inr (2, oScribe g sb)) := rfl
theorem gw_Scribe_a0 {g : GG} {bb : Ob} {tx rw : Nat → Ob} {sb dy : Ob} {tn : Nat → Ob} {mo : Ob} {jk : Nat → Nat → Int32} : (gW g bb tx rw sb dy tn mo jk)[36]? = some (gA g 36, .inl (g.2.1, 160, .inl (sb.2 0))) := rfl
theorem gs_Scribe_a0 {g : GG} {bb : Ob} {tx rw : Nat → Ob} {sb dy : Ob} {tn : Nat → Ob} {mo : Ob} {jk : Nat → Nat → Int32} {i x : Int32} : (gW g bb tx rw sb dy tn mo jk).set 36 (gA g 36, .inl (g.2.1, 160, .inl (upd (sb.2 0) i.toNatClampNeg (vp_nar .int x)))) = (gW g bb tx rw (stA sb 0 i x) dy tn mo jk) := rfl
theorem gw_Day {g : GG} {bb : Ob} {tx rw : Nat → Ob} {sb dy : Ob} {tn : Nat → Ob} {mo : Ob} {jk : Nat → Nat → Int32} : (gW g bb tx rw sb dy tn mo jk)[37]? = some (gA g 37, .inr (0, oDay g)) := rfl
theorem gw_Day_a0 {g : GG} {bb : Ob} {tx rw : Nat → Ob} {sb dy : Ob} {tn : Nat → Ob} {mo : Ob} {jk : Nat → Nat → Int32} : (gW g bb tx rw sb dy tn mo jk)[38]? = some (gA g 38, .inl (g.2.1, 24, .inl (dy.2 0))) := rfl
theorem gs_Day_a0 {g : GG} {bb : Ob} {tx rw : Nat → Ob} {sb dy : Ob} {tn : Nat → Ob} {mo : Ob} {jk : Nat → Nat → Int32} {i x : Int32} : (gW g bb tx rw sb dy tn mo jk).set 38 (gA g 38, .inl (g.2.1, 24, .inl (upd (dy.2 0) i.toNatClampNeg (vp_nar .int x)))) = (gW g bb tx rw sb (stA dy 0 i x) tn mo jk) := rfl
theorem gw_Day_a1 {g : GG} {bb : Ob} {tx rw : Nat → Ob} {sb dy : Ob} {tn : Nat → Ob} {mo : Ob} {jk : Nat → Nat → Int32} : (gW g bb tx rw sb dy tn mo jk)[39]? = some (gA g 39, .inl (g.2.1, 24, .inl (dy.2 1))) := rfl
theorem gs_Day_a1 {g : GG} {bb : Ob} {tx rw : Nat → Ob} {sb dy : Ob} {tn : Nat → Ob} {mo : Ob} {jk : Nat → Nat → Int32} {i x : Int32} : (gW g bb tx rw sb dy tn mo jk).set 39 (gA g 39, .inl (g.2.1, 24, .inl (upd (dy.2 1) i.toNatClampNeg (vp_nar .int x)))) = (gW g bb tx rw sb (stA dy 1 i x) tn mo jk) := rfl
theorem gw_Model {g : GG} {bb : Ob} {tx rw : Nat → Ob} {sb dy : Ob} {tn : Nat → Ob} {mo : Ob} {jk : Nat → Nat → Int32} : (gW g bb tx rw sb dy tn mo jk)[58]? = some (gA g 58, .inr (6, oModel g mo)) := rfl
theorem gw_Model_a1 {g : GG} {bb : Ob} {tx rw : Nat → Ob} {sb dy : Ob} {tn : Nat → Ob} {mo : Ob} {jk : Nat → Nat → Int32} : (gW g bb tx rw sb dy tn mo jk)[59]? = some (gA g 59, .inl (g.2.1, 6, .inl (mo.2 1))) := rfl
theorem gs_Model_a1 {g : GG} {bb : Ob} {tx rw : Nat → Ob} {sb dy : Ob} {tn : Nat → Ob} {mo : Ob} {jk : Nat → Nat → Int32} {i x : Int32} : (gW g bb tx rw sb dy tn mo jk).set 59 (gA g 59, .inl (g.2.1, 6, .inl (upd (mo.2 1) i.toNatClampNeg (vp_nar .int x)))) = (gW g bb tx rw sb dy tn (stA mo 1 i x) jk) := rfl
theorem gw_Model_a2 {g : GG} {bb : Ob} {tx rw : Nat → Ob} {sb dy : Ob} {tn : Nat → Ob} {mo : Ob} {jk : Nat → Nat → Int32} : (gW g bb tx rw sb dy tn mo jk)[60]? = some (gA g 60, .inl (g.2.1, 6, .inl (mo.2 2))) := rfl
theorem gs_Model_a2 {g : GG} {bb : Ob} {tx rw : Nat → Ob} {sb dy : Ob} {tn : Nat → Ob} {mo : Ob} {jk : Nat → Nat → Int32} {i x : Int32} : (gW g bb tx rw sb dy tn mo jk).set 60 (gA g 60, .inl (g.2.1, 6, .inl (upd (mo.2 2) i.toNatClampNeg (vp_nar .int x)))) = (gW g bb tx rw sb dy tn (stA mo 2 i x) jk) := rfl
theorem gw_Model_a3 {g : GG} {bb : Ob} {tx rw : Nat → Ob} {sb dy : Ob} {tn : Nat → Ob} {mo : Ob} {jk : Nat → Nat → Int32} : (gW g bb tx rw sb dy tn mo jk)[61]? = some (gA g 61, .inl (g.2.1, 24, .inl (mo.2 3))) := rfl
theorem gs_Model_a3 {g : GG} {bb : Ob} {tx rw : Nat → Ob} {sb dy : Ob} {tn : Nat → Ob} {mo : Ob} {jk : Nat → Nat → Int32} {i x : Int32} : (gW g bb tx rw sb dy tn mo jk).set 61 (gA g 61, .inl (g.2.1, 24, .inl (upd (mo.2 3) i.toNatClampNeg (vp_nar .int x)))) = (gW g bb tx rw sb dy tn (stA mo 3 i x) jk) := rfl
theorem gw_Model_a4 {g : GG} {bb : Ob} {tx rw : Nat → Ob} {sb dy : Ob} {tn : Nat → Ob} {mo : Ob} {jk : Nat → Nat → Int32} : (gW g bb tx rw sb dy tn mo jk)[62]? = some (gA g 62, .inl (g.2.1, 3, .inl (mo.2 4))) := rfl
theorem gs_Model_a4 {g : GG} {bb : Ob} {tx rw : Nat → Ob} {sb dy : Ob} {tn : Nat → Ob} {mo : Ob} {jk : Nat → Nat → Int32} {i x : Int32} : (gW g bb tx rw sb dy tn mo jk).set 62 (gA g 62, .inl (g.2.1, 3, .inl (upd (mo.2 4) i.toNatClampNeg (vp_nar .int x)))) = (gW g bb tx rw sb dy tn (stA mo 4 i x) jk) := rfl
theorem gw_Model_a5 {g : GG} {bb : Ob} {tx rw : Nat → Ob} {sb dy : Ob} {tn : Nat → Ob} {mo : Ob} {jk : Nat → Nat → Int32} : (gW g bb tx rw sb dy tn mo jk)[63]? = some (gA g 63, .inl (g.2.1, 160, .inl (mo.2 5))) := rfl
theorem gs_Model_a5 {g : GG} {bb : Ob} {tx rw : Nat → Ob} {sb dy : Ob} {tn : Nat → Ob} {mo : Ob} {jk : Nat → Nat → Int32} {i x : Int32} : (gW g bb tx rw sb dy tn mo jk).set 63 (gA g 63, .inl (g.2.1, 160, .inl (upd (mo.2 5) i.toNatClampNeg (vp_nar .int x)))) = (gW g bb tx rw sb dy tn (stA mo 5 i x) jk) := rfl
theorem gw_Model_a7 {g : GG} {bb : Ob} {tx rw : Nat → Ob} {sb dy : Ob} {tn : Nat → Ob} {mo : Ob} {jk : Nat → Nat → Int32} : (gW g bb tx rw sb dy tn mo jk)[64]? = some (gA g 64, .inl (g.2.1, 1200, .inl (mo.2 7))) := rfl
theorem gs_Model_a7 {g : GG} {bb : Ob} {tx rw : Nat → Ob} {sb dy : Ob} {tn : Nat → Ob} {mo : Ob} {jk : Nat → Nat → Int32} {i x : Int32} : (gW g bb tx rw sb dy tn mo jk).set 64 (gA g 64, .inl (g.2.1, 1200, .inl (upd (mo.2 7) i.toNatClampNeg (vp_nar .int x)))) = (gW g bb tx rw sb dy tn (stA mo 7 i x) jk) := rfl
theorem gw_Model_a8 {g : GG} {bb : Ob} {tx rw : Nat → Ob} {sb dy : Ob} {tn : Nat → Ob} {mo : Ob} {jk : Nat → Nat → Int32} : (gW g bb tx rw sb dy tn mo jk)[65]? = some (gA g 65, .inl (g.2.1, 24, .inl (mo.2 8))) := rfl
theorem gs_Model_a8 {g : GG} {bb : Ob} {tx rw : Nat → Ob} {sb dy : Ob} {tn : Nat → Ob} {mo : Ob} {jk : Nat → Nat → Int32} {i x : Int32} : (gW g bb tx rw sb dy tn mo jk).set 65 (gA g 65, .inl (g.2.1, 24, .inl (upd (mo.2 8) i.toNatClampNeg (vp_nar .int x)))) = (gW g bb tx rw sb dy tn (stA mo 8 i x) jk) := rfl
theorem gw_Model_a12 {g : GG} {bb : Ob} {tx rw : Nat → Ob} {sb dy : Ob} {tn : Nat → Ob} {mo : Ob} {jk : Nat → Nat → Int32} : (gW g bb tx rw sb dy tn mo jk)[66]? = some (gA g 66, .inl (g.2.1, 27, .inl (mo.2 12))) := rfl
theorem gs_Model_a12 {g : GG} {bb : Ob} {tx rw : Nat → Ob} {sb dy : Ob} {tn : Nat → Ob} {mo : Ob} {jk : Nat → Nat → Int32} {i x : Int32} : (gW g bb tx rw sb dy tn mo jk).set 66 (gA g 66, .inl (g.2.1, 27, .inl (upd (mo.2 12) i.toNatClampNeg (vp_nar .int x)))) = (gW g bb tx rw sb dy tn (stA mo 12 i x) jk) := rfl
theorem gw_Model_a13 {g : GG} {bb : Ob} {tx rw : Nat → Ob} {sb dy : Ob} {tn : Nat → Ob} {mo : Ob} {jk : Nat → Nat → Int32} : (gW g bb tx rw sb dy tn mo jk)[67]? = some (gA g 67, .inl (g.2.1, 2, .inl (mo.2 13))) := rfl
theorem gs_Model_a13 {g : GG} {bb : Ob} {tx rw : Nat → Ob} {sb dy : Ob} {tn : Nat → Ob} {mo : Ob} {jk : Nat → Nat → Int32} {i x : Int32} : (gW g bb tx rw sb dy tn mo jk).set 67 (gA g 67, .inl (g.2.1, 2, .inl (upd (mo.2 13) i.toNatClampNeg (vp_nar .int x)))) = (gW g bb tx rw sb dy tn (stA mo 13 i x) jk) := rfl
theorem gw_Model_a14 {g : GG} {bb : Ob} {tx rw : Nat → Ob} {sb dy : Ob} {tn : Nat → Ob} {mo : Ob} {jk : Nat → Nat → Int32} : (gW g bb tx rw sb dy tn mo jk)[68]? = some (gA g 68, .inl (g.2.1, 4, .inl (mo.2 14))) := rfl
theorem gs_Model_a14 {g : GG} {bb : Ob} {tx rw : Nat → Ob} {sb dy : Ob} {tn : Nat → Ob} {mo : Ob} {jk : Nat → Nat → Int32} {i x : Int32} : (gW g bb tx rw sb dy tn mo jk).set 68 (gA g 68, .inl (g.2.1, 4, .inl (upd (mo.2 14) i.toNatClampNeg (vp_nar .int x)))) = (gW g bb tx rw sb dy tn (stA mo 14 i x) jk) := rfl
theorem gw_Model_a15 {g : GG} {bb : Ob} {tx rw : Nat → Ob} {sb dy : Ob} {tn : Nat → Ob} {mo : Ob} {jk : Nat → Nat → Int32} : (gW g bb tx rw sb dy tn mo jk)[69]? = some (gA g 69, .inl (g.2.1, 4, .inl (mo.2 15))) := rfl
theorem gs_Model_a15 {g : GG} {bb : Ob} {tx rw : Nat → Ob} {sb dy : Ob} {tn : Nat → Ob} {mo : Ob} {jk : Nat → Nat → Int32} {i x : Int32} : (gW g bb tx rw sb dy tn mo jk).set 69 (gA g 69, .inl (g.2.1, 4, .inl (upd (mo.2 15) i.toNatClampNeg (vp_nar .int x)))) = (gW g bb tx rw sb dy tn (stA mo 15 i x) jk) := rfl
theorem gw_Model_a16 {g : GG} {bb : Ob} {tx rw : Nat → Ob} {sb dy : Ob} {tn : Nat → Ob} {mo : Ob} {jk : Nat → Nat → Int32} : (gW g bb tx rw sb dy tn mo jk)[70]? = some (gA g 70, .inl (g.2.1, 160, .inl (mo.2 16))) := rfl
theorem gs_Model_a16 {g : GG} {bb : Ob} {tx rw : Nat → Ob} {sb dy : Ob} {tn : Nat → Ob} {mo : Ob} {jk : Nat → Nat → Int32} {i x : Int32} : (gW g bb tx rw sb dy tn mo jk).set 70 (gA g 70, .inl (g.2.1, 160, .inl (upd (mo.2 16) i.toNatClampNeg (vp_nar .int x)))) = (gW g bb tx rw sb dy tn (stA mo 16 i x) jk) := rfl
theorem gw_Model_a17 {g : GG} {bb : Ob} {tx rw : Nat → Ob} {sb dy : Ob} {tn : Nat → Ob} {mo : Ob} {jk : Nat → Nat → Int32} : (gW g bb tx rw sb dy tn mo jk)[71]? = some (gA g 71, .inl (g.2.1, 34, .inl (mo.2 17))) := rfl
theorem gs_Model_a17 {g : GG} {bb : Ob} {tx rw : Nat → Ob} {sb dy : Ob} {tn : Nat → Ob} {mo : Ob} {jk : Nat → Nat → Int32} {i x : Int32} : (gW g bb tx rw sb dy tn mo jk).set 71 (gA g 71, .inl (g.2.1, 34, .inl (upd (mo.2 17) i.toNatClampNeg (vp_nar .int x)))) = (gW g bb tx rw sb dy tn (stA mo 17 i x) jk) := rfl
theorem gw_Model_a22 {g : GG} {bb : Ob} {tx rw : Nat → Ob} {sb dy : Ob} {tn : Nat → Ob} {mo : Ob} {jk : Nat → Nat → Int32} : (gW g bb tx rw sb dy tn mo jk)[72]? = some (gA g 72, .inl (g.2.1, 96, .inl (mo.2 22))) := rfl
theorem gs_Model_a22 {g : GG} {bb : Ob} {tx rw : Nat → Ob} {sb dy : Ob} {tn : Nat → Ob} {mo : Ob} {jk : Nat → Nat → Int32} {i x : Int32} : (gW g bb tx rw sb dy tn mo jk).set 72 (gA g 72, .inl (g.2.1, 96, .inl (upd (mo.2 22) i.toNatClampNeg (vp_nar .int x)))) = (gW g bb tx rw sb dy tn (stA mo 22 i x) jk) := rfl
theorem gw_Model_a23 {g : GG} {bb : Ob} {tx rw : Nat → Ob} {sb dy : Ob} {tn : Nat → Ob} {mo : Ob} {jk : Nat → Nat → Int32} : (gW g bb tx rw sb dy tn mo jk)[73]? = some (gA g 73, .inl (g.2.1, 200, .inl (mo.2 23))) := rfl
theorem gs_Model_a23 {g : GG} {bb : Ob} {tx rw : Nat → Ob} {sb dy : Ob} {tn : Nat → Ob} {mo : Ob} {jk : Nat → Nat → Int32} {i x : Int32} : (gW g bb tx rw sb dy tn mo jk).set 73 (gA g 73, .inl (g.2.1, 200, .inl (upd (mo.2 23) i.toNatClampNeg (vp_nar .int x)))) = (gW g bb tx rw sb dy tn (stA mo 23 i x) jk) := rfl
theorem gw_Model_a30 {g : GG} {bb : Ob} {tx rw : Nat → Ob} {sb dy : Ob} {tn : Nat → Ob} {mo : Ob} {jk : Nat → Nat → Int32} : (gW g bb tx rw sb dy tn mo jk)[76]? = some (gA g 76, .inl (g.2.1, 27, .inl (mo.2 30))) := rfl
theorem gs_Model_a30 {g : GG} {bb : Ob} {tx rw : Nat → Ob} {sb dy : Ob} {tn : Nat → Ob} {mo : Ob} {jk : Nat → Nat → Int32} {i x : Int32} : (gW g bb tx rw sb dy tn mo jk).set 76 (gA g 76, .inl (g.2.1, 27, .inl (upd (mo.2 30) i.toNatClampNeg (vp_nar .int x)))) = (gW g bb tx rw sb dy tn (stA mo 30 i x) jk) := rfl
theorem gw_Model_a31 {g : GG} {bb : Ob} {tx rw : Nat → Ob} {sb dy : Ob} {tn : Nat → Ob} {mo : Ob} {jk : Nat → Nat → Int32} : (gW g bb tx rw sb dy tn mo jk)[77]? = some (gA g 77, .inl (g.2.1, 24, .inl (mo.2 31))) := rfl
theorem gs_Model_a31 {g : GG} {bb : Ob} {tx rw : Nat → Ob} {sb dy : Ob} {tn : Nat → Ob} {mo : Ob} {jk : Nat → Nat → Int32} {i x : Int32} : (gW g bb tx rw sb dy tn mo jk).set 77 (gA g 77, .inl (g.2.1, 24, .inl (upd (mo.2 31) i.toNatClampNeg (vp_nar .int x)))) = (gW g bb tx rw sb dy tn (stA mo 31 i x) jk) := rfl
theorem gw_Model_a32 {g : GG} {bb : Ob} {tx rw : Nat → Ob} {sb dy : Ob} {tn : Nat → Ob} {mo : Ob} {jk : Nat → Nat → Int32} : (gW g bb tx rw sb dy tn mo jk)[78]? = some (gA g 78, .inl (g.2.1, 24, .inl (mo.2 32))) := rfl
theorem gs_Model_a32 {g : GG} {bb : Ob} {tx rw : Nat → Ob} {sb dy : Ob} {tn : Nat → Ob} {mo : Ob} {jk : Nat → Nat → Int32} {i x : Int32} : (gW g bb tx rw sb dy tn mo jk).set 78 (gA g 78, .inl (g.2.1, 24, .inl (upd (mo.2 32) i.toNatClampNeg (vp_nar .int x)))) = (gW g bb tx rw sb dy tn (stA mo 32 i x) jk) := rfl
theorem gw_Model_a27 {g : GG} {bb : Ob} {tx rw : Nat → Ob} {sb dy : Ob} {tn : Nat → Ob} {mo : Ob} {jk : Nat → Nat → Int32} : (gW g bb tx rw sb dy tn mo jk)[74]? = some (gA g 74, .inl (g.2.1, 200, .inl (jk 6))) := rfl
theorem gs_Model_a27 {g : GG} {bb : Ob} {tx rw : Nat → Ob} {sb dy : Ob} {tn : Nat → Ob} {mo : Ob} {jk : Nat → Nat → Int32} {i x : Int32} : (gW g bb tx rw sb dy tn mo jk).set 74 (gA g 74, .inl (g.2.1, 200, .inl (upd (jk 6) i.toNatClampNeg (vp_nar .int x)))) = (gW g bb tx rw sb dy tn mo (va_up jk 6 (upd (jk 6) i.toNatClampNeg x))) := rfl
theorem gw_Model_a28 {g : GG} {bb : Ob} {tx rw : Nat → Ob} {sb dy : Ob} {tn : Nat → Ob} {mo : Ob} {jk : Nat → Nat → Int32} : (gW g bb tx rw sb dy tn mo jk)[75]? = some (gA g 75, .inl (g.2.1, 6, .inl (jk 7))) := rfl
theorem gs_Model_a28 {g : GG} {bb : Ob} {tx rw : Nat → Ob} {sb dy : Ob} {tn : Nat → Ob} {mo : Ob} {jk : Nat → Nat → Int32} {i x : Int32} : (gW g bb tx rw sb dy tn mo jk).set 75 (gA g 75, .inl (g.2.1, 6, .inl (upd (jk 7) i.toNatClampNeg (vp_nar .int x)))) = (gW g bb tx rw sb dy tn mo (va_up jk 7 (upd (jk 7) i.toNatClampNeg x))) := rfl
theorem gs_Bell_f7 {g : GG} {bb : Ob} {tx rw : Nat → Ob} {sb dy : Ob} {tn : Nat → Ob} {mo : Ob} {jk : Nat → Nat → Int32} {v : Int32} : (gW g bb tx rw sb dy tn mo jk).set 0 (gA g 0, .inr (5, (oBell g bb).set 7 (.int v))) = (gW g (setS bb 7 v) tx rw sb dy tn mo jk) := rfl
theorem gs_Bell_f8 {g : GG} {bb : Ob} {tx rw : Nat → Ob} {sb dy : Ob} {tn : Nat → Ob} {mo : Ob} {jk : Nat → Nat → Int32} {v : Int32} : (gW g bb tx rw sb dy tn mo jk).set 0 (gA g 0, .inr (5, (oBell g bb).set 8 (.int v))) = (gW g (setS bb 8 v) tx rw sb dy tn mo jk) := rfl
theorem gs_Scribe_f1 {g : GG} {bb : Ob} {tx rw : Nat → Ob} {sb dy : Ob} {tn : Nat → Ob} {mo : Ob} {jk : Nat → Nat → Int32} {v : Int32} : (gW g bb tx rw sb dy tn mo jk).set 35 (gA g 35, .inr (2, (oScribe g sb).set 1 (.int v))) = (gW g bb tx rw (setS sb 1 v) dy tn mo jk) := rfl
theorem gs_Scribe_f2 {g : GG} {bb : Ob} {tx rw : Nat → Ob} {sb dy : Ob} {tn : Nat → Ob} {mo : Ob} {jk : Nat → Nat → Int32} {v : Int32} : (gW g bb tx rw sb dy tn mo jk).set 35 (gA g 35, .inr (2, (oScribe g sb).set 2 (.int v))) = (gW g bb tx rw (setS sb 2 v) dy tn mo jk) := rfl
theorem gs_Scribe_f3 {g : GG} {bb : Ob} {tx rw : Nat → Ob} {sb dy : Ob} {tn : Nat → Ob} {mo : Ob} {jk : Nat → Nat → Int32} {v : Int32} : (gW g bb tx rw sb dy tn mo jk).set 35 (gA g 35, .inr (2, (oScribe g sb).set 3 (.int v))) = (gW g bb tx rw (setS sb 3 v) dy tn mo jk) := rfl
theorem gs_Scribe_f4 {g : GG} {bb : Ob} {tx rw : Nat → Ob} {sb dy : Ob} {tn : Nat → Ob} {mo : Ob} {jk : Nat → Nat → Int32} {v : Int32} : (gW g bb tx rw sb dy tn mo jk).set 35 (gA g 35, .inr (2, (oScribe g sb).set 4 (.int v))) = (gW g bb tx rw (setS sb 4 v) dy tn mo jk) := rfl
theorem gs_Scribe_f5 {g : GG} {bb : Ob} {tx rw : Nat → Ob} {sb dy : Ob} {tn : Nat → Ob} {mo : Ob} {jk : Nat → Nat → Int32} {v : Int32} : (gW g bb tx rw sb dy tn mo jk).set 35 (gA g 35, .inr (2, (oScribe g sb).set 5 (.int v))) = (gW g bb tx rw (setS sb 5 v) dy tn mo jk) := rfl
theorem gs_Scribe_f6 {g : GG} {bb : Ob} {tx rw : Nat → Ob} {sb dy : Ob} {tn : Nat → Ob} {mo : Ob} {jk : Nat → Nat → Int32} {v : Int32} : (gW g bb tx rw sb dy tn mo jk).set 35 (gA g 35, .inr (2, (oScribe g sb).set 6 (.int v))) = (gW g bb tx rw (setS sb 6 v) dy tn mo jk) := rfl
theorem gs_Model_f0 {g : GG} {bb : Ob} {tx rw : Nat → Ob} {sb dy : Ob} {tn : Nat → Ob} {mo : Ob} {jk : Nat → Nat → Int32} {v : Int32} : (gW g bb tx rw sb dy tn mo jk).set 58 (gA g 58, .inr (6, (oModel g mo).set 0 (.int v))) = (gW g bb tx rw sb dy tn (setS mo 0 v) jk) := rfl
theorem gs_Model_f6 {g : GG} {bb : Ob} {tx rw : Nat → Ob} {sb dy : Ob} {tn : Nat → Ob} {mo : Ob} {jk : Nat → Nat → Int32} {v : Int32} : (gW g bb tx rw sb dy tn mo jk).set 58 (gA g 58, .inr (6, (oModel g mo).set 6 (.int v))) = (gW g bb tx rw sb dy tn (setS mo 6 v) jk) := rfl
theorem gs_Model_f9 {g : GG} {bb : Ob} {tx rw : Nat → Ob} {sb dy : Ob} {tn : Nat → Ob} {mo : Ob} {jk : Nat → Nat → Int32} {v : Int32} : (gW g bb tx rw sb dy tn mo jk).set 58 (gA g 58, .inr (6, (oModel g mo).set 9 (.int v))) = (gW g bb tx rw sb dy tn (setS mo 9 v) jk) := rfl
theorem gs_Model_f10 {g : GG} {bb : Ob} {tx rw : Nat → Ob} {sb dy : Ob} {tn : Nat → Ob} {mo : Ob} {jk : Nat → Nat → Int32} {v : Int32} : (gW g bb tx rw sb dy tn mo jk).set 58 (gA g 58, .inr (6, (oModel g mo).set 10 (.int v))) = (gW g bb tx rw sb dy tn (setS mo 10 v) jk) := rfl
theorem gs_Model_f11 {g : GG} {bb : Ob} {tx rw : Nat → Ob} {sb dy : Ob} {tn : Nat → Ob} {mo : Ob} {jk : Nat → Nat → Int32} {v : Int32} : (gW g bb tx rw sb dy tn mo jk).set 58 (gA g 58, .inr (6, (oModel g mo).set 11 (.int v))) = (gW g bb tx rw sb dy tn (setS mo 11 v) jk) := rfl
theorem gs_Model_f18 {g : GG} {bb : Ob} {tx rw : Nat → Ob} {sb dy : Ob} {tn : Nat → Ob} {mo : Ob} {jk : Nat → Nat → Int32} {v : Int32} : (gW g bb tx rw sb dy tn mo jk).set 58 (gA g 58, .inr (6, (oModel g mo).set 18 (.int v))) = (gW g bb tx rw sb dy tn (setS mo 18 v) jk) := rfl
theorem gs_Model_f19 {g : GG} {bb : Ob} {tx rw : Nat → Ob} {sb dy : Ob} {tn : Nat → Ob} {mo : Ob} {jk : Nat → Nat → Int32} {v : Int32} : (gW g bb tx rw sb dy tn mo jk).set 58 (gA g 58, .inr (6, (oModel g mo).set 19 (.int v))) = (gW g bb tx rw sb dy tn (setS mo 19 v) jk) := rfl
theorem gs_Model_f20 {g : GG} {bb : Ob} {tx rw : Nat → Ob} {sb dy : Ob} {tn : Nat → Ob} {mo : Ob} {jk : Nat → Nat → Int32} {v : Int32} : (gW g bb tx rw sb dy tn mo jk).set 58 (gA g 58, .inr (6, (oModel g mo).set 20 (.int v))) = (gW g bb tx rw sb dy tn (setS mo 20 v) jk) := rfl
theorem gs_Model_f21 {g : GG} {bb : Ob} {tx rw : Nat → Ob} {sb dy : Ob} {tn : Nat → Ob} {mo : Ob} {jk : Nat → Nat → Int32} {v : Int32} : (gW g bb tx rw sb dy tn mo jk).set 58 (gA g 58, .inr (6, (oModel g mo).set 21 (.int v))) = (gW g bb tx rw sb dy tn (setS mo 21 v) jk) := rfl
theorem gs_Model_f24 {g : GG} {bb : Ob} {tx rw : Nat → Ob} {sb dy : Ob} {tn : Nat → Ob} {mo : Ob} {jk : Nat → Nat → Int32} {v : Int32} : (gW g bb tx rw sb dy tn mo jk).set 58 (gA g 58, .inr (6, (oModel g mo).set 24 (.int v))) = (gW g bb tx rw sb dy tn (setS mo 24 v) jk) := rfl
theorem gs_Model_f25 {g : GG} {bb : Ob} {tx rw : Nat → Ob} {sb dy : Ob} {tn : Nat → Ob} {mo : Ob} {jk : Nat → Nat → Int32} {v : Int32} : (gW g bb tx rw sb dy tn mo jk).set 58 (gA g 58, .inr (6, (oModel g mo).set 25 (.int v))) = (gW g bb tx rw sb dy tn (setS mo 25 v) jk) := rfl
theorem gs_Model_f26 {g : GG} {bb : Ob} {tx rw : Nat → Ob} {sb dy : Ob} {tn : Nat → Ob} {mo : Ob} {jk : Nat → Nat → Int32} {v : Int32} : (gW g bb tx rw sb dy tn mo jk).set 58 (gA g 58, .inr (6, (oModel g mo).set 26 (.int v))) = (gW g bb tx rw sb dy tn (setS mo 26 v) jk) := rfl
theorem gs_Model_f29 {g : GG} {bb : Ob} {tx rw : Nat → Ob} {sb dy : Ob} {tn : Nat → Ob} {mo : Ob} {jk : Nat → Nat → Int32} {v : Int32} : (gW g bb tx rw sb dy tn mo jk).set 58 (gA g 58, .inr (6, (oModel g mo).set 29 (.int v))) = (gW g bb tx rw sb dy tn (setS mo 29 v) jk) := rfl
theorem gs_Model_f33 {g : GG} {bb : Ob} {tx rw : Nat → Ob} {sb dy : Ob} {tn : Nat → Ob} {mo : Ob} {jk : Nat → Nat → Int32} {v : Int32} : (gW g bb tx rw sb dy tn mo jk).set 58 (gA g 58, .inr (6, (oModel g mo).set 33 (.int v))) = (gW g bb tx rw sb dy tn (setS mo 33 v) jk) := rfl
theorem up_same {α : Type} (f : Nat → α) (k : Nat) (v : α) : va_up f k v k = v := by simp [va_up]
theorem up_self {α : Type} (f : Nat → α) (k : Nat) : va_up f k (f k) = f := by funext j; by_cases h : j = k <;> simp [va_up, h]
theorem up_up {α : Type} (f : Nat → α) (k : Nat) (v w : α) : va_up (va_up f k v) k w = va_up f k w := by funext j; by_cases h : j = k <;> simp [va_up, h]
theorem gw_Text {g : GG} {bb : Ob} {tx rw : Nat → Ob} {sb dy : Ob} {tn : Nat → Ob} {mo : Ob} {jk : Nat → Nat → Int32} {o : Nat} (ho : o < 6) {T : Ob} (hT : tx o = T) : (gW g bb tx rw sb dy tn mo jk)[3 + 4 * o]? = some (gA g (3 + 4 * o), .inr (3, oText g (3 + 4 * o) T)) := by
  subst hT
  rcases (show o = 0 ∨ o = 1 ∨ o = 2 ∨ o = 3 ∨ o = 4 ∨ o = 5 by omega) with rfl | rfl | rfl | rfl | rfl | rfl <;> rfl
theorem gs_Text_f3 {g : GG} {bb : Ob} {tx rw : Nat → Ob} {sb dy : Ob} {tn : Nat → Ob} {mo : Ob} {jk : Nat → Nat → Int32} {o : Nat} (ho : o < 6) {T : Ob} (hT : tx o = T) {v : Int32} : (gW g bb tx rw sb dy tn mo jk).set (3 + 4 * o) (gA g (3 + 4 * o), .inr (3, (oText g (3 + 4 * o) T).set 3 (.int v))) = (gW g bb (va_up tx o (setS T 3 v)) rw sb dy tn mo jk) := by
  subst hT
  rcases (show o = 0 ∨ o = 1 ∨ o = 2 ∨ o = 3 ∨ o = 4 ∨ o = 5 by omega) with rfl | rfl | rfl | rfl | rfl | rfl <;> rfl
theorem gw_Text_a0 {g : GG} {bb : Ob} {tx rw : Nat → Ob} {sb dy : Ob} {tn : Nat → Ob} {mo : Ob} {jk : Nat → Nat → Int32} {o : Nat} (ho : o < 6) {T : Ob} (hT : tx o = T) : (gW g bb tx rw sb dy tn mo jk)[3 + 4 * o + 1]? = some (gA g ((3 + 4 * o) + 1), .inl (g.2.1, 160, .inl (T.2 0))) := by
  subst hT
  rcases (show o = 0 ∨ o = 1 ∨ o = 2 ∨ o = 3 ∨ o = 4 ∨ o = 5 by omega) with rfl | rfl | rfl | rfl | rfl | rfl <;> rfl
theorem gs_Text_a0 {g : GG} {bb : Ob} {tx rw : Nat → Ob} {sb dy : Ob} {tn : Nat → Ob} {mo : Ob} {jk : Nat → Nat → Int32} {o : Nat} (ho : o < 6) {T : Ob} (hT : tx o = T) {i x : Int32} : (gW g bb tx rw sb dy tn mo jk).set (3 + 4 * o + 1) (gA g ((3 + 4 * o) + 1), .inl (g.2.1, 160, .inl (upd (T.2 0) i.toNatClampNeg (vp_nar .int x)))) = (gW g bb (va_up tx o (stA T 0 i x)) rw sb dy tn mo jk) := by
  subst hT
  rcases (show o = 0 ∨ o = 1 ∨ o = 2 ∨ o = 3 ∨ o = 4 ∨ o = 5 by omega) with rfl | rfl | rfl | rfl | rfl | rfl <;> rfl
theorem gw_Text_a2 {g : GG} {bb : Ob} {tx rw : Nat → Ob} {sb dy : Ob} {tn : Nat → Ob} {mo : Ob} {jk : Nat → Nat → Int32} {o : Nat} (ho : o < 6) {T : Ob} (hT : tx o = T) : (gW g bb tx rw sb dy tn mo jk)[3 + 4 * o + 3]? = some (gA g ((3 + 4 * o) + 3), .inl (g.2.1, 3, .inl (T.2 2))) := by
  subst hT
  rcases (show o = 0 ∨ o = 1 ∨ o = 2 ∨ o = 3 ∨ o = 4 ∨ o = 5 by omega) with rfl | rfl | rfl | rfl | rfl | rfl <;> rfl
theorem gs_Text_a2 {g : GG} {bb : Ob} {tx rw : Nat → Ob} {sb dy : Ob} {tn : Nat → Ob} {mo : Ob} {jk : Nat → Nat → Int32} {o : Nat} (ho : o < 6) {T : Ob} (hT : tx o = T) {i x : Int32} : (gW g bb tx rw sb dy tn mo jk).set (3 + 4 * o + 3) (gA g ((3 + 4 * o) + 3), .inl (g.2.1, 3, .inl (upd (T.2 2) i.toNatClampNeg (vp_nar .int x)))) = (gW g bb (va_up tx o (stA T 2 i x)) rw sb dy tn mo jk) := by
  subst hT
  rcases (show o = 0 ∨ o = 1 ∨ o = 2 ∨ o = 3 ∨ o = 4 ∨ o = 5 by omega) with rfl | rfl | rfl | rfl | rfl | rfl <;> rfl
theorem gw_Row {g : GG} {bb : Ob} {tx rw : Nat → Ob} {sb dy : Ob} {tn : Nat → Ob} {mo : Ob} {jk : Nat → Nat → Int32} {o : Nat} (ho : o < 4) {T : Ob} (hT : rw o = T) : (gW g bb tx rw sb dy tn mo jk)[27 + 2 * o]? = some (gA g (27 + 2 * o), .inr (1, oRow g (27 + 2 * o) T)) := by
  subst hT
  rcases (show o = 0 ∨ o = 1 ∨ o = 2 ∨ o = 3 by omega) with rfl | rfl | rfl | rfl <;> rfl
theorem gs_Row_f1 {g : GG} {bb : Ob} {tx rw : Nat → Ob} {sb dy : Ob} {tn : Nat → Ob} {mo : Ob} {jk : Nat → Nat → Int32} {o : Nat} (ho : o < 4) {T : Ob} (hT : rw o = T) {v : Int32} : (gW g bb tx rw sb dy tn mo jk).set (27 + 2 * o) (gA g (27 + 2 * o), .inr (1, (oRow g (27 + 2 * o) T).set 1 (.int v))) = (gW g bb tx (va_up rw o (setS T 1 v)) sb dy tn mo jk) := by
  subst hT
  rcases (show o = 0 ∨ o = 1 ∨ o = 2 ∨ o = 3 by omega) with rfl | rfl | rfl | rfl <;> rfl
theorem gs_Row_f2 {g : GG} {bb : Ob} {tx rw : Nat → Ob} {sb dy : Ob} {tn : Nat → Ob} {mo : Ob} {jk : Nat → Nat → Int32} {o : Nat} (ho : o < 4) {T : Ob} (hT : rw o = T) {v : Int32} : (gW g bb tx rw sb dy tn mo jk).set (27 + 2 * o) (gA g (27 + 2 * o), .inr (1, (oRow g (27 + 2 * o) T).set 2 (.int v))) = (gW g bb tx (va_up rw o (setS T 2 v)) sb dy tn mo jk) := by
  subst hT
  rcases (show o = 0 ∨ o = 1 ∨ o = 2 ∨ o = 3 by omega) with rfl | rfl | rfl | rfl <;> rfl
theorem gw_Row_a0 {g : GG} {bb : Ob} {tx rw : Nat → Ob} {sb dy : Ob} {tn : Nat → Ob} {mo : Ob} {jk : Nat → Nat → Int32} {o : Nat} (ho : o < 4) {T : Ob} (hT : rw o = T) : (gW g bb tx rw sb dy tn mo jk)[27 + 2 * o + 1]? = some (gA g ((27 + 2 * o) + 1), .inl (g.2.1, 40, .inl (T.2 0))) := by
  subst hT
  rcases (show o = 0 ∨ o = 1 ∨ o = 2 ∨ o = 3 by omega) with rfl | rfl | rfl | rfl <;> rfl
theorem gs_Row_a0 {g : GG} {bb : Ob} {tx rw : Nat → Ob} {sb dy : Ob} {tn : Nat → Ob} {mo : Ob} {jk : Nat → Nat → Int32} {o : Nat} (ho : o < 4) {T : Ob} (hT : rw o = T) {i x : Int32} : (gW g bb tx rw sb dy tn mo jk).set (27 + 2 * o + 1) (gA g ((27 + 2 * o) + 1), .inl (g.2.1, 40, .inl (upd (T.2 0) i.toNatClampNeg (vp_nar .int x)))) = (gW g bb tx (va_up rw o (stA T 0 i x)) sb dy tn mo jk) := by
  subst hT
  rcases (show o = 0 ∨ o = 1 ∨ o = 2 ∨ o = 3 by omega) with rfl | rfl | rfl | rfl <;> rfl
theorem gw_Town {g : GG} {bb : Ob} {tx rw : Nat → Ob} {sb dy : Ob} {tn : Nat → Ob} {mo : Ob} {jk : Nat → Nat → Int32} {o : Nat} (ho : o < 3) {T : Ob} (hT : tn o = T) : (gW g bb tx rw sb dy tn mo jk)[40 + 6 * o]? = some (gA g (40 + 6 * o), .inr (4, oTown g (40 + 6 * o) T)) := by
  subst hT
  rcases (show o = 0 ∨ o = 1 ∨ o = 2 by omega) with rfl | rfl | rfl <;> rfl
theorem gs_Town_f5 {g : GG} {bb : Ob} {tx rw : Nat → Ob} {sb dy : Ob} {tn : Nat → Ob} {mo : Ob} {jk : Nat → Nat → Int32} {o : Nat} (ho : o < 3) {T : Ob} (hT : tn o = T) {v : Int32} : (gW g bb tx rw sb dy tn mo jk).set (40 + 6 * o) (gA g (40 + 6 * o), .inr (4, (oTown g (40 + 6 * o) T).set 5 (.int v))) = (gW g bb tx rw sb dy (va_up tn o (setS T 5 v)) mo jk) := by
  subst hT
  rcases (show o = 0 ∨ o = 1 ∨ o = 2 by omega) with rfl | rfl | rfl <;> rfl
theorem gs_Town_f6 {g : GG} {bb : Ob} {tx rw : Nat → Ob} {sb dy : Ob} {tn : Nat → Ob} {mo : Ob} {jk : Nat → Nat → Int32} {o : Nat} (ho : o < 3) {T : Ob} (hT : tn o = T) {v : Int32} : (gW g bb tx rw sb dy tn mo jk).set (40 + 6 * o) (gA g (40 + 6 * o), .inr (4, (oTown g (40 + 6 * o) T).set 6 (.int v))) = (gW g bb tx rw sb dy (va_up tn o (setS T 6 v)) mo jk) := by
  subst hT
  rcases (show o = 0 ∨ o = 1 ∨ o = 2 by omega) with rfl | rfl | rfl <;> rfl
theorem gs_Town_f7 {g : GG} {bb : Ob} {tx rw : Nat → Ob} {sb dy : Ob} {tn : Nat → Ob} {mo : Ob} {jk : Nat → Nat → Int32} {o : Nat} (ho : o < 3) {T : Ob} (hT : tn o = T) {v : Int32} : (gW g bb tx rw sb dy tn mo jk).set (40 + 6 * o) (gA g (40 + 6 * o), .inr (4, (oTown g (40 + 6 * o) T).set 7 (.int v))) = (gW g bb tx rw sb dy (va_up tn o (setS T 7 v)) mo jk) := by
  subst hT
  rcases (show o = 0 ∨ o = 1 ∨ o = 2 by omega) with rfl | rfl | rfl <;> rfl
theorem gs_Town_f8 {g : GG} {bb : Ob} {tx rw : Nat → Ob} {sb dy : Ob} {tn : Nat → Ob} {mo : Ob} {jk : Nat → Nat → Int32} {o : Nat} (ho : o < 3) {T : Ob} (hT : tn o = T) {v : Int32} : (gW g bb tx rw sb dy tn mo jk).set (40 + 6 * o) (gA g (40 + 6 * o), .inr (4, (oTown g (40 + 6 * o) T).set 8 (.int v))) = (gW g bb tx rw sb dy (va_up tn o (setS T 8 v)) mo jk) := by
  subst hT
  rcases (show o = 0 ∨ o = 1 ∨ o = 2 by omega) with rfl | rfl | rfl <;> rfl
theorem gs_Town_f9 {g : GG} {bb : Ob} {tx rw : Nat → Ob} {sb dy : Ob} {tn : Nat → Ob} {mo : Ob} {jk : Nat → Nat → Int32} {o : Nat} (ho : o < 3) {T : Ob} (hT : tn o = T) {v : Int32} : (gW g bb tx rw sb dy tn mo jk).set (40 + 6 * o) (gA g (40 + 6 * o), .inr (4, (oTown g (40 + 6 * o) T).set 9 (.int v))) = (gW g bb tx rw sb dy (va_up tn o (setS T 9 v)) mo jk) := by
  subst hT
  rcases (show o = 0 ∨ o = 1 ∨ o = 2 by omega) with rfl | rfl | rfl <;> rfl
theorem gs_Town_f10 {g : GG} {bb : Ob} {tx rw : Nat → Ob} {sb dy : Ob} {tn : Nat → Ob} {mo : Ob} {jk : Nat → Nat → Int32} {o : Nat} (ho : o < 3) {T : Ob} (hT : tn o = T) {v : Int32} : (gW g bb tx rw sb dy tn mo jk).set (40 + 6 * o) (gA g (40 + 6 * o), .inr (4, (oTown g (40 + 6 * o) T).set 10 (.int v))) = (gW g bb tx rw sb dy (va_up tn o (setS T 10 v)) mo jk) := by
  subst hT
  rcases (show o = 0 ∨ o = 1 ∨ o = 2 by omega) with rfl | rfl | rfl <;> rfl
theorem gw_Town_a0 {g : GG} {bb : Ob} {tx rw : Nat → Ob} {sb dy : Ob} {tn : Nat → Ob} {mo : Ob} {jk : Nat → Nat → Int32} {o : Nat} (ho : o < 3) {T : Ob} (hT : tn o = T) : (gW g bb tx rw sb dy tn mo jk)[40 + 6 * o + 1]? = some (gA g ((40 + 6 * o) + 1), .inl (g.2.1, 6, .inl (T.2 0))) := by
  subst hT
  rcases (show o = 0 ∨ o = 1 ∨ o = 2 by omega) with rfl | rfl | rfl <;> rfl
theorem gs_Town_a0 {g : GG} {bb : Ob} {tx rw : Nat → Ob} {sb dy : Ob} {tn : Nat → Ob} {mo : Ob} {jk : Nat → Nat → Int32} {o : Nat} (ho : o < 3) {T : Ob} (hT : tn o = T) {i x : Int32} : (gW g bb tx rw sb dy tn mo jk).set (40 + 6 * o + 1) (gA g ((40 + 6 * o) + 1), .inl (g.2.1, 6, .inl (upd (T.2 0) i.toNatClampNeg (vp_nar .int x)))) = (gW g bb tx rw sb dy (va_up tn o (stA T 0 i x)) mo jk) := by
  subst hT
  rcases (show o = 0 ∨ o = 1 ∨ o = 2 by omega) with rfl | rfl | rfl <;> rfl
theorem gw_Town_a1 {g : GG} {bb : Ob} {tx rw : Nat → Ob} {sb dy : Ob} {tn : Nat → Ob} {mo : Ob} {jk : Nat → Nat → Int32} {o : Nat} (ho : o < 3) {T : Ob} (hT : tn o = T) : (gW g bb tx rw sb dy tn mo jk)[40 + 6 * o + 2]? = some (gA g ((40 + 6 * o) + 2), .inl (g.2.1, 6, .inl (T.2 1))) := by
  subst hT
  rcases (show o = 0 ∨ o = 1 ∨ o = 2 by omega) with rfl | rfl | rfl <;> rfl
theorem gs_Town_a1 {g : GG} {bb : Ob} {tx rw : Nat → Ob} {sb dy : Ob} {tn : Nat → Ob} {mo : Ob} {jk : Nat → Nat → Int32} {o : Nat} (ho : o < 3) {T : Ob} (hT : tn o = T) {i x : Int32} : (gW g bb tx rw sb dy tn mo jk).set (40 + 6 * o + 2) (gA g ((40 + 6 * o) + 2), .inl (g.2.1, 6, .inl (upd (T.2 1) i.toNatClampNeg (vp_nar .int x)))) = (gW g bb tx rw sb dy (va_up tn o (stA T 1 i x)) mo jk) := by
  subst hT
  rcases (show o = 0 ∨ o = 1 ∨ o = 2 by omega) with rfl | rfl | rfl <;> rfl
theorem gw_Town_a2 {g : GG} {bb : Ob} {tx rw : Nat → Ob} {sb dy : Ob} {tn : Nat → Ob} {mo : Ob} {jk : Nat → Nat → Int32} {o : Nat} (ho : o < 3) {T : Ob} (hT : tn o = T) : (gW g bb tx rw sb dy tn mo jk)[40 + 6 * o + 3]? = some (gA g ((40 + 6 * o) + 3), .inl (g.2.1, 6, .inl (T.2 2))) := by
  subst hT
  rcases (show o = 0 ∨ o = 1 ∨ o = 2 by omega) with rfl | rfl | rfl <;> rfl
theorem gs_Town_a2 {g : GG} {bb : Ob} {tx rw : Nat → Ob} {sb dy : Ob} {tn : Nat → Ob} {mo : Ob} {jk : Nat → Nat → Int32} {o : Nat} (ho : o < 3) {T : Ob} (hT : tn o = T) {i x : Int32} : (gW g bb tx rw sb dy tn mo jk).set (40 + 6 * o + 3) (gA g ((40 + 6 * o) + 3), .inl (g.2.1, 6, .inl (upd (T.2 2) i.toNatClampNeg (vp_nar .int x)))) = (gW g bb tx rw sb dy (va_up tn o (stA T 2 i x)) mo jk) := by
  subst hT
  rcases (show o = 0 ∨ o = 1 ∨ o = 2 by omega) with rfl | rfl | rfl <;> rfl
theorem gw_Town_a3 {g : GG} {bb : Ob} {tx rw : Nat → Ob} {sb dy : Ob} {tn : Nat → Ob} {mo : Ob} {jk : Nat → Nat → Int32} {o : Nat} (ho : o < 3) {T : Ob} (hT : tn o = T) : (gW g bb tx rw sb dy tn mo jk)[40 + 6 * o + 4]? = some (gA g ((40 + 6 * o) + 4), .inl (g.2.1, 6, .inl (T.2 3))) := by
  subst hT
  rcases (show o = 0 ∨ o = 1 ∨ o = 2 by omega) with rfl | rfl | rfl <;> rfl
theorem gs_Town_a3 {g : GG} {bb : Ob} {tx rw : Nat → Ob} {sb dy : Ob} {tn : Nat → Ob} {mo : Ob} {jk : Nat → Nat → Int32} {o : Nat} (ho : o < 3) {T : Ob} (hT : tn o = T) {i x : Int32} : (gW g bb tx rw sb dy tn mo jk).set (40 + 6 * o + 4) (gA g ((40 + 6 * o) + 4), .inl (g.2.1, 6, .inl (upd (T.2 3) i.toNatClampNeg (vp_nar .int x)))) = (gW g bb tx rw sb dy (va_up tn o (stA T 3 i x)) mo jk) := by
  subst hT
  rcases (show o = 0 ∨ o = 1 ∨ o = 2 by omega) with rfl | rfl | rfl <;> rfl
theorem gw_Town_a4 {g : GG} {bb : Ob} {tx rw : Nat → Ob} {sb dy : Ob} {tn : Nat → Ob} {mo : Ob} {jk : Nat → Nat → Int32} {o : Nat} (ho : o < 3) {T : Ob} (hT : tn o = T) : (gW g bb tx rw sb dy tn mo jk)[40 + 6 * o + 5]? = some (gA g ((40 + 6 * o) + 5), .inl (g.2.1, 6, .inl (T.2 4))) := by
  subst hT
  rcases (show o = 0 ∨ o = 1 ∨ o = 2 by omega) with rfl | rfl | rfl <;> rfl
theorem gs_Town_a4 {g : GG} {bb : Ob} {tx rw : Nat → Ob} {sb dy : Ob} {tn : Nat → Ob} {mo : Ob} {jk : Nat → Nat → Int32} {o : Nat} (ho : o < 3) {T : Ob} (hT : tn o = T) {i x : Int32} : (gW g bb tx rw sb dy tn mo jk).set (40 + 6 * o + 5) (gA g ((40 + 6 * o) + 5), .inl (g.2.1, 6, .inl (upd (T.2 4) i.toNatClampNeg (vp_nar .int x)))) = (gW g bb tx rw sb dy (va_up tn o (stA T 4 i x)) mo jk) := by
  subst hT
  rcases (show o = 0 ∨ o = 1 ∨ o = 2 by omega) with rfl | rfl | rfl <;> rfl
theorem gw_Text_a1 {g : GG} {bb : Ob} {tx rw : Nat → Ob} {sb dy : Ob} {tn : Nat → Ob} {mo : Ob} {jk : Nat → Nat → Int32} {o : Nat} (ho : o < 6) : (gW g bb tx rw sb dy tn mo jk)[3 + 4 * o + 2]? = some (gA g ((3 + 4 * o) + 2), .inl (g.2.1, 160, .inl (jk o))) := by
  rcases (show o = 0 ∨ o = 1 ∨ o = 2 ∨ o = 3 ∨ o = 4 ∨ o = 5 by omega) with rfl | rfl | rfl | rfl | rfl | rfl <;> rfl
theorem gs_Text_a1 {g : GG} {bb : Ob} {tx rw : Nat → Ob} {sb dy : Ob} {tn : Nat → Ob} {mo : Ob} {jk : Nat → Nat → Int32} {o : Nat} (ho : o < 6) {i x : Int32} : (gW g bb tx rw sb dy tn mo jk).set (3 + 4 * o + 2) (gA g ((3 + 4 * o) + 2), .inl (g.2.1, 160, .inl (upd (jk o) i.toNatClampNeg (vp_nar .int x)))) = (gW g bb tx rw sb dy tn mo (va_up jk o (upd (jk o) i.toNatClampNeg x))) := by
  rcases (show o = 0 ∨ o = 1 ∨ o = 2 ∨ o = 3 ∨ o = 4 ∨ o = 5 by omega) with rfl | rfl | rfl | rfl | rfl | rfl <;> rfl
theorem gs_Town_f11 {g : GG} {bb : Ob} {tx rw : Nat → Ob} {sb dy : Ob} {tn : Nat → Ob} {mo : Ob} {jk : Nat → Nat → Int32} {o : Nat} (ho : o < 3) {T : Ob} (hT : tn o = T) {t : Nat} (ht : t < 6) : (gW g bb tx rw sb dy tn mo jk).set (40 + 6 * o) (gA g (40 + 6 * o), .inr (4, (oTown g (40 + 6 * o) T).set 11 (.ref (gA g (3 + 4 * t))))) = (gW g bb tx rw sb dy (va_up tn o (setS T 11 (nI t))) mo jk) := by
  subst hT
  rcases (show o = 0 ∨ o = 1 ∨ o = 2 by omega) with rfl | rfl | rfl <;> (rcases (show t = 0 ∨ t = 1 ∨ t = 2 ∨ t = 3 ∨ t = 4 ∨ t = 5 by omega) with rfl | rfl | rfl | rfl | rfl | rfl) <;> rfl
theorem gt_Text_f3 {g : GG} {bb : Ob} {tx rw : Nat → Ob} {sb dy : Ob} {tn : Nat → Ob} {mo : Ob} {jk : Nat → Nat → Int32} {o : Nat} (ho : o < 6) {T : Ob} {v : Int32} : (gW g bb (va_up tx o T) rw sb dy tn mo jk).set (3 + 4 * o) (gA g (3 + 4 * o), .inr (3, (oText g (3 + 4 * o) T).set 3 (.int v))) = (gW g bb (va_up tx o (setS T 3 v)) rw sb dy tn mo jk) := (gs_Text_f3 ho (up_same _ _ _)).trans (by rw [up_up])
theorem gt_Text_a0 {g : GG} {bb : Ob} {tx rw : Nat → Ob} {sb dy : Ob} {tn : Nat → Ob} {mo : Ob} {jk : Nat → Nat → Int32} {o : Nat} (ho : o < 6) {T : Ob} {i x : Int32} : (gW g bb (va_up tx o T) rw sb dy tn mo jk).set (3 + 4 * o + 1) (gA g ((3 + 4 * o) + 1), .inl (g.2.1, 160, .inl (upd (T.2 0) i.toNatClampNeg (vp_nar .int x)))) = (gW g bb (va_up tx o (stA T 0 i x)) rw sb dy tn mo jk) := (gs_Text_a0 ho (up_same _ _ _)).trans (by rw [up_up])
theorem gt_Text_a2 {g : GG} {bb : Ob} {tx rw : Nat → Ob} {sb dy : Ob} {tn : Nat → Ob} {mo : Ob} {jk : Nat → Nat → Int32} {o : Nat} (ho : o < 6) {T : Ob} {i x : Int32} : (gW g bb (va_up tx o T) rw sb dy tn mo jk).set (3 + 4 * o + 3) (gA g ((3 + 4 * o) + 3), .inl (g.2.1, 3, .inl (upd (T.2 2) i.toNatClampNeg (vp_nar .int x)))) = (gW g bb (va_up tx o (stA T 2 i x)) rw sb dy tn mo jk) := (gs_Text_a2 ho (up_same _ _ _)).trans (by rw [up_up])
theorem gt_Row_f1 {g : GG} {bb : Ob} {tx rw : Nat → Ob} {sb dy : Ob} {tn : Nat → Ob} {mo : Ob} {jk : Nat → Nat → Int32} {o : Nat} (ho : o < 4) {T : Ob} {v : Int32} : (gW g bb tx (va_up rw o T) sb dy tn mo jk).set (27 + 2 * o) (gA g (27 + 2 * o), .inr (1, (oRow g (27 + 2 * o) T).set 1 (.int v))) = (gW g bb tx (va_up rw o (setS T 1 v)) sb dy tn mo jk) := (gs_Row_f1 ho (up_same _ _ _)).trans (by rw [up_up])
theorem gt_Row_f2 {g : GG} {bb : Ob} {tx rw : Nat → Ob} {sb dy : Ob} {tn : Nat → Ob} {mo : Ob} {jk : Nat → Nat → Int32} {o : Nat} (ho : o < 4) {T : Ob} {v : Int32} : (gW g bb tx (va_up rw o T) sb dy tn mo jk).set (27 + 2 * o) (gA g (27 + 2 * o), .inr (1, (oRow g (27 + 2 * o) T).set 2 (.int v))) = (gW g bb tx (va_up rw o (setS T 2 v)) sb dy tn mo jk) := (gs_Row_f2 ho (up_same _ _ _)).trans (by rw [up_up])
theorem gt_Row_a0 {g : GG} {bb : Ob} {tx rw : Nat → Ob} {sb dy : Ob} {tn : Nat → Ob} {mo : Ob} {jk : Nat → Nat → Int32} {o : Nat} (ho : o < 4) {T : Ob} {i x : Int32} : (gW g bb tx (va_up rw o T) sb dy tn mo jk).set (27 + 2 * o + 1) (gA g ((27 + 2 * o) + 1), .inl (g.2.1, 40, .inl (upd (T.2 0) i.toNatClampNeg (vp_nar .int x)))) = (gW g bb tx (va_up rw o (stA T 0 i x)) sb dy tn mo jk) := (gs_Row_a0 ho (up_same _ _ _)).trans (by rw [up_up])
theorem gt_Town_f5 {g : GG} {bb : Ob} {tx rw : Nat → Ob} {sb dy : Ob} {tn : Nat → Ob} {mo : Ob} {jk : Nat → Nat → Int32} {o : Nat} (ho : o < 3) {T : Ob} {v : Int32} : (gW g bb tx rw sb dy (va_up tn o T) mo jk).set (40 + 6 * o) (gA g (40 + 6 * o), .inr (4, (oTown g (40 + 6 * o) T).set 5 (.int v))) = (gW g bb tx rw sb dy (va_up tn o (setS T 5 v)) mo jk) := (gs_Town_f5 ho (up_same _ _ _)).trans (by rw [up_up])
theorem gt_Town_f6 {g : GG} {bb : Ob} {tx rw : Nat → Ob} {sb dy : Ob} {tn : Nat → Ob} {mo : Ob} {jk : Nat → Nat → Int32} {o : Nat} (ho : o < 3) {T : Ob} {v : Int32} : (gW g bb tx rw sb dy (va_up tn o T) mo jk).set (40 + 6 * o) (gA g (40 + 6 * o), .inr (4, (oTown g (40 + 6 * o) T).set 6 (.int v))) = (gW g bb tx rw sb dy (va_up tn o (setS T 6 v)) mo jk) := (gs_Town_f6 ho (up_same _ _ _)).trans (by rw [up_up])
theorem gt_Town_f7 {g : GG} {bb : Ob} {tx rw : Nat → Ob} {sb dy : Ob} {tn : Nat → Ob} {mo : Ob} {jk : Nat → Nat → Int32} {o : Nat} (ho : o < 3) {T : Ob} {v : Int32} : (gW g bb tx rw sb dy (va_up tn o T) mo jk).set (40 + 6 * o) (gA g (40 + 6 * o), .inr (4, (oTown g (40 + 6 * o) T).set 7 (.int v))) = (gW g bb tx rw sb dy (va_up tn o (setS T 7 v)) mo jk) := (gs_Town_f7 ho (up_same _ _ _)).trans (by rw [up_up])
theorem gt_Town_f8 {g : GG} {bb : Ob} {tx rw : Nat → Ob} {sb dy : Ob} {tn : Nat → Ob} {mo : Ob} {jk : Nat → Nat → Int32} {o : Nat} (ho : o < 3) {T : Ob} {v : Int32} : (gW g bb tx rw sb dy (va_up tn o T) mo jk).set (40 + 6 * o) (gA g (40 + 6 * o), .inr (4, (oTown g (40 + 6 * o) T).set 8 (.int v))) = (gW g bb tx rw sb dy (va_up tn o (setS T 8 v)) mo jk) := (gs_Town_f8 ho (up_same _ _ _)).trans (by rw [up_up])
theorem gt_Town_f9 {g : GG} {bb : Ob} {tx rw : Nat → Ob} {sb dy : Ob} {tn : Nat → Ob} {mo : Ob} {jk : Nat → Nat → Int32} {o : Nat} (ho : o < 3) {T : Ob} {v : Int32} : (gW g bb tx rw sb dy (va_up tn o T) mo jk).set (40 + 6 * o) (gA g (40 + 6 * o), .inr (4, (oTown g (40 + 6 * o) T).set 9 (.int v))) = (gW g bb tx rw sb dy (va_up tn o (setS T 9 v)) mo jk) := (gs_Town_f9 ho (up_same _ _ _)).trans (by rw [up_up])
theorem gt_Town_f10 {g : GG} {bb : Ob} {tx rw : Nat → Ob} {sb dy : Ob} {tn : Nat → Ob} {mo : Ob} {jk : Nat → Nat → Int32} {o : Nat} (ho : o < 3) {T : Ob} {v : Int32} : (gW g bb tx rw sb dy (va_up tn o T) mo jk).set (40 + 6 * o) (gA g (40 + 6 * o), .inr (4, (oTown g (40 + 6 * o) T).set 10 (.int v))) = (gW g bb tx rw sb dy (va_up tn o (setS T 10 v)) mo jk) := (gs_Town_f10 ho (up_same _ _ _)).trans (by rw [up_up])
theorem gt_Town_a0 {g : GG} {bb : Ob} {tx rw : Nat → Ob} {sb dy : Ob} {tn : Nat → Ob} {mo : Ob} {jk : Nat → Nat → Int32} {o : Nat} (ho : o < 3) {T : Ob} {i x : Int32} : (gW g bb tx rw sb dy (va_up tn o T) mo jk).set (40 + 6 * o + 1) (gA g ((40 + 6 * o) + 1), .inl (g.2.1, 6, .inl (upd (T.2 0) i.toNatClampNeg (vp_nar .int x)))) = (gW g bb tx rw sb dy (va_up tn o (stA T 0 i x)) mo jk) := (gs_Town_a0 ho (up_same _ _ _)).trans (by rw [up_up])
theorem gt_Town_a1 {g : GG} {bb : Ob} {tx rw : Nat → Ob} {sb dy : Ob} {tn : Nat → Ob} {mo : Ob} {jk : Nat → Nat → Int32} {o : Nat} (ho : o < 3) {T : Ob} {i x : Int32} : (gW g bb tx rw sb dy (va_up tn o T) mo jk).set (40 + 6 * o + 2) (gA g ((40 + 6 * o) + 2), .inl (g.2.1, 6, .inl (upd (T.2 1) i.toNatClampNeg (vp_nar .int x)))) = (gW g bb tx rw sb dy (va_up tn o (stA T 1 i x)) mo jk) := (gs_Town_a1 ho (up_same _ _ _)).trans (by rw [up_up])
theorem gt_Town_a2 {g : GG} {bb : Ob} {tx rw : Nat → Ob} {sb dy : Ob} {tn : Nat → Ob} {mo : Ob} {jk : Nat → Nat → Int32} {o : Nat} (ho : o < 3) {T : Ob} {i x : Int32} : (gW g bb tx rw sb dy (va_up tn o T) mo jk).set (40 + 6 * o + 3) (gA g ((40 + 6 * o) + 3), .inl (g.2.1, 6, .inl (upd (T.2 2) i.toNatClampNeg (vp_nar .int x)))) = (gW g bb tx rw sb dy (va_up tn o (stA T 2 i x)) mo jk) := (gs_Town_a2 ho (up_same _ _ _)).trans (by rw [up_up])
theorem gt_Town_a3 {g : GG} {bb : Ob} {tx rw : Nat → Ob} {sb dy : Ob} {tn : Nat → Ob} {mo : Ob} {jk : Nat → Nat → Int32} {o : Nat} (ho : o < 3) {T : Ob} {i x : Int32} : (gW g bb tx rw sb dy (va_up tn o T) mo jk).set (40 + 6 * o + 4) (gA g ((40 + 6 * o) + 4), .inl (g.2.1, 6, .inl (upd (T.2 3) i.toNatClampNeg (vp_nar .int x)))) = (gW g bb tx rw sb dy (va_up tn o (stA T 3 i x)) mo jk) := (gs_Town_a3 ho (up_same _ _ _)).trans (by rw [up_up])
theorem gt_Town_a4 {g : GG} {bb : Ob} {tx rw : Nat → Ob} {sb dy : Ob} {tn : Nat → Ob} {mo : Ob} {jk : Nat → Nat → Int32} {o : Nat} (ho : o < 3) {T : Ob} {i x : Int32} : (gW g bb tx rw sb dy (va_up tn o T) mo jk).set (40 + 6 * o + 5) (gA g ((40 + 6 * o) + 5), .inl (g.2.1, 6, .inl (upd (T.2 4) i.toNatClampNeg (vp_nar .int x)))) = (gW g bb tx rw sb dy (va_up tn o (stA T 4 i x)) mo jk) := (gs_Town_a4 ho (up_same _ _ _)).trans (by rw [up_up])
theorem gt_Town_f11 {g : GG} {bb : Ob} {tx rw : Nat → Ob} {sb dy : Ob} {tn : Nat → Ob} {mo : Ob} {jk : Nat → Nat → Int32} {o : Nat} (ho : o < 3) {T : Ob} {t : Nat} (ht : t < 6) : (gW g bb tx rw sb dy (va_up tn o T) mo jk).set (40 + 6 * o) (gA g (40 + 6 * o), .inr (4, (oTown g (40 + 6 * o) T).set 11 (.ref (gA g (3 + 4 * t))))) = (gW g bb tx rw sb dy (va_up tn o (setS T 11 (nI t))) mo jk) := (gs_Town_f11 ho (up_same _ _ _) ht).trans (by rw [up_up])
-- NUMBERS (the first rows are the kit's family fb_)
theorem fb_rng (x : Int32) : -2147483648 ≤ x.toInt ∧ x.toInt < 2147483648 := by
  have h1 := Int32.le_toInt x
  have h2 := Int32.toInt_lt x
  omega
theorem fb_bmod {z : Int} (h1 : -2147483648 ≤ z) (h2 : z < 2147483648) : z.bmod (2 ^ 32) = z := by
  rw [Int.bmod_eq_of_le (by omega) (by omega)]
theorem fb_addI {x y : Int32} (h1 : -2147483648 ≤ x.toInt + y.toInt) (h2 : x.toInt + y.toInt < 2147483648) : (x + y).toInt = x.toInt + y.toInt := by
  rw [Int32.toInt_add, fb_bmod h1 h2]
theorem fb_subI {x y : Int32} (h1 : -2147483648 ≤ x.toInt - y.toInt) (h2 : x.toInt - y.toInt < 2147483648) : (x - y).toInt = x.toInt - y.toInt := by
  rw [Int32.toInt_sub, fb_bmod h1 h2]
theorem fb_mulI {x y : Int32} (h1 : -2147483648 ≤ x.toInt * y.toInt) (h2 : x.toInt * y.toInt < 2147483648) : (x * y).toInt = x.toInt * y.toInt := by
  rw [Int32.toInt_mul, fb_bmod h1 h2]
theorem i_lt {x y : Int32} : x < y ↔ x.toInt < y.toInt := Int32.lt_iff_toInt_lt
theorem i_le {x y : Int32} : x ≤ y ↔ x.toInt ≤ y.toInt := Int32.le_iff_toInt_le
theorem i_nlt {x y : Int32} (h : ¬ x < y) : y.toInt ≤ x.toInt := by rw [i_lt] at h; omega
theorem i_nle {x y : Int32} (h : ¬ x ≤ y) : y.toInt < x.toInt := by rw [i_le] at h; omega
theorem up1 {x b : Int32} {B : Int} (c : ¬ b ≤ x) (hb : b.toInt ≤ B) (h0 : 0 ≤ x.toInt) (hB : B ≤ 1000000) : (x + 1).toInt = x.toInt + 1 ∧ x.toInt < B := by
  have h := i_nle c
  exact ⟨by rw [fb_addI] <;> (show _ ; simp only [show (1 : Int32).toInt = 1 from rfl]) <;> omega, by omega⟩
theorem vp_lt {i : Int32} {n : Nat} (h : vp_in i n) : i.toNatClampNeg < n := Nat.not_le.mp fun q => h (Or.inr q)
theorem vp_i {i : Int32} {n : Nat} (h0 : 0 ≤ i.toInt) (h1 : i.toInt < n) : vp_in i n := vp_in_iff.mpr ⟨h0, h1⟩
def jmax (x y : Int32) : Int32 := if x < y then y else x
def jmin (x y : Int32) : Int32 := if y < x then y else x
-- ROWS OVER A WORLD
def gS (g : GG) (A : Nat → Prop) (s : State) (H : Heap) (locs : List Loc) (w : va_W) : Prop := va_K g.1 vwCl (gTys g) s ∧ va_P g.1 vwCl w H ∧ va_D A w ∧ va_S A s.heap H locs
/-- a method's start and end, over a world -/
def gB (g : GG) (sz : Nat) (w : va_W) (U : State) : Prop := U.heap.size = sz ∧ va_P g.1 vwCl w U.heap ∧ va_K g.1 vwCl (gTys g) U ∧ va_D (fun _ => True) w
def gC (g : GG) (A : Nat → Prop) (w : va_W) (t : State) : Prop := va_P g.1 vwCl w t.heap ∧ va_K g.1 vwCl (gTys g) t ∧ va_D A w
theorem gB_blind {g : GG} {sz : Nat} {w : va_W} {vs : List Value} : FrameBlind (va_Pc vs (gB g sz w)) := fun a U h mk q => by
  obtain ⟨q0, q1, qP, qK, qD⟩ := q
  exact ⟨q0, q1, qP, va_K.moved (u := U) (U := U.calling h mk a) (Vm.Alike.refl U.vm) qK, qD⟩
def rmL (n : Nat) : Room := { frames := n, cells := 0, slots := 0, locals := 40 * n }
section GROWS
variable {p : Program} {l : Launch} {e : Env} {R : Room} {s : State} {m : MethodId} {args : Array Value} {below : List Frame} {meth : Method} {c : Code} {H : Heap} {locs : List Loc} {cells slots : Nat} {Q : State → Prop}
variable {cc : ByteArray} {pc : Nat} {ls : Array Slot} {rest : List Value} {g : GG} {A : Nat → Prop} {a : Nat} {w w' : va_W}
theorem g_get (hx : p.tables.exec = Jvm.exec) (hb : c.code = cc) {own C : String} {T : u_T} {N ci index : Nat} (hts : ∀ w ∈ TT, w.before args s = true) (hin : ∀ w ∈ u_ws C T N, w ∈ TT) (hown : s.vm.findClass own = some m.cls) (hG : gS g A s H locs w) {q0 : Nat} {fs : List Value} (he : w[q0]? = some (a, .inr (ci, fs))) (hc : vwCl[ci]? = some (C, T, N)) (k : Nat) (hk : k < N) (hlink : Cond.fieldLink own index (T k).1 (T k).2.1 (T k).2.2.1 ∈ TT) {v : Value} (hv : fs[k]? = some v) (hdg : decode cc pc = .ok (.getfield index, 3))
    (kk : W p l e R s m args below meth c H locs cells slots Q (F0 m (pc + 3) ls (v :: rest))) : W p l e R s m args below meth c H locs cells slots Q (F0 m pc ls (.ref a :: rest)) :=
  va_get (ref := (T k).1) hx hb hts hin hown hG.1 hG.2.1 q0 he hc k hk (hts _ hlink) (fun _ h => h) hv hdg kk
theorem g_put (hx : p.tables.exec = Jvm.exec) (hb : c.code = cc) {own C : String} {T : u_T} {N ci index : Nat} (hts : ∀ w ∈ TT, w.before args s = true) (hin : ∀ w ∈ u_ws C T N, w ∈ TT) (ty0 : Nat → FieldType) (hty : ∀ k, k < N → parseFieldDescriptor (T k).2.2.1 = some (ty0 k)) (hnm : ∀ a, a < N → ∀ b, b < N → a ≠ b → (T a).2.1 ≠ (T b).2.1) (hown : s.vm.findClass own = some m.cls) (hG : gS g A s H locs w) {q0 : Nat} {fs : List Value} (he : w[q0]? = some (a, .inr (ci, fs))) (hc : vwCl[ci]? = some (C, T, N)) (k : Nat) (hk : k < N) (hlink : Cond.fieldLink own index (T k).1 (T k).2.1 (T k).2.2.1 ∈ TT) (hfin : (T k).2.2.2 = false) {v : Value} (hn : narrow (ty0 k) v = v) (hfit : fits (ty0 k) v = true) (hl : k < fs.length) (hset : w.set q0 (a, .inr (ci, fs.set k v)) = w')
    (hdg : decode cc pc = .ok (.putfield index, 3)) (kk : ∀ (H1 : Heap) (locs1 : List Loc), gS g A s H1 locs1 w' → W p l e R s m args below meth c H1 locs1 cells slots Q (F0 m (pc + 3) ls rest)) : W p l e R s m args below meth c H locs cells slots Q (F0 m pc ls (v :: .ref a :: rest)) :=
  va_put (ref := (T k).1) hx hb hts hin ty0 hty hnm hown hG.1 hG.2.1 hG.2.2.1 hG.2.2.2 q0 he hc k hk (hts _ hlink) (fun _ h => h) hfin (hty k hk) hn hfit hl hdg (fun H1 locs1 hP hD hS => kk H1 locs1 ⟨hG.1, hset ▸ hP, hset ▸ hD, hS⟩)
theorem g_ild (hx : p.tables.exec = Jvm.exec) (hb : c.code = cc) (hG : gS g A s H locs w) {q0 n : Nat} {f : Nat → Int32} (he : w[q0]? = some (a, .inl (g.2.1, n, .inl f))) {i : Int32} (hin : vp_in i n) (hdg : decode cc pc = .ok (.iaload, 1))
    (kk : W p l e R s m args below meth c H locs cells slots Q (F0 m (pc + 1) ls (.int (f i.toNatClampNeg) :: rest))) : W p l e R s m args below meth c H locs cells slots Q (F0 m pc ls (.int i :: .ref a :: rest)) :=
  va_iald hx hb hG.1 hG.2.1 q0 0 he rfl hin hdg kk
theorem g_ist (hx : p.tables.exec = Jvm.exec) (hb : c.code = cc) (hG : gS g A s H locs w) {q0 n : Nat} {f : Nat → Int32} (he : w[q0]? = some (a, .inl (g.2.1, n, .inl f))) {i x : Int32} (hin : vp_in i n) (hset : w.set q0 (a, .inl (g.2.1, n, .inl (upd f i.toNatClampNeg (vp_nar .int x)))) = w') (hdg : decode cc pc = .ok (.iastore, 1))
    (kk : ∀ (H1 : Heap) (locs1 : List Loc), gS g A s H1 locs1 w' → W p l e R s m args below meth c H1 locs1 cells slots Q (F0 m (pc + 1) ls rest)) : W p l e R s m args below meth c H locs cells slots Q (F0 m pc ls (.int x :: .int i :: .ref a :: rest)) :=
  va_iast hx hb hG.1 hG.2.1 hG.2.2.1 hG.2.2.2 q0 0 he rfl hin hdg (fun H1 locs1 hP hD hS => kk H1 locs1 ⟨hG.1, hset ▸ hP, hset ▸ hD, hS⟩)
theorem g_ald (hx : p.tables.exec = Jvm.exec) (hb : c.code = cc) (hG : gS g A s H locs w) {q0 t0 n : Nat} {cA : ClassId} {C : String} {f : Nat → Option Nat} (he : w[q0]? = some (a, .inl (cA, n, .inr (.inr (.inr (.inr f)))))) (ht : (gTys g)[t0]? = some (cA, .object C)) {i : Int32} (hin : vp_in i n) {b : Nat} (hf : f i.toNatClampNeg = some b) (hdg : decode cc pc = .ok (.aaload, 1))
    (kk : W p l e R s m args below meth c H locs cells slots Q (F0 m (pc + 1) ls (.ref b :: rest))) : W p l e R s m args below meth c H locs cells slots Q (F0 m pc ls (.int i :: .ref a :: rest)) :=
  va_aldq hx hb hG.1 hG.2.1 q0 t0 he ht hin hdg (by rw [hf]; exact kk)
theorem g_iret {U : Type} {post : Int32 → U → Prop} {wf : U → va_W} {v : Int32} (hx : p.tables.exec = Jvm.exec) (hb : c.code = cc) (hr : meth.sig.returnType = some .int) (hlocks : meth.locks = false) (hG : gS g A s H locs w) (u : U) (hw : wf u = w) (hp : post v u) (hdg : decode cc pc = .ok (.ireturn, 1)) :
    W p l e R s m args below meth c H locs cells slots (MQ below (va_Qi post (fun u t => gC g A (wf u) t) A) args s cells slots A) (F0 m pc ls [.int v]) :=
  W.iret hx hb hr (fun t ht hW => ⟨⟨v, u, rfl, hp, by rw [ht, hw]; exact hG.2.1, va_K.moved hW.alike hG.1, by rw [hw]; exact hG.2.2.1⟩, hG.2.2.2.F ht⟩) hG.2.2.2.2.2 hdg hlocks
theorem g_zret {U : Type} {post : Int32 → U → Prop} {wf : U → va_W} {v : Int32} (hx : p.tables.exec = Jvm.exec) (hb : c.code = cc) (hr : meth.sig.returnType = some .boolean) (hlocks : meth.locks = false) (hG : gS g A s H locs w) (hv : v = 0 ∨ v = 1) (u : U) (hw : wf u = w) (hp : post v u) (hdg : decode cc pc = .ok (.ireturn, 1)) :
    W p l e R s m args below meth c H locs cells slots (MQ below (va_Qi post (fun u t => gC g A (wf u) t) A) args s cells slots A) (F0 m pc ls [.int v]) :=
  W.zret hx hb hr (by rcases hv with rfl | rfl <;> rfl) (fun t ht hW => ⟨⟨v, u, rfl, hp, by rw [ht, hw]; exact hG.2.1, va_K.moved hW.alike hG.1, by rw [hw]; exact hG.2.2.1⟩, hG.2.2.2.F ht⟩) hG.2.2.2.2.2 hdg hlocks
theorem g_lret {U : Type} {post : Int64 → U → Prop} {wf : U → va_W} {v : Int64} (hx : p.tables.exec = Jvm.exec) (hb : c.code = cc) (hr : meth.sig.returnType = some .long) (hlocks : meth.locks = false) (hG : gS g A s H locs w) (u : U) (hw : wf u = w) (hp : post v u) (hdg : decode cc pc = .ok (.lreturn, 1)) :
    W p l e R s m args below meth c H locs cells slots (MQ below (va_Ql post (fun u t => gC g A (wf u) t) A) args s cells slots A) (F0 m pc ls [.long v]) :=
  W.lret hx hb hr (fun t ht hW => ⟨⟨v, u, rfl, hp, by rw [ht, hw]; exact hG.2.1, va_K.moved hW.alike hG.1, by rw [hw]; exact hG.2.2.1⟩, hG.2.2.2.F ht⟩) hG.2.2.2.2.2 hdg hlocks
theorem g_vret {U : Type} {post : U → Prop} {wf : U → va_W} (hx : p.tables.exec = Jvm.exec) (hb : c.code = cc) (hr : meth.sig.returnType = none) (hlocks : meth.locks = false) (hG : gS g A s H locs w) (u : U) (hw : wf u = w) (hp : post u) (hdg : decode cc pc = .ok (.return_, 1)) :
    W p l e R s m args below meth c H locs cells slots (MQ below (va_Qv post (fun u t => gC g A (wf u) t) A) args s cells slots A) (F0 m pc ls []) :=
  W.vret hx hb hr (fun t ht hW => ⟨⟨u, rfl, hp, by rw [ht, hw]; exact hG.2.1, va_K.moved hW.alike hG.1, by rw [hw]; exact hG.2.2.1⟩, hG.2.2.2.F ht⟩) hG.2.2.2.2.2 hdg hlocks
theorem g_aret {U : Type} {post : U → Prop} {wf : U → va_W} {b : Nat} {rt : String} (hx : p.tables.exec = Jvm.exec) (hb : c.code = cc) (hr : meth.sig.returnType = some (.object rt)) (hlocks : meth.locks = false) (hG : gS g A s H locs w) (u : U) (hw : wf u = w) (hp : post u) (hdg : decode cc pc = .ok (.areturn, 1)) :
    W p l e R s m args below meth c H locs cells slots (MQ below (va_Qr post (fun u x t => x = b ∧ gC g A (wf u) t) A) args s cells slots A) (F0 m pc ls [.ref b]) :=
  W.aret hx hb hr (Or.inl ⟨_, rfl⟩) (Or.inr ⟨_, rfl⟩) (fun t ht hW => ⟨⟨u, b, rfl, hp, rfl, by rw [ht, hw]; exact hG.2.1, va_K.moved hW.alike hG.1, by rw [hw]; exact hG.2.2.1⟩, hG.2.2.2.F ht⟩) hG.2.2.2.2.2 hdg hlocks
/-- what a call leaves: the callee's world, over the caller's part -/
theorem gS_back {A1 : Nat → Prop} {t : State} {H1 : Heap} {locs1 : List Loc} (hG : gS g A s H locs w) (hA : ∀ q, s.heap.size ≤ q → A q) (h1 : A1 = va_A w H.size) (ht : t.heap = H1) (hB : gC g A1 w' t) (hS : va_S A s.heap H1 locs1) : gS g A s H1 locs1 w' := by
  subst h1
  subst ht
  exact ⟨hG.1, hB.1, hB.2.2.weaken (fun k q _ h => by
    rcases h with ⟨k, e, h⟩ | h
    · exact hG.2.2.1.2 k (q.1, e) h
    · exact hA _ (Nat.le_trans hG.2.2.2.1 h)), hS⟩
theorem gS_free (hG : gS g A s H locs w) (hA : ∀ q, s.heap.size ≤ q → A q) : ∀ q, va_A w H.size q → A q := fun q h => by
  rcases h with ⟨k, e, h⟩ | h
  · exact hG.2.2.1.2 k _ h
  · exact hA _ (Nat.le_trans hG.2.2.2.1 h)
theorem gS_sub (hG : gS g A s H locs w) : gS g A s H locs [] := ⟨hG.1, fun _ _ h => by simp at h, ⟨fun _ _ _ _ h => by simp at h, fun _ _ h => by simp at h⟩, hG.2.2.2⟩
theorem gS_kept {H1 : Heap} {locs1 : List Loc} (hG : gS g A s H locs w) (hk : ∀ q : Nat, q < H.size → ¬ va_A [] H.size q → H1[q]? = H[q]?) (hS : va_S A s.heap H1 locs1) : gS g A s H1 locs1 w := ⟨hG.1, hG.2.1.kept (fun k q h => hk _ ((hG.2.1 k q h).lt) (fun z => by
    rcases z with ⟨k2, e, z⟩ | z
    · simp at z
    · exact absurd ((hG.2.1 k q h).lt) (Nat.not_lt.mpr z))), hG.2.2.1, hS⟩
theorem gS_pre (hG : gS g A s H locs w) {vs : List Value} {U : State} (hU : U.heap = H) (hW : s.WarmedH U.vm) : va_Pc vs (gB g H.size w) vs.toArray U := ⟨rfl, by rw [hU], by rw [hU]; exact hG.2.1, va_K.moved hW.alike hG.1, hG.2.2.1.weaken (fun _ _ _ _ => trivial)⟩
theorem g_max {own : String} {index : Nat} (hx : p.tables.exec = Jvm.exec) (hb : c.code = cc) {nL : Nat} (hml : c.maxLocals = nL) (hsz : ls.size = nL) (hts : ∀ w ∈ TT, w.before args s = true) (hown : s.vm.findClass own = some m.cls) (h1 : Cond.methodLink own index Lib.Math.max.name ∈ TT) (h2 : Cond.static Lib.Math.max.name ∈ TT) (h3 : Cond.initialized "java/lang/Math" ∈ TT) (h4 : Cond.code Lib.Math.max.name Lib.Math.max.code 2 (some .int) ∈ TT) (hf : 1 ≤ R.frames) (hlo : (rest.map fun v => v.category).sum + 13 ≤ R.locals) {x y : Int32} (hdg : decode cc pc = .ok (.invokestatic index, 3)) (hc : cells ≤ R.cells := by first | exact Nat.le_refl _ | exact Nat.zero_le _) (hs : slots ≤ R.slots := by first | exact Nat.le_refl _ | exact Nat.zero_le _)
    (kk : W p l e R s m args below meth c H locs cells slots Q (F0 m (pc + 3) ls (.int (jmax x y) :: rest))) : W p l e R s m args below meth c H locs cells slots Q (F0 m pc ls (.int y :: .int x :: rest)) :=
  va_mmax hx hb (hml.trans hsz.symm) hown (hts _ h1) (hts _ h2) (hts _ h3) (hts _ h4) hf hlo hc hs hdg kk
theorem g_min {own : String} {index : Nat} (hx : p.tables.exec = Jvm.exec) (hb : c.code = cc) {nL : Nat} (hml : c.maxLocals = nL) (hsz : ls.size = nL) (hts : ∀ w ∈ TT, w.before args s = true) (hown : s.vm.findClass own = some m.cls) (h1 : Cond.methodLink own index Lib.Math.min.name ∈ TT) (h2 : Cond.static Lib.Math.min.name ∈ TT) (h3 : Cond.initialized "java/lang/Math" ∈ TT) (h4 : Cond.code Lib.Math.min.name Lib.Math.min.code 2 (some .int) ∈ TT) (hf : 1 ≤ R.frames) (hlo : (rest.map fun v => v.category).sum + 13 ≤ R.locals) {x y : Int32} (hdg : decode cc pc = .ok (.invokestatic index, 3)) (hc : cells ≤ R.cells := by first | exact Nat.le_refl _ | exact Nat.zero_le _) (hs : slots ≤ R.slots := by first | exact Nat.le_refl _ | exact Nat.zero_le _)
    (kk : W p l e R s m args below meth c H locs cells slots Q (F0 m (pc + 3) ls (.int (jmin x y) :: rest))) : W p l e R s m args below meth c H locs cells slots Q (F0 m pc ls (.int y :: .int x :: rest)) :=
  va_mmin hx hb (hml.trans hsz.symm) hown (hts _ h1) (hts _ h2) (hts _ h3) (hts _ h4) hf hlo hc hs hdg kk
section CALLS
variable {nL n index maxL ci q0 b N : Nat} {own : String} {y : MethodName} {bytes : ByteArray} {ret : Option FieldType} {rm : Room} {As st0 fs : List Value} {T : u_T} {U : Type} {wf : U → va_W}
theorem g_words {maxL n index : Nat} {own : String} {y : MethodName} {bytes : ByteArray} {ret : Option FieldType} {rm : Room} (hts : ∀ w ∈ TT, w.before args s = true) (m1 : Cond.methodLink own index y ∈ TT) (m4 : Cond.initialized y.cls ∈ TT) (m5 : Cond.code y bytes maxL ret ∈ TT) (hrc : rm.cells = 0) (hrs : rm.slots = 0) (hd : y.cls ≠ "java/lang/invoke/MethodHandle" ∧ y.cls ≠ "java/lang/invoke/VarHandle" ∧ (parseMethodDescriptor y.desc).map (fun d => d.parameters.length) = some n) (hR : rm.frames + 1 ≤ R.frames ∧ 8 + (maxL + 11) + rm.locals ≤ R.locals) : CallB R s args own index y bytes maxL ret (Cond.code y bytes maxL ret :: TT) rm 0 0 n :=
  callB_of n hts (TT_good (fun w hw => by rcases List.mem_cons.mp hw with rfl | h; exact m5; exact h) (fun w h => h)) rfl hrc hrs (hts _ m4) (hts _ m1) hd hR
theorem g_runV {Qc : Array Value → State → Outcome → State → Prop} (hx : p.tables.exec = Jvm.exec) (hb : c.code = cc) (hml : c.maxLocals = nL) (hown : s.vm.findClass own = some m.cls) (hts : ∀ w ∈ TT, w.before args s = true) (hG : gS g A s H locs w) (hM : Met l y (Cond.code y bytes maxL ret :: TT) rm (va_Pc (.ref b :: As) (gB g H.size w)) Qc 0 0 (va_A w H.size)) (m1 : Cond.methodLink own index y ∈ TT) (m2 : Cond.instanceMethod y ∈ TT) (m3 : Cond.selects y.cls y y ∈ TT) (m4 : Cond.initialized y.cls ∈ TT) (m5 : Cond.code y bytes maxL ret ∈ TT) (hd : y.cls ≠ "java/lang/invoke/MethodHandle" ∧ y.cls ≠ "java/lang/invoke/VarHandle" ∧ (parseMethodDescriptor y.desc).map (fun d => d.parameters.length) = some n) (hrm : rm.cells = 0 ∧ rm.slots = 0 ∧ rm.frames + 1 ≤ R.frames ∧ 8 + (maxL + 11) + rm.locals ≤ R.locals) (he : w[q0]? = some (b, .inr (ci, fs))) (hc : vwCl[ci]? = some (y.cls, T, N)) (hn : As.length = n) (hsz : ls.size = nL) (hst : st0 = As.reverse ++ .ref b :: rest) (hWr : (rest.map fun v => v.category).sum ≤ 8) (hdg : decode cc pc = .ok (.invokevirtual index, 3)) (hf : cells ≤ R.cells ∧ slots ≤ R.slots) :
    va_Run p l e R s m args below meth c H locs cells slots 0 0 (F0 m pc ls st0) rest (Qc (Value.ref b :: As).toArray) (va_A w H.size) :=
  va_runV ⟨hx, hb, hml, hown, hts⟩ hM ⟨g_words hts m1 m4 m5 hrm.1 hrm.2.1 hd hrm.2.2, hts _ m2, hts _ m3⟩ ⟨gB_blind, va_recv (q := (y.cls, T, N)) hG.1 hG.2.1 hc he, fun U hU hW => gS_pre hG hU hW⟩ rfl hn hsz hst (lv_room hWr) hdg hf
theorem g_runS {Qc : Array Value → State → Outcome → State → Prop} (hx : p.tables.exec = Jvm.exec) (hb : c.code = cc) (hml : c.maxLocals = nL) (hown : s.vm.findClass own = some m.cls) (hts : ∀ w ∈ TT, w.before args s = true) (hG : gS g A s H locs w) (hM : Met l y (Cond.code y bytes maxL ret :: TT) rm (va_Pc As (gB g H.size [])) Qc 0 0 (va_A [] H.size)) (m1 : Cond.methodLink own index y ∈ TT) (m2 : Cond.static y ∈ TT) (m4 : Cond.initialized y.cls ∈ TT) (m5 : Cond.code y bytes maxL ret ∈ TT) (hd : y.cls ≠ "java/lang/invoke/MethodHandle" ∧ y.cls ≠ "java/lang/invoke/VarHandle" ∧ (parseMethodDescriptor y.desc).map (fun d => d.parameters.length) = some n) (hrm : rm.cells = 0 ∧ rm.slots = 0 ∧ rm.frames + 1 ≤ R.frames ∧ 8 + (maxL + 11) + rm.locals ≤ R.locals) (hn : As.length = n) (hsz : ls.size = nL) (hst : st0 = As.reverse ++ rest) (hWr : (rest.map fun v => v.category).sum ≤ 8) (hdg : decode cc pc = .ok (.invokestatic index, 3)) (hf : cells ≤ R.cells ∧ slots ≤ R.slots) :
    va_Run p l e R s m args below meth c H locs cells slots 0 0 (F0 m pc ls st0) rest (Qc As.toArray) (va_A [] H.size) :=
  va_runS ⟨hx, hb, hml, hown, hts⟩ hM ⟨g_words hts m1 m4 m5 hrm.1 hrm.2.1 hd hrm.2.2, hts _ m2⟩ ⟨gB_blind, fun U hU hW => gS_pre (gS_sub hG) hU hW⟩ rfl hn hsz hst (lv_room hWr) hdg hf
variable {ar : Array Value}
theorem g_ci {post : Int32 → U → Prop} (hr : va_Run p l e R s m args below meth c H locs cells slots 0 0 (F0 m pc ls st0) rest (va_Qi post (fun u t => gC g (va_A w H.size) (wf u) t) (va_A w H.size) ar) (va_A w H.size)) (hG : gS g A s H locs w) (hA : ∀ q, s.heap.size ≤ q → A q)
    (kk : ∀ (r : Int32) (u : U) (H1 : Heap) (locs1 : List Loc), post r u → gS g A s H1 locs1 (wf u) → W p l e R s m args below meth c H1 locs1 cells slots Q (F0 m (pc + 3) ls (.int r :: rest))) : W p l e R s m args below meth c H locs cells slots Q (F0 m pc ls st0) :=
  va_calli hr hG.2.2.2 (fun q _ h => gS_free hG hA q h) (gS_free hG hA) (fun r u t H1 locs1 ht hvm hp hB hz hk hS => kk r u H1 locs1 hp (gS_back hG hA rfl ht hB hS))
theorem g_cl {post : Int64 → U → Prop} (hr : va_Run p l e R s m args below meth c H locs cells slots 0 0 (F0 m pc ls st0) rest (va_Ql post (fun u t => gC g (va_A w H.size) (wf u) t) (va_A w H.size) ar) (va_A w H.size)) (hG : gS g A s H locs w) (hA : ∀ q, s.heap.size ≤ q → A q)
    (kk : ∀ (r : Int64) (u : U) (H1 : Heap) (locs1 : List Loc), post r u → gS g A s H1 locs1 (wf u) → W p l e R s m args below meth c H1 locs1 cells slots Q (F0 m (pc + 3) ls (.long r :: rest))) : W p l e R s m args below meth c H locs cells slots Q (F0 m pc ls st0) :=
  va_calll hr hG.2.2.2 (fun q _ h => gS_free hG hA q h) (gS_free hG hA) (fun r u t H1 locs1 ht hvm hp hB hz hk hS => kk r u H1 locs1 hp (gS_back hG hA rfl ht hB hS))
theorem g_cv {post : U → Prop} (hr : va_Run p l e R s m args below meth c H locs cells slots 0 0 (F0 m pc ls st0) rest (va_Qv post (fun u t => gC g (va_A w H.size) (wf u) t) (va_A w H.size) ar) (va_A w H.size)) (hG : gS g A s H locs w) (hA : ∀ q, s.heap.size ≤ q → A q)
    (kk : ∀ (u : U) (H1 : Heap) (locs1 : List Loc), post u → gS g A s H1 locs1 (wf u) → W p l e R s m args below meth c H1 locs1 cells slots Q (F0 m (pc + 3) ls rest)) : W p l e R s m args below meth c H locs cells slots Q (F0 m pc ls st0) :=
  va_callv hr hG.2.2.2 (fun q _ h => gS_free hG hA q h) (gS_free hG hA) (fun u t H1 locs1 ht hvm hp hB hz hk hS => kk u H1 locs1 hp (gS_back hG hA rfl ht hB hS))
theorem g_cr {post : U → Prop} {b1 : Nat} (hr : va_Run p l e R s m args below meth c H locs cells slots 0 0 (F0 m pc ls st0) rest (va_Qr post (fun u x t => x = b1 ∧ gC g (va_A w H.size) (wf u) t) (va_A w H.size) ar) (va_A w H.size)) (hG : gS g A s H locs w) (hA : ∀ q, s.heap.size ≤ q → A q)
    (kk : ∀ (u : U) (H1 : Heap) (locs1 : List Loc), post u → gS g A s H1 locs1 (wf u) → W p l e R s m args below meth c H1 locs1 cells slots Q (F0 m (pc + 3) ls (.ref b1 :: rest))) : W p l e R s m args below meth c H locs cells slots Q (F0 m pc ls st0) :=
  va_callr hr hG.2.2.2 (fun q _ h => gS_free hG hA q h) (gS_free hG hA) (fun u ra t H1 locs1 ht hvm hp hB hz hk hS => by
    obtain ⟨rfl, hB⟩ := hB
    exact kk u H1 locs1 hp (gS_back hG hA rfl ht hB hS))
/-- a static method that looks at no cell -/
theorem g_si {v : Int32} (hr : va_Run p l e R s m args below meth c H locs cells slots 0 0 (F0 m pc ls st0) rest (va_Qi (fun r (_ : Unit) => r = v) (fun _ t => gC g (va_A [] H.size) [] t) (va_A [] H.size) ar) (va_A [] H.size)) (hG : gS g A s H locs w) (hA : ∀ q, s.heap.size ≤ q → A q)
    (kk : ∀ (H1 : Heap) (locs1 : List Loc), gS g A s H1 locs1 w → W p l e R s m args below meth c H1 locs1 cells slots Q (F0 m (pc + 3) ls (.int v :: rest))) : W p l e R s m args below meth c H locs cells slots Q (F0 m pc ls st0) :=
  va_calli hr hG.2.2.2 (fun q _ h => gS_free (gS_sub hG) hA q h) (gS_free (gS_sub hG) hA) (fun r u t H1 locs1 ht hvm hp hB hz hk hS => by
    subst hp
    exact kk H1 locs1 (gS_kept hG hk hS))
theorem g_sl {v : Int64} (hr : va_Run p l e R s m args below meth c H locs cells slots 0 0 (F0 m pc ls st0) rest (va_Ql (fun r (_ : Unit) => r = v) (fun _ t => gC g (va_A [] H.size) [] t) (va_A [] H.size) ar) (va_A [] H.size)) (hG : gS g A s H locs w) (hA : ∀ q, s.heap.size ≤ q → A q)
    (kk : ∀ (H1 : Heap) (locs1 : List Loc), gS g A s H1 locs1 w → W p l e R s m args below meth c H1 locs1 cells slots Q (F0 m (pc + 3) ls (.long v :: rest))) : W p l e R s m args below meth c H locs cells slots Q (F0 m pc ls st0) :=
  va_calll hr hG.2.2.2 (fun q _ h => gS_free (gS_sub hG) hA q h) (gS_free (gS_sub hG) hA) (fun r u t H1 locs1 ht hvm hp hB hz hk hS => by
    subst hp
    exact kk H1 locs1 (gS_kept hG hk hS))
end CALLS
end GROWS
/-- a method, from its entry, over a world -/
theorem g_of {l : Launch} {y : MethodName} {rm : Room} {vs : List Value} {g : GG} {sz : Nat} {w : va_W} {Qf : (Nat → Prop) → Array Value → State → Outcome → State → Prop} {cc : ByteArray} {maxL : Nat} {ret : Option FieldType} (hy : plainName y.cls = true) (hn : (lg_sl vs).length ≤ maxL)
    (body : ∀ (p : Program) (e : Env) (s : State) (m : MethodId) (below : List Frame) (meth : Method) (c : Code) (A : Nat → Prop) (ls : Array Slot), p.tables.exec = Jvm.exec → c.code = cc → c.maxLocals = maxL → meth.sig.returnType = ret → meth.locks = false → (∀ w ∈ TT, w.before vs.toArray s = true) → s.vm.findClass y.cls = some m.cls → (∀ q, s.heap.size ≤ q → A q) → gS g A s s.heap [] w → lv_has ls maxL (lv_args 0 vs) →
      W p l e rm s m vs.toArray below meth c s.heap [] 0 0 (MQ below (Qf A) vs.toArray s 0 0 A) (F0 m 0 ls [])) :
    Met l y (Cond.code y cc maxL ret :: TT) rm (va_Pc vs (gB g sz w)) (Qf (va_A w sz)) 0 0 (va_A w sz) := by
  refine Met.ofW (cc := cc) (maxL := maxL) (ret := ret) hy rfl ?_
  intro p e s m args below meth c s₁ B hml hv
  obtain ⟨rfl, hsz, hP, hK, hD0⟩ := hv
  subst hsz
  have hl := lv_entry vs (n := maxL) hn
  rw [lg_entry_eq]
  exact body p e s m below meth c (va_A w s.heap.size) _ B.exec B.bytes hml B.returns B.notSynchronized (fun w h => atoms_spec (ws := Cond.code y cc maxL ret :: TT) B.pre w (List.mem_cons_of_mem _ h)) (findClass_of_methodNamed B.named) (fun q h => Or.inr h) ⟨hK, hP, hD0.self, va_S.rf⟩ hl
end
section
theorem dX4_has_0 : decode cX4_has 0 = .ok (.iload_n 1, 1) := by decide +kernel
theorem dX4_has_1 : decode cX4_has 1 = .ok (.ifCond .lt 21, 3) := by decide +kernel
theorem dX4_has_4 : decode cX4_has 4 = .ok (.iload_n 1, 1) := by decide +kernel
theorem dX4_has_5 : decode cX4_has 5 = .ok (.aload_n 0, 1) := by decide +kernel
theorem dX4_has_6 : decode cX4_has 6 = .ok (.getfield 31, 3) := by decide +kernel
theorem dX4_has_9 : decode cX4_has 9 = .ok (.if_icmp .ge 13, 3) := by decide +kernel
theorem dX4_has_12 : decode cX4_has 12 = .ok (.iload_n 1, 1) := by decide +kernel
theorem dX4_has_13 : decode cX4_has 13 = .ok (.bipush 6, 2) := by decide +kernel
theorem dX4_has_15 : decode cX4_has 15 = .ok (.if_icmp .ge 7, 3) := by decide +kernel
theorem dX4_has_18 : decode cX4_has 18 = .ok (.iconst 1, 1) := by decide +kernel
theorem dX4_has_19 : decode cX4_has 19 = .ok (.goto 4, 3) := by decide +kernel
theorem dX4_has_22 : decode cX4_has 22 = .ok (.iconst 0, 1) := by decide +kernel
theorem dX4_has_23 : decode cX4_has 23 = .ok (.ireturn, 1) := by decide +kernel
theorem dX5_isWithin_0 : decode cX5_isWithin 0 = .ok (.iload_n 0, 1) := by decide +kernel
theorem dX5_isWithin_1 : decode cX5_isWithin 1 = .ok (.iload_n 1, 1) := by decide +kernel
theorem dX5_isWithin_2 : decode cX5_isWithin 2 = .ok (.if_icmp .lt 12, 3) := by decide +kernel
theorem dX5_isWithin_5 : decode cX5_isWithin 5 = .ok (.iload_n 0, 1) := by decide +kernel
theorem dX5_isWithin_6 : decode cX5_isWithin 6 = .ok (.iload_n 2, 1) := by decide +kernel
theorem dX5_isWithin_7 : decode cX5_isWithin 7 = .ok (.if_icmp .gt 7, 3) := by decide +kernel
theorem dX5_isWithin_10 : decode cX5_isWithin 10 = .ok (.iconst 1, 1) := by decide +kernel
theorem dX5_isWithin_11 : decode cX5_isWithin 11 = .ok (.goto 4, 3) := by decide +kernel
theorem dX5_isWithin_14 : decode cX5_isWithin 14 = .ok (.iconst 0, 1) := by decide +kernel
theorem dX5_isWithin_15 : decode cX5_isWithin 15 = .ok (.ireturn, 1) := by decide +kernel
theorem dX4_isVowed_0 : decode cX4_isVowed 0 = .ok (.aload_n 0, 1) := by decide +kernel
theorem dX4_isVowed_1 : decode cX4_isVowed 1 = .ok (.getfield 27, 3) := by decide +kernel
theorem dX4_isVowed_4 : decode cX4_isVowed 4 = .ok (.iload_n 1, 1) := by decide +kernel
theorem dX4_isVowed_5 : decode cX4_isVowed 5 = .ok (.ishr, 1) := by decide +kernel
theorem dX4_isVowed_6 : decode cX4_isVowed 6 = .ok (.iconst 1, 1) := by decide +kernel
theorem dX4_isVowed_7 : decode cX4_isVowed 7 = .ok (.iand, 1) := by decide +kernel
theorem dX4_isVowed_8 : decode cX4_isVowed 8 = .ok (.iconst 1, 1) := by decide +kernel
theorem dX4_isVowed_9 : decode cX4_isVowed 9 = .ok (.if_icmp .ne 7, 3) := by decide +kernel
theorem dX4_isVowed_12 : decode cX4_isVowed 12 = .ok (.iconst 1, 1) := by decide +kernel
theorem dX4_isVowed_13 : decode cX4_isVowed 13 = .ok (.goto 4, 3) := by decide +kernel
theorem dX4_isVowed_16 : decode cX4_isVowed 16 = .ok (.iconst 0, 1) := by decide +kernel
theorem dX4_isVowed_17 : decode cX4_isVowed 17 = .ok (.ireturn, 1) := by decide +kernel
theorem dX4_turnVow_0 : decode cX4_turnVow 0 = .ok (.aload_n 0, 1) := by decide +kernel
theorem dX4_turnVow_1 : decode cX4_turnVow 1 = .ok (.iload_n 1, 1) := by decide +kernel
theorem dX4_turnVow_2 : decode cX4_turnVow 2 = .ok (.invokevirtual 59, 3) := by decide +kernel
theorem dX4_turnVow_5 : decode cX4_turnVow 5 = .ok (.ifCond .eq 15, 3) := by decide +kernel
theorem dX4_turnVow_8 : decode cX4_turnVow 8 = .ok (.aload_n 0, 1) := by decide +kernel
theorem dX4_turnVow_9 : decode cX4_turnVow 9 = .ok (.dup, 1) := by decide +kernel
theorem dX4_turnVow_10 : decode cX4_turnVow 10 = .ok (.getfield 27, 3) := by decide +kernel
theorem dX4_turnVow_13 : decode cX4_turnVow 13 = .ok (.iconst 1, 1) := by decide +kernel
theorem dX4_turnVow_14 : decode cX4_turnVow 14 = .ok (.iload_n 1, 1) := by decide +kernel
theorem dX4_turnVow_15 : decode cX4_turnVow 15 = .ok (.ishl, 1) := by decide +kernel
theorem dX4_turnVow_16 : decode cX4_turnVow 16 = .ok (.ixor, 1) := by decide +kernel
theorem dX4_turnVow_17 : decode cX4_turnVow 17 = .ok (.putfield 27, 3) := by decide +kernel
theorem dX4_turnVow_20 : decode cX4_turnVow 20 = .ok (.return_, 1) := by decide +kernel
theorem dX6_onesOf_0 : decode cX6_onesOf 0 = .ok (.iconst 0, 1) := by decide +kernel
theorem dX6_onesOf_1 : decode cX6_onesOf 1 = .ok (.istore_n 1, 1) := by decide +kernel
theorem dX6_onesOf_2 : decode cX6_onesOf 2 = .ok (.iconst 0, 1) := by decide +kernel
theorem dX6_onesOf_3 : decode cX6_onesOf 3 = .ok (.istore_n 2, 1) := by decide +kernel
theorem dX6_onesOf_4 : decode cX6_onesOf 4 = .ok (.iload_n 2, 1) := by decide +kernel
theorem dX6_onesOf_5 : decode cX6_onesOf 5 = .ok (.bipush 6, 2) := by decide +kernel
theorem dX6_onesOf_7 : decode cX6_onesOf 7 = .ok (.if_icmp .ge 17, 3) := by decide +kernel
theorem dX6_onesOf_10 : decode cX6_onesOf 10 = .ok (.iload_n 1, 1) := by decide +kernel
theorem dX6_onesOf_11 : decode cX6_onesOf 11 = .ok (.iload_n 0, 1) := by decide +kernel
theorem dX6_onesOf_12 : decode cX6_onesOf 12 = .ok (.iload_n 2, 1) := by decide +kernel
theorem dX6_onesOf_13 : decode cX6_onesOf 13 = .ok (.ishr, 1) := by decide +kernel
theorem dX6_onesOf_14 : decode cX6_onesOf 14 = .ok (.iconst 1, 1) := by decide +kernel
theorem dX6_onesOf_15 : decode cX6_onesOf 15 = .ok (.iand, 1) := by decide +kernel
theorem dX6_onesOf_16 : decode cX6_onesOf 16 = .ok (.iadd, 1) := by decide +kernel
theorem dX6_onesOf_17 : decode cX6_onesOf 17 = .ok (.istore_n 1, 1) := by decide +kernel
theorem dX6_onesOf_18 : decode cX6_onesOf 18 = .ok (.iinc 2 1, 3) := by decide +kernel
theorem dX6_onesOf_21 : decode cX6_onesOf 21 = .ok (.goto (-17), 3) := by decide +kernel
theorem dX6_onesOf_24 : decode cX6_onesOf 24 = .ok (.iload_n 1, 1) := by decide +kernel
theorem dX6_onesOf_25 : decode cX6_onesOf 25 = .ok (.ireturn, 1) := by decide +kernel
end
section
def F_X5_isWithin (p0 : Int32) (p1 : Int32) (p2 : Int32) : Int32 :=
  (if p0 < p1 then 0 else (if p2 < p0 then 0 else 1))
set_option maxHeartbeats 4000000 in
set_option maxRecDepth 100000 in
theorem c_X5_isWithin {l : Launch} {g : GG} {sz : Nat}  (p0 : Int32) (p1 : Int32) (p2 : Int32)  : Met l yX5_isWithin (Cond.code yX5_isWithin cX5_isWithin 3 (some .boolean) :: TT) (rmL 1) (va_Pc [.int p0, .int p1, .int p2] (gB g sz [])) (va_Qi (fun r (_ : Unit) => r = (F_X5_isWithin p0 p1 p2)) (fun u t => gC g (va_A [] sz) [] t) (va_A [] sz)) 0 0 (va_A [] sz) := by
  generalize hE : F_X5_isWithin p0 p1 p2 = EE
  refine g_of (Qf := fun A => (va_Qi (fun r (_ : Unit) => r = EE) (fun u t => gC g A [] t) A)) (cc := cX5_isWithin) (maxL := 3) (ret := (some .boolean)) (by decide) (Nat.le_of_ble_eq_true rfl) ?_
  intro p e s m below meth c A ls hx hb hml hr hlocks hts hown hA hG hl
  replace hown : s.vm.findClass RX5 = some m.cls := hown
  replace hl : lv_has ls 3 [(0, .int p0), (1, .int p1), (2, .int p2)] := hl
  show W p l e (rmL 1) s m [.int p0, .int p1, .int p2].toArray below meth c s.heap [] 0 0 (MQ below (va_Qi (fun r (_ : Unit) => r = EE) (fun u t => gC g A [] t) A) [.int p0, .int p1, .int p2].toArray s 0 0 A) (F0 m 0 ls [])
  generalize hQ : MQ below (va_Qi (fun r (_ : Unit) => r = EE) (fun u t => gC g A [] t) A) [.int p0, .int p1, .int p2].toArray s 0 0 A = Q
  unfold F_X5_isWithin at hE
  refine lv_iload_n hx hb dX5_isWithin_0 rfl (lv_at hl 0 rfl) ?_
  refine lv_iload_n hx hb dX5_isWithin_1 rfl (lv_at hl 1 rfl) ?_
  refine lv_icmp_lt (tgt := 14) hx hb dX5_isWithin_2 (by decide) (fun c_2 => ?_) (fun c_2 => ?_)
  · replace hE := (if_pos c_2).symm.trans hE
    refine lv_iconst (v := 0) hx hb dX5_isWithin_14 (by decide) ?_
    subst hQ
    exact g_zret hx hb hr hlocks hG (Or.inl rfl) () rfl hE dX5_isWithin_15
  replace hE := (if_neg c_2).symm.trans hE
  refine lv_iload_n hx hb dX5_isWithin_5 rfl (lv_at hl 0 rfl) ?_
  refine lv_iload_n hx hb dX5_isWithin_6 rfl (lv_at hl 2 rfl) ?_
  refine lv_icmp_gt (tgt := 14) hx hb dX5_isWithin_7 (by decide) (fun c_7 => ?_) (fun c_7 => ?_)
  · replace hE := (if_pos c_7).symm.trans hE
    refine lv_iconst (v := 0) hx hb dX5_isWithin_14 (by decide) ?_
    subst hQ
    exact g_zret hx hb hr hlocks hG (Or.inl rfl) () rfl hE dX5_isWithin_15
  replace hE := (if_neg c_7).symm.trans hE
  refine lv_iconst (v := 1) hx hb dX5_isWithin_10 (by decide) ?_
  refine lv_goto (tgt := 15) hx hb dX5_isWithin_11 (by decide) ?_
  subst hQ
  exact g_zret hx hb hr hlocks hG (Or.inr rfl) () rfl hE dX5_isWithin_15
def F_X4_has (T : Ob) (p1 : Int32) : Int32 :=
  (if p1 < 0 then 0 else (if (T.1 6) ≤ p1 then 0 else (if 6 ≤ p1 then 0 else 1)))
set_option maxHeartbeats 4000000 in
set_option maxRecDepth 100000 in
theorem c_X4_has {l : Launch} {g : GG} {sz : Nat} {bb : Ob} {tx rw : Nat → Ob} {sb dy : Ob} {tn : Nat → Ob} {mo : Ob} {jk : Nat → Nat → Int32} {o : Nat} (ho : o < 3) {T : Ob} (hT : tn o = T) (p1 : Int32)  : Met l yX4_has (Cond.code yX4_has cX4_has 2 (some .boolean) :: TT) (rmL 1) (va_Pc [.ref (gA g (40 + 6 * o)), .int p1] (gB g sz (gW g bb tx rw sb dy tn mo jk))) (va_Qi (fun r (_ : (Nat → Nat → Int32)) => r = (F_X4_has T p1)) (fun u t => gC g (va_A (gW g bb tx rw sb dy tn mo jk) sz) (gW g bb tx rw sb dy tn mo u) t) (va_A (gW g bb tx rw sb dy tn mo jk) sz)) 0 0 (va_A (gW g bb tx rw sb dy tn mo jk) sz) := by
  generalize hE : F_X4_has T p1 = EE
  refine g_of (Qf := fun A => (va_Qi (fun r (_ : (Nat → Nat → Int32)) => r = EE) (fun u t => gC g A (gW g bb tx rw sb dy tn mo u) t) A)) (cc := cX4_has) (maxL := 2) (ret := (some .boolean)) (by decide) (Nat.le_of_ble_eq_true rfl) ?_
  intro p e s m below meth c A ls hx hb hml hr hlocks hts hown hA hG hl
  replace hown : s.vm.findClass RX4 = some m.cls := hown
  replace hl : lv_has ls 2 [(0, .ref (gA g (40 + 6 * o))), (1, .int p1)] := hl
  show W p l e (rmL 1) s m [.ref (gA g (40 + 6 * o)), .int p1].toArray below meth c s.heap [] 0 0 (MQ below (va_Qi (fun r (_ : (Nat → Nat → Int32)) => r = EE) (fun u t => gC g A (gW g bb tx rw sb dy tn mo u) t) A) [.ref (gA g (40 + 6 * o)), .int p1].toArray s 0 0 A) (F0 m 0 ls [])
  generalize hQ : MQ below (va_Qi (fun r (_ : (Nat → Nat → Int32)) => r = EE) (fun u t => gC g A (gW g bb tx rw sb dy tn mo u) t) A) [.ref (gA g (40 + 6 * o)), .int p1].toArray s 0 0 A = Q
  unfold F_X4_has at hE
  refine lv_iload_n hx hb dX4_has_0 rfl (lv_at hl 1 rfl) ?_
  refine lv_if_lt (tgt := 22) hx hb dX4_has_1 (by decide) (fun c_1 => ?_) (fun c_1 => ?_)
  · replace hE := (if_pos c_1).symm.trans hE
    refine lv_iconst (v := 0) hx hb dX4_has_22 (by decide) ?_
    subst hQ
    exact g_zret hx hb hr hlocks hG (Or.inl rfl) jk rfl hE dX4_has_23
  replace hE := (if_neg c_1).symm.trans hE
  refine lv_iload_n hx hb dX4_has_4 rfl (lv_at hl 1 rfl) ?_
  refine lv_aload_n hx hb dX4_has_5 rfl (lv_at hl 0 rfl) ?_
  refine g_get hx hb hts hiX4 hown hG (gw_Town ho hT) rfl 6 (by decide) (index := 31) tw_fl_RX4_31 (v := .int (T.1 6)) rfl dX4_has_6 ?_
  refine lv_icmp_ge (tgt := 22) hx hb dX4_has_9 (by decide) (fun c_9 => ?_) (fun c_9 => ?_)
  · replace hE := (if_pos c_9).symm.trans hE
    refine lv_iconst (v := 0) hx hb dX4_has_22 (by decide) ?_
    subst hQ
    exact g_zret hx hb hr hlocks hG (Or.inl rfl) jk rfl hE dX4_has_23
  replace hE := (if_neg c_9).symm.trans hE
  refine lv_iload_n hx hb dX4_has_12 rfl (lv_at hl 1 rfl) ?_
  refine lv_bipush (v := 6) hx hb dX4_has_13 (by decide) ?_
  refine lv_icmp_ge (tgt := 22) hx hb dX4_has_15 (by decide) (fun c_15 => ?_) (fun c_15 => ?_)
  · replace hE := (if_pos c_15).symm.trans hE
    refine lv_iconst (v := 0) hx hb dX4_has_22 (by decide) ?_
    subst hQ
    exact g_zret hx hb hr hlocks hG (Or.inl rfl) jk rfl hE dX4_has_23
  replace hE := (if_neg c_15).symm.trans hE
  refine lv_iconst (v := 1) hx hb dX4_has_18 (by decide) ?_
  refine lv_goto (tgt := 23) hx hb dX4_has_19 (by decide) ?_
  subst hQ
  exact g_zret hx hb hr hlocks hG (Or.inr rfl) jk rfl hE dX4_has_23
def F_X4_isVowed (T : Ob) (p1 : Int32) : Int32 :=
  (if (((T.1 5) >>> (p1 &&& 31)) &&& 1) = 1 then 1 else 0)
set_option maxHeartbeats 4000000 in
set_option maxRecDepth 100000 in
theorem c_X4_isVowed {l : Launch} {g : GG} {sz : Nat} {bb : Ob} {tx rw : Nat → Ob} {sb dy : Ob} {tn : Nat → Ob} {mo : Ob} {jk : Nat → Nat → Int32} {o : Nat} (ho : o < 3) {T : Ob} (hT : tn o = T) (p1 : Int32)  : Met l yX4_isVowed (Cond.code yX4_isVowed cX4_isVowed 2 (some .boolean) :: TT) (rmL 1) (va_Pc [.ref (gA g (40 + 6 * o)), .int p1] (gB g sz (gW g bb tx rw sb dy tn mo jk))) (va_Qi (fun r (_ : (Nat → Nat → Int32)) => r = (F_X4_isVowed T p1)) (fun u t => gC g (va_A (gW g bb tx rw sb dy tn mo jk) sz) (gW g bb tx rw sb dy tn mo u) t) (va_A (gW g bb tx rw sb dy tn mo jk) sz)) 0 0 (va_A (gW g bb tx rw sb dy tn mo jk) sz) := by
  generalize hE : F_X4_isVowed T p1 = EE
  refine g_of (Qf := fun A => (va_Qi (fun r (_ : (Nat → Nat → Int32)) => r = EE) (fun u t => gC g A (gW g bb tx rw sb dy tn mo u) t) A)) (cc := cX4_isVowed) (maxL := 2) (ret := (some .boolean)) (by decide) (Nat.le_of_ble_eq_true rfl) ?_
  intro p e s m below meth c A ls hx hb hml hr hlocks hts hown hA hG hl
  replace hown : s.vm.findClass RX4 = some m.cls := hown
  replace hl : lv_has ls 2 [(0, .ref (gA g (40 + 6 * o))), (1, .int p1)] := hl
  show W p l e (rmL 1) s m [.ref (gA g (40 + 6 * o)), .int p1].toArray below meth c s.heap [] 0 0 (MQ below (va_Qi (fun r (_ : (Nat → Nat → Int32)) => r = EE) (fun u t => gC g A (gW g bb tx rw sb dy tn mo u) t) A) [.ref (gA g (40 + 6 * o)), .int p1].toArray s 0 0 A) (F0 m 0 ls [])
  generalize hQ : MQ below (va_Qi (fun r (_ : (Nat → Nat → Int32)) => r = EE) (fun u t => gC g A (gW g bb tx rw sb dy tn mo u) t) A) [.ref (gA g (40 + 6 * o)), .int p1].toArray s 0 0 A = Q
  unfold F_X4_isVowed at hE
  refine lv_aload_n hx hb dX4_isVowed_0 rfl (lv_at hl 0 rfl) ?_
  refine g_get hx hb hts hiX4 hown hG (gw_Town ho hT) rfl 5 (by decide) (index := 27) tw_fl_RX4_27 (v := .int (T.1 5)) rfl dX4_isVowed_1 ?_
  refine lv_iload_n hx hb dX4_isVowed_4 rfl (lv_at hl 1 rfl) ?_
  refine lv_ishr hx hb dX4_isVowed_5 ?_
  refine lv_iconst (v := 1) hx hb dX4_isVowed_6 (by decide) ?_
  refine lv_iand hx hb dX4_isVowed_7 ?_
  refine lv_iconst (v := 1) hx hb dX4_isVowed_8 (by decide) ?_
  refine lv_icmp_ne (tgt := 16) hx hb dX4_isVowed_9 (by decide) (fun c_9 => ?_) (fun c_9 => ?_)
  · replace hE := (if_neg c_9).symm.trans hE
    refine lv_iconst (v := 0) hx hb dX4_isVowed_16 (by decide) ?_
    subst hQ
    exact g_zret hx hb hr hlocks hG (Or.inl rfl) jk rfl hE dX4_isVowed_17
  replace hE := (if_pos c_9).symm.trans hE
  refine lv_iconst (v := 1) hx hb dX4_isVowed_12 (by decide) ?_
  refine lv_goto (tgt := 17) hx hb dX4_isVowed_13 (by decide) ?_
  subst hQ
  exact g_zret hx hb hr hlocks hG (Or.inr rfl) jk rfl hE dX4_isVowed_17
def F_X4_turnVow (T : Ob) (p1 : Int32) : Ob :=
  (if (F_X4_has T p1) = 0 then T else (setS T 5 ((T.1 5) ^^^ (1 <<< (p1 &&& 31)))))
set_option maxHeartbeats 4000000 in
set_option maxRecDepth 100000 in
theorem c_X4_turnVow {l : Launch} {g : GG} {sz : Nat} {bb : Ob} {tx rw : Nat → Ob} {sb dy : Ob} {tn : Nat → Ob} {mo : Ob} {jk : Nat → Nat → Int32} {o : Nat} (ho : o < 3) {T : Ob} (hT : tn o = T) (p1 : Int32)  : Met l yX4_turnVow (Cond.code yX4_turnVow cX4_turnVow 2 none :: TT) (rmL 2) (va_Pc [.ref (gA g (40 + 6 * o)), .int p1] (gB g sz (gW g bb tx rw sb dy tn mo jk))) (va_Qv (fun (u : Ob × (Nat → Nat → Int32)) => (F_X4_turnVow T p1) = (u.1)) (fun u t => gC g (va_A (gW g bb tx rw sb dy tn mo jk) sz) (gW g bb tx rw sb dy (va_up tn o u.1) mo u.2) t) (va_A (gW g bb tx rw sb dy tn mo jk) sz)) 0 0 (va_A (gW g bb tx rw sb dy tn mo jk) sz) := by
  generalize hE : F_X4_turnVow T p1 = EE
  refine g_of (Qf := fun A => (va_Qv (fun (u : Ob × (Nat → Nat → Int32)) => EE = (u.1)) (fun u t => gC g A (gW g bb tx rw sb dy (va_up tn o u.1) mo u.2) t) A)) (cc := cX4_turnVow) (maxL := 2) (ret := none) (by decide) (Nat.le_of_ble_eq_true rfl) ?_
  intro p e s m below meth c A ls hx hb hml hr hlocks hts hown hA hG hl
  replace hown : s.vm.findClass RX4 = some m.cls := hown
  replace hl : lv_has ls 2 [(0, .ref (gA g (40 + 6 * o))), (1, .int p1)] := hl
  show W p l e (rmL 2) s m [.ref (gA g (40 + 6 * o)), .int p1].toArray below meth c s.heap [] 0 0 (MQ below (va_Qv (fun (u : Ob × (Nat → Nat → Int32)) => EE = (u.1)) (fun u t => gC g A (gW g bb tx rw sb dy (va_up tn o u.1) mo u.2) t) A) [.ref (gA g (40 + 6 * o)), .int p1].toArray s 0 0 A) (F0 m 0 ls [])
  generalize hQ : MQ below (va_Qv (fun (u : Ob × (Nat → Nat → Int32)) => EE = (u.1)) (fun u t => gC g A (gW g bb tx rw sb dy (va_up tn o u.1) mo u.2) t) A) [.ref (gA g (40 + 6 * o)), .int p1].toArray s 0 0 A = Q
  replace hG : gS g A s s.heap [] (gW g bb tx rw sb dy (va_up tn o T) mo jk) := by simpa only [← hT, up_self] using hG
  unfold F_X4_turnVow at hE
  refine lv_aload_n hx hb dX4_turnVow_0 rfl (lv_at hl 0 rfl) ?_
  refine lv_iload_n hx hb dX4_turnVow_1 rfl (lv_at hl 1 rfl) ?_
  refine g_ci (g_runV (n := 1) (rest := []) hx hb hml hown hts hG (c_X4_has ho (up_same _ _ _) p1) tw_ml_RX4_59 tw_im_X4_has tw_se_X4_has tw_in_RX4 tw_cd_X4_has (by decide +kernel) ⟨rfl, rfl, Nat.le_of_ble_eq_true rfl, Nat.le_of_ble_eq_true rfl⟩ (gw_Town ho (up_same _ _ _)) rfl rfl hl.1 rfl (Nat.le_of_ble_eq_true rfl) dX4_turnVow_2 ⟨Nat.le_refl _, Nat.le_refl _⟩) hG hA (fun r jk H locs hp hG => ?_)
  subst hp
  refine lv_if_eq (tgt := 20) hx hb dX4_turnVow_5 (by decide) (fun c_5 => ?_) (fun c_5 => ?_)
  · replace hE := (if_pos c_5).symm.trans hE
    subst hQ
    exact g_vret hx hb hr hlocks hG ((T, jk) : Ob × (Nat → Nat → Int32)) rfl hE.symm dX4_turnVow_20
  replace hE := (if_neg c_5).symm.trans hE
  refine lv_aload_n hx hb dX4_turnVow_8 rfl (lv_at hl 0 rfl) ?_
  refine lv_dup hx hb dX4_turnVow_9 rfl ?_
  refine g_get hx hb hts hiX4 hown hG (gw_Town ho (up_same _ _ _)) rfl 5 (by decide) (index := 27) tw_fl_RX4_27 (v := .int (T.1 5)) rfl dX4_turnVow_10 ?_
  refine lv_iconst (v := 1) hx hb dX4_turnVow_13 (by decide) ?_
  refine lv_iload_n hx hb dX4_turnVow_14 rfl (lv_at hl 1 rfl) ?_
  refine lv_ishl hx hb dX4_turnVow_15 ?_
  refine lv_ixor hx hb dX4_turnVow_16 ?_
  refine g_put hx hb hts hiX4 tyX4 tyX4_ok nmX4 hown hG (gw_Town ho (up_same _ _ _)) rfl 5 (by decide) (index := 27) tw_fl_RX4_27 rfl rfl rfl (Nat.le_of_ble_eq_true rfl) (gt_Town_f5 ho) dX4_turnVow_17 (fun H locs hG => ?_)
  subst hQ
  exact g_vret hx hb hr hlocks hG (((setS T 5 ((T.1 5) ^^^ (1 <<< (p1 &&& 31)))), jk) : Ob × (Nat → Nat → Int32)) rfl hE.symm dX4_turnVow_20
def F_X6_onesOf_l4 : Nat → Int32 → Int32 → Int32 → Int32
  | 0, _, _, _ => 0
  | n + 1, x0, x1, x2 =>
    (if 6 ≤ x2 then x1 else ((F_X6_onesOf_l4 n ) x0 (x1 + ((x0 >>> (x2 &&& 31)) &&& 1)) (x2 + 1)))
def F_X6_onesOf (p0 : Int32) : Int32 :=
  (F_X6_onesOf_l4 7  p0 0 0)
set_option maxHeartbeats 4000000 in
set_option maxRecDepth 100000 in
theorem c_X6_onesOf {l : Launch} {g : GG} {sz : Nat}  (p0 : Int32)  : Met l yX6_onesOf (Cond.code yX6_onesOf cX6_onesOf 3 (some .int) :: TT) (rmL 1) (va_Pc [.int p0] (gB g sz [])) (va_Qi (fun r (_ : Unit) => r = (F_X6_onesOf p0)) (fun u t => gC g (va_A [] sz) [] t) (va_A [] sz)) 0 0 (va_A [] sz) := by
  generalize hE : F_X6_onesOf p0 = EE
  refine g_of (Qf := fun A => (va_Qi (fun r (_ : Unit) => r = EE) (fun u t => gC g A [] t) A)) (cc := cX6_onesOf) (maxL := 3) (ret := (some .int)) (by decide) (Nat.le_of_ble_eq_true rfl) ?_
  intro p e s m below meth c A ls hx hb hml hr hlocks hts hown hA hG hl
  replace hown : s.vm.findClass RX6 = some m.cls := hown
  replace hl : lv_has ls 3 [(0, .int p0)] := hl
  show W p l e (rmL 1) s m [.int p0].toArray below meth c s.heap [] 0 0 (MQ below (va_Qi (fun r (_ : Unit) => r = EE) (fun u t => gC g A [] t) A) [.int p0].toArray s 0 0 A) (F0 m 0 ls [])
  generalize hQ : MQ below (va_Qi (fun r (_ : Unit) => r = EE) (fun u t => gC g A [] t) A) [.int p0].toArray s 0 0 A = Q
  unfold F_X6_onesOf at hE
  refine lv_iconst (v := 0) hx hb dX6_onesOf_0 (by decide) ?_
  refine lv_istore_n (lv' := [(1, .int 0), (0, .int p0)]) hx hb dX6_onesOf_1 rfl hl (by decide) rfl (fun ls hl => ?_)
  replace hl := lv_sub hl [1, 0] (l' := [(0, .int p0), (1, .int 0)]) rfl
  refine lv_iconst (v := 0) hx hb dX6_onesOf_2 (by decide) ?_
  refine lv_istore_n (lv' := [(2, .int 0), (0, .int p0), (1, .int 0)]) hx hb dX6_onesOf_3 rfl hl (by decide) rfl (fun ls hl => ?_)
  replace hl := lv_sub hl [1, 2, 0] (l' := [(0, .int p0), (1, .int 0), (2, .int 0)]) rfl
  have L4 : ∀ (n : Nat) (x1_4 : Int32) (x2_4 : Int32) (H : Heap) (locs : List Loc), gS g A s H locs [] → ∀ ls : Array Slot, lv_has ls 3 [(0, .int p0), (1, .int x1_4), (2, .int x2_4)] → 0 ≤ x2_4.toInt → x2_4.toInt ≤ 6 → 6 < x2_4.toInt + n → F_X6_onesOf_l4 n  p0 x1_4 x2_4 = EE → W p l e (rmL 1) s m [.int p0].toArray below meth c H locs 0 0 Q (F0 m 4 ls []) := by
    intro n
    induction n with
    | zero =>
      intro x1_4 x2_4 H locs hG ls hl h0 h1 hm hE
      omega
    | succ n ih4 =>
      intro x1_4 x2_4 H locs hG ls hl h0 h1 hm hE
      unfold F_X6_onesOf_l4 at hE
      refine lv_iload_n hx hb dX6_onesOf_4 rfl (lv_at hl 2 rfl) ?_
      refine lv_bipush (v := 6) hx hb dX6_onesOf_5 (by decide) ?_
      refine lv_icmp_ge (tgt := 24) hx hb dX6_onesOf_7 (by decide) (fun c_7 => ?_) (fun c_7 => ?_)
      · replace hE := (if_pos c_7).symm.trans hE
        refine lv_iload_n hx hb dX6_onesOf_24 rfl (lv_at hl 1 rfl) ?_
        subst hQ
        exact g_iret hx hb hr hlocks hG () rfl hE dX6_onesOf_25
      replace hE := (if_neg c_7).symm.trans hE
      refine lv_iload_n hx hb dX6_onesOf_10 rfl (lv_at hl 1 rfl) ?_
      refine lv_iload_n hx hb dX6_onesOf_11 rfl (lv_at hl 0 rfl) ?_
      refine lv_iload_n hx hb dX6_onesOf_12 rfl (lv_at hl 2 rfl) ?_
      refine lv_ishr hx hb dX6_onesOf_13 ?_
      refine lv_iconst (v := 1) hx hb dX6_onesOf_14 (by decide) ?_
      refine lv_iand hx hb dX6_onesOf_15 ?_
      refine lv_iadd hx hb dX6_onesOf_16 ?_
      refine lv_istore_n (lv' := [(1, .int (x1_4 + ((p0 >>> (x2_4 &&& 31)) &&& 1))), (0, .int p0), (2, .int x2_4)]) hx hb dX6_onesOf_17 rfl hl (by decide) rfl (fun ls hl => ?_)
      replace hl := lv_sub hl [1, 0, 2] (l' := [(0, .int p0), (1, .int (x1_4 + ((p0 >>> (x2_4 &&& 31)) &&& 1))), (2, .int x2_4)]) rfl
      refine lv_iinc (v := (x2_4 + 1)) (lv' := [(2, .int (x2_4 + 1)), (0, .int p0), (1, .int (x1_4 + ((p0 >>> (x2_4 &&& 31)) &&& 1)))]) hx hb dX6_onesOf_18 hl (k := 2) rfl rfl (by decide) rfl (fun ls hl => ?_)
      replace hl := lv_sub hl [1, 2, 0] (l' := [(0, .int p0), (1, .int (x1_4 + ((p0 >>> (x2_4 &&& 31)) &&& 1))), (2, .int (x2_4 + 1))]) rfl
      refine lv_goto (tgt := 4) hx hb dX6_onesOf_21 (by decide) ?_
      exact ih4 (x1_4 + ((p0 >>> (x2_4 &&& 31)) &&& 1)) (x2_4 + 1) _ _ hG _ (lv_sub hl [0, 1, 2] rfl) (by have := up1 c_7 (B := 6) (by decide) h0 (by decide); omega) (by have := up1 c_7 (B := 6) (by decide) h0 (by decide); omega) (by have := up1 c_7 (B := 6) (by decide) h0 (by decide); omega) hE
  exact L4 7 0 0 _ _ hG _ (lv_sub hl [0, 1, 2] rfl) (by decide) (by decide) (by decide) hE
end
