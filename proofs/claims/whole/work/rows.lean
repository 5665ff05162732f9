section
-- ===== PART A: goes FIRST, ahead of the names: the tables' words, and 'selects' of the private methods out of them =====
/-- a private method of a class that the tables say can be made, by its rows of tables_1 -/
def lw_okq (q : MethodName × Nat) : Prop := (q.1.cls ≠ "java/lang/invoke/MethodHandle" ∧ q.1.cls ≠ "java/lang/invoke/VarHandle") ∧ Cond.instantiable q.1.cls q.2 ∈ tables_1 ∧ Cond.privateMethod q.1 ∈ tables_1 ∧ Cond.instanceMethod q.1 ∈ tables_1
theorem lw_p0 : lw_okq (⟨"RailSequence", "readBuffer", "()I"⟩, 7) := ⟨⟨by decide +kernel, by decide +kernel⟩, List.mem_of_getElem? (i := 16) (by decide +kernel), List.mem_of_getElem? (i := 163) (by decide +kernel), List.mem_of_getElem? (i := 164) (by decide +kernel)⟩
theorem lw_p1 : lw_okq (⟨"RailSequence$TextReader", "takeNeed", "(I)Z"⟩, 4) := ⟨⟨by decide +kernel, by decide +kernel⟩, List.mem_of_getElem? (i := 112) (by decide +kernel), List.mem_of_getElem? (i := 175) (by decide +kernel), List.mem_of_getElem? (i := 176) (by decide +kernel)⟩
theorem lw_p2 : lw_okq (⟨"RailSequence$TextReader", "takeDigit", "(I)Z"⟩, 4) := ⟨⟨by decide +kernel, by decide +kernel⟩, List.mem_of_getElem? (i := 112) (by decide +kernel), List.mem_of_getElem? (i := 179) (by decide +kernel), List.mem_of_getElem? (i := 180) (by decide +kernel)⟩
theorem lw_p3 : lw_okq (⟨"RailSequence$TextReader", "takePart", "(I)Z"⟩, 4) := ⟨⟨by decide +kernel, by decide +kernel⟩, List.mem_of_getElem? (i := 112) (by decide +kernel), List.mem_of_getElem? (i := 185) (by decide +kernel), List.mem_of_getElem? (i := 186) (by decide +kernel)⟩
theorem lw_p4 : lw_okq (⟨"RailSequence$TextReader", "isNumberComplete", "()Z"⟩, 4) := ⟨⟨by decide +kernel, by decide +kernel⟩, List.mem_of_getElem? (i := 112) (by decide +kernel), List.mem_of_getElem? (i := 189) (by decide +kernel), List.mem_of_getElem? (i := 190) (by decide +kernel)⟩
theorem lw_p5 : lw_okq (⟨"RailSequence", "countOf", "(I)I"⟩, 7) := ⟨⟨by decide +kernel, by decide +kernel⟩, List.mem_of_getElem? (i := 16) (by decide +kernel), List.mem_of_getElem? (i := 329) (by decide +kernel), List.mem_of_getElem? (i := 330) (by decide +kernel)⟩
theorem lw_p6 : lw_okq (⟨"RailSequence", "hashOfRail", "(JI)J"⟩, 7) := ⟨⟨by decide +kernel, by decide +kernel⟩, List.mem_of_getElem? (i := 16) (by decide +kernel), List.mem_of_getElem? (i := 338) (by decide +kernel), List.mem_of_getElem? (i := 339) (by decide +kernel)⟩
theorem lw_p7 : lw_okq (⟨"RailSequence", "hashOfLog", "(J)J"⟩, 7) := ⟨⟨by decide +kernel, by decide +kernel⟩, List.mem_of_getElem? (i := 16) (by decide +kernel), List.mem_of_getElem? (i := 360) (by decide +kernel), List.mem_of_getElem? (i := 361) (by decide +kernel)⟩
theorem lw_p8 : lw_okq (⟨"RailSequence", "hashOfBuffer", "(J)J"⟩, 7) := ⟨⟨by decide +kernel, by decide +kernel⟩, List.mem_of_getElem? (i := 16) (by decide +kernel), List.mem_of_getElem? (i := 377) (by decide +kernel), List.mem_of_getElem? (i := 378) (by decide +kernel)⟩
theorem lw_p9 : lw_okq (⟨"java/lang/Throwable", "fillInStackTrace", "(I)Ljava/lang/Throwable;"⟩, 6) := ⟨⟨by decide +kernel, by decide +kernel⟩, List.mem_of_getElem? (i := 433) (by decide +kernel), List.mem_of_getElem? (i := 431) (by decide +kernel), List.mem_of_getElem? (i := 432) (by decide +kernel)⟩
theorem lw_p10 : lw_okq (⟨"RailSequence", "areRails", "(I)Z"⟩, 7) := ⟨⟨by decide +kernel, by decide +kernel⟩, List.mem_of_getElem? (i := 16) (by decide +kernel), List.mem_of_getElem? (i := 463) (by decide +kernel), List.mem_of_getElem? (i := 464) (by decide +kernel)⟩
theorem lw_p11 : lw_okq (⟨"RailSequence", "save", "()V"⟩, 7) := ⟨⟨by decide +kernel, by decide +kernel⟩, List.mem_of_getElem? (i := 16) (by decide +kernel), List.mem_of_getElem? (i := 487) (by decide +kernel), List.mem_of_getElem? (i := 488) (by decide +kernel)⟩
theorem lw_p12 : lw_okq (⟨"RailSequence", "dropOldestSaved", "()V"⟩, 7) := ⟨⟨by decide +kernel, by decide +kernel⟩, List.mem_of_getElem? (i := 16) (by decide +kernel), List.mem_of_getElem? (i := 491) (by decide +kernel), List.mem_of_getElem? (i := 492) (by decide +kernel)⟩
theorem lw_p13 : lw_okq (⟨"RailSequence", "isRail", "(I)Z"⟩, 7) := ⟨⟨by decide +kernel, by decide +kernel⟩, List.mem_of_getElem? (i := 16) (by decide +kernel), List.mem_of_getElem? (i := 507) (by decide +kernel), List.mem_of_getElem? (i := 508) (by decide +kernel)⟩
theorem lw_p14 : lw_okq (⟨"RailSequence", "addTextToFuture", "()Z"⟩, 7) := ⟨⟨by decide +kernel, by decide +kernel⟩, List.mem_of_getElem? (i := 16) (by decide +kernel), List.mem_of_getElem? (i := 626) (by decide +kernel), List.mem_of_getElem? (i := 627) (by decide +kernel)⟩
theorem lw_p15 : lw_okq (⟨"RailSequence", "addReadRailToFuture", "()Z"⟩, 7) := ⟨⟨by decide +kernel, by decide +kernel⟩, List.mem_of_getElem? (i := 16) (by decide +kernel), List.mem_of_getElem? (i := 630) (by decide +kernel), List.mem_of_getElem? (i := 631) (by decide +kernel)⟩
def lw_privs_1 : List (MethodName × Nat) := [(⟨"RailSequence", "readBuffer", "()I"⟩, 7), (⟨"RailSequence$TextReader", "takeNeed", "(I)Z"⟩, 4), (⟨"RailSequence$TextReader", "takeDigit", "(I)Z"⟩, 4), (⟨"RailSequence$TextReader", "takePart", "(I)Z"⟩, 4), (⟨"RailSequence$TextReader", "isNumberComplete", "()Z"⟩, 4), (⟨"RailSequence", "countOf", "(I)I"⟩, 7), (⟨"RailSequence", "hashOfRail", "(JI)J"⟩, 7), (⟨"RailSequence", "hashOfLog", "(J)J"⟩, 7), (⟨"RailSequence", "hashOfBuffer", "(J)J"⟩, 7), (⟨"java/lang/Throwable", "fillInStackTrace", "(I)Ljava/lang/Throwable;"⟩, 6), (⟨"RailSequence", "areRails", "(I)Z"⟩, 7), (⟨"RailSequence", "save", "()V"⟩, 7), (⟨"RailSequence", "dropOldestSaved", "()V"⟩, 7), (⟨"RailSequence", "isRail", "(I)Z"⟩, 7), (⟨"RailSequence", "addTextToFuture", "()Z"⟩, 7), (⟨"RailSequence", "addReadRailToFuture", "()Z"⟩, 7)]
theorem lw_r1 : ∀ q ∈ lw_privs_1, lw_okq q := List.forall_mem_cons.mpr ⟨lw_p0, List.forall_mem_cons.mpr ⟨lw_p1, List.forall_mem_cons.mpr ⟨lw_p2, List.forall_mem_cons.mpr ⟨lw_p3, List.forall_mem_cons.mpr ⟨lw_p4, List.forall_mem_cons.mpr ⟨lw_p5, List.forall_mem_cons.mpr ⟨lw_p6, List.forall_mem_cons.mpr ⟨lw_p7, List.forall_mem_cons.mpr ⟨lw_p8, List.forall_mem_cons.mpr ⟨lw_p9, List.forall_mem_cons.mpr ⟨lw_p10, List.forall_mem_cons.mpr ⟨lw_p11, List.forall_mem_cons.mpr ⟨lw_p12, List.forall_mem_cons.mpr ⟨lw_p13, List.forall_mem_cons.mpr ⟨lw_p14, List.forall_mem_cons.mpr ⟨lw_p15, fun _ h => absurd h List.not_mem_nil⟩⟩⟩⟩⟩⟩⟩⟩⟩⟩⟩⟩⟩⟩⟩⟩
theorem lw_p16 : lw_okq (⟨"RailSequenceModel", "isMask", "(II)Z"⟩, 16) := ⟨⟨by decide +kernel, by decide +kernel⟩, List.mem_of_getElem? (i := 706) (by decide +kernel), List.mem_of_getElem? (i := 779) (by decide +kernel), List.mem_of_getElem? (i := 780) (by decide +kernel)⟩
theorem lw_p17 : lw_okq (⟨"RailSequenceModel", "save", "()V"⟩, 16) := ⟨⟨by decide +kernel, by decide +kernel⟩, List.mem_of_getElem? (i := 706) (by decide +kernel), List.mem_of_getElem? (i := 783) (by decide +kernel), List.mem_of_getElem? (i := 784) (by decide +kernel)⟩
theorem lw_p18 : lw_okq (⟨"RailSequenceModel", "bring", "(IIII)V"⟩, 16) := ⟨⟨by decide +kernel, by decide +kernel⟩, List.mem_of_getElem? (i := 706) (by decide +kernel), List.mem_of_getElem? (i := 787) (by decide +kernel), List.mem_of_getElem? (i := 788) (by decide +kernel)⟩
theorem lw_p19 : lw_okq (⟨"RailSequenceModel", "lay", "(III)V"⟩, 16) := ⟨⟨by decide +kernel, by decide +kernel⟩, List.mem_of_getElem? (i := 706) (by decide +kernel), List.mem_of_getElem? (i := 791) (by decide +kernel), List.mem_of_getElem? (i := 792) (by decide +kernel)⟩
theorem lw_p20 : lw_okq (⟨"RailSequenceModel", "isRail", "(I)Z"⟩, 16) := ⟨⟨by decide +kernel, by decide +kernel⟩, List.mem_of_getElem? (i := 706) (by decide +kernel), List.mem_of_getElem? (i := 799) (by decide +kernel), List.mem_of_getElem? (i := 800) (by decide +kernel)⟩
theorem lw_p21 : lw_okq (⟨"RailSequenceModel", "replaced", "(III)I"⟩, 16) := ⟨⟨by decide +kernel, by decide +kernel⟩, List.mem_of_getElem? (i := 706) (by decide +kernel), List.mem_of_getElem? (i := 803) (by decide +kernel), List.mem_of_getElem? (i := 804) (by decide +kernel)⟩
theorem lw_p22 : lw_okq (⟨"RailSequenceModel", "of", "(II)I"⟩, 16) := ⟨⟨by decide +kernel, by decide +kernel⟩, List.mem_of_getElem? (i := 706) (by decide +kernel), List.mem_of_getElem? (i := 807) (by decide +kernel), List.mem_of_getElem? (i := 808) (by decide +kernel)⟩
theorem lw_p23 : lw_okq (⟨"RailSequenceModel", "maskOf", "(II)I"⟩, 16) := ⟨⟨by decide +kernel, by decide +kernel⟩, List.mem_of_getElem? (i := 706) (by decide +kernel), List.mem_of_getElem? (i := 826) (by decide +kernel), List.mem_of_getElem? (i := 827) (by decide +kernel)⟩
theorem lw_p24 : lw_okq (⟨"RailSequenceModel", "unwant", "(I)V"⟩, 16) := ⟨⟨by decide +kernel, by decide +kernel⟩, List.mem_of_getElem? (i := 706) (by decide +kernel), List.mem_of_getElem? (i := 834) (by decide +kernel), List.mem_of_getElem? (i := 835) (by decide +kernel)⟩
theorem lw_p25 : lw_okq (⟨"RailSequenceModel", "followers", "(I)I"⟩, 16) := ⟨⟨by decide +kernel, by decide +kernel⟩, List.mem_of_getElem? (i := 706) (by decide +kernel), List.mem_of_getElem? (i := 842) (by decide +kernel), List.mem_of_getElem? (i := 843) (by decide +kernel)⟩
theorem lw_p26 : lw_okq (⟨"RailSequenceModel", "becomeFor", "(III)V"⟩, 16) := ⟨⟨by decide +kernel, by decide +kernel⟩, List.mem_of_getElem? (i := 706) (by decide +kernel), List.mem_of_getElem? (i := 846) (by decide +kernel), List.mem_of_getElem? (i := 847) (by decide +kernel)⟩
theorem lw_p27 : lw_okq (⟨"RailSequenceModel", "become", "(II)V"⟩, 16) := ⟨⟨by decide +kernel, by decide +kernel⟩, List.mem_of_getElem? (i := 706) (by decide +kernel), List.mem_of_getElem? (i := 850) (by decide +kernel), List.mem_of_getElem? (i := 851) (by decide +kernel)⟩
theorem lw_p28 : lw_okq (⟨"RailSequenceModel", "add", "(II)V"⟩, 16) := ⟨⟨by decide +kernel, by decide +kernel⟩, List.mem_of_getElem? (i := 706) (by decide +kernel), List.mem_of_getElem? (i := 854) (by decide +kernel), List.mem_of_getElem? (i := 855) (by decide +kernel)⟩
theorem lw_p29 : lw_okq (⟨"RailSequenceModel", "pass", "()V"⟩, 16) := ⟨⟨by decide +kernel, by decide +kernel⟩, List.mem_of_getElem? (i := 706) (by decide +kernel), List.mem_of_getElem? (i := 870) (by decide +kernel), List.mem_of_getElem? (i := 871) (by decide +kernel)⟩
theorem lw_p30 : lw_okq (⟨"RailSequenceModel", "moveVoltage", "(I)V"⟩, 16) := ⟨⟨by decide +kernel, by decide +kernel⟩, List.mem_of_getElem? (i := 706) (by decide +kernel), List.mem_of_getElem? (i := 874) (by decide +kernel), List.mem_of_getElem? (i := 875) (by decide +kernel)⟩
theorem lw_p31 : lw_okq (⟨"RailSequenceModel", "look", "(I)V"⟩, 16) := ⟨⟨by decide +kernel, by decide +kernel⟩, List.mem_of_getElem? (i := 706) (by decide +kernel), List.mem_of_getElem? (i := 881) (by decide +kernel), List.mem_of_getElem? (i := 882) (by decide +kernel)⟩
def lw_privs_2 : List (MethodName × Nat) := [(⟨"RailSequenceModel", "isMask", "(II)Z"⟩, 16), (⟨"RailSequenceModel", "save", "()V"⟩, 16), (⟨"RailSequenceModel", "bring", "(IIII)V"⟩, 16), (⟨"RailSequenceModel", "lay", "(III)V"⟩, 16), (⟨"RailSequenceModel", "isRail", "(I)Z"⟩, 16), (⟨"RailSequenceModel", "replaced", "(III)I"⟩, 16), (⟨"RailSequenceModel", "of", "(II)I"⟩, 16), (⟨"RailSequenceModel", "maskOf", "(II)I"⟩, 16), (⟨"RailSequenceModel", "unwant", "(I)V"⟩, 16), (⟨"RailSequenceModel", "followers", "(I)I"⟩, 16), (⟨"RailSequenceModel", "becomeFor", "(III)V"⟩, 16), (⟨"RailSequenceModel", "become", "(II)V"⟩, 16), (⟨"RailSequenceModel", "add", "(II)V"⟩, 16), (⟨"RailSequenceModel", "pass", "()V"⟩, 16), (⟨"RailSequenceModel", "moveVoltage", "(I)V"⟩, 16), (⟨"RailSequenceModel", "look", "(I)V"⟩, 16)]
theorem lw_r2 : ∀ q ∈ lw_privs_2, lw_okq q := List.forall_mem_cons.mpr ⟨lw_p16, List.forall_mem_cons.mpr ⟨lw_p17, List.forall_mem_cons.mpr ⟨lw_p18, List.forall_mem_cons.mpr ⟨lw_p19, List.forall_mem_cons.mpr ⟨lw_p20, List.forall_mem_cons.mpr ⟨lw_p21, List.forall_mem_cons.mpr ⟨lw_p22, List.forall_mem_cons.mpr ⟨lw_p23, List.forall_mem_cons.mpr ⟨lw_p24, List.forall_mem_cons.mpr ⟨lw_p25, List.forall_mem_cons.mpr ⟨lw_p26, List.forall_mem_cons.mpr ⟨lw_p27, List.forall_mem_cons.mpr ⟨lw_p28, List.forall_mem_cons.mpr ⟨lw_p29, List.forall_mem_cons.mpr ⟨lw_p30, List.forall_mem_cons.mpr ⟨lw_p31, fun _ h => absurd h List.not_mem_nil⟩⟩⟩⟩⟩⟩⟩⟩⟩⟩⟩⟩⟩⟩⟩⟩
theorem lw_p32 : lw_okq (⟨"RailSequenceModel", "lookWaiting", "(I)V"⟩, 16) := ⟨⟨by decide +kernel, by decide +kernel⟩, List.mem_of_getElem? (i := 706) (by decide +kernel), List.mem_of_getElem? (i := 885) (by decide +kernel), List.mem_of_getElem? (i := 886) (by decide +kernel)⟩
theorem lw_p33 : lw_okq (⟨"RailSequenceModel", "isDischarged", "(I)Z"⟩, 16) := ⟨⟨by decide +kernel, by decide +kernel⟩, List.mem_of_getElem? (i := 706) (by decide +kernel), List.mem_of_getElem? (i := 889) (by decide +kernel), List.mem_of_getElem? (i := 890) (by decide +kernel)⟩
theorem lw_p34 : lw_okq (⟨"RailSequenceModel", "missing", "(I)I"⟩, 16) := ⟨⟨by decide +kernel, by decide +kernel⟩, List.mem_of_getElem? (i := 706) (by decide +kernel), List.mem_of_getElem? (i := 893) (by decide +kernel), List.mem_of_getElem? (i := 894) (by decide +kernel)⟩
theorem lw_p35 : lw_okq (⟨"RailSequenceModel", "isFlag", "(I)Z"⟩, 16) := ⟨⟨by decide +kernel, by decide +kernel⟩, List.mem_of_getElem? (i := 706) (by decide +kernel), List.mem_of_getElem? (i := 897) (by decide +kernel), List.mem_of_getElem? (i := 898) (by decide +kernel)⟩
theorem lw_p36 : lw_okq (⟨"RailSequenceModel", "lookRising", "(I)V"⟩, 16) := ⟨⟨by decide +kernel, by decide +kernel⟩, List.mem_of_getElem? (i := 706) (by decide +kernel), List.mem_of_getElem? (i := 901) (by decide +kernel), List.mem_of_getElem? (i := 902) (by decide +kernel)⟩
theorem lw_p37 : lw_okq (⟨"RailSequenceModel", "fail", "(I)V"⟩, 16) := ⟨⟨by decide +kernel, by decide +kernel⟩, List.mem_of_getElem? (i := 706) (by decide +kernel), List.mem_of_getElem? (i := 905) (by decide +kernel), List.mem_of_getElem? (i := 906) (by decide +kernel)⟩
theorem lw_p38 : lw_okq (⟨"RailSequenceModel", "lookGood", "(I)V"⟩, 16) := ⟨⟨by decide +kernel, by decide +kernel⟩, List.mem_of_getElem? (i := 706) (by decide +kernel), List.mem_of_getElem? (i := 909) (by decide +kernel), List.mem_of_getElem? (i := 910) (by decide +kernel)⟩
theorem lw_p39 : lw_okq (⟨"RailSequenceModel", "isUsed", "(I)Z"⟩, 16) := ⟨⟨by decide +kernel, by decide +kernel⟩, List.mem_of_getElem? (i := 706) (by decide +kernel), List.mem_of_getElem? (i := 913) (by decide +kernel), List.mem_of_getElem? (i := 914) (by decide +kernel)⟩
theorem lw_p40 : lw_okq (⟨"RailSequenceModel", "readText", "()I"⟩, 16) := ⟨⟨by decide +kernel, by decide +kernel⟩, List.mem_of_getElem? (i := 706) (by decide +kernel), List.mem_of_getElem? (i := 929) (by decide +kernel), List.mem_of_getElem? (i := 930) (by decide +kernel)⟩
theorem lw_p41 : lw_okq (⟨"RailSequenceModel", "beginRail", "()V"⟩, 16) := ⟨⟨by decide +kernel, by decide +kernel⟩, List.mem_of_getElem? (i := 706) (by decide +kernel), List.mem_of_getElem? (i := 933) (by decide +kernel), List.mem_of_getElem? (i := 934) (by decide +kernel)⟩
theorem lw_p42 : lw_okq (⟨"RailSequenceModel", "takes", "(I)Z"⟩, 16) := ⟨⟨by decide +kernel, by decide +kernel⟩, List.mem_of_getElem? (i := 706) (by decide +kernel), List.mem_of_getElem? (i := 937) (by decide +kernel), List.mem_of_getElem? (i := 938) (by decide +kernel)⟩
theorem lw_p43 : lw_okq (⟨"RailSequenceModel", "takesDigit", "(I)Z"⟩, 16) := ⟨⟨by decide +kernel, by decide +kernel⟩, List.mem_of_getElem? (i := 706) (by decide +kernel), List.mem_of_getElem? (i := 941) (by decide +kernel), List.mem_of_getElem? (i := 942) (by decide +kernel)⟩
theorem lw_p44 : lw_okq (⟨"RailSequenceModel", "isNumberOver", "()Z"⟩, 16) := ⟨⟨by decide +kernel, by decide +kernel⟩, List.mem_of_getElem? (i := 706) (by decide +kernel), List.mem_of_getElem? (i := 945) (by decide +kernel), List.mem_of_getElem? (i := 946) (by decide +kernel)⟩
theorem lw_p45 : lw_okq (⟨"RailSequenceModel", "least", "()I"⟩, 16) := ⟨⟨by decide +kernel, by decide +kernel⟩, List.mem_of_getElem? (i := 706) (by decide +kernel), List.mem_of_getElem? (i := 949) (by decide +kernel), List.mem_of_getElem? (i := 950) (by decide +kernel)⟩
theorem lw_p46 : lw_okq (⟨"RailSequenceModel", "isRailOver", "()Z"⟩, 16) := ⟨⟨by decide +kernel, by decide +kernel⟩, List.mem_of_getElem? (i := 706) (by decide +kernel), List.mem_of_getElem? (i := 953) (by decide +kernel), List.mem_of_getElem? (i := 954) (by decide +kernel)⟩
theorem lw_p47 : lw_okq (⟨"RailSequenceModel", "isEarlier", "()Z"⟩, 16) := ⟨⟨by decide +kernel, by decide +kernel⟩, List.mem_of_getElem? (i := 706) (by decide +kernel), List.mem_of_getElem? (i := 961) (by decide +kernel), List.mem_of_getElem? (i := 962) (by decide +kernel)⟩
def lw_privs_3 : List (MethodName × Nat) := [(⟨"RailSequenceModel", "lookWaiting", "(I)V"⟩, 16), (⟨"RailSequenceModel", "isDischarged", "(I)Z"⟩, 16), (⟨"RailSequenceModel", "missing", "(I)I"⟩, 16), (⟨"RailSequenceModel", "isFlag", "(I)Z"⟩, 16), (⟨"RailSequenceModel", "lookRising", "(I)V"⟩, 16), (⟨"RailSequenceModel", "fail", "(I)V"⟩, 16), (⟨"RailSequenceModel", "lookGood", "(I)V"⟩, 16), (⟨"RailSequenceModel", "isUsed", "(I)Z"⟩, 16), (⟨"RailSequenceModel", "readText", "()I"⟩, 16), (⟨"RailSequenceModel", "beginRail", "()V"⟩, 16), (⟨"RailSequenceModel", "takes", "(I)Z"⟩, 16), (⟨"RailSequenceModel", "takesDigit", "(I)Z"⟩, 16), (⟨"RailSequenceModel", "isNumberOver", "()Z"⟩, 16), (⟨"RailSequenceModel", "least", "()I"⟩, 16), (⟨"RailSequenceModel", "isRailOver", "()Z"⟩, 16), (⟨"RailSequenceModel", "isEarlier", "()Z"⟩, 16)]
theorem lw_r3 : ∀ q ∈ lw_privs_3, lw_okq q := List.forall_mem_cons.mpr ⟨lw_p32, List.forall_mem_cons.mpr ⟨lw_p33, List.forall_mem_cons.mpr ⟨lw_p34, List.forall_mem_cons.mpr ⟨lw_p35, List.forall_mem_cons.mpr ⟨lw_p36, List.forall_mem_cons.mpr ⟨lw_p37, List.forall_mem_cons.mpr ⟨lw_p38, List.forall_mem_cons.mpr ⟨lw_p39, List.forall_mem_cons.mpr ⟨lw_p40, List.forall_mem_cons.mpr ⟨lw_p41, List.forall_mem_cons.mpr ⟨lw_p42, List.forall_mem_cons.mpr ⟨lw_p43, List.forall_mem_cons.mpr ⟨lw_p44, List.forall_mem_cons.mpr ⟨lw_p45, List.forall_mem_cons.mpr ⟨lw_p46, List.forall_mem_cons.mpr ⟨lw_p47, fun _ h => absurd h List.not_mem_nil⟩⟩⟩⟩⟩⟩⟩⟩⟩⟩⟩⟩⟩⟩⟩⟩
theorem lw_p48 : lw_okq (⟨"RailSequenceModel", "railNow", "(II)I"⟩, 16) := ⟨⟨by decide +kernel, by decide +kernel⟩, List.mem_of_getElem? (i := 706) (by decide +kernel), List.mem_of_getElem? (i := 969) (by decide +kernel), List.mem_of_getElem? (i := 970) (by decide +kernel)⟩
theorem lw_p49 : lw_okq (⟨"RailSequenceModel", "firstBlame", "(I)I"⟩, 16) := ⟨⟨by decide +kernel, by decide +kernel⟩, List.mem_of_getElem? (i := 706) (by decide +kernel), List.mem_of_getElem? (i := 973) (by decide +kernel), List.mem_of_getElem? (i := 974) (by decide +kernel)⟩
theorem lw_p50 : lw_okq (⟨"RailSequenceModel", "entryNow", "(II)I"⟩, 16) := ⟨⟨by decide +kernel, by decide +kernel⟩, List.mem_of_getElem? (i := 706) (by decide +kernel), List.mem_of_getElem? (i := 985) (by decide +kernel), List.mem_of_getElem? (i := 986) (by decide +kernel)⟩
theorem lw_p51 : lw_okq (⟨"RailSequenceModel", "counted", "(I)I"⟩, 16) := ⟨⟨by decide +kernel, by decide +kernel⟩, List.mem_of_getElem? (i := 706) (by decide +kernel), List.mem_of_getElem? (i := 997) (by decide +kernel), List.mem_of_getElem? (i := 998) (by decide +kernel)⟩
theorem lw_p52 : lw_okq (⟨"RailSequenceModel", "voltages", "()I"⟩, 16) := ⟨⟨by decide +kernel, by decide +kernel⟩, List.mem_of_getElem? (i := 706) (by decide +kernel), List.mem_of_getElem? (i := 1001) (by decide +kernel), List.mem_of_getElem? (i := 1002) (by decide +kernel)⟩
theorem lw_p53 : lw_okq (⟨"RailSequenceModel", "isStill", "()Z"⟩, 16) := ⟨⟨by decide +kernel, by decide +kernel⟩, List.mem_of_getElem? (i := 706) (by decide +kernel), List.mem_of_getElem? (i := 1005) (by decide +kernel), List.mem_of_getElem? (i := 1006) (by decide +kernel)⟩
theorem lw_p54 : lw_okq (⟨"RailSequenceModel", "keepAside", "()V"⟩, 16) := ⟨⟨by decide +kernel, by decide +kernel⟩, List.mem_of_getElem? (i := 706) (by decide +kernel), List.mem_of_getElem? (i := 1009) (by decide +kernel), List.mem_of_getElem? (i := 1010) (by decide +kernel)⟩
theorem lw_p55 : lw_okq (⟨"RailSequenceModel", "takeBack", "()V"⟩, 16) := ⟨⟨by decide +kernel, by decide +kernel⟩, List.mem_of_getElem? (i := 706) (by decide +kernel), List.mem_of_getElem? (i := 1013) (by decide +kernel), List.mem_of_getElem? (i := 1014) (by decide +kernel)⟩
theorem lw_p56 : lw_okq (⟨"RailSequenceModel", "goesIn", "(Z)I"⟩, 16) := ⟨⟨by decide +kernel, by decide +kernel⟩, List.mem_of_getElem? (i := 706) (by decide +kernel), List.mem_of_getElem? (i := 1021) (by decide +kernel), List.mem_of_getElem? (i := 1022) (by decide +kernel)⟩
theorem lw_p57 : lw_okq (⟨"RailSequenceModel", "allRails", "()I"⟩, 16) := ⟨⟨by decide +kernel, by decide +kernel⟩, List.mem_of_getElem? (i := 706) (by decide +kernel), List.mem_of_getElem? (i := 1025) (by decide +kernel), List.mem_of_getElem? (i := 1026) (by decide +kernel)⟩
theorem lw_p58 : lw_okq (⟨"RailSequenceModel", "isAllOff", "()Z"⟩, 16) := ⟨⟨by decide +kernel, by decide +kernel⟩, List.mem_of_getElem? (i := 706) (by decide +kernel), List.mem_of_getElem? (i := 1029) (by decide +kernel), List.mem_of_getElem? (i := 1030) (by decide +kernel)⟩
theorem lw_p59 : lw_okq (⟨"RailSequenceModel", "isAllGood", "()Z"⟩, 16) := ⟨⟨by decide +kernel, by decide +kernel⟩, List.mem_of_getElem? (i := 706) (by decide +kernel), List.mem_of_getElem? (i := 1033) (by decide +kernel), List.mem_of_getElem? (i := 1034) (by decide +kernel)⟩
theorem lw_p60 : lw_okq (⟨"RailSequenceModel", "shortAnswer", "(III)I"⟩, 16) := ⟨⟨by decide +kernel, by decide +kernel⟩, List.mem_of_getElem? (i := 706) (by decide +kernel), List.mem_of_getElem? (i := 1045) (by decide +kernel), List.mem_of_getElem? (i := 1046) (by decide +kernel)⟩
theorem lw_p61 : lw_okq (⟨"RailSequenceModel", "patienceFor", "(I)I"⟩, 16) := ⟨⟨by decide +kernel, by decide +kernel⟩, List.mem_of_getElem? (i := 706) (by decide +kernel), List.mem_of_getElem? (i := 1053) (by decide +kernel), List.mem_of_getElem? (i := 1054) (by decide +kernel)⟩
theorem lw_p62 : lw_okq (⟨"RailSequenceModel", "shareNow", "()D"⟩, 16) := ⟨⟨by decide +kernel, by decide +kernel⟩, List.mem_of_getElem? (i := 706) (by decide +kernel), List.mem_of_getElem? (i := 1061) (by decide +kernel), List.mem_of_getElem? (i := 1062) (by decide +kernel)⟩
theorem lw_p63 : lw_okq (⟨"RailSequenceModel", "mix", "(J)V"⟩, 16) := ⟨⟨by decide +kernel, by decide +kernel⟩, List.mem_of_getElem? (i := 706) (by decide +kernel), List.mem_of_getElem? (i := 1070) (by decide +kernel), List.mem_of_getElem? (i := 1071) (by decide +kernel)⟩
def lw_privs_4 : List (MethodName × Nat) := [(⟨"RailSequenceModel", "railNow", "(II)I"⟩, 16), (⟨"RailSequenceModel", "firstBlame", "(I)I"⟩, 16), (⟨"RailSequenceModel", "entryNow", "(II)I"⟩, 16), (⟨"RailSequenceModel", "counted", "(I)I"⟩, 16), (⟨"RailSequenceModel", "voltages", "()I"⟩, 16), (⟨"RailSequenceModel", "isStill", "()Z"⟩, 16), (⟨"RailSequenceModel", "keepAside", "()V"⟩, 16), (⟨"RailSequenceModel", "takeBack", "()V"⟩, 16), (⟨"RailSequenceModel", "goesIn", "(Z)I"⟩, 16), (⟨"RailSequenceModel", "allRails", "()I"⟩, 16), (⟨"RailSequenceModel", "isAllOff", "()Z"⟩, 16), (⟨"RailSequenceModel", "isAllGood", "()Z"⟩, 16), (⟨"RailSequenceModel", "shortAnswer", "(III)I"⟩, 16), (⟨"RailSequenceModel", "patienceFor", "(I)I"⟩, 16), (⟨"RailSequenceModel", "shareNow", "()D"⟩, 16), (⟨"RailSequenceModel", "mix", "(J)V"⟩, 16)]
theorem lw_r4 : ∀ q ∈ lw_privs_4, lw_okq q := List.forall_mem_cons.mpr ⟨lw_p48, List.forall_mem_cons.mpr ⟨lw_p49, List.forall_mem_cons.mpr ⟨lw_p50, List.forall_mem_cons.mpr ⟨lw_p51, List.forall_mem_cons.mpr ⟨lw_p52, List.forall_mem_cons.mpr ⟨lw_p53, List.forall_mem_cons.mpr ⟨lw_p54, List.forall_mem_cons.mpr ⟨lw_p55, List.forall_mem_cons.mpr ⟨lw_p56, List.forall_mem_cons.mpr ⟨lw_p57, List.forall_mem_cons.mpr ⟨lw_p58, List.forall_mem_cons.mpr ⟨lw_p59, List.forall_mem_cons.mpr ⟨lw_p60, List.forall_mem_cons.mpr ⟨lw_p61, List.forall_mem_cons.mpr ⟨lw_p62, List.forall_mem_cons.mpr ⟨lw_p63, fun _ h => absurd h List.not_mem_nil⟩⟩⟩⟩⟩⟩⟩⟩⟩⟩⟩⟩⟩⟩⟩⟩
theorem lw_p64 : lw_okq (⟨"RailSequenceModel", "mixRail", "(I)V"⟩, 16) := ⟨⟨by decide +kernel, by decide +kernel⟩, List.mem_of_getElem? (i := 706) (by decide +kernel), List.mem_of_getElem? (i := 1075) (by decide +kernel), List.mem_of_getElem? (i := 1076) (by decide +kernel)⟩
def lw_privs_5 : List (MethodName × Nat) := [(⟨"RailSequenceModel", "mixRail", "(I)V"⟩, 16)]
theorem lw_r5 : ∀ q ∈ lw_privs_5, lw_okq q := List.forall_mem_cons.mpr ⟨lw_p64, fun _ h => absurd h List.not_mem_nil⟩
def lw_privs : List (MethodName × Nat) := lw_privs_1 ++ (lw_privs_2 ++ (lw_privs_3 ++ (lw_privs_4 ++ (lw_privs_5))))
def lw_tbl : List Cond := k2_sels lw_privs ++ tables_1
theorem lw_privs_ok : ∀ q ∈ lw_privs, lw_okq q := by
  show ∀ q ∈ lw_privs_1 ++ (lw_privs_2 ++ (lw_privs_3 ++ (lw_privs_4 ++ (lw_privs_5)))), lw_okq q
  exact List.forall_mem_append.mpr ⟨lw_r1, List.forall_mem_append.mpr ⟨lw_r2, List.forall_mem_append.mpr ⟨lw_r3, List.forall_mem_append.mpr ⟨lw_r4, lw_r5⟩⟩⟩⟩
/-- the streams that the claim lets the run draw from -/
abbrev lw_cs : List Choice := [Jvm.Choice.named "NaN.bits"]
theorem lw_bits : nanBits ∈ lw_cs := by first | decide | exact List.mem_cons_self | simp [lw_cs, nanBits]
end
section
/-! ===== BEGIN words of one list among another's, by their places ===== -/
theorem goodIn_r {big : List Cond} (ws : List Cond) (ps : List Nat) (hp : ws = ps.filterMap (fun i => big[i]?)) (h : ws.all goodWord = true) : GoodIn big ws := by
  intro w hw
  have h1 := List.all_eq_true.mp h w hw
  rw [hp] at hw
  obtain ⟨i, -, hi⟩ := List.mem_filterMap.mp hw
  have hm : w ∈ big := by first | exact List.mem_of_getElem? hi | exact List.getElem?_mem hi
  exact ⟨hm, good_of_word h1⟩
theorem goodIn_app {big a b : List Cond} (ha : GoodIn big a) (hb : GoodIn big b) : GoodIn big (a ++ b) := fun w h => (List.mem_append.mp h).elim (ha w) (hb w)
theorem goodIn_ca {big a b : List Cond} {c : Cond} (ha : GoodIn big (c :: a)) (hb : GoodIn big b) : GoodIn big (c :: (a ++ b)) := fun w h => (List.mem_cons.mp h).elim (fun e => ha w (List.mem_cons.mpr (Or.inl e))) (fun h => (List.mem_append.mp h).elim (fun h => ha w (List.mem_cons.mpr (Or.inr h))) (hb w))
theorem goodIn_sub {big ws : List Cond} (hm : ∀ w ∈ ws, w ∈ big) (h : ws.all goodWord = true) : GoodIn big ws := fun w hw => ⟨hm w hw, good_of_word (List.all_eq_true.mp h w hw)⟩
/-! ===== END ===== -/

/-! ===== BEGIN exceptions that leave a method, and their catching by the caller (launches without stack traces) ===== -/
section VXA
/-! The laws vx_back, vx_callV, vx_callS, vx_callSW, vx_throw0, vx_throwS follow proofs of the library, with one case more: JvmDerived/Free/Laws.lean (Back.of_free), Shelf42/LK1.lean (callV, callS), Shelf/KitTraced.lean (throwNew0V, throwNewS). -/
/-- where a method has thrown q: the class by its name, the cell, what was written, the world -/
def vx_T (XC : String → State → State → Prop) (st : State) (q : Addr) (t : State) (mc ms : Nat) (free : Addr → Prop) : Prop :=
  ∃ (E : String) (ce : Cell) (L : List Loc), XC E st t ∧ t.heap[q]? = some ce ∧ ce.vm = .none ∧ st.vm.findClass E = some ce.cls ∧ st.WarmedH t.vm ∧ st.sameButNew ({ t with vm := st.vm } : State) L mc ms ∧ ∀ z ∈ L, free z.base
def vx_Q (Qc : Array Value → State → Outcome → State → Prop) (XC : String → State → State → Prop) (mc ms : Nat) (free : Addr → Prop) : Array Value → State → Outcome → State → Prop := fun a st o t =>
  (Qc a st o t ∧ ∃ L, FrameEnd st o t L mc ms ∧ ∀ q ∈ L, free q.base) ∨ ∃ q, o = .threw q ∧ vx_T XC st q t mc ms free
/-- a callee that returns or throws -/
def vx_Met (l : Launch) (y : MethodName) (ws : List Cond) (rm : Room) (Pc : Array Value → State → Prop) (Qc : Array Value → State → Outcome → State → Prop) (XC : String → State → State → Prop) (mc ms : Nat) (free : Addr → Prop) : Prop :=
  MetFree l y (headSpec ws rm) Pc (fun _ _ _ _ _ => True) (vx_Q Qc XC mc ms free)
def vx_Post (XC : String → State → State → Prop) (mc ms : Nat) (free : Addr → Prop) : Pt → Array Value → Addr → Pt → Prop := fun A a q B =>
  ∃ (g : JFrame) (mk : MethodId) (t : State) (L : List Loc) (E : String) (ce : Cell), B.U.heap = t.heap ∧ B.U.vm = t.vm ∧ XC E (A.U.calling g mk a) t ∧ t.heap[q]? = some ce ∧ ce.vm = .none ∧ A.U.vm.findClass E = some ce.cls ∧ B.locs = A.locs ++ L ∧ (∀ z ∈ L, free z.base) ∧ B.cells = A.cells + mc ∧ B.slots = A.slots + ms
def vx_Back (l : Launch) (R : Room) (p : Program) (e : Env) (below : List Frame) (s : State) (sargs : Array Value) (y : MethodName) (len W9 : Nat)
    (Pre : Pt → Array Value → Prop) (Post : Pt → Array Value → Option Value → Pt → Prop) (PostX : Pt → Array Value → Addr → Pt → Prop) : Prop :=
  ∀ (m : MethodId) (meth : Method) (c : Code) (A : Pt) (g : JFrame) (ig : Instr) (mk : MethodId) (a : Array Value),
    Stand p l e R s m sargs below meth c A.U A.locs A.cells A.slots → g.method = m → g.locals.size = c.maxLocals → decode c.code g.pc = .ok (ig, len) →
    2 * g.monitorRoom + (g.stack.map fun v => v.category).sum ≤ W9 → A.U.methodNamed? y = some mk → Pre A a →
    (∃ (v : Option Value) (B : Pt), Stand p l e R s m sargs below meth c B.U B.locs B.cells B.slots ∧ Post A a v B ∧
      Steps p.tables e below (doInvoke e (A.U.setTop g) [] mk a).1 (B.U.setTop { g with pc := g.pc + len, stack := v.toList ++ g.stack })) ∨
    (∃ (q : Addr) (B : Pt), Stand p l e R s m sargs below meth c B.U B.locs B.cells B.slots ∧ PostX A a q B ∧
      Steps p.tables e below (doInvoke e (A.U.setTop g) [] mk a).1 ((B.U.setTop g).pushFrame (.throwing q)))
section Payer
variable {l : Launch} {R : Room} {p : Program} {e : Env} {below : List Frame} {s : State} {sargs : Array Value} {y : MethodName} {len W9 : Nat}
theorem vx_back {ws : List Cond} {rm : Room} {Pc : Array Value → State → Prop} {Qc : Array Value → State → Outcome → State → Prop} {XC : String → State → State → Prop} {mc ms : Nat} {free : Addr → Prop} {bytes : ByteArray} {maxL : Nat} {ret : Option FieldType}
    (hM : vx_Met l y ws rm Pc Qc XC mc ms free) (hblind : FrameBlind Pc) (hrc : rm.cells = mc) (hrs : rm.slots = ms)
    (hframes : rm.frames + 1 ≤ R.frames) (hlocals : W9 + (maxL + 11) + rm.locals ≤ R.locals)
    (hws : ∀ w ∈ ws, ∀ a' U, s.WarmedH U.vm → w.before a' U = true) (hcode : Cond.code y bytes maxL ret ∈ ws) (hinit : ∀ a' U, s.WarmedH U.vm → (Cond.initialized y.cls).before a' U = true) :
    vx_Back l R p e below s sargs y len W9 (PreOf R mc ms Pc) (PostOf Qc mc ms free) (vx_Post XC mc ms free) := by
  intro m meth c A g ig mk a X hg hsize hdg hW hn hp
  have h1 : (headSpec ws rm).pre.before a A.U = true := atoms_intro fun w hw => hws w hw _ _ X.warmed
  have h2 : (Cond.code y bytes maxL ret).before a A.U = true := hws _ hcode _ _ X.warmed
  have h3 : (Cond.initialized y.cls).before a A.U = true := hinit _ _ X.warmed
  have h4 : A.cells + (headSpec ws rm).room.cells ≤ R.cells := by rw [show (headSpec ws rm).room.cells = mc from hrc]; exact hp.1
  have h5 : A.slots + (headSpec ws rm).room.slots ≤ R.slots := by rw [show (headSpec ws rm).room.slots = ms from hrs]; exact hp.2.1
  have hPc : Pc a (A.U.calling g mk a) := hblind _ _ _ _ hp.2.2
  obtain ⟨U, Ls, c0, s0⟩ := A
  dsimp only [Pt.U, Pt.locs, Pt.cells, Pt.slots] at h1 h2 h3 h4 h5 X hn hPc ⊢
  obtain ⟨methY, cY, hmY, hcY, -, hlY, -, -, -, -⟩ := Cond.code_spec hn h2
  obtain ⟨kY, hkY, -⟩ := className_of_methodNamed hn
  have hinitY : kY.init = .initialized := Cond.initialized_spec (findClass_of_methodNamed hn) hkY h3
  have h : At U g.method c below := by rw [hg]; exact X.here
  have hlocals9 : W9 + (maxL + 11) + (headSpec ws rm).room.locals ≤ R.locals := hlocals
  have happ : (headSpec ws rm).appliesLoose y e.platform (U.calling g mk a) = true :=
    Spec.appliesLoose_calling (g := g) h hdg hn hkY hinitY
      (X.room_calling (g := g) (R' := (headSpec ws rm).room) hsize hmY hcY hframes (by rw [hlY]; omega) h4 h5) h1
  obtain ⟨mid, hmid⟩ := h.above
  have hfr : (U.setTop g).frames = (.java g :: mid) ++ below := by rw [State.frames_setTop' g h.top, hmid]; rfl
  obtain ⟨o, s₂, hsteps, -, hend, hq⟩ := Steps.callFree hM p X.admits X.cas X.clock (acts := []) hfr happ hPc trivial
  have hq' : vx_Q Qc XC mc ms free a (U.calling g mk a) o s₂ := hq
  rw [State.frames_setTop' g h.top] at hend
  obtain ⟨g₀, hg0⟩ := Option.isSome_iff_exists.mp h.top
  obtain ⟨r, hr⟩ := State.topJava?_eq_some.mp hg0
  have hr' : (({ U with heap := s₂.heap, slotsUsed := s₂.slotsUsed } : State).setVm s₂.vm).frames = .java g₀ :: r := hr
  rcases hq' with ⟨hqc, L, hfe, hL⟩ | ⟨q, rfl, E, ce, L, hx, hce, hcv, hcl, hW₂, hsm, hL⟩
  · obtain ⟨⟨v, rfl⟩, hW₂, e2, q2, q3, q4, q5, q6⟩ := id hfe
    have e3 : s₂ = ({ (U.calling g mk a).setFrames s₂.frames with heap := s₂.heap, slotsUsed := s₂.slotsUsed } : State).setVm s₂.vm := by
      have : s₂ = ({ s₂ with vm := (U.calling g mk a).vm } : State).setVm s₂.vm := rfl
      rw [e2] at this
      exact this
    obtain ⟨c₂, i₂, len₂, hc₂, hd₂, hf₂⟩ := hend
    have hW' : U.WarmedH s₂.vm := hW₂
    have hcc : c₂ = c := by
      have h1 : s₂.code? g.method = U.code? g.method := by
        rw [State.code?_eq, State.code?_eq, hW'.alike.method?]
      exact Option.some.inj (hc₂.symm.trans (h1.trans h.code))
    subst hcc
    have hlen : len₂ = len := by rw [hdg] at hd₂; cases hd₂; rfl
    subst hlen
    have hs₂ : s₂ = (({ U with heap := s₂.heap, slotsUsed := s₂.slotsUsed } : State).setVm s₂.vm).setTop { g with pc := g.pc + len₂, stack := v.toList ++ g.stack } := by
      refine e3.trans ?_
      rw [hf₂, State.calling_eq h.top, State.setFrames_setFrames, State.setTop_of_frames _ hr', hr]
      rfl
    have hsame : U.sameButNew ({ U with heap := s₂.heap, slotsUsed := s₂.slotsUsed } : State) L mc ms := by
      refine ⟨?_, q2, q3, q4, q5, q6⟩
      obtain ⟨t, ht, -⟩ := State.frames_cons hr
      show ({ U with heap := s₂.heap, slotsUsed := s₂.slotsUsed } : State) = { U.setFrames U.frames with heap := s₂.heap, slotsUsed := s₂.slotsUsed }
      rw [State.setFrames_self ht]
    subst hg
    refine Or.inl ⟨v, ⟨(({ U with heap := s₂.heap, slotsUsed := s₂.slotsUsed } : State).setVm s₂.vm), Ls ++ L, c0 + mc, s0 + ms⟩,
      ⟨X.admits, X.cas, X.clock, X.frames, X.room, X.hears, X.method, X.code, (X.here.setHeapUsed s₂.heap s₂.slotsUsed).setVm hW'.alike, X.tail, State.WarmedH.trans X.warmed hW', X.limits, X.bytes, X.same.trans (hsame.setVm s.vm)⟩,
      ⟨g, mk, s₂, L, rfl, rfl, hqc, rfl, hL, rfl, rfl⟩, ?_⟩
    show Steps p.tables e below _ ((({ U with heap := s₂.heap, slotsUsed := s₂.slotsUsed } : State).setVm s₂.vm).setTop { g with pc := g.pc + len₂, stack := v.toList ++ g.stack })
    rw [← hs₂]
    exact hsteps
  · obtain ⟨e2, q2, q3, q4, q5, q6⟩ := id hsm
    have e3 : s₂ = ({ (U.calling g mk a).setFrames s₂.frames with heap := s₂.heap, slotsUsed := s₂.slotsUsed } : State).setVm s₂.vm := by
      have : s₂ = ({ s₂ with vm := (U.calling g mk a).vm } : State).setVm s₂.vm := rfl
      rw [e2] at this
      exact this
    have hf₂ : s₂.frames = .throwing q :: .java g :: U.frames.tail := hend
    have hW' : U.WarmedH s₂.vm := hW₂
    have hs₂ : s₂ = ((({ U with heap := s₂.heap, slotsUsed := s₂.slotsUsed } : State).setVm s₂.vm).setTop g).pushFrame (.throwing q) := by
      refine e3.trans ?_
      rw [hf₂, State.calling_eq h.top, State.setFrames_setFrames, State.pushFrame, State.frames_setTop _ hr', State.setTop_of_frames _ hr', State.setFrames_setFrames, hr]
      rfl
    have hsame : U.sameButNew ({ U with heap := s₂.heap, slotsUsed := s₂.slotsUsed } : State) L mc ms := by
      refine ⟨?_, q2, q3, q4, q5, q6⟩
      obtain ⟨t, ht, -⟩ := State.frames_cons hr
      show ({ U with heap := s₂.heap, slotsUsed := s₂.slotsUsed } : State) = { U.setFrames U.frames with heap := s₂.heap, slotsUsed := s₂.slotsUsed }
      rw [State.setFrames_self ht]
    subst hg
    refine Or.inr ⟨q, ⟨(({ U with heap := s₂.heap, slotsUsed := s₂.slotsUsed } : State).setVm s₂.vm), Ls ++ L, c0 + mc, s0 + ms⟩,
      ⟨X.admits, X.cas, X.clock, X.frames, X.room, X.hears, X.method, X.code, (X.here.setHeapUsed s₂.heap s₂.slotsUsed).setVm hW'.alike, X.tail, State.WarmedH.trans X.warmed hW', X.limits, X.bytes, X.same.trans (hsame.setVm s.vm)⟩,
      ⟨g, mk, s₂, L, E, ce, rfl, rfl, hx, hce, hcv, hcl, rfl, hL, rfl, rfl⟩, ?_⟩
    show Steps p.tables e below _ (((({ U with heap := s₂.heap, slotsUsed := s₂.slotsUsed } : State).setVm s₂.vm).setTop g).pushFrame (.throwing q))
    rw [← hs₂]
    exact hsteps
end Payer
section Calls
variable {p : Program} {l : Launch} {e : Env} {R : Room} {s : State} {m : MethodId} {args : Array Value} {below : List Frame} {meth : Method} {c : Code} {T : State} {locs : List Loc} {cells slots : Nat}
theorem vx_callV (X : Stand p l e R s m args below meth c T locs cells slots) (hexec : p.tables.exec = Jvm.exec) {own C : String} {index : Nat} {y : MethodName} {bytes : ByteArray} {maxL : Nat} {ret : Option FieldType}
    (hown : s.vm.findClass own = some m.cls) (hlink : (Cond.methodLink own index y).before args s = true) (hinst : (Cond.instanceMethod y).before args s = true) (hsel : (Cond.selects C y y).before args s = true)
    (hcode : (Cond.code y bytes maxL ret).before args s = true) (hy : y.cls ≠ "java/lang/invoke/MethodHandle" ∧ y.cls ≠ "java/lang/invoke/VarHandle")
    {W9 : Nat} {Pre : Pt → Array Value → Prop} {Post : Pt → Array Value → Option Value → Pt → Prop} {PostX : Pt → Array Value → Addr → Pt → Prop} (hK : vx_Back l R p e below s args y 3 W9 Pre Post PostX)
    {b : Addr} {cellB : Cell} (hcell : T.heap[b]? = some cellB) (hobj : cellB.vm.isStatics = false) (hcls : s.vm.findClass C = some cellB.cls)
    {g : JFrame} (hg : g.method = m) (hsize : g.locals.size = c.maxLocals) {argsL rest : List Value} (hlen : ∀ sig, parseMethodDescriptor y.desc = some sig → argsL.length = sig.parameters.length)
    (hstack : g.stack = argsL.reverse ++ .ref b :: rest) (hW : 2 * g.monitorRoom + (rest.map fun v => v.category).sum ≤ W9) (hdg : decode c.code g.pc = .ok (.invokevirtual index, 3))
    (hpre : ∀ vm₁, s.WarmedH vm₁ → Pre ⟨T.setVm vm₁, locs, cells, slots⟩ (Value.ref b :: argsL).toArray) :
    (∃ (v : Option Value) (vm₁ : Vm) (B : Pt), s.WarmedH vm₁ ∧ Stand p l e R s m args below meth c B.U B.locs B.cells B.slots ∧ Post ⟨T.setVm vm₁, locs, cells, slots⟩ (Value.ref b :: argsL).toArray v B ∧
      ∀ target, Steps p.tables e below (B.U.setTop { g with pc := g.pc + 3, stack := v.toList ++ rest }) target → Steps p.tables e below (T.setTop g) target) ∨
    (∃ (q : Addr) (vm₁ : Vm) (B : Pt), s.WarmedH vm₁ ∧ Stand p l e R s m args below meth c B.U B.locs B.cells B.slots ∧ PostX ⟨T.setVm vm₁, locs, cells, slots⟩ (Value.ref b :: argsL).toArray q B ∧
      Steps p.tables e below (T.setTop g) ((B.U.setTop { g with stack := rest }).pushFrame (.throwing q))) := by
  obtain ⟨mk, methM, hnamed, hmethM, hstM, habM⟩ := Cond.instanceMethod_spec hinst
  obtain ⟨methM', cM, hmethM', -, -, -, -, -, -, hsigM⟩ := Cond.code_spec hnamed hcode
  cases hmethM.symm.trans hmethM'
  obtain ⟨c2, r2, m2, q1, q2, q3, q4, kP, hkP, hkPi⟩ := Cond.selects_spec hsel
  cases hcls.symm.trans q1
  cases (State.methodFound?_of_named hnamed hy).symm.trans q2
  cases hnamed.symm.trans q3
  have hselP : selectMethod e.platform s.vm cellB.cls mk = .method mk := by rw [Launch.admits_selectMethod X.admits]; exact q4
  obtain ⟨vm₁, X₁, hstep₁⟩ := X.invokevirtual hexec hown hlink hnamed hmethM hstM hkP hkPi hy (a := b) (cell := cellB) hcell
    (fun z h => by rw [h] at hobj; cases hobj) hselP hmethM habM hkP hkPi (g := g) hg (argsL := argsL) (rest := rest) (hlen _ hsigM) hstack hdg
  rcases hK m meth c ⟨T.setVm vm₁, locs, cells, slots⟩ { g with stack := rest } (.invokevirtual index) mk (Value.ref b :: argsL).toArray X₁ hg hsize hdg hW (X₁.named hnamed) (hpre vm₁ X₁.warmed) with ⟨v, B, X', hpost, hsteps⟩ | ⟨q, B, X', hpost, hsteps⟩
  · exact Or.inl ⟨v, vm₁, B, X₁.warmed, X', hpost, fun target h => hstep₁ _ fun acts => by rw [doInvoke_state]; exact hsteps.trans h⟩
  · exact Or.inr ⟨q, vm₁, B, X₁.warmed, X', hpost, hstep₁ _ fun acts => by rw [doInvoke_state]; exact hsteps⟩
theorem vx_callS (X : Stand p l e R s m args below meth c T locs cells slots) (hexec : p.tables.exec = Jvm.exec) {own : String} {index : Nat} {y : MethodName} {bytes : ByteArray} {maxL : Nat} {ret : Option FieldType}
    (hown : s.vm.findClass own = some m.cls) (hlink : (Cond.methodLink own index y).before args s = true) (hstat : (Cond.static y).before args s = true) (hinit : (Cond.initialized y.cls).before args s = true)
    (hcode : (Cond.code y bytes maxL ret).before args s = true) (hy : y.cls ≠ "java/lang/invoke/MethodHandle" ∧ y.cls ≠ "java/lang/invoke/VarHandle")
    {W9 : Nat} {Pre : Pt → Array Value → Prop} {Post : Pt → Array Value → Option Value → Pt → Prop} {PostX : Pt → Array Value → Addr → Pt → Prop} (hK : vx_Back l R p e below s args y 3 W9 Pre Post PostX)
    {g : JFrame} (hg : g.method = m) (hsize : g.locals.size = c.maxLocals) {argsL rest : List Value} (hlen : ∀ sig, parseMethodDescriptor y.desc = some sig → argsL.length = sig.parameters.length)
    (hstack : g.stack = argsL.reverse ++ rest) (hW : 2 * g.monitorRoom + (rest.map fun v => v.category).sum ≤ W9) (hdg : decode c.code g.pc = .ok (.invokestatic index, 3))
    (hpre : ∀ vm₁, s.WarmedH vm₁ → Pre ⟨T.setVm vm₁, locs, cells, slots⟩ argsL.toArray) :
    (∃ (v : Option Value) (vm₁ : Vm) (B : Pt), s.WarmedH vm₁ ∧ Stand p l e R s m args below meth c B.U B.locs B.cells B.slots ∧ Post ⟨T.setVm vm₁, locs, cells, slots⟩ argsL.toArray v B ∧
      ∀ target, Steps p.tables e below (B.U.setTop { g with pc := g.pc + 3, stack := v.toList ++ rest }) target → Steps p.tables e below (T.setTop g) target) ∨
    (∃ (q : Addr) (vm₁ : Vm) (B : Pt), s.WarmedH vm₁ ∧ Stand p l e R s m args below meth c B.U B.locs B.cells B.slots ∧ PostX ⟨T.setVm vm₁, locs, cells, slots⟩ argsL.toArray q B ∧
      Steps p.tables e below (T.setTop g) ((B.U.setTop { g with stack := rest }).pushFrame (.throwing q))) := by
  obtain ⟨mk, hnamed⟩ := Cond.code_named hcode
  obtain ⟨methM, cM, hmethM, -, -, -, -, -, -, hsigM⟩ := Cond.code_spec hnamed hcode
  have hstatic : methM.isStatic = true := Cond.static_spec hnamed hmethM hstat
  obtain ⟨kP, hkP, -⟩ := className_of_methodNamed hnamed
  have hinitP : kP.init = .initialized := Cond.initialized_spec (findClass_of_methodNamed hnamed) hkP hinit
  obtain ⟨vm₁, X₁, hstep₁⟩ := X.invokestatic hexec hown hlink hnamed hmethM hstatic hkP hinitP hy (g := g) hg (argsL := argsL) (rest := rest) (hlen _ hsigM) hstack hdg
  rcases hK m meth c ⟨T.setVm vm₁, locs, cells, slots⟩ { g with stack := rest } (.invokestatic index) mk argsL.toArray X₁ hg hsize hdg hW (X₁.named hnamed) (hpre vm₁ X₁.warmed) with ⟨v, B, X', hpost, hsteps⟩ | ⟨q, B, X', hpost, hsteps⟩
  · exact Or.inl ⟨v, vm₁, B, X₁.warmed, X', hpost, fun target h => hstep₁ _ fun acts => by rw [doInvoke_state]; exact hsteps.trans h⟩
  · exact Or.inr ⟨q, vm₁, B, X₁.warmed, X', hpost, hstep₁ _ fun acts => by rw [doInvoke_state]; exact hsteps⟩
end Calls
theorem vx_cls {s : State} {T : State} {vm₁ : Vm} {E : String} {k : ClassId} (hW : s.WarmedH vm₁) (h : (T.setVm vm₁).vm.findClass E = some k) : s.vm.findClass E = some k := by
  have h1 : vm₁.findClass E = some k := h
  rw [hW.alike.findClass] at h1
  exact h1
/-- the method's frame g, with q thrown over it -/
def vx_W (p : Program) (l : Launch) (e : Env) (R : Room) (s : State) (m : MethodId) (args : Array Value) (below : List Frame) (meth : Method) (c : Code) (H : Heap) (locs : List Loc) (cells slots : Nat) (Q : State → Prop) (g : JFrame) (q : Addr) : Prop :=
  ∀ T : State, T.heap = H → Stand p l e R s m args below meth c T locs cells slots → ∃ t, Steps p.tables e below ((T.setTop g).pushFrame (.throwing q)) t ∧ Q t
def vx_Run (p : Program) (l : Launch) (e : Env) (R : Room) (s : State) (m : MethodId) (args : Array Value) (below : List Frame) (meth : Method) (c : Code) (H : Heap) (locs : List Loc) (cells slots mc ms : Nat) (g : JFrame) (rest : List Value) (Qa : State → Outcome → State → Prop) (XC : String → State → State → Prop) (free : Addr → Prop) : Prop :=
  ∀ T : State, T.heap = H → Stand p l e R s m args below meth c T locs cells slots →
    (∃ (v : Option Value) (st₀ t T' : State) (L : List Loc), st₀.heap = H ∧ Stand p l e R s m args below meth c T' (locs ++ L) (cells + mc) (slots + ms) ∧ (∀ q ∈ L, free q.base) ∧ T'.heap = t.heap ∧ T'.vm = t.vm ∧ Qa st₀ (.returned v) t ∧
      Goes p e below T g T' { g with pc := g.pc + 3, stack := v.toList ++ rest }) ∨
    (∃ (q : Addr) (st₀ t T' : State) (L : List Loc) (E : String) (ce : Cell), st₀.heap = H ∧ Stand p l e R s m args below meth c T' (locs ++ L) (cells + mc) (slots + ms) ∧ (∀ z ∈ L, free z.base) ∧ T'.heap = t.heap ∧ T'.vm = t.vm ∧ XC E st₀ t ∧ t.heap[q]? = some ce ∧ ce.vm = .none ∧ s.vm.findClass E = some ce.cls ∧
      Steps p.tables e below (T.setTop g) ((T'.setTop { g with stack := rest }).pushFrame (.throwing q)))
def vx_X {S : Type} (px : S → Prop) (B : String → S → State → Prop) (A : Nat → Prop) : String → State → State → Prop := fun E st t => ∃ u : S, px u ∧ B E u t ∧ va_F A st t
section Runs
variable {p : Program} {l : Launch} {e : Env} {R : Room} {s : State} {m : MethodId} {args : Array Value} {below : List Frame} {meth : Method} {c : Code} {H : Heap} {locs : List Loc} {cells slots : Nat}
variable {y : MethodName} {bytes cc : ByteArray} {maxL nL mc ms n index : Nat} {ret : Option FieldType} {ws : List Cond} {rm : Room} {Pc : Array Value → State → Prop} {Qc : Array Value → State → Outcome → State → Prop} {XC : String → State → State → Prop} {free : Addr → Prop} {Ts : List Cond} {own C : String} {b : Addr} {As rest : List Value} {g : JFrame}
theorem vx_callBack (cb : CallB R s args own index y bytes maxL ret ws rm mc ms n) (hM : vx_Met l y ws rm Pc Qc XC mc ms free) (hbl : FrameBlind Pc) : vx_Back l R p e below s args y 3 8 (PreOf R mc ms Pc) (PostOf Qc mc ms free) (vx_Post XC mc ms free) := by
  obtain ⟨hrc, hrs, hfr, hlo, hws, hcw, -, hini, -⟩ := cb
  exact vx_back (bytes := bytes) (maxL := maxL) (ret := ret) hM hbl hrc hrs hfr hlo hws hcw (fun a' U hW => word_at hW (Or.inl (by first | rfl | simp [Cond.onTables, Cond.keeps, Cond.steady])) hini)
theorem vx_runV (S : CallFix p m c cc nL s args Ts own) (hM : vx_Met l y ws rm Pc Qc XC mc ms free) (cw : CallW R s args own C index y bytes maxL ret ws rm mc ms n) (hp : PreV s H C b Pc As)
    (hg : g.method = m) (hn : As.length = n) (hsize : g.locals.size = nL) (hstack : g.stack = As.reverse ++ .ref b :: rest) (hW : 2 * g.monitorRoom + (rest.map fun v => v.category).sum ≤ 8) (hdg : decode cc g.pc = .ok (.invokevirtual index, 3)) (hf : cells + mc ≤ R.cells ∧ slots + ms ≤ R.slots) :
    vx_Run p l e R s m args below meth c H locs cells slots mc ms g rest (Qc (Value.ref b :: As).toArray) XC free := by
  have hK : vx_Back l R p e below s args y 3 8 (PreOf R mc ms Pc) (PostOf Qc mc ms free) (vx_Post XC mc ms free) := vx_callBack cw.1 hM hp.1
  obtain ⟨⟨-, -, -, -, -, -, hcode, -, hy, hlen, hl⟩, hin, hse⟩ := cw
  obtain ⟨hx, hb, hml, ho, -⟩ := S
  obtain ⟨-, ⟨cellB, hcB, hoB, hclB⟩, hPc⟩ := hp
  intro T hT X
  rcases vx_callV X hx (C := C) (bytes := bytes) (maxL := maxL) (ret := ret) ho hl hin hse hcode hy hK (by rw [hT]; exact hcB) hoB hclB hg (hsize.trans hml.symm) (argsL := As) (rest := rest) (fun sig h => hn.trans (hlen sig h)) hstack hW (by rw [hb]; exact hdg)
    (fun vm₁ hW₁ => ⟨hf.1, hf.2, hPc (T.setVm vm₁) hT hW₁⟩) with ⟨v, vm₁, ⟨U', l2, c2, s2⟩, hW₁, X', ⟨g', mk, t, L, e1, e2, hq, h1, hL, h2, h3⟩, st⟩ | ⟨q, vm₁, ⟨U', l2, c2, s2⟩, hW₁, X', ⟨g', mk, t, L, E, ce, e1, e2, hq, hce, hcv, hcl, h1, hL, h2, h3⟩, st⟩
  · dsimp only [Pt.U, Pt.locs, Pt.cells, Pt.slots] at X' e1 e2 h1 h2 h3 st
    subst h1; subst h2; subst h3
    exact Or.inl ⟨v, (T.setVm vm₁).calling g' mk (Value.ref b :: As).toArray, t, U', L, hT, X', hL, e1, e2, hq, st⟩
  · dsimp only [Pt.U, Pt.locs, Pt.cells, Pt.slots] at X' e1 e2 h1 h2 h3 st hcl
    subst h1; subst h2; subst h3
    exact Or.inr ⟨q, (T.setVm vm₁).calling g' mk (Value.ref b :: As).toArray, t, U', L, E, ce, hT, X', hL, e1, e2, hq, hce, hcv, vx_cls hW₁ hcl, st⟩
theorem vx_runS (S : CallFix p m c cc nL s args Ts own) (hM : vx_Met l y ws rm Pc Qc XC mc ms free) (cw : CallB R s args own index y bytes maxL ret ws rm mc ms n ∧ (Cond.static y).before args s = true) (hp : PreS s H Pc As)
    (hg : g.method = m) (hn : As.length = n) (hsize : g.locals.size = nL) (hstack : g.stack = As.reverse ++ rest) (hW : 2 * g.monitorRoom + (rest.map fun v => v.category).sum ≤ 8) (hdg : decode cc g.pc = .ok (.invokestatic index, 3)) (hf : cells + mc ≤ R.cells ∧ slots + ms ≤ R.slots) :
    vx_Run p l e R s m args below meth c H locs cells slots mc ms g rest (Qc As.toArray) XC free := by
  have hK : vx_Back l R p e below s args y 3 8 (PreOf R mc ms Pc) (PostOf Qc mc ms free) (vx_Post XC mc ms free) := vx_callBack cw.1 hM hp.1
  obtain ⟨⟨-, -, -, -, -, -, hcode, hini, hy, hlen, hl⟩, hstt⟩ := cw
  obtain ⟨hx, hb, hml, ho, -⟩ := S
  intro T hT X
  rcases vx_callS X hx (bytes := bytes) (maxL := maxL) (ret := ret) ho hl hstt hini hcode hy hK hg (hsize.trans hml.symm) (argsL := As) (rest := rest) (fun sig h => hn.trans (hlen sig h)) hstack hW (by rw [hb]; exact hdg)
    (fun vm₁ hW₁ => ⟨hf.1, hf.2, hp.2 (T.setVm vm₁) hT hW₁⟩) with ⟨v, vm₁, ⟨U', l2, c2, s2⟩, hW₁, X', ⟨g', mk, t, L, e1, e2, hq, h1, hL, h2, h3⟩, st⟩ | ⟨q, vm₁, ⟨U', l2, c2, s2⟩, hW₁, X', ⟨g', mk, t, L, E, ce, e1, e2, hq, hce, hcv, hcl, h1, hL, h2, h3⟩, st⟩
  · dsimp only [Pt.U, Pt.locs, Pt.cells, Pt.slots] at X' e1 e2 h1 h2 h3 st
    subst h1; subst h2; subst h3
    exact Or.inl ⟨v, (T.setVm vm₁).calling g' mk As.toArray, t, U', L, hT, X', hL, e1, e2, hq, st⟩
  · dsimp only [Pt.U, Pt.locs, Pt.cells, Pt.slots] at X' e1 e2 h1 h2 h3 st hcl
    subst h1; subst h2; subst h3
    exact Or.inr ⟨q, (T.setVm vm₁).calling g' mk As.toArray, t, U', L, E, ce, hT, X', hL, e1, e2, hq, hce, hcv, vx_cls hW₁ hcl, st⟩
end Runs
section Rows
variable {p : Program} {l : Launch} {e : Env} {R : Room} {s : State} {m : MethodId} {args : Array Value} {below : List Frame} {meth : Method} {c : Code} {H : Heap} {locs : List Loc} {cells slots : Nat} {Q : State → Prop}
variable {mc ms : Nat} {free : Addr → Prop} {A0 A1 : Nat → Prop} {H0 : Heap} {a : Array Value} {pc : Nat} {ls : Array Slot} {st0 rest : List Value}
theorem vx_keep {st₀ t T' : State} {L : List Loc} (h0 : st₀.heap = H) (e1 : T'.heap = t.heap) (hS : va_S A0 H0 H locs) (hA : ∀ q, q < H.size → A1 q → A0 q) (hf : ∀ q, free q → A0 q) (hL : ∀ q ∈ L, free q.base) (hF : va_F A1 st₀ t) :
    H.size ≤ T'.heap.size ∧ (∀ q : Nat, q < H.size → ¬ A1 q → T'.heap[q]? = H[q]?) ∧ va_S A0 H0 T'.heap (locs ++ L) := by
  obtain ⟨hz, hk⟩ := hF
  rw [h0] at hz hk
  exact ⟨by rw [e1]; exact hz, fun q h1 h2 => by rw [e1]; exact hk q h1 h2,
    ⟨Nat.le_trans hS.1 (by rw [e1]; exact hz), fun q h1 h2 => by rw [e1, hk q (Nat.lt_of_lt_of_le h1 hS.1) (fun z => h2 (hA q (Nat.lt_of_lt_of_le h1 hS.1) z))]; exact hS.2.1 q h1 h2, fun q hq => by
      rcases List.mem_append.mp hq with h | h
      · exact hS.2.2 q h
      · exact hf _ (hL q h)⟩⟩
theorem vx_calli {S SX : Type} {post : Int32 → S → Prop} {px : SX → Prop} {B : S → State → Prop} {BX : String → SX → State → Prop} {AX : Nat → Prop} (hr : vx_Run p l e R s m args below meth c H locs cells slots mc ms (F0 m pc ls st0) rest (va_Qi post B A1 a) (vx_X px BX AX) free) (hS : va_S A0 H0 H locs) (hA : ∀ q, q < H.size → A1 q → A0 q) (hf : ∀ q, free q → A0 q) (hAX : ∀ q, q < H.size → AX q → A0 q)
    (kx : ∀ (E : String) (ce : Cell) (q9 : Addr) (u : SX) (t : State) (H1 : Heap) (locs1 : List Loc), t.heap = H1 → s.vm.Alike t.vm → px u → BX E u t → H.size ≤ H1.size → (∀ q : Nat, q < H.size → ¬ AX q → H1[q]? = H[q]?) → va_S A0 H0 H1 locs1 → H1[q9]? = some ce → ce.vm = .none → s.vm.findClass E = some ce.cls → vx_W p l e R s m args below meth c H1 locs1 (cells + mc) (slots + ms) Q (F0 m pc ls rest) q9)
    (kk : ∀ (r : Int32) (u : S) (t : State) (H1 : Heap) (locs1 : List Loc), t.heap = H1 → s.vm.Alike t.vm → post r u → B u t → H.size ≤ H1.size → (∀ q : Nat, q < H.size → ¬ A1 q → H1[q]? = H[q]?) → va_S A0 H0 H1 locs1 → W p l e R s m args below meth c H1 locs1 (cells + mc) (slots + ms) Q (F0 m (pc + 3) ls (.int r :: rest))) : W p l e R s m args below meth c H locs cells slots Q (F0 m pc ls st0) := by
  intro T hT X
  rcases hr T hT X with ⟨v, st₀, t, T', L, h0, X', hL, e1, e2, ⟨⟨r, u, hv, hp, hb⟩, hF⟩, st⟩ | ⟨q, st₀, t, T', L, E, ce, h0, X', hL, e1, e2, ⟨u, hp, hb, hF⟩, hce, hcv, hcl, st⟩
  · cases hv
    obtain ⟨k1, k2, k3⟩ := vx_keep h0 e1 hS hA hf hL hF
    obtain ⟨t2, a1, b1⟩ := kk r u t T'.heap (locs ++ L) e1.symm (by rw [← e2]; exact X'.warmed.alike) hp hb k1 k2 k3 T' rfl X'
    exact ⟨t2, st t2 a1, b1⟩
  · obtain ⟨k1, k2, k3⟩ := vx_keep h0 e1 hS hAX hf hL hF
    obtain ⟨t2, a1, b1⟩ := kx E ce q u t T'.heap (locs ++ L) e1.symm (by rw [← e2]; exact X'.warmed.alike) hp hb k1 k2 k3 (by rw [e1]; exact hce) hcv hcl T' rfl X'
    exact ⟨t2, st.trans a1, b1⟩
theorem vx_calll {S SX : Type} {post : Int64 → S → Prop} {px : SX → Prop} {B : S → State → Prop} {BX : String → SX → State → Prop} {AX : Nat → Prop} (hr : vx_Run p l e R s m args below meth c H locs cells slots mc ms (F0 m pc ls st0) rest (va_Ql post B A1 a) (vx_X px BX AX) free) (hS : va_S A0 H0 H locs) (hA : ∀ q, q < H.size → A1 q → A0 q) (hf : ∀ q, free q → A0 q) (hAX : ∀ q, q < H.size → AX q → A0 q)
    (kx : ∀ (E : String) (ce : Cell) (q9 : Addr) (u : SX) (t : State) (H1 : Heap) (locs1 : List Loc), t.heap = H1 → s.vm.Alike t.vm → px u → BX E u t → H.size ≤ H1.size → (∀ q : Nat, q < H.size → ¬ AX q → H1[q]? = H[q]?) → va_S A0 H0 H1 locs1 → H1[q9]? = some ce → ce.vm = .none → s.vm.findClass E = some ce.cls → vx_W p l e R s m args below meth c H1 locs1 (cells + mc) (slots + ms) Q (F0 m pc ls rest) q9)
    (kk : ∀ (r : Int64) (u : S) (t : State) (H1 : Heap) (locs1 : List Loc), t.heap = H1 → s.vm.Alike t.vm → post r u → B u t → H.size ≤ H1.size → (∀ q : Nat, q < H.size → ¬ A1 q → H1[q]? = H[q]?) → va_S A0 H0 H1 locs1 → W p l e R s m args below meth c H1 locs1 (cells + mc) (slots + ms) Q (F0 m (pc + 3) ls (.long r :: rest))) : W p l e R s m args below meth c H locs cells slots Q (F0 m pc ls st0) := by
  intro T hT X
  rcases hr T hT X with ⟨v, st₀, t, T', L, h0, X', hL, e1, e2, ⟨⟨r, u, hv, hp, hb⟩, hF⟩, st⟩ | ⟨q, st₀, t, T', L, E, ce, h0, X', hL, e1, e2, ⟨u, hp, hb, hF⟩, hce, hcv, hcl, st⟩
  · cases hv
    obtain ⟨k1, k2, k3⟩ := vx_keep h0 e1 hS hA hf hL hF
    obtain ⟨t2, a1, b1⟩ := kk r u t T'.heap (locs ++ L) e1.symm (by rw [← e2]; exact X'.warmed.alike) hp hb k1 k2 k3 T' rfl X'
    exact ⟨t2, st t2 a1, b1⟩
  · obtain ⟨k1, k2, k3⟩ := vx_keep h0 e1 hS hAX hf hL hF
    obtain ⟨t2, a1, b1⟩ := kx E ce q u t T'.heap (locs ++ L) e1.symm (by rw [← e2]; exact X'.warmed.alike) hp hb k1 k2 k3 (by rw [e1]; exact hce) hcv hcl T' rfl X'
    exact ⟨t2, st.trans a1, b1⟩
theorem vx_callf {S SX : Type} {post : UInt32 → S → Prop} {px : SX → Prop} {B : S → State → Prop} {BX : String → SX → State → Prop} {AX : Nat → Prop} (hr : vx_Run p l e R s m args below meth c H locs cells slots mc ms (F0 m pc ls st0) rest (va_Qf post B A1 a) (vx_X px BX AX) free) (hS : va_S A0 H0 H locs) (hA : ∀ q, q < H.size → A1 q → A0 q) (hf : ∀ q, free q → A0 q) (hAX : ∀ q, q < H.size → AX q → A0 q)
    (kx : ∀ (E : String) (ce : Cell) (q9 : Addr) (u : SX) (t : State) (H1 : Heap) (locs1 : List Loc), t.heap = H1 → s.vm.Alike t.vm → px u → BX E u t → H.size ≤ H1.size → (∀ q : Nat, q < H.size → ¬ AX q → H1[q]? = H[q]?) → va_S A0 H0 H1 locs1 → H1[q9]? = some ce → ce.vm = .none → s.vm.findClass E = some ce.cls → vx_W p l e R s m args below meth c H1 locs1 (cells + mc) (slots + ms) Q (F0 m pc ls rest) q9)
    (kk : ∀ (r : UInt32) (u : S) (t : State) (H1 : Heap) (locs1 : List Loc), t.heap = H1 → s.vm.Alike t.vm → post r u → B u t → H.size ≤ H1.size → (∀ q : Nat, q < H.size → ¬ A1 q → H1[q]? = H[q]?) → va_S A0 H0 H1 locs1 → W p l e R s m args below meth c H1 locs1 (cells + mc) (slots + ms) Q (F0 m (pc + 3) ls (.float r :: rest))) : W p l e R s m args below meth c H locs cells slots Q (F0 m pc ls st0) := by
  intro T hT X
  rcases hr T hT X with ⟨v, st₀, t, T', L, h0, X', hL, e1, e2, ⟨⟨r, u, hv, hp, hb⟩, hF⟩, st⟩ | ⟨q, st₀, t, T', L, E, ce, h0, X', hL, e1, e2, ⟨u, hp, hb, hF⟩, hce, hcv, hcl, st⟩
  · cases hv
    obtain ⟨k1, k2, k3⟩ := vx_keep h0 e1 hS hA hf hL hF
    obtain ⟨t2, a1, b1⟩ := kk r u t T'.heap (locs ++ L) e1.symm (by rw [← e2]; exact X'.warmed.alike) hp hb k1 k2 k3 T' rfl X'
    exact ⟨t2, st t2 a1, b1⟩
  · obtain ⟨k1, k2, k3⟩ := vx_keep h0 e1 hS hAX hf hL hF
    obtain ⟨t2, a1, b1⟩ := kx E ce q u t T'.heap (locs ++ L) e1.symm (by rw [← e2]; exact X'.warmed.alike) hp hb k1 k2 k3 (by rw [e1]; exact hce) hcv hcl T' rfl X'
    exact ⟨t2, st.trans a1, b1⟩
theorem vx_calld {S SX : Type} {post : UInt64 → S → Prop} {px : SX → Prop} {B : S → State → Prop} {BX : String → SX → State → Prop} {AX : Nat → Prop} (hr : vx_Run p l e R s m args below meth c H locs cells slots mc ms (F0 m pc ls st0) rest (va_Qd post B A1 a) (vx_X px BX AX) free) (hS : va_S A0 H0 H locs) (hA : ∀ q, q < H.size → A1 q → A0 q) (hf : ∀ q, free q → A0 q) (hAX : ∀ q, q < H.size → AX q → A0 q)
    (kx : ∀ (E : String) (ce : Cell) (q9 : Addr) (u : SX) (t : State) (H1 : Heap) (locs1 : List Loc), t.heap = H1 → s.vm.Alike t.vm → px u → BX E u t → H.size ≤ H1.size → (∀ q : Nat, q < H.size → ¬ AX q → H1[q]? = H[q]?) → va_S A0 H0 H1 locs1 → H1[q9]? = some ce → ce.vm = .none → s.vm.findClass E = some ce.cls → vx_W p l e R s m args below meth c H1 locs1 (cells + mc) (slots + ms) Q (F0 m pc ls rest) q9)
    (kk : ∀ (r : UInt64) (u : S) (t : State) (H1 : Heap) (locs1 : List Loc), t.heap = H1 → s.vm.Alike t.vm → post r u → B u t → H.size ≤ H1.size → (∀ q : Nat, q < H.size → ¬ A1 q → H1[q]? = H[q]?) → va_S A0 H0 H1 locs1 → W p l e R s m args below meth c H1 locs1 (cells + mc) (slots + ms) Q (F0 m (pc + 3) ls (.double r :: rest))) : W p l e R s m args below meth c H locs cells slots Q (F0 m pc ls st0) := by
  intro T hT X
  rcases hr T hT X with ⟨v, st₀, t, T', L, h0, X', hL, e1, e2, ⟨⟨r, u, hv, hp, hb⟩, hF⟩, st⟩ | ⟨q, st₀, t, T', L, E, ce, h0, X', hL, e1, e2, ⟨u, hp, hb, hF⟩, hce, hcv, hcl, st⟩
  · cases hv
    obtain ⟨k1, k2, k3⟩ := vx_keep h0 e1 hS hA hf hL hF
    obtain ⟨t2, a1, b1⟩ := kk r u t T'.heap (locs ++ L) e1.symm (by rw [← e2]; exact X'.warmed.alike) hp hb k1 k2 k3 T' rfl X'
    exact ⟨t2, st t2 a1, b1⟩
  · obtain ⟨k1, k2, k3⟩ := vx_keep h0 e1 hS hAX hf hL hF
    obtain ⟨t2, a1, b1⟩ := kx E ce q u t T'.heap (locs ++ L) e1.symm (by rw [← e2]; exact X'.warmed.alike) hp hb k1 k2 k3 (by rw [e1]; exact hce) hcv hcl T' rfl X'
    exact ⟨t2, st.trans a1, b1⟩
theorem vx_callv {S SX : Type} {post : S → Prop} {px : SX → Prop} {B : S → State → Prop} {BX : String → SX → State → Prop} {AX : Nat → Prop} (hr : vx_Run p l e R s m args below meth c H locs cells slots mc ms (F0 m pc ls st0) rest (va_Qv post B A1 a) (vx_X px BX AX) free) (hS : va_S A0 H0 H locs) (hA : ∀ q, q < H.size → A1 q → A0 q) (hf : ∀ q, free q → A0 q) (hAX : ∀ q, q < H.size → AX q → A0 q)
    (kx : ∀ (E : String) (ce : Cell) (q9 : Addr) (u : SX) (t : State) (H1 : Heap) (locs1 : List Loc), t.heap = H1 → s.vm.Alike t.vm → px u → BX E u t → H.size ≤ H1.size → (∀ q : Nat, q < H.size → ¬ AX q → H1[q]? = H[q]?) → va_S A0 H0 H1 locs1 → H1[q9]? = some ce → ce.vm = .none → s.vm.findClass E = some ce.cls → vx_W p l e R s m args below meth c H1 locs1 (cells + mc) (slots + ms) Q (F0 m pc ls rest) q9)
    (kk : ∀ (u : S) (t : State) (H1 : Heap) (locs1 : List Loc), t.heap = H1 → s.vm.Alike t.vm → post u → B u t → H.size ≤ H1.size → (∀ q : Nat, q < H.size → ¬ A1 q → H1[q]? = H[q]?) → va_S A0 H0 H1 locs1 → W p l e R s m args below meth c H1 locs1 (cells + mc) (slots + ms) Q (F0 m (pc + 3) ls (rest))) : W p l e R s m args below meth c H locs cells slots Q (F0 m pc ls st0) := by
  intro T hT X
  rcases hr T hT X with ⟨v, st₀, t, T', L, h0, X', hL, e1, e2, ⟨⟨u, hv, hp, hb⟩, hF⟩, st⟩ | ⟨q, st₀, t, T', L, E, ce, h0, X', hL, e1, e2, ⟨u, hp, hb, hF⟩, hce, hcv, hcl, st⟩
  · cases hv
    obtain ⟨k1, k2, k3⟩ := vx_keep h0 e1 hS hA hf hL hF
    obtain ⟨t2, a1, b1⟩ := kk u t T'.heap (locs ++ L) e1.symm (by rw [← e2]; exact X'.warmed.alike) hp hb k1 k2 k3 T' rfl X'
    exact ⟨t2, st t2 a1, b1⟩
  · obtain ⟨k1, k2, k3⟩ := vx_keep h0 e1 hS hAX hf hL hF
    obtain ⟨t2, a1, b1⟩ := kx E ce q u t T'.heap (locs ++ L) e1.symm (by rw [← e2]; exact X'.warmed.alike) hp hb k1 k2 k3 (by rw [e1]; exact hce) hcv hcl T' rfl X'
    exact ⟨t2, st.trans a1, b1⟩
/-- caught by the row x of this method's table; the rows ahead don't take it -/
theorem vx_catch {own name : String} {E : String} {ce : Cell} {q : Addr} (hown : s.vm.findClass own = some m.cls) (pre : List ExceptionTableEntry) (x : ExceptionTableEntry) (suf : List ExceptionTableEntry) (hsplit : c.exceptionTable.toList = pre ++ x :: suf)
    (hpass : ∀ z ∈ pre, covers z pc = false ∨ (z.catchType ≠ 0 ∧ ∃ nm : String, (Cond.classLink own z.catchType nm).before args s = true ∧ va_Nc E nm s)) (hx : covers x pc = true) (h0 : x.catchType ≠ 0)
    (hlink : (Cond.classLink own x.catchType name).before args s = true) (hcast : (Cond.castable E name).before args s = true) (hcell : H[q]? = some ce) (hv : ce.vm = .none) (hcl : s.vm.findClass E = some ce.cls)
    (kk : W p l e R s m args below meth c H locs cells slots Q (F0 m x.handlerPc ls [.ref q])) : vx_W p l e R s m args below meth c H locs cells slots Q (F0 m pc ls rest) q := by
  intro T hT X
  have hpl : e.platform.magicAccessors = ({} : Platform).magicAccessors := by rw [X.admits.platform]
  obtain ⟨c3, c4, hc3, hc4, hasg⟩ := Cond.castable_spec hcast
  cases Option.some.inj (hc3.symm.trans hcl)
  obtain ⟨c5, hc5, hcl5⟩ := Cond.classLink_spec hown hlink e.platform hpl
  cases Option.some.inj (hc4.symm.trans hc5)
  obtain ⟨vm', X', st⟩ := X.thenCaughtThrough q (g := F0 m pc ls rest) rfl (Steps.refl _) (by rw [hT]; exact hcell) (by rw [hv]; rfl) (by obtain ⟨k9, h9, -⟩ := Vm.findClass_spec hcl; exact ⟨k9, h9⟩) pre x suf hsplit
    (fun z hz => by
      rcases hpass z hz with h | ⟨hz0, nm, hl1, hn1⟩
      · exact Or.inl h
      · obtain ⟨c6, hc6, hcl6⟩ := Cond.classLink_spec hown hl1 e.platform hpl
        obtain ⟨a8, b8, h1, h2, h3⟩ := hn1
        cases Option.some.inj (h1.symm.trans hcl)
        cases Option.some.inj (h2.symm.trans hc6)
        exact Or.inr ⟨hz0, _, hcl6, h3⟩) hx (Or.inr ⟨h0, c4, hcl5, hasg⟩)
  obtain ⟨t, a1, b1⟩ := kk (T.setVm vm') hT X'
  exact ⟨t, st.trans a1, b1⟩
end Rows
section Ends
variable {p : Program} {l : Launch} {e : Env} {R : Room} {s : State} {m : MethodId} {args : Array Value} {below : List Frame} {meth : Method} {c : Code} {H : Heap} {locs : List Loc} {cells slots : Nat} {Q : State → Prop}
variable {mc ms : Nat} {free : Addr → Prop} {A0 A1 : Nat → Prop} {H0 : Heap} {a : Array Value} {ls : Array Slot} {st0 rest : List Value}
variable {Qc : Array Value → State → Outcome → State → Prop} {XC : String → State → State → Prop}
/-- what a body that may throw owes at its end -/
def vx_MQ (below : List Frame) (Qc : Array Value → State → Outcome → State → Prop) (XC : String → State → State → Prop) (a : Array Value) (s : State) (mc ms : Nat) (free : Addr → Prop) : State → Prop := fun t =>
  ∃ o, t.status = .running ∧ Ended t below o ∧ vx_Q Qc XC mc ms free a s o t
theorem vx_ret {g : JFrame} {mc ms : Nat} (k : W p l e R s m args below meth c H locs cells slots (MQ below Qc args s mc ms free) g) : W p l e R s m args below meth c H locs cells slots (vx_MQ below Qc XC args s mc ms free) g := by
  intro T hT X
  obtain ⟨t, a1, o, b1, b2, b3, b4⟩ := k T hT X
  exact ⟨t, a1, o, b1, b2, Or.inl ⟨b3, b4⟩⟩
/-- not caught here: it goes on to the caller -/
theorem vx_widen {g : JFrame} {q : Addr} {k n : Nat} (h1 : cells ≤ k) (h2 : slots ≤ n) (kk : vx_W p l e R s m args below meth c H locs k n Q g q) : vx_W p l e R s m args below meth c H locs cells slots Q g q := fun T hT X => kk T hT (stand_widen X h1 h2)
theorem vx_out {pc : Nat} {E : String} {ce : Cell} {q : Addr} {mc ms : Nat} (hout : ∀ x ∈ c.exceptionTable.toList, covers x pc = false) (hlocks : meth.locks = false) (hcell : H[q]? = some ce) (hv : ce.vm = .none) (hcl : s.vm.findClass E = some ce.cls)
    (hx : ∀ t : State, t.heap = H → s.vm.Alike t.vm → XC E s t) (hf : ∀ z ∈ locs, free z.base) (hc : cells ≤ mc) (hs : slots ≤ ms) :
    vx_W p l e R s m args below meth c H locs cells slots (vx_MQ below Qc XC args s mc ms free) (F0 m pc ls rest) q := by
  intro T hT X
  obtain ⟨st1, hrun, hend, hW, hsm⟩ := X.leaveThrown q (g := F0 m pc ls rest) rfl rfl rfl hout hlocks
  have hcell9 : (T.setFrames (.throwing q :: below)).heap[q]? = some ce := by
    show T.heap[q]? = some ce
    rw [hT]; exact hcell
  exact ⟨_, st1, .threw q, hrun, hend, Or.inr ⟨q, rfl, E, ce, locs, hx _ hT hW.alike, hcell9, hv, hcl, hW, hsm.mono hc hs, hf⟩⟩
theorem vx_frame {U : State} {k n : Nat} (h : s.sameButNew ({ U with vm := s.vm } : State) locs k n) : s.heap.size ≤ U.heap.size ∧ ∀ q : Nat, q < s.heap.size → (∀ z ∈ locs, z.base ≠ q) → U.heap[q]? = s.heap[q]? := by
  obtain ⟨-, h2, -, -, -, h6⟩ := h
  refine ⟨h2, fun q hq hz => ?_⟩
  obtain ⟨c9, e1, e2, e3, e4⟩ := h6 q _ (Array.getElem?_eq_getElem hq)
  have hs : c9.slots = (s.heap[q]).slots := Array.ext_getElem? fun i => e4 i fun hm => hz _ hm rfl
  have h9 : c9 = s.heap[q] := by
    rw [hs] at e2
    exact e2
  have e5 : U.heap[q]? = some c9 := e1
  rw [e5, h9, Array.getElem?_eq_getElem hq]
/-- the words of a throw but the four that speak of the heap -/
def vx_no (w : Cond) : Bool := decide (w ≠ .isRef (.static Bundle.tN "UNASSIGNED_STACK" Bundle.steD)) && decide (w ≠ .isRef (.static Bundle.tN "SUPPRESSED_SENTINEL" Bundle.listD)) && decide (w ≠ .laysStatic Bundle.tN "UNASSIGNED_STACK" Bundle.steD) && decide (w ≠ .laysStatic Bundle.tN "SUPPRESSED_SENTINEL" Bundle.listD)
def vx_at0 (own : String) (ic : Nat) (X : String) (names : List String) : List Cond := (Bundle.ownAtoms0 own ic X names).filter vx_no
def vx_atS (own : String) (ic : Nat) (X : String) (names : List String) : List Cond := (Bundle.ownAtoms own ic X names).filter vx_no
/-- a word that the tables alone decide, or a good one -/
def vx_ot (w : Cond) : Bool := w.onTables || goodWord w
theorem vx_ot_at {args a' : Array Value} {s U : State} {w : Cond} (hW : s.WarmedH U.vm) (hvm : s.vm = U.vm) (hg : vx_ot w = true) (h : w.before args s = true) : w.before a' U = true := by
  simp only [vx_ot, Bool.or_eq_true] at hg
  rcases hg with hg | hg
  · exact va_tabs hg hvm h
  · exact word_at hW (good_of_word hg) h
/-- a list's words: the good ones out of the method's own list, the others by premises of their own -/
theorem vx_hat {args : Array Value} {s : State} {L B : List Cond} (h1 : ∀ w ∈ L.filter goodWord, w.before args s = true) (h2 : ∀ w ∈ L.filter (fun w => !goodWord w), w ∈ B) (h3 : ∀ w ∈ B, w.before args s = true) : ∀ w ∈ L, w.before args s = true := by
  intro w hw
  by_cases g : goodWord w = true
  · exact h1 w (List.mem_filter.mpr ⟨hw, g⟩)
  · refine h3 w (h2 w (List.mem_filter.mpr ⟨hw, ?_⟩))
    show (!goodWord w) = true
    cases hgw : goodWord w
    · rfl
    · exact absurd hgw g
theorem vx_c {args : Array Value} {s : State} {w : Cond} {B : List Cond} (h : w.before args s = true) (t : ∀ w ∈ B, w.before args s = true) : ∀ w' ∈ w :: B, w'.before args s = true := fun w' h' => (List.mem_cons.mp h').elim (fun e => by rw [e]; exact h) (t w')
theorem vx_n {args : Array Value} {s : State} : ∀ w ∈ ([] : List Cond), w.before args s = true := fun _ h => nomatch h
theorem vx_own {args : Array Value} {s : State} {L : List Cond} (h1 : ∀ w ∈ L.filter vx_no, w.before args s = true)
    (hU : (Cond.isRef (.static Bundle.tN "UNASSIGNED_STACK" Bundle.steD)).before args s = true) (hN : (Cond.isRef (.static Bundle.tN "SUPPRESSED_SENTINEL" Bundle.listD)).before args s = true)
    (lU : (Cond.laysStatic Bundle.tN "UNASSIGNED_STACK" Bundle.steD).before args s = true) (lN : (Cond.laysStatic Bundle.tN "SUPPRESSED_SENTINEL" Bundle.listD).before args s = true) : ∀ w ∈ L, w.before args s = true := by
  intro w hw
  by_cases e1 : w = .isRef (.static Bundle.tN "UNASSIGNED_STACK" Bundle.steD)
  · rw [e1]; exact hU
  · by_cases e2 : w = .isRef (.static Bundle.tN "SUPPRESSED_SENTINEL" Bundle.listD)
    · rw [e2]; exact hN
    · by_cases e3 : w = .laysStatic Bundle.tN "UNASSIGNED_STACK" Bundle.steD
      · rw [e3]; exact lU
      · by_cases e4 : w = .laysStatic Bundle.tN "SUPPRESSED_SENTINEL" Bundle.listD
        · rw [e4]; exact lN
        · exact h1 w (List.mem_filter.mpr ⟨hw, by unfold vx_no; rw [decide_eq_true e1, decide_eq_true e2, decide_eq_true e3, decide_eq_true e4]; rfl⟩)
/-- where a static field lies, its class's statics cell in H -/
def vx_L (C n d : String) (A : Nat → Prop) (U : State) (H : Heap) : Prop := ∃ (c : ClassId) (k : Class) (i : Nat) (f : Field) (a : Nat) (cell : Cell), U.vm.findClass C = some c ∧ U.fieldFound? C n d = some (c, k, i, f) ∧ f.isStatic = true ∧ k.statics = some a ∧ H[a]? = some cell ∧ cell.vm.isStatics = true ∧ cell.cls = c ∧ f.slot < cell.slots.size ∧ k.staticTypes[f.slot]? = some f.type ∧ ¬ A a
theorem vx_L.moved {C n d : String} {A : Nat → Prop} {u U : State} {H : Heap} (hvm : u.vm.Alike U.vm) (h : vx_L C n d A u H) : vx_L C n d A U H := by
  obtain ⟨c, k, i, f, a, cell, h1, h2, h3, h4, h5, h6, h7, h8, h9, h10⟩ := h
  obtain ⟨k', hi', he⟩ := State.fieldFound?_setVm hvm h2
  exact ⟨c, k', i, f, a, cell, by rw [hvm.findClass]; exact h1, hi', h3, by rw [he]; exact h4, h5, h6, h7, h8, by rw [he]; exact h9, h10⟩
theorem vx_L.kept {C n d : String} {A : Nat → Prop} {U : State} {H H1 : Heap} (h : vx_L C n d A U H) (hq : ∀ a : Nat, a < H.size → ¬ A a → H1[a]? = H[a]?) : vx_L C n d A U H1 := by
  obtain ⟨c, k, i, f, a, cell, h1, h2, h3, h4, h5, h6, h7, h8, h9, h10⟩ := h
  exact ⟨c, k, i, f, a, cell, h1, h2, h3, h4, by rw [hq a (Array.getElem?_eq_some_iff.mp h5).1 h10]; exact h5, h6, h7, h8, h9, h10⟩
theorem vx_L.narrow {C n d : String} {A B : Nat → Prop} {U : State} {H : Heap} (h : vx_L C n d A U H) (hAB : ∀ q, B q → A q) : vx_L C n d B U H := by
  obtain ⟨c, k, i, f, a, cell, h1, h2, h3, h4, h5, h6, h7, h8, h9, h10⟩ := h
  exact ⟨c, k, i, f, a, cell, h1, h2, h3, h4, h5, h6, h7, h8, h9, fun z => h10 (hAB _ z)⟩
theorem vx_L.word {C n d : String} {A : Nat → Prop} {s : State} {args : Array Value} (h : vx_L C n d A s s.heap) : (Cond.laysStatic C n d).before args s = true := by
  obtain ⟨c, k, i, f, a, cell, h1, h2, h3, h4, h5, h6, h7, h8, h9, -⟩ := h
  show (Cond.laysStatic C n d).holds args s none s [] = true
  exact Cond.laysStatic_of h1 h2 h3 h4 h5 h6 h7 h8 h9
/-- .. and what it holds: null or some reference -/
def vx_Zq (C n d : String) (A : Nat → Prop) (U : State) (H : Heap) : Prop := va_Zq C n d A U H ∧ vx_L C n d A U H
theorem vx_Zq.moved {C n d : String} {A : Nat → Prop} {u U : State} {H : Heap} (hvm : u.vm.Alike U.vm) (h : vx_Zq C n d A u H) : vx_Zq C n d A U H := ⟨va_Zq.moved hvm h.1, vx_L.moved hvm h.2⟩
theorem vx_Zq.kept {C n d : String} {A : Nat → Prop} {U : State} {H H1 : Heap} (h : vx_Zq C n d A U H) (hq : ∀ a : Nat, a < H.size → ¬ A a → H1[a]? = H[a]?) : vx_Zq C n d A U H1 := ⟨va_Zq.kept h.1 hq, vx_L.kept h.2 hq⟩
theorem vx_Zq.narrow {C n d : String} {A B : Nat → Prop} {U : State} {H : Heap} (h : vx_Zq C n d A U H) (hAB : ∀ q, B q → A q) : vx_Zq C n d B U H := ⟨va_Zq.narrow h.1 hAB, vx_L.narrow h.2 hAB⟩
theorem vx_Zqof {args : Array Value} {s : State} {C n d : String} {A : Nat → Prop} (hl : (Cond.laysStatic C n d).before args s = true) (hini : (Cond.initialized C).before args s = true) (h : (Cond.isRef (.static C n d)).before args s = true) (hA : ∀ a : Nat, a < s.heap.size → ¬ A a) : vx_Zq C n d A s s.heap := by
  refine ⟨va_Zqof hl hini h hA, ?_⟩
  obtain ⟨c, k, i, f, a, cell, h1, h2, h3, h4, h5, h6, h7, h8, h9⟩ := Cond.laysStatic_spec hl
  exact ⟨c, k, i, f, a, cell, h1, h2, h3, h4, h5, h6, h7, h8, h9, hA a (Array.getElem?_eq_some_iff.mp h5).1⟩
theorem vx_isRef {C n d : String} {v : Value} {A : Nat → Prop} {s : State} {args : Array Value} (h : va_Z C n d v A s s.heap) (hv : v.isRef = true) : (Cond.isRef (.static C n d)).before args s = true := by
  obtain ⟨cf, kf, fi, f, a, cell, h1, h2, h3, h4, h5, h6, h7, -⟩ := h
  have he : (Term.static C n d).eval args s none [] s = some v := by
    simp [Term.eval, State.fieldNamed?, h1, h2, h4, h5, h6, h7]
  simp only [Cond.before, Cond.holds, Cond.value, he]
  cases v <;> simp_all [Value.isRef]
theorem vx_isRefq {C n d : String} {A : Nat → Prop} {s : State} {args : Array Value} (h : va_Zq C n d A s s.heap) : (Cond.isRef (.static C n d)).before args s = true := by
  rcases h with h | ⟨t, h⟩
  · exact vx_isRef h rfl
  · exact vx_isRef h rfl
/-- the same frame, seen from here: as if the method were called anew in this heap -/
theorem vx_rebase {T : State} (X : Stand p l e R s m args below meth c T locs cells slots) {R' : Room} (hf : R'.frames ≤ R.frames) (hl : R'.locals ≤ R.locals) (hc : cells + R'.cells ≤ R.cells) (hs : slots + R'.slots ≤ R.slots) :
    Stand p l e R' ((T.setVm s.vm).setFrames (.invoking m args :: below)) m args below meth c T [] 0 0 := by
  have htop : (T.setVm s.vm).topJava?.isSome := X.here.top
  have hF : ((T.setVm s.vm).setFrames (.invoking m args :: below)).frames = .invoking m args :: below := State.frames_setFrames _ (State.cur_lt_of_top htop)
  obtain ⟨g₀, hg0⟩ := Option.isSome_iff_exists.mp htop
  obtain ⟨r, hr⟩ := State.topJava?_eq_some.mp hg0
  have hl9 : e.platform.stackLimits (T.setVm s.vm).me = e.platform.stackLimits s.me := X.limits
  have hb9 : (T.setVm s.vm).me.stackBytes = s.me.stackBytes := X.bytes
  refine ⟨X.admits, X.cas, X.clock, hF, ?_, X.hears, X.method, X.code, X.here, X.tail, X.warmed, ?_, ?_, ?_⟩
  · have h := X.room
    have hU : ((T.setVm s.vm).setFrames (.invoking m args :: below)).localsInUse = s.localsInUse := by
      rw [State.localsInUse_invoking hF (meth := meth) (c := c) X.method X.code, State.localsInUse_invoking X.frames X.method X.code]
    simp only [State.hasRoom, Bool.and_eq_true, decide_eq_true_eq] at h ⊢
    obtain ⟨⟨⟨⟨h1, h2, h3, h4, h5, h6⟩, h7⟩, h8⟩, h9⟩ := h
    rw [X.frames, List.length_cons] at h2 h3
    have q1 := X.heapSize
    have q2 := X.used
    simp only [hF, hU, List.length_cons, State.stackLimits_setFrames, State.stackBytes_setFrames, hl9, hb9]
    refine ⟨⟨⟨⟨by omega, by omega, by omega, by omega, by omega, h6⟩, ?_⟩, ?_⟩, X.book⟩
    · show T.heap.size + R'.cells ≤ e.platform.maxCells
      omega
    · show T.slotsUsed + R'.slots ≤ e.platform.maxSlots
      omega
  · rw [State.stackLimits_setFrames]; rfl
  · rw [State.stackBytes_setFrames]; rfl
  · refine ⟨?_, Nat.le_refl _, Nat.le_refl _, ?_, ?_, fun a c9 h9 => ⟨c9, h9, rfl, rfl, fun _ _ => rfl⟩⟩
    · obtain ⟨t, ht, -⟩ := State.frames_cons hr
      show T.setVm s.vm = { ((T.setVm s.vm).setFrames (.invoking m args :: below)).setFrames (T.setVm s.vm).frames with heap := T.heap, slotsUsed := T.slotsUsed }
      rw [State.setFrames_setFrames, State.setFrames_self ht]
      rfl
    · show T.slotsUsed = T.slotsUsed + ((T.heap.toList.drop T.heap.size).map (·.slots.size)).sum
      rw [List.drop_eq_nil_of_le (Nat.le_of_eq Array.length_toList)]
      rfl
    · show ((T.heap.toList.drop T.heap.size).map (·.slots.size)).sum ≤ 0
      rw [List.drop_eq_nil_of_le (Nat.le_of_eq Array.length_toList)]
      exact Nat.le_refl _
/-- 'throw new E()': new; dup; invokespecial; athrow -/
theorem vx_throw0 {cc : ByteArray} {pc : Nat} (hexec : p.tables.exec = Jvm.exec) (hb : c.code = cc) (hl : l.stackTraces = false) {own cls : String} {names : List String} {ik ic mc ms : Nat} {A : Nat → Prop}
    (hown : s.vm.findClass own = some m.cls) (hcls : Bundle.fit cls = true) (hnames : ∀ n ∈ names, Bundle.fit n = true)
    (hk : (Cond.classLink own ik cls).before args s = true) (hini : (Cond.initialized cls).before args s = true) (hat : ∀ w ∈ vx_at0 own ic cls names, w.before args s = true)
    (hgood : ∀ w ∈ Cond.classLink own ik cls :: Cond.initialized cls :: vx_at0 own ic cls names, vx_ot w = true)
    (hU : vx_Zq Bundle.tN "UNASSIGNED_STACK" Bundle.steD A s s.heap) (hN : vx_Zq Bundle.tN "SUPPRESSED_SENTINEL" Bundle.listD A s s.heap) (hS : va_S A s.heap H locs) (hsize : ls.size = c.maxLocals)
    (d0 : decode cc pc = .ok (.new ik, 3)) (d3 : decode cc (pc + 3) = .ok (.dup, 1)) (d4 : decode cc (pc + 4) = .ok (.invokespecial ic, 3)) (d7 : decode cc (pc + 7) = .ok (.athrow, 1))
    (hout : ∀ x ∈ c.exceptionTable.toList, covers x (pc + 7) = false)
    (hRframes : names.length + 3 < R.frames) (hRlocals : (rest.map fun v => v.category).sum + (13 * (names.length + 1) + 42) ≤ R.locals) (hRcells : cells + 1 ≤ R.cells) (hRslots : slots + 6 ≤ R.slots) (hlocks : meth.locks = false)
    (hx : ∀ t : State, s.vm.Alike t.vm → H.size ≤ t.heap.size → (∀ q : Nat, q < H.size → t.heap[q]? = H[q]?) → XC cls s t)
    (hf : ∀ z ∈ locs, free z.base) (hc : cells + 1 ≤ mc) (hs : slots + 6 ≤ ms) :
    W p l e R s m args below meth c H locs cells slots (vx_MQ below Qc XC args s mc ms free) (F0 m pc ls rest) := by
  intro T hT X
  have htr : e.platform.stackTraces = false := (show e.platform.stackTraces = l.stackTraces by rw [X.admits.platform]).trans hl
  have Y := vx_rebase X (R' := { frames := R.frames, locals := R.locals, cells := 1, slots := 6 }) (Nat.le_refl _) (Nat.le_refl _) hRcells hRslots
  obtain ⟨s', hA⟩ : ∃ z, z = (T.setVm s.vm).setFrames (.invoking m args :: below) := ⟨_, rfl⟩
  rw [← hA] at Y
  have hvm : s'.vm = s.vm := by rw [hA]; rfl
  have hhp : s'.heap = H := by rw [hA]; exact hT
  have hW0 : s.WarmedH s'.vm := by rw [hvm]; exact State.WarmedH.refl s
  have hat' : ∀ w ∈ vx_at0 own ic cls names, w.before args s' = true := fun w hw => vx_ot_at hW0 hvm.symm (hgood w (List.mem_cons_of_mem _ (List.mem_cons_of_mem _ hw))) (hat w hw)
  have hk' : (Cond.classLink own ik cls).before args s' = true := vx_ot_at hW0 hvm.symm (hgood _ List.mem_cons_self) hk
  have hini' : (Cond.initialized cls).before args s' = true := vx_ot_at hW0 hvm.symm (hgood _ (List.mem_cons_of_mem _ List.mem_cons_self)) hini
  have hU' : vx_Zq Bundle.tN "UNASSIGNED_STACK" Bundle.steD A s' s'.heap := by rw [hhp]; exact vx_Zq.moved hW0.alike (hU.kept hS.2.1)
  have hN' : vx_Zq Bundle.tN "SUPPRESSED_SENTINEL" Bundle.listD A s' s'.heap := by rw [hhp]; exact vx_Zq.moved hW0.alike (hN.kept hS.2.1)
  have h : ∀ w ∈ Bundle.ownAtoms0 own ic cls names, w.before args s' = true := vx_own hat' (vx_isRefq hU'.1) (vx_isRefq hN'.1) hU'.2.word hN'.2.word
  have hown' : s'.vm.findClass own = some m.cls := by rw [hvm]; exact hown
  have hins : (Cond.instantiable cls 6).before args s' = true := h _ (by simp [Bundle.ownAtoms0])
  obtain ⟨vm₁, cX, kX, hfX, hkX, -, -, X₁, st1⟩ := Y.newCold hexec (own := own) (C := cls) (index := ik) (n := 6) hown' hk' hins hini'
    (g := F0 m pc ls rest) rfl (by rw [hb]; exact d0) (Nat.le_refl _) (Nat.le_refl _)
  generalize hT1 : (T.setVm vm₁).pushCell { cls := cX, slots := kX.instanceTypes.map defaultValue, vm := .none } = T1 at X₁ st1
  have hcat : (Value.ref T.heap.size).category = 1 := rfl
  have hcellA : T1.heap[T.heap.size]? = some (freshCell cX kX) := by rw [← hT1]; exact State.heap_pushCell_size _ _
  have d3' : decode c.code (pc + 3) = .ok (.dup, 1) := by rw [hb]; exact d3
  obtain ⟨U, hsteps, hrun, hend, hW, hsame, ce, hce, hO⟩ := X₁.ctorThrow0 hexec htr (own := own) (cls := cls) (names := names) (ic := ic) hown' hcls hnames h (fun x hx => nomatch hx) hfX hkX hcellA (by rw [hhp, hT]; exact Nat.le_refl _)
    (g := { method := m, pc := pc + 4, locals := ls, stack := .ref T.heap.size :: .ref T.heap.size :: rest, locked := none }) rfl hsize rfl rfl (rest := rest) rfl
    (by rw [hb]; exact d4) (by rw [hb]; exact d7) hout hRframes (by simp only [List.map_cons, List.sum_cons, hcat]; omega) hlocks
  obtain ⟨f1, f2⟩ := vx_frame hsame
  rw [hhp] at f1 f2
  have hWs : s.WarmedH U.vm := State.WarmedH.trans hW0 hW
  have hcl : s.vm.findClass cls = some ce.cls := by
    have h9 := hO.cls
    rw [hvm] at h9
    exact h9
  have hall : s.sameButNew ({ U with vm := s.vm } : State) locs mc ms := by
    subst hA
    obtain ⟨e1, e2⟩ := hsame
    rw [State.setFrames_setFrames] at e1
    have h2 : (T.setVm s.vm).sameButNew ({ U with vm := s.vm } : State) [] (0 + 1) (0 + 6) := ⟨e1, e2⟩
    have h3 := X.same.trans h2
    rw [List.append_nil] at h3
    exact h3.mono hc hs
  refine ⟨U, ?_, .threw T.heap.size, hrun, hend, Or.inr ⟨T.heap.size, rfl, cls, ce, locs, hx U hWs.alike f1 (fun q hq => f2 q hq (fun z hz => nomatch hz)), hce, hO.vm, hcl, hWs, hall, hf⟩⟩
  refine st1 _ ?_
  show Steps p.tables e below (T1.setTop { method := m, pc := pc + 3, locals := ls, stack := .ref T.heap.size :: rest, locked := none }) _
  jvm_step X₁.here [X₁.here.top, hexec, d3', Value.category]
  exact hsteps
/-- 'throw new E("text")': new; dup; ldc; invokespecial; athrow -/
theorem vx_throwS {cc : ByteArray} {pc : Nat} (hexec : p.tables.exec = Jvm.exec) (hb : c.code = cc) (hl : l.stackTraces = false) {own cls text : String} {names : List String} {ik is ic mc ms sa : Nat} {A : Nat → Prop}
    (hown : s.vm.findClass own = some m.cls) (hcls : Bundle.fit cls = true) (hnames : ∀ n ∈ names, Bundle.fit n = true)
    (hk : (Cond.classLink own ik cls).before args s = true) (hini : (Cond.initialized cls).before args s = true) (hstr : vk_R own is text sa s) (hat : ∀ w ∈ vx_atS own ic cls names, w.before args s = true)
    (hgood : ∀ w ∈ Cond.classLink own ik cls :: Cond.initialized cls :: vx_atS own ic cls names, vx_ot w = true)
    (hU : vx_Zq Bundle.tN "UNASSIGNED_STACK" Bundle.steD A s s.heap) (hN : vx_Zq Bundle.tN "SUPPRESSED_SENTINEL" Bundle.listD A s s.heap) (hS : va_S A s.heap H locs) (hsize : ls.size = c.maxLocals)
    (d0 : decode cc pc = .ok (.new ik, 3)) (d3 : decode cc (pc + 3) = .ok (.dup, 1)) (d4 : decode cc (pc + 4) = .ok (.ldc is, 2)) (d6 : decode cc (pc + 6) = .ok (.invokespecial ic, 3)) (d9 : decode cc (pc + 9) = .ok (.athrow, 1))
    (hout : ∀ x ∈ c.exceptionTable.toList, covers x (pc + 9) = false)
    (hRframes : names.length + 3 < R.frames) (hRlocals : (rest.map fun v => v.category).sum + (13 * (names.length + 1) + 43) ≤ R.locals) (hRcells : cells + 1 ≤ R.cells) (hRslots : slots + 6 ≤ R.slots) (hlocks : meth.locks = false)
    (hx : ∀ t : State, s.vm.Alike t.vm → H.size ≤ t.heap.size → (∀ q : Nat, q < H.size → t.heap[q]? = H[q]?) → XC cls s t)
    (hf : ∀ z ∈ locs, free z.base) (hc : cells + 1 ≤ mc) (hs : slots + 6 ≤ ms) :
    W p l e R s m args below meth c H locs cells slots (vx_MQ below Qc XC args s mc ms free) (F0 m pc ls rest) := by
  intro T hT X
  have htr : e.platform.stackTraces = false := (show e.platform.stackTraces = l.stackTraces by rw [X.admits.platform]).trans hl
  have Y := vx_rebase X (R' := { frames := R.frames, locals := R.locals, cells := 1, slots := 6 }) (Nat.le_refl _) (Nat.le_refl _) hRcells hRslots
  obtain ⟨s', hA⟩ : ∃ z, z = (T.setVm s.vm).setFrames (.invoking m args :: below) := ⟨_, rfl⟩
  rw [← hA] at Y
  have hvm : s'.vm = s.vm := by rw [hA]; rfl
  have hhp : s'.heap = H := by rw [hA]; exact hT
  have hW0 : s.WarmedH s'.vm := by rw [hvm]; exact State.WarmedH.refl s
  have hat' : ∀ w ∈ vx_atS own ic cls names, w.before args s' = true := fun w hw => vx_ot_at hW0 hvm.symm (hgood w (List.mem_cons_of_mem _ (List.mem_cons_of_mem _ hw))) (hat w hw)
  have hk' : (Cond.classLink own ik cls).before args s' = true := vx_ot_at hW0 hvm.symm (hgood _ List.mem_cons_self) hk
  have hini' : (Cond.initialized cls).before args s' = true := vx_ot_at hW0 hvm.symm (hgood _ (List.mem_cons_of_mem _ List.mem_cons_self)) hini
  have hU' : vx_Zq Bundle.tN "UNASSIGNED_STACK" Bundle.steD A s' s'.heap := by rw [hhp]; exact vx_Zq.moved hW0.alike (hU.kept hS.2.1)
  have hN' : vx_Zq Bundle.tN "SUPPRESSED_SENTINEL" Bundle.listD A s' s'.heap := by rw [hhp]; exact vx_Zq.moved hW0.alike (hN.kept hS.2.1)
  have h : ∀ w ∈ Bundle.ownAtoms own ic cls names, w.before args s' = true := vx_own hat' (vx_isRefq hU'.1) (vx_isRefq hN'.1) hU'.2.word hN'.2.word
  have hown' : s'.vm.findClass own = some m.cls := by rw [hvm]; exact hown
  have hins : (Cond.instantiable cls 6).before args s' = true := h _ (by simp [Bundle.ownAtoms])
  obtain ⟨vm₁, cX, kX, hfX, hkX, -, -, X₁, st1⟩ := Y.newCold hexec (own := own) (C := cls) (index := ik) (n := 6) hown' hk' hins hini'
    (g := F0 m pc ls rest) rfl (by rw [hb]; exact d0) (Nat.le_refl _) (Nat.le_refl _)
  generalize hT1 : (T.setVm vm₁).pushCell { cls := cX, slots := kX.instanceTypes.map defaultValue, vm := .none } = T1 at X₁ st1
  have hcat : (Value.ref T.heap.size).category = 1 := rfl
  have hcellA : T1.heap[T.heap.size]? = some (freshCell cX kX) := by rw [← hT1]; exact State.heap_pushCell_size _ _
  have d3' : decode c.code (pc + 3) = .ok (.dup, 1) := by rw [hb]; exact d3
  have d4' : decode c.code (pc + 4) = .ok (.ldc is, 2) := by rw [hb]; exact d4
  have hstr' : vk_R own is text sa s' := vk_R.warm hW0 hstr
  obtain ⟨U, hsteps, hrun, hend, hW, hsame, ce, hce, hO⟩ := X₁.ctorThrowS hexec htr (own := own) (cls := cls) (names := names) (ic := ic) hown' hcls hnames h (fun x hx => nomatch hx) hfX hkX hcellA (by rw [hhp, hT]; exact Nat.le_refl _) (msg := .ref sa) rfl
    (g := { method := m, pc := pc + 6, locals := ls, stack := .ref sa :: .ref T.heap.size :: .ref T.heap.size :: rest, locked := none }) rfl hsize rfl rfl (rest := rest) rfl
    (by rw [hb]; exact d6) (by rw [hb]; exact d9) hout hRframes (by simp only [List.map_cons, List.sum_cons, hcat]; omega) hlocks
  obtain ⟨f1, f2⟩ := vx_frame hsame
  rw [hhp] at f1 f2
  have hWs : s.WarmedH U.vm := State.WarmedH.trans hW0 hW
  have hcl : s.vm.findClass cls = some ce.cls := by
    have h9 := hO.cls
    rw [hvm] at h9
    exact h9
  have hall : s.sameButNew ({ U with vm := s.vm } : State) locs mc ms := by
    subst hA
    obtain ⟨e1, e2⟩ := hsame
    rw [State.setFrames_setFrames] at e1
    have h2 : (T.setVm s.vm).sameButNew ({ U with vm := s.vm } : State) [] (0 + 1) (0 + 6) := ⟨e1, e2⟩
    have h3 := X.same.trans h2
    rw [List.append_nil] at h3
    exact h3.mono hc hs
  refine ⟨U, ?_, .threw T.heap.size, hrun, hend, Or.inr ⟨T.heap.size, rfl, cls, ce, locs, hx U hWs.alike f1 (fun q hq => f2 q hq (fun z hz => nomatch hz)), hce, hO.vm, hcl, hWs, hall, hf⟩⟩
  refine st1 _ ?_
  show Steps p.tables e below (T1.setTop { method := m, pc := pc + 3, locals := ls, stack := .ref T.heap.size :: rest, locked := none }) _
  jvm_step X₁.here [X₁.here.top, hexec, d3', Value.category]
  exact X₁.ldcString hexec (own := own) (text := text) (index := is) (a := sa) hown' hstr'.1 hstr'.2
    (g := { method := m, pc := pc + 4, locals := ls, stack := .ref T.heap.size :: .ref T.heap.size :: rest, locked := none }) rfl d4' _ hsteps
/-- 'throw new E("text")', the text by a wide index -/
theorem vx_throwSW {cc : ByteArray} {pc : Nat} (hexec : p.tables.exec = Jvm.exec) (hb : c.code = cc) (hl : l.stackTraces = false) {own cls text : String} {names : List String} {ik is ic mc ms sa : Nat} {A : Nat → Prop}
    (hown : s.vm.findClass own = some m.cls) (hcls : Bundle.fit cls = true) (hnames : ∀ n ∈ names, Bundle.fit n = true)
    (hk : (Cond.classLink own ik cls).before args s = true) (hini : (Cond.initialized cls).before args s = true) (hstr : vk_R own is text sa s) (hat : ∀ w ∈ vx_atS own ic cls names, w.before args s = true)
    (hgood : ∀ w ∈ Cond.classLink own ik cls :: Cond.initialized cls :: vx_atS own ic cls names, vx_ot w = true)
    (hU : vx_Zq Bundle.tN "UNASSIGNED_STACK" Bundle.steD A s s.heap) (hN : vx_Zq Bundle.tN "SUPPRESSED_SENTINEL" Bundle.listD A s s.heap) (hS : va_S A s.heap H locs) (hsize : ls.size = c.maxLocals)
    (d0 : decode cc pc = .ok (.new ik, 3)) (d3 : decode cc (pc + 3) = .ok (.dup, 1)) (d4 : decode cc (pc + 4) = .ok (.ldc_w is, 3)) (d7 : decode cc (pc + 7) = .ok (.invokespecial ic, 3)) (d10 : decode cc (pc + 10) = .ok (.athrow, 1))
    (hout : ∀ x ∈ c.exceptionTable.toList, covers x (pc + 10) = false)
    (hRframes : names.length + 3 < R.frames) (hRlocals : (rest.map fun v => v.category).sum + (13 * (names.length + 1) + 43) ≤ R.locals) (hRcells : cells + 1 ≤ R.cells) (hRslots : slots + 6 ≤ R.slots) (hlocks : meth.locks = false)
    (hx : ∀ t : State, s.vm.Alike t.vm → H.size ≤ t.heap.size → (∀ q : Nat, q < H.size → t.heap[q]? = H[q]?) → XC cls s t)
    (hf : ∀ z ∈ locs, free z.base) (hc : cells + 1 ≤ mc) (hs : slots + 6 ≤ ms) :
    W p l e R s m args below meth c H locs cells slots (vx_MQ below Qc XC args s mc ms free) (F0 m pc ls rest) := by
  intro T hT X
  have htr : e.platform.stackTraces = false := (show e.platform.stackTraces = l.stackTraces by rw [X.admits.platform]).trans hl
  have Y := vx_rebase X (R' := { frames := R.frames, locals := R.locals, cells := 1, slots := 6 }) (Nat.le_refl _) (Nat.le_refl _) hRcells hRslots
  obtain ⟨s', hA⟩ : ∃ z, z = (T.setVm s.vm).setFrames (.invoking m args :: below) := ⟨_, rfl⟩
  rw [← hA] at Y
  have hvm : s'.vm = s.vm := by rw [hA]; rfl
  have hhp : s'.heap = H := by rw [hA]; exact hT
  have hW0 : s.WarmedH s'.vm := by rw [hvm]; exact State.WarmedH.refl s
  have hat' : ∀ w ∈ vx_atS own ic cls names, w.before args s' = true := fun w hw => vx_ot_at hW0 hvm.symm (hgood w (List.mem_cons_of_mem _ (List.mem_cons_of_mem _ hw))) (hat w hw)
  have hk' : (Cond.classLink own ik cls).before args s' = true := vx_ot_at hW0 hvm.symm (hgood _ List.mem_cons_self) hk
  have hini' : (Cond.initialized cls).before args s' = true := vx_ot_at hW0 hvm.symm (hgood _ (List.mem_cons_of_mem _ List.mem_cons_self)) hini
  have hU' : vx_Zq Bundle.tN "UNASSIGNED_STACK" Bundle.steD A s' s'.heap := by rw [hhp]; exact vx_Zq.moved hW0.alike (hU.kept hS.2.1)
  have hN' : vx_Zq Bundle.tN "SUPPRESSED_SENTINEL" Bundle.listD A s' s'.heap := by rw [hhp]; exact vx_Zq.moved hW0.alike (hN.kept hS.2.1)
  have h : ∀ w ∈ Bundle.ownAtoms own ic cls names, w.before args s' = true := vx_own hat' (vx_isRefq hU'.1) (vx_isRefq hN'.1) hU'.2.word hN'.2.word
  have hown' : s'.vm.findClass own = some m.cls := by rw [hvm]; exact hown
  have hins : (Cond.instantiable cls 6).before args s' = true := h _ (by simp [Bundle.ownAtoms])
  obtain ⟨vm₁, cX, kX, hfX, hkX, -, -, X₁, st1⟩ := Y.newCold hexec (own := own) (C := cls) (index := ik) (n := 6) hown' hk' hins hini'
    (g := F0 m pc ls rest) rfl (by rw [hb]; exact d0) (Nat.le_refl _) (Nat.le_refl _)
  generalize hT1 : (T.setVm vm₁).pushCell { cls := cX, slots := kX.instanceTypes.map defaultValue, vm := .none } = T1 at X₁ st1
  have hcat : (Value.ref T.heap.size).category = 1 := rfl
  have hcellA : T1.heap[T.heap.size]? = some (freshCell cX kX) := by rw [← hT1]; exact State.heap_pushCell_size _ _
  have d3' : decode c.code (pc + 3) = .ok (.dup, 1) := by rw [hb]; exact d3
  have d4' : decode c.code (pc + 4) = .ok (.ldc_w is, 3) := by rw [hb]; exact d4
  have hstr' : vk_R own is text sa s' := vk_R.warm hW0 hstr
  obtain ⟨U, hsteps, hrun, hend, hW, hsame, ce, hce, hO⟩ := X₁.ctorThrowS hexec htr (own := own) (cls := cls) (names := names) (ic := ic) hown' hcls hnames h (fun x hx => nomatch hx) hfX hkX hcellA (by rw [hhp, hT]; exact Nat.le_refl _) (msg := .ref sa) rfl
    (g := { method := m, pc := pc + 7, locals := ls, stack := .ref sa :: .ref T.heap.size :: .ref T.heap.size :: rest, locked := none }) rfl hsize rfl rfl (rest := rest) rfl
    (by rw [hb]; exact d7) (by rw [hb]; exact d10) hout hRframes (by simp only [List.map_cons, List.sum_cons, hcat]; omega) hlocks
  obtain ⟨f1, f2⟩ := vx_frame hsame
  rw [hhp] at f1 f2
  have hWs : s.WarmedH U.vm := State.WarmedH.trans hW0 hW
  have hcl : s.vm.findClass cls = some ce.cls := by
    have h9 := hO.cls
    rw [hvm] at h9
    exact h9
  have hall : s.sameButNew ({ U with vm := s.vm } : State) locs mc ms := by
    subst hA
    obtain ⟨e1, e2⟩ := hsame
    rw [State.setFrames_setFrames] at e1
    have h2 : (T.setVm s.vm).sameButNew ({ U with vm := s.vm } : State) [] (0 + 1) (0 + 6) := ⟨e1, e2⟩
    have h3 := X.same.trans h2
    rw [List.append_nil] at h3
    exact h3.mono hc hs
  refine ⟨U, ?_, .threw T.heap.size, hrun, hend, Or.inr ⟨T.heap.size, rfl, cls, ce, locs, hx U hWs.alike f1 (fun q hq => f2 q hq (fun z hz => nomatch hz)), hce, hO.vm, hcl, hWs, hall, hf⟩⟩
  refine st1 _ ?_
  show Steps p.tables e below (T1.setTop { method := m, pc := pc + 3, locals := ls, stack := .ref T.heap.size :: rest, locked := none }) _
  jvm_step X₁.here [X₁.here.top, hexec, d3', Value.category]
  exact X₁.ldcStringW hexec (own := own) (text := text) (index := is) (a := sa) hown' hstr'.1 hstr'.2
    (g := { method := m, pc := pc + 4, locals := ls, stack := .ref T.heap.size :: .ref T.heap.size :: rest, locked := none }) rfl d4' _ hsteps
end Ends
section Bodies
variable {l : Launch}
theorem vx_ofW {y : MethodName} {ws ws' : List Cond} {rm : Room} {Pc : Array Value → State → Prop} {Qc : Array Value → State → Outcome → State → Prop} {XC : String → State → State → Prop} {mc ms : Nat} {free : Addr → Prop} {cc : ByteArray} {maxL : Nat} {ret : Option FieldType}
    (hy : plainName y.cls = true) (hw : ws = Cond.code y cc maxL ret :: ws')
    (body : ∀ p e s m args below meth c s₁, BodyLoose p l y (headSpec ws rm) cc maxL ret e s m args below meth c s₁ → c.maxLocals = maxL → (∀ x ∈ c.exceptionTable.toList, False) → Pc args s →
      W p l e (headSpec ws rm).room s m args below meth c s.heap [] 0 0 (vx_MQ below Qc XC args s mc ms free) (entryFrame m args maxL)) : vx_Met l y ws rm Pc Qc XC mc ms free := by
  refine MetFree.of_bodyS (code := cc) (maxLocals := maxL) (ret := ret) hy ?_ ?_
  · intro args s m h hn
    obtain ⟨meth, c, h1, h2, h3, h4, h5, h6, -, -⟩ := Cond.code_spec hn (atoms_spec (ws := ws) h _ (by rw [hw]; exact List.mem_cons_self))
    exact ⟨meth, c, h1, h2, h3, h4, h5, h6⟩
  · intro p e s m args below meth c s₁ B hml hP _
    have hh0 : s₁.heap = s.heap := by rw [B.state]; rfl
    have ht : ∀ x ∈ c.exceptionTable.toList, False := by
      obtain ⟨meth9, c9, h1, h2, -, -, -, -, h7, -⟩ := Cond.code_spec B.named (atoms_spec (ws := ws) B.pre _ (by rw [hw]; exact List.mem_cons_self))
      cases Option.some.inj (h1.symm.trans B.method)
      cases Option.some.inj (h2.symm.trans (Stand.of_body B).code)
      intro x hx
      rw [Array.isEmpty_iff.mp h7] at hx
      cases hx
    obtain ⟨t, a1, o, b1, b2, b3⟩ := body p e s m args below meth c s₁ B hml ht hP s₁ hh0 (Stand.of_body B)
    exact ⟨t, o, a1, b1, b2, b3⟩
/-- the table of a body with handlers -/
theorem vx_table {p : Program} {x y : MethodName} {S : Spec} {cc bytes : ByteArray} {maxL maxL' : Nat} {ret ret' : Option FieldType} {e : Env} {s s₁ : State} {m : MethodId} {args : Array Value} {below : List Frame} {meth : Method} {c : Code} {hh : List (Nat × Nat × Nat × Nat)}
    (B : BodyLoose p l y S cc maxL ret e s m args below meth c s₁) (h : (Cond.codeWith y bytes maxL' ret' hh).before args s = true) : c.exceptionTable.toList = tableOf hh := by
  obtain ⟨m9, meth9, c9, hn9, h1, h2, -, -, h6, -⟩ := Cond.codeWith_spec h
  cases Option.some.inj (hn9.symm.trans B.named)
  cases Option.some.inj (h1.symm.trans B.method)
  cases Option.some.inj (h2.symm.trans (Stand.of_body B).code)
  rw [← h6, table_eq]
end Bodies
end VXA
/-! ===== END ===== -/
/-! ===== BEGIN a static call of a method with an exception table ===== -/
section VXS
variable {p : Program} {l : Launch} {e : Env} {R : Room} {s : State} {m : MethodId} {args : Array Value} {below : List Frame} {meth : Method} {c : Code} {T : State} {H : Heap} {locs : List Loc} {cells slots : Nat}
abbrev vx_CSW (R : Room) (s : State) (args : Array Value) (own : String) (index : Nat) (y : MethodName) (bytes : ByteArray) (maxL : Nat) (ret : Option FieldType) (hh : List (Nat × Nat × Nat × Nat)) (ws : List Cond) (rm : Room) (mc ms n : Nat) : Prop :=
  (rm.cells = mc ∧ rm.slots = ms ∧ rm.frames + 1 ≤ R.frames ∧ 8 + (maxL + 11) + rm.locals ≤ R.locals ∧ (∀ w ∈ ws, ∀ (a' : Array Value) (U : State), s.WarmedH U.vm → w.before a' U = true) ∧ Cond.codeWith y bytes maxL ret hh ∈ ws) ∧
  (Cond.codeWith y bytes maxL ret hh).before args s = true ∧ (Cond.initialized y.cls).before args s = true ∧ (y.cls ≠ "java/lang/invoke/MethodHandle" ∧ y.cls ≠ "java/lang/invoke/VarHandle") ∧
  (∀ sig, parseMethodDescriptor y.desc = some sig → n = sig.parameters.length) ∧ (Cond.methodLink own index y).before args s = true ∧ (Cond.static y).before args s = true
theorem vx_cwSW {own : String} {index maxL mc ms : Nat} {y : MethodName} {bytes : ByteArray} {ret : Option FieldType} {hh : List (Nat × Nat × Nat × Nat)} {Ts ws ws' : List Cond} {rm : Room} (n : Nat) (ht : ∀ w ∈ Ts, w.before args s = true) (hT : GoodIn Ts (va_wsS own index y ws)) (hw : ws = Cond.codeWith y bytes maxL ret hh :: ws') (hrc : rm.cells = mc) (hrs : rm.slots = ms)
    (hd : y.cls ≠ "java/lang/invoke/MethodHandle" ∧ y.cls ≠ "java/lang/invoke/VarHandle" ∧ (parseMethodDescriptor y.desc).map (fun d => d.parameters.length) = some n) (hR : rm.frames + 1 ≤ R.frames ∧ 8 + (maxL + 11) + rm.locals ≤ R.locals) :
    vx_CSW R s args own index y bytes maxL ret hh ws rm mc ms n := by
  have ok : ∀ w ∈ va_wsS own index y ws, w.before args s = true := fun w h => ht w (hT w h).1
  have hG : GoodIn Ts ws := fun w h => hT w (by unfold va_wsS; exact List.mem_append_right _ h)
  have hc : Cond.codeWith y bytes maxL ret hh ∈ ws := by rw [hw]; exact List.mem_cons_self
  refine ⟨⟨hrc, hrs, hR.1, hR.2, pay_in ht hG, hc⟩, ht _ (hG _ hc).1, ok _ (by simp [va_wsS]), ⟨hd.1, hd.2.1⟩, fun sig h => ?_, ok _ (by simp [va_wsS]), ok _ (by simp [va_wsS])⟩
  have h2 := hd.2.2
  rw [h] at h2
  exact (Option.some.inj h2).symm
theorem vx_callSW (X : Stand p l e R s m args below meth c T locs cells slots) (hexec : p.tables.exec = Jvm.exec) {own : String} {index : Nat} {y : MethodName} {bytes : ByteArray} {maxL : Nat} {ret : Option FieldType} {hh : List (Nat × Nat × Nat × Nat)}
    (hown : s.vm.findClass own = some m.cls) (hlink : (Cond.methodLink own index y).before args s = true) (hstat : (Cond.static y).before args s = true) (hinit : (Cond.initialized y.cls).before args s = true)
    (hcode : (Cond.codeWith y bytes maxL ret hh).before args s = true) (hy : y.cls ≠ "java/lang/invoke/MethodHandle" ∧ y.cls ≠ "java/lang/invoke/VarHandle")
    {W9 : Nat} {Pre : Pt → Array Value → Prop} {Post : Pt → Array Value → Option Value → Pt → Prop} (hK : Back l R p e below s args y 3 W9 Pre Post)
    {g : JFrame} (hg : g.method = m) (hsize : g.locals.size = c.maxLocals) {argsL rest : List Value} (hlen : ∀ sig, parseMethodDescriptor y.desc = some sig → argsL.length = sig.parameters.length)
    (hstack : g.stack = argsL.reverse ++ rest) (hW : 2 * g.monitorRoom + (rest.map fun v => v.category).sum ≤ W9) (hdg : decode c.code g.pc = .ok (.invokestatic index, 3))
    (hpre : ∀ vm₁, s.WarmedH vm₁ → Pre ⟨T.setVm vm₁, locs, cells, slots⟩ argsL.toArray) :
    ∃ (v : Option Value) (vm₁ : Vm) (B : Pt), s.WarmedH vm₁ ∧ Stand p l e R s m args below meth c B.U B.locs B.cells B.slots ∧ Post ⟨T.setVm vm₁, locs, cells, slots⟩ argsL.toArray v B ∧
      ∀ target, Steps p.tables e below (B.U.setTop { g with pc := g.pc + 3, stack := v.toList ++ rest }) target → Steps p.tables e below (T.setTop g) target := by
  obtain ⟨mk, methM, cM, hnamed, hmethM, -, -, -, -, -, -, hsigM⟩ := Cond.codeWith_spec hcode
  have hstatic : methM.isStatic = true := Cond.static_spec hnamed hmethM hstat
  obtain ⟨kP, hkP, -⟩ := className_of_methodNamed hnamed
  have hinitP : kP.init = .initialized := Cond.initialized_spec (findClass_of_methodNamed hnamed) hkP hinit
  obtain ⟨vm₁, X₁, hstep₁⟩ := X.invokestatic hexec hown hlink hnamed hmethM hstatic hkP hinitP hy (g := g) hg (argsL := argsL) (rest := rest) (hlen _ hsigM) hstack hdg
  obtain ⟨v, B, X', hpost, hsteps⟩ := hK m meth c ⟨T.setVm vm₁, locs, cells, slots⟩ { g with stack := rest } (.invokestatic index) mk argsL.toArray X₁ hg hsize hdg hW (X₁.named hnamed) (hpre vm₁ X₁.warmed)
  exact ⟨v, vm₁, B, X₁.warmed, X', hpost, fun target h => hstep₁ _ fun acts => by rw [doInvoke_state]; exact hsteps.trans h⟩
theorem vx_runSW {y : MethodName} {bytes cc : ByteArray} {maxL nL mc ms n index : Nat} {ret : Option FieldType} {hh : List (Nat × Nat × Nat × Nat)} {ws : List Cond} {rm : Room} {Pc : Array Value → State → Prop} {Qc : Array Value → State → Outcome → State → Prop} {free : Addr → Prop} {Ts : List Cond} {own : String} {As rest : List Value} {g : JFrame}
    (S : CallFix p m c cc nL s args Ts own) (hM : Met l y ws rm Pc Qc mc ms free) (cw : vx_CSW R s args own index y bytes maxL ret hh ws rm mc ms n) (hp : PreS s H Pc As)
    (hg : g.method = m) (hn : As.length = n) (hsize : g.locals.size = nL) (hstack : g.stack = As.reverse ++ rest) (hW : 2 * g.monitorRoom + (rest.map fun v => v.category).sum ≤ 8) (hdg : decode cc g.pc = .ok (.invokestatic index, 3)) (hf : cells + mc ≤ R.cells ∧ slots + ms ≤ R.slots) :
    va_Run p l e R s m args below meth c H locs cells slots mc ms g rest (Qc As.toArray) (free) := by
  obtain ⟨⟨hrc, hrs, hfr, hlo, hws, hcw⟩, hcode, hini, hy, hlen, hl, hstt⟩ := cw
  have hK : Back l R p e below s args y 3 8 (PreOf R mc ms Pc) (PostOf Qc mc ms free) := va_backW (hh := hh) (bytes := bytes) (maxL := maxL) (ret := ret) hM hp.1 hrc hrs hfr hlo hws hcw (fun a' U hW => word_at hW (Or.inl (by first | rfl | simp [Cond.onTables, Cond.keeps, Cond.steady])) hini)
  obtain ⟨hx, hb, hml, ho, -⟩ := S
  intro T hT X
  obtain ⟨v, vm₁, ⟨U', l2, c2, s2⟩, hW₁, X', ⟨g', mk, t, L, e1, e2, hq, h1, hL, h2, h3⟩, st⟩ := vx_callSW X hx (hh := hh) (bytes := bytes) (maxL := maxL) (ret := ret) ho hl hstt hini hcode hy hK hg (hsize.trans hml.symm) (argsL := As) (rest := rest) (fun sig h => hn.trans (hlen sig h)) hstack hW (by rw [hb]; exact hdg)
    (fun vm₁ hW₁ => ⟨hf.1, hf.2, hp.2 (T.setVm vm₁) hT hW₁⟩)
  dsimp only [Pt.U, Pt.locs, Pt.cells, Pt.slots] at X' e1 e2 h1 h2 h3 st
  subst h1; subst h2; subst h3
  exact ⟨v, (T.setVm vm₁).calling g' mk As.toArray, t, U', L, hT, X', hL, e1, e2, hq, st⟩
/-- not caught here, past rows that name other classes: it goes on to the caller -/
theorem vx_outP {p : Program} {l : Launch} {e : Env} {R : Room} {s : State} {m : MethodId} {args : Array Value} {below : List Frame} {meth : Method} {c : Code} {H : Heap} {locs : List Loc} {cells slots : Nat} {free : Addr → Prop} {ls : Array Slot} {rest : List Value} {Qc : Array Value → State → Outcome → State → Prop} {XC : String → State → State → Prop}
    {pc : Nat} {own E : String} {ce : Cell} {q : Addr} {mc ms : Nat} (hown : s.vm.findClass own = some m.cls) (hlocks : meth.locks = false)
    (hpass : ∀ z ∈ c.exceptionTable.toList, covers z pc = false ∨ (z.catchType ≠ 0 ∧ ∃ nm : String, (Cond.classLink own z.catchType nm).before args s = true ∧ va_Nc E nm s)) (hcell : H[q]? = some ce) (hv : ce.vm = .none) (hcl : s.vm.findClass E = some ce.cls)
    (hx : ∀ t : State, t.heap = H → s.vm.Alike t.vm → XC E s t) (hf : ∀ z ∈ locs, free z.base) (hc : cells ≤ mc) (hs : slots ≤ ms) :
    vx_W p l e R s m args below meth c H locs cells slots (vx_MQ below Qc XC args s mc ms free) (F0 m pc ls rest) q := by
  intro T hT X
  have hpl : e.platform.magicAccessors = ({} : Platform).magicAccessors := by rw [X.admits.platform]
  obtain ⟨vm', hW', X', st⟩ := X.outThrough hlocks q (g := F0 m pc ls rest) rfl rfl rfl (cell := ce) (by rw [hT]; exact hcell) (by rw [hv]; rfl)
    (by obtain ⟨k9, h9, -⟩ := Vm.findClass_spec hcl; exact ⟨k9, h9⟩) (fun z hz => by
      rcases hpass z hz with h | ⟨hz0, nm, hl1, hn1⟩
      · exact Or.inl h
      · obtain ⟨c6, hc6, hcl6⟩ := Cond.classLink_spec hown hl1 e.platform hpl
        obtain ⟨a8, b8, h1, h2, h3⟩ := hn1
        cases Option.some.inj (h1.symm.trans hcl)
        cases Option.some.inj (h2.symm.trans hc6)
        exact Or.inr ⟨hz0, _, hcl6, h3⟩)
  obtain ⟨g₀, hfr⟩ := X'.frames_eq
  have hcell9 : ((T.setVm vm').setFrames (.throwing q :: below)).heap[q]? = some ce := by
    show T.heap[q]? = some ce
    rw [hT]; exact hcell
  have hend : Ended ((T.setVm vm').setFrames (.throwing q :: below)) below (.threw q) := State.frames_setFrames _ (State.cur_lt_of_frames hfr)
  refine ⟨(T.setVm vm').setFrames (.throwing q :: below), ?_, .threw q, X'.here.running, hend, Or.inr ⟨q, rfl, E, ce, locs, hx _ hT (X'.ends _).1.alike, hcell9, hv, hcl, (X'.ends _).1, (X'.ends _).2.mono hc hs, hf⟩⟩
  rw [X.pushThrowing_eq]
  exact st
/-- a thing of a world lies in the heap -/
theorem vx_lt {D : va_G} {cl : List vw_C} {ws : va_W} {H1 : Heap} (h : va_P D cl ws H1) {k : Nat} {q : Nat × va_E} (hk : ws[k]? = some q) : q.1 < H1.size := (h k q hk).lt
end VXS
/-! ===== END ===== -/
/-! ===== BEGIN methods with a table of their own: called by a name, returning or throwing ===== -/
section VXH
/-! vx_backW, vx_callVX, vx_callSX, vx_callVW, vx_runVW, vx_runVX, vx_runSX, vx_ofWH follow the same proofs as their sisters above (Free/Laws.lean, Shelf42/LK1.lean); vx_outP calls Shelf42/NT130.lean (outThrough). -/
section
variable {l : Launch} {R : Room} {p : Program} {e : Env} {below : List Frame} {s : State} {sargs : Array Value} {y : MethodName} {len W9 : Nat}
theorem vx_backW {ws : List Cond} {rm : Room} {Pc : Array Value → State → Prop} {Qc : Array Value → State → Outcome → State → Prop} {XC : String → State → State → Prop} {mc ms : Nat} {free : Addr → Prop} {bytes : ByteArray} {maxL : Nat} {ret : Option FieldType} {hh : List (Nat × Nat × Nat × Nat)}
    (hM : vx_Met l y ws rm Pc Qc XC mc ms free) (hblind : FrameBlind Pc) (hrc : rm.cells = mc) (hrs : rm.slots = ms)
    (hframes : rm.frames + 1 ≤ R.frames) (hlocals : W9 + (maxL + 11) + rm.locals ≤ R.locals)
    (hws : ∀ w ∈ ws, ∀ a' U, s.WarmedH U.vm → w.before a' U = true) (hcode : Cond.codeWith y bytes maxL ret hh ∈ ws) (hinit : ∀ a' U, s.WarmedH U.vm → (Cond.initialized y.cls).before a' U = true) :
    vx_Back l R p e below s sargs y len W9 (PreOf R mc ms Pc) (PostOf Qc mc ms free) (vx_Post XC mc ms free) := by
  intro m meth c A g ig mk a X hg hsize hdg hW hn hp
  have h1 : (headSpec ws rm).pre.before a A.U = true := atoms_intro fun w hw => hws w hw _ _ X.warmed
  have h2 : (Cond.codeWith y bytes maxL ret hh).before a A.U = true := hws _ hcode _ _ X.warmed
  have h3 : (Cond.initialized y.cls).before a A.U = true := hinit _ _ X.warmed
  have h4 : A.cells + (headSpec ws rm).room.cells ≤ R.cells := by rw [show (headSpec ws rm).room.cells = mc from hrc]; exact hp.1
  have h5 : A.slots + (headSpec ws rm).room.slots ≤ R.slots := by rw [show (headSpec ws rm).room.slots = ms from hrs]; exact hp.2.1
  have hPc : Pc a (A.U.calling g mk a) := hblind _ _ _ _ hp.2.2
  obtain ⟨U, Ls, c0, s0⟩ := A
  dsimp only [Pt.U, Pt.locs, Pt.cells, Pt.slots] at h1 h2 h3 h4 h5 X hn hPc ⊢
  obtain ⟨m9, methY, cY, hn9, hmY, hcY, -, hlY, -⟩ := Cond.codeWith_spec h2
  cases Option.some.inj (hn9.symm.trans hn)
  obtain ⟨kY, hkY, -⟩ := className_of_methodNamed hn
  have hinitY : kY.init = .initialized := Cond.initialized_spec (findClass_of_methodNamed hn) hkY h3
  have h : At U g.method c below := by rw [hg]; exact X.here
  have hlocals9 : W9 + (maxL + 11) + (headSpec ws rm).room.locals ≤ R.locals := hlocals
  have happ : (headSpec ws rm).appliesLoose y e.platform (U.calling g mk a) = true :=
    Spec.appliesLoose_calling (g := g) h hdg hn hkY hinitY
      (X.room_calling (g := g) (R' := (headSpec ws rm).room) hsize hmY hcY hframes (by rw [hlY]; omega) h4 h5) h1
  obtain ⟨mid, hmid⟩ := h.above
  have hfr : (U.setTop g).frames = (.java g :: mid) ++ below := by rw [State.frames_setTop' g h.top, hmid]; rfl
  obtain ⟨o, s₂, hsteps, -, hend, hq⟩ := Steps.callFree hM p X.admits X.cas X.clock (acts := []) hfr happ hPc trivial
  have hq' : vx_Q Qc XC mc ms free a (U.calling g mk a) o s₂ := hq
  rw [State.frames_setTop' g h.top] at hend
  obtain ⟨g₀, hg0⟩ := Option.isSome_iff_exists.mp h.top
  obtain ⟨r, hr⟩ := State.topJava?_eq_some.mp hg0
  have hr' : (({ U with heap := s₂.heap, slotsUsed := s₂.slotsUsed } : State).setVm s₂.vm).frames = .java g₀ :: r := hr
  rcases hq' with ⟨hqc, L, hfe, hL⟩ | ⟨q, rfl, E, ce, L, hx, hce, hcv, hcl, hW₂, hsm, hL⟩
  · obtain ⟨⟨v, rfl⟩, hW₂, e2, q2, q3, q4, q5, q6⟩ := id hfe
    have e3 : s₂ = ({ (U.calling g mk a).setFrames s₂.frames with heap := s₂.heap, slotsUsed := s₂.slotsUsed } : State).setVm s₂.vm := by
      have : s₂ = ({ s₂ with vm := (U.calling g mk a).vm } : State).setVm s₂.vm := rfl
      rw [e2] at this
      exact this
    obtain ⟨c₂, i₂, len₂, hc₂, hd₂, hf₂⟩ := hend
    have hW' : U.WarmedH s₂.vm := hW₂
    have hcc : c₂ = c := by
      have h1 : s₂.code? g.method = U.code? g.method := by
        rw [State.code?_eq, State.code?_eq, hW'.alike.method?]
      exact Option.some.inj (hc₂.symm.trans (h1.trans h.code))
    subst hcc
    have hlen : len₂ = len := by rw [hdg] at hd₂; cases hd₂; rfl
    subst hlen
    have hs₂ : s₂ = (({ U with heap := s₂.heap, slotsUsed := s₂.slotsUsed } : State).setVm s₂.vm).setTop { g with pc := g.pc + len₂, stack := v.toList ++ g.stack } := by
      refine e3.trans ?_
      rw [hf₂, State.calling_eq h.top, State.setFrames_setFrames, State.setTop_of_frames _ hr', hr]
      rfl
    have hsame : U.sameButNew ({ U with heap := s₂.heap, slotsUsed := s₂.slotsUsed } : State) L mc ms := by
      refine ⟨?_, q2, q3, q4, q5, q6⟩
      obtain ⟨t, ht, -⟩ := State.frames_cons hr
      show ({ U with heap := s₂.heap, slotsUsed := s₂.slotsUsed } : State) = { U.setFrames U.frames with heap := s₂.heap, slotsUsed := s₂.slotsUsed }
      rw [State.setFrames_self ht]
    subst hg
    refine Or.inl ⟨v, ⟨(({ U with heap := s₂.heap, slotsUsed := s₂.slotsUsed } : State).setVm s₂.vm), Ls ++ L, c0 + mc, s0 + ms⟩,
      ⟨X.admits, X.cas, X.clock, X.frames, X.room, X.hears, X.method, X.code, (X.here.setHeapUsed s₂.heap s₂.slotsUsed).setVm hW'.alike, X.tail, State.WarmedH.trans X.warmed hW', X.limits, X.bytes, X.same.trans (hsame.setVm s.vm)⟩,
      ⟨g, mk, s₂, L, rfl, rfl, hqc, rfl, hL, rfl, rfl⟩, ?_⟩
    show Steps p.tables e below _ ((({ U with heap := s₂.heap, slotsUsed := s₂.slotsUsed } : State).setVm s₂.vm).setTop { g with pc := g.pc + len₂, stack := v.toList ++ g.stack })
    rw [← hs₂]
    exact hsteps
  · obtain ⟨e2, q2, q3, q4, q5, q6⟩ := id hsm
    have e3 : s₂ = ({ (U.calling g mk a).setFrames s₂.frames with heap := s₂.heap, slotsUsed := s₂.slotsUsed } : State).setVm s₂.vm := by
      have : s₂ = ({ s₂ with vm := (U.calling g mk a).vm } : State).setVm s₂.vm := rfl
      rw [e2] at this
      exact this
    have hf₂ : s₂.frames = .throwing q :: .java g :: U.frames.tail := hend
    have hW' : U.WarmedH s₂.vm := hW₂
    have hs₂ : s₂ = ((({ U with heap := s₂.heap, slotsUsed := s₂.slotsUsed } : State).setVm s₂.vm).setTop g).pushFrame (.throwing q) := by
      refine e3.trans ?_
      rw [hf₂, State.calling_eq h.top, State.setFrames_setFrames, State.pushFrame, State.frames_setTop _ hr', State.setTop_of_frames _ hr', State.setFrames_setFrames, hr]
      rfl
    have hsame : U.sameButNew ({ U with heap := s₂.heap, slotsUsed := s₂.slotsUsed } : State) L mc ms := by
      refine ⟨?_, q2, q3, q4, q5, q6⟩
      obtain ⟨t, ht, -⟩ := State.frames_cons hr
      show ({ U with heap := s₂.heap, slotsUsed := s₂.slotsUsed } : State) = { U.setFrames U.frames with heap := s₂.heap, slotsUsed := s₂.slotsUsed }
      rw [State.setFrames_self ht]
    subst hg
    refine Or.inr ⟨q, ⟨(({ U with heap := s₂.heap, slotsUsed := s₂.slotsUsed } : State).setVm s₂.vm), Ls ++ L, c0 + mc, s0 + ms⟩,
      ⟨X.admits, X.cas, X.clock, X.frames, X.room, X.hears, X.method, X.code, (X.here.setHeapUsed s₂.heap s₂.slotsUsed).setVm hW'.alike, X.tail, State.WarmedH.trans X.warmed hW', X.limits, X.bytes, X.same.trans (hsame.setVm s.vm)⟩,
      ⟨g, mk, s₂, L, E, ce, rfl, rfl, hx, hce, hcv, hcl, rfl, hL, rfl, rfl⟩, ?_⟩
    show Steps p.tables e below _ (((({ U with heap := s₂.heap, slotsUsed := s₂.slotsUsed } : State).setVm s₂.vm).setTop g).pushFrame (.throwing q))
    rw [← hs₂]
    exact hsteps
end
variable {p : Program} {l : Launch} {e : Env} {R : Room} {s : State} {m : MethodId} {args : Array Value} {below : List Frame} {meth : Method} {c : Code} {T : State} {H : Heap} {locs : List Loc} {cells slots : Nat}
theorem vx_callVX (X : Stand p l e R s m args below meth c T locs cells slots) (hexec : p.tables.exec = Jvm.exec) {own C : String} {index : Nat} {y : MethodName} {bytes : ByteArray} {maxL : Nat} {ret : Option FieldType} {hh : List (Nat × Nat × Nat × Nat)}
    (hown : s.vm.findClass own = some m.cls) (hlink : (Cond.methodLink own index y).before args s = true) (hinst : (Cond.instanceMethod y).before args s = true) (hsel : (Cond.selects C y y).before args s = true)
    (hcode : (Cond.codeWith y bytes maxL ret hh).before args s = true) (hy : y.cls ≠ "java/lang/invoke/MethodHandle" ∧ y.cls ≠ "java/lang/invoke/VarHandle")
    {W9 : Nat} {Pre : Pt → Array Value → Prop} {Post : Pt → Array Value → Option Value → Pt → Prop} {PostX : Pt → Array Value → Addr → Pt → Prop} (hK : vx_Back l R p e below s args y 3 W9 Pre Post PostX)
    {b : Addr} {cellB : Cell} (hcell : T.heap[b]? = some cellB) (hobj : cellB.vm.isStatics = false) (hcls : s.vm.findClass C = some cellB.cls)
    {g : JFrame} (hg : g.method = m) (hsize : g.locals.size = c.maxLocals) {argsL rest : List Value} (hlen : ∀ sig, parseMethodDescriptor y.desc = some sig → argsL.length = sig.parameters.length)
    (hstack : g.stack = argsL.reverse ++ .ref b :: rest) (hW : 2 * g.monitorRoom + (rest.map fun v => v.category).sum ≤ W9) (hdg : decode c.code g.pc = .ok (.invokevirtual index, 3))
    (hpre : ∀ vm₁, s.WarmedH vm₁ → Pre ⟨T.setVm vm₁, locs, cells, slots⟩ (Value.ref b :: argsL).toArray) :
    (∃ (v : Option Value) (vm₁ : Vm) (B : Pt), s.WarmedH vm₁ ∧ Stand p l e R s m args below meth c B.U B.locs B.cells B.slots ∧ Post ⟨T.setVm vm₁, locs, cells, slots⟩ (Value.ref b :: argsL).toArray v B ∧
      ∀ target, Steps p.tables e below (B.U.setTop { g with pc := g.pc + 3, stack := v.toList ++ rest }) target → Steps p.tables e below (T.setTop g) target) ∨
    (∃ (q : Addr) (vm₁ : Vm) (B : Pt), s.WarmedH vm₁ ∧ Stand p l e R s m args below meth c B.U B.locs B.cells B.slots ∧ PostX ⟨T.setVm vm₁, locs, cells, slots⟩ (Value.ref b :: argsL).toArray q B ∧
      Steps p.tables e below (T.setTop g) ((B.U.setTop { g with stack := rest }).pushFrame (.throwing q))) := by
  obtain ⟨mk, methM, hnamed, hmethM, hstM, habM⟩ := Cond.instanceMethod_spec hinst
  obtain ⟨m8, methM', cM, hn8, hmethM', -, -, -, -, -, -, hsigM⟩ := Cond.codeWith_spec hcode
  cases Option.some.inj (hn8.symm.trans hnamed)
  cases hmethM.symm.trans hmethM'
  obtain ⟨c2, r2, m2, q1, q2, q3, q4, kP, hkP, hkPi⟩ := Cond.selects_spec hsel
  cases hcls.symm.trans q1
  cases (State.methodFound?_of_named hnamed hy).symm.trans q2
  cases hnamed.symm.trans q3
  have hselP : selectMethod e.platform s.vm cellB.cls mk = .method mk := by rw [Launch.admits_selectMethod X.admits]; exact q4
  obtain ⟨vm₁, X₁, hstep₁⟩ := X.invokevirtual hexec hown hlink hnamed hmethM hstM hkP hkPi hy (a := b) (cell := cellB) hcell
    (fun z h => by rw [h] at hobj; cases hobj) hselP hmethM habM hkP hkPi (g := g) hg (argsL := argsL) (rest := rest) (hlen _ hsigM) hstack hdg
  rcases hK m meth c ⟨T.setVm vm₁, locs, cells, slots⟩ { g with stack := rest } (.invokevirtual index) mk (Value.ref b :: argsL).toArray X₁ hg hsize hdg hW (X₁.named hnamed) (hpre vm₁ X₁.warmed) with ⟨v, B, X', hpost, hsteps⟩ | ⟨q, B, X', hpost, hsteps⟩
  · exact Or.inl ⟨v, vm₁, B, X₁.warmed, X', hpost, fun target h => hstep₁ _ fun acts => by rw [doInvoke_state]; exact hsteps.trans h⟩
  · exact Or.inr ⟨q, vm₁, B, X₁.warmed, X', hpost, hstep₁ _ fun acts => by rw [doInvoke_state]; exact hsteps⟩
theorem vx_callSX (X : Stand p l e R s m args below meth c T locs cells slots) (hexec : p.tables.exec = Jvm.exec) {own : String} {index : Nat} {y : MethodName} {bytes : ByteArray} {maxL : Nat} {ret : Option FieldType} {hh : List (Nat × Nat × Nat × Nat)}
    (hown : s.vm.findClass own = some m.cls) (hlink : (Cond.methodLink own index y).before args s = true) (hstat : (Cond.static y).before args s = true) (hinit : (Cond.initialized y.cls).before args s = true)
    (hcode : (Cond.codeWith y bytes maxL ret hh).before args s = true) (hy : y.cls ≠ "java/lang/invoke/MethodHandle" ∧ y.cls ≠ "java/lang/invoke/VarHandle")
    {W9 : Nat} {Pre : Pt → Array Value → Prop} {Post : Pt → Array Value → Option Value → Pt → Prop} {PostX : Pt → Array Value → Addr → Pt → Prop} (hK : vx_Back l R p e below s args y 3 W9 Pre Post PostX)
    {g : JFrame} (hg : g.method = m) (hsize : g.locals.size = c.maxLocals) {argsL rest : List Value} (hlen : ∀ sig, parseMethodDescriptor y.desc = some sig → argsL.length = sig.parameters.length)
    (hstack : g.stack = argsL.reverse ++ rest) (hW : 2 * g.monitorRoom + (rest.map fun v => v.category).sum ≤ W9) (hdg : decode c.code g.pc = .ok (.invokestatic index, 3))
    (hpre : ∀ vm₁, s.WarmedH vm₁ → Pre ⟨T.setVm vm₁, locs, cells, slots⟩ argsL.toArray) :
    (∃ (v : Option Value) (vm₁ : Vm) (B : Pt), s.WarmedH vm₁ ∧ Stand p l e R s m args below meth c B.U B.locs B.cells B.slots ∧ Post ⟨T.setVm vm₁, locs, cells, slots⟩ argsL.toArray v B ∧
      ∀ target, Steps p.tables e below (B.U.setTop { g with pc := g.pc + 3, stack := v.toList ++ rest }) target → Steps p.tables e below (T.setTop g) target) ∨
    (∃ (q : Addr) (vm₁ : Vm) (B : Pt), s.WarmedH vm₁ ∧ Stand p l e R s m args below meth c B.U B.locs B.cells B.slots ∧ PostX ⟨T.setVm vm₁, locs, cells, slots⟩ argsL.toArray q B ∧
      Steps p.tables e below (T.setTop g) ((B.U.setTop { g with stack := rest }).pushFrame (.throwing q))) := by
  obtain ⟨mk, methM, cM, hnamed, hmethM, -, -, -, -, -, -, hsigM⟩ := Cond.codeWith_spec hcode
  have hstatic : methM.isStatic = true := Cond.static_spec hnamed hmethM hstat
  obtain ⟨kP, hkP, -⟩ := className_of_methodNamed hnamed
  have hinitP : kP.init = .initialized := Cond.initialized_spec (findClass_of_methodNamed hnamed) hkP hinit
  obtain ⟨vm₁, X₁, hstep₁⟩ := X.invokestatic hexec hown hlink hnamed hmethM hstatic hkP hinitP hy (g := g) hg (argsL := argsL) (rest := rest) (hlen _ hsigM) hstack hdg
  rcases hK m meth c ⟨T.setVm vm₁, locs, cells, slots⟩ { g with stack := rest } (.invokestatic index) mk argsL.toArray X₁ hg hsize hdg hW (X₁.named hnamed) (hpre vm₁ X₁.warmed) with ⟨v, B, X', hpost, hsteps⟩ | ⟨q, B, X', hpost, hsteps⟩
  · exact Or.inl ⟨v, vm₁, B, X₁.warmed, X', hpost, fun target h => hstep₁ _ fun acts => by rw [doInvoke_state]; exact hsteps.trans h⟩
  · exact Or.inr ⟨q, vm₁, B, X₁.warmed, X', hpost, hstep₁ _ fun acts => by rw [doInvoke_state]; exact hsteps⟩
theorem vx_callVW (X : Stand p l e R s m args below meth c T locs cells slots) (hexec : p.tables.exec = Jvm.exec) {own C : String} {index : Nat} {y : MethodName} {bytes : ByteArray} {maxL : Nat} {ret : Option FieldType} {hh : List (Nat × Nat × Nat × Nat)}
    (hown : s.vm.findClass own = some m.cls) (hlink : (Cond.methodLink own index y).before args s = true) (hinst : (Cond.instanceMethod y).before args s = true) (hsel : (Cond.selects C y y).before args s = true)
    (hcode : (Cond.codeWith y bytes maxL ret hh).before args s = true) (hy : y.cls ≠ "java/lang/invoke/MethodHandle" ∧ y.cls ≠ "java/lang/invoke/VarHandle")
    {W9 : Nat} {Pre : Pt → Array Value → Prop} {Post : Pt → Array Value → Option Value → Pt → Prop} (hK : Back l R p e below s args y 3 W9 Pre Post)
    {b : Addr} {cellB : Cell} (hcell : T.heap[b]? = some cellB) (hobj : cellB.vm.isStatics = false) (hcls : s.vm.findClass C = some cellB.cls)
    {g : JFrame} (hg : g.method = m) (hsize : g.locals.size = c.maxLocals) {argsL rest : List Value} (hlen : ∀ sig, parseMethodDescriptor y.desc = some sig → argsL.length = sig.parameters.length)
    (hstack : g.stack = argsL.reverse ++ .ref b :: rest) (hW : 2 * g.monitorRoom + (rest.map fun v => v.category).sum ≤ W9) (hdg : decode c.code g.pc = .ok (.invokevirtual index, 3))
    (hpre : ∀ vm₁, s.WarmedH vm₁ → Pre ⟨T.setVm vm₁, locs, cells, slots⟩ (Value.ref b :: argsL).toArray) :
    ∃ (v : Option Value) (vm₁ : Vm) (B : Pt), s.WarmedH vm₁ ∧ Stand p l e R s m args below meth c B.U B.locs B.cells B.slots ∧ Post ⟨T.setVm vm₁, locs, cells, slots⟩ (Value.ref b :: argsL).toArray v B ∧
      ∀ target, Steps p.tables e below (B.U.setTop { g with pc := g.pc + 3, stack := v.toList ++ rest }) target → Steps p.tables e below (T.setTop g) target := by
  obtain ⟨mk, methM, hnamed, hmethM, hstM, habM⟩ := Cond.instanceMethod_spec hinst
  obtain ⟨m8, methM', cM, hn8, hmethM', -, -, -, -, -, -, hsigM⟩ := Cond.codeWith_spec hcode
  cases Option.some.inj (hn8.symm.trans hnamed)
  cases hmethM.symm.trans hmethM'
  obtain ⟨c2, r2, m2, q1, q2, q3, q4, kP, hkP, hkPi⟩ := Cond.selects_spec hsel
  cases hcls.symm.trans q1
  cases (State.methodFound?_of_named hnamed hy).symm.trans q2
  cases hnamed.symm.trans q3
  have hselP : selectMethod e.platform s.vm cellB.cls mk = .method mk := by rw [Launch.admits_selectMethod X.admits]; exact q4
  obtain ⟨vm₁, X₁, hstep₁⟩ := X.invokevirtual hexec hown hlink hnamed hmethM hstM hkP hkPi hy (a := b) (cell := cellB) hcell
    (fun z h => by rw [h] at hobj; cases hobj) hselP hmethM habM hkP hkPi (g := g) hg (argsL := argsL) (rest := rest) (hlen _ hsigM) hstack hdg
  obtain ⟨v, B, X', hpost, hsteps⟩ := hK m meth c ⟨T.setVm vm₁, locs, cells, slots⟩ { g with stack := rest } (.invokevirtual index) mk (Value.ref b :: argsL).toArray X₁ hg hsize hdg hW (X₁.named hnamed) (hpre vm₁ X₁.warmed)
  exact ⟨v, vm₁, B, X₁.warmed, X', hpost, fun target h => hstep₁ _ fun acts => by rw [doInvoke_state]; exact hsteps.trans h⟩
abbrev vx_CVW (R : Room) (s : State) (args : Array Value) (own C : String) (index : Nat) (y : MethodName) (bytes : ByteArray) (maxL : Nat) (ret : Option FieldType) (hh : List (Nat × Nat × Nat × Nat)) (ws : List Cond) (rm : Room) (mc ms n : Nat) : Prop :=
  (rm.cells = mc ∧ rm.slots = ms ∧ rm.frames + 1 ≤ R.frames ∧ 8 + (maxL + 11) + rm.locals ≤ R.locals ∧ (∀ w ∈ ws, ∀ (a' : Array Value) (U : State), s.WarmedH U.vm → w.before a' U = true) ∧ Cond.codeWith y bytes maxL ret hh ∈ ws) ∧
  (Cond.codeWith y bytes maxL ret hh).before args s = true ∧ (Cond.initialized y.cls).before args s = true ∧ (y.cls ≠ "java/lang/invoke/MethodHandle" ∧ y.cls ≠ "java/lang/invoke/VarHandle") ∧
  (∀ sig, parseMethodDescriptor y.desc = some sig → n = sig.parameters.length) ∧ (Cond.methodLink own index y).before args s = true ∧ (Cond.instanceMethod y).before args s = true ∧ (Cond.selects C y y).before args s = true
theorem vx_cwVW {own C : String} {index maxL mc ms : Nat} {y : MethodName} {bytes : ByteArray} {ret : Option FieldType} {hh : List (Nat × Nat × Nat × Nat)} {Ts ws ws' : List Cond} {rm : Room} (n : Nat) (ht : ∀ w ∈ Ts, w.before args s = true) (hT : GoodIn Ts (wsV own index C y ws)) (hw : ws = Cond.codeWith y bytes maxL ret hh :: ws') (hrc : rm.cells = mc) (hrs : rm.slots = ms)
    (hd : y.cls = C ∧ y.cls ≠ "java/lang/invoke/MethodHandle" ∧ y.cls ≠ "java/lang/invoke/VarHandle" ∧ (parseMethodDescriptor y.desc).map (fun d => d.parameters.length) = some n) (hR : rm.frames + 1 ≤ R.frames ∧ 8 + (maxL + 11) + rm.locals ≤ R.locals) :
    vx_CVW R s args own C index y bytes maxL ret hh ws rm mc ms n := by
  obtain ⟨hC, hd⟩ := hd
  subst hC
  have ok : ∀ w ∈ wsV own index y.cls y ws, w.before args s = true := fun w h => ht w (hT w h).1
  have hG : GoodIn Ts ws := fun w h => hT w (by unfold wsV; exact List.mem_append_right _ h)
  have hc : Cond.codeWith y bytes maxL ret hh ∈ ws := by rw [hw]; exact List.mem_cons_self
  refine ⟨⟨hrc, hrs, hR.1, hR.2, pay_in ht hG, hc⟩, ht _ (hG _ hc).1, ok _ (by simp [wsV]), ⟨hd.1, hd.2.1⟩, fun sig h => ?_, ok _ (by simp [wsV]), ok _ (by simp [wsV]), ok _ (by simp [wsV])⟩
  have h2 := hd.2.2
  rw [h] at h2
  exact (Option.some.inj h2).symm
theorem vx_runVW {y : MethodName} {bytes cc : ByteArray} {maxL nL mc ms n index : Nat} {ret : Option FieldType} {hh : List (Nat × Nat × Nat × Nat)} {ws : List Cond} {rm : Room} {Pc : Array Value → State → Prop} {Qc : Array Value → State → Outcome → State → Prop} {free : Addr → Prop} {Ts : List Cond} {own C : String} {b : Addr} {As rest : List Value} {g : JFrame}
    (S : CallFix p m c cc nL s args Ts own) (hM : Met l y ws rm Pc Qc mc ms free) (cw : vx_CVW R s args own C index y bytes maxL ret hh ws rm mc ms n) (hp : PreV s H C b Pc As)
    (hg : g.method = m) (hn : As.length = n) (hsize : g.locals.size = nL) (hstack : g.stack = As.reverse ++ .ref b :: rest) (hW : 2 * g.monitorRoom + (rest.map fun v => v.category).sum ≤ 8) (hdg : decode cc g.pc = .ok (.invokevirtual index, 3)) (hf : cells + mc ≤ R.cells ∧ slots + ms ≤ R.slots) :
    va_Run p l e R s m args below meth c H locs cells slots mc ms g rest (Qc (Value.ref b :: As).toArray) free := by
  obtain ⟨⟨hrc, hrs, hfr, hlo, hws, hcw⟩, hcode, hini, hy, hlen, hl, hin, hse⟩ := cw
  have hK : Back l R p e below s args y 3 8 (PreOf R mc ms Pc) (PostOf Qc mc ms free) := va_backW (hh := hh) (bytes := bytes) (maxL := maxL) (ret := ret) hM hp.1 hrc hrs hfr hlo hws hcw (fun a' U hW => word_at hW (Or.inl (by first | rfl | simp [Cond.onTables, Cond.keeps, Cond.steady])) hini)
  obtain ⟨hx, hb, hml, ho, -⟩ := S
  obtain ⟨-, ⟨cellB, hcB, hoB, hclB⟩, hPc⟩ := hp
  intro T hT X
  obtain ⟨v, vm₁, ⟨U', l2, c2, s2⟩, hW₁, X', ⟨g', mk, t, L, e1, e2, hq, h1, hL, h2, h3⟩, st⟩ := vx_callVW X hx (C := C) (hh := hh) (bytes := bytes) (maxL := maxL) (ret := ret) ho hl hin hse hcode hy hK (by rw [hT]; exact hcB) hoB hclB hg (hsize.trans hml.symm) (argsL := As) (rest := rest) (fun sig h => hn.trans (hlen sig h)) hstack hW (by rw [hb]; exact hdg)
    (fun vm₁ hW₁ => ⟨hf.1, hf.2, hPc (T.setVm vm₁) hT hW₁⟩)
  dsimp only [Pt.U, Pt.locs, Pt.cells, Pt.slots] at X' e1 e2 h1 h2 h3 st
  subst h1; subst h2; subst h3
  exact ⟨v, (T.setVm vm₁).calling g' mk (Value.ref b :: As).toArray, t, U', L, hT, X', hL, e1, e2, hq, st⟩
section
variable {y : MethodName} {bytes cc : ByteArray} {maxL nL mc ms n index : Nat} {ret : Option FieldType} {ws : List Cond} {rm : Room} {Pc : Array Value → State → Prop} {Qc : Array Value → State → Outcome → State → Prop} {XC : String → State → State → Prop} {free : Addr → Prop} {Ts : List Cond} {own C : String} {b : Addr} {As rest : List Value} {g : JFrame}
theorem vx_runVX {hh : List (Nat × Nat × Nat × Nat)} (S : CallFix p m c cc nL s args Ts own) (hM : vx_Met l y ws rm Pc Qc XC mc ms free) (cw : vx_CVW R s args own C index y bytes maxL ret hh ws rm mc ms n) (hp : PreV s H C b Pc As)
    (hg : g.method = m) (hn : As.length = n) (hsize : g.locals.size = nL) (hstack : g.stack = As.reverse ++ .ref b :: rest) (hW : 2 * g.monitorRoom + (rest.map fun v => v.category).sum ≤ 8) (hdg : decode cc g.pc = .ok (.invokevirtual index, 3)) (hf : cells + mc ≤ R.cells ∧ slots + ms ≤ R.slots) :
    vx_Run p l e R s m args below meth c H locs cells slots mc ms g rest (Qc (Value.ref b :: As).toArray) XC free := by
  obtain ⟨⟨hrc, hrs, hfr, hlo, hws, hcw⟩, hcode, hini, hy, hlen, hl, hin, hse⟩ := cw
  have hK : vx_Back l R p e below s args y 3 8 (PreOf R mc ms Pc) (PostOf Qc mc ms free) (vx_Post XC mc ms free) := vx_backW (hh := hh) (bytes := bytes) (maxL := maxL) (ret := ret) hM hp.1 hrc hrs hfr hlo hws hcw (fun a' U hW => word_at hW (Or.inl (by first | rfl | simp [Cond.onTables, Cond.keeps, Cond.steady])) hini)
  obtain ⟨hx, hb, hml, ho, -⟩ := S
  obtain ⟨-, ⟨cellB, hcB, hoB, hclB⟩, hPc⟩ := hp
  intro T hT X
  rcases vx_callVX X hx (C := C) (hh := hh) (bytes := bytes) (maxL := maxL) (ret := ret) ho hl hin hse hcode hy hK (by rw [hT]; exact hcB) hoB hclB hg (hsize.trans hml.symm) (argsL := As) (rest := rest) (fun sig h => hn.trans (hlen sig h)) hstack hW (by rw [hb]; exact hdg)
    (fun vm₁ hW₁ => ⟨hf.1, hf.2, hPc (T.setVm vm₁) hT hW₁⟩) with ⟨v, vm₁, ⟨U', l2, c2, s2⟩, hW₁, X', ⟨g', mk, t, L, e1, e2, hq, h1, hL, h2, h3⟩, st⟩ | ⟨q, vm₁, ⟨U', l2, c2, s2⟩, hW₁, X', ⟨g', mk, t, L, E, ce, e1, e2, hq, hce, hcv, hcl, h1, hL, h2, h3⟩, st⟩
  · dsimp only [Pt.U, Pt.locs, Pt.cells, Pt.slots] at X' e1 e2 h1 h2 h3 st
    subst h1; subst h2; subst h3
    exact Or.inl ⟨v, (T.setVm vm₁).calling g' mk (Value.ref b :: As).toArray, t, U', L, hT, X', hL, e1, e2, hq, st⟩
  · dsimp only [Pt.U, Pt.locs, Pt.cells, Pt.slots] at X' e1 e2 h1 h2 h3 st hcl
    subst h1; subst h2; subst h3
    exact Or.inr ⟨q, (T.setVm vm₁).calling g' mk (Value.ref b :: As).toArray, t, U', L, E, ce, hT, X', hL, e1, e2, hq, hce, hcv, vx_cls hW₁ hcl, st⟩
theorem vx_runSX {hh : List (Nat × Nat × Nat × Nat)} (S : CallFix p m c cc nL s args Ts own) (hM : vx_Met l y ws rm Pc Qc XC mc ms free) (cw : vx_CSW R s args own index y bytes maxL ret hh ws rm mc ms n) (hp : PreS s H Pc As)
    (hg : g.method = m) (hn : As.length = n) (hsize : g.locals.size = nL) (hstack : g.stack = As.reverse ++ rest) (hW : 2 * g.monitorRoom + (rest.map fun v => v.category).sum ≤ 8) (hdg : decode cc g.pc = .ok (.invokestatic index, 3)) (hf : cells + mc ≤ R.cells ∧ slots + ms ≤ R.slots) :
    vx_Run p l e R s m args below meth c H locs cells slots mc ms g rest (Qc As.toArray) XC free := by
  obtain ⟨⟨hrc, hrs, hfr, hlo, hws, hcw⟩, hcode, hini, hy, hlen, hl, hstt⟩ := cw
  have hK : vx_Back l R p e below s args y 3 8 (PreOf R mc ms Pc) (PostOf Qc mc ms free) (vx_Post XC mc ms free) := vx_backW (hh := hh) (bytes := bytes) (maxL := maxL) (ret := ret) hM hp.1 hrc hrs hfr hlo hws hcw (fun a' U hW => word_at hW (Or.inl (by first | rfl | simp [Cond.onTables, Cond.keeps, Cond.steady])) hini)
  obtain ⟨hx, hb, hml, ho, -⟩ := S
  intro T hT X
  rcases vx_callSX X hx (hh := hh) (bytes := bytes) (maxL := maxL) (ret := ret) ho hl hstt hini hcode hy hK hg (hsize.trans hml.symm) (argsL := As) (rest := rest) (fun sig h => hn.trans (hlen sig h)) hstack hW (by rw [hb]; exact hdg)
    (fun vm₁ hW₁ => ⟨hf.1, hf.2, hp.2 (T.setVm vm₁) hT hW₁⟩) with ⟨v, vm₁, ⟨U', l2, c2, s2⟩, hW₁, X', ⟨g', mk, t, L, e1, e2, hq, h1, hL, h2, h3⟩, st⟩ | ⟨q, vm₁, ⟨U', l2, c2, s2⟩, hW₁, X', ⟨g', mk, t, L, E, ce, e1, e2, hq, hce, hcv, hcl, h1, hL, h2, h3⟩, st⟩
  · dsimp only [Pt.U, Pt.locs, Pt.cells, Pt.slots] at X' e1 e2 h1 h2 h3 st
    subst h1; subst h2; subst h3
    exact Or.inl ⟨v, (T.setVm vm₁).calling g' mk As.toArray, t, U', L, hT, X', hL, e1, e2, hq, st⟩
  · dsimp only [Pt.U, Pt.locs, Pt.cells, Pt.slots] at X' e1 e2 h1 h2 h3 st hcl
    subst h1; subst h2; subst h3
    exact Or.inr ⟨q, (T.setVm vm₁).calling g' mk As.toArray, t, U', L, E, ce, hT, X', hL, e1, e2, hq, hce, hcv, vx_cls hW₁ hcl, st⟩
end
end VXH
theorem vx_ofWH {l : Launch} {y : MethodName} {ws ws' : List Cond} {rm : Room} {Pc : Array Value → State → Prop} {Qc : Array Value → State → Outcome → State → Prop} {XC : String → State → State → Prop} {mc ms : Nat} {free : Addr → Prop} {cc : ByteArray} {maxL : Nat} {ret : Option FieldType} {hh : List (Nat × Nat × Nat × Nat)}
    (hy : plainName y.cls = true) (hw : ws = Cond.codeWith y cc maxL ret hh :: ws')
    (body : ∀ p e s m args below meth c s₁, BodyLoose p l y (headSpec ws rm) cc maxL ret e s m args below meth c s₁ → c.maxLocals = maxL → Pc args s →
      W p l e (headSpec ws rm).room s m args below meth c s.heap [] 0 0 (vx_MQ below Qc XC args s mc ms free) (entryFrame m args maxL)) : vx_Met l y ws rm Pc Qc XC mc ms free := by
  refine MetFree.of_bodyS (code := cc) (maxLocals := maxL) (ret := ret) hy ?_ ?_
  · intro args s m h hn
    obtain ⟨m9, meth, c, hn9, h1, h2, h3, h4, -, h5, h6, -⟩ := Cond.codeWith_spec (atoms_spec (ws := ws) h _ (by rw [hw]; exact List.mem_cons_self))
    cases hn.symm.trans hn9
    exact ⟨meth, c, h1, h2, h3, h4, h5, h6⟩
  · intro p e s m args below meth c s₁ B hml hP _
    have hh0 : s₁.heap = s.heap := by rw [B.state]; rfl
    obtain ⟨t, a1, o, b1, b2, b3⟩ := body p e s m args below meth c s₁ B hml hP s₁ hh0 (Stand.of_body B)
    exact ⟨t, o, a1, b1, b2, b3⟩
/-! ===== END ===== -/
end
section
def RX0 : String := "RailSequence$Log"
def TX0 : u_T := fun k => match k with
  | 0 => ("RailSequence$Log", "numbers", "[I", true)
  | _ => ("RailSequence$Log", "length", "I", false)
def tyX0 : Nat → FieldType := fun k => match k with
  | 0 => .array .int
  | _ => .int
abbrev wsX00 : List Cond := u_ws RX0 TX0 2
theorem nmX0 : ∀ a, a < 2 → ∀ b, b < 2 → a ≠ b → (TX0 a).2.1 ≠ (TX0 b).2.1 := by decide +kernel
theorem tyX0_ok : ∀ k, k < 2 → parseFieldDescriptor (TX0 k).2.2.1 = some (tyX0 k) := by decide +kernel
abbrev cX0_init : ByteArray := prog_2_method_1_code
def yX0_init : MethodName := ⟨RX0, "<init>", "()V"⟩
abbrev cX0_copyFrom : ByteArray := prog_2_method_2_code
def yX0_copyFrom : MethodName := ⟨RX0, "copyFrom", "(LRailSequence$Log;)V"⟩
abbrev cX0_enter : ByteArray := prog_2_method_3_code
def yX0_enter : MethodName := ⟨RX0, "enter", "(IIII)V"⟩
abbrev cX0_numberAt : ByteArray := prog_2_method_4_code
def yX0_numberAt : MethodName := ⟨RX0, "numberAt", "(II)I"⟩
abbrev cX0_removeRail : ByteArray := prog_2_method_5_code
def yX0_removeRail : MethodName := ⟨RX0, "removeRail", "(I)I"⟩
def RX1 : String := "RailSequence$Plant"
def TX1 : u_T := fun k => match k with
  | 0 => ("RailSequence$Plant", "rails", "I", false)
  | 1 => ("RailSequence$Plant", "tickNumber", "I", false)
  | 2 => ("RailSequence$Plant", "residue", "I", false)
  | 3 => ("RailSequence$Plant", "wanted", "I", false)
  | 4 => ("RailSequence$Plant", "properties", "[I", true)
  | 5 => ("RailSequence$Plant", "needs", "[I", true)
  | 6 => ("RailSequence$Plant", "state", "[I", true)
  | 7 => ("RailSequence$Plant", "voltage", "[I", true)
  | 8 => ("RailSequence$Plant", "stuck", "[I", true)
  | 9 => ("RailSequence$Plant", "shorted", "[I", true)
  | 10 => ("RailSequence$Plant", "time", "[I", true)
  | 11 => ("RailSequence$Plant", "failures", "[I", true)
  | 12 => ("RailSequence$Plant", "blame", "[I", true)
  | 13 => ("RailSequence$Plant", "accounts", "[I", true)
  | 14 => ("RailSequence$Plant", "log", "LRailSequence$Log;", true)
  | 15 => ("RailSequence$Plant", "stateBefore", "[I", true)
  | 16 => ("RailSequence$Plant", "voltageBefore", "[I", true)
  | _ => ("RailSequence$Plant", "timeBefore", "[I", true)
def tyX1 : Nat → FieldType := fun k => match k with
  | 0 => .int
  | 1 => .int
  | 2 => .int
  | 3 => .int
  | 4 => .array .int
  | 5 => .array .int
  | 6 => .array .int
  | 7 => .array .int
  | 8 => .array .int
  | 9 => .array .int
  | 10 => .array .int
  | 11 => .array .int
  | 12 => .array .int
  | 13 => .array .int
  | 14 => .object "RailSequence$Log"
  | 15 => .array .int
  | 16 => .array .int
  | _ => .array .int
abbrev wsX10 : List Cond := u_ws RX1 TX1 18
theorem nmX1 : ∀ a, a < 18 → ∀ b, b < 18 → a ≠ b → (TX1 a).2.1 ≠ (TX1 b).2.1 := by decide +kernel
theorem tyX1_ok : ∀ k, k < 18 → parseFieldDescriptor (TX1 k).2.2.1 = some (tyX1 k) := by decide +kernel
abbrev cX1_init : ByteArray := prog_3_method_1_code
def yX1_init : MethodName := ⟨RX1, "<init>", "()V"⟩
abbrev cX1_copyFrom : ByteArray := prog_3_method_2_code
def yX1_copyFrom : MethodName := ⟨RX1, "copyFrom", "(LRailSequence$Plant;)V"⟩
abbrev cX1_add : ByteArray := prog_3_method_3_code
def yX1_add : MethodName := ⟨RX1, "add", "(IIII)V"⟩
abbrev cX1_propertyOf : ByteArray := prog_3_method_4_code
def yX1_propertyOf : MethodName := ⟨RX1, "propertyOf", "(II)I"⟩
abbrev cX1_isWanted : ByteArray := prog_3_method_5_code
def yX1_isWanted : MethodName := ⟨RX1, "isWanted", "(I)Z"⟩
abbrev cX1_isDischarged : ByteArray := prog_3_method_6_code
def yX1_isDischarged : MethodName := ⟨RX1, "isDischarged", "(I)Z"⟩
abbrev cX1_hasFlag : ByteArray := prog_3_method_7_code
def yX1_hasFlag : MethodName := ⟨RX1, "hasFlag", "(I)Z"⟩
abbrev cX1_numberOf : ByteArray := prog_3_method_8_code
def yX1_numberOf : MethodName := ⟨RX1, "numberOf", "(II)I"⟩
abbrev cX1_firstBlameOf : ByteArray := prog_3_method_9_code
def yX1_firstBlameOf : MethodName := ⟨RX1, "firstBlameOf", "(I)I"⟩
abbrev cX1_leastPatienceOf : ByteArray := prog_3_method_10_code
def yX1_leastPatienceOf : MethodName := ⟨RX1, "leastPatienceOf", "(I)I"⟩
abbrev cX1_withAllNeeded : ByteArray := prog_3_method_11_code
def yX1_withAllNeeded : MethodName := ⟨RX1, "withAllNeeded", "(I)I"⟩
abbrev cX1_withFollowers : ByteArray := prog_3_method_12_code
def yX1_withFollowers : MethodName := ⟨RX1, "withFollowers", "(I)I"⟩
abbrev cX1_maskOf : ByteArray := prog_3_method_13_code
def yX1_maskOf : MethodName := ⟨RX1, "maskOf", "(I)I"⟩
abbrev cX1_sumOfVoltages : ByteArray := prog_3_method_14_code
def yX1_sumOfVoltages : MethodName := ⟨RX1, "sumOfVoltages", "()I"⟩
abbrev cX1_isAllOff : ByteArray := prog_3_method_15_code
def yX1_isAllOff : MethodName := ⟨RX1, "isAllOff", "()Z"⟩
abbrev cX1_passTick : ByteArray := prog_3_method_16_code
def yX1_passTick : MethodName := ⟨RX1, "passTick", "()I"⟩
abbrev cX1_rememberBefore : ByteArray := prog_3_method_17_code
def yX1_rememberBefore : MethodName := ⟨RX1, "rememberBefore", "()V"⟩
abbrev cX1_moveVoltages : ByteArray := prog_3_method_18_code
def yX1_moveVoltages : MethodName := ⟨RX1, "moveVoltages", "()V"⟩
abbrev cX1_nextState : ByteArray := prog_3_method_19_code
def yX1_nextState : MethodName := ⟨RX1, "nextState", "(I)I"⟩
abbrev cX1_afterOff : ByteArray := prog_3_method_20_code
def yX1_afterOff : MethodName := ⟨RX1, "afterOff", "(I)I"⟩
abbrev cX1_afterWaiting : ByteArray := prog_3_method_21_code
def yX1_afterWaiting : MethodName := ⟨RX1, "afterWaiting", "(I)I"⟩
abbrev cX1_afterRising : ByteArray := prog_3_method_22_code
def yX1_afterRising : MethodName := ⟨RX1, "afterRising", "(I)I"⟩
abbrev cX1_afterGood : ByteArray := prog_3_method_23_code
def yX1_afterGood : MethodName := ⟨RX1, "afterGood", "(I)I"⟩
abbrev cX1_afterFalling : ByteArray := prog_3_method_24_code
def yX1_afterFalling : MethodName := ⟨RX1, "afterFalling", "(I)I"⟩
abbrev cX1_afterFailure : ByteArray := prog_3_method_25_code
def yX1_afterFailure : MethodName := ⟨RX1, "afterFailure", "(I)I"⟩
abbrev cX1_lowestBadNeed : ByteArray := prog_3_method_26_code
def yX1_lowestBadNeed : MethodName := ⟨RX1, "lowestBadNeed", "(I)I"⟩
abbrev cX1_areUsersAtRest : ByteArray := prog_3_method_27_code
def yX1_areUsersAtRest : MethodName := ⟨RX1, "areUsersAtRest", "(I)Z"⟩
abbrev cX1_become : ByteArray := prog_3_method_28_code
def yX1_become : MethodName := ⟨RX1, "become", "(II)V"⟩
abbrev cX1_endTick : ByteArray := prog_3_method_29_code
def yX1_endTick : MethodName := ⟨RX1, "endTick", "()V"⟩
abbrev cX1_wasStill : ByteArray := prog_3_method_30_code
def yX1_wasStill : MethodName := ⟨RX1, "wasStill", "()Z"⟩
abbrev cX1_isSettled : ByteArray := prog_3_method_31_code
def yX1_isSettled : MethodName := ⟨RX1, "isSettled", "()Z"⟩
abbrev cX1_justDropped : ByteArray := prog_3_method_32_code
def yX1_justDropped : MethodName := ⟨RX1, "justDropped", "()I"⟩
abbrev cX1_dropForRestart : ByteArray := prog_3_method_33_code
def yX1_dropForRestart : MethodName := ⟨RX1, "dropForRestart", "(I)I"⟩
abbrev cX1_isToDrop : ByteArray := prog_3_method_34_code
def yX1_isToDrop : MethodName := ⟨RX1, "isToDrop", "(I)Z"⟩
def RX2 : String := "RailSequence$TextReader"
def TX2 : u_T := fun k => match k with
  | 0 => ("RailSequence$TextReader", "numbers", "[I", true)
  | 1 => ("RailSequence$TextReader", "needs", "I", false)
  | 2 => ("RailSequence$TextReader", "part", "I", false)
  | _ => ("RailSequence$TextReader", "latestNeed", "I", false)
def tyX2 : Nat → FieldType := fun k => match k with
  | 0 => .array .int
  | 1 => .int
  | 2 => .int
  | _ => .int
abbrev wsX20 : List Cond := u_ws RX2 TX2 4
theorem nmX2 : ∀ a, a < 4 → ∀ b, b < 4 → a ≠ b → (TX2 a).2.1 ≠ (TX2 b).2.1 := by decide +kernel
theorem tyX2_ok : ∀ k, k < 4 → parseFieldDescriptor (TX2 k).2.2.1 = some (tyX2 k) := by decide +kernel
abbrev cX2_init : ByteArray := prog_4_method_1_code
def yX2_init : MethodName := ⟨RX2, "<init>", "()V"⟩
abbrev cX2_begin : ByteArray := prog_4_method_2_code
def yX2_begin : MethodName := ⟨RX2, "begin", "()V"⟩
abbrev cX2_take : ByteArray := prog_4_method_3_code
def yX2_take : MethodName := ⟨RX2, "take", "(I)Z"⟩
abbrev cX2_isAtEndOfRail : ByteArray := prog_4_method_4_code
def yX2_isAtEndOfRail : MethodName := ⟨RX2, "isAtEndOfRail", "()Z"⟩
abbrev cX2_takeDigit : ByteArray := prog_4_method_5_code
def yX2_takeDigit : MethodName := ⟨RX2, "takeDigit", "(I)Z"⟩
abbrev cX2_takeNeed : ByteArray := prog_4_method_6_code
def yX2_takeNeed : MethodName := ⟨RX2, "takeNeed", "(I)Z"⟩
abbrev cX2_takePart : ByteArray := prog_4_method_7_code
def yX2_takePart : MethodName := ⟨RX2, "takePart", "(I)Z"⟩
abbrev cX2_isNumberComplete : ByteArray := prog_4_method_8_code
def yX2_isNumberComplete : MethodName := ⟨RX2, "isNumberComplete", "()Z"⟩
def RX3 : String := "RailSequence"
def TX3 : u_T := fun k => match k with
  | 0 => ("RailSequence", "now", "LRailSequence$Plant;", true)
  | 1 => ("RailSequence", "future", "LRailSequence$Plant;", true)
  | 2 => ("RailSequence", "saved", "[LRailSequence$Plant;", true)
  | 3 => ("RailSequence", "savedStates", "I", false)
  | 4 => ("RailSequence", "buffer", "[I", true)
  | 5 => ("RailSequence", "bufferLength", "I", false)
  | _ => ("RailSequence", "reader", "LRailSequence$TextReader;", true)
def tyX3 : Nat → FieldType := fun k => match k with
  | 0 => .object "RailSequence$Plant"
  | 1 => .object "RailSequence$Plant"
  | 2 => .array (.object "RailSequence$Plant")
  | 3 => .int
  | 4 => .array .int
  | 5 => .int
  | _ => .object "RailSequence$TextReader"
abbrev wsX30 : List Cond := u_ws RX3 TX3 7
theorem nmX3 : ∀ a, a < 7 → ∀ b, b < 7 → a ≠ b → (TX3 a).2.1 ≠ (TX3 b).2.1 := by decide +kernel
theorem tyX3_ok : ∀ k, k < 7 → parseFieldDescriptor (TX3 k).2.2.1 = some (tyX3 k) := by decide +kernel
abbrev cX3_init : ByteArray := prog_1_method_1_code
def yX3_init : MethodName := ⟨RX3, "<init>", "()V"⟩
abbrev cX3_addRail : ByteArray := prog_1_method_2_code
def yX3_addRail : MethodName := ⟨RX3, "addRail", "(IIII)I"⟩
abbrev cX3_set : ByteArray := prog_1_method_3_code
def yX3_set : MethodName := ⟨RX3, "set", "(III)I"⟩
abbrev cX3_setNeeds : ByteArray := prog_1_method_4_code
def yX3_setNeeds : MethodName := ⟨RX3, "setNeeds", "(II)I"⟩
abbrev cX3_setResidue : ByteArray := prog_1_method_5_code
def yX3_setResidue : MethodName := ⟨RX3, "setResidue", "(I)I"⟩
abbrev cX3_on : ByteArray := prog_1_method_6_code
def yX3_on : MethodName := ⟨RX3, "on", "(I)I"⟩
abbrev cX3_off : ByteArray := prog_1_method_7_code
def yX3_off : MethodName := ⟨RX3, "off", "(I)I"⟩
abbrev cX3_restart : ByteArray := prog_1_method_8_code
def yX3_restart : MethodName := ⟨RX3, "restart", "(I)I"⟩
abbrev cX3_shortCircuit : ByteArray := prog_1_method_9_code
def yX3_shortCircuit : MethodName := ⟨RX3, "shortCircuit", "(II)I"⟩
abbrev cX3_stick : ByteArray := prog_1_method_10_code
def yX3_stick : MethodName := ⟨RX3, "stick", "(II)I"⟩
abbrev cX3_tick : ByteArray := prog_1_method_11_code
def yX3_tick : MethodName := ⟨RX3, "tick", "(I)I"⟩
abbrev cX3_append : ByteArray := prog_1_method_12_code
def yX3_append : MethodName := ⟨RX3, "append", "(I)I"⟩
abbrev cX3_clearBuffer : ByteArray := prog_1_method_13_code
def yX3_clearBuffer : MethodName := ⟨RX3, "clearBuffer", "()I"⟩
abbrev cX3_firstError : ByteArray := prog_1_method_14_code
def yX3_firstError : MethodName := ⟨RX3, "firstError", "()I"⟩
abbrev cX3_load : ByteArray := prog_1_method_15_code
def yX3_load : MethodName := ⟨RX3, "load", "()I"⟩
abbrev cX3_undo : ByteArray := prog_1_method_16_code
def yX3_undo : MethodName := ⟨RX3, "undo", "()I"⟩
abbrev cX3_rail : ByteArray := prog_1_method_17_code
def yX3_rail : MethodName := ⟨RX3, "rail", "(II)I"⟩
abbrev cX3_account : ByteArray := prog_1_method_18_code
def yX3_account : MethodName := ⟨RX3, "account", "(II)I"⟩
abbrev cX3_entry : ByteArray := prog_1_method_19_code
def yX3_entry : MethodName := ⟨RX3, "entry", "(II)I"⟩
abbrev cX3_forget : ByteArray := prog_1_method_20_code
def yX3_forget : MethodName := ⟨RX3, "forget", "(I)I"⟩
abbrev cX3_count : ByteArray := prog_1_method_21_code
def yX3_count : MethodName := ⟨RX3, "count", "(I)I"⟩
abbrev cX3_allGoodIn : ByteArray := prog_1_method_22_code
def yX3_allGoodIn : MethodName := ⟨RX3, "allGoodIn", "()I"⟩
abbrev cX3_allOffIn : ByteArray := prog_1_method_23_code
def yX3_allOffIn : MethodName := ⟨RX3, "allOffIn", "()I"⟩
abbrev cX3_ifShort : ByteArray := prog_1_method_24_code
def yX3_ifShort : MethodName := ⟨RX3, "ifShort", "(III)I"⟩
abbrev cX3_leastPatience : ByteArray := prog_1_method_25_code
def yX3_leastPatience : MethodName := ⟨RX3, "leastPatience", "(I)I"⟩
abbrev cX3_goodShare : ByteArray := prog_1_method_26_code
def yX3_goodShare : MethodName := ⟨RX3, "goodShare", "()D"⟩
abbrev cX3_digest : ByteArray := prog_1_method_27_code
def yX3_digest : MethodName := ⟨RX3, "digest", "()J"⟩
abbrev cX3_isRail : ByteArray := prog_1_method_28_code
def yX3_isRail : MethodName := ⟨RX3, "isRail", "(I)Z"⟩
abbrev cX3_areRails : ByteArray := prog_1_method_29_code
def yX3_areRails : MethodName := ⟨RX3, "areRails", "(I)Z"⟩
abbrev cX3_areBelow : ByteArray := prog_1_method_30_code
def yX3_areBelow : MethodName := ⟨RX3, "areBelow", "(II)Z"⟩
abbrev cX3_isInRange : ByteArray := prog_1_method_31_code
def yX3_isInRange : MethodName := ⟨RX3, "isInRange", "(II)Z"⟩
abbrev cX3_save : ByteArray := prog_1_method_32_code
def yX3_save : MethodName := ⟨RX3, "save", "()V"⟩
abbrev cX3_dropOldestSaved : ByteArray := prog_1_method_33_code
def yX3_dropOldestSaved : MethodName := ⟨RX3, "dropOldestSaved", "()V"⟩
abbrev cX3_readBuffer : ByteArray := prog_1_method_34_code
def yX3_readBuffer : MethodName := ⟨RX3, "readBuffer", "()I"⟩
abbrev cX3_addTextToFuture : ByteArray := prog_1_method_35_code
def yX3_addTextToFuture : MethodName := ⟨RX3, "addTextToFuture", "()Z"⟩
abbrev cX3_addReadRailToFuture : ByteArray := prog_1_method_36_code
def yX3_addReadRailToFuture : MethodName := ⟨RX3, "addReadRailToFuture", "()Z"⟩
abbrev cX3_countOf : ByteArray := prog_1_method_37_code
def yX3_countOf : MethodName := ⟨RX3, "countOf", "(I)I"⟩
abbrev cX3_hashOfRail : ByteArray := prog_1_method_38_code
def yX3_hashOfRail : MethodName := ⟨RX3, "hashOfRail", "(JI)J"⟩
abbrev cX3_hashOfLog : ByteArray := prog_1_method_39_code
def yX3_hashOfLog : MethodName := ⟨RX3, "hashOfLog", "(J)J"⟩
abbrev cX3_hashOfBuffer : ByteArray := prog_1_method_40_code
def yX3_hashOfBuffer : MethodName := ⟨RX3, "hashOfBuffer", "(J)J"⟩
abbrev cX3_bitsOfShare : ByteArray := prog_1_method_41_code
def yX3_bitsOfShare : MethodName := ⟨RX3, "bitsOfShare", "(D)J"⟩
def RX4 : String := "RailSequenceModel"
def TX4 : u_T := fun k => match k with
  | 0 => ("RailSequenceModel", "thrown", "I", false)
  | 1 => ("RailSequenceModel", "z", "[I", true)
  | 2 => ("RailSequenceModel", "saves", "I", false)
  | 3 => ("RailSequenceModel", "saved", "[I", true)
  | 4 => ("RailSequenceModel", "length", "I", false)
  | 5 => ("RailSequenceModel", "text", "[I", true)
  | 6 => ("RailSequenceModel", "changes", "I", false)
  | 7 => ("RailSequenceModel", "fallen", "I", false)
  | 8 => ("RailSequenceModel", "was", "[I", true)
  | 9 => ("RailSequenceModel", "aside", "[I", true)
  | 10 => ("RailSequenceModel", "which", "I", false)
  | 11 => ("RailSequenceModel", "digits", "I", false)
  | 12 => ("RailSequenceModel", "last", "I", false)
  | 13 => ("RailSequenceModel", "rails", "I", false)
  | 14 => ("RailSequenceModel", "read", "[I", true)
  | _ => ("RailSequenceModel", "h", "J", false)
def tyX4 : Nat → FieldType := fun k => match k with
  | 0 => .int
  | 1 => .array .int
  | 2 => .int
  | 3 => .array .int
  | 4 => .int
  | 5 => .array .int
  | 6 => .int
  | 7 => .int
  | 8 => .array .int
  | 9 => .array .int
  | 10 => .int
  | 11 => .int
  | 12 => .int
  | 13 => .int
  | 14 => .array .int
  | _ => .long
abbrev wsX40 : List Cond := u_ws RX4 TX4 16
theorem nmX4 : ∀ a, a < 16 → ∀ b, b < 16 → a ≠ b → (TX4 a).2.1 ≠ (TX4 b).2.1 := by decide +kernel
theorem tyX4_ok : ∀ k, k < 16 → parseFieldDescriptor (TX4 k).2.2.1 = some (tyX4 k) := by decide +kernel
abbrev cX4_init : ByteArray := prog_6_method_1_code
def yX4_init : MethodName := ⟨RX4, "<init>", "()V"⟩
abbrev cX4_thrown : ByteArray := prog_6_method_2_code
def yX4_thrown : MethodName := ⟨RX4, "thrown", "()I"⟩
abbrev cX4_within : ByteArray := prog_6_method_3_code
def yX4_within : MethodName := ⟨RX4, "within", "(III)Z"⟩
abbrev cX4_of : ByteArray := prog_6_method_4_code
def yX4_of : MethodName := ⟨RX4, "of", "(II)I"⟩
abbrev cX4_lay : ByteArray := prog_6_method_5_code
def yX4_lay : MethodName := ⟨RX4, "lay", "(III)V"⟩
abbrev cX4_add : ByteArray := prog_6_method_6_code
def yX4_add : MethodName := ⟨RX4, "add", "(II)V"⟩
abbrev cX4_isRail : ByteArray := prog_6_method_7_code
def yX4_isRail : MethodName := ⟨RX4, "isRail", "(I)Z"⟩
abbrev cX4_has : ByteArray := prog_6_method_8_code
def yX4_has : MethodName := ⟨RX4, "has", "(II)Z"⟩
abbrev cX4_allRails : ByteArray := prog_6_method_9_code
def yX4_allRails : MethodName := ⟨RX4, "allRails", "()I"⟩
abbrev cX4_isMask : ByteArray := prog_6_method_10_code
def yX4_isMask : MethodName := ⟨RX4, "isMask", "(II)Z"⟩
abbrev cX4_isDischarged : ByteArray := prog_6_method_11_code
def yX4_isDischarged : MethodName := ⟨RX4, "isDischarged", "(I)Z"⟩
abbrev cX4_isFlag : ByteArray := prog_6_method_12_code
def yX4_isFlag : MethodName := ⟨RX4, "isFlag", "(I)Z"⟩
abbrev cX4_followers : ByteArray := prog_6_method_13_code
def yX4_followers : MethodName := ⟨RX4, "followers", "(I)I"⟩
abbrev cX4_become : ByteArray := prog_6_method_14_code
def yX4_become : MethodName := ⟨RX4, "become", "(II)V"⟩
abbrev cX4_becomeFor : ByteArray := prog_6_method_15_code
def yX4_becomeFor : MethodName := ⟨RX4, "becomeFor", "(III)V"⟩
abbrev cX4_towards : ByteArray := prog_6_method_16_code
def yX4_towards : MethodName := ⟨RX4, "towards", "(III)I"⟩
abbrev cX4_moveVoltage : ByteArray := prog_6_method_17_code
def yX4_moveVoltage : MethodName := ⟨RX4, "moveVoltage", "(I)V"⟩
abbrev cX4_missing : ByteArray := prog_6_method_18_code
def yX4_missing : MethodName := ⟨RX4, "missing", "(I)I"⟩
abbrev cX4_isUsed : ByteArray := prog_6_method_19_code
def yX4_isUsed : MethodName := ⟨RX4, "isUsed", "(I)Z"⟩
abbrev cX4_fail : ByteArray := prog_6_method_20_code
def yX4_fail : MethodName := ⟨RX4, "fail", "(I)V"⟩
abbrev cX4_lookWaiting : ByteArray := prog_6_method_21_code
def yX4_lookWaiting : MethodName := ⟨RX4, "lookWaiting", "(I)V"⟩
abbrev cX4_lookRising : ByteArray := prog_6_method_22_code
def yX4_lookRising : MethodName := ⟨RX4, "lookRising", "(I)V"⟩
abbrev cX4_lookGood : ByteArray := prog_6_method_23_code
def yX4_lookGood : MethodName := ⟨RX4, "lookGood", "(I)V"⟩
abbrev cX4_look : ByteArray := prog_6_method_24_code
def yX4_look : MethodName := ⟨RX4, "look", "(I)V"⟩
abbrev cX4_pass : ByteArray := prog_6_method_25_code
def yX4_pass : MethodName := ⟨RX4, "pass", "()V"⟩
abbrev cX4_save : ByteArray := prog_6_method_26_code
def yX4_save : MethodName := ⟨RX4, "save", "()V"⟩
abbrev cX4_undo : ByteArray := prog_6_method_27_code
def yX4_undo : MethodName := ⟨RX4, "undo", "()I"⟩
abbrev cX4_keepAside : ByteArray := prog_6_method_28_code
def yX4_keepAside : MethodName := ⟨RX4, "keepAside", "()V"⟩
abbrev cX4_takeBack : ByteArray := prog_6_method_29_code
def yX4_takeBack : MethodName := ⟨RX4, "takeBack", "()V"⟩
abbrev cX4_isValue : ByteArray := prog_6_method_30_code
def yX4_isValue : MethodName := ⟨RX4, "isValue", "(II)Z"⟩
abbrev cX4_bring : ByteArray := prog_6_method_31_code
def yX4_bring : MethodName := ⟨RX4, "bring", "(IIII)V"⟩
abbrev cX4_addRail : ByteArray := prog_6_method_32_code
def yX4_addRail : MethodName := ⟨RX4, "addRail", "(IIII)I"⟩
abbrev cX4_replaced : ByteArray := prog_6_method_33_code
def yX4_replaced : MethodName := ⟨RX4, "replaced", "(III)I"⟩
abbrev cX4_set : ByteArray := prog_6_method_34_code
def yX4_set : MethodName := ⟨RX4, "set", "(III)I"⟩
abbrev cX4_setNeeds : ByteArray := prog_6_method_35_code
def yX4_setNeeds : MethodName := ⟨RX4, "setNeeds", "(II)I"⟩
abbrev cX4_setResidue : ByteArray := prog_6_method_36_code
def yX4_setResidue : MethodName := ⟨RX4, "setResidue", "(I)I"⟩
abbrev cX4_maskOf : ByteArray := prog_6_method_37_code
def yX4_maskOf : MethodName := ⟨RX4, "maskOf", "(II)I"⟩
abbrev cX4_on : ByteArray := prog_6_method_38_code
def yX4_on : MethodName := ⟨RX4, "on", "(I)I"⟩
abbrev cX4_unwant : ByteArray := prog_6_method_39_code
def yX4_unwant : MethodName := ⟨RX4, "unwant", "(I)V"⟩
abbrev cX4_off : ByteArray := prog_6_method_40_code
def yX4_off : MethodName := ⟨RX4, "off", "(I)I"⟩
abbrev cX4_restart : ByteArray := prog_6_method_41_code
def yX4_restart : MethodName := ⟨RX4, "restart", "(I)I"⟩
abbrev cX4_shortCircuit : ByteArray := prog_6_method_42_code
def yX4_shortCircuit : MethodName := ⟨RX4, "shortCircuit", "(II)I"⟩
abbrev cX4_stick : ByteArray := prog_6_method_43_code
def yX4_stick : MethodName := ⟨RX4, "stick", "(II)I"⟩
abbrev cX4_tick : ByteArray := prog_6_method_44_code
def yX4_tick : MethodName := ⟨RX4, "tick", "(I)I"⟩
abbrev cX4_append : ByteArray := prog_6_method_45_code
def yX4_append : MethodName := ⟨RX4, "append", "(I)I"⟩
abbrev cX4_clearBuffer : ByteArray := prog_6_method_46_code
def yX4_clearBuffer : MethodName := ⟨RX4, "clearBuffer", "()I"⟩
abbrev cX4_beginRail : ByteArray := prog_6_method_47_code
def yX4_beginRail : MethodName := ⟨RX4, "beginRail", "()V"⟩
abbrev cX4_least : ByteArray := prog_6_method_48_code
def yX4_least : MethodName := ⟨RX4, "least", "()I"⟩
abbrev cX4_takesDigit : ByteArray := prog_6_method_49_code
def yX4_takesDigit : MethodName := ⟨RX4, "takesDigit", "(I)Z"⟩
abbrev cX4_isNumberOver : ByteArray := prog_6_method_50_code
def yX4_isNumberOver : MethodName := ⟨RX4, "isNumberOver", "()Z"⟩
abbrev cX4_isRailOver : ByteArray := prog_6_method_51_code
def yX4_isRailOver : MethodName := ⟨RX4, "isRailOver", "()Z"⟩
abbrev cX4_takes : ByteArray := prog_6_method_52_code
def yX4_takes : MethodName := ⟨RX4, "takes", "(I)Z"⟩
abbrev cX4_readText : ByteArray := prog_6_method_53_code
def yX4_readText : MethodName := ⟨RX4, "readText", "()I"⟩
abbrev cX4_firstError : ByteArray := prog_6_method_54_code
def yX4_firstError : MethodName := ⟨RX4, "firstError", "()I"⟩
abbrev cX4_isEarlier : ByteArray := prog_6_method_55_code
def yX4_isEarlier : MethodName := ⟨RX4, "isEarlier", "()Z"⟩
abbrev cX4_load : ByteArray := prog_6_method_56_code
def yX4_load : MethodName := ⟨RX4, "load", "()I"⟩
abbrev cX4_firstBlame : ByteArray := prog_6_method_57_code
def yX4_firstBlame : MethodName := ⟨RX4, "firstBlame", "(I)I"⟩
abbrev cX4_railNow : ByteArray := prog_6_method_58_code
def yX4_railNow : MethodName := ⟨RX4, "railNow", "(II)I"⟩
abbrev cX4_rail : ByteArray := prog_6_method_59_code
def yX4_rail : MethodName := ⟨RX4, "rail", "(II)I"⟩
abbrev cX4_account : ByteArray := prog_6_method_60_code
def yX4_account : MethodName := ⟨RX4, "account", "(II)I"⟩
abbrev cX4_entryNow : ByteArray := prog_6_method_61_code
def yX4_entryNow : MethodName := ⟨RX4, "entryNow", "(II)I"⟩
abbrev cX4_entry : ByteArray := prog_6_method_62_code
def yX4_entry : MethodName := ⟨RX4, "entry", "(II)I"⟩
abbrev cX4_forget : ByteArray := prog_6_method_63_code
def yX4_forget : MethodName := ⟨RX4, "forget", "(I)I"⟩
abbrev cX4_voltages : ByteArray := prog_6_method_64_code
def yX4_voltages : MethodName := ⟨RX4, "voltages", "()I"⟩
abbrev cX4_isStill : ByteArray := prog_6_method_65_code
def yX4_isStill : MethodName := ⟨RX4, "isStill", "()Z"⟩
abbrev cX4_counted : ByteArray := prog_6_method_66_code
def yX4_counted : MethodName := ⟨RX4, "counted", "(I)I"⟩
abbrev cX4_count : ByteArray := prog_6_method_67_code
def yX4_count : MethodName := ⟨RX4, "count", "(I)I"⟩
abbrev cX4_isAllGood : ByteArray := prog_6_method_68_code
def yX4_isAllGood : MethodName := ⟨RX4, "isAllGood", "()Z"⟩
abbrev cX4_isAllOff : ByteArray := prog_6_method_69_code
def yX4_isAllOff : MethodName := ⟨RX4, "isAllOff", "()Z"⟩
abbrev cX4_goesIn : ByteArray := prog_6_method_70_code
def yX4_goesIn : MethodName := ⟨RX4, "goesIn", "(Z)I"⟩
abbrev cX4_allGoodIn : ByteArray := prog_6_method_71_code
def yX4_allGoodIn : MethodName := ⟨RX4, "allGoodIn", "()I"⟩
abbrev cX4_allOffIn : ByteArray := prog_6_method_72_code
def yX4_allOffIn : MethodName := ⟨RX4, "allOffIn", "()I"⟩
abbrev cX4_shortAnswer : ByteArray := prog_6_method_73_code
def yX4_shortAnswer : MethodName := ⟨RX4, "shortAnswer", "(III)I"⟩
abbrev cX4_ifShort : ByteArray := prog_6_method_74_code
def yX4_ifShort : MethodName := ⟨RX4, "ifShort", "(III)I"⟩
abbrev cX4_patienceFor : ByteArray := prog_6_method_75_code
def yX4_patienceFor : MethodName := ⟨RX4, "patienceFor", "(I)I"⟩
abbrev cX4_leastPatience : ByteArray := prog_6_method_76_code
def yX4_leastPatience : MethodName := ⟨RX4, "leastPatience", "(I)I"⟩
abbrev cX4_shareNow : ByteArray := prog_6_method_77_code
def yX4_shareNow : MethodName := ⟨RX4, "shareNow", "()D"⟩
abbrev cX4_goodShare : ByteArray := prog_6_method_78_code
def yX4_goodShare : MethodName := ⟨RX4, "goodShare", "()D"⟩
abbrev cX4_mix : ByteArray := prog_6_method_79_code
def yX4_mix : MethodName := ⟨RX4, "mix", "(J)V"⟩
abbrev cX4_mixRail : ByteArray := prog_6_method_80_code
def yX4_mixRail : MethodName := ⟨RX4, "mixRail", "(I)V"⟩
abbrev cX4_digest : ByteArray := prog_6_method_81_code
def yX4_digest : MethodName := ⟨RX4, "digest", "()J"⟩
def RJxe99ae : String := "java/lang/Double"
def TJxe99ae : u_T := fun k => match k with
  | _ => ("", "", "", false)
def tyJxe99ae : Nat → FieldType := fun k => match k with
  | _ => .int
abbrev wsJxe99ae0 : List Cond := u_ws RJxe99ae TJxe99ae 0
theorem nmJxe99ae : ∀ a, a < 0 → ∀ b, b < 0 → a ≠ b → (TJxe99ae a).2.1 ≠ (TJxe99ae b).2.1 := by decide +kernel
theorem tyJxe99ae_ok : ∀ k, k < 0 → parseFieldDescriptor (TJxe99ae k).2.2.1 = some (tyJxe99ae k) := by decide +kernel
abbrev cJxe99ae_isNaN_b9ae7 : ByteArray := prog_7_method_6_code
def yJxe99ae_isNaN_b9ae7 : MethodName := ⟨RJxe99ae, "isNaN", "(D)Z"⟩
abbrev cJxe99ae_doubleToLongBits_ccdee : ByteArray := prog_7_method_23_code
def yJxe99ae_doubleToLongBits_ccdee : MethodName := ⟨RJxe99ae, "doubleToLongBits", "(D)J"⟩
def RJ9 : String := "java/lang/Math"
def TJ9 : u_T := fun k => match k with
  | _ => ("", "", "", false)
def tyJ9 : Nat → FieldType := fun k => match k with
  | _ => .int
abbrev wsJ90 : List Cond := u_ws RJ9 TJ9 0
theorem nmJ9 : ∀ a, a < 0 → ∀ b, b < 0 → a ≠ b → (TJ9 a).2.1 ≠ (TJ9 b).2.1 := by decide +kernel
theorem tyJ9_ok : ∀ k, k < 0 → parseFieldDescriptor (TJ9 k).2.2.1 = some (tyJ9 k) := by decide +kernel
abbrev cJ9_max_7cf53 : ByteArray := prog_12_method_65_code
def yJ9_max_7cf53 : MethodName := ⟨RJ9, "max", "(II)I"⟩
abbrev cJ9_min_7cf53 : ByteArray := prog_12_method_69_code
def yJ9_min_7cf53 : MethodName := ⟨RJ9, "min", "(II)I"⟩
def RJ0 : String := "java/lang/String"
def TJ0 : u_T := fun k => match k with
  | _ => ("", "", "", false)
def tyJ0 : Nat → FieldType := fun k => match k with
  | _ => .int
abbrev wsJ00 : List Cond := u_ws RJ0 TJ0 0
theorem nmJ0 : ∀ a, a < 0 → ∀ b, b < 0 → a ≠ b → (TJ0 a).2.1 ≠ (TJ0 b).2.1 := by decide +kernel
theorem tyJ0_ok : ∀ k, k < 0 → parseFieldDescriptor (TJ0 k).2.2.1 = some (tyJ0 k) := by decide +kernel
def RJ10 : String := "java/lang/System"
def TJ10 : u_T := fun k => match k with
  | _ => ("", "", "", false)
def tyJ10 : Nat → FieldType := fun k => match k with
  | _ => .int
abbrev wsJ100 : List Cond := u_ws RJ10 TJ10 0
theorem nmJ10 : ∀ a, a < 0 → ∀ b, b < 0 → a ≠ b → (TJ10 a).2.1 ≠ (TJ10 b).2.1 := by decide +kernel
theorem tyJ10_ok : ∀ k, k < 0 → parseFieldDescriptor (TJ10 k).2.2.1 = some (tyJ10 k) := by decide +kernel
def RL : String := "RailSequenceLaw"
abbrev cL_addRail : ByteArray := method_3_code
def yL_addRail : MethodName := ⟨RL, "addRail", "(LRailSequence;IIII[J)I"⟩
abbrev cL_set : ByteArray := method_4_code
def yL_set : MethodName := ⟨RL, "set", "(LRailSequence;III[J)I"⟩
abbrev cL_setNeeds : ByteArray := method_5_code
def yL_setNeeds : MethodName := ⟨RL, "setNeeds", "(LRailSequence;II[J)I"⟩
abbrev cL_setResidue : ByteArray := method_6_code
def yL_setResidue : MethodName := ⟨RL, "setResidue", "(LRailSequence;I[J)I"⟩
abbrev cL_on : ByteArray := method_7_code
def yL_on : MethodName := ⟨RL, "on", "(LRailSequence;I[J)I"⟩
abbrev cL_off : ByteArray := method_8_code
def yL_off : MethodName := ⟨RL, "off", "(LRailSequence;I[J)I"⟩
abbrev cL_restart : ByteArray := method_9_code
def yL_restart : MethodName := ⟨RL, "restart", "(LRailSequence;I[J)I"⟩
abbrev cL_shortCircuit : ByteArray := method_10_code
def yL_shortCircuit : MethodName := ⟨RL, "shortCircuit", "(LRailSequence;II[J)I"⟩
abbrev cL_stick : ByteArray := method_11_code
def yL_stick : MethodName := ⟨RL, "stick", "(LRailSequence;II[J)I"⟩
abbrev cL_tick : ByteArray := method_12_code
def yL_tick : MethodName := ⟨RL, "tick", "(LRailSequence;I[J)I"⟩
abbrev cL_append : ByteArray := method_13_code
def yL_append : MethodName := ⟨RL, "append", "(LRailSequence;I[J)I"⟩
abbrev cL_load : ByteArray := method_14_code
def yL_load : MethodName := ⟨RL, "load", "(LRailSequence;[J)I"⟩
abbrev cL_undo : ByteArray := method_15_code
def yL_undo : MethodName := ⟨RL, "undo", "(LRailSequence;[J)I"⟩
abbrev cL_rail : ByteArray := method_16_code
def yL_rail : MethodName := ⟨RL, "rail", "(LRailSequence;II[J)I"⟩
abbrev cL_account : ByteArray := method_17_code
def yL_account : MethodName := ⟨RL, "account", "(LRailSequence;II[J)I"⟩
abbrev cL_entry : ByteArray := method_18_code
def yL_entry : MethodName := ⟨RL, "entry", "(LRailSequence;II[J)I"⟩
abbrev cL_forget : ByteArray := method_19_code
def yL_forget : MethodName := ⟨RL, "forget", "(LRailSequence;I[J)I"⟩
abbrev cL_count : ByteArray := method_20_code
def yL_count : MethodName := ⟨RL, "count", "(LRailSequence;I[J)I"⟩
abbrev cL_ifShort : ByteArray := method_21_code
def yL_ifShort : MethodName := ⟨RL, "ifShort", "(LRailSequence;III[J)I"⟩
abbrev cL_leastPatience : ByteArray := method_22_code
def yL_leastPatience : MethodName := ⟨RL, "leastPatience", "(LRailSequence;I[J)I"⟩
abbrev cL_law : ByteArray := code
def yL_law : MethodName := ⟨RL, "law", "([I)Z"⟩
abbrev vwCl : List vw_C := [(RX0, TX0, 2), (RX1, TX1, 18), (RX2, TX2, 4), (RX3, TX3, 7), (RX4, TX4, 16)]
/-- the words that every method may use: those of the tables that a call carries over -/
def AW : List Cond := lw_tbl.filter goodWord
theorem aw_in {w : Cond} (h : w ∈ lw_tbl) (g : goodWord w = true) : w ∈ AW := List.mem_filter.mpr ⟨h, g⟩
theorem aw0 {w : Cond} (i : Nat) (h : (k2_sels lw_privs)[i]? = some w) (g : goodWord w = true) : w ∈ AW := aw_in (List.mem_append_left _ (List.mem_of_getElem? h)) g
theorem aw1 {w : Cond} (i : Nat) (h : tables_1_1[i]? = some w) (g : goodWord w = true) : w ∈ AW := aw_in (List.mem_append_right _ (List.mem_append_left _ (List.mem_of_getElem? h))) g
theorem aw2 {w : Cond} (i : Nat) (h : tables_1_2[i]? = some w) (g : goodWord w = true) : w ∈ AW := aw_in (List.mem_append_right _ (List.mem_append_right _ (List.mem_append_left _ (List.mem_of_getElem? h)))) g
theorem aw3 {w : Cond} (i : Nat) (h : tables_1_3[i]? = some w) (g : goodWord w = true) : w ∈ AW := aw_in (List.mem_append_right _ (List.mem_append_right _ (List.mem_append_right _ (List.mem_append_left _ (List.mem_of_getElem? h))))) g
theorem aw4 {w : Cond} (i : Nat) (h : tables_1_4[i]? = some w) (g : goodWord w = true) : w ∈ AW := aw_in (List.mem_append_right _ (List.mem_append_right _ (List.mem_append_right _ (List.mem_append_right _ (List.mem_append_left _ (List.mem_of_getElem? h)))))) g
theorem aw5 {w : Cond} (i : Nat) (h : tables_1_5[i]? = some w) (g : goodWord w = true) : w ∈ AW := aw_in (List.mem_append_right _ (List.mem_append_right _ (List.mem_append_right _ (List.mem_append_right _ (List.mem_append_right _ (List.mem_of_getElem? h)))))) g
theorem AW_good {big : List Cond} (h : ∀ w ∈ AW, w ∈ big) : GoodIn big AW := fun w hw => ⟨h w hw, good_of_word (List.mem_filter.mp hw).2⟩
end
section
/-! A small heap: cells by number; the machine's cell of number i lies at 'gad g i'. 'EE K a pc L S h': from this place of the method, with these locals, this operand stack and this small heap, the walk comes to its end. -/
abbrev MC : Type := (Nat × vp_A) ⊕ (Nat × List Value)
abbrev MH : Type := List MC
def mv (ad : Nat → Nat) : Value → Value
  | .ref a => .ref (ad a)
  | v => v
def ma (ad : Nat → Nat) (a : vp_A) : vp_A := (a.1, match a.2 with
  | .inr (.inr (.inr (.inr f))) => .inr (.inr (.inr (.inr (fun j => (f j).map ad))))
  | x => x)
def mcl (ad : Nat → Nat) (cA : Nat → ClassId) (c : MC) : va_E := match c with
  | .inl p => .inl (cA p.1, ma ad p.2)
  | .inr o => .inr (o.1, o.2.map (mv ad))
def mw (ad : Nat → Nat) (cA : Nat → ClassId) (h : MH) : va_W := h.mapIdx (fun i c => (ad i, mcl ad cA c))
theorem mw_get {ad : Nat → Nat} {cA : Nat → ClassId} {h : MH} {k : Nat} {c : MC} (e : h[k]? = some c) : (mw ad cA h)[k]? = some (ad k, mcl ad cA c) := by
  simp [mw, e]
theorem mw_at {ad : Nat → Nat} {cA : Nat → ClassId} {h : MH} {k : Nat} {q : Nat × va_E} (e : (mw ad cA h)[k]? = some q) : ∃ c, h[k]? = some c ∧ q = (ad k, mcl ad cA c) := by
  simp only [mw, List.getElem?_mapIdx, Option.map_eq_some_iff] at e
  obtain ⟨c, e1, e2⟩ := e
  exact ⟨c, e1, e2.symm⟩
theorem mw_set {ad : Nat → Nat} {cA : Nat → ClassId} {h : MH} {k : Nat} {c : MC} : (mw ad cA h).set k (ad k, mcl ad cA c) = mw ad cA (h.set k c) := by
  apply List.ext_getElem?
  intro i
  simp only [mw, List.getElem?_set, List.getElem?_mapIdx, List.length_mapIdx]
  by_cases hi : k = i
  · subst hi
    by_cases hl : k < h.length
    · simp [hl]
    · simp [hl]
  · simp [hi]
theorem mw_push {ad : Nat → Nat} {cA : Nat → ClassId} {h : MH} {c : MC} : mw ad cA h ++ [(ad h.length, mcl ad cA c)] = mw ad cA (h ++ [c]) := by
  simp [mw, List.mapIdx_append]
theorem mw_len {ad : Nat → Nat} {cA : Nat → ClassId} {h : MH} : (mw ad cA h).length = h.length := by simp [mw]
abbrev Gx : Type := Launch × (Nat → Nat) × Nat × (Nat × (Nat → Int32)) × va_G × (Nat → ClassId)
abbrev gl (g : Gx) : Launch := g.1
abbrev gad (g : Gx) : Nat → Nat := g.2.1
abbrev gb (g : Gx) : Nat := g.2.2.1
abbrev gsc (g : Gx) : Nat × (Nat → Int32) := g.2.2.2.1
abbrev gD (g : Gx) : va_G := g.2.2.2.2.1
abbrev gcA (g : Gx) : Nat → ClassId := g.2.2.2.2.2
def gA (g : Gx) : Nat → Prop := fun q => gb g ≤ q
def gtys (cA : Nat → ClassId) : List (ClassId × FieldType) := [(cA 0, .int), (cA 1, .long), (cA 2, .object "RailSequence$Plant")]
def roL : Nat → Int32 := fun j => ([100, 1, 1, 50, 0, 1, 1] : List Int32).getD j 0
def roM : Nat → Int32 := fun j => ([5000, 1000, 1000, 100, 50, 200, 4] : List Int32).getD j 0
def gro (g : Gx) (i : Nat) : Nat × (Nat → Int32) := match i with
  | 0 => gsc g
  | 1 => (7, roL)
  | _ => (7, roM)
abbrev RO : Nat := 1000000
/-- the strings that exceptions are made with; pairs of classes of which the first is not the second's; words that hold beside AW's -/
def XS : List (Nat × String) := [(40, "target, rise or fall is out of range"), (49, "needs has a bit of no rail"), (57, "there are 8 rails"), (72, "no such rail or property"), (75, "value is out of range"), (84, "no such rail"), (89, "needs has a bit of no earlier rail"), (94, "the rail is neither off nor failed"), (99, "residue is out of range"), (104, "rails has a bit of no rail"), (119, "the rail is not wanted"), (124, "ticks is out of range"), (129, "how is not 0 to 2"), (137, "the number of the tick would be above 20000"), (143, "code is not 33 to 126"), (148, "the buffer has 60 characters"), (157, "the buffer is not a complete text"), (162, "too many rails, or a needed rail is not earlier"), (171, "there is no saved state"), (173, "what is not 0 to 18"), (178, "what is not 0 to 3"), (185, "back is not 0 to 15, or what is not 0 to 3"), (200, "what is not 0 to 9"), (214, "ticks or what is out of range")]
def XN : List (String × String) := [("java/lang/IllegalStateException", "java/lang/IllegalArgumentException"), ("java/lang/IllegalArgumentException", "java/lang/IllegalStateException"), ("java/lang/IllegalArgumentException", "java/lang/IndexOutOfBoundsException"), ("java/lang/IllegalStateException", "java/lang/IndexOutOfBoundsException")]
def XNest : Cond → Bool
  | .fieldLinkNest .. => true
  | .methodLinkNest .. => true
  | .declares .. => true
  | .castable .. => true
  | _ => false
def XW : List Cond := tables_1.filter XNest
theorem XW_warm {w : Cond} (h : XNest w = true) {s U : State} (hW : s.WarmedH U.vm) (hZ : va_Nw w s) : va_Nw w U := by
  cases w <;> first | exact va_Nw.warmF hW hZ | exact va_Nw.warmM hW hZ | exact va_Nw.warmD hW hZ | exact va_Nw.warmC hW hZ | (simp [XNest] at h; done)
/-- what holds of every state that a method of ours is begun in -/
def Bg (g : Gx) (U : State) : Prop :=
  va_K (gD g) vwCl (gtys (gcA g)) U ∧ (∀ i, i < 3 → va_X (gad g (RO + i)) (gro g i).1 (gro g i).2 U U.heap ∧ gad g (RO + i) < gb g) ∧ gb g ≤ U.heap.size ∧
  va_Z "RailSequence" "LEAST" "[I" (.ref (gad g (RO + 1))) (gA g) U U.heap ∧ va_Z "RailSequence" "MOST" "[I" (.ref (gad g (RO + 2))) (gA g) U U.heap ∧
  vx_Zq Bundle.tN "UNASSIGNED_STACK" Bundle.steD (gA g) U U.heap ∧ vx_Zq Bundle.tN "SUPPRESSED_SENTINEL" Bundle.listD (gA g) U U.heap ∧
  (∀ i, i < 1000 → gad g i = gb g + i) ∧ (∀ q ∈ XS, ∃ sa, vk_R "RailSequence" q.1 q.2 sa U) ∧ (∀ q ∈ XN, va_Nc q.1 q.2 U) ∧ (∀ w ∈ XW, va_Nw w U) ∧ (gl g).stackTraces = false ∧ va_AO "RailSequence$Plant" U
theorem Bg.to {g : Gx} {s U : State} (h : Bg g s) (hW : s.WarmedH U.vm) (hz : s.heap.size ≤ U.heap.size) (hk : ∀ q : Nat, q < s.heap.size → ¬ gA g q → U.heap[q]? = s.heap[q]?) : Bg g U := by
  obtain ⟨h1, h2, h3, h4, h5, h6, h7, h8, h9, h10, h11, h12, h13⟩ := h
  have hvm := hW.alike
  refine ⟨va_K.moved hvm h1, fun i hi => ⟨?_, (h2 i hi).2⟩, Nat.le_trans h3 hz, (h4.moved hvm).kept hk, (h5.moved hvm).kept hk, (h6.moved hvm).kept hk, (h7.moved hvm).kept hk, h8, fun q hq => ?_, fun q hq => (h10 q hq).moved hvm, fun w hw => XW_warm (List.mem_filter.mp hw).2 hW (h11 w hw), h12, h13.moved hvm⟩
  · obtain ⟨a1, a2⟩ := h2 i hi
    refine (a1.moved hvm).kept (hk _ (Nat.lt_of_lt_of_le a2 h3) (fun z => ?_))
    exact absurd z (Nat.not_le.mpr a2)
  · obtain ⟨sa, a1⟩ := h9 q hq
    exact ⟨sa, a1.warm hW⟩
/-- the small heap and the machine's -/
def Rel (g : Gx) (fr : Bool) (h : MH) (H : Heap) : Prop :=
  va_P (gD g) vwCl (mw (gad g) (gcA g) h) H ∧ gb g + h.length ≤ H.size ∧ (fr = true → H.size = gb g + h.length) ∧ h.length ≤ 1000
theorem mw_D {g : Gx} (h8 : ∀ i, i < 1000 → gad g i = gb g + i) {h : MH} (hl : h.length ≤ 1000) : va_D (gA g) (mw (gad g) (gcA g) h) := by
  have key : ∀ (k : Nat) (q : Nat × va_E), (mw (gad g) (gcA g) h)[k]? = some q → k < h.length ∧ q.1 = gb g + k := by
    intro k q hq
    obtain ⟨c, e1, rfl⟩ := mw_at hq
    have hk : k < h.length := (List.getElem?_eq_some_iff.mp e1).1
    exact ⟨hk, h8 k (by omega)⟩
  refine ⟨fun i j p q hi hj e => ?_, fun k q hq => ?_⟩
  · have a := (key i p hi).2
    have b := (key j q hj).2
    omega
  · rw [(key k q hq).2]
    exact Nat.le_add_right _ _
/-- where a walk stands: the claim's own words, the machine's, the method's, what its end must meet -/
abbrev Cx : Type := Gx × (Program × Env × Room × State) × (MethodId × Array Value × List Frame × Method × Code) × (State → Prop)
def WW (K : Cx) (H : Heap) (locs : List Loc) (cells slots : Nat) (g : JFrame) : Prop :=
  W K.2.1.1 (gl K.1) K.2.1.2.1 K.2.1.2.2.1 K.2.1.2.2.2 K.2.2.1.1 K.2.2.1.2.1 K.2.2.1.2.2.1 K.2.2.1.2.2.2.1 K.2.2.1.2.2.2.2 H locs cells slots K.2.2.2 g
abbrev kR (K : Cx) : Room := K.2.1.2.2.1
abbrev ks (K : Cx) : State := K.2.1.2.2.2
abbrev km (K : Cx) : MethodId := K.2.2.1.1
abbrev kargs (K : Cx) : Array Value := K.2.2.1.2.1
abbrev kmeth (K : Cx) : Method := K.2.2.1.2.2.2.1
abbrev kc (K : Cx) : Code := K.2.2.1.2.2.2.2
/-- the locals -/
def LR (ad : Nat → Nat) (nL : Nat) (L : List (Option Value)) (ls : Array Slot) : Prop :=
  ls.size = nL ∧ L.length = nL ∧ lv_wf ls ∧ ∀ (i : Nat) (v : Value), L[i]? = some (some v) → ls[i]? = some (.val (mv ad v))
def EE (K : Cx) (a : Bool × Nat × Nat) (pc : Nat) (L : List (Option Value)) (S : List Value) (h : MH) : Prop :=
  ∀ (H : Heap) (ls : Array Slot) (locs : List Loc), Rel K.1 a.1 h H → va_S (gA K.1) (ks K).heap H locs → LR (gad K.1) (kc K).maxLocals L ls →
    WW K H locs a.2.1 a.2.2 (F0 (km K) pc ls (S.map (mv (gad K.1))))
/-- the facts of the method that is walked: its class, its code, its locals, its room -/
def Ok (K : Cx) (own : String) (cc : ByteArray) (nL : Nat) (R : Room) : Prop :=
  K.2.1.1.tables.exec = Jvm.exec ∧ (kc K).code = cc ∧ (kc K).maxLocals = nL ∧ (ks K).vm.findClass own = some (km K).cls ∧ (∀ w ∈ AW, w.before (kargs K) (ks K) = true) ∧ Bg K.1 (ks K) ∧ kR K = R ∧ (kmeth K).locks = false
variable {K : Cx} {own : String} {cc : ByteArray} {nL : Nat} {R : Room} {a : Bool × Nat × Nat} {pc : Nat} {L : List (Option Value)} {S : List Value} {h : MH}
theorem Ok.x (O : Ok K own cc nL R) : K.2.1.1.tables.exec = Jvm.exec := O.1
theorem Ok.b (O : Ok K own cc nL R) : (kc K).code = cc := O.2.1
theorem Ok.ow (O : Ok K own cc nL R) : (ks K).vm.findClass own = some (km K).cls := O.2.2.2.1
theorem Ok.ws (O : Ok K own cc nL R) : ∀ w ∈ AW, w.before (kargs K) (ks K) = true := O.2.2.2.2.1
theorem Ok.bg (O : Ok K own cc nL R) : Bg K.1 (ks K) := O.2.2.2.2.2.1
theorem Ok.k (O : Ok K own cc nL R) : va_K (gD K.1) vwCl (gtys (gcA K.1)) (ks K) := O.bg.1
theorem Ok.A (O : Ok K own cc nL R) : ∀ q, (ks K).heap.size ≤ q → gA K.1 q := fun _ z => Nat.le_trans O.bg.2.2.1 z
theorem Ok.D (O : Ok K own cc nL R) {h : MH} (hl : h.length ≤ 1000) : va_D (gA K.1) (mw (gad K.1) (gcA K.1) h) := mw_D O.bg.2.2.2.2.2.2.2.1 hl
/-! locals -/
def lvl (ad : Nat → Nat) (L : List (Option Value)) : List (Nat × Value) := (List.range L.length).filterMap (fun i => match L[i]? with
  | some (some v) => some (i, mv ad v)
  | _ => none)
theorem lvl_in {ad : Nat → Nat} {L : List (Option Value)} {i : Nat} {v : Value} (h : L[i]? = some (some v)) : (i, mv ad v) ∈ lvl ad L := by
  refine List.mem_filterMap.mpr ⟨i, List.mem_range.mpr (List.getElem?_eq_some_iff.mp h).1, ?_⟩
  rw [h]
theorem lvl_of {ad : Nat → Nat} {L : List (Option Value)} {q : Nat × Value} (h : q ∈ lvl ad L) : ∃ v, L[q.1]? = some (some v) ∧ q.2 = mv ad v := by
  obtain ⟨i, -, h2⟩ := List.mem_filterMap.mp h
  split at h2
  · next v hv =>
    cases h2
    exact ⟨v, hv, rfl⟩
  · cases h2
theorem LR.has {ad : Nat → Nat} {nL : Nat} {L : List (Option Value)} {ls : Array Slot} (h : LR ad nL L ls) : lv_has ls nL (lvl ad L) := by
  refine ⟨h.1, h.2.2.1, fun q hq => ?_⟩
  obtain ⟨v, e1, e2⟩ := lvl_of hq
  rw [e2]
  exact h.2.2.2 _ _ e1
/-- the place before is not the first half of a long -/
def pok (L : List (Option Value)) (i : Nat) : Bool := match i with
  | 0 => true
  | j + 1 => match L[j]? with
    | some (some w) => w.category != 2
    | _ => true
theorem mv_cat {ad : Nat → Nat} (v : Value) : (mv ad v).category = v.category := by cases v <;> rfl
theorem LR.set1 {ad : Nat → Nat} {nL : Nat} {L : List (Option Value)} {ls ls' : Array Slot} {i : Nat} {v : Value} (h : LR ad nL L ls) (hi : i < nL) (hp : pok L i = true)
    (h' : lv_has ls' nL ((i, mv ad v) :: (lvl ad L).filter (fun q => !(q.1 == i) && !(q.1 + 1 == i && q.2.category == 2)))) : LR ad nL (L.set i (some v)) ls' := by
  refine ⟨h'.1, by rw [List.length_set]; exact h.2.1, h'.2.1, fun j w hj => ?_⟩
  rw [List.getElem?_set] at hj
  by_cases hij : i = j
  · subst hij
    rw [if_pos rfl] at hj
    split at hj
    · cases hj
      exact h'.2.2 _ List.mem_cons_self
    · cases hj
  · rw [if_neg hij] at hj
    refine h'.2.2 (j, mv ad w) (List.mem_cons_of_mem _ (List.mem_filter.mpr ⟨lvl_in hj, ?_⟩))
    simp only [Bool.and_eq_true, Bool.not_eq_true', beq_eq_false_iff_ne, ne_eq, Bool.and_eq_false_iff]
    refine ⟨fun z => hij z.symm, ?_⟩
    by_cases hj1 : j + 1 = i
    · right
      subst hj1
      simp only [pok, hj] at hp
      rw [mv_cat]
      simpa using hp
    · exact Or.inl hj1
theorem LR.set2 {ad : Nat → Nat} {nL : Nat} {L : List (Option Value)} {ls ls' : Array Slot} {i : Nat} {v : Value} (h : LR ad nL L ls) (hi : i + 1 < nL) (hp : pok L i = true)
    (h' : lv_has ls' nL ((i, mv ad v) :: (lvl ad L).filter (fun q => !(q.1 == i) && (!(q.1 == i + 1) && !(q.1 + 1 == i && q.2.category == 2))))) : LR ad nL ((L.set i (some v)).set (i + 1) none) ls' := by
  refine ⟨h'.1, by rw [List.length_set, List.length_set]; exact h.2.1, h'.2.1, fun j w hj => ?_⟩
  rw [List.getElem?_set] at hj
  by_cases hij1 : i + 1 = j
  · rw [if_pos hij1] at hj
    split at hj <;> cases hj
  rw [if_neg hij1, List.getElem?_set] at hj
  by_cases hij : i = j
  · subst hij
    rw [if_pos rfl] at hj
    split at hj
    · cases hj
      exact h'.2.2 _ List.mem_cons_self
    · cases hj
  · rw [if_neg hij] at hj
    refine h'.2.2 (j, mv ad w) (List.mem_cons_of_mem _ (List.mem_filter.mpr ⟨lvl_in hj, ?_⟩))
    simp only [Bool.and_eq_true, Bool.not_eq_true', beq_eq_false_iff_ne, ne_eq, Bool.and_eq_false_iff]
    refine ⟨fun z => hij z.symm, fun z => hij1 z.symm, ?_⟩
    by_cases hj1 : j + 1 = i
    · right
      subst hj1
      simp only [pok, hj] at hp
      rw [mv_cat]
      simpa using hp
    · exact Or.inl hj1
/-- fewer known locals -/
def subL : List (Option Value) → List (Option Value) → Prop
  | [], [] => True
  | none :: l, _ :: l' => subL l l'
  | some v :: l, x :: l' => x = some v ∧ subL l l'
  | _, _ => False
theorem subL_get (L' : List (Option Value)) : ∀ L : List (Option Value), subL L' L → L'.length = L.length ∧ ∀ (i : Nat) (v : Value), L'[i]? = some (some v) → L[i]? = some (some v) := by
  induction L' with
  | nil =>
    intro L h
    cases L with
    | nil => exact ⟨rfl, fun i v h => by simp at h⟩
    | cons x l => simp [subL] at h
  | cons y l ih =>
    intro L h
    cases L with
    | nil => cases y <;> simp [subL] at h
    | cons x l' =>
      cases y with
      | none =>
        obtain ⟨e, f⟩ := ih l' (show subL l l' from h)
        refine ⟨by simp [e], fun i v hv => ?_⟩
        cases i with
        | zero => simp at hv
        | succ i => simpa using f i v (by simpa using hv)
      | some w =>
        obtain ⟨hx, h2⟩ := (show x = some w ∧ subL l l' from h)
        subst hx
        obtain ⟨e, f⟩ := ih l' h2
        refine ⟨by simp [e], fun i v hv => ?_⟩
        cases i with
        | zero => simpa using hv
        | succ i => simpa using f i v (by simpa using hv)
theorem E_sub {L' : List (Option Value)} (hs : subL L' L) (k : EE K a pc L' S h) : EE K a pc L S h := by
  intro H ls locs hR hS hL
  obtain ⟨e, f⟩ := subL_get _ _ hs
  exact k H ls locs hR hS ⟨hL.1, e.trans hL.2.1, hL.2.2.1, fun i v hv => hL.2.2.2 i v (f i v hv)⟩
theorem E_widen {cs ss : Nat} (h1 : a.2.1 ≤ cs) (h2 : a.2.2 ≤ ss) (k : EE K (a.1, cs, ss) pc L S h) : EE K a pc L S h := by
  intro H ls locs hR hS hL
  exact W.widen h1 h2 (k H ls locs hR hS hL)
end
section
/-! one instruction, one row, over the small heap -/
variable {K : Cx} {own : String} {cc : ByteArray} {nL : Nat} {R : Room} {a : Bool × Nat × Nat} {pc : Nat} {L : List (Option Value)} {S : List Value} {h : MH}
theorem ob {α β : Type} {x : Option α} {f : α → Option β} {r : β} (hf : x.bind f = some r) : ∃ v, x = some v ∧ f v = some r := by
  cases x with
  | none => cases hf
  | some v => exact ⟨v, rfl, hf⟩
theorem os {α : Type} {x y : α} (hf : some x = some y) : x = y := Option.some.inj hf
theorem E_iadd (O : Ok K own cc nL R) {x y : Int32} (d : decode cc pc = .ok (.iadd, 1))  (kk : EE K a (pc + 1) L (.int (x + y) :: S) h) : EE K a pc L (.int y :: .int x :: S) h := fun H ls locs hR hS hL => lv_iadd O.x O.b d  (kk H ls locs hR hS hL)
theorem E_isub (O : Ok K own cc nL R) {x y : Int32} (d : decode cc pc = .ok (.isub, 1))  (kk : EE K a (pc + 1) L (.int (x - y) :: S) h) : EE K a pc L (.int y :: .int x :: S) h := fun H ls locs hR hS hL => lv_isub O.x O.b d  (kk H ls locs hR hS hL)
theorem E_imul (O : Ok K own cc nL R) {x y : Int32} (d : decode cc pc = .ok (.imul, 1))  (kk : EE K a (pc + 1) L (.int (x * y) :: S) h) : EE K a pc L (.int y :: .int x :: S) h := fun H ls locs hR hS hL => lv_imul O.x O.b d  (kk H ls locs hR hS hL)
theorem E_iand (O : Ok K own cc nL R) {x y : Int32} (d : decode cc pc = .ok (.iand, 1))  (kk : EE K a (pc + 1) L (.int (x &&& y) :: S) h) : EE K a pc L (.int y :: .int x :: S) h := fun H ls locs hR hS hL => lv_iand O.x O.b d  (kk H ls locs hR hS hL)
theorem E_ior (O : Ok K own cc nL R) {x y : Int32} (d : decode cc pc = .ok (.ior, 1))  (kk : EE K a (pc + 1) L (.int (x ||| y) :: S) h) : EE K a pc L (.int y :: .int x :: S) h := fun H ls locs hR hS hL => lv_ior O.x O.b d  (kk H ls locs hR hS hL)
theorem E_ixor (O : Ok K own cc nL R) {x y : Int32} (d : decode cc pc = .ok (.ixor, 1))  (kk : EE K a (pc + 1) L (.int (x ^^^ y) :: S) h) : EE K a pc L (.int y :: .int x :: S) h := fun H ls locs hR hS hL => lv_ixor O.x O.b d  (kk H ls locs hR hS hL)
theorem E_ishl (O : Ok K own cc nL R) {x y : Int32} (d : decode cc pc = .ok (.ishl, 1))  (kk : EE K a (pc + 1) L (.int (x <<< (y &&& 31)) :: S) h) : EE K a pc L (.int y :: .int x :: S) h := fun H ls locs hR hS hL => lv_ishl O.x O.b d  (kk H ls locs hR hS hL)
theorem E_ishr (O : Ok K own cc nL R) {x y : Int32} (d : decode cc pc = .ok (.ishr, 1))  (kk : EE K a (pc + 1) L (.int (x >>> (y &&& 31)) :: S) h) : EE K a pc L (.int y :: .int x :: S) h := fun H ls locs hR hS hL => lv_ishr O.x O.b d  (kk H ls locs hR hS hL)
theorem E_ineg (O : Ok K own cc nL R) {x : Int32} (d : decode cc pc = .ok (.ineg, 1))  (kk : EE K a (pc + 1) L (.int (-x) :: S) h) : EE K a pc L (.int x :: S) h := fun H ls locs hR hS hL => lv_ineg O.x O.b d  (kk H ls locs hR hS hL)
theorem E_ladd (O : Ok K own cc nL R) {x y : Int64} (d : decode cc pc = .ok (.ladd, 1))  (kk : EE K a (pc + 1) L (.long (x + y) :: S) h) : EE K a pc L (.long y :: .long x :: S) h := fun H ls locs hR hS hL => lv_ladd O.x O.b d  (kk H ls locs hR hS hL)
theorem E_lsub (O : Ok K own cc nL R) {x y : Int64} (d : decode cc pc = .ok (.lsub, 1))  (kk : EE K a (pc + 1) L (.long (x - y) :: S) h) : EE K a pc L (.long y :: .long x :: S) h := fun H ls locs hR hS hL => lv_lsub O.x O.b d  (kk H ls locs hR hS hL)
theorem E_lmul (O : Ok K own cc nL R) {x y : Int64} (d : decode cc pc = .ok (.lmul, 1))  (kk : EE K a (pc + 1) L (.long (x * y) :: S) h) : EE K a pc L (.long y :: .long x :: S) h := fun H ls locs hR hS hL => lv_lmul O.x O.b d  (kk H ls locs hR hS hL)
theorem E_lshl (O : Ok K own cc nL R) {x : Int64} {y : Int32} (d : decode cc pc = .ok (.lshl, 1))  (kk : EE K a (pc + 1) L (.long (x <<< (y.toInt64 &&& 63)) :: S) h) : EE K a pc L (.int y :: .long x :: S) h := fun H ls locs hR hS hL => lv_lshl O.x O.b d rfl (kk H ls locs hR hS hL)
theorem E_i2l (O : Ok K own cc nL R) {x : Int32} (d : decode cc pc = .ok (.i2l, 1))  (kk : EE K a (pc + 1) L (.long x.toInt64 :: S) h) : EE K a pc L (.int x :: S) h := fun H ls locs hR hS hL => lv_i2l O.x O.b d rfl (kk H ls locs hR hS hL)
theorem E_lcmp (O : Ok K own cc nL R) {x y : Int64} (d : decode cc pc = .ok (.lcmp, 1))  (kk : EE K a (pc + 1) L (.int (lg_cmp x y) :: S) h) : EE K a pc L (.long y :: .long x :: S) h := fun H ls locs hR hS hL => W.lcmp O.x O.b d  (kk H ls locs hR hS hL)
theorem E_i2d (O : Ok K own cc nL R) {x : Int32} (d : decode cc pc = .ok (.i2d, 1))  (kk : EE K a (pc + 1) L (.double (FP.i2d x) :: S) h) : EE K a pc L (.int x :: S) h := fun H ls locs hR hS hL => lv_i2d O.x O.b d  (kk H ls locs hR hS hL)
theorem E_d2l (O : Ok K own cc nL R) {x : UInt64} (d : decode cc pc = .ok (.d2l, 1))  (kk : EE K a (pc + 1) L (.long (FP.d2l x) :: S) h) : EE K a pc L (.double x :: S) h := fun H ls locs hR hS hL => lv_d2l O.x O.b d  (kk H ls locs hR hS hL)
theorem E_dcmp (O : Ok K own cc nL R) {x y : UInt64} {op : CmpOp} (d : decode cc pc = .ok (.dcmp op, 1))  (kk : EE K a (pc + 1) L (.int (Op.cmpValue (FP.dcmp x y) op) :: S) h) : EE K a pc L (.double y :: .double x :: S) h := fun H ls locs hR hS hL => lv_dcmp O.x O.b d  (kk H ls locs hR hS hL)
theorem E_dconst0 (O : Ok K own cc nL R)  (d : decode cc pc = .ok (.dconst 0, 1))  (kk : EE K a (pc + 1) L (.double 0 :: S) h) : EE K a pc L (S) h := fun H ls locs hR hS hL => lv_dconst0 O.x O.b d  (kk H ls locs hR hS hL)
theorem E_dconst1 (O : Ok K own cc nL R)  (d : decode cc pc = .ok (.dconst 1, 1))  (kk : EE K a (pc + 1) L (.double 4607182418800017408 :: S) h) : EE K a pc L (S) h := fun H ls locs hR hS hL => lv_dconst1 O.x O.b d  (kk H ls locs hR hS hL)
theorem E_lconst (O : Ok K own cc nL R) {n : Fin 2} (v : Int64) (d : decode cc pc = .ok (.lconst n, 1)) (hv : Int64.ofNat (n : Nat) = v) (kk : EE K a (pc + 1) L (.long v :: S) h) : EE K a pc L (S) h := fun H ls locs hR hS hL => lv_lconst O.x O.b d hv (kk H ls locs hR hS hL)
theorem E_iconst (O : Ok K own cc nL R) {n : Int} (v : Int32) (d : decode cc pc = .ok (.iconst n, 1)) (hv : Int32.ofInt n = v) (kk : EE K a (pc + 1) L (.int v :: S) h) : EE K a pc L (S) h := fun H ls locs hR hS hL => lv_iconst O.x O.b d hv (kk H ls locs hR hS hL)
theorem E_bipush (O : Ok K own cc nL R) {n : Int} (v : Int32) (d : decode cc pc = .ok (.bipush n, 2)) (hv : (Int8.ofInt n).toInt32 = v) (kk : EE K a (pc + 2) L (.int v :: S) h) : EE K a pc L (S) h := fun H ls locs hR hS hL => lv_bipush O.x O.b d hv (kk H ls locs hR hS hL)
theorem E_sipush (O : Ok K own cc nL R) {n : Int} (v : Int32) (d : decode cc pc = .ok (.sipush n, 3)) (hv : (Int16.ofInt n).toInt32 = v) (kk : EE K a (pc + 3) L (.int v :: S) h) : EE K a pc L (S) h := fun H ls locs hR hS hL => lv_sipush O.x O.b d hv (kk H ls locs hR hS hL)
/-- an arithmetic of doubles whose answer is no NaN -/
def fdsub (x y : UInt64) : Option UInt64 := if FP.dsub x y &&& 0x7fffffffffffffff ≤ 0x7ff0000000000000 then some (FP.dsub x y) else none
theorem E_dsub (O : Ok K own cc nL R) {x y : UInt64} {ρ : Type} {f : UInt64 → Option ρ} {out : ρ} (d : decode cc pc = .ok (.dsub, 1)) (hf : (fdsub x y).bind f = some out) (kk : ∀ z, f z = some out → EE K a (pc + 1) L (.double z :: S) h) : EE K a pc L (.double y :: .double x :: S) h := by
  intro H ls locs hR hS hL
  unfold fdsub at hf
  split at hf
  · next hn => exact lv_dsub O.x O.b d hn (kk _ hf H ls locs hR hS hL)
  · cases hf
/-- an arithmetic of doubles whose answer is no NaN -/
def fdmul (x y : UInt64) : Option UInt64 := if FP.dmul x y &&& 0x7fffffffffffffff ≤ 0x7ff0000000000000 then some (FP.dmul x y) else none
theorem E_dmul (O : Ok K own cc nL R) {x y : UInt64} {ρ : Type} {f : UInt64 → Option ρ} {out : ρ} (d : decode cc pc = .ok (.dmul, 1)) (hf : (fdmul x y).bind f = some out) (kk : ∀ z, f z = some out → EE K a (pc + 1) L (.double z :: S) h) : EE K a pc L (.double y :: .double x :: S) h := by
  intro H ls locs hR hS hL
  unfold fdmul at hf
  split at hf
  · next hn => exact lv_dmul O.x O.b d hn (kk _ hf H ls locs hR hS hL)
  · cases hf
/-- an arithmetic of doubles whose answer is no NaN -/
def fddiv (x y : UInt64) : Option UInt64 := if FP.ddiv x y &&& 0x7fffffffffffffff ≤ 0x7ff0000000000000 then some (FP.ddiv x y) else none
theorem E_ddiv (O : Ok K own cc nL R) {x y : UInt64} {ρ : Type} {f : UInt64 → Option ρ} {out : ρ} (d : decode cc pc = .ok (.ddiv, 1)) (hf : (fddiv x y).bind f = some out) (kk : ∀ z, f z = some out → EE K a (pc + 1) L (.double z :: S) h) : EE K a pc L (.double y :: .double x :: S) h := by
  intro H ls locs hR hS hL
  unfold fddiv at hf
  split at hf
  · next hn => exact lv_ddiv O.x O.b d hn (kk _ hf H ls locs hR hS hL)
  · cases hf
def fidiv (x y : Int32) : Option Int32 := if y = 0 then none else some (x / y)
def firem (x y : Int32) : Option Int32 := if y = 0 then none else some (x - x / y * y)
theorem E_idiv (O : Ok K own cc nL R) {x y : Int32} {ρ : Type} {f : Int32 → Option ρ} {out : ρ} (d : decode cc pc = .ok (.idiv, 1)) (hf : (fidiv x y).bind f = some out) (kk : ∀ z, f z = some out → EE K a (pc + 1) L (.int z :: S) h) : EE K a pc L (.int y :: .int x :: S) h := by
  intro H ls locs hR hS hL
  unfold fidiv at hf
  split at hf
  · cases hf
  · next hn => exact lv_idiv O.x O.b d hn (kk _ hf H ls locs hR hS hL)
theorem E_irem (O : Ok K own cc nL R) {x y : Int32} {ρ : Type} {f : Int32 → Option ρ} {out : ρ} (d : decode cc pc = .ok (.irem, 1)) (hf : (firem x y).bind f = some out) (kk : ∀ z, f z = some out → EE K a (pc + 1) L (.int z :: S) h) : EE K a pc L (.int y :: .int x :: S) h := by
  intro H ls locs hR hS hL
  unfold firem at hf
  split at hf
  · cases hf
  · next hn => exact lv_irem O.x O.b d hn (kk _ hf H ls locs hR hS hL)
theorem E_dup (O : Ok K own cc nL R) {v : Value} (d : decode cc pc = .ok (.dup, 1)) (hv : v.category = 1) (kk : EE K a (pc + 1) L (v :: v :: S) h) : EE K a pc L (v :: S) h := fun H ls locs hR hS hL => lv_dup O.x O.b d ((mv_cat v).trans hv) (kk H ls locs hR hS hL)
theorem E_dup2 (O : Ok K own cc nL R) {v u : Value} (d : decode cc pc = .ok (.dup2, 1)) (hv : v.category = 1) (hu : u.category = 1) (kk : EE K a (pc + 1) L (v :: u :: v :: u :: S) h) : EE K a pc L (v :: u :: S) h := fun H ls locs hR hS hL => lv_dup2_11 O.x O.b d ((mv_cat v).trans hv) ((mv_cat u).trans hu) (kk H ls locs hR hS hL)
theorem E_pop (O : Ok K own cc nL R) {v : Value} (d : decode cc pc = .ok (.pop, 1)) (hv : v.category = 1) (kk : EE K a (pc + 1) L S h) : EE K a pc L (v :: S) h := fun H ls locs hR hS hL => lv_pop O.x O.b d ((mv_cat v).trans hv) (kk H ls locs hR hS hL)
theorem E_goto (O : Ok K own cc nL R) {off : Int} (tgt : Nat) (d : decode cc pc = .ok (.goto off, 3)) (ht : (pc : Int) + off = (tgt : Int)) (kk : EE K a tgt L S h) : EE K a pc L S h := fun H ls locs hR hS hL => lv_goto O.x O.b d ht (kk H ls locs hR hS hL)
theorem E_ldc2l (O : Ok K own cc nL R) {index : Nat} (v : Int64) (hw : Cond.constantLong own index v ∈ AW) (d : decode cc pc = .ok (.ldc2_w index, 3)) (kk : EE K a (pc + 3) L (.long v :: S) h) : EE K a pc L S h := fun H ls locs hR hS hL => lv_ldc2 O.x O.b O.ow (O.ws _ hw) d (kk H ls locs hR hS hL)
theorem E_ldc2d (O : Ok K own cc nL R) {index : Nat} (v : UInt64) (hw : Cond.constantDouble own index v ∈ AW) (d : decode cc pc = .ok (.ldc2_w index, 3)) (kk : EE K a (pc + 3) L (.double v :: S) h) : EE K a pc L S h := fun H ls locs hR hS hL => lv_ldc2d O.x O.b O.ow (O.ws _ hw) d (kk H ls locs hR hS hL)
theorem E_iload_n (O : Ok K own cc nL R) {k : Fin 4} (i : Nat) {x : Int32} (d : decode cc pc = .ok (.iload_n k, 1)) (hi : (k : Nat) = i) (hl : L[i]? = some (some (.int x))) (kk : EE K a (pc + 1) L (.int x :: S) h) : EE K a pc L S h := fun H ls locs hR hS hL => lv_iload_n O.x O.b d hi (hL.2.2.2 _ _ hl) (kk H ls locs hR hS hL)
theorem E_iload (O : Ok K own cc nL R) {i : Nat} {x : Int32} (d : decode cc pc = .ok (.iload i, 2)) (hl : L[i]? = some (some (.int x))) (kk : EE K a (pc + 2) L (.int x :: S) h) : EE K a pc L S h := fun H ls locs hR hS hL => lv_iload O.x O.b d (hL.2.2.2 _ _ hl) (kk H ls locs hR hS hL)
theorem E_lload_n (O : Ok K own cc nL R) {k : Fin 4} (i : Nat) {x : Int64} (d : decode cc pc = .ok (.lload_n k, 1)) (hi : (k : Nat) = i) (hl : L[i]? = some (some (.long x))) (kk : EE K a (pc + 1) L (.long x :: S) h) : EE K a pc L S h := fun H ls locs hR hS hL => lv_lload_n O.x O.b d hi (hL.2.2.2 _ _ hl) (kk H ls locs hR hS hL)
theorem E_lload (O : Ok K own cc nL R) {i : Nat} {x : Int64} (d : decode cc pc = .ok (.lload i, 2)) (hl : L[i]? = some (some (.long x))) (kk : EE K a (pc + 2) L (.long x :: S) h) : EE K a pc L S h := fun H ls locs hR hS hL => lv_lload O.x O.b d (hL.2.2.2 _ _ hl) (kk H ls locs hR hS hL)
theorem E_aload_n (O : Ok K own cc nL R) {k : Fin 4} (i : Nat) {x : Nat} (d : decode cc pc = .ok (.aload_n k, 1)) (hi : (k : Nat) = i) (hl : L[i]? = some (some (.ref x))) (kk : EE K a (pc + 1) L (.ref x :: S) h) : EE K a pc L S h := fun H ls locs hR hS hL => lv_aload_n O.x O.b d hi (hL.2.2.2 _ _ hl) (kk H ls locs hR hS hL)
theorem E_aload (O : Ok K own cc nL R) {i : Nat} {x : Nat} (d : decode cc pc = .ok (.aload i, 2)) (hl : L[i]? = some (some (.ref x))) (kk : EE K a (pc + 2) L (.ref x :: S) h) : EE K a pc L S h := fun H ls locs hR hS hL => lv_aload O.x O.b d (hL.2.2.2 _ _ hl) (kk H ls locs hR hS hL)
theorem E_dload_n (O : Ok K own cc nL R) {k : Fin 4} (i : Nat) {x : UInt64} (d : decode cc pc = .ok (.dload_n k, 1)) (hi : (k : Nat) = i) (hl : L[i]? = some (some (.double x))) (kk : EE K a (pc + 1) L (.double x :: S) h) : EE K a pc L S h := fun H ls locs hR hS hL => lv_dload_n O.x O.b d hi (hL.2.2.2 _ _ hl) (kk H ls locs hR hS hL)
theorem E_dload (O : Ok K own cc nL R) {i : Nat} {x : UInt64} (d : decode cc pc = .ok (.dload i, 2)) (hl : L[i]? = some (some (.double x))) (kk : EE K a (pc + 2) L (.double x :: S) h) : EE K a pc L S h := fun H ls locs hR hS hL => lv_dload O.x O.b d (hL.2.2.2 _ _ hl) (kk H ls locs hR hS hL)
theorem E_istore_n (O : Ok K own cc nL R) {k : Fin 4} (i : Nat) {x : Int32} (L' : List (Option Value)) (d : decode cc pc = .ok (.istore_n k, 1)) (hi : (k : Nat) = i) (hn : i < nL) (hp : pok L i = true) (hl : L.set i (some (.int x)) = L') (kk : EE K a (pc + 1) L' S h) : EE K a pc L (.int x :: S) h := by
  intro H ls locs hR hS hL
  subst hl
  have hn' : i < (kc K).maxLocals := by rw [O.2.2.1]; exact hn
  exact lv_istore_n O.x O.b d hi hL.has hn' rfl (fun ls' h' => kk H ls' locs hR hS (hL.set1 hn' hp h'))
theorem E_istore (O : Ok K own cc nL R) {i : Nat} {x : Int32} (L' : List (Option Value)) (d : decode cc pc = .ok (.istore i, 2)) (hn : i < nL) (hp : pok L i = true) (hl : L.set i (some (.int x)) = L') (kk : EE K a (pc + 2) L' S h) : EE K a pc L (.int x :: S) h := by
  intro H ls locs hR hS hL
  subst hl
  have hn' : i < (kc K).maxLocals := by rw [O.2.2.1]; exact hn
  exact lv_istore O.x O.b d hL.has hn' rfl (fun ls' h' => kk H ls' locs hR hS (hL.set1 hn' hp h'))
theorem E_astore_n (O : Ok K own cc nL R) {k : Fin 4} (i : Nat) {x : Nat} (L' : List (Option Value)) (d : decode cc pc = .ok (.astore_n k, 1)) (hi : (k : Nat) = i) (hn : i < nL) (hp : pok L i = true) (hl : L.set i (some (.ref x)) = L') (kk : EE K a (pc + 1) L' S h) : EE K a pc L (.ref x :: S) h := by
  intro H ls locs hR hS hL
  subst hl
  have hn' : i < (kc K).maxLocals := by rw [O.2.2.1]; exact hn
  exact lv_astore_n O.x O.b d hi hL.has hn' rfl (fun ls' h' => kk H ls' locs hR hS (hL.set1 hn' hp h'))
theorem E_astore (O : Ok K own cc nL R) {i : Nat} {x : Nat} (L' : List (Option Value)) (d : decode cc pc = .ok (.astore i, 2)) (hn : i < nL) (hp : pok L i = true) (hl : L.set i (some (.ref x)) = L') (kk : EE K a (pc + 2) L' S h) : EE K a pc L (.ref x :: S) h := by
  intro H ls locs hR hS hL
  subst hl
  have hn' : i < (kc K).maxLocals := by rw [O.2.2.1]; exact hn
  exact lv_astore O.x O.b d hL.has hn' rfl (fun ls' h' => kk H ls' locs hR hS (hL.set1 hn' hp h'))
theorem E_lstore_n (O : Ok K own cc nL R) {k : Fin 4} (i : Nat) {x : Int64} (L' : List (Option Value)) (d : decode cc pc = .ok (.lstore_n k, 1)) (hi : (k : Nat) = i) (hn : i + 1 < nL) (hp : pok L i = true) (hl : (L.set i (some (.long x))).set (i + 1) none = L') (kk : EE K a (pc + 1) L' S h) : EE K a pc L (.long x :: S) h := by
  intro H ls locs hR hS hL
  subst hl
  have hn' : i + 1 < (kc K).maxLocals := by rw [O.2.2.1]; exact hn
  exact lv_lstore_n O.x O.b d hi hL.has hn' rfl (fun ls' h' => kk H ls' locs hR hS (hL.set2 hn' hp h'))
theorem E_lstore (O : Ok K own cc nL R) {i : Nat} {x : Int64} (L' : List (Option Value)) (d : decode cc pc = .ok (.lstore i, 2)) (hn : i + 1 < nL) (hp : pok L i = true) (hl : (L.set i (some (.long x))).set (i + 1) none = L') (kk : EE K a (pc + 2) L' S h) : EE K a pc L (.long x :: S) h := by
  intro H ls locs hR hS hL
  subst hl
  have hn' : i + 1 < (kc K).maxLocals := by rw [O.2.2.1]; exact hn
  exact lv_lstore O.x O.b d hL.has hn' rfl (fun ls' h' => kk H ls' locs hR hS (hL.set2 hn' hp h'))
theorem E_dstore_n (O : Ok K own cc nL R) {k : Fin 4} (i : Nat) {x : UInt64} (L' : List (Option Value)) (d : decode cc pc = .ok (.dstore_n k, 1)) (hi : (k : Nat) = i) (hn : i + 1 < nL) (hp : pok L i = true) (hl : (L.set i (some (.double x))).set (i + 1) none = L') (kk : EE K a (pc + 1) L' S h) : EE K a pc L (.double x :: S) h := by
  intro H ls locs hR hS hL
  subst hl
  have hn' : i + 1 < (kc K).maxLocals := by rw [O.2.2.1]; exact hn
  exact lv_dstore_n O.x O.b d hi hL.has hn' rfl (fun ls' h' => kk H ls' locs hR hS (hL.set2 hn' hp h'))
theorem E_dstore (O : Ok K own cc nL R) {i : Nat} {x : UInt64} (L' : List (Option Value)) (d : decode cc pc = .ok (.dstore i, 2)) (hn : i + 1 < nL) (hp : pok L i = true) (hl : (L.set i (some (.double x))).set (i + 1) none = L') (kk : EE K a (pc + 2) L' S h) : EE K a pc L (.double x :: S) h := by
  intro H ls locs hR hS hL
  subst hl
  have hn' : i + 1 < (kc K).maxLocals := by rw [O.2.2.1]; exact hn
  exact lv_dstore O.x O.b d hL.has hn' rfl (fun ls' h' => kk H ls' locs hR hS (hL.set2 hn' hp h'))
theorem E_iinc (O : Ok K own cc nL R) {i : Nat} {n : Int} {x : Int32} (v : Int32) (L' : List (Option Value)) (d : decode cc pc = .ok (.iinc i n, 3)) (hx : L[i]? = some (some (.int x))) (hn : i < nL) (hp : pok L i = true) (hv : Int32.ofInt n = v) (hl : L.set i (some (.int (x + v))) = L') (kk : EE K a (pc + 3) L' S h) : EE K a pc L S h := by
  intro H ls locs hR hS hL
  subst hl; subst hv
  have hn' : i < (kc K).maxLocals := by rw [O.2.2.1]; exact hn
  have hh : lv_has ls (kc K).maxLocals ((i, .int x) :: lvl (gad K.1) L) := by
    refine ⟨hL.1, hL.2.2.1, fun q hq => ?_⟩
    rcases List.mem_cons.mp hq with rfl | hq
    · exact hL.2.2.2 i _ hx
    · exact hL.has.2.2 q hq
  refine lv_iinc (k := 0) O.x O.b d hh rfl rfl hn' rfl (fun ls' h' => kk H ls' locs hR hS (hL.set1 (v := .int (x + Int32.ofInt n)) hn' hp ?_))
  have e : ((i, Value.int x) :: lvl (gad K.1) L).filter (fun q => !(q.1 == i) && !(q.1 + 1 == i && q.2.category == 2)) = (lvl (gad K.1) L).filter (fun q => !(q.1 == i) && !(q.1 + 1 == i && q.2.category == 2)) := by simp
  rw [e] at h'
  exact h'

theorem E_icmp_eq (O : Ok K own cc nL R) {x y : Int32} {off : Int} (tgt : Nat) {ρ : Type} {A B : Option ρ} {out : ρ} (d : decode cc pc = .ok (.if_icmp .eq off, 3)) (ht : (pc : Int) + off = (tgt : Int)) (hf : (if x = y then A else B) = some out) (kt : A = some out → EE K a tgt L S h) (kf : B = some out → EE K a (pc + 3) L S h) : EE K a pc L (.int y :: .int x :: S) h := fun H ls locs hR hS hL => lv_icmp_eq O.x O.b d ht (fun c => kt (by rw [if_pos c] at hf; exact hf) H ls locs hR hS hL) (fun c => kf (by rw [if_neg c] at hf; exact hf) H ls locs hR hS hL)
theorem E_icmp_ne (O : Ok K own cc nL R) {x y : Int32} {off : Int} (tgt : Nat) {ρ : Type} {A B : Option ρ} {out : ρ} (d : decode cc pc = .ok (.if_icmp .ne off, 3)) (ht : (pc : Int) + off = (tgt : Int)) (hf : (if x = y then B else A) = some out) (kt : A = some out → EE K a tgt L S h) (kf : B = some out → EE K a (pc + 3) L S h) : EE K a pc L (.int y :: .int x :: S) h := fun H ls locs hR hS hL => lv_icmp_ne O.x O.b d ht (fun c => kt (by rw [if_neg c] at hf; exact hf) H ls locs hR hS hL) (fun c => kf (by rw [if_pos c] at hf; exact hf) H ls locs hR hS hL)
theorem E_icmp_lt (O : Ok K own cc nL R) {x y : Int32} {off : Int} (tgt : Nat) {ρ : Type} {A B : Option ρ} {out : ρ} (d : decode cc pc = .ok (.if_icmp .lt off, 3)) (ht : (pc : Int) + off = (tgt : Int)) (hf : (if x < y then A else B) = some out) (kt : A = some out → EE K a tgt L S h) (kf : B = some out → EE K a (pc + 3) L S h) : EE K a pc L (.int y :: .int x :: S) h := fun H ls locs hR hS hL => lv_icmp_lt O.x O.b d ht (fun c => kt (by rw [if_pos c] at hf; exact hf) H ls locs hR hS hL) (fun c => kf (by rw [if_neg c] at hf; exact hf) H ls locs hR hS hL)
theorem E_icmp_ge (O : Ok K own cc nL R) {x y : Int32} {off : Int} (tgt : Nat) {ρ : Type} {A B : Option ρ} {out : ρ} (d : decode cc pc = .ok (.if_icmp .ge off, 3)) (ht : (pc : Int) + off = (tgt : Int)) (hf : (if y ≤ x then A else B) = some out) (kt : A = some out → EE K a tgt L S h) (kf : B = some out → EE K a (pc + 3) L S h) : EE K a pc L (.int y :: .int x :: S) h := fun H ls locs hR hS hL => lv_icmp_ge O.x O.b d ht (fun c => kt (by rw [if_pos c] at hf; exact hf) H ls locs hR hS hL) (fun c => kf (by rw [if_neg c] at hf; exact hf) H ls locs hR hS hL)
theorem E_icmp_gt (O : Ok K own cc nL R) {x y : Int32} {off : Int} (tgt : Nat) {ρ : Type} {A B : Option ρ} {out : ρ} (d : decode cc pc = .ok (.if_icmp .gt off, 3)) (ht : (pc : Int) + off = (tgt : Int)) (hf : (if y < x then A else B) = some out) (kt : A = some out → EE K a tgt L S h) (kf : B = some out → EE K a (pc + 3) L S h) : EE K a pc L (.int y :: .int x :: S) h := fun H ls locs hR hS hL => lv_icmp_gt O.x O.b d ht (fun c => kt (by rw [if_pos c] at hf; exact hf) H ls locs hR hS hL) (fun c => kf (by rw [if_neg c] at hf; exact hf) H ls locs hR hS hL)
theorem E_icmp_le (O : Ok K own cc nL R) {x y : Int32} {off : Int} (tgt : Nat) {ρ : Type} {A B : Option ρ} {out : ρ} (d : decode cc pc = .ok (.if_icmp .le off, 3)) (ht : (pc : Int) + off = (tgt : Int)) (hf : (if x ≤ y then A else B) = some out) (kt : A = some out → EE K a tgt L S h) (kf : B = some out → EE K a (pc + 3) L S h) : EE K a pc L (.int y :: .int x :: S) h := fun H ls locs hR hS hL => lv_icmp_le O.x O.b d ht (fun c => kt (by rw [if_pos c] at hf; exact hf) H ls locs hR hS hL) (fun c => kf (by rw [if_neg c] at hf; exact hf) H ls locs hR hS hL)
theorem E_if_eq (O : Ok K own cc nL R) {x : Int32} {off : Int} (tgt : Nat) {ρ : Type} {A B : Option ρ} {out : ρ} (d : decode cc pc = .ok (.ifCond .eq off, 3)) (ht : (pc : Int) + off = (tgt : Int)) (hf : (if x = 0 then A else B) = some out) (kt : A = some out → EE K a tgt L S h) (kf : B = some out → EE K a (pc + 3) L S h) : EE K a pc L (.int x :: S) h := fun H ls locs hR hS hL => lv_if_eq O.x O.b d ht (fun c => kt (by rw [if_pos c] at hf; exact hf) H ls locs hR hS hL) (fun c => kf (by rw [if_neg c] at hf; exact hf) H ls locs hR hS hL)
theorem E_if_ne (O : Ok K own cc nL R) {x : Int32} {off : Int} (tgt : Nat) {ρ : Type} {A B : Option ρ} {out : ρ} (d : decode cc pc = .ok (.ifCond .ne off, 3)) (ht : (pc : Int) + off = (tgt : Int)) (hf : (if x = 0 then B else A) = some out) (kt : A = some out → EE K a tgt L S h) (kf : B = some out → EE K a (pc + 3) L S h) : EE K a pc L (.int x :: S) h := fun H ls locs hR hS hL => lv_if_ne O.x O.b d ht (fun c => kt (by rw [if_neg c] at hf; exact hf) H ls locs hR hS hL) (fun c => kf (by rw [if_pos c] at hf; exact hf) H ls locs hR hS hL)
theorem E_if_lt (O : Ok K own cc nL R) {x : Int32} {off : Int} (tgt : Nat) {ρ : Type} {A B : Option ρ} {out : ρ} (d : decode cc pc = .ok (.ifCond .lt off, 3)) (ht : (pc : Int) + off = (tgt : Int)) (hf : (if x < 0 then A else B) = some out) (kt : A = some out → EE K a tgt L S h) (kf : B = some out → EE K a (pc + 3) L S h) : EE K a pc L (.int x :: S) h := fun H ls locs hR hS hL => lv_if_lt O.x O.b d ht (fun c => kt (by rw [if_pos c] at hf; exact hf) H ls locs hR hS hL) (fun c => kf (by rw [if_neg c] at hf; exact hf) H ls locs hR hS hL)
theorem E_if_ge (O : Ok K own cc nL R) {x : Int32} {off : Int} (tgt : Nat) {ρ : Type} {A B : Option ρ} {out : ρ} (d : decode cc pc = .ok (.ifCond .ge off, 3)) (ht : (pc : Int) + off = (tgt : Int)) (hf : (if 0 ≤ x then A else B) = some out) (kt : A = some out → EE K a tgt L S h) (kf : B = some out → EE K a (pc + 3) L S h) : EE K a pc L (.int x :: S) h := fun H ls locs hR hS hL => lv_if_ge O.x O.b d ht (fun c => kt (by rw [if_pos c] at hf; exact hf) H ls locs hR hS hL) (fun c => kf (by rw [if_neg c] at hf; exact hf) H ls locs hR hS hL)
theorem E_if_gt (O : Ok K own cc nL R) {x : Int32} {off : Int} (tgt : Nat) {ρ : Type} {A B : Option ρ} {out : ρ} (d : decode cc pc = .ok (.ifCond .gt off, 3)) (ht : (pc : Int) + off = (tgt : Int)) (hf : (if 0 < x then A else B) = some out) (kt : A = some out → EE K a tgt L S h) (kf : B = some out → EE K a (pc + 3) L S h) : EE K a pc L (.int x :: S) h := fun H ls locs hR hS hL => lv_if_gt O.x O.b d ht (fun c => kt (by rw [if_pos c] at hf; exact hf) H ls locs hR hS hL) (fun c => kf (by rw [if_neg c] at hf; exact hf) H ls locs hR hS hL)
theorem E_if_le (O : Ok K own cc nL R) {x : Int32} {off : Int} (tgt : Nat) {ρ : Type} {A B : Option ρ} {out : ρ} (d : decode cc pc = .ok (.ifCond .le off, 3)) (ht : (pc : Int) + off = (tgt : Int)) (hf : (if x ≤ 0 then A else B) = some out) (kt : A = some out → EE K a tgt L S h) (kf : B = some out → EE K a (pc + 3) L S h) : EE K a pc L (.int x :: S) h := fun H ls locs hR hS hL => lv_if_le O.x O.b d ht (fun c => kt (by rw [if_pos c] at hf; exact hf) H ls locs hR hS hL) (fun c => kf (by rw [if_neg c] at hf; exact hf) H ls locs hR hS hL)
theorem E_ite {c : Prop} [Decidable c] {ρ : Type} {A B : Option ρ} {out : ρ} {G : Prop} (hf : (if c then A else B) = some out) (kt : c → A = some out → G) (kf : ¬ c → B = some out → G) : G := by
  by_cases h : c
  · rw [if_pos h] at hf; exact kt h hf
  · rw [if_neg h] at hf; exact kf h hf
theorem E_tswIn (O : Ok K own cc nL R) {x : Int32} {dflt lo hi : Int} {offs : Array Int} {len : Nat} {off : Int} (k : Int32) (tgt : Nat) (hx : x = k) (d : decode cc pc = .ok (.tableswitch dflt lo hi offs, len)) (h1 : ¬ k.toInt < lo) (h2 : ¬ hi < k.toInt) (ho : offs[(k.toInt - lo).toNat]? = some off) (ht : (pc : Int) + off = (tgt : Int)) (kk : EE K a tgt L S h) : EE K a pc L (.int x :: S) h := by
  intro H ls locs hR hS hL
  subst hx
  exact lv_tableIn O.x O.b d h1 h2 ho ht (kk H ls locs hR hS hL)
theorem E_tswOut (O : Ok K own cc nL R) {x : Int32} {dflt lo hi : Int} {offs : Array Int} {len : Nat} (tgt : Nat) (d : decode cc pc = .ok (.tableswitch dflt lo hi offs, len)) (hx : x.toInt < lo ∨ hi < x.toInt) (ht : (pc : Int) + dflt = (tgt : Int)) (kk : EE K a tgt L S h) : EE K a pc L (.int x :: S) h := fun H ls locs hR hS hL => lv_tableOut O.x O.b d hx ht (kk H ls locs hR hS hL)
theorem tsw_out {x : Int32} (lo n : Nat) (hb : lo + n < 1000) (hx : ∀ k, k < n → x ≠ nI (lo + k)) : x.toInt < (lo : Int) ∨ ((lo + n : Nat) : Int) - 1 < x.toInt := by
  rcases Int.lt_or_le x.toInt (lo : Int) with h1 | h1
  · exact Or.inl h1
  rcases Int.lt_or_le (((lo + n : Nat) : Int) - 1) x.toInt with h2 | h2
  · exact Or.inr h2
  exfalso
  refine hx (x.toInt.toNat - lo) (by omega) ?_
  rw [← Int32.toInt_inj, nI_toInt (by omega)]
  omega
end
section
/-! fields and arrays of the small heap -/
def hF (h : MH) (ci b k : Nat) : Option Value := match h[b]? with
  | some (.inr o) => if o.1 = ci then o.2[k]? else none
  | _ => none
def hI (h : MH) (ci b k : Nat) : Option Int32 := match hF h ci b k with
  | some (.int x) => some x
  | _ => none
def hR (h : MH) (ci b k : Nat) : Option Nat := match hF h ci b k with
  | some (.ref x) => some x
  | _ => none
def hL (h : MH) (ci b k : Nat) : Option Int64 := match hF h ci b k with
  | some (.long x) => some x
  | _ => none
def hP (h : MH) (ci b k : Nat) (v : Value) : Option MH := match h[b]? with
  | some (.inr o) => if o.1 = ci ∧ k < o.2.length then some (h.set b (.inr (ci, o.2.set k v))) else none
  | _ => none
def aC (h : MH) (t b : Nat) : Option vp_A := match h[b]? with
  | some (.inl p) => if p.1 = t then some p.2 else none
  | _ => none
def rA (n : Nat) (f : Nat → Int32) (j : Int32) : Option Int32 := if j < 0 ∨ n ≤ j.toNatClampNeg then none else some (f j.toNatClampNeg)
def aI (h : MH) (b : Nat) (j : Int32) : Option Int32 := match aC h 0 b with
  | some (n, .inl f) => rA n f j
  | _ => none
def sI (h : MH) (b : Nat) (j x : Int32) : Option MH := match aC h 0 b with
  | some (n, .inl f) => if j < 0 ∨ n ≤ j.toNatClampNeg then none else some (h.set b (.inl (0, n, .inl (upd f j.toNatClampNeg x))))
  | _ => none
def aL (h : MH) (b : Nat) (j : Int32) : Option Int64 := match aC h 1 b with
  | some (n, .inr (.inl f)) => if j < 0 ∨ n ≤ j.toNatClampNeg then none else some (f j.toNatClampNeg)
  | _ => none
def sL (h : MH) (b : Nat) (j : Int32) (x : Int64) : Option MH := match aC h 1 b with
  | some (n, .inr (.inl f)) => if j < 0 ∨ n ≤ j.toNatClampNeg then none else some (h.set b (.inl (1, n, .inr (.inl (vp_updL f j.toNatClampNeg x)))))
  | _ => none
def aR (h : MH) (b : Nat) (j : Int32) : Option Nat := match aC h 2 b with
  | some (n, .inr (.inr (.inr (.inr f)))) => if j < 0 ∨ n ≤ j.toNatClampNeg then none else f j.toNatClampNeg
  | _ => none
def isO (h : MH) (ci b : Nat) : Bool := match h[b]? with
  | some (.inr o) => o.1 == ci
  | _ => false
def sR (h : MH) (b : Nat) (j : Int32) (x : Nat) : Option MH := match aC h 2 b with
  | some (n, .inr (.inr (.inr (.inr f)))) => if j < 0 ∨ n ≤ j.toNatClampNeg ∨ isO h 1 x = false then none else some (h.set b (.inl (2, n, .inr (.inr (.inr (.inr (va_up f j.toNatClampNeg (some x))))))))
  | _ => none
def cpA (h : MH) (b : Nat) (sp : Int32) (b1 : Nat) (dp n : Int32) : Option MH := match aC h 0 b, aC h 0 b1 with
  | some (n0, .inl f), some (n1, .inl g) => if sp < 0 ∨ dp < 0 ∨ n < 0 ∨ n0 < sp.toNatClampNeg + n.toNatClampNeg ∨ n1 < dp.toNatClampNeg + n.toNatClampNeg then none else some (h.set b1 (.inl (0, n1, .inl (va_cpy f g sp.toNatClampNeg dp.toNatClampNeg n.toNatClampNeg))))
  | _, _ => none
theorem hF_of {h : MH} {ci b k : Nat} {v : Value} (e : hF h ci b k = some v) : ∃ fs, h[b]? = some (.inr (ci, fs)) ∧ fs[k]? = some v := by
  unfold hF at e
  split at e
  · next o ho =>
    split at e
    · next hc =>
      obtain ⟨c, fs⟩ := o
      dsimp only at hc
      subst hc
      exact ⟨fs, ho, e⟩
    · cases e
  · cases e
theorem hI_of {h : MH} {ci b k : Nat} {v : Int32} (e : hI h ci b k = some v) : hF h ci b k = some (.int v) := by
  unfold hI at e
  split at e
  · next x hx => cases e; exact hx
  · cases e
theorem hR_of {h : MH} {ci b k : Nat} {v : Nat} (e : hR h ci b k = some v) : hF h ci b k = some (.ref v) := by
  unfold hR at e
  split at e
  · next x hx => cases e; exact hx
  · cases e
theorem hL_of {h : MH} {ci b k : Nat} {v : Int64} (e : hL h ci b k = some v) : hF h ci b k = some (.long v) := by
  unfold hL at e
  split at e
  · next x hx => cases e; exact hx
  · cases e
theorem hP_of {h h' : MH} {ci b k : Nat} {v : Value} (e : hP h ci b k v = some h') : ∃ fs, h[b]? = some (.inr (ci, fs)) ∧ k < fs.length ∧ h' = h.set b (.inr (ci, fs.set k v)) := by
  unfold hP at e
  split at e
  · next o ho =>
    split at e
    · next hc =>
      obtain ⟨c, fs⟩ := o
      dsimp only at hc
      obtain ⟨rfl, hk⟩ := hc
      cases e
      exact ⟨fs, ho, hk, rfl⟩
    · cases e
  · cases e
theorem aC_of {h : MH} {t b : Nat} {x : vp_A} (e : aC h t b = some x) : h[b]? = some (.inl (t, x)) := by
  unfold aC at e
  split at e
  · next p hp =>
    split at e
    · next ht =>
      obtain ⟨t', x'⟩ := p
      dsimp only at ht
      subst ht
      cases e
      exact hp
    · cases e
  · cases e
theorem rA_of {n : Nat} {f : Nat → Int32} {j v : Int32} (e : rA n f j = some v) : vp_in j n ∧ v = f j.toNatClampNeg := by
  unfold rA at e
  split at e
  · cases e
  · next hn => cases e; exact ⟨hn, rfl⟩
theorem aI_of {h : MH} {b : Nat} {j v : Int32} (e : aI h b j = some v) : ∃ n f, h[b]? = some (.inl (0, n, .inl f)) ∧ vp_in j n ∧ v = f j.toNatClampNeg := by
  unfold aI at e
  split at e
  · next n f hx =>
    obtain ⟨h1, h2⟩ := rA_of e
    exact ⟨n, f, aC_of hx, h1, h2⟩
  · cases e
theorem sI_of {h h' : MH} {b : Nat} {j x : Int32} (e : sI h b j x = some h') : ∃ n f, h[b]? = some (.inl (0, n, .inl f)) ∧ vp_in j n ∧ h' = h.set b (.inl (0, n, .inl (upd f j.toNatClampNeg x))) := by
  unfold sI at e
  split at e
  · next n f hx =>
    split at e
    · cases e
    · next hn => cases e; exact ⟨n, f, aC_of hx, hn, rfl⟩
  · cases e
theorem aL_of {h : MH} {b : Nat} {j : Int32} {v : Int64} (e : aL h b j = some v) : ∃ n f, h[b]? = some (.inl (1, n, .inr (.inl f))) ∧ vp_in j n ∧ v = f j.toNatClampNeg := by
  unfold aL at e
  split at e
  · next n f hx =>
    split at e
    · cases e
    · next hn => cases e; exact ⟨n, f, aC_of hx, hn, rfl⟩
  · cases e
theorem sL_of {h h' : MH} {b : Nat} {j : Int32} {x : Int64} (e : sL h b j x = some h') : ∃ n f, h[b]? = some (.inl (1, n, .inr (.inl f))) ∧ vp_in j n ∧ h' = h.set b (.inl (1, n, .inr (.inl (vp_updL f j.toNatClampNeg x)))) := by
  unfold sL at e
  split at e
  · next n f hx =>
    split at e
    · cases e
    · next hn => cases e; exact ⟨n, f, aC_of hx, hn, rfl⟩
  · cases e
theorem aR_of {h : MH} {b : Nat} {j : Int32} {v : Nat} (e : aR h b j = some v) : ∃ n f, h[b]? = some (.inl (2, n, .inr (.inr (.inr (.inr f))))) ∧ vp_in j n ∧ f j.toNatClampNeg = some v := by
  unfold aR at e
  split at e
  · next n f hx =>
    split at e
    · cases e
    · next hn => exact ⟨n, f, aC_of hx, hn, e⟩
  · cases e
theorem isO_of {h : MH} {ci b : Nat} (e : isO h ci b = true) : ∃ fs, h[b]? = some (.inr (ci, fs)) := by
  unfold isO at e
  split at e
  · next o ho =>
    obtain ⟨c, fs⟩ := o
    have e : c = ci := by simpa using e
    subst e
    exact ⟨fs, ho⟩
  · cases e
theorem sR_of {h h' : MH} {b x : Nat} {j : Int32} (e : sR h b j x = some h') : ∃ n f fs, h[b]? = some (.inl (2, n, .inr (.inr (.inr (.inr f))))) ∧ vp_in j n ∧ h[x]? = some (.inr (1, fs)) ∧ h' = h.set b (.inl (2, n, .inr (.inr (.inr (.inr (va_up f j.toNatClampNeg (some x))))))) := by
  unfold sR at e
  split at e
  · next n f hx =>
    split at e
    · cases e
    · next hn =>
      have hn2 : vp_in j n := fun z => hn (z.elim Or.inl (fun z => Or.inr (Or.inl z)))
      have hi : isO h 1 x = true := by
        cases hb : isO h 1 x with
        | true => rfl
        | false => exact absurd (Or.inr (Or.inr hb)) hn
      obtain ⟨fs, hfs⟩ := isO_of hi
      cases e
      exact ⟨n, f, fs, aC_of hx, hn2, hfs, rfl⟩
  · cases e
theorem cpA_of {h h' : MH} {b b1 : Nat} {sp dp n : Int32} (e : cpA h b sp b1 dp n = some h') : ∃ n0 f n1 g, h[b]? = some (.inl (0, n0, .inl f)) ∧ h[b1]? = some (.inl (0, n1, .inl g)) ∧ ¬ sp < 0 ∧ ¬ dp < 0 ∧ ¬ n < 0 ∧ sp.toNatClampNeg + n.toNatClampNeg ≤ n0 ∧ dp.toNatClampNeg + n.toNatClampNeg ≤ n1 ∧ h' = h.set b1 (.inl (0, n1, .inl (va_cpy f g sp.toNatClampNeg dp.toNatClampNeg n.toNatClampNeg))) := by
  unfold cpA at e
  split at e
  · next n0 f n1 g h1 h2 =>
    split at e
    · cases e
    · next hn =>
      simp only [not_or, Nat.not_lt] at hn
      cases e
      exact ⟨n0, f, n1, g, aC_of h1, aC_of h2, hn.1, hn.2.1, hn.2.2.1, hn.2.2.2.1, hn.2.2.2.2, rfl⟩
  · cases e
variable {K : Cx} {own : String} {cc : ByteArray} {nL : Nat} {R : Room} {a : Bool × Nat × Nat} {pc : Nat} {L : List (Option Value)} {S : List Value} {h : MH}
theorem Rel.get {g : Gx} {fr : Bool} {h : MH} {H : Heap} (hR : Rel g fr h H) {b : Nat} {c : MC} (e : h[b]? = some c) : va_at (gD g) vwCl (gad g b, mcl (gad g) (gcA g) c) H := hR.1 b _ (mw_get e)
theorem Rel.set {g : Gx} {fr : Bool} {h : MH} {H H1 : Heap} (h8 : ∀ i, i < 1000 → gad g i = gb g + i) (hR : Rel g fr h H) {b : Nat} {c c' : MC} (e : h[b]? = some c) (he : va_at (gD g) vwCl (gad g b, mcl (gad g) (gcA g) c') H1) (z : H1.size = H.size) (oq : ∀ q : Nat, q ≠ gad g b → H1[q]? = H[q]?) : Rel g fr (h.set b c') H1 := by
  refine ⟨?_, by rw [List.length_set, z]; exact hR.2.1, fun q => by rw [List.length_set, z]; exact hR.2.2.1 q, by rw [List.length_set]; exact hR.2.2.2⟩
  have := hR.1.set (mw_D h8 hR.2.2.2) (mw_get e) he oq
  rwa [mw_set] at this
/-- what the tables say of a field that is read, written, written in a constructor -/
def FL (own : String) (index ci k : Nat) : Prop := ∃ r : vw_C, vwCl[ci]? = some r ∧ (∀ w ∈ u_ws r.1 r.2.1 r.2.2, w ∈ AW) ∧ k < r.2.2 ∧ Cond.fieldLink own index (r.2.1 k).1 (r.2.1 k).2.1 (r.2.1 k).2.2.1 ∈ AW
def FW (own : String) (index ci k : Nat) (ty : FieldType) : Prop := ∃ (r : vw_C) (ty0 : Nat → FieldType), vwCl[ci]? = some r ∧ (∀ w ∈ u_ws r.1 r.2.1 r.2.2, w ∈ AW) ∧ k < r.2.2 ∧ Cond.fieldLink own index (r.2.1 k).1 (r.2.1 k).2.1 (r.2.1 k).2.2.1 ∈ AW ∧
  (∀ k, k < r.2.2 → parseFieldDescriptor (r.2.1 k).2.2.1 = some (ty0 k)) ∧ (∀ a, a < r.2.2 → ∀ b, b < r.2.2 → a ≠ b → (r.2.1 a).2.1 ≠ (r.2.1 b).2.1) ∧ ty0 k = ty
def FN (own : String) (index ci k : Nat) (ty : FieldType) : Prop := FW own index ci k ty ∧ ∀ r : vw_C, vwCl[ci]? = some r → (r.2.1 k).2.2.2 = false
def FF (own : String) (index ci k : Nat) (ty : FieldType) : Prop := FW own index ci k ty ∧ ∀ r : vw_C, vwCl[ci]? = some r → (r.2.1 k).2.2.2 = true ∧ (r.2.1 k).1 = own
theorem E_getF (O : Ok K own cc nL R) {index ci b k : Nat} {v : Value} (F : FL own index ci k) (d : decode cc pc = .ok (.getfield index, 3)) (e : hF h ci b k = some v) (kk : EE K a (pc + 3) L (v :: S) h) : EE K a pc L (.ref b :: S) h := by
  intro H ls locs hR hS hL
  obtain ⟨fs, e1, e2⟩ := hF_of e
  obtain ⟨r, f1, f2, f3, f4⟩ := F
  exact va_get O.x O.b O.ws f2 O.ow O.k hR.1 b (mw_get e1) f1 k f3 (O.ws _ f4) (fun _ z => z) (v := mv (gad K.1) v) (by rw [List.getElem?_map, e2]; rfl) d (kk H ls locs hR hS hL)
theorem E_getI (O : Ok K own cc nL R) {index ci b k : Nat} {ρ : Type} {f : Int32 → Option ρ} {out : ρ} (F : FL own index ci k) (d : decode cc pc = .ok (.getfield index, 3)) (hf : (hI h ci b k).bind f = some out) (kk : ∀ x, f x = some out → EE K a (pc + 3) L (.int x :: S) h) : EE K a pc L (.ref b :: S) h := by
  obtain ⟨x, e1, e2⟩ := ob hf
  exact E_getF O F d (hI_of e1) (kk x e2)
theorem E_getR (O : Ok K own cc nL R) {index ci b k : Nat} {ρ : Type} {f : Nat → Option ρ} {out : ρ} (F : FL own index ci k) (d : decode cc pc = .ok (.getfield index, 3)) (hf : (hR h ci b k).bind f = some out) (kk : ∀ x, f x = some out → EE K a (pc + 3) L (.ref x :: S) h) : EE K a pc L (.ref b :: S) h := by
  obtain ⟨x, e1, e2⟩ := ob hf
  exact E_getF O F d (hR_of e1) (kk x e2)
theorem E_getL (O : Ok K own cc nL R) {index ci b k : Nat} {ρ : Type} {f : Int64 → Option ρ} {out : ρ} (F : FL own index ci k) (d : decode cc pc = .ok (.getfield index, 3)) (hf : (hL h ci b k).bind f = some out) (kk : ∀ x, f x = some out → EE K a (pc + 3) L (.long x :: S) h) : EE K a pc L (.ref b :: S) h := by
  obtain ⟨x, e1, e2⟩ := ob hf
  exact E_getF O F d (hL_of e1) (kk x e2)
theorem mv_nar {ad : Nat → Nat} {ty : FieldType} {v : Value} (hn : narrow ty v = v) (hf : fits ty v = true) : narrow ty (mv ad v) = mv ad v ∧ fits ty (mv ad v) = true := by
  cases v <;> first | exact ⟨hn, hf⟩ | (cases ty <;> first | exact ⟨rfl, rfl⟩ | cases hf)
theorem E_put (O : Ok K own cc nL R) {index ci b k : Nat} {ty : FieldType} {v : Value} {ρ : Type} {f : MH → Option ρ} {out : ρ} (F : FN own index ci k ty) (hn : narrow ty v = v) (hfit : fits ty v = true) (d : decode cc pc = .ok (.putfield index, 3)) (hf : (hP h ci b k v).bind f = some out) (kk : ∀ h', f h' = some out → EE K a (pc + 3) L S h') : EE K a pc L (v :: .ref b :: S) h := by
  intro H ls locs hR hS hL
  obtain ⟨h', e1, e2⟩ := ob hf
  obtain ⟨fs, g1, g2, rfl⟩ := hP_of e1
  obtain ⟨⟨⟨C, T, N⟩, ty0, f1, f2, f3, f4, f5, f6, f7⟩, f8⟩ := F
  have hfin := f8 _ f1
  dsimp only at f2 f3 f4 f5 f6 hfin
  have hap := va_apart (own := own) O.ws f2 ty0 f5 f6 O.k f1
  obtain ⟨r, h1, cell, q1, q2, q3, q4⟩ := hR.get g1
  have hr : r = (C, T, N) := Option.some.inj (h1.symm.trans f1)
  subst hr
  obtain ⟨hSl, hfc, kC, hkC, hkind⟩ := O.k.1 ci _ f1
  obtain ⟨cf, kf, fi, fd, hi, hsl⟩ := hSl k f3
  have hlay := O.ws _ (f2 _ (u_in_lay f3))
  unfold u_lay at hlay
  rw [if_neg (by rw [hfin]; decide)] at hlay
  have hst := (u_facts hfc hkC (u_lays O.ws f2 f3) hi).1
  obtain ⟨hn', hfit'⟩ := mv_nar (ad := gad K.1) hn hfit
  have h6 := u_store hfc hkC hkind hlay hi (f5 k f3) (by rw [f7]; exact hn') (by rw [f7]; exact hfit')
  refine W.putK O.x O.b (f := fd) ⟨O.ow, O.ws _ f4, ⟨_, _, _, hi⟩, hst⟩ (by rw [q2]; exact h6) q1 q3 (by rw [hsl]; exact k2_hasslot (q4 k f3)) rfl rfl d fun H' e1 e2' e3 => ?_
  rw [hsl] at e1 ⊢
  refine kk _ e2 H' ls _ (hR.set O.bg.2.2.2.2.2.2.2.1 g1 ⟨_, f1, ?_⟩ e2' e3) (hS.put e2' e3 ((O.D hR.2.2.2).2 b _ (mw_get g1))) hL
  show t_OB _ _ _ _ _ (vp_V ((fs.set k v).map (mv (gad K.1))))
  rw [List.map_set]
  exact t_OB.to (V := updV (vp_V (fs.map (mv (gad K.1)))) k (mv (gad K.1) v)) ⟨_, e1, q2, q3, t_set q4 hap f3 _⟩ (fun j _ => vp_updV_set (by simpa using g2) _ j)
theorem E_putF (O : Ok K own cc nL R) {index ci b k : Nat} {ty : FieldType} {v : Value} {ρ : Type} {f : MH → Option ρ} {out : ρ} (F : FF own index ci k ty) (hini : (kmeth K).name = "<init>") (hn : narrow ty v = v) (hfit : fits ty v = true) (d : decode cc pc = .ok (.putfield index, 3)) (hf : (hP h ci b k v).bind f = some out) (kk : ∀ h', f h' = some out → EE K a (pc + 3) L S h') : EE K a pc L (v :: .ref b :: S) h := by
  intro H ls locs hR hS hL
  obtain ⟨h', e1, e2⟩ := ob hf
  obtain ⟨fs, g1, g2, rfl⟩ := hP_of e1
  obtain ⟨⟨⟨C, T, N⟩, ty0, f1, f2, f3, f4, f5, f6, f7⟩, f8⟩ := F
  obtain ⟨hfin, hdecl⟩ := f8 _ f1
  dsimp only at f2 f3 f4 f5 f6 hfin hdecl
  have hap := va_apart (own := own) O.ws f2 ty0 f5 f6 O.k f1
  obtain ⟨r, h1, cell, q1, q2, q3, q4⟩ := hR.get g1
  have hr : r = (C, T, N) := Option.some.inj (h1.symm.trans f1)
  subst hr
  obtain ⟨hSl, hfc, kC, hkC, hkind⟩ := O.k.1 ci _ f1
  obtain ⟨cf, kf, fi, fd, hi, hsl⟩ := hSl k f3
  have hlay := O.ws _ (f2 _ (u_in_lay f3))
  unfold u_lay at hlay
  rw [if_pos hfin] at hlay
  have hst := (u_facts hfc hkC (u_lays O.ws f2 f3) hi).1
  have hcf : (km K).cls = cf := by
    obtain ⟨_, _, c', _, _, _, -, -, hf', -, -, -, hown2, -⟩ := Cond.laysFinal_spec hlay
    have e1 : c' = cf := by have := hi.symm.trans hf'; simp at this; exact this.1.symm
    rw [hdecl] at hown2
    rw [← e1]; exact Option.some.inj (O.ow.symm.trans hown2)
  obtain ⟨hn', hfit'⟩ := mv_nar (ad := gad K.1) hn hfit
  have h6 := u_fits hfc hkC hkind (Or.inr hlay) hi (f5 k f3) (by rw [f7]; exact hn') (by rw [f7]; exact hfit')
  refine W.putFinK O.x O.b O.ow (O.ws _ f4) hi hst hcf hini (by rw [q2]; exact h6) q1 q3 (by rw [hsl]; exact k2_hasslot (q4 k f3)) rfl rfl d fun H' e1 e2' e3 => ?_
  rw [hsl] at e1 ⊢
  refine kk _ e2 H' ls _ (hR.set O.bg.2.2.2.2.2.2.2.1 g1 ⟨_, f1, ?_⟩ e2' e3) (hS.put e2' e3 ((O.D hR.2.2.2).2 b _ (mw_get g1))) hL
  show t_OB _ _ _ _ _ (vp_V ((fs.set k v).map (mv (gad K.1))))
  rw [List.map_set]
  exact t_OB.to (V := updV (vp_V (fs.map (mv (gad K.1)))) k (mv (gad K.1) v)) ⟨_, e1, q2, q3, t_set q4 hap f3 _⟩ (fun j _ => vp_updV_set (by simpa using g2) _ j)
theorem E_iaload (O : Ok K own cc nL R) {b : Nat} {j : Int32} {ρ : Type} {f : Int32 → Option ρ} {out : ρ} (d : decode cc pc = .ok (.iaload, 1)) (hf : (aI h b j).bind f = some out) (kk : ∀ x, f x = some out → EE K a (pc + 1) L (.int x :: S) h) : EE K a pc L (.int j :: .ref b :: S) h := by
  intro H ls locs hR hS hL
  obtain ⟨x, e1, e2⟩ := ob hf
  obtain ⟨n, fn, g1, g2, rfl⟩ := aI_of e1
  exact va_iald O.x O.b O.k hR.1 b 0 (mw_get g1) rfl g2 d (kk _ e2 H ls locs hR hS hL)
theorem E_ialoadRO (O : Ok K own cc nL R) {i n : Nat} {xs : Nat → Int32} {j : Int32} {ρ : Type} {f : Int32 → Option ρ} {out : ρ} (hi : i < 3) (hx : gro K.1 i = (n, xs)) (d : decode cc pc = .ok (.iaload, 1)) (hf : (rA n xs j).bind f = some out) (kk : ∀ x, f x = some out → EE K a (pc + 1) L (.int x :: S) h) : EE K a pc L (.int j :: .ref (RO + i) :: S) h := by
  intro H ls locs hR hS hL
  obtain ⟨x, e1, e2⟩ := ob hf
  obtain ⟨g2, rfl⟩ := rA_of e1
  obtain ⟨b1, b2⟩ := O.bg.2.1 i hi
  rw [hx] at b1
  exact va_sld O.x O.b b1 (Nat.lt_of_lt_of_le b2 O.bg.2.2.1) (fun z => absurd z (Nat.not_le.mpr b2)) hS g2 d (kk _ e2 H ls locs hR hS hL)
theorem E_alenRO (O : Ok K own cc nL R) {i n : Nat} {xs : Nat → Int32} (hi : i < 3) (hx : gro K.1 i = (n, xs)) (d : decode cc pc = .ok (.arraylength, 1)) (kk : EE K a (pc + 1) L (.int (Int32.ofNat n) :: S) h) : EE K a pc L (.ref (RO + i) :: S) h := by
  intro H ls locs hR hS hL
  obtain ⟨b1, b2⟩ := O.bg.2.1 i hi
  rw [hx] at b1
  exact va_slen O.x O.b b1 (Nat.lt_of_lt_of_le b2 O.bg.2.2.1) (fun z => absurd z (Nat.not_le.mpr b2)) hS d (kk H ls locs hR hS hL)
theorem E_laload (O : Ok K own cc nL R) {b : Nat} {j : Int32} {ρ : Type} {f : Int64 → Option ρ} {out : ρ} (d : decode cc pc = .ok (.laload, 1)) (hf : (aL h b j).bind f = some out) (kk : ∀ x, f x = some out → EE K a (pc + 1) L (.long x :: S) h) : EE K a pc L (.int j :: .ref b :: S) h := by
  intro H ls locs hR hS hL
  obtain ⟨x, e1, e2⟩ := ob hf
  obtain ⟨n, fn, g1, g2, rfl⟩ := aL_of e1
  exact va_lald O.x O.b O.k hR.1 b 1 (mw_get g1) rfl g2 d (kk _ e2 H ls locs hR hS hL)
theorem E_aaload (O : Ok K own cc nL R) {b : Nat} {j : Int32} {ρ : Type} {f : Nat → Option ρ} {out : ρ} (d : decode cc pc = .ok (.aaload, 1)) (hf : (aR h b j).bind f = some out) (kk : ∀ x, f x = some out → EE K a (pc + 1) L (.ref x :: S) h) : EE K a pc L (.int j :: .ref b :: S) h := by
  intro H ls locs hR hS hL
  obtain ⟨x, e1, e2⟩ := ob hf
  obtain ⟨n, fn, g1, g2, g3⟩ := aR_of e1
  refine va_aldq O.x O.b O.k hR.1 b 2 (mw_get g1) rfl g2 d ?_
  rw [g3]
  exact kk _ e2 H ls locs hR hS hL
theorem E_iastore (O : Ok K own cc nL R) {b : Nat} {j x : Int32} {ρ : Type} {f : MH → Option ρ} {out : ρ} (d : decode cc pc = .ok (.iastore, 1)) (hf : (sI h b j x).bind f = some out) (kk : ∀ h', f h' = some out → EE K a (pc + 1) L S h') : EE K a pc L (.int x :: .int j :: .ref b :: S) h := by
  intro H ls locs hR hS hL
  obtain ⟨h', e1, e2⟩ := ob hf
  obtain ⟨n, fn, g1, g2, rfl⟩ := sI_of e1
  refine W.iast O.x O.b (hR.get g1) ((O.k.2 0 _ rfl).1 n (fun j => .int (fn j))) (fun q => by cases q) (by show ¬ (j < 0 ∨ (arrV _ _ _).slots.size ≤ _); rw [arrV_size]; exact g2) rfl rfl d fun H1 e z oq => ?_
  refine kk _ e2 H1 ls _ (hR.set O.bg.2.2.2.2.2.2.2.1 g1 ?_ z oq) (hS.put z oq ((O.D hR.2.2.2).2 b _ (mw_get g1))) hL
  show H1[gad K.1 b]? = some (vp_cell _ _)
  rw [e]
  show some (Cell.setSlot (arrV _ n (fun j => .int (fn j))) _ _) = some (arrV _ n (fun q => .int (upd fn j.toNatClampNeg x q)))
  rw [arrV_store]
  congr 2
  funext q
  by_cases hq : q = j.toNatClampNeg
  · subst hq
    simp [updV, upd]
  · simp [updV, upd, hq]
theorem E_lastore (O : Ok K own cc nL R) {b : Nat} {j : Int32} {x : Int64} {ρ : Type} {f : MH → Option ρ} {out : ρ} (d : decode cc pc = .ok (.lastore, 1)) (hf : (sL h b j x).bind f = some out) (kk : ∀ h', f h' = some out → EE K a (pc + 1) L S h') : EE K a pc L (.long x :: .int j :: .ref b :: S) h := by
  intro H ls locs hR hS hL
  obtain ⟨h', e1, e2⟩ := ob hf
  obtain ⟨n, fn, g1, g2, rfl⟩ := sL_of e1
  refine W.last O.x O.b (hR.get g1) ((O.k.2 1 _ rfl).1 n (fun j => .long (fn j))) (fun q => by cases q) (by show ¬ (j < 0 ∨ (arrV _ _ _).slots.size ≤ _); rw [arrV_size]; exact g2) rfl rfl d fun H1 e z oq => ?_
  refine kk _ e2 H1 ls _ (hR.set O.bg.2.2.2.2.2.2.2.1 g1 ?_ z oq) (hS.put z oq ((O.D hR.2.2.2).2 b _ (mw_get g1))) hL
  show H1[gad K.1 b]? = some (vp_cell _ _)
  rw [e]
  show some (Cell.setSlot (arrV _ n (fun j => .long (fn j))) _ _) = some (arrV _ n (fun q => .long (vp_updL fn j.toNatClampNeg x q)))
  rw [arrV_store]
  congr 2
  funext q
  by_cases hq : q = j.toNatClampNeg
  · subst hq
    simp [updV, vp_updL]
  · simp [updV, vp_updL, hq]
theorem E_aastore (O : Ok K own cc nL R) {b : Nat} {j : Int32} {x : Nat} {ρ : Type} {f : MH → Option ρ} {out : ρ} (d : decode cc pc = .ok (.aastore, 1)) (hf : (sR h b j x).bind f = some out) (kk : ∀ h', f h' = some out → EE K a (pc + 1) L S h') : EE K a pc L (.ref x :: .int j :: .ref b :: S) h := by
  intro H ls locs hR hS hL
  obtain ⟨h', e1, e2⟩ := ob hf
  obtain ⟨n, fn, fs, g1, g2, g3, rfl⟩ := sR_of e1
  have hlt : j.toNatClampNeg < n := Nat.not_le.mp fun q => g2 (Or.inr q)
  have h0 : ¬ j < 0 := fun q => g2 (Or.inl q)
  obtain ⟨r', hr', cellV, q1, q2, q3, -⟩ := hR.get g3
  have hc : vwCl[1]? = some (RX1, TX1, 18) := rfl
  have hcls := (O.k.1 1 _ hc).2
  obtain ⟨kA, comp, k1, k2, k3, -⟩ := (O.k.2 2 _ rfl).2
  have hcomp : comp = (gD K.1).1 1 := Option.some.inj (k3.symm.trans hcls.1)
  subst hcomp
  obtain ⟨kC, hkC, -⟩ := hcls.2
  refine W.aast O.x O.b (hR.get g1) (fun q h => by cases h) (fun h => by cases h) k1 k2 rfl hkC ⟨h0, by show _ < (arrV _ _ _).slots.size; rw [arrV_size]; exact hlt⟩ q1 (fun q h => by rw [q3] at h; cases h) (by rw [q2]; exact hkC) (by rw [q2]; exact va_assign hcls) rfl rfl d fun H1 e z oq => ?_
  refine kk _ e2 H1 ls _ (hR.set O.bg.2.2.2.2.2.2.2.1 g1 ?_ z oq) (hS.put z oq ((O.D hR.2.2.2).2 b _ (mw_get g1))) hL
  show H1[gad K.1 b]? = some (vp_cell _ _)
  rw [e]
  show some (Cell.setSlot (arrV _ n (fun j => va_rf ((fn j).map (gad K.1)))) _ _) = some (arrV _ n (fun q => va_rf ((va_up fn j.toNatClampNeg (some x) q).map (gad K.1))))
  rw [arrV_store]
  congr 2
  funext q
  by_cases hq : q = j.toNatClampNeg
  · subst hq
    simp [updV, va_up, va_rf]
  · simp [updV, va_up, hq]
theorem E_acopy (O : Ok K own cc nL R) {index b b1 : Nat} {sp dp n : Int32} {ρ : Type} {f : MH → Option ρ} {out : ρ} (hlink : Cond.methodLink own index arraycopyName ∈ AW) (hnat : Cond.native arraycopyName ∈ AW) (hstat : Cond.static arraycopyName ∈ AW) (hini : Cond.initialized "java/lang/System" ∈ AW) (hfr : 1 ≤ R.frames) (hlo : (S.map fun v => v.category).sum + (nativeFrameWords "java/lang/System" "arraycopy" 5 + 11) ≤ R.locals) (d : decode cc pc = .ok (.invokestatic index, 3))
    (hf : (cpA h b sp b1 dp n).bind f = some out) (kk : ∀ h', f h' = some out → EE K a (pc + 3) L S h') : EE K a pc L (.int n :: .int dp :: .ref b1 :: .int sp :: .ref b :: S) h := by
  intro H ls locs hR hS hL T hT X
  obtain ⟨h', e1, e2⟩ := ob hf
  obtain ⟨n0, fn, n1, gn, g1, g2, h1, h2, h3, h4, h5, rfl⟩ := cpA_of e1
  have hRR : kR K = R := O.2.2.2.2.2.2.1
  have hfr' : 1 ≤ (kR K).frames := by rw [hRR]; exact hfr
  rw [← hRR] at hlo
  have nn : ∀ z : Int32, ¬ z < 0 → z.toInt = (z.toNatClampNeg : Int) := fun z hz => by
    have hz0 : (0 : Int) ≤ z.toInt := by simpa using Int32.le_iff_toInt_le.mp (Int32.not_lt.mp hz)
    show z.toInt = ((z.toInt.toNat : Nat) : Int)
    omega
  have hc0 : H[gad K.1 b]? = some (vp_cell (gcA K.1 0) (n0, .inl fn)) := hR.get g1
  have hc1 : H[gad K.1 b1]? = some (vp_cell (gcA K.1 0) (n1, .inl gn)) := hR.get g2
  obtain ⟨-, k0, hk0, cm0, hkk0⟩ := (O.k.2 0 _ rfl).1 n0 (fun j => .int (fn j))
  have hcat : ((S.map (mv (gad K.1))).map fun v => v.category).sum = (S.map fun v => v.category).sum := by
    rw [List.map_map]
    congr 1
    exact List.map_congr_left (fun v _ => mv_cat v)
  obtain ⟨vm', X', step⟩ := X.arraycopy O.x O.ow (O.ws _ hlink) (O.ws _ hnat) (O.ws _ hstat) (O.ws _ hini) (src := gad K.1 b) (dst := gad K.1 b1) (cs := vp_cell (gcA K.1 0) (n0, .inl fn)) (cd := vp_cell (gcA K.1 0) (n1, .inl gn)) (srcPos := sp) (destPos := dp) (n := n) (by rw [hT]; exact hc0) (by rw [hT]; exact hc1)
    (fun _ h => by cases h) (fun _ h => by cases h) (fun h => by cases h) (fun h => by cases h) hk0 hk0 hkk0 hkk0 (by simp [refKind]) h1 h2 h3
    (by rw [nn sp h1, nn n h3]; show ¬ _ > ((arrV (gcA K.1 0) n0 (fun j => .int (fn j))).slots.size : Int); rw [arrV_size]; omega)
    (by rw [nn dp h2, nn n h3]; show ¬ _ > ((arrV (gcA K.1 0) n1 (fun j => .int (gn j))).slots.size : Int); rw [arrV_size]; omega)
    (fun vm₁ _ i hi => by
      have e : (vp_cell (gcA K.1 0) (n0, .inl fn)).slots.getD (sp.toNatClampNeg + i) .null = .int (fn (sp.toNatClampNeg + i)) := by
        show (arrV (gcA K.1 0) n0 (fun j => .int (fn j))).slots.getD _ _ = _
        rw [Array.getD_eq_getD_getElem?, arrV_read _ _ (by omega)]
        rfl
      rw [e]
      exact ⟨rfl, trivial⟩)
    (g := F0 (km K) pc ls ((.int n :: .int dp :: .ref b1 :: .int sp :: .ref b :: S).map (mv (gad K.1)))) rfl (by show ls.size = _; rw [hL.1]) (rest := S.map (mv (gad K.1))) rfl (by rw [O.b]; exact d) hfr' (by show 2 * 0 + _ + _ ≤ (kR K).locals; rw [hcat]; omega)
  have e3 : copied (vp_cell (gcA K.1 0) (n0, .inl fn)) (vp_cell (gcA K.1 0) (n1, .inl gn)) sp dp n = vp_cell (gcA K.1 0) (n1, .inl (va_cpy fn gn sp.toNatClampNeg dp.toNatClampNeg n.toNatClampNeg)) := va_copied (fun z => .int z) (gcA K.1 0) (gcA K.1 0) fn gn h4
  rw [e3] at X' step
  have hl : gad K.1 b1 < H.size := (Array.getElem?_eq_some_iff.mp hc1).1
  have hAb := (O.D hR.2.2.2).2 b1 _ (mw_get g2)
  have oq : ∀ (cl : Cell) (q : Nat), q ≠ gad K.1 b1 → (H.setIfInBounds (gad K.1 b1) cl)[q]? = H[q]? := fun cl q hq => by simp [Array.getElem?_setIfInBounds, Ne.symm hq]
  have hheap : ∀ cl : Cell, ((T.setVm vm').setCell (gad K.1 b1) cl).heap = H.setIfInBounds (gad K.1 b1) cl := fun cl => by rw [← hT]; rfl
  have hS' : ∀ (cl : Cell) (locs1 : List Loc), (∀ q ∈ locs1, gA K.1 q.base) → va_S (gA K.1) (ks K).heap (H.setIfInBounds (gad K.1 b1) cl) (locs ++ locs1) := fun cl locs1 hq => ⟨by simp; exact hS.1, fun q g1 g2 => by
      rw [oq cl q (fun e => g2 (by rw [e]; exact hAb))]
      exact hS.2.1 q g1 g2, fun q hq' => (List.mem_append.mp hq').elim (fun z => hS.2.2 q z) (fun z => hq q z)⟩
  obtain ⟨t, a1, b1'⟩ := kk _ e2 _ ls _ (hR.set O.bg.2.2.2.2.2.2.2.1 g2 (c' := .inl (0, n1, .inl (va_cpy fn gn sp.toNatClampNeg dp.toNatClampNeg n.toNatClampNeg))) (by show (H.setIfInBounds _ _)[gad K.1 b1]? = some (vp_cell _ _); simp [Array.getElem?_setIfInBounds, hl]; rfl) (by simp) (oq _)) (hS' _ _ (fun q hq => by
        obtain ⟨z, -, hz⟩ := List.mem_map.mp hq
        rw [← hz]
        exact hAb)) hL _ (hheap _) X'
  exact ⟨t, step t a1, b1'⟩
end
section
/-! contracts of methods over the small heap, and their calls -/
def Pm (g : Gx) (fr : Bool) (h : MH) (U : State) : Prop := Rel g fr h U.heap ∧ Bg g U
def Qm (g : Gx) (fr : Bool) (v : Option Value) (h : MH) : Array Value → State → Outcome → State → Prop := fun _ st oc t => oc = .returned (v.map (mv (gad g))) ∧ Rel g fr h t.heap ∧ va_F (gA g) st t
def rmm (f lo mc ms : Nat) : Room := { frames := f, cells := mc, slots := ms, locals := lo }
def MM (g : Gx) (y : MethodName) (cc : ByteArray) (maxL : Nat) (ret : Option FieldType) (rf rl mc ms : Nat) (fr fr' : Bool) (args : List Value) (h : MH) (v : Option Value) (h' : MH) : Prop :=
  Met (gl g) y (Cond.code y cc maxL ret :: AW) (rmm rf rl mc ms) (va_Pc (args.map (mv (gad g))) (Pm g fr h)) (Qm g fr' v h') mc ms (gA g)
theorem Pm_blind {g : Gx} {fr : Bool} {h : MH} {vs : List Value} : FrameBlind (va_Pc vs (Pm g fr h)) := by
  intro a U f mk q
  obtain ⟨q1, q2, q3⟩ := q
  refine ⟨q1, q2, Bg.to (s := U) q3 ?_ (Nat.le_refl _) (fun _ _ _ => rfl)⟩
  exact State.WarmedH.refl U
/-- the locals at a method's entry -/
def entL : List Value → Nat → List (Option Value)
  | [], n => List.replicate n none
  | v :: vs, n => match v.category with
    | 2 => some v :: none :: entL vs (n - 2)
    | _ => some v :: entL vs (n - 1)
theorem entL_in {ad : Nat → Nat} : ∀ (vs : List Value) (n o i : Nat) (v : Value), (entL vs n)[i]? = some (some v) → (i + o, mv ad v) ∈ lv_args o (vs.map (mv ad)) := by
  intro vs
  induction vs with
  | nil =>
    intro n o i v h
    simp only [entL, List.getElem?_replicate] at h
    split at h <;> cases h
  | cons w vs ih =>
    intro n o i v h
    have hcat := mv_cat (ad := ad) w
    rcases lv_cat w with hc | hc
    · simp only [entL, hc] at h
      simp only [List.map_cons, lv_args, hcat, hc]
      cases i with
      | zero =>
        simp only [List.getElem?_cons_zero, Option.some.injEq] at h
        subst h
        simp
      | succ i =>
        have h2 := ih _ (o + 1) i v (by simpa using h)
        refine List.mem_cons_of_mem _ ?_
        rw [show i + 1 + o = i + (o + 1) by omega]
        simpa using h2
    · simp only [entL, hc] at h
      simp only [List.map_cons, lv_args, hcat, hc]
      cases i with
      | zero =>
        simp only [List.getElem?_cons_zero, Option.some.injEq] at h
        subst h
        simp
      | succ i =>
        cases i with
        | zero => simp at h
        | succ i =>
          have h2 := ih _ (o + 2) i v (by simpa using h)
          refine List.mem_cons_of_mem _ ?_
          rw [show i + 1 + 1 + o = i + (o + 2) by omega]
          simpa using h2
theorem lg_sl_len {ad : Nat → Nat} (vs : List Value) : (lg_sl (vs.map (mv ad))).length = (lg_sl vs).length := by
  induction vs with
  | nil => rfl
  | cons v vs ih =>
    simp only [lg_sl, List.map_cons, List.flatMap_cons, List.length_append, mv_cat] at ih ⊢
    rw [ih]
    split <;> rfl
theorem entL_len : ∀ (vs : List Value) (n : Nat), (lg_sl vs).length ≤ n → (entL vs n).length = n := by
  intro vs
  induction vs with
  | nil => intro n _; simp [entL]
  | cons v vs ih =>
    intro n h
    simp only [lg_sl, List.flatMap_cons, List.length_append] at h ih
    rcases lv_cat v with hc | hc
    · rw [if_neg (by omega)] at h
      simp only [List.length_cons, List.length_nil] at h
      simp only [entL, hc, List.length_cons]
      rw [ih (n - 1) (by omega)]
      omega
    · rw [if_pos hc] at h
      simp only [List.length_cons, List.length_nil] at h
      simp only [entL, hc, List.length_cons]
      rw [ih (n - 2) (by omega)]
      omega
/-- what the end must meet: an answer, a small heap -/
def Out (K : Cx) (ret : Option FieldType) (fr : Bool) (v : Option Value) (h : MH) : Prop :=
  K.2.2.2 = MQ K.2.2.1.2.2.1 (Qm K.1 fr v h) (kargs K) (ks K) (kR K).cells (kR K).slots (gA K.1) ∧ (kmeth K).sig.returnType = ret
theorem MM_of {g : Gx} {y : MethodName} {cc : ByteArray} {maxL : Nat} {ret : Option FieldType} {rf rl mc ms : Nat} {fr fr' : Bool} {args : List Value} {h : MH} {v : Option Value} {h' : MH} {L : List (Option Value)} (hy : plainName y.cls = true) (hlen : (lg_sl args).length ≤ maxL) (hL : entL args maxL = L)
    (body : ∀ K : Cx, K.1 = g → Ok K y.cls cc maxL (rmm rf rl mc ms) → Out K ret fr' v h' → (kmeth K).name = y.name → EE K (fr, 0, 0) 0 L [] h) : MM g y cc maxL ret rf rl mc ms fr fr' args h v h' := by
  refine Met.ofW (cc := cc) (maxL := maxL) (ret := ret) hy rfl ?_
  intro p e s m argv below meth c s₁ B hml hv
  obtain ⟨rfl, hRel, hBg⟩ := hv
  have hts := atoms_spec (ws := Cond.code y cc maxL ret :: AW) B.pre
  have hl := lv_entry (args.map (mv (gad g))) (n := maxL) (by rw [lg_sl_len]; exact hlen)
  rw [lg_entry_eq]
  subst hL
  refine body (g, (p, e, _, s), (m, _, below, meth, c), MQ below (Qm g fr' v h') _ s mc ms (gA g)) rfl ⟨B.exec, B.bytes, hml, findClass_of_methodNamed B.named, fun w hw => hts w (List.mem_cons_of_mem _ hw), hBg, rfl, B.notSynchronized⟩ ⟨rfl, B.returns⟩ (name_of_methodNamed B.named B.method).1 s.heap _ [] hRel va_S.rf ⟨?_, ?_, hl.2.1, fun i w hw => ?_⟩
  · rw [hml]; exact hl.1
  · rw [hml]; exact entL_len _ _ hlen
  · exact hl.2.2 _ (entL_in args maxL 0 i w hw)
variable {K : Cx} {own : String} {cc : ByteArray} {nL : Nat} {R : Room} {a : Bool × Nat × Nat} {pc : Nat} {L : List (Option Value)} {S : List Value} {h : MH}
theorem Rel.fr {g : Gx} {fr fr' : Bool} {h : MH} {H : Heap} (hfr : fr' = true → fr = true) (hR : Rel g fr h H) : Rel g fr' h H := ⟨hR.1, hR.2.1, fun q => hR.2.2.1 (hfr q), hR.2.2.2⟩
theorem E_iret0 (O : Ok K own cc nL R) {x : Int32} {v : Option Value} {h' : MH} (Z : Out K (some .int) a.1 v h') (hv : v = some (.int x)) (hh : h = h') (hc : a.2.1 ≤ R.cells ∧ a.2.2 ≤ R.slots) (d : decode cc pc = .ok (.ireturn, 1)) : EE K a pc L [.int x] h := by
  intro H ls locs hR hS hL
  subst hh; subst hv
  have hc : a.2.1 ≤ (kR K).cells ∧ a.2.2 ≤ (kR K).slots := by rw [O.2.2.2.2.2.2.1]; exact hc
  unfold WW
  rw [Z.1]
  refine W.widen hc.1 hc.2 ?_
  exact W.iret O.x O.b Z.2 (fun t ht hW => ⟨rfl, by rw [ht]; exact hR, hS.F ht⟩) hS.2.2 d O.2.2.2.2.2.2.2
theorem E_lret0 (O : Ok K own cc nL R) {x : Int64} {v : Option Value} {h' : MH} (Z : Out K (some .long) a.1 v h') (hv : v = some (.long x)) (hh : h = h') (hc : a.2.1 ≤ R.cells ∧ a.2.2 ≤ R.slots) (d : decode cc pc = .ok (.lreturn, 1)) : EE K a pc L [.long x] h := by
  intro H ls locs hR hS hL
  subst hh; subst hv
  have hc : a.2.1 ≤ (kR K).cells ∧ a.2.2 ≤ (kR K).slots := by rw [O.2.2.2.2.2.2.1]; exact hc
  unfold WW
  rw [Z.1]
  refine W.widen hc.1 hc.2 ?_
  exact W.lret O.x O.b Z.2 (fun t ht hW => ⟨rfl, by rw [ht]; exact hR, hS.F ht⟩) hS.2.2 d O.2.2.2.2.2.2.2
theorem E_dret0 (O : Ok K own cc nL R) {x : UInt64} {v : Option Value} {h' : MH} (Z : Out K (some .double) a.1 v h') (hv : v = some (.double x)) (hh : h = h') (hc : a.2.1 ≤ R.cells ∧ a.2.2 ≤ R.slots) (d : decode cc pc = .ok (.dreturn, 1)) : EE K a pc L [.double x] h := by
  intro H ls locs hR hS hL
  subst hh; subst hv
  have hc : a.2.1 ≤ (kR K).cells ∧ a.2.2 ≤ (kR K).slots := by rw [O.2.2.2.2.2.2.1]; exact hc
  unfold WW
  rw [Z.1]
  refine W.widen hc.1 hc.2 ?_
  exact W.dret O.x O.b Z.2 (fun t ht hW => ⟨rfl, by rw [ht]; exact hR, hS.F ht⟩) hS.2.2 d O.2.2.2.2.2.2.2
/-- a boolean's return keeps the lowest bit -/
theorem W_zret1 {p : Program} {l : Launch} {e : Env} {R : Room} {s : State} {m : MethodId} {args : Array Value} {below : List Frame} {meth : Method} {c : Code} {H : Heap} {locs : List Loc} {cells slots : Nat} {cc : ByteArray} {Qc : Array Value → State → Outcome → State → Prop} {free : Addr → Prop} {v : Int32} (hexec : p.tables.exec = Jvm.exec) (hb : c.code = cc) (hr : meth.sig.returnType = some .boolean)
    (hq : ∀ t : State, t.heap = H → s.WarmedH t.vm → Qc args s (.returned (some (.int (v &&& 1)))) t) (hf : ∀ q ∈ locs, free q.base)
    {pc : Nat} {ls : Array Slot} (hdg : decode cc pc = .ok (.ireturn, 1)) (hlocks : meth.locks = false) : W p l e R s m args below meth c H locs cells slots (MQ below Qc args s cells slots free) (F0 m pc ls [.int v]) := by
  intro T hT X
  obtain ⟨fs, hret, hrun, hended, hW, hframe⟩ := X.leave (v := some (.int (v &&& 1))) (fun h => by rw [hr] at h; cases h)
  have hmeth' : T.vm.method? m = some meth := X.method'
  refine ⟨T.setFrames fs, ?_, .returned (some (.int (v &&& 1))), hrun, hended, hq _ hT hW, locs, ⟨⟨_, rfl⟩, hW, hframe⟩, hf⟩
  jvm_step X.here [X.here.top, hexec, hb, hdg, hmeth', hr, narrow]
  (try refine ⟨rfl, ?_⟩); (try refine ⟨rfl, ?_⟩)
  first | (intro acts; rw [hret _ acts rfl rfl rfl]) | rw [hret _ _ rfl rfl rfl]
  exact Steps.refl _
theorem E_zret0 (O : Ok K own cc nL R) {x : Int32} {v : Option Value} {h' : MH} (Z : Out K (some .boolean) a.1 v h') (hv : v = some (.int (x &&& 1))) (hh : h = h') (hc : a.2.1 ≤ R.cells ∧ a.2.2 ≤ R.slots) (d : decode cc pc = .ok (.ireturn, 1)) : EE K a pc L [.int x] h := by
  intro H ls locs hR hS hL
  subst hh; subst hv
  have hc : a.2.1 ≤ (kR K).cells ∧ a.2.2 ≤ (kR K).slots := by rw [O.2.2.2.2.2.2.1]; exact hc
  unfold WW
  rw [Z.1]
  refine W.widen hc.1 hc.2 ?_
  exact W_zret1 O.x O.b Z.2 (fun t ht hW => ⟨rfl, by rw [ht]; exact hR, hS.F ht⟩) hS.2.2 d O.2.2.2.2.2.2.2
theorem E_vret0 (O : Ok K own cc nL R) {v : Option Value} {h' : MH} (Z : Out K none a.1 v h') (hv : v = none) (hh : h = h') (hc : a.2.1 ≤ R.cells ∧ a.2.2 ≤ R.slots) (d : decode cc pc = .ok (.return_, 1)) : EE K a pc L [] h := by
  intro H ls locs hR hS hL
  subst hh; subst hv
  have hc : a.2.1 ≤ (kR K).cells ∧ a.2.2 ≤ (kR K).slots := by rw [O.2.2.2.2.2.2.1]; exact hc
  unfold WW
  rw [Z.1]
  refine W.widen hc.1 hc.2 ?_
  exact W.vret O.x O.b Z.2 (fun t ht hW => ⟨rfl, by rw [ht]; exact hR, hS.F ht⟩) hS.2.2 d O.2.2.2.2.2.2.2
theorem E_iret (O : Ok K own cc nL R) {x : Int32} {out : Int32 × MH} (Z : Out K (some .int) a.1 (some (.int out.1)) out.2) (hf : some (x, h) = some out) (hc : a.2.1 ≤ R.cells ∧ a.2.2 ≤ R.slots) (d : decode cc pc = .ok (.ireturn, 1)) : EE K a pc L [.int x] h := by
  cases hf
  exact E_iret0 O Z rfl rfl hc d
theorem E_iretP (O : Ok K own cc nL R) {x : Int32} {out : Int32} (Z : Out K (some .int) a.1 (some (.int out)) h) (hf : some x = some out) (hc : a.2.1 ≤ R.cells ∧ a.2.2 ≤ R.slots) (d : decode cc pc = .ok (.ireturn, 1)) : EE K a pc L [.int x] h := by
  cases hf
  exact E_iret0 O Z rfl rfl hc d
theorem E_zret (O : Ok K own cc nL R) {x : Int32} {out : Int32 × MH} (Z : Out K (some .boolean) a.1 (some (.int out.1)) out.2) (hf : some ((x &&& 1), h) = some out) (hc : a.2.1 ≤ R.cells ∧ a.2.2 ≤ R.slots) (d : decode cc pc = .ok (.ireturn, 1)) : EE K a pc L [.int x] h := by
  cases hf
  exact E_zret0 O Z rfl rfl hc d
theorem E_zretP (O : Ok K own cc nL R) {x : Int32} {out : Int32} (Z : Out K (some .boolean) a.1 (some (.int out)) h) (hf : some (x &&& 1) = some out) (hc : a.2.1 ≤ R.cells ∧ a.2.2 ≤ R.slots) (d : decode cc pc = .ok (.ireturn, 1)) : EE K a pc L [.int x] h := by
  cases hf
  exact E_zret0 O Z rfl rfl hc d
theorem E_lret (O : Ok K own cc nL R) {x : Int64} {out : Int64 × MH} (Z : Out K (some .long) a.1 (some (.long out.1)) out.2) (hf : some (x, h) = some out) (hc : a.2.1 ≤ R.cells ∧ a.2.2 ≤ R.slots) (d : decode cc pc = .ok (.lreturn, 1)) : EE K a pc L [.long x] h := by
  cases hf
  exact E_lret0 O Z rfl rfl hc d
theorem E_lretP (O : Ok K own cc nL R) {x : Int64} {out : Int64} (Z : Out K (some .long) a.1 (some (.long out)) h) (hf : some x = some out) (hc : a.2.1 ≤ R.cells ∧ a.2.2 ≤ R.slots) (d : decode cc pc = .ok (.lreturn, 1)) : EE K a pc L [.long x] h := by
  cases hf
  exact E_lret0 O Z rfl rfl hc d
theorem E_dret (O : Ok K own cc nL R) {x : UInt64} {out : UInt64 × MH} (Z : Out K (some .double) a.1 (some (.double out.1)) out.2) (hf : some (x, h) = some out) (hc : a.2.1 ≤ R.cells ∧ a.2.2 ≤ R.slots) (d : decode cc pc = .ok (.dreturn, 1)) : EE K a pc L [.double x] h := by
  cases hf
  exact E_dret0 O Z rfl rfl hc d
theorem E_dretP (O : Ok K own cc nL R) {x : UInt64} {out : UInt64} (Z : Out K (some .double) a.1 (some (.double out)) h) (hf : some x = some out) (hc : a.2.1 ≤ R.cells ∧ a.2.2 ≤ R.slots) (d : decode cc pc = .ok (.dreturn, 1)) : EE K a pc L [.double x] h := by
  cases hf
  exact E_dret0 O Z rfl rfl hc d
theorem E_vret (O : Ok K own cc nL R) {out : MH} (Z : Out K none a.1 none out) (hf : some h = some out) (hc : a.2.1 ≤ R.cells ∧ a.2.2 ≤ R.slots) (d : decode cc pc = .ok (.return_, 1)) : EE K a pc L [] h := by
  cases hf
  exact E_vret0 O Z rfl rfl hc d
/-- a call's words -/
def CB (own : String) (index : Nat) (y : MethodName) (bytes : ByteArray) (maxL : Nat) (ret : Option FieldType) (n : Nat) : Prop :=
  Cond.methodLink own index y ∈ AW ∧ Cond.code y bytes maxL ret ∈ AW ∧ Cond.initialized y.cls ∈ AW ∧ (y.cls ≠ "java/lang/invoke/MethodHandle" ∧ y.cls ≠ "java/lang/invoke/VarHandle" ∧ (parseMethodDescriptor y.desc).map (fun d => d.parameters.length) = some n)
def CV (own : String) (index : Nat) (y : MethodName) (bytes : ByteArray) (maxL : Nat) (ret : Option FieldType) (n : Nat) : Prop := CB own index y bytes maxL ret n ∧ Cond.instanceMethod y ∈ AW ∧ Cond.selects y.cls y y ∈ AW
def CS (own : String) (index : Nat) (y : MethodName) (bytes : ByteArray) (maxL : Nat) (ret : Option FieldType) (n : Nat) : Prop := CB own index y bytes maxL ret n ∧ Cond.static y ∈ AW
theorem AW_self {y : MethodName} {bytes : ByteArray} {maxL : Nat} {ret : Option FieldType} (h : Cond.code y bytes maxL ret ∈ AW) : GoodIn AW (Cond.code y bytes maxL ret :: AW) := by
  intro w hw
  rcases List.mem_cons.mp hw with rfl | hw
  · exact ⟨h, good_of_word (List.mem_filter.mp h).2⟩
  · exact ⟨hw, good_of_word (List.mem_filter.mp hw).2⟩
theorem CB.use (O : Ok K own cc nL R) {index : Nat} {y : MethodName} {bytes : ByteArray} {maxL : Nat} {ret : Option FieldType} {n rf rl mc ms : Nat} (w : CB own index y bytes maxL ret n) (hr : rf + 1 ≤ R.frames ∧ 8 + (maxL + 11) + rl ≤ R.locals) :
    CallB (kR K) (ks K) (kargs K) own index y bytes maxL ret (Cond.code y bytes maxL ret :: AW) (rmm rf rl mc ms) mc ms n := by
  rw [show kR K = R from O.2.2.2.2.2.2.1]
  exact callB_of n O.ws (AW_self w.2.1) rfl rfl rfl (O.ws _ w.2.2.1) (O.ws _ w.1) w.2.2.2 hr
theorem Pm_at (O : Ok K own cc nL R) {H : Heap} {locs : List Loc} (hR : Rel K.1 a.1 h H) (hS : va_S (gA K.1) (ks K).heap H locs) {vs : List Value} : ∀ U : State, U.heap = H → (ks K).WarmedH U.vm → va_Pc vs (Pm K.1 a.1 h) vs.toArray U := by
  intro U hU hW
  refine ⟨rfl, by rw [hU]; exact hR, Bg.to O.bg hW (by rw [hU]; exact hS.1) (fun q h1 h2 => by rw [hU]; exact hS.2.1 q h1 h2)⟩
/-- behind a call -/
theorem E_back {H : Heap} {ls : Array Slot} {locs : List Loc} {mc ms : Nat} {fr' : Bool} {v : Option Value} {h' : MH} {av : Array Value} {st0 : List Value} (hS : va_S (gA K.1) (ks K).heap H locs) (hL : LR (gad K.1) (kc K).maxLocals L ls)
    (hrun : va_Run K.2.1.1 (gl K.1) K.2.1.2.1 (kR K) (ks K) (km K) (kargs K) K.2.2.1.2.2.1 (kmeth K) (kc K) H locs a.2.1 a.2.2 mc ms (F0 (km K) pc ls st0) (S.map (mv (gad K.1))) (Qm K.1 fr' v h' av) (gA K.1))
    (kk : EE K (fr', a.2.1 + mc, a.2.2 + ms) (pc + 3) L (v.toList ++ S) h') : WW K H locs a.2.1 a.2.2 (F0 (km K) pc ls st0) := by
  intro T hT X
  obtain ⟨v', st₀, t, T', L', h0, X', hL', e1, e2, ⟨hv, hRel, hF⟩, st⟩ := hrun T hT X
  cases hv
  obtain ⟨hz, hk⟩ := hF
  rw [h0] at hz hk
  have hS' : va_S (gA K.1) (ks K).heap T'.heap (locs ++ L') := ⟨Nat.le_trans hS.1 (by rw [e1]; exact hz), fun q h1 h2 => by rw [e1, hk q (Nat.lt_of_lt_of_le h1 hS.1) h2]; exact hS.2.1 q h1 h2, fun q hq => by
    rcases List.mem_append.mp hq with h | h
    · exact hS.2.2 q h
    · exact hL' q h⟩
  obtain ⟨t2, a1, b1⟩ := kk T'.heap ls _ (by rw [e1]; exact hRel) hS' hL T' rfl X'
  refine ⟨t2, st t2 ?_, b1⟩
  have e : (v.toList ++ S).map (mv (gad K.1)) = (v.map (mv (gad K.1))).toList ++ S.map (mv (gad K.1)) := by cases v <;> rfl
  rw [e] at a1
  exact a1
theorem S_room {S : List Value} {ls : Array Slot} {m : MethodId} {st : List Value} {ad : Nat → Nat} (h : (S.map fun v => v.category).sum ≤ 8) : 2 * (F0 m pc ls st).monitorRoom + ((S.map (mv ad)).map fun v => v.category).sum ≤ 8 := by
  have hcat : ((S.map (mv ad)).map fun v => v.category).sum = (S.map fun v => v.category).sum := by
    rw [List.map_map]
    congr 1
    exact List.map_congr_left (fun v _ => mv_cat v)
  exact lv_room (m := m) (pc := pc) (ls := ls) (rest := st) (by rw [hcat]; exact h)
def vcall {α : Type} (h : MH) (ci b : Nat) (o : Option α) : Option α := if isO h ci b = true then o else none
theorem vcall_of {α : Type} {h : MH} {ci b : Nat} {o : Option α} {r : α} (e : vcall h ci b o = some r) : isO h ci b = true ∧ o = some r := by
  unfold vcall at e
  split at e
  · next hi => exact ⟨hi, e⟩
  · cases e
theorem E_callV {α ρ : Type} (O : Ok K own cc nL R) {index ci b : Nat} {y : MethodName} {bytes : ByteArray} {maxL : Nat} {ret : Option FieldType} {rf rl mc ms : Nat} {fr' : Bool} (As : List Value) {S0 : List Value} {o : Option α} {f : α → Option ρ} {out : ρ} (mk : α → Option Value × MH) (w : CV own index y bytes maxL ret As.length) (hci : (vwCl[ci]?).map (fun r => r.1) = some y.cls)
    (hM : ∀ r, o = some r → MM K.1 y bytes maxL ret rf rl mc ms a.1 fr' (.ref b :: As) h (mk r).1 (mk r).2) (d : decode cc pc = .ok (.invokevirtual index, 3)) (hf : (vcall h ci b o).bind f = some out) (hst : S0 = As.reverse ++ .ref b :: S)
    (hr : rf + 1 ≤ R.frames ∧ 8 + (maxL + 11) + rl ≤ R.locals) (hc : a.2.1 + mc ≤ R.cells ∧ a.2.2 + ms ≤ R.slots) (hsum : (S.map fun v => v.category).sum ≤ 8) (kk : ∀ r, f r = some out → EE K (fr', a.2.1 + mc, a.2.2 + ms) (pc + 3) L ((mk r).1.toList ++ S) (mk r).2) : EE K a pc L S0 h := by
  intro H ls locs hR hS hL
  subst hst
  obtain ⟨r, e1, e2⟩ := ob hf
  obtain ⟨e1, e3⟩ := vcall_of e1
  obtain ⟨fs, g1⟩ := isO_of e1
  obtain ⟨q, hq1, hq2⟩ := Option.map_eq_some_iff.mp hci
  have hc : a.2.1 + mc ≤ (kR K).cells ∧ a.2.2 + ms ≤ (kR K).slots := by rw [O.2.2.2.2.2.2.1]; exact hc
  have hrecv := va_recv O.k hR.1 hq1 (mw_get g1)
  rw [hq2] at hrecv
  have hrun := va_runV (e := K.2.1.2.1) (below := K.2.2.1.2.2.1) (meth := kmeth K) (As := As.map (mv (gad K.1))) (rest := S.map (mv (gad K.1))) (locs := locs) (cells := a.2.1) (slots := a.2.2) ⟨O.x, O.b, O.2.2.1, O.ow, O.ws⟩ (hM r e3) ⟨CB.use O w.1 hr, O.ws _ w.2.1, O.ws _ w.2.2⟩ ⟨Pm_blind, hrecv, Pm_at O hR hS⟩ (g := F0 (km K) pc ls ((As.reverse ++ .ref b :: S).map (mv (gad K.1)))) rfl (by simp) (by show ls.size = _; rw [hL.1, O.2.2.1]) (by show List.map _ _ = _; simp [mv]) (S_room hsum) d hc
  exact E_back hS hL hrun (kk r e2)
theorem E_callS {α ρ : Type} (O : Ok K own cc nL R) {index : Nat} {y : MethodName} {bytes : ByteArray} {maxL : Nat} {ret : Option FieldType} {rf rl mc ms : Nat} {fr' : Bool} (As : List Value) {S0 : List Value} {o : Option α} {f : α → Option ρ} {out : ρ} (mk : α → Option Value × MH) (w : CS own index y bytes maxL ret As.length)
    (hM : ∀ r, o = some r → MM K.1 y bytes maxL ret rf rl mc ms a.1 fr' As h (mk r).1 (mk r).2) (d : decode cc pc = .ok (.invokestatic index, 3)) (hf : o.bind f = some out) (hst : S0 = As.reverse ++ S)
    (hr : rf + 1 ≤ R.frames ∧ 8 + (maxL + 11) + rl ≤ R.locals) (hc : a.2.1 + mc ≤ R.cells ∧ a.2.2 + ms ≤ R.slots) (hsum : (S.map fun v => v.category).sum ≤ 8) (kk : ∀ r, f r = some out → EE K (fr', a.2.1 + mc, a.2.2 + ms) (pc + 3) L ((mk r).1.toList ++ S) (mk r).2) : EE K a pc L S0 h := by
  intro H ls locs hR hS hL
  subst hst
  obtain ⟨r, e3, e2⟩ := ob hf
  have hc : a.2.1 + mc ≤ (kR K).cells ∧ a.2.2 + ms ≤ (kR K).slots := by rw [O.2.2.2.2.2.2.1]; exact hc
  have hrun := va_runS (e := K.2.1.2.1) (below := K.2.2.1.2.2.1) (meth := kmeth K) (As := As.map (mv (gad K.1))) (rest := S.map (mv (gad K.1))) (locs := locs) (cells := a.2.1) (slots := a.2.2) ⟨O.x, O.b, O.2.2.1, O.ow, O.ws⟩ (hM r e3) ⟨CB.use O w.1 hr, O.ws _ w.2⟩ ⟨Pm_blind, Pm_at O hR hS⟩ (g := F0 (km K) pc ls ((As.reverse ++ S).map (mv (gad K.1)))) rfl (by simp) (by show ls.size = _; rw [hL.1, O.2.2.1]) (by show List.map _ _ = _; simp) (S_room hsum) d hc
  exact E_back hS hL hrun (kk r e2)
theorem E_callV_i {ρ : Type} (O : Ok K own cc nL R) {index ci b : Nat} {y : MethodName} {bytes : ByteArray} {maxL : Nat} {ret : Option FieldType} {rf rl mc ms : Nat} (As : List Value) {S0 : List Value} {o : Option (Int32 × MH)} {f : Int32 × MH → Option ρ} {out : ρ} (w : CV own index y bytes maxL ret As.length) (hci : (vwCl[ci]?).map (fun r => r.1) = some y.cls)
    (hM : ∀ r, o = some r → MM K.1 y bytes maxL ret rf rl mc ms a.1 a.1 (.ref b :: As) h (some (.int r.1)) r.2) (d : decode cc pc = .ok (.invokevirtual index, 3)) (hf : (vcall h ci b o).bind f = some out) (hst : S0 = As.reverse ++ .ref b :: S)
    (hr : rf + 1 ≤ R.frames ∧ 8 + (maxL + 11) + rl ≤ R.locals) (hc : a.2.1 + mc ≤ R.cells ∧ a.2.2 + ms ≤ R.slots) (hsum : (S.map fun v => v.category).sum ≤ 8) (kk : ∀ r, f r = some out → EE K (a.1, a.2.1 + mc, a.2.2 + ms) (pc + 3) L (.int r.1 :: S) r.2) : EE K a pc L S0 h := E_callV O As (fun r => (some (.int r.1), r.2)) w hci hM d hf hst hr hc hsum kk
theorem E_callS_i {ρ : Type} (O : Ok K own cc nL R) {index : Nat} {y : MethodName} {bytes : ByteArray} {maxL : Nat} {ret : Option FieldType} {rf rl mc ms : Nat} (As : List Value) {S0 : List Value} {o : Option (Int32 × MH)} {f : Int32 × MH → Option ρ} {out : ρ} (w : CS own index y bytes maxL ret As.length)
    (hM : ∀ r, o = some r → MM K.1 y bytes maxL ret rf rl mc ms a.1 a.1 As h (some (.int r.1)) r.2) (d : decode cc pc = .ok (.invokestatic index, 3)) (hf : o.bind f = some out) (hst : S0 = As.reverse ++ S)
    (hr : rf + 1 ≤ R.frames ∧ 8 + (maxL + 11) + rl ≤ R.locals) (hc : a.2.1 + mc ≤ R.cells ∧ a.2.2 + ms ≤ R.slots) (hsum : (S.map fun v => v.category).sum ≤ 8) (kk : ∀ r, f r = some out → EE K (a.1, a.2.1 + mc, a.2.2 + ms) (pc + 3) L (.int r.1 :: S) r.2) : EE K a pc L S0 h := E_callS O As (fun r => (some (.int r.1), r.2)) w hM d hf hst hr hc hsum kk
theorem E_callV_iP {ρ : Type} (O : Ok K own cc nL R) {index ci b : Nat} {y : MethodName} {bytes : ByteArray} {maxL : Nat} {ret : Option FieldType} {rf rl mc ms : Nat} (As : List Value) {S0 : List Value} {o : Option (Int32)} {f : Int32 → Option ρ} {out : ρ} (w : CV own index y bytes maxL ret As.length) (hci : (vwCl[ci]?).map (fun r => r.1) = some y.cls)
    (hM : ∀ r, o = some r → MM K.1 y bytes maxL ret rf rl mc ms a.1 a.1 (.ref b :: As) h (some (.int r)) h) (d : decode cc pc = .ok (.invokevirtual index, 3)) (hf : (vcall h ci b o).bind f = some out) (hst : S0 = As.reverse ++ .ref b :: S)
    (hr : rf + 1 ≤ R.frames ∧ 8 + (maxL + 11) + rl ≤ R.locals) (hc : a.2.1 + mc ≤ R.cells ∧ a.2.2 + ms ≤ R.slots) (hsum : (S.map fun v => v.category).sum ≤ 8) (kk : ∀ r, f r = some out → EE K (a.1, a.2.1 + mc, a.2.2 + ms) (pc + 3) L (.int r :: S) h) : EE K a pc L S0 h := E_callV O As (fun r => (some (.int r), h)) w hci hM d hf hst hr hc hsum kk
theorem E_callS_iP {ρ : Type} (O : Ok K own cc nL R) {index : Nat} {y : MethodName} {bytes : ByteArray} {maxL : Nat} {ret : Option FieldType} {rf rl mc ms : Nat} (As : List Value) {S0 : List Value} {o : Option (Int32)} {f : Int32 → Option ρ} {out : ρ} (w : CS own index y bytes maxL ret As.length)
    (hM : ∀ r, o = some r → MM K.1 y bytes maxL ret rf rl mc ms a.1 a.1 As h (some (.int r)) h) (d : decode cc pc = .ok (.invokestatic index, 3)) (hf : o.bind f = some out) (hst : S0 = As.reverse ++ S)
    (hr : rf + 1 ≤ R.frames ∧ 8 + (maxL + 11) + rl ≤ R.locals) (hc : a.2.1 + mc ≤ R.cells ∧ a.2.2 + ms ≤ R.slots) (hsum : (S.map fun v => v.category).sum ≤ 8) (kk : ∀ r, f r = some out → EE K (a.1, a.2.1 + mc, a.2.2 + ms) (pc + 3) L (.int r :: S) h) : EE K a pc L S0 h := E_callS O As (fun r => (some (.int r), h)) w hM d hf hst hr hc hsum kk
theorem E_callV_l {ρ : Type} (O : Ok K own cc nL R) {index ci b : Nat} {y : MethodName} {bytes : ByteArray} {maxL : Nat} {ret : Option FieldType} {rf rl mc ms : Nat} (As : List Value) {S0 : List Value} {o : Option (Int64 × MH)} {f : Int64 × MH → Option ρ} {out : ρ} (w : CV own index y bytes maxL ret As.length) (hci : (vwCl[ci]?).map (fun r => r.1) = some y.cls)
    (hM : ∀ r, o = some r → MM K.1 y bytes maxL ret rf rl mc ms a.1 a.1 (.ref b :: As) h (some (.long r.1)) r.2) (d : decode cc pc = .ok (.invokevirtual index, 3)) (hf : (vcall h ci b o).bind f = some out) (hst : S0 = As.reverse ++ .ref b :: S)
    (hr : rf + 1 ≤ R.frames ∧ 8 + (maxL + 11) + rl ≤ R.locals) (hc : a.2.1 + mc ≤ R.cells ∧ a.2.2 + ms ≤ R.slots) (hsum : (S.map fun v => v.category).sum ≤ 8) (kk : ∀ r, f r = some out → EE K (a.1, a.2.1 + mc, a.2.2 + ms) (pc + 3) L (.long r.1 :: S) r.2) : EE K a pc L S0 h := E_callV O As (fun r => (some (.long r.1), r.2)) w hci hM d hf hst hr hc hsum kk
theorem E_callS_l {ρ : Type} (O : Ok K own cc nL R) {index : Nat} {y : MethodName} {bytes : ByteArray} {maxL : Nat} {ret : Option FieldType} {rf rl mc ms : Nat} (As : List Value) {S0 : List Value} {o : Option (Int64 × MH)} {f : Int64 × MH → Option ρ} {out : ρ} (w : CS own index y bytes maxL ret As.length)
    (hM : ∀ r, o = some r → MM K.1 y bytes maxL ret rf rl mc ms a.1 a.1 As h (some (.long r.1)) r.2) (d : decode cc pc = .ok (.invokestatic index, 3)) (hf : o.bind f = some out) (hst : S0 = As.reverse ++ S)
    (hr : rf + 1 ≤ R.frames ∧ 8 + (maxL + 11) + rl ≤ R.locals) (hc : a.2.1 + mc ≤ R.cells ∧ a.2.2 + ms ≤ R.slots) (hsum : (S.map fun v => v.category).sum ≤ 8) (kk : ∀ r, f r = some out → EE K (a.1, a.2.1 + mc, a.2.2 + ms) (pc + 3) L (.long r.1 :: S) r.2) : EE K a pc L S0 h := E_callS O As (fun r => (some (.long r.1), r.2)) w hM d hf hst hr hc hsum kk
theorem E_callV_lP {ρ : Type} (O : Ok K own cc nL R) {index ci b : Nat} {y : MethodName} {bytes : ByteArray} {maxL : Nat} {ret : Option FieldType} {rf rl mc ms : Nat} (As : List Value) {S0 : List Value} {o : Option (Int64)} {f : Int64 → Option ρ} {out : ρ} (w : CV own index y bytes maxL ret As.length) (hci : (vwCl[ci]?).map (fun r => r.1) = some y.cls)
    (hM : ∀ r, o = some r → MM K.1 y bytes maxL ret rf rl mc ms a.1 a.1 (.ref b :: As) h (some (.long r)) h) (d : decode cc pc = .ok (.invokevirtual index, 3)) (hf : (vcall h ci b o).bind f = some out) (hst : S0 = As.reverse ++ .ref b :: S)
    (hr : rf + 1 ≤ R.frames ∧ 8 + (maxL + 11) + rl ≤ R.locals) (hc : a.2.1 + mc ≤ R.cells ∧ a.2.2 + ms ≤ R.slots) (hsum : (S.map fun v => v.category).sum ≤ 8) (kk : ∀ r, f r = some out → EE K (a.1, a.2.1 + mc, a.2.2 + ms) (pc + 3) L (.long r :: S) h) : EE K a pc L S0 h := E_callV O As (fun r => (some (.long r), h)) w hci hM d hf hst hr hc hsum kk
theorem E_callS_lP {ρ : Type} (O : Ok K own cc nL R) {index : Nat} {y : MethodName} {bytes : ByteArray} {maxL : Nat} {ret : Option FieldType} {rf rl mc ms : Nat} (As : List Value) {S0 : List Value} {o : Option (Int64)} {f : Int64 → Option ρ} {out : ρ} (w : CS own index y bytes maxL ret As.length)
    (hM : ∀ r, o = some r → MM K.1 y bytes maxL ret rf rl mc ms a.1 a.1 As h (some (.long r)) h) (d : decode cc pc = .ok (.invokestatic index, 3)) (hf : o.bind f = some out) (hst : S0 = As.reverse ++ S)
    (hr : rf + 1 ≤ R.frames ∧ 8 + (maxL + 11) + rl ≤ R.locals) (hc : a.2.1 + mc ≤ R.cells ∧ a.2.2 + ms ≤ R.slots) (hsum : (S.map fun v => v.category).sum ≤ 8) (kk : ∀ r, f r = some out → EE K (a.1, a.2.1 + mc, a.2.2 + ms) (pc + 3) L (.long r :: S) h) : EE K a pc L S0 h := E_callS O As (fun r => (some (.long r), h)) w hM d hf hst hr hc hsum kk
theorem E_callV_d {ρ : Type} (O : Ok K own cc nL R) {index ci b : Nat} {y : MethodName} {bytes : ByteArray} {maxL : Nat} {ret : Option FieldType} {rf rl mc ms : Nat} (As : List Value) {S0 : List Value} {o : Option (UInt64 × MH)} {f : UInt64 × MH → Option ρ} {out : ρ} (w : CV own index y bytes maxL ret As.length) (hci : (vwCl[ci]?).map (fun r => r.1) = some y.cls)
    (hM : ∀ r, o = some r → MM K.1 y bytes maxL ret rf rl mc ms a.1 a.1 (.ref b :: As) h (some (.double r.1)) r.2) (d : decode cc pc = .ok (.invokevirtual index, 3)) (hf : (vcall h ci b o).bind f = some out) (hst : S0 = As.reverse ++ .ref b :: S)
    (hr : rf + 1 ≤ R.frames ∧ 8 + (maxL + 11) + rl ≤ R.locals) (hc : a.2.1 + mc ≤ R.cells ∧ a.2.2 + ms ≤ R.slots) (hsum : (S.map fun v => v.category).sum ≤ 8) (kk : ∀ r, f r = some out → EE K (a.1, a.2.1 + mc, a.2.2 + ms) (pc + 3) L (.double r.1 :: S) r.2) : EE K a pc L S0 h := E_callV O As (fun r => (some (.double r.1), r.2)) w hci hM d hf hst hr hc hsum kk
theorem E_callS_d {ρ : Type} (O : Ok K own cc nL R) {index : Nat} {y : MethodName} {bytes : ByteArray} {maxL : Nat} {ret : Option FieldType} {rf rl mc ms : Nat} (As : List Value) {S0 : List Value} {o : Option (UInt64 × MH)} {f : UInt64 × MH → Option ρ} {out : ρ} (w : CS own index y bytes maxL ret As.length)
    (hM : ∀ r, o = some r → MM K.1 y bytes maxL ret rf rl mc ms a.1 a.1 As h (some (.double r.1)) r.2) (d : decode cc pc = .ok (.invokestatic index, 3)) (hf : o.bind f = some out) (hst : S0 = As.reverse ++ S)
    (hr : rf + 1 ≤ R.frames ∧ 8 + (maxL + 11) + rl ≤ R.locals) (hc : a.2.1 + mc ≤ R.cells ∧ a.2.2 + ms ≤ R.slots) (hsum : (S.map fun v => v.category).sum ≤ 8) (kk : ∀ r, f r = some out → EE K (a.1, a.2.1 + mc, a.2.2 + ms) (pc + 3) L (.double r.1 :: S) r.2) : EE K a pc L S0 h := E_callS O As (fun r => (some (.double r.1), r.2)) w hM d hf hst hr hc hsum kk
theorem E_callV_dP {ρ : Type} (O : Ok K own cc nL R) {index ci b : Nat} {y : MethodName} {bytes : ByteArray} {maxL : Nat} {ret : Option FieldType} {rf rl mc ms : Nat} (As : List Value) {S0 : List Value} {o : Option (UInt64)} {f : UInt64 → Option ρ} {out : ρ} (w : CV own index y bytes maxL ret As.length) (hci : (vwCl[ci]?).map (fun r => r.1) = some y.cls)
    (hM : ∀ r, o = some r → MM K.1 y bytes maxL ret rf rl mc ms a.1 a.1 (.ref b :: As) h (some (.double r)) h) (d : decode cc pc = .ok (.invokevirtual index, 3)) (hf : (vcall h ci b o).bind f = some out) (hst : S0 = As.reverse ++ .ref b :: S)
    (hr : rf + 1 ≤ R.frames ∧ 8 + (maxL + 11) + rl ≤ R.locals) (hc : a.2.1 + mc ≤ R.cells ∧ a.2.2 + ms ≤ R.slots) (hsum : (S.map fun v => v.category).sum ≤ 8) (kk : ∀ r, f r = some out → EE K (a.1, a.2.1 + mc, a.2.2 + ms) (pc + 3) L (.double r :: S) h) : EE K a pc L S0 h := E_callV O As (fun r => (some (.double r), h)) w hci hM d hf hst hr hc hsum kk
theorem E_callS_dP {ρ : Type} (O : Ok K own cc nL R) {index : Nat} {y : MethodName} {bytes : ByteArray} {maxL : Nat} {ret : Option FieldType} {rf rl mc ms : Nat} (As : List Value) {S0 : List Value} {o : Option (UInt64)} {f : UInt64 → Option ρ} {out : ρ} (w : CS own index y bytes maxL ret As.length)
    (hM : ∀ r, o = some r → MM K.1 y bytes maxL ret rf rl mc ms a.1 a.1 As h (some (.double r)) h) (d : decode cc pc = .ok (.invokestatic index, 3)) (hf : o.bind f = some out) (hst : S0 = As.reverse ++ S)
    (hr : rf + 1 ≤ R.frames ∧ 8 + (maxL + 11) + rl ≤ R.locals) (hc : a.2.1 + mc ≤ R.cells ∧ a.2.2 + ms ≤ R.slots) (hsum : (S.map fun v => v.category).sum ≤ 8) (kk : ∀ r, f r = some out → EE K (a.1, a.2.1 + mc, a.2.2 + ms) (pc + 3) L (.double r :: S) h) : EE K a pc L S0 h := E_callS O As (fun r => (some (.double r), h)) w hM d hf hst hr hc hsum kk
theorem E_callV_v {ρ : Type} (O : Ok K own cc nL R) {index ci b : Nat} {y : MethodName} {bytes : ByteArray} {maxL : Nat} {ret : Option FieldType} {rf rl mc ms : Nat} (As : List Value) {S0 : List Value} {o : Option MH} {f : MH → Option ρ} {out : ρ} (w : CV own index y bytes maxL ret As.length) (hci : (vwCl[ci]?).map (fun r => r.1) = some y.cls)
    (hM : ∀ r, o = some r → MM K.1 y bytes maxL ret rf rl mc ms a.1 a.1 (.ref b :: As) h none r) (d : decode cc pc = .ok (.invokevirtual index, 3)) (hf : (vcall h ci b o).bind f = some out) (hst : S0 = As.reverse ++ .ref b :: S)
    (hr : rf + 1 ≤ R.frames ∧ 8 + (maxL + 11) + rl ≤ R.locals) (hc : a.2.1 + mc ≤ R.cells ∧ a.2.2 + ms ≤ R.slots) (hsum : (S.map fun v => v.category).sum ≤ 8) (kk : ∀ r, f r = some out → EE K (a.1, a.2.1 + mc, a.2.2 + ms) (pc + 3) L S r) : EE K a pc L S0 h := E_callV O As (fun r => (none, r)) w hci hM d hf hst hr hc hsum kk
end
section
/-! what is made; static fields; the library's own -/
variable {K : Cx} {own : String} {cc : ByteArray} {nL : Nat} {R : Room} {a : Bool × Nat × Nat} {pc : Nat} {L : List (Option Value)} {S : List Value} {h : MH}
def nO (h : MH) (ci : Nat) (fs : List Value) : Option MH := if h.length < 1000 then some (h ++ [.inr (ci, fs)]) else none
def nA (h : MH) (t : Nat) (x : vp_A) : Option MH := if h.length < 1000 then some (h ++ [.inl (t, x)]) else none
theorem Rel.push {g : Gx} (h8 : ∀ i, i < 1000 → gad g i = gb g + i) {h : MH} {H H1 : Heap} {c : MC} (hR : Rel g true h H) (hl : h.length < 1000) (hc : va_at (gD g) vwCl (gad g h.length, mcl (gad g) (gcA g) c) H1) (z : H1.size = H.size + 1) (oq : ∀ q : Nat, q < H.size → H1[q]? = H[q]?) : Rel g true (h ++ [c]) H1 := by
  have hz := hR.2.2.1 rfl
  refine ⟨?_, by rw [z, hz, List.length_append]; simp; omega, fun _ => by rw [z, hz, List.length_append]; simp; omega, by rw [List.length_append]; simp; omega⟩
  rw [← mw_push]
  refine (hR.1.kept (fun k q hq => oq _ (hR.1 k q hq).lt)).app (fun k q hq => ?_)
  cases k with
  | zero =>
    simp only [List.getElem?_cons_zero, Option.some.injEq] at hq
    subst hq
    exact hc
  | succ k => simp at hq
theorem va_S.push {A : Nat → Prop} {H0 H H1 : Heap} {locs : List Loc} (hS : va_S A H0 H locs) (z : H1.size = H.size + 1) (oq : ∀ q : Nat, q < H.size → H1[q]? = H[q]?) : va_S A H0 H1 locs := ⟨Nat.le_trans hS.1 (by omega), fun x h1 h2 => (oq x (Nat.lt_of_lt_of_le h1 hS.1)).trans (hS.2.1 x h1 h2), hS.2.2⟩
def NW (own : String) (index ci : Nat) (fs : List Value) : Prop := ∃ (r : vw_C) (ty : Nat → FieldType), vwCl[ci]? = some r ∧ (∀ w ∈ u_ws r.1 r.2.1 r.2.2, w ∈ AW) ∧ (∀ k, k < r.2.2 → parseFieldDescriptor (r.2.1 k).2.2.1 = some (ty k)) ∧ Cond.classLink own index r.1 ∈ AW ∧ Cond.instantiable r.1 r.2.2 ∈ AW ∧ Cond.initialized r.1 ∈ AW ∧ (∀ j, j < r.2.2 → defaultValue (ty j) = vp_V fs j) ∧ (∀ ad : Nat → Nat, fs.map (mv ad) = fs) ∧ r.2.2 = fs.length
theorem E_new (O : Ok K own cc nL R) {index ci : Nat} {fs : List Value} {cs ss : Nat} {ρ : Type} {f : MH → Option ρ} {out : ρ} (F : NW own index ci fs) (d : decode cc pc = .ok (.new index, 3)) (hf : (nO h ci fs).bind f = some out) (hc : cs + 1 ≤ R.cells ∧ ss + fs.length ≤ R.slots) (kk : ∀ h', f h' = some out → EE K (true, cs + 1, ss + fs.length) (pc + 3) L (.ref h.length :: S) h') : EE K (true, cs, ss) pc L S h := by
  intro H ls locs hR hS hL
  obtain ⟨h', e1, e2⟩ := ob hf
  unfold nO at e1
  split at e1
  case isFalse => cases e1
  rename_i hl
  cases e1
  obtain ⟨⟨C, T, N⟩, ty, f1, f2, f3, f4, f5, f6, f7, f8, f9⟩ := F
  dsimp only at f2 f3 f4 f5 f6 f7 f9
  have hc : cs + 1 ≤ (kR K).cells ∧ ss + fs.length ≤ (kR K).slots := by rw [O.2.2.2.2.2.2.1]; exact hc
  have hKn := O.k.1 ci _ f1
  subst f9
  refine W.newcK O.x O.b O.ow (O.ws _ f4) (O.ws _ f5) (O.ws _ f6) rfl d hc.1 hc.2 hKn.2.1 rfl fun H1 kC hkC e1 z1 o1 => ?_
  have h8 := O.bg.2.2.2.2.2.2.2.1
  have hz := hR.2.2.1 rfl
  have hsz : H.size = gad K.1 h.length := by rw [hz, h8 _ hl]
  have hat : va_at (gD K.1) vwCl (gad K.1 h.length, mcl (gad K.1) (gcA K.1) (.inr (ci, fs))) H1 := by
    rw [hsz] at e1
    refine ⟨_, f1, ?_⟩
    show t_OB _ _ _ _ _ (vp_V (fs.map (mv (gad K.1))))
    rw [f8]
    exact (u_born ty O.ws f2 hKn hkC e1 f3).to f7
  have hg := kk _ e2 H1 ls locs (hR.push h8 hl hat z1 o1) (va_S.push hS z1 o1) hL
  rw [show (F0 (km K) pc ls (S.map (mv (gad K.1)))).stack = S.map (mv (gad K.1)) from rfl, hsz]
  exact hg
theorem gcA_int (O : Ok K own cc nL R) {i : Nat} {cA : ClassId} {ty : FieldType} (hi : (gtys (gcA K.1))[i]? = some (gcA K.1 i, ty)) (hn : (ks K).vm.findClass ("[" ++ ty.toString) = some cA) : cA = gcA K.1 i := by
  have h2 := (O.k.2 i _ hi).2
  cases ty with
  | object C =>
    obtain ⟨kA, comp, h1, h2, h3, h4⟩ := h2
    exact Option.some.inj (hn.symm.trans h4)
  | _ => exact Option.some.inj (hn.symm.trans h2)
theorem E_newaI (O : Ok K own cc nL R) {n : Int32} {N cs ss : Nat} {ρ : Type} {f : MH → Option ρ} {out : ρ} (harr : Cond.arrayClass .int ∈ AW) (d : decode cc pc = .ok (.newarray .int, 2)) (hn : ¬ n < 0) (hN : n.toNatClampNeg = N) (hb : N ≤ 60000) (hf : (nA h 0 (N, .inl (fun _ => 0))).bind f = some out) (hc : cs + 1 ≤ R.cells ∧ ss + N ≤ R.slots) (kk : ∀ h', f h' = some out → EE K (true, cs + 1, ss + N) (pc + 2) L (.ref h.length :: S) h') : EE K (true, cs, ss) pc L (.int n :: S) h := by
  intro H ls locs hR hS hL
  obtain ⟨h', e1, e2⟩ := ob hf
  unfold nA at e1
  split at e1
  case isFalse => cases e1
  rename_i hl
  cases e1
  have hc : cs + 1 ≤ (kR K).cells ∧ ss + N ≤ (kR K).slots := by rw [O.2.2.2.2.2.2.1]; exact hc
  have h8 := O.bg.2.2.2.2.2.2.2.1
  have hz := hR.2.2.1 rfl
  have hsz : H.size = gad K.1 h.length := by rw [hz, h8 _ hl]
  refine va_newaK (atype := .int) O.x O.b (O.ws _ harr) rfl d rfl hn hN (by show N * _ ≤ _; simp only [newarray.typeOf, componentBytes]; omega) hc.1 hc.2 rfl fun H1 cA e1 z1 o1 hAr hNm => ?_
  have hcA : cA = gcA K.1 0 := gcA_int (ty := .int) O rfl hNm
  subst hcA
  have hat : va_at (gD K.1) vwCl (gad K.1 h.length, mcl (gad K.1) (gcA K.1) (.inl (0, (N, .inl (fun _ => 0))))) H1 := by
    rw [hsz] at e1
    exact e1
  have hg := kk _ e2 H1 ls locs (hR.push h8 hl hat z1 o1) (va_S.push hS z1 o1) hL
  rw [hsz]
  exact hg
theorem E_newaL (O : Ok K own cc nL R) {n : Int32} {N cs ss : Nat} {ρ : Type} {f : MH → Option ρ} {out : ρ} (harr : Cond.arrayClass .long ∈ AW) (d : decode cc pc = .ok (.newarray .long, 2)) (hn : ¬ n < 0) (hN : n.toNatClampNeg = N) (hb : N ≤ 60000) (hf : (nA h 1 (N, .inr (.inl (fun _ => 0)))).bind f = some out) (hc : cs + 1 ≤ R.cells ∧ ss + N ≤ R.slots) (kk : ∀ h', f h' = some out → EE K (true, cs + 1, ss + N) (pc + 2) L (.ref h.length :: S) h') : EE K (true, cs, ss) pc L (.int n :: S) h := by
  intro H ls locs hR hS hL
  obtain ⟨h', e1, e2⟩ := ob hf
  unfold nA at e1
  split at e1
  case isFalse => cases e1
  rename_i hl
  cases e1
  have hc : cs + 1 ≤ (kR K).cells ∧ ss + N ≤ (kR K).slots := by rw [O.2.2.2.2.2.2.1]; exact hc
  have h8 := O.bg.2.2.2.2.2.2.2.1
  have hz := hR.2.2.1 rfl
  have hsz : H.size = gad K.1 h.length := by rw [hz, h8 _ hl]
  refine va_newaK (atype := .long) O.x O.b (O.ws _ harr) rfl d rfl hn hN (by show N * _ ≤ _; simp only [newarray.typeOf, componentBytes]; omega) hc.1 hc.2 rfl fun H1 cA e1 z1 o1 hAr hNm => ?_
  have hcA : cA = gcA K.1 1 := gcA_int (ty := .long) O rfl hNm
  subst hcA
  have hat : va_at (gD K.1) vwCl (gad K.1 h.length, mcl (gad K.1) (gcA K.1) (.inl (1, (N, .inr (.inl (fun _ => 0)))))) H1 := by
    rw [hsz] at e1
    exact e1
  have hg := kk _ e2 H1 ls locs (hR.push h8 hl hat z1 o1) (va_S.push hS z1 o1) hL
  rw [hsz]
  exact hg
theorem E_newaR (O : Ok K own cc nL R) {index : Nat} {n : Int32} {N cs ss : Nat} {ρ : Type} {f : MH → Option ρ} {out : ρ} (hcl : Cond.classLink own index "RailSequence$Plant" ∈ AW) (d : decode cc pc = .ok (.anewarray index, 3)) (hn : ¬ n < 0) (hN : n.toNatClampNeg = N) (hb : N ≤ 60000) (hf : (nA h 2 (N, .inr (.inr (.inr (.inr (fun _ => none)))))).bind f = some out) (hc : cs + 1 ≤ R.cells ∧ ss + N ≤ R.slots) (kk : ∀ h', f h' = some out → EE K (true, cs + 1, ss + N) (pc + 3) L (.ref h.length :: S) h') : EE K (true, cs, ss) pc L (.int n :: S) h := by
  intro H ls locs hR hS hL
  obtain ⟨h', e1, e2⟩ := ob hf
  unfold nA at e1
  split at e1
  case isFalse => cases e1
  rename_i hl
  cases e1
  have hc : cs + 1 ≤ (kR K).cells ∧ ss + N ≤ (kR K).slots := by rw [O.2.2.2.2.2.2.1]; exact hc
  have h8 := O.bg.2.2.2.2.2.2.2.1
  have hz := hR.2.2.1 rfl
  have hsz : H.size = gad K.1 h.length := by rw [hz, h8 _ hl]
  subst hN
  refine W.anew O.x O.b O.ow (O.ws _ hcl) (va_AO.use O.bg.2.2.2.2.2.2.2.2.2.2.2.2) rfl d rfl hn (by omega) hc.1 hc.2 fun cA kA comp f1 f2 f3 f4 => ?_
  have hcA : cA = gcA K.1 2 := gcA_int (ty := .object "RailSequence$Plant") O rfl f1
  subst hcA
  generalize hH1 : H.push ({ cls := gcA K.1 2, slots := Array.replicate n.toNatClampNeg .null, vm := .none } : Cell) = H1
  have z1 : H1.size = H.size + 1 := by rw [← hH1, Array.size_push]
  have e1 : H1[H.size]? = some (arrV (gcA K.1 2) n.toNatClampNeg (fun _ => .null)) := by rw [← hH1, Array.getElem?_push_size, ← arrV_new]
  have o1 : ∀ q : Nat, q < H.size → H1[q]? = H[q]? := fun q hq => by rw [← hH1, Array.getElem?_push, if_neg (Nat.ne_of_lt hq)]
  have hat : va_at (gD K.1) vwCl (gad K.1 h.length, mcl (gad K.1) (gcA K.1) (.inl (2, (n.toNatClampNeg, .inr (.inr (.inr (.inr (fun _ => none)))))))) H1 := by
    rw [hsz] at e1
    exact e1
  have hg := kk _ e2 H1 ls locs (hR.push h8 hl hat z1 o1) (va_S.push hS z1 o1) hL
  rw [hsz]
  exact hg
theorem E_objInit (O : Ok K own cc nL R) {idx b : Nat} (hlink : Cond.methodLink own idx Lib.objectInit ∈ AW) (hinst : Cond.instanceMethod Lib.objectInit ∈ AW) (hcode : Cond.code Lib.objectInit ⟨#[0xb1]⟩ 1 none ∈ AW) (hfr : 1 ≤ R.frames) (hlo : (S.map fun v => v.category).sum + 12 ≤ R.locals) (d : decode cc pc = .ok (.invokespecial idx, 3)) (kk : EE K a (pc + 3) L S h) : EE K a pc L (.ref b :: S) h := by
  intro H ls locs hR hS hL
  have hRR : kR K = R := O.2.2.2.2.2.2.1
  have hcat : ((S.map (mv (gad K.1))).map fun v => v.category).sum = (S.map fun v => v.category).sum := by
    rw [List.map_map]
    congr 1
    exact List.map_congr_left (fun v _ => mv_cat v)
  rw [← hRR] at hfr hlo
  exact W.objInit O.x O.b O.ow (O.ws _ hlink) (O.ws _ hinst) (O.ws _ hcode) rfl (hL.1) rfl d hfr (by show 2 * 0 + _ + 12 ≤ (kR K).locals; rw [hcat]; omega) (kk H ls locs hR hS hL)
/-- a constructor's call -/
theorem E_callI {ρ : Type} (O : Ok K own cc nL R) {index b : Nat} {y : MethodName} {bytes : ByteArray} {maxL : Nat} {rf rl mc ms : Nat} {fr' : Bool} {o : Option MH} {f : MH → Option ρ} {out : ρ} (w : CB own index y bytes maxL none 0) (hy1 : y.name = "<init>") (hin : Cond.instanceMethod y ∈ AW)
    (hM : ∀ r, o = some r → MM K.1 y bytes maxL none rf rl mc ms a.1 fr' [.ref b] h none r) (d : decode cc pc = .ok (.invokespecial index, 3)) (hf : o.bind f = some out)
    (hr : rf + 1 ≤ R.frames ∧ 8 + (maxL + 11) + rl ≤ R.locals) (hc : a.2.1 + mc ≤ R.cells ∧ a.2.2 + ms ≤ R.slots) (hsum : (S.map fun v => v.category).sum ≤ 8) (kk : ∀ r, f r = some out → EE K (fr', a.2.1 + mc, a.2.2 + ms) (pc + 3) L S r) : EE K a pc L (.ref b :: S) h := by
  intro H ls locs hR hS hL
  obtain ⟨r, e3, e2⟩ := ob hf
  have hc : a.2.1 + mc ≤ (kR K).cells ∧ a.2.2 + ms ≤ (kR K).slots := by rw [O.2.2.2.2.2.2.1]; exact hc
  have hrun := va_runI (e := K.2.1.2.1) (below := K.2.2.1.2.2.1) (meth := kmeth K) (As := []) (rest := S.map (mv (gad K.1))) (locs := locs) (cells := a.2.1) (slots := a.2.2) ⟨O.x, O.b, O.2.2.1, O.ow, O.ws⟩ (hM r e3) ⟨CB.use O w hr, hy1, O.ws _ hin⟩ ⟨Pm_blind, Pm_at O hR hS⟩ (g := F0 (km K) pc ls ((.ref b :: S).map (mv (gad K.1)))) rfl rfl (by show ls.size = _; rw [hL.1, O.2.2.1]) rfl (S_room hsum) d hc
  exact E_back hS hL hrun (kk r e2)
/-- a nest mate's constructor -/
def CN (own : String) (index : Nat) (y : MethodName) (host : String) (bytes : ByteArray) (maxL : Nat) : Prop :=
  Cond.methodLinkNest own index y host ∈ XW ∧ Cond.code y bytes maxL none ∈ AW ∧ Cond.initialized y.cls ∈ AW ∧ Cond.instanceMethod y ∈ AW ∧ y.name = "<init>" ∧ (y.cls ≠ "java/lang/invoke/MethodHandle" ∧ y.cls ≠ "java/lang/invoke/VarHandle" ∧ (parseMethodDescriptor y.desc).map (fun d => d.parameters.length) = some 0)
theorem E_callIN {ρ : Type} (O : Ok K own cc nL R) {index b : Nat} {y : MethodName} {host : String} {bytes : ByteArray} {maxL : Nat} {rf rl mc ms : Nat} {fr' : Bool} {o : Option MH} {f : MH → Option ρ} {out : ρ} (w : CN own index y host bytes maxL)
    (hM : ∀ r, o = some r → MM K.1 y bytes maxL none rf rl mc ms a.1 fr' [.ref b] h none r) (d : decode cc pc = .ok (.invokespecial index, 3)) (hf : o.bind f = some out)
    (hr : rf + 1 ≤ R.frames ∧ 8 + (maxL + 11) + rl ≤ R.locals) (hc : a.2.1 + mc ≤ R.cells ∧ a.2.2 + ms ≤ R.slots) (hsum : (S.map fun v => v.category).sum ≤ 8) (kk : ∀ r, f r = some out → EE K (fr', a.2.1 + mc, a.2.2 + ms) (pc + 3) L S r) : EE K a pc L (.ref b :: S) h := by
  intro H ls locs hR hS hL
  obtain ⟨r, e3, e2⟩ := ob hf
  have hc : a.2.1 + mc ≤ (kR K).cells ∧ a.2.2 + ms ≤ (kR K).slots := by rw [O.2.2.2.2.2.2.1]; exact hc
  have hnest := O.bg.2.2.2.2.2.2.2.2.2.2.1 _ w.1
  have hr' : (rmm rf rl mc ms).frames + 1 ≤ (kR K).frames ∧ 8 + (maxL + 11) + (rmm rf rl mc ms).locals ≤ (kR K).locals := by rw [O.2.2.2.2.2.2.1]; exact hr
  have hrun := va_runIN (e := K.2.1.2.1) (below := K.2.2.1.2.2.1) (meth := kmeth K) (As := []) (rest := S.map (mv (gad K.1))) (locs := locs) (cells := a.2.1) (slots := a.2.2) ⟨O.x, O.b, O.2.2.1, O.ow, O.ws⟩ (hM r e3) ⟨va_cnB 0 O.ws (AW_self w.2.1) rfl rfl rfl hnest (O.ws _ w.2.2.1) w.2.2.2.2.2 hr', w.2.2.2.2.1, O.ws _ w.2.2.2.1⟩ ⟨Pm_blind, Pm_at O hR hS⟩ (g := F0 (km K) pc ls ((.ref b :: S).map (mv (gad K.1)))) rfl rfl (by show ls.size = _; rw [hL.1, O.2.2.1]) rfl (S_room hsum) d hc
  exact E_back hS hL hrun (kk r e2)
theorem E_getsLEAST (O : Ok K own cc nL R) {index : Nat} (hw : Cond.fieldLink own index "RailSequence" "LEAST" "[I" ∈ AW) (d : decode cc pc = .ok (.getstatic index, 3)) (kk : EE K a (pc + 3) L (.ref (RO + 1) :: S) h) : EE K a pc L S h := by
  intro H ls locs hR hS hL
  exact va_gets O.x O.b O.bg.2.2.2.1 hS O.ow (O.ws _ hw) (fun _ z => z) d (kk H ls locs hR hS hL)
theorem E_getsLEASTN (O : Ok K own cc nL R) {index : Nat} (hw : Cond.fieldLinkNest own index "RailSequence" "LEAST" "[I" "RailSequence" ∈ XW) (d : decode cc pc = .ok (.getstatic index, 3)) (kk : EE K a (pc + 3) L (.ref (RO + 1) :: S) h) : EE K a pc L S h := by
  intro H ls locs hR hS hL
  have hn := va_Nw.use (A := kargs K) rfl (O.bg.2.2.2.2.2.2.2.2.2.2.1 _ hw)
  exact va_getsN O.x O.b O.bg.2.2.2.1 hS O.ow hn (fun _ z => z) d (kk H ls locs hR hS hL)
theorem E_getsMOST (O : Ok K own cc nL R) {index : Nat} (hw : Cond.fieldLink own index "RailSequence" "MOST" "[I" ∈ AW) (d : decode cc pc = .ok (.getstatic index, 3)) (kk : EE K a (pc + 3) L (.ref (RO + 2) :: S) h) : EE K a pc L S h := by
  intro H ls locs hR hS hL
  exact va_gets O.x O.b O.bg.2.2.2.2.1 hS O.ow (O.ws _ hw) (fun _ z => z) d (kk H ls locs hR hS hL)
theorem E_getsMOSTN (O : Ok K own cc nL R) {index : Nat} (hw : Cond.fieldLinkNest own index "RailSequence" "MOST" "[I" "RailSequence" ∈ XW) (d : decode cc pc = .ok (.getstatic index, 3)) (kk : EE K a (pc + 3) L (.ref (RO + 2) :: S) h) : EE K a pc L S h := by
  intro H ls locs hR hS hL
  have hn := va_Nw.use (A := kargs K) rfl (O.bg.2.2.2.2.2.2.2.2.2.2.1 _ hw)
  exact va_getsN O.x O.b O.bg.2.2.2.2.1 hS O.ow hn (fun _ z => z) d (kk H ls locs hR hS hL)
def mmax (x y : Int32) : Int32 := if x < y then y else x
theorem E_max (O : Ok K own cc nL R) {index : Nat} {x y : Int32} (hlink : Cond.methodLink own index Lib.Math.max.name ∈ AW) (hstat : Cond.static Lib.Math.max.name ∈ AW) (hini : Cond.initialized "java/lang/Math" ∈ AW) (hcode : Cond.code Lib.Math.max.name Lib.Math.max.code 2 (some .int) ∈ AW) (hfr : 1 ≤ R.frames) (hlo : (S.map fun v => v.category).sum + 13 ≤ R.locals) (hc : a.2.1 ≤ R.cells ∧ a.2.2 ≤ R.slots) (d : decode cc pc = .ok (.invokestatic index, 3)) (kk : EE K a (pc + 3) L (.int (mmax x y) :: S) h) : EE K a pc L (.int y :: .int x :: S) h := by
  intro H ls locs hR hS hL
  have hRR : kR K = R := O.2.2.2.2.2.2.1
  have hcat : ((S.map (mv (gad K.1))).map fun v => v.category).sum = (S.map fun v => v.category).sum := by
    rw [List.map_map]
    congr 1
    exact List.map_congr_left (fun v _ => mv_cat v)
  rw [← hRR] at hfr hlo hc
  exact va_mmax O.x O.b hL.1.symm O.ow (O.ws _ hlink) (O.ws _ hstat) (O.ws _ hini) (O.ws _ hcode) hfr (by rw [hcat]; exact hlo) hc.1 hc.2 d (kk H ls locs hR hS hL)
def mmin (x y : Int32) : Int32 := if y < x then y else x
theorem E_min (O : Ok K own cc nL R) {index : Nat} {x y : Int32} (hlink : Cond.methodLink own index Lib.Math.min.name ∈ AW) (hstat : Cond.static Lib.Math.min.name ∈ AW) (hini : Cond.initialized "java/lang/Math" ∈ AW) (hcode : Cond.code Lib.Math.min.name Lib.Math.min.code 2 (some .int) ∈ AW) (hfr : 1 ≤ R.frames) (hlo : (S.map fun v => v.category).sum + 13 ≤ R.locals) (hc : a.2.1 ≤ R.cells ∧ a.2.2 ≤ R.slots) (d : decode cc pc = .ok (.invokestatic index, 3)) (kk : EE K a (pc + 3) L (.int (mmin x y) :: S) h) : EE K a pc L (.int y :: .int x :: S) h := by
  intro H ls locs hR hS hL
  have hRR : kR K = R := O.2.2.2.2.2.2.1
  have hcat : ((S.map (mv (gad K.1))).map fun v => v.category).sum = (S.map fun v => v.category).sum := by
    rw [List.map_map]
    congr 1
    exact List.map_congr_left (fun v _ => mv_cat v)
  rw [← hRR] at hfr hlo hc
  exact va_mmin O.x O.b hL.1.symm O.ow (O.ws _ hlink) (O.ws _ hstat) (O.ws _ hini) (O.ws _ hcode) hfr (by rw [hcat]; exact hlo) hc.1 hc.2 d (kk H ls locs hR hS hL)
theorem E_d2rl (O : Ok K own cc nL R) {index : Nat} {x : UInt64} (hlink : Cond.methodLink own index ⟨"java/lang/Double", "doubleToRawLongBits", "(D)J"⟩ ∈ AW) (hnat : Cond.native ⟨"java/lang/Double", "doubleToRawLongBits", "(D)J"⟩ ∈ AW) (hstat : Cond.static ⟨"java/lang/Double", "doubleToRawLongBits", "(D)J"⟩ ∈ AW) (hini : Cond.initialized "java/lang/Double" ∈ AW) (hfr : 1 ≤ R.frames) (hlo : (S.map fun v => v.category).sum + 15 ≤ R.locals) (d : decode cc pc = .ok (.invokestatic index, 3)) (kk : EE K a (pc + 3) L (.long x.toInt64 :: S) h) : EE K a pc L (.double x :: S) h := by
  intro H ls locs hR hS hL
  have hRR : kR K = R := O.2.2.2.2.2.2.1
  have hcat : ((S.map (mv (gad K.1))).map fun v => v.category).sum = (S.map fun v => v.category).sum := by
    rw [List.map_map]
    congr 1
    exact List.map_congr_left (fun v _ => mv_cat v)
  rw [← hRR] at hfr hlo
  exact vn_d2l O.x O.b hL.1.symm O.ow (O.ws _ hlink) (O.ws _ hnat) (O.ws _ hstat) (O.ws _ hini) hfr (by rw [hcat]; exact hlo) d (kk H ls locs hR hS hL)
end
section
/-! methods that throw, methods that catch -/
variable {K : Cx} {own : String} {cc : ByteArray} {nL : Nat} {R : Room} {a : Bool × Nat × Nat} {pc : Nat} {L : List (Option Value)} {S : List Value} {h : MH}
def XE (k : Nat) : String := match k with
  | 0 => "java/lang/IllegalArgumentException"
  | 1 => "java/lang/IllegalStateException"
  | _ => "java/lang/IndexOutOfBoundsException"
abbrev XR : Type := (Nat × MH) ⊕ (Int32 × MH)
def QX (g : Gx) (r : XR) : Array Value → State → Outcome → State → Prop := fun _ st oc t => ∃ p, r = .inr p ∧ oc = .returned (some (.int p.1)) ∧ Rel g false p.2 t.heap ∧ va_F (gA g) st t
def CX (g : Gx) (r : XR) : String → State → State → Prop := fun E st t => ∃ p, r = .inl p ∧ E = XE p.1 ∧ Rel g false p.2 t.heap ∧ va_F (gA g) st t
def MX (g : Gx) (y : MethodName) (cc : ByteArray) (maxL : Nat) (ret : Option FieldType) (rf rl : Nat) (fr : Bool) (args : List Value) (h : MH) (r : XR) : Prop :=
  vx_Met (gl g) y (Cond.code y cc maxL ret :: AW) (rmm rf rl 1 6) (va_Pc (args.map (mv (gad g))) (Pm g fr h)) (QX g r) (CX g r) 1 6 (gA g)
def OutX (K : Cx) (ret : Option FieldType) (r : XR) : Prop :=
  K.2.2.2 = vx_MQ K.2.2.1.2.2.1 (QX K.1 r) (CX K.1 r) (kargs K) (ks K) (kR K).cells (kR K).slots (gA K.1) ∧ (kmeth K).sig.returnType = ret ∧ ∀ x ∈ (kc K).exceptionTable.toList, False
theorem MX_of {g : Gx} {y : MethodName} {cc : ByteArray} {maxL : Nat} {ret : Option FieldType} {rf rl : Nat} {fr : Bool} {args : List Value} {h : MH} {r : XR} {L : List (Option Value)} (hy : plainName y.cls = true) (hlen : (lg_sl args).length ≤ maxL) (hL : entL args maxL = L)
    (body : ∀ K : Cx, K.1 = g → Ok K y.cls cc maxL (rmm rf rl 1 6) → OutX K ret r → EE K (false, 0, 0) 0 L [] h) : MX g y cc maxL ret rf rl fr args h r := by
  refine vx_ofW (cc := cc) (maxL := maxL) (ret := ret) hy rfl ?_
  intro p e s m argv below meth c s₁ B hml htab hv
  obtain ⟨rfl, hRel, hBg⟩ := hv
  have hts := atoms_spec (ws := Cond.code y cc maxL ret :: AW) B.pre
  have hl := lv_entry (args.map (mv (gad g))) (n := maxL) (by rw [lg_sl_len]; exact hlen)
  rw [lg_entry_eq]
  subst hL
  refine body (g, (p, e, _, s), (m, _, below, meth, c), vx_MQ below (QX g r) (CX g r) _ s 1 6 (gA g)) rfl ⟨B.exec, B.bytes, hml, findClass_of_methodNamed B.named, fun w hw => hts w (List.mem_cons_of_mem _ hw), hBg, rfl, B.notSynchronized⟩ ⟨rfl, B.returns, htab⟩ s.heap _ [] (hRel.fr (fun q => by cases q)) va_S.rf ⟨?_, ?_, hl.2.1, fun i w hw => ?_⟩
  · rw [hml]; exact hl.1
  · rw [hml]; exact entL_len _ _ hlen
  · exact hl.2.2 _ (entL_in args maxL 0 i w hw)
theorem E_xret (O : Ok K own cc nL R) {x : Int32} {r : XR} (Z : OutX K (some .int) r) (hf : some (.inr (x, h)) = some r) (hc : a.2.1 ≤ R.cells ∧ a.2.2 ≤ R.slots) (d : decode cc pc = .ok (.ireturn, 1)) : EE K a pc L [.int x] h := by
  intro H ls locs hR hS hL
  cases hf
  have hc : a.2.1 ≤ (kR K).cells ∧ a.2.2 ≤ (kR K).slots := by rw [O.2.2.2.2.2.2.1]; exact hc
  unfold WW
  rw [Z.1]
  refine W.widen hc.1 hc.2 ?_
  refine vx_ret ?_
  exact W.iret O.x O.b Z.2.1 (fun t ht hW => ⟨_, rfl, rfl, by rw [ht]; exact hR.fr (fun q => by cases q), hS.F ht⟩) hS.2.2 d O.2.2.2.2.2.2.2
abbrev xNames : List String := ["java/lang/RuntimeException", "java/lang/Exception"]
def XT (own : String) (k ik ic : Nat) : Prop := Bundle.fit (XE k) = true ∧ Cond.classLink own ik (XE k) ∈ AW ∧ Cond.initialized (XE k) ∈ AW ∧ (∀ w ∈ vx_atS own ic (XE k) xNames, w ∈ AW ∨ w ∈ XW) ∧ ∀ w ∈ Cond.classLink own ik (XE k) :: Cond.initialized (XE k) :: vx_atS own ic (XE k) xNames, vx_ot w = true
theorem XW_use {w : Cond} (h : w ∈ XW) {A : Array Value} {U : State} (hZ : va_Nw w U) : w.before A U = true := by
  have h2 := (List.mem_filter.mp h).2
  cases w <;> first | exact va_Nw.use rfl hZ | (simp [XNest] at h2; done)
theorem E_throw (O : Ok K "RailSequence" cc nL R) {r : XR} {rt : Option FieldType} (Z : OutX K rt r) (k ik is ic : Nat) (text : String) (F : XT "RailSequence" k ik ic) (hs : (is, text) ∈ XS) (hf : some (.inl (k, h)) = some r)
    (d0 : decode cc pc = .ok (.new ik, 3)) (d3 : decode cc (pc + 3) = .ok (.dup, 1)) (d4 : decode cc (pc + 4) = .ok (.ldc is, 2)) (d6 : decode cc (pc + 6) = .ok (.invokespecial ic, 3)) (d9 : decode cc (pc + 9) = .ok (.athrow, 1))
    (hfr : 5 < R.frames) (hlo : 82 ≤ R.locals) (hc : a.2.1 + 1 ≤ R.cells ∧ a.2.2 + 6 ≤ R.slots) : EE K a pc L [] h := by
  intro H ls locs hR hS hL
  cases hf
  have hRR : kR K = R := O.2.2.2.2.2.2.1
  rw [← hRR] at hfr hlo hc
  obtain ⟨sa, hstr⟩ := O.bg.2.2.2.2.2.2.2.2.1 _ hs
  have hst : (gl K.1).stackTraces = false := O.bg.2.2.2.2.2.2.2.2.2.2.2.1
  unfold WW
  rw [Z.1]
  exact vx_throwS (names := xNames) (sa := sa) O.x O.b hst O.ow F.1 (by decide) (O.ws _ F.2.1) (O.ws _ F.2.2.1) hstr (fun w hw => (F.2.2.2.1 w hw).elim (O.ws w) (fun z => XW_use z (O.bg.2.2.2.2.2.2.2.2.2.2.1 w z))) F.2.2.2.2 O.bg.2.2.2.2.2.1 O.bg.2.2.2.2.2.2.1 hS hL.1 d0 d3 d4 d6 d9 (fun x hx => (Z.2.2 x hx).elim) hfr hlo hc.1 hc.2 O.2.2.2.2.2.2.2
    (fun t ht hz hk => ⟨_, rfl, rfl, ⟨hR.1.kept (fun k q hq => hk _ (hR.1 k q hq).lt), Nat.le_trans hR.2.1 hz, (fun q => by cases q), hR.2.2.2⟩, ⟨Nat.le_trans hS.1 hz, fun q h1 h2 => by rw [hk q (Nat.lt_of_lt_of_le h1 hS.1)]; exact hS.2.1 q h1 h2⟩⟩) hS.2.2 hc.1 hc.2
/-- a throw that has come to this place -/
def EX (K : Cx) (a : Bool × Nat × Nat) (pc : Nat) (L : List (Option Value)) (S : List Value) (k : Nat) (h : MH) : Prop :=
  ∀ (H : Heap) (ls : Array Slot) (locs : List Loc), Rel K.1 a.1 h H → va_S (gA K.1) (ks K).heap H locs → LR (gad K.1) (kc K).maxLocals L ls → ∀ (q : Addr) (ce : Cell), H[q]? = some ce → ce.vm = .none → (ks K).vm.findClass (XE k) = some ce.cls →
    vx_W K.2.1.1 (gl K.1) K.2.1.2.1 (kR K) (ks K) (km K) (kargs K) K.2.2.1.2.2.1 (kmeth K) (kc K) H locs a.2.1 a.2.2 K.2.2.2 (F0 (km K) pc ls (S.map (mv (gad K.1)))) q
theorem E_callVX {ρ : Type} (O : Ok K own cc nL R) {index ci b : Nat} {y : MethodName} {bytes : ByteArray} {maxL : Nat} {ret : Option FieldType} {rf rl : Nat} (As : List Value) {S0 : List Value} {o : Option XR} {fL : Nat × MH → Option ρ} {fR : Int32 × MH → Option ρ} {out : ρ} (w : CV own index y bytes maxL ret As.length) (hci : (vwCl[ci]?).map (fun r => r.1) = some y.cls)
    (hM : ∀ r, o = some r → MX K.1 y bytes maxL ret rf rl a.1 (.ref b :: As) h r) (d : decode cc pc = .ok (.invokevirtual index, 3)) (hf : (vcall h ci b o).bind (Sum.elim fL fR) = some out) (hst : S0 = As.reverse ++ .ref b :: S)
    (hr : rf + 1 ≤ R.frames ∧ 8 + (maxL + 11) + rl ≤ R.locals) (hc : a.2.1 + 1 ≤ R.cells ∧ a.2.2 + 6 ≤ R.slots) (hsum : (S.map fun v => v.category).sum ≤ 8) (kk : ∀ p, fR p = some out → EE K (false, a.2.1 + 1, a.2.2 + 6) (pc + 3) L (.int p.1 :: S) p.2) (kx : ∀ p, fL p = some out → EX K (false, a.2.1 + 1, a.2.2 + 6) pc L S p.1 p.2) : EE K a pc L S0 h := by
  intro H ls locs hR hS hL
  subst hst
  obtain ⟨r, e1, e2⟩ := ob hf
  obtain ⟨e1, e3⟩ := vcall_of e1
  obtain ⟨fs, g1⟩ := isO_of e1
  obtain ⟨q, hq1, hq2⟩ := Option.map_eq_some_iff.mp hci
  have hc : a.2.1 + 1 ≤ (kR K).cells ∧ a.2.2 + 6 ≤ (kR K).slots := by rw [O.2.2.2.2.2.2.1]; exact hc
  have hrecv := va_recv O.k hR.1 hq1 (mw_get g1)
  rw [hq2] at hrecv
  have hrun := vx_runV (e := K.2.1.2.1) (below := K.2.2.1.2.2.1) (meth := kmeth K) (As := As.map (mv (gad K.1))) (rest := S.map (mv (gad K.1))) (locs := locs) (cells := a.2.1) (slots := a.2.2) ⟨O.x, O.b, O.2.2.1, O.ow, O.ws⟩ (hM r e3) ⟨CB.use O w.1 hr, O.ws _ w.2.1, O.ws _ w.2.2⟩ ⟨Pm_blind, hrecv, Pm_at O hR hS⟩ (g := F0 (km K) pc ls ((As.reverse ++ .ref b :: S).map (mv (gad K.1)))) rfl (by simp) (by show ls.size = _; rw [hL.1, O.2.2.1]) (by show List.map _ _ = _; simp [mv]) (S_room hsum) d hc
  intro T hT X
  rcases hrun T hT X with ⟨v', st₀, t, T', L', h0, X', hL', e4, e5, ⟨p, hp, hv, hRel, hF⟩, st⟩ | ⟨q, st₀, t, T', L', E, ce, h0, X', hL', e4, e5, ⟨p, hp, hE, hRel, hF⟩, hce, hcv, hcl, st⟩
  · cases hv
    subst hp
    obtain ⟨k1, k2, k3⟩ := vx_keep h0 e4 hS (fun _ _ z => z) (fun _ z => z) hL' hF
    obtain ⟨t2, a1, b1⟩ := kk p e2 T'.heap ls _ (by rw [e4]; exact hRel) k3 hL T' rfl X'
    exact ⟨t2, st t2 a1, b1⟩
  · subst hp
    subst hE
    obtain ⟨k1, k2, k3⟩ := vx_keep h0 e4 hS (fun _ _ z => z) (fun _ z => z) hL' hF
    obtain ⟨t2, a1, b1⟩ := kx p e2 T'.heap ls _ (by rw [e4]; exact hRel) k3 hL q ce (by rw [e4]; exact hce) hcv hcl T' rfl X'
    exact ⟨t2, st.trans a1, b1⟩
theorem LR.setn {ad : Nat → Nat} {nL : Nat} {L : List (Option Value)} {ls ls' : Array Slot} {i : Nat} {v : Value} (h : LR ad nL L ls) (hp : pok L i = true)
    (h' : lv_has ls' nL ((i, v) :: (lvl ad L).filter (fun q => !(q.1 == i) && !(q.1 + 1 == i && q.2.category == 2)))) : LR ad nL (L.set i none) ls' := by
  refine ⟨h'.1, by rw [List.length_set]; exact h.2.1, h'.2.1, fun j w hj => ?_⟩
  rw [List.getElem?_set] at hj
  by_cases hij : i = j
  · rw [if_pos hij] at hj
    split at hj <;> cases hj
  · rw [if_neg hij] at hj
    refine h'.2.2 (j, mv ad w) (List.mem_cons_of_mem _ (List.mem_filter.mpr ⟨lvl_in hj, ?_⟩))
    simp only [Bool.and_eq_true, Bool.not_eq_true', beq_eq_false_iff_ne, ne_eq, Bool.and_eq_false_iff]
    refine ⟨fun z => hij z.symm, ?_⟩
    by_cases hj1 : j + 1 = i
    · right
      subst hj1
      simp only [pok, hj] at hp
      rw [mv_cat]
      simpa using hp
    · exact Or.inl hj1
/-- caught: the handler's first instruction lays the exception into a place that nobody reads -/
theorem E_catch (O : Ok K own cc nL R) {hh : List (Nat × Nat × Nat × Nat)} (hT : (kc K).exceptionTable.toList = tableOf hh) {k i len hp ct : Nat} {name : String} (pre : List (Nat × Nat × Nat × Nat)) (x : Nat × Nat × Nat × Nat) (suf : List (Nat × Nat × Nat × Nat)) (L' : List (Option Value)) (hsplit : hh = pre ++ x :: suf)
    (hpass : ∀ z ∈ pre, z.2.2.2 ≠ 0 ∧ ∃ nm : String, Cond.classLink own z.2.2.2 nm ∈ AW ∧ (XE k, nm) ∈ XN) (hx : covers ⟨x.1, x.2.1, x.2.2.1, x.2.2.2⟩ pc = true) (h0 : x.2.2.2 ≠ 0) (hlink : Cond.classLink own x.2.2.2 name ∈ AW) (hname : XE k = name) (hcast : Cond.castable name name ∈ XW)
    (hn : i < nL) (hpk : pok L i = true) (hl : L.set i none = L') (d : decode cc x.2.2.1 = .ok (.astore i, 2) ∧ len = 2 ∨ (∃ kf : Fin 4, (kf : Nat) = i ∧ decode cc x.2.2.1 = .ok (.astore_n kf, 1)) ∧ len = 1) (kk : EE K a (x.2.2.1 + len) L' [] h) : EX K a pc L S k h := by
  intro H ls locs hR hS hL q ce hce hcv hcl
  subst hl; subst hname; subst hsplit
  have hn' : i < (kc K).maxLocals := by rw [O.2.2.1]; exact hn
  refine vx_catch (own := own) (name := XE k) (E := XE k) O.ow (tableOf pre) ⟨x.1, x.2.1, x.2.2.1, x.2.2.2⟩ (tableOf suf) (by rw [hT]; simp [tableOf]) (fun z hz => ?_) hx h0 (O.ws _ hlink) (XW_use hcast (O.bg.2.2.2.2.2.2.2.2.2.2.1 _ hcast)) hce hcv hcl ?_
  · obtain ⟨z', hz', rfl⟩ := List.mem_map.mp hz
    obtain ⟨g1, nm, g2, g3⟩ := hpass z' hz'
    exact Or.inr ⟨g1, nm, O.ws _ g2, O.bg.2.2.2.2.2.2.2.2.2.1 _ g3⟩
  · rcases d with ⟨d, rfl⟩ | ⟨⟨kf, hk, d⟩, rfl⟩
    · exact lv_astore O.x O.b d hL.has hn' rfl (fun ls' h' => kk H ls' locs hR hS (hL.setn hpk h'))
    · exact lv_astore_n O.x O.b d hk hL.has hn' rfl (fun ls' h' => kk H ls' locs hR hS (hL.setn hpk h'))
/-- a helper of the law: it has a table, it returns -/
def MH_ (g : Gx) (y : MethodName) (cc : ByteArray) (maxL : Nat) (ret : Option FieldType) (hh : List (Nat × Nat × Nat × Nat)) (rf rl : Nat) (fr : Bool) (args : List Value) (h : MH) (v : Option Value) (h' : MH) : Prop :=
  Met (gl g) y (Cond.codeWith y cc maxL ret hh :: AW) (rmm rf rl 1 6) (va_Pc (args.map (mv (gad g))) (Pm g fr h)) (Qm g false v h') 1 6 (gA g)
theorem MH_of {g : Gx} {y : MethodName} {cc : ByteArray} {maxL : Nat} {ret : Option FieldType} {hh : List (Nat × Nat × Nat × Nat)} {rf rl : Nat} {fr : Bool} {args : List Value} {h : MH} {v : Option Value} {h' : MH} {L : List (Option Value)} (hy : plainName y.cls = true) (hlen : (lg_sl args).length ≤ maxL) (hL : entL args maxL = L)
    (body : ∀ K : Cx, K.1 = g → Ok K y.cls cc maxL (rmm rf rl 1 6) → Out K ret false v h' → (kc K).exceptionTable.toList = tableOf hh → EE K (false, 0, 0) 0 L [] h) : MH_ g y cc maxL ret hh rf rl fr args h v h' := by
  unfold MH_ Met
  refine MetFree.of_bodyS (code := cc) (maxLocals := maxL) (ret := ret) hy ?_ ?_
  · intro args s m h hn
    obtain ⟨m9, meth, c, hn9, h1, h2, h3, h4, -, h5, h6, -⟩ := Cond.codeWith_spec (atoms_spec (ws := Cond.codeWith y cc maxL ret hh :: AW) h _ List.mem_cons_self)
    cases hn.symm.trans hn9
    exact ⟨meth, c, h1, h2, h3, h4, h5, h6⟩
  · intro p e s m argv below meth c s₁ B hml hP _
    have hh0 : s₁.heap = s.heap := by rw [B.state]; rfl
    have hts := atoms_spec (ws := Cond.codeWith y cc maxL ret hh :: AW) B.pre
    have htab := vx_table (x := y) B (hts _ List.mem_cons_self)
    obtain ⟨rfl, hRel, hBg⟩ := hP
    have hl := lv_entry (args.map (mv (gad g))) (n := maxL) (by rw [lg_sl_len]; exact hlen)
    subst hL
    have hw : WW (g, (p, e, rmm rf rl 1 6, s), (m, (args.map (mv (gad g))).toArray, below, meth, c), MQ below (Qm g false v h') (args.map (mv (gad g))).toArray s 1 6 (gA g)) s.heap [] 0 0 (F0 m 0 ((lg_sl (args.map (mv (gad g))) ++ List.replicate (maxL - (lg_sl (args.map (mv (gad g)))).length) Slot.unset).toArray) []) := by
      refine body (g, (p, e, rmm rf rl 1 6, s), (m, (args.map (mv (gad g))).toArray, below, meth, c), MQ below (Qm g false v h') (args.map (mv (gad g))).toArray s 1 6 (gA g)) rfl ⟨B.exec, B.bytes, hml, findClass_of_methodNamed B.named, fun w hw => hts w (List.mem_cons_of_mem _ hw), hBg, rfl, B.notSynchronized⟩ ⟨rfl, B.returns⟩ htab s.heap _ [] (hRel.fr (fun q => by cases q)) va_S.rf ⟨?_, ?_, hl.2.1, fun i w hw => ?_⟩
      · rw [hml]; exact hl.1
      · rw [hml]; exact entL_len _ _ hlen
      · exact hl.2.2 _ (entL_in args maxL 0 i w hw)
    rw [← lg_entry_eq] at hw
    obtain ⟨t, a1, o, b1, b2, b3⟩ := hw s₁ hh0 (Stand.of_body B)
    exact ⟨t, o, a1, b1, b2, b3.1, b3.2⟩
def CW (own : String) (index : Nat) (y : MethodName) (bytes : ByteArray) (maxL : Nat) (ret : Option FieldType) (hh : List (Nat × Nat × Nat × Nat)) (n : Nat) : Prop :=
  Cond.methodLink own index y ∈ AW ∧ Cond.codeWith y bytes maxL ret hh ∈ AW ∧ Cond.initialized y.cls ∈ AW ∧ Cond.static y ∈ AW ∧ (y.cls ≠ "java/lang/invoke/MethodHandle" ∧ y.cls ≠ "java/lang/invoke/VarHandle" ∧ (parseMethodDescriptor y.desc).map (fun d => d.parameters.length) = some n)
theorem E_callSW {ρ : Type} (O : Ok K own cc nL R) {index : Nat} {y : MethodName} {bytes : ByteArray} {maxL : Nat} {ret : Option FieldType} {hh : List (Nat × Nat × Nat × Nat)} {rf rl : Nat} (As : List Value) {S0 : List Value} {o : Option (Int32 × MH)} {f : Int32 × MH → Option ρ} {out : ρ} (w : CW own index y bytes maxL ret hh As.length)
    (hM : ∀ r, o = some r → MH_ K.1 y bytes maxL ret hh rf rl a.1 As h (some (.int r.1)) r.2) (d : decode cc pc = .ok (.invokestatic index, 3)) (hf : o.bind f = some out) (hst : S0 = As.reverse ++ S)
    (hr : rf + 1 ≤ R.frames ∧ 8 + (maxL + 11) + rl ≤ R.locals) (hc : a.2.1 + 1 ≤ R.cells ∧ a.2.2 + 6 ≤ R.slots) (hsum : (S.map fun v => v.category).sum ≤ 8) (kk : ∀ r, f r = some out → EE K (false, a.2.1 + 1, a.2.2 + 6) (pc + 3) L (.int r.1 :: S) r.2) : EE K a pc L S0 h := by
  intro H ls locs hR hS hL
  subst hst
  obtain ⟨r, e3, e2⟩ := ob hf
  have hc : a.2.1 + 1 ≤ (kR K).cells ∧ a.2.2 + 6 ≤ (kR K).slots := by rw [O.2.2.2.2.2.2.1]; exact hc
  have hr' : (rmm rf rl 1 6).frames + 1 ≤ (kR K).frames ∧ 8 + (maxL + 11) + (rmm rf rl 1 6).locals ≤ (kR K).locals := by rw [O.2.2.2.2.2.2.1]; exact hr
  obtain ⟨w1, w2, w3, w4, w5⟩ := w
  have hG : GoodIn AW (Cond.codeWith y bytes maxL ret hh :: AW) := by
    intro w hw
    rcases List.mem_cons.mp hw with rfl | hw
    · exact ⟨w2, good_of_word (List.mem_filter.mp w2).2⟩
    · exact ⟨hw, good_of_word (List.mem_filter.mp hw).2⟩
  have hcsw : vx_CSW (kR K) (ks K) (kargs K) own index y bytes maxL ret hh (Cond.codeWith y bytes maxL ret hh :: AW) (rmm rf rl 1 6) 1 6 As.length := by
    refine ⟨⟨rfl, rfl, hr'.1, hr'.2, pay_in O.ws hG, List.mem_cons_self⟩, O.ws _ w2, O.ws _ w3, ⟨w5.1, w5.2.1⟩, fun sig h => ?_, O.ws _ w1, O.ws _ w4⟩
    have h2 := w5.2.2
    rw [h] at h2
    exact (Option.some.inj h2).symm
  have hrun := vx_runSW (e := K.2.1.2.1) (below := K.2.2.1.2.2.1) (meth := kmeth K) (As := As.map (mv (gad K.1))) (rest := S.map (mv (gad K.1))) (locs := locs) (cells := a.2.1) (slots := a.2.2) ⟨O.x, O.b, O.2.2.1, O.ow, O.ws⟩ (hM r e3) hcsw ⟨Pm_blind, Pm_at O hR hS⟩ (g := F0 (km K) pc ls ((As.reverse ++ S).map (mv (gad K.1)))) rfl (by simp) (by show ls.size = _; rw [hL.1, O.2.2.1]) (by show List.map _ _ = _; simp) (S_room hsum) d hc
  exact E_back (v := some (.int r.1)) hS hL hrun (kk r e2)
end
